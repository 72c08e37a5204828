/-! ===== the row with other spans ===== -/
section SPR
variable {g g' : Nat → Int}
theorem sp_cell (h3 : ∀ b, 96 ≤ b → g' b = g b) (k w : Nat) : mAt g' k w = mAt g k w := h3 _ (by omega)
theorem sp_ho (h1 : ∀ b, b < 24 → b ≠ 5 → g' b = g b) (h3 : ∀ b, 96 ≤ b → g' b = g b) {c j a : Nat} : hoC g' c j a ↔ hoC g c j a := by
  unfold hoC mHolds mHeldBits mArms
  simp only [sp_cell h3, h1 0 (by omega) (by omega), h1 1 (by omega) (by omega)]
theorem sp_row (hI : rowI g) (hr : gRange g') (h1 : ∀ b, b < 24 → b ≠ 5 → g' b = g b) (h3 : ∀ b, 96 ≤ b → g' b = g b) (h5 : 0 ≤ g' 5 ∧ g' 5 ≤ 1000000) (hs : ∀ s, s < 12 → spOk g' s) : rowI g' := by
  obtain ⟨⟨r1, r2, r3, r4, r5, r6, r7, r8, r9, r10, r11, r12, r13, r14⟩, hcol, hdis, hrun, hsta⟩ := hI
  have a0 := h1 0 (by omega) (by omega)
  have a1 := h1 1 (by omega) (by omega)
  have a6 := h1 6 (by omega) (by omega)
  refine ⟨⟨hr, by rw [a0]; exact r2, by rw [a1]; exact r3, by rw [h1 2 (by omega) (by omega)]; exact r4, by rw [h1 3 (by omega) (by omega)]; exact r5, by rw [h1 4 (by omega) (by omega)]; exact r6, h5, by rw [a6]; exact r8, by rw [h1 7 (by omega) (by omega)]; exact r9, fun a ha => by rw [h1 (8 + a) (by omega) (by omega)]; exact r10 a ha, fun a ha => by rw [h1 (16 + a) (by omega) (by omega)]; exact r11 a ha, fun j hj => ?_, hs, fun j hj h5 => ?_⟩, ?_, ?_, ?_, ?_⟩
  · rw [a1] at hj
    have := r12 j hj
    unfold jOk aOk mArms at *
    simp only [sp_cell h3, a0]
    exact this
  · rw [a1] at hj
    rw [sp_cell h3] at h5
    rw [a6]
    exact r14 j hj h5
  · intro j a hj ha
    rw [a1] at hj
    unfold mArms at ha
    rw [sp_cell h3] at ha
    rw [sp_cell h3, sp_cell h3]
    exact hcol j a hj ha
  · intro c j a j' a' q1 q2
    exact hdis c j a j' a' ((sp_ho h1 h3).mp q1) ((sp_ho h1 h3).mp q2)
  · intro j hj h5
    rw [a1] at hj
    rw [sp_cell h3] at h5
    obtain ⟨a, q1, q2⟩ := hrun j hj h5
    refine ⟨a, ?_, by rw [a0, sp_cell h3]; exact q2⟩
    unfold mArms at *
    rw [sp_cell h3]
    exact q1
  · unfold staTo at *
    simp only [sp_cell h3, a1, a6]
    exact hsta
theorem sp_rowP (hP : rowP g) (h1 : g' 1 = g 1) (h3 : ∀ b, 96 ≤ b → g' b = g b) : rowP g' := by
  obtain ⟨p2, p3, p4⟩ := hP
  refine ⟨?_, ?_, fun x hx hx2 => by rw [h3 x (by omega)]; exact p4 x hx hx2⟩
  · unfold arms4 at *
    simp only [sp_cell h3]
    exact p2
  · unfold promTo at *
    simp only [sp_cell h3, h1]
    exact p3
theorem sp_sc {G G' U : Nat → Nat → Int} {e s : Nat} {u : Nat → Int} (hI : rowI g) (h1 : ∀ b, b < 24 → b ≠ 5 → g' b = g b) (h3 : ∀ b, 96 ≤ b → g' b = g b) (hS : scR false 0 e G U s g u) (hG : ∀ x, s ≤ x → x < s + 39 → (x < s + 26 ∨ s + 31 < x) → G' x = G x) (hn : relS G' s g') : scR false 0 e G' U s g' u := by
  obtain ⟨⟨z0, hSB, hSJ, hSA, hSO, hSS, hST, hSe, hSK⟩, hSQ⟩ := hS
  obtain ⟨kF, kL, kE, kC⟩ := hSK rfl
  have hrow := hI.1
  have a1 := h1 1 (by omega) (by omega)
  have a4 : ∀ x, x < (g 1).toNat → mArms g x ≤ 4 := fun x hx => (jo_4 (row_j hrow hx)).2.1
  refine ⟨⟨by rw [hG _ (by omega) (by omega) (by omega)]; exact z0, relB_g (relB_r hSB (by rw [hG _ (by omega) (by omega) (by omega)]) (fun x _ _ => hG x (by omega) (by omega) (by omega)) rfl) (h1 0 (by omega) (by omega)) (fun b _ hb h5 _ _ => h1 b (by omega) h5) (fun _ _ => rfl), relJ_g (relJ_r hSJ fun x _ _ => hG x (by omega) (by omega) (by omega)) a1 a4 (fun j w _ _ _ _ => sp_cell h3 j w), relA_g (relA_r hSA fun x _ _ => hG x (by omega) (by omega) (by omega)) a1 (fun x hx => ⟨a4 x hx, sp_cell h3 x 4⟩) (fun j w _ _ _ => sp_cell h3 j w), relO_g (relO_r hSO (hG _ (by omega) (by omega) (by omega))) (fun c j a => sp_ho h1 h3), hn, relT_g (relT_r hST (by rw [hG _ (by omega) (by omega) (by omega)]) (hG _ (by omega) (by omega) (by omega))) (h1 6 (by omega) (by omega)) hrow.2.2.2.2.2.2.2.1.2 (fun b hb _ => h3 b (by omega)), by rw [hG _ (by omega) (by omega) (by omega)]; exact hSe, fun _ => ⟨relF_g (relF_r kF (hG _ (by omega) (by omega) (by omega))) a1 (fun x _ => sp_cell h3 x 8), kL, relE_g (relE_r kE fun x _ _ => hG x (by omega) (by omega) (by omega)) (h1 7 (by omega) (by omega)) (fun b hb _ => h3 b (by omega)), relC_g (relC_r kC (hG _ (by omega) (by omega) (by omega))) (fun b hb _ => h3 b (by omega))⟩⟩, relQ_g (relQ_r hSQ (hG _ (by omega) (by omega) (by omega)) (hG _ (by omega) (by omega) (by omega))) a1 (fun x hx => ⟨a4 x hx, sp_cell h3 x 4⟩) (fun j w _ _ => sp_cell h3 j w)⟩
end SPR
theorem span_all {c : Nat} {G G' U : Nat → Nat → Int} {g' : Nat → Int} (hg : allI c G U) (h180 : G' 180 = g') (hG : ∀ x, (x < 27 ∨ 32 < x) → x ≠ 180 → G' x = G x) (hr : gRange g') (h1 : ∀ b, b < 24 → b ≠ 5 → g' b = G 180 b) (h3 : ∀ b, 96 ≤ b → g' b = G 180 b) (h5 : 0 ≤ g' 5 ∧ g' 5 ≤ G 180 5 + 6) (h5b : g' 5 ≤ 1000000) (hs : ∀ s, s < 12 → spOk g' s) (hn : relS G' 1 g') : allI (c + 1) G' U := by
  obtain ⟨⟨e, he, hS, hI, hP, hnow, hub⟩, hside2, hq, htp, h193, h98⟩ := hg
  refine ⟨⟨e, ⟨by omega, by rw [h180]; omega⟩, by rw [h180]; exact sp_sc hI h1 h3 hS (fun x _ _ hx => hG x (by omega) (by omega)) hn, by rw [h180]; exact sp_row hI hr h1 h3 ⟨h5.1, h5b⟩ hs, by rw [h180]; exact sp_rowP hP (h1 1 (by omega) (by omega)) h3, by rw [h180, h1 0 (by omega) (by omega)]; exact hnow, by rw [h180, h1 0 (by omega) (by omega)]; exact hub⟩, sideI_fr hside2 (by omega) (fun x _ _ => hG x (by omega) (by omega)) (hG _ (by omega) (by omega)) rfl rfl rfl, quiet_fr hq (hG _ (by omega) (by omega)), tapesI_fr htp (hG _ (by omega) (by omega)) (hG _ (by omega) (by omega)) (hG _ (by omega) (by omega)) (hG _ (by omega) (by omega)), fun k => by rw [hG _ (by omega) (by omega)]; exact h193 k, aheadI_fr h98 (by omega) (by rw [hG _ (by omega) (by omega)]) (by rw [hG _ (by omega) (by omega)])⟩
/-! a span that is kept -/
theorem slot_lt {g : Nat → Int} (h : spansF g < 12) : slotF g < 12 := by
  rcases Nat.lt_or_ge (slotF g) 12 with c | c
  · exact c
  · exfalso
    have : spansF g = sumTo (fun _ => (1 : Int)) 12 := sumTo_congr fun s hs => by
      (try dsimp only)
      rw [if_pos (decide_eq_true (slotF_busy (by omega)))]
    have e : sumTo (fun _ => (1 : Int)) 12 = 12 := rfl
    omega
theorem keep_span {g : Nat → Int} {ab fr to acc : Int} {k w : Nat} (hk : k < 12) (hw : w < 6) (hsl : slotF g < 12) : mSpan (keepF g ab fr to acc) k w = if k = slotF g then (if w = 0 then g 5 else if w = 1 then ab / 100 else if w = 2 then ab % 100 else if w = 3 then fr else if w = 4 then to else acc) else mSpan g k w := by
  unfold keepF
  generalize slotF g = z at *
  unfold mSpan
  rw [put_o (by omega)]
  by_cases c : k = z
  · subst c
    rw [if_pos rfl]
    rcases (by omega : w = 0 ∨ w = 1 ∨ w = 2 ∨ w = 3 ∨ w = 4 ∨ w = 5) with rfl | rfl | rfl | rfl | rfl | rfl
    · rw [put_o (by omega), put_o (by omega), put_o (by omega), put_o (by omega), put_o (by omega), Nat.add_zero, put_at]; rfl
    · rw [put_o (by omega), put_o (by omega), put_o (by omega), put_o (by omega), put_at]; rfl
    · rw [put_o (by omega), put_o (by omega), put_o (by omega), put_at]; rfl
    · rw [put_o (by omega), put_o (by omega), put_at]; rfl
    · rw [put_o (by omega), put_at]; rfl
    · rw [put_at]; rfl
  · rw [if_neg c, put_o (by omega), put_o (by omega), put_o (by omega), put_o (by omega), put_o (by omega), put_o (by omega)]
theorem keep_o {g : Nat → Int} {ab fr to acc : Int} {b : Nat} (hsl : slotF g < 12) (h : b < 24 ∨ 96 ≤ b) (h5 : b ≠ 5) : keepF g ab fr to acc b = g b := by
  unfold keepF
  rw [put_o h5, put_o (by omega), put_o (by omega), put_o (by omega), put_o (by omega), put_o (by omega), put_o (by omega)]
theorem keep_5 {g : Nat → Int} {ab fr to acc : Int} : keepF g ab fr to acc 5 = g 5 + 1 := by
  unfold keepF
  rw [put_at]
theorem keep_many {g : Nat → Int} {ab fr to acc : Int} (hsl : slotF g < 12) (h5 : 0 ≤ g 5) : spansF (keepF g ab fr to acc) = spansF g + 1 := by
  unfold spansF
  have e1 : mSpan (keepF g ab fr to acc) (slotF g) 0 = g 5 := by rw [keep_span hsl (by omega) hsl, if_pos rfl, if_pos rfl]
  have e0 := slotF_free hsl
  have hu := sumTo_upd (f := fun k => if decide (0 ≤ mSpan g k 0) = true then (1 : Int) else 0) (g := fun k => if k < 12 then (if decide (0 ≤ mSpan (keepF g ab fr to acc) k 0) = true then (1 : Int) else 0) else (if decide (0 ≤ mSpan g k 0) = true then (1 : Int) else 0)) (z := slotF g) (d := 1)
    (by (try dsimp only); rw [if_pos hsl, e1, if_pos (by simpa using h5), if_neg (by simpa using e0)]; rfl)
    (fun i hi => by
      (try dsimp only)
      split
      · rename_i h12; rw [keep_span h12 (by omega) hsl, if_neg hi]
      · rfl) (n := 12)
  rw [if_pos hsl] at hu
  rw [← hu]
  exact sumTo_congr fun i hi => by (try dsimp only); rw [if_pos hi]
theorem keep_at {g : Nat → Int} {ab fr to acc : Int} (hsl : slotF g < 12) : mSpan (keepF g ab fr to acc) (slotF g) 0 = g 5 ∧ mSpan (keepF g ab fr to acc) (slotF g) 1 = ab / 100 ∧ mSpan (keepF g ab fr to acc) (slotF g) 2 = ab % 100 ∧ mSpan (keepF g ab fr to acc) (slotF g) 3 = fr ∧ mSpan (keepF g ab fr to acc) (slotF g) 4 = to ∧ mSpan (keepF g ab fr to acc) (slotF g) 5 = acc := by
  refine ⟨?_, ?_, ?_, ?_, ?_, ?_⟩
  · rw [keep_span hsl (by omega) hsl, if_pos rfl, if_pos rfl]
  · rw [keep_span hsl (by omega) hsl, if_pos rfl, if_neg (by decide), if_pos rfl]
  · rw [keep_span hsl (by omega) hsl, if_pos rfl, if_neg (by decide), if_neg (by decide), if_pos rfl]
  · rw [keep_span hsl (by omega) hsl, if_pos rfl, if_neg (by decide), if_neg (by decide), if_neg (by decide), if_pos rfl]
  · rw [keep_span hsl (by omega) hsl, if_pos rfl, if_neg (by decide), if_neg (by decide), if_neg (by decide), if_neg (by decide), if_pos rfl]
  · rw [keep_span hsl (by omega) hsl, if_pos rfl, if_neg (by decide), if_neg (by decide), if_neg (by decide), if_neg (by decide), if_neg (by decide)]
theorem keep_bits {g : Nat → Int} {ab fr to acc : Int} (hsl : slotF g < 12) : mSpanBits (keepF g ab fr to acc) (slotF g) = bitsN (ab / 100).toNat (ab % 100 - ab / 100 + 1).toNat := by
  obtain ⟨-, k1, k2, -⟩ := keep_at (ab := ab) (fr := fr) (to := to) (acc := acc) hsl
  unfold mSpanBits
  rw [k1, k2]
theorem keep_ne {g : Nat → Int} {ab fr to acc : Int} {k w : Nat} (hk : k < 12) (hw : w < 6) (hsl : slotF g < 12) (h : k ≠ slotF g) : mSpan (keepF g ab fr to acc) k w = mSpan g k w := by rw [keep_span hk hw hsl, if_neg h]
theorem relSf_add {G G' : Nat → Nat → Int} {s n : Nat} {g : Nat → Int} {f : Nat → Nat} {ab fr to acc : Int} (h : relSf G s g f) (hn : spansF g = (n : Int)) (h12 : n < 12) (h5 : 0 ≤ g 5) (hrow : ∀ k, k < 12 → 0 ≤ mSpan g k 0 → mSpan g k 0 < g 5) (hG : G' = addS G (s + 26) n (g 5) ((bitsN (ab / 100).toNat (ab % 100 - ab / 100 + 1).toNat : Nat) : Int) fr to acc) : relSf G' s (keepF g ab fr to acc) (fun i => if i = n then slotF g else f i) := by
  have hsl : slotF g < 12 := slot_lt (by omega)
  have hfree := slotF_free hsl
  obtain ⟨a1, a2, a3, a4, a5⟩ := h
  have hmany := keep_many (ab := ab) (fr := fr) (to := to) (acc := acc) hsl h5
  have hfn : ∀ i : Nat, (i : Int) < spansF g → f i ≠ slotF g := fun i hi e => by
    have := (a3 i hi).2.1
    rw [e] at this
    omega
  have c0 : G' (s + 26) 0 = (n : Int) + 1 := by rw [hG]; unfold addS; simp [upZ]
  have c1 : G' (s + 26) 1 = g 5 + 1 := by rw [hG]; unfold addS; simp [upZ]
  have cc : ∀ d, 1 ≤ d → d ≤ 5 → ∀ i, i ≠ n → G' (s + 26 + d) i = G (s + 26 + d) i := fun d h1 h2 i hi => by
    rw [hG]
    unfold addS
    rcases (by omega : d = 1 ∨ d = 2 ∨ d = 3 ∨ d = 4 ∨ d = 5) with rfl | rfl | rfl | rfl | rfl <;> simp [upZ, hi]
  have cn : G' (s + 27) n = g 5 ∧ G' (s + 28) n = ((bitsN (ab / 100).toNat (ab % 100 - ab / 100 + 1).toNat : Nat) : Int) ∧ G' (s + 29) n = fr ∧ G' (s + 30) n = to ∧ G' (s + 31) n = acc := by
    rw [hG]
    unfold addS
    refine ⟨?_, ?_, ?_, ?_, ?_⟩ <;> simp [upZ]
  obtain ⟨q0, q1, q2, q3, q4, q5⟩ := keep_at (ab := ab) (fr := fr) (to := to) (acc := acc) hsl
  have qb := keep_bits (ab := ab) (fr := fr) (to := to) (acc := acc) hsl
  have qn := fun (k w : Nat) (hk : k < 12) (hw : w < 6) (h : k ≠ slotF g) => keep_ne (ab := ab) (fr := fr) (to := to) (acc := acc) hk hw hsl h
  have qbn : ∀ k, k < 12 → k ≠ slotF g → mSpanBits (keepF g ab fr to acc) k = mSpanBits g k := fun k hk h => by unfold mSpanBits; rw [qn k 1 hk (by omega) h, qn k 2 hk (by omega) h]
  have q55 : keepF g ab fr to acc 5 = g 5 + 1 := keep_5
  generalize keepF g ab fr to acc = K at *
  generalize slotF g = z at *
  clear hG
  refine ⟨by rw [c0, hmany, hn], by rw [c1, q55], fun i hi => ?_, fun k hk h0 => ?_, fun i k hik hk => ?_⟩
  · (try dsimp only)
    rw [hmany, hn] at hi
    by_cases e : i = n
    · subst e
      rw [if_pos rfl, q0, q3, q4, q5, qb]
      exact ⟨hsl, h5, cn.1, cn.2.1, cn.2.2.1, cn.2.2.2.1, cn.2.2.2.2⟩
    · rw [if_neg e]
      have hi2 : (i : Int) < spansF g := by omega
      obtain ⟨b1, b2, b3, b4, b5, b6, b7⟩ := a3 i hi2
      have hne := hfn i hi2
      rw [qn _ 0 b1 (by omega) hne, qn _ 3 b1 (by omega) hne, qn _ 4 b1 (by omega) hne, qn _ 5 b1 (by omega) hne, qbn _ b1 hne]
      exact ⟨b1, b2, (cc 1 (by omega) (by omega) i e).trans b3, (cc 2 (by omega) (by omega) i e).trans b4, (cc 3 (by omega) (by omega) i e).trans b5, (cc 4 (by omega) (by omega) i e).trans b6, (cc 5 (by omega) (by omega) i e).trans b7⟩
  · rw [hmany, hn]
    by_cases e : k = z
    · exact ⟨n, by omega, by (try dsimp only); rw [if_pos rfl, e]⟩
    · rw [qn k 0 hk (by omega) e] at h0
      obtain ⟨i, hi, hfi⟩ := a4 k hk h0
      exact ⟨i, by omega, by (try dsimp only); rw [if_neg (by omega)]; exact hfi⟩
  · (try dsimp only)
    rw [hmany, hn] at hk
    have hin : i ≠ n := by omega
    have hi2 : (i : Int) < spansF g := by omega
    obtain ⟨b1, b2, -⟩ := a3 i hi2
    rw [if_neg hin, qn _ 0 b1 (by omega) (hfn i hi2)]
    by_cases e : k = n
    · rw [if_pos e, q0]
      exact hrow _ b1 b2
    · have hk2 : (k : Int) < spansF g := by omega
      rw [if_neg e, qn _ 0 (a3 k hk2).1 (by omega) (hfn k hk2)]
      exact a5 i k hik hk2
/-- what the row keeps, a span kept -/
def spI (g : Nat → Int) : Prop := gRange g ∧ 0 ≤ g 5 ∧ ∀ s, s < 12 → spOk g s
theorem keep_spI {g : Nat → Int} {ab fr to acc : Int} (h : spI g) (h5 : g 5 ≤ 900000) (hsl : slotF g < 12) (h0 : 0 ≤ g 0 ∧ g 0 ≤ 110000) (hab : 0 ≤ ab ∧ ab / 100 ≤ ab % 100 ∧ ab % 100 ≤ 15 ∧ 0 ≤ ab / 100) (hf : g 0 ≤ fr ∧ fr < to ∧ to ≤ g 0 + 30000) (ha : -1 ≤ acc ∧ acc ≤ 7) : spI (keepF g ab fr to acc) := by
  obtain ⟨hr, hh5, hs⟩ := h
  have r : ∀ v : Int, -1000000 ≤ v → v ≤ 1000000 → rg v := fun v h1 h2 => by unfold rg; omega
  refine ⟨?_, by rw [keep_5]; omega, fun s hs12 => ?_⟩
  · unfold keepF
    exact gRange_put (gRange_put (gRange_put (gRange_put (gRange_put (gRange_put (gRange_put hr (r _ (by omega) (by omega))) (r _ (by omega) (by omega))) (r _ (by omega) (by omega))) (r _ (by omega) (by omega))) (r _ (by omega) (by omega))) (r _ (by omega) (by omega))) (r _ (by omega) (by omega))
  · have h1 := hs s hs12
    obtain ⟨q0, q1, q2, q3, q4, q5⟩ := keep_at (ab := ab) (fr := fr) (to := to) (acc := acc) hsl
    have q55 : keepF g ab fr to acc 5 = g 5 + 1 := keep_5
    have q00 : keepF g ab fr to acc 0 = g 0 := keep_o hsl (Or.inl (by omega)) (by omega)
    have qn := fun (w : Nat) (hw : w < 6) (e : s ≠ slotF g) => keep_ne (ab := ab) (fr := fr) (to := to) (acc := acc) hs12 hw hsl e
    clear hs
    generalize keepF g ab fr to acc = K at *
    generalize slotF g = z at *
    by_cases e : s = z
    · rw [e]
      unfold spOk
      rw [q0, q1, q2, q3, q4, q5, q55, q00]
      omega
    · unfold spOk at *
      rw [qn 0 (by omega) e, qn 1 (by omega) e, qn 2 (by omega) e, qn 3 (by omega) e, qn 4 (by omega) e, qn 5 (by omega) e, q55, q00]
      omega
