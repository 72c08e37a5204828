theorem lt_pSet1 {k i : Nat} {L : pLo} {v : pV} (h : k < L.length) : k < (pSet1 L i v).length := by rw [pSet1_len]; exact h
theorem lt_kil {k : Nat} {L : pLo} {ks : List Nat} (h : k < L.length) : k < (ks.foldl kil L).length := by rw [kil_foldl_len]; exact h
/-! ===== the class's spans ===== -/
def spFr (o : Nat) (G G' : Nat → Nat → Int) : Prop := (∀ x, (x < o ∨ o + 5 < x) → G' x = G x) ∧ ∀ i, i ≠ 0 → i ≠ 1 → G' o i = G o i
/-- one row less: those behind it go one on -/
theorem Sp_remove {G U : Nat → Nat → Int} {o n a : Nat} {R : Option pV → pM → Prop} (ho : isSpans o) (hn : G o 0 = (n : Int)) (h12 : n ≤ 12) (ha : a < n) (hR : ∀ G', (∀ x, (x < o ∨ o + 5 < x) → G' x = G x) → G' o 0 = (n : Int) - 1 → G' o 1 = G o 1 → (∀ d, d < 5 → ∀ i, i < n - 1 → G' (o + 1 + d) i = if i < a then G (o + 1 + d) i else G (o + 1 + d) (i + 1)) → R none (zM G' U)) : WpF F_Spans_remove [pR o, pI (Int32.ofInt (a : Int))] (zM G U) R := by
  unfold F_Spans_remove B_Spans_remove
  apply wBody (Nat.le_of_ble_eq_true rfl)
  repeat' first | with_reducible apply wSeq | with_reducible apply wAsI | ((with_reducible apply wInc); rfl) | with_reducible apply wKil | with_reducible apply wRV | with_reducible apply wModA2 | with_reducible apply wModS2 | with_reducible apply wModO2 | with_reducible apply wAst2 | with_reducible apply wB_e | (intro h; try simp only [Bool.and_eq_true, Bool.or_eq_true, Bool.not_eq_true', Bool.not_eq_false', Bool.and_eq_false_imp, Bool.or_eq_false_iff, decide_eq_true_eq, decide_eq_false_iff_not, Bool.not_true, Bool.not_false, Bool.true_eq_false, Bool.false_eq_true, Bool.not_not] at h) | with_reducible apply wN1 | with_reducible apply wN2 | with_reducible apply wN3 | with_reducible apply wN4 | with_reducible apply wN0 | with_reducible apply wE0 | with_reducible apply wXI | with_reducible apply wXB | with_reducible exact eK | ((with_reducible apply eL); rfl) | ((with_reducible apply eLR); rfl) | with_reducible exact eAN | with_reducible apply eAdd | with_reducible apply eSub | with_reducible apply eLt | with_reducible apply eArr2 | with_reducible apply eFld2 | with_reducible apply R_Spans_number | with_reducible apply R_Spans_mask | with_reducible apply R_Spans_from | with_reducible apply R_Spans_to | with_reducible apply R_Spans_account | with_reducible exact K_Spans_size (by assumption) | with_reducible exact N_Spans_number (by assumption) | with_reducible exact N_Spans_mask (by assumption) | with_reducible exact N_Spans_from (by assumption) | with_reducible exact N_Spans_to (by assumption) | with_reducible exact N_Spans_account (by assumption) | with_reducible exact Int.toNat_natCast _ | with_reducible exact tn0 | with_reducible exact tn1 | with_reducible exact tn2 | with_reducible exact tn3 | with_reducible exact tn4 | with_reducible exact tn5 | with_reducible exact tn6 | with_reducible exact tn7 | with_reducible exact tn8 | with_reducible exact tn9 | with_reducible exact tn10 | with_reducible exact tn11 | with_reducible exact tn12 | with_reducible exact tn13 | with_reducible exact tn14 | with_reducible exact tn15 | with_reducible exact tn16 | with_reducible exact tnK0 | with_reducible exact tnK4 | with_reducible exact tnK8 | with_reducible exact tnK12 | with_reducible exact tnK16 | with_reducible exact tnK20 | with_reducible exact tnK24 | with_reducible exact tnK28 | with_reducible exact tnK32 | with_reducible exact tnJA | with_reducible exact tnA | with_reducible exact upR_s | ((with_reducible apply upR_a); (first | decide | omega)) | ((with_reducible apply upR_b); (first | decide | omega)) | with_reducible apply lt_pSet1 | with_reducible apply lt_kil | exact Nat.le_of_ble_eq_true rfl | with_reducible assumption | with_reducible exact rfl | omega | with_reducible apply wAnd | decide +kernel
  refine wWh (fun t L σ => ∃ G', L = [some (pR o), some (pI (Int32.ofInt (a : Int))), some (pI (Int32.ofInt ((a + t : Nat) : Int)))] ∧ σ = zM G' U ∧ (∀ x, (x < o ∨ o + 5 < x) → G' x = G x) ∧ G' o 0 = (n : Int) - 1 ∧ G' o 1 = G o 1 ∧ ∀ d, d < 5 → ∀ i, G' (o + 1 + d) i = if a ≤ i ∧ i < a + t then G (o + 1 + d) (i + 1) else G (o + 1 + d) i) (n - 1 - a) (by omega) ⟨_, rfl, rfl, fun x h => upZ_ne (by omega), by simp [upZ], by simp [upZ], fun d hd i => by rw [upZ_ne (by omega), if_neg (by omega)]⟩ ?_
  rintro t _ _ ht ⟨G', rfl, rfl, f1, f2, f3, f4⟩
  have q1 := f4 0 (by omega) (a + t + 1)
  have q2 := f4 1 (by omega) (a + t + 1)
  have q3 := f4 2 (by omega) (a + t + 1)
  have q4 := f4 3 (by omega) (a + t + 1)
  have q5 := f4 4 (by omega) (a + t + 1)
  rw [if_neg (by omega)] at q1 q2 q3 q4 q5
  rcases Nat.lt_or_ge t (n - 1 - a) with hlt | hge
  · have tk : (((a + t : Nat) : Int) + 1).toNat = a + t + 1 := by omega
    repeat' first | with_reducible apply wSeq | with_reducible apply wAsI | ((with_reducible apply wInc); rfl) | with_reducible apply wKil | with_reducible apply wRV | with_reducible apply wModA2 | with_reducible apply wModS2 | with_reducible apply wModO2 | with_reducible apply wAst2 | with_reducible apply wB_e | (intro h; try simp only [Bool.and_eq_true, Bool.or_eq_true, Bool.not_eq_true', Bool.not_eq_false', Bool.and_eq_false_imp, Bool.or_eq_false_iff, decide_eq_true_eq, decide_eq_false_iff_not, Bool.not_true, Bool.not_false, Bool.true_eq_false, Bool.false_eq_true, Bool.not_not] at h) | with_reducible apply wN1 | with_reducible apply wN2 | with_reducible apply wN3 | with_reducible apply wN4 | with_reducible apply wN0 | with_reducible apply wE0 | with_reducible apply wXI | with_reducible apply wXB | with_reducible exact tk | with_reducible exact eK | ((with_reducible apply eL); rfl) | ((with_reducible apply eLR); rfl) | with_reducible exact eAN | with_reducible apply eAdd | with_reducible apply eSub | with_reducible apply eLt | with_reducible apply eArr2 | with_reducible apply eFld2 | with_reducible apply R_Spans_number | with_reducible apply R_Spans_mask | with_reducible apply R_Spans_from | with_reducible apply R_Spans_to | with_reducible apply R_Spans_account | with_reducible exact K_Spans_size (by assumption) | with_reducible exact N_Spans_number (by assumption) | with_reducible exact N_Spans_mask (by assumption) | with_reducible exact N_Spans_from (by assumption) | with_reducible exact N_Spans_to (by assumption) | with_reducible exact N_Spans_account (by assumption) | with_reducible exact Int.toNat_natCast _ | with_reducible exact tn0 | with_reducible exact tn1 | with_reducible exact tn2 | with_reducible exact tn3 | with_reducible exact tn4 | with_reducible exact tn5 | with_reducible exact tn6 | with_reducible exact tn7 | with_reducible exact tn8 | with_reducible exact tn9 | with_reducible exact tn10 | with_reducible exact tn11 | with_reducible exact tn12 | with_reducible exact tn13 | with_reducible exact tn14 | with_reducible exact tn15 | with_reducible exact tn16 | with_reducible exact tnK0 | with_reducible exact tnK4 | with_reducible exact tnK8 | with_reducible exact tnK12 | with_reducible exact tnK16 | with_reducible exact tnK20 | with_reducible exact tnK24 | with_reducible exact tnK28 | with_reducible exact tnK32 | with_reducible exact tnJA | with_reducible exact tnA | with_reducible exact upR_s | ((with_reducible apply upR_a); (first | decide | omega)) | ((with_reducible apply upR_b); (first | decide | omega)) | with_reducible apply lt_pSet1 | with_reducible apply lt_kil | exact Nat.le_of_ble_eq_true rfl | with_reducible assumption | with_reducible exact rfl | omega | with_reducible apply wAnd | decide +kernel
    refine ⟨_, by rw [show ((a + t : Nat) : Int) + 1 = ((a + (t + 1) : Nat) : Int) by omega]; rfl, rfl, fun x h => by rw [upZ_ne (by omega), upZ_ne (by omega), upZ_ne (by omega), upZ_ne (by omega), upZ_ne (by omega)]; exact f1 x h, by simp [upZ, f2], by simp [upZ, f3], fun d hd i => ?_⟩
    have hd5 : d = 0 ∨ d = 1 ∨ d = 2 ∨ d = 3 ∨ d = 4 := by omega
    by_cases c : i = a + t
    · subst c
      rw [if_pos (by omega)]
      rcases hd5 with rfl | rfl | rfl | rfl | rfl <;> simp [upZ]
    · have hold := f4 d hd i
      have : (if a ≤ i ∧ i < a + (t + 1) then G (o + 1 + d) (i + 1) else G (o + 1 + d) i) = if a ≤ i ∧ i < a + t then G (o + 1 + d) (i + 1) else G (o + 1 + d) i := by
        by_cases c2 : a ≤ i ∧ i < a + t
        · rw [if_pos c2, if_pos (by omega)]
        · rw [if_neg c2, if_neg (by omega)]
      rw [this, ← hold]
      rcases hd5 with rfl | rfl | rfl | rfl | rfl <;> simp [upZ, c]
  · have e : t = n - 1 - a := by omega
    repeat' first | with_reducible apply wSeq | with_reducible apply wAsI | ((with_reducible apply wInc); rfl) | with_reducible apply wKil | with_reducible apply wRV | with_reducible apply wModA2 | with_reducible apply wModS2 | with_reducible apply wModO2 | with_reducible apply wAst2 | with_reducible apply wB_e | (intro h; try simp only [Bool.and_eq_true, Bool.or_eq_true, Bool.not_eq_true', Bool.not_eq_false', Bool.and_eq_false_imp, Bool.or_eq_false_iff, decide_eq_true_eq, decide_eq_false_iff_not, Bool.not_true, Bool.not_false, Bool.true_eq_false, Bool.false_eq_true, Bool.not_not] at h) | with_reducible apply wN1 | with_reducible apply wN2 | with_reducible apply wN3 | with_reducible apply wN4 | with_reducible apply wN0 | with_reducible apply wE0 | with_reducible apply wXI | with_reducible apply wXB | with_reducible exact eK | ((with_reducible apply eL); rfl) | ((with_reducible apply eLR); rfl) | with_reducible exact eAN | with_reducible apply eAdd | with_reducible apply eSub | with_reducible apply eLt | with_reducible apply eArr2 | with_reducible apply eFld2 | with_reducible apply R_Spans_number | with_reducible apply R_Spans_mask | with_reducible apply R_Spans_from | with_reducible apply R_Spans_to | with_reducible apply R_Spans_account | with_reducible exact K_Spans_size (by assumption) | with_reducible exact N_Spans_number (by assumption) | with_reducible exact N_Spans_mask (by assumption) | with_reducible exact N_Spans_from (by assumption) | with_reducible exact N_Spans_to (by assumption) | with_reducible exact N_Spans_account (by assumption) | with_reducible exact Int.toNat_natCast _ | with_reducible exact tn0 | with_reducible exact tn1 | with_reducible exact tn2 | with_reducible exact tn3 | with_reducible exact tn4 | with_reducible exact tn5 | with_reducible exact tn6 | with_reducible exact tn7 | with_reducible exact tn8 | with_reducible exact tn9 | with_reducible exact tn10 | with_reducible exact tn11 | with_reducible exact tn12 | with_reducible exact tn13 | with_reducible exact tn14 | with_reducible exact tn15 | with_reducible exact tn16 | with_reducible exact tnK0 | with_reducible exact tnK4 | with_reducible exact tnK8 | with_reducible exact tnK12 | with_reducible exact tnK16 | with_reducible exact tnK20 | with_reducible exact tnK24 | with_reducible exact tnK28 | with_reducible exact tnK32 | with_reducible exact tnJA | with_reducible exact tnA | with_reducible exact upR_s | ((with_reducible apply upR_a); (first | decide | omega)) | ((with_reducible apply upR_b); (first | decide | omega)) | with_reducible apply lt_pSet1 | with_reducible apply lt_kil | exact Nat.le_of_ble_eq_true rfl | with_reducible assumption | with_reducible exact rfl | omega | with_reducible apply wAnd | decide +kernel
    refine hR G' f1 f2 f3 fun d hd i hi => ?_
    rw [f4 d hd i]
    by_cases c : i < a
    · rw [if_pos c, if_neg (by omega)]
    · rw [if_neg c, if_pos (by omega)]
theorem mSpan_put {g : Nat → Int} {s k w : Nat} {v : Int} (hw : w < 6) : mSpan (put g (24 + s * 6) v) k w = if k = s ∧ w = 0 then v else mSpan g k w := by
  unfold mSpan
  by_cases c : k = s ∧ w = 0
  · obtain ⟨rfl, rfl⟩ := c
    rw [if_pos ⟨rfl, rfl⟩, Nat.add_zero, put_at]
  · rw [if_neg c, put_o (by omega)]
theorem spansF_off {g : Nat → Int} {s : Nat} (hs : s < 12) (h : 0 ≤ mSpan g s 0) : spansF (put g (24 + s * 6) (-1)) = spansF g - 1 := by
  have : spansF g = spansF (put g (24 + s * 6) (-1)) + 1 := by
    unfold spansF
    have e1 : mSpan (put g (24 + s * 6) (-1)) s 0 = -1 := by rw [mSpan_put (by omega), if_pos ⟨rfl, rfl⟩]
    have e2 : ∀ k, k ≠ s → mSpan (put g (24 + s * 6) (-1)) k 0 = mSpan g k 0 := fun k hk => by rw [mSpan_put (by omega), if_neg fun h => hk h.1]
    have hu := sumTo_upd (f := fun k => if decide (0 ≤ mSpan (put g (24 + s * 6) (-1)) k 0) = true then (1 : Int) else 0) (g := fun k => if decide (0 ≤ mSpan g k 0) = true then (1 : Int) else 0) (z := s) (d := 1)
      (by (try dsimp only); rw [e1, if_pos (by simpa using h), if_neg (by decide)]; rfl)
      (fun i hi => by (try dsimp only); rw [e2 i hi]) (n := 12)
    rw [if_pos hs] at hu
    exact hu
  omega
/-- the relation of the spans, one gone -/
theorem relSf_off {G G' : Nat → Nat → Int} {s a : Nat} {g : Nat → Int} {f : Nat → Nat} (h : relSf G s g f) (ha : (a : Int) < spansF g) (h0 : G' (s + 26) 0 = spansF g - 1) (h1 : G' (s + 26) 1 = G (s + 26) 1) (hc : ∀ d, d < 5 → ∀ i : Nat, (i : Int) < spansF g - 1 → G' (s + 27 + d) i = if i < a then G (s + 27 + d) i else G (s + 27 + d) (i + 1)) : relSf G' s (put g (24 + f a * 6) (-1)) (fun i => if i < a then f i else f (i + 1)) := by
  obtain ⟨a1, a2, a3, a4, a5⟩ := h
  obtain ⟨b1, b2, -⟩ := a3 a ha
  have hinj : ∀ i k : Nat, (i : Int) < spansF g → (k : Int) < spansF g → f i = f k → i = k := fun i k hi hk e => by
    by_cases c : i < k
    · have := a5 i k c hk
      rw [e] at this
      omega
    · by_cases c2 : k < i
      · have := a5 k i c2 hi
        rw [e] at this
        omega
      · omega
  have hold : ∀ i : Nat, (i : Int) < spansF g - 1 → ((if i < a then i else i + 1 : Nat) : Int) < spansF g ∧ (if i < a then f i else f (i + 1)) = f (if i < a then i else i + 1) ∧ f (if i < a then i else i + 1) ≠ f a := fun i hi => by
    by_cases c : i < a
    · rw [if_pos c, if_pos c]
      exact ⟨by omega, rfl, fun e => by have := hinj i a (by omega) ha e; omega⟩
    · rw [if_neg c, if_neg c]
      exact ⟨by omega, rfl, fun e => by have := hinj (i + 1) a (by omega) ha e; omega⟩
  refine ⟨by rw [spansF_off b1 b2]; exact h0, by rw [h1, put_o (by omega)]; exact a2, fun i hi => ?_, fun k hk h0 => ?_, fun i k hik hk => ?_⟩
  · rw [spansF_off b1 b2] at hi
    obtain ⟨p1, p2, p3⟩ := hold i hi
    dsimp only
    rw [p2]
    obtain ⟨c1, c2, c3, c4, c5, c6, c7⟩ := a3 _ p1
    have hval : ∀ d, d < 5 → G' (s + 27 + d) i = G (s + 27 + d) (if i < a then i else i + 1) := fun d hd => by
      rw [hc d hd i hi]
      split <;> rfl
    have ms : ∀ w, w < 6 → mSpan (put g (24 + f a * 6) (-1)) (f (if i < a then i else i + 1)) w = mSpan g (f (if i < a then i else i + 1)) w := fun w hw => by
      rw [mSpan_put hw, if_neg fun h => p3 h.1]
    have mb : mSpanBits (put g (24 + f a * 6) (-1)) (f (if i < a then i else i + 1)) = mSpanBits g (f (if i < a then i else i + 1)) := by
      unfold mSpanBits
      rw [ms 1 (by omega), ms 2 (by omega)]
    rw [ms 0 (by omega), ms 3 (by omega), ms 4 (by omega), ms 5 (by omega), mb, show s + 27 = s + 27 + 0 from rfl, hval 0 (by omega), show s + 28 = s + 27 + 1 from rfl, hval 1 (by omega), show s + 29 = s + 27 + 2 from rfl, hval 2 (by omega), show s + 30 = s + 27 + 3 from rfl, hval 3 (by omega), show s + 31 = s + 27 + 4 from rfl, hval 4 (by omega)]
    exact ⟨c1, c2, c3, c4, c5, c6, c7⟩
  · rw [mSpan_put (by omega)] at h0
    by_cases e : k = f a
    · rw [if_pos ⟨e, rfl⟩] at h0
      omega
    · rw [if_neg fun h => e h.1] at h0
      obtain ⟨i, hi, hik⟩ := a4 k hk h0
      have hne : i ≠ a := fun e2 => e (by rw [← hik, e2])
      rw [spansF_off b1 b2]
      by_cases c : i < a
      · exact ⟨i, by omega, by dsimp only; rw [if_pos c]; exact hik⟩
      · exact ⟨i - 1, by omega, by dsimp only; rw [if_neg (by omega), show i - 1 + 1 = i by omega]; exact hik⟩
  · rw [spansF_off b1 b2] at hk
    obtain ⟨p1, p2, p3⟩ := hold i (by omega)
    obtain ⟨q1, q2, q3⟩ := hold k hk
    have ms0 : ∀ x, x ≠ f a → mSpan (put g (24 + f a * 6) (-1)) x 0 = mSpan g x 0 := fun x hx => by rw [mSpan_put (by omega), if_neg fun h => hx h.1]
    show mSpan (put g (24 + f a * 6) (-1)) (if i < a then f i else f (i + 1)) 0 < mSpan (put g (24 + f a * 6) (-1)) (if k < a then f k else f (k + 1)) 0
    rw [p2, q2, ms0 _ p3, ms0 _ q3]
    refine a5 _ _ ?_ q1
    by_cases c1 : i < a
    · rw [if_pos c1]; split <;> omega
    · rw [if_neg c1, if_neg (by omega)]; omega
theorem relSf_cells {G : Nat → Nat → Int} {s : Nat} {g g' : Nat → Int} {f : Nat → Nat} (h : relSf G s g f) (h5 : g' 5 = g 5) (he : ∀ k w, k < 12 → w < 6 → mSpan g' k w = mSpan g k w) : relSf G s g' f := by
  obtain ⟨a, b, c, d, f2⟩ := h
  have hsp : spansF g' = spansF g := by
    unfold spansF
    exact sumTo_congr fun k hk => by rw [he k 0 hk (by omega)]
  refine ⟨by rw [hsp]; exact a, by rw [h5]; exact b, fun i hi => ?_, fun k hk h0 => ?_, fun i k hik hk => ?_⟩
  · rw [hsp] at hi
    have := c i hi
    have h12 := this.1
    have eb : mSpanBits g' (f i) = mSpanBits g (f i) := by unfold mSpanBits; rw [he _ 1 h12 (by omega), he _ 2 h12 (by omega)]
    rw [he _ 0 h12 (by omega), he _ 3 h12 (by omega), he _ 4 h12 (by omega), he _ 5 h12 (by omega), eb]
    exact this
  · rw [he k 0 hk (by omega)] at h0
    rw [hsp]
    exact d k hk h0
  · rw [hsp] at hk
    have h1 := (c i (by omega)).1
    have h2 := (c k hk).1
    rw [he _ 0 h1 (by omega), he _ 0 h2 (by omega)]
    exact f2 i k hik hk
/-- the spans that end go -/
def endsS (g : Nat → Int) (t : Int) : Nat → Int := fun b => if 24 ≤ b ∧ b < 96 ∧ (b - 24) % 6 = 0 ∧ 0 ≤ g b ∧ g (b + 4) ≤ t then -1 else g b
theorem endsS_span {g : Nat → Int} {t : Int} {k w : Nat} (hk : k < 12) (hw : w < 6) : mSpan (endsS g t) k w = if w = 0 ∧ 0 ≤ mSpan g k 0 ∧ mSpan g k 4 ≤ t then -1 else mSpan g k w := by
  unfold mSpan endsS
  by_cases c : w = 0
  · subst c
    rw [Nat.add_zero]
    by_cases c2 : 0 ≤ g (24 + k * 6) ∧ g (24 + k * 6 + 4) ≤ t
    · rw [if_pos ⟨by omega, by omega, by omega, c2.1, c2.2⟩, if_pos ⟨rfl, c2⟩]
    · rw [if_neg fun h => c2 ⟨h.2.2.2.1, h.2.2.2.2⟩, if_neg fun h => c2 h.2]
  · rw [if_neg (by omega), if_neg fun h => c h.1]
def goS (g : Nat → Int) (f : Nat → Nat) (t : Int) (n i k w : Nat) : Prop := w = 0 ∧ mSpan g k 4 ≤ t ∧ ∃ j : Nat, n ≤ j + i ∧ j < n ∧ f j = k
theorem Sp_endBy {G U : Nat → Nat → Int} {s : Nat} {t : Int} {g : Nat → Int} {R : Option pV → pM → Prop} (hs : isScene s) (hS : relS G s g) (ht : rg t) (hrg : ∀ k, k < 12 → rg (mSpan g k 4)) (hR : ∀ G', (∀ x, (x < s + 26 ∨ s + 31 < x) → G' x = G x) → relS G' s (endsS g t) → R none (zM G' U)) : WpF F_Spans_endBy [pR (s + 26), pI (Int32.ofInt t)] (zM G U) R := by
  have hsp := S_Scene_spans hs
  obtain ⟨f, hf⟩ := hS
  have hsr := spansF_rg (g := g)
  obtain ⟨n, hn⟩ : ∃ n : Nat, spansF g = n := ⟨(spansF g).toNat, by omega⟩
  have e0 := hf.1
  unfold F_Spans_endBy B_Spans_endBy
  apply wBody (Nat.le_of_ble_eq_true rfl)
  rw [hn] at e0
  repeat' first | with_reducible apply wSeq | with_reducible apply wSkip | with_reducible apply wIf | with_reducible apply wAsI | ((with_reducible apply wInc); rfl) | with_reducible apply wKil | with_reducible apply wRV | with_reducible apply wVd | with_reducible apply wB_e | (intro h; try simp only [Bool.and_eq_true, Bool.or_eq_true, Bool.not_eq_true', Bool.not_eq_false', Bool.and_eq_false_imp, Bool.or_eq_false_iff, decide_eq_true_eq, decide_eq_false_iff_not, Bool.not_true, Bool.not_false, Bool.true_eq_false, Bool.false_eq_true, Bool.not_not] at h) | with_reducible apply wN1 | with_reducible apply wN2 | with_reducible apply wN3 | with_reducible apply wN4 | with_reducible apply wN0 | with_reducible apply wE0 | with_reducible apply wXI | with_reducible apply wXB | with_reducible exact eK | ((with_reducible apply eL); rfl) | ((with_reducible apply eLR); rfl) | with_reducible exact eAN | with_reducible apply eSub | with_reducible apply eLe | with_reducible apply eGe | with_reducible apply eArr2 | with_reducible apply eFld2 | with_reducible apply eAI | with_reducible apply eAR | with_reducible apply eCI | with_reducible apply eCZ | with_reducible apply wRc | with_reducible apply R_Spans_to | with_reducible exact C_Spans (by assumption) | with_reducible exact K_Spans_size (by assumption) | with_reducible exact N_Spans_to (by assumption) | with_reducible exact Int.toNat_natCast _ | with_reducible exact tn0 | with_reducible exact tn1 | with_reducible exact tn2 | with_reducible exact tn3 | with_reducible exact tn4 | with_reducible exact tn5 | with_reducible exact tn6 | with_reducible exact tn7 | with_reducible exact tn8 | with_reducible exact tn9 | with_reducible exact tn10 | with_reducible exact tn11 | with_reducible exact tn12 | with_reducible exact tn13 | with_reducible exact tn14 | with_reducible exact tn15 | with_reducible exact tn16 | with_reducible exact tnK0 | with_reducible exact tnK4 | with_reducible exact tnK8 | with_reducible exact tnK12 | with_reducible exact tnK16 | with_reducible exact tnK20 | with_reducible exact tnK24 | with_reducible exact tnK28 | with_reducible exact tnK32 | with_reducible exact tnJA | with_reducible exact tnA | with_reducible exact upR_s | ((with_reducible apply upR_a); (first | decide | omega)) | ((with_reducible apply upR_b); (first | decide | omega)) | with_reducible apply lt_pSet1 | with_reducible apply lt_kil | exact Nat.le_of_ble_eq_true rfl | with_reducible assumption | with_reducible exact rfl | omega | with_reducible apply wAnd | decide +kernel
  refine wWh (fun i L σ => ∃ G' g' f', L = [some (pR (s + 26)), some (pI (Int32.ofInt t)), some (pI (Int32.ofInt ((n : Int) - 1 - (i : Int))))] ∧ σ = zM G' U ∧ (∀ x, (x < s + 26 ∨ s + 31 < x) → G' x = G x) ∧ relSf G' s g' f' ∧ (n : Int) - i ≤ spansF g' ∧ (∀ j : Nat, (j : Int) < n - i → f' j = f j) ∧ g' 5 = g 5 ∧ ∀ k w, k < 12 → w < 6 → (goS g f t n i k w → mSpan g' k w = -1) ∧ (¬ goS g f t n i k w → mSpan g' k w = mSpan g k w)) n (by omega) ⟨G, g, f, by rw [show (n : Int) - 1 - ((0 : Nat) : Int) = (n : Int) - 1 by omega]; rfl, rfl, fun _ _ => rfl, hf, by omega, fun _ _ => rfl, rfl, fun k w hk hw => ⟨fun ⟨_, _, j, h1, h2, _⟩ => by omega, fun _ => rfl⟩⟩ ?_
  rintro i _ _ hi ⟨G', g', f', rfl, rfl, p1, p2, p3, p4, p5, p6⟩
  rcases Nat.lt_or_ge i n with hlt | hge
  · obtain ⟨a, ha⟩ : ∃ a : Nat, (n : Int) - 1 - (i : Int) = a := ⟨n - 1 - i, by omega⟩
    have hsr' := spansF_rg (g := g')
    obtain ⟨m, hm⟩ : ∃ m : Nat, spansF g' = m := ⟨(spansF g').toNat, by omega⟩
    have hfa : f' a = f a := p4 a (by omega)
    obtain ⟨c1, c2, c3, c4, c5, c6, c7⟩ := p2.2.2.1 a (by omega)
    obtain ⟨d1, d2, -⟩ := hf.2.2.1 a (by omega)
    have hinj : ∀ j : Nat, (j : Int) < n → f j = f a → j = a := fun j hj e => by
      by_cases c : j < a
      · have := hf.2.2.2.2 j a c (by omega)
        rw [e] at this
        omega
      · by_cases c2 : a < j
        · have := hf.2.2.2.2 a j c2 (by omega)
          rw [e] at this
          omega
        · omega
    rw [hfa] at c1 c2 c3 c4 c5 c6 c7
    have c64 : G' (s + 30) a = mSpan g (f a) 4 := by rw [c6, (p6 _ 4 d1 (by omega)).2 fun h => by have := h.1; omega]
    have hr4 := hrg (f a) d1
    have hG0 := p2.1
    rw [hm] at hG0
    rw [ha]
    have ha2 : (a : Int) + -1 = (n : Int) - 1 - ((i + 1 : Nat) : Int) := by omega
    have hno : mSpan g' (f a) 0 = mSpan g (f a) 0 := by
      refine (p6 _ 0 d1 (by omega)).2 ?_
      rintro ⟨_, _, j, h1, h2, h3⟩
      have := hinj j (by omega) h3
      omega
    have hup : ∀ k w, goS g f t n i k w → goS g f t n (i + 1) k w := fun k w ⟨x1, x2, j, x3, x4, x5⟩ => ⟨x1, x2, j, by omega, x4, x5⟩
    have hdn : ∀ k w, goS g f t n (i + 1) k w → k = f a ∧ w = 0 ∧ mSpan g (f a) 4 ≤ t ∨ goS g f t n i k w := fun k w ⟨x1, x2, j, x3, x4, x5⟩ => by
      by_cases ej : j = a
      · subst ej
        exact Or.inl ⟨x5.symm, x1, by rw [x5]; exact x2⟩
      · exact Or.inr ⟨x1, x2, j, by omega, x4, x5⟩
    have hgo : mSpan g (f a) 4 ≤ t → goS g f t n (i + 1) (f a) 0 := fun h => ⟨rfl, h, a, by omega, by omega, rfl⟩
    generalize hv4 : mSpan g (f a) 4 = v4 at *
    repeat' first | with_reducible apply wSeq | with_reducible apply wSkip | with_reducible apply wIf | with_reducible apply wAsI | ((with_reducible apply wInc); rfl) | with_reducible apply wKil | with_reducible apply wRV | with_reducible apply wVd | with_reducible apply wB_e | (intro h; try simp only [Bool.and_eq_true, Bool.or_eq_true, Bool.not_eq_true', Bool.not_eq_false', Bool.and_eq_false_imp, Bool.or_eq_false_iff, decide_eq_true_eq, decide_eq_false_iff_not, Bool.not_true, Bool.not_false, Bool.true_eq_false, Bool.false_eq_true, Bool.not_not] at h) | with_reducible apply wN1 | with_reducible apply wN2 | with_reducible apply wN3 | with_reducible apply wN4 | with_reducible apply wN0 | with_reducible apply wE0 | with_reducible apply wXI | with_reducible apply wXB | with_reducible exact eK | ((with_reducible apply eL); rfl) | ((with_reducible apply eLR); rfl) | with_reducible exact eAN | with_reducible apply eSub | with_reducible apply eLe | with_reducible apply eGe | with_reducible apply eArr2 | with_reducible apply eFld2 | with_reducible apply eAI | with_reducible apply eAR | with_reducible apply eCI | with_reducible apply eCZ | with_reducible apply wRc | with_reducible apply R_Spans_to | with_reducible exact C_Spans (by assumption) | with_reducible exact K_Spans_size (by assumption) | with_reducible exact N_Spans_to (by assumption) | with_reducible exact Int.toNat_natCast _ | with_reducible exact tn0 | with_reducible exact tn1 | with_reducible exact tn2 | with_reducible exact tn3 | with_reducible exact tn4 | with_reducible exact tn5 | with_reducible exact tn6 | with_reducible exact tn7 | with_reducible exact tn8 | with_reducible exact tn9 | with_reducible exact tn10 | with_reducible exact tn11 | with_reducible exact tn12 | with_reducible exact tn13 | with_reducible exact tn14 | with_reducible exact tn15 | with_reducible exact tn16 | with_reducible exact tnK0 | with_reducible exact tnK4 | with_reducible exact tnK8 | with_reducible exact tnK12 | with_reducible exact tnK16 | with_reducible exact tnK20 | with_reducible exact tnK24 | with_reducible exact tnK28 | with_reducible exact tnK32 | with_reducible exact tnJA | with_reducible exact tnA | with_reducible exact upR_s | ((with_reducible apply upR_a); (first | decide | omega)) | ((with_reducible apply upR_b); (first | decide | omega)) | with_reducible apply lt_pSet1 | with_reducible apply lt_kil | exact Nat.le_of_ble_eq_true rfl | with_reducible assumption | with_reducible exact rfl | omega | with_reducible apply wAnd | decide +kernel
    · refine Sp_remove (n := m) (a := a) hsp hG0 (by omega) (by omega) (fun G2 q1 q2 q3 q4 => ⟨rfl, ?_⟩)
      have hoff := relSf_off (G' := G2) (a := a) p2 (by omega) (by rw [hm]; exact q2) q3 (fun d hd i hi => q4 d hd i (by omega))
      rw [hfa] at hoff
      repeat' first | with_reducible apply wSeq | with_reducible apply wSkip | with_reducible apply wIf | with_reducible apply wAsI | ((with_reducible apply wInc); rfl) | with_reducible apply wKil | with_reducible apply wRV | with_reducible apply wVd | with_reducible apply wB_e | (intro h; try simp only [Bool.and_eq_true, Bool.or_eq_true, Bool.not_eq_true', Bool.not_eq_false', Bool.and_eq_false_imp, Bool.or_eq_false_iff, decide_eq_true_eq, decide_eq_false_iff_not, Bool.not_true, Bool.not_false, Bool.true_eq_false, Bool.false_eq_true, Bool.not_not] at h) | with_reducible apply wN1 | with_reducible apply wN2 | with_reducible apply wN3 | with_reducible apply wN4 | with_reducible apply wN0 | with_reducible apply wE0 | with_reducible apply wXI | with_reducible apply wXB | with_reducible exact eK | ((with_reducible apply eL); rfl) | ((with_reducible apply eLR); rfl) | with_reducible exact eAN | with_reducible apply eSub | with_reducible apply eLe | with_reducible apply eGe | with_reducible apply eArr2 | with_reducible apply eFld2 | with_reducible apply eAI | with_reducible apply eAR | with_reducible apply eCI | with_reducible apply eCZ | with_reducible apply wRc | with_reducible apply R_Spans_to | with_reducible exact C_Spans (by assumption) | with_reducible exact K_Spans_size (by assumption) | with_reducible exact N_Spans_to (by assumption) | with_reducible exact Int.toNat_natCast _ | with_reducible exact tn0 | with_reducible exact tn1 | with_reducible exact tn2 | with_reducible exact tn3 | with_reducible exact tn4 | with_reducible exact tn5 | with_reducible exact tn6 | with_reducible exact tn7 | with_reducible exact tn8 | with_reducible exact tn9 | with_reducible exact tn10 | with_reducible exact tn11 | with_reducible exact tn12 | with_reducible exact tn13 | with_reducible exact tn14 | with_reducible exact tn15 | with_reducible exact tn16 | with_reducible exact tnK0 | with_reducible exact tnK4 | with_reducible exact tnK8 | with_reducible exact tnK12 | with_reducible exact tnK16 | with_reducible exact tnK20 | with_reducible exact tnK24 | with_reducible exact tnK28 | with_reducible exact tnK32 | with_reducible exact tnJA | with_reducible exact tnA | with_reducible exact upR_s | ((with_reducible apply upR_a); (first | decide | omega)) | ((with_reducible apply upR_b); (first | decide | omega)) | with_reducible apply lt_pSet1 | with_reducible apply lt_kil | exact Nat.le_of_ble_eq_true rfl | with_reducible assumption | with_reducible exact rfl | omega | with_reducible apply wAnd | decide +kernel
      refine ⟨G2, _, _, by rw [ha2]; rfl, rfl, fun x hx => by rw [q1 x (by omega)]; exact p1 x hx, hoff, ?_, fun j hj => ?_, by rw [put_o (by omega)]; exact p5, fun k w hk hw => ?_⟩
      · rw [spansF_off d1 (by rw [hno]; exact d2)]
        omega
      · show (if j < a then f' j else f' (j + 1)) = f j
        rw [if_pos (by omega)]
        exact p4 j (by omega)
      · rw [mSpan_put hw]
        by_cases e : k = f a ∧ w = 0
        · obtain ⟨rfl, rfl⟩ := e
          rw [if_pos ⟨rfl, rfl⟩]
          exact ⟨fun _ => rfl, fun h2 => absurd (hgo (by omega)) h2⟩
        · rw [if_neg e]
          obtain ⟨y1, y2⟩ := p6 k w hk hw
          refine ⟨fun h2 => ?_, fun h2 => y2 fun h3 => h2 (hup k w h3)⟩
          rcases hdn k w h2 with h3 | h3
          · exact absurd ⟨h3.1, h3.2.1⟩ e
          · exact y1 h3
    · refine ⟨G', g', f', by rw [ha2]; rfl, rfl, p1, p2, by omega, fun j hj => p4 j (by omega), p5, fun k w hk hw => ?_⟩
      obtain ⟨y1, y2⟩ := p6 k w hk hw
      refine ⟨fun h2 => ?_, fun h2 => y2 fun h3 => h2 (hup k w h3)⟩
      rcases hdn k w h2 with h3 | h3
      · omega
      · exact y1 h3
  · have e : i = n := by omega
    subst e
    have e1 : (i : Int) - 1 - (i : Int) = -1 := by omega
    have hfin := hR G' p1 ⟨f', relSf_cells p2 (by unfold endsS; rw [if_neg (by omega)]; exact p5.symm) (fun k w hk hw => ?_)⟩
    · rw [e1]
      repeat' first | with_reducible apply wSeq | with_reducible apply wSkip | with_reducible apply wIf | with_reducible apply wAsI | ((with_reducible apply wInc); rfl) | with_reducible apply wKil | with_reducible apply wRV | with_reducible apply wVd | with_reducible apply wB_e | (intro h; try simp only [Bool.and_eq_true, Bool.or_eq_true, Bool.not_eq_true', Bool.not_eq_false', Bool.and_eq_false_imp, Bool.or_eq_false_iff, decide_eq_true_eq, decide_eq_false_iff_not, Bool.not_true, Bool.not_false, Bool.true_eq_false, Bool.false_eq_true, Bool.not_not] at h) | with_reducible apply wN1 | with_reducible apply wN2 | with_reducible apply wN3 | with_reducible apply wN4 | with_reducible apply wN0 | with_reducible apply wE0 | with_reducible apply wXI | with_reducible apply wXB | with_reducible exact eK | ((with_reducible apply eL); rfl) | ((with_reducible apply eLR); rfl) | with_reducible exact eAN | with_reducible apply eSub | with_reducible apply eLe | with_reducible apply eGe | with_reducible apply eArr2 | with_reducible apply eFld2 | with_reducible apply eAI | with_reducible apply eAR | with_reducible apply eCI | with_reducible apply eCZ | with_reducible apply wRc | with_reducible apply R_Spans_to | with_reducible exact C_Spans (by assumption) | with_reducible exact K_Spans_size (by assumption) | with_reducible exact N_Spans_to (by assumption) | with_reducible exact Int.toNat_natCast _ | with_reducible exact tn0 | with_reducible exact tn1 | with_reducible exact tn2 | with_reducible exact tn3 | with_reducible exact tn4 | with_reducible exact tn5 | with_reducible exact tn6 | with_reducible exact tn7 | with_reducible exact tn8 | with_reducible exact tn9 | with_reducible exact tn10 | with_reducible exact tn11 | with_reducible exact tn12 | with_reducible exact tn13 | with_reducible exact tn14 | with_reducible exact tn15 | with_reducible exact tn16 | with_reducible exact tnK0 | with_reducible exact tnK4 | with_reducible exact tnK8 | with_reducible exact tnK12 | with_reducible exact tnK16 | with_reducible exact tnK20 | with_reducible exact tnK24 | with_reducible exact tnK28 | with_reducible exact tnK32 | with_reducible exact tnJA | with_reducible exact tnA | with_reducible exact upR_s | ((with_reducible apply upR_a); (first | decide | omega)) | ((with_reducible apply upR_b); (first | decide | omega)) | with_reducible apply lt_pSet1 | with_reducible apply lt_kil | exact Nat.le_of_ble_eq_true rfl | with_reducible assumption | with_reducible exact rfl | omega | with_reducible apply wAnd | decide +kernel
    · rw [endsS_span hk hw]
      obtain ⟨y1, y2⟩ := p6 k w hk hw
      by_cases c : w = 0 ∧ 0 ≤ mSpan g k 0 ∧ mSpan g k 4 ≤ t
      · obtain ⟨j, hj, hjk⟩ := hf.2.2.2.1 k hk c.2.1
        rw [if_pos c, y1 ⟨c.1, c.2.2, j, by omega, by omega, hjk⟩]
      · rw [if_neg c, y2]
        rintro ⟨x1, x2, j, x3, x4, x5⟩
        have := (hf.2.2.1 j (by omega)).2.1
        rw [x5] at this
        exact c ⟨x1, this, x2⟩
