/-! ===== the class's gangs: their order is the one in which the reference picks ===== -/
def gO (w : Nat → Int) : Nat → Nat → Nat
  | 0 => fun _ => 0
  | j + 1 => insF (gO w j) (insK (fun x => decide (w x < w j)) (gO w j) j) j
theorem insK_p {p : Nat → Bool} {f : Nat → Nat} : ∀ n, (∀ b, insK p f n ≤ b → b < n → p (f b) = true) ∧ (0 < insK p f n → p (f (insK p f n - 1)) = false)
  | 0 => ⟨fun b _ h => absurd h (by omega), fun h => absurd h (by rw [insK]; omega)⟩
  | n + 1 => by
    have ih := insK_p (p := p) (f := f) n
    rw [insK]
    by_cases c : p (f n) = true
    · rw [if_pos c]
      refine ⟨fun b h1 h2 => ?_, ih.2⟩
      by_cases e : b = n
      · subst e; exact c
      · exact ih.1 b h1 (by omega)
    · rw [if_neg c]
      refine ⟨fun b h1 h2 => by omega, fun _ => ?_⟩
      rw [Nat.add_sub_cancel]
      simpa using c
def bef (w : Nat → Int) (x y : Nat) : Prop := w y < w x ∨ (w x = w y ∧ x < y)
theorem gO_p {w : Nat → Int} : ∀ j, (∀ b, b < j → gO w j b < j) ∧ (∀ x, x < j → ∃ b, b < j ∧ gO w j b = x) ∧ ∀ b c, b < c → c < j → bef w (gO w j b) (gO w j c)
  | 0 => ⟨fun b h => by omega, fun b h => by omega, fun b c h h2 => by omega⟩
  | j + 1 => by
    obtain ⟨h1, h2, h3⟩ := gO_p (w := w) j
    have hk := insK_le (p := fun x => decide (w x < w j)) (f := gO w j) j
    obtain ⟨q1, q2⟩ := insK_p (p := fun x => decide (w x < w j)) (f := gO w j) j
    rw [gO]
    generalize insK (fun x => decide (w x < w j)) (gO w j) j = k at *
    generalize gO w j = f at *
    simp only [decide_eq_true_eq, decide_eq_false_iff_not] at q1 q2
    have hb : ∀ b, b < k → bef w (f b) j := by
      intro b hb
      have h5 := q2 (by omega)
      have h6 := h1 b (by omega)
      by_cases e : b = k - 1
      · subst e
        by_cases c : w (f (k - 1)) = w j
        · exact Or.inr ⟨c, h6⟩
        · exact Or.inl (by omega)
      · have h7 := h3 b (k - 1) (by omega) (by omega)
        rcases h7 with h7 | h7
        · exact Or.inl (by omega)
        · by_cases c : w (f b) = w j
          · exact Or.inr ⟨c, h6⟩
          · exact Or.inl (by omega)
    have ha : ∀ b, k ≤ b → b < j → bef w j (f b) := fun b h4 h5 => Or.inl (q1 b h4 h5)
    refine ⟨fun b hb => ?_, fun x hx => ?_, fun b c h4 h5 => ?_⟩
    · unfold insF
      split
      · have := h1 b (by omega); omega
      · split
        · omega
        · have := h1 (b - 1) (by omega); omega
    · by_cases e : x = j
      · subst e
        exact ⟨k, by omega, by simp [insF]⟩
      · obtain ⟨b, hb1, hb2⟩ := h2 x (by omega)
        by_cases c : b < k
        · exact ⟨b, by omega, by simp [insF, c, hb2]⟩
        · exact ⟨b + 1, by omega, by simp [insF, show ¬ b + 1 < k by omega, show ¬ b + 1 = k by omega, hb2]⟩
    · unfold insF
      by_cases c1 : c < k
      · rw [if_pos (by omega), if_pos c1]
        exact h3 b c h4 (by omega)
      · by_cases c2 : c = k
        · rw [if_pos (by omega), if_neg c1, if_pos c2]
          exact hb b (by omega)
        · rw [if_neg c1, if_neg c2]
          by_cases c3 : b < k
          · rw [if_pos c3]
            by_cases e : b = c - 1
            · omega
            · exact h3 b (c - 1) (by omega) (by omega)
          · rw [if_neg c3]
            by_cases c4 : b = k
            · rw [if_pos c4]
              exact ha (c - 1) (by omega) (by omega)
            · rw [if_neg c4]
              exact h3 (b - 1) (c - 1) (by omega) (by omega)
theorem pickW_is {w : Nat → Int} {P n x : Nat} (hP : P.testBit x = false) (hb : ∀ y, y < n → P.testBit y = false → y ≠ x → bef w x y) : ∀ i, i ≤ n → (x < i → pickW w P i = x) ∧ (i ≤ x → pickW w P i < 0 ∨ (0 ≤ pickW w P i ∧ w (pickW w P i).toNat < w x))
  | 0, _ => ⟨fun h => by omega, fun _ => Or.inl (by rw [pickW]; omega)⟩
  | i + 1, hi => by
    obtain ⟨h1, h2⟩ := pickW_is hP hb i (by omega)
    rw [pickW]
    constructor
    · intro hx
      by_cases e : i = x
      · subst e
        have h3 := h2 (Nat.le_refl _)
        rw [if_pos]
        simp only [hP, Bool.not_false, Bool.true_and, Bool.or_eq_true, decide_eq_true_eq]
        rcases h3 with h3 | h3
        · exact Or.inl h3
        · exact Or.inr h3.2
      · have h3 := h1 (by omega)
        rw [h3, if_neg]
        simp only [Bool.and_eq_true, Bool.or_eq_true, decide_eq_true_eq, Bool.not_eq_true', Int.toNat_natCast]
        rintro ⟨h4, h5⟩
        have h6 := hb i (by omega) h4 e
        rcases h6 with h6 | h6 <;> rcases h5 with h5 | h5 <;> omega
    · intro hx
      have h3 := h2 (by omega)
      by_cases c : (!P.testBit i && (decide (pickW w P i < 0) || decide (w (pickW w P i).toNat < w i))) = true
      · rw [if_pos c]
        simp only [Bool.and_eq_true, Bool.not_eq_true'] at c
        have h6 := hb i (by omega) c.1 (by omega)
        refine Or.inr ⟨by omega, ?_⟩
        rw [Int.toNat_natCast]
        rcases h6 with h6 | h6 <;> omega
      · rw [if_neg c]
        exact h3
theorem plW_ord {w : Nat → Int} {n : Nat} : ∀ k, k ≤ n → (∀ c, (plW w n k).testBit c = true ↔ ∃ b, b < k ∧ gO w n b = c) ∧ ∀ b, b < k → nxW w n b = gO w n b
  | 0, _ => ⟨fun c => by simp [plW], fun b h => by omega⟩
  | k + 1, hk => by
    obtain ⟨h1, h2⟩ := plW_ord (w := w) (n := n) k (by omega)
    obtain ⟨g1, g2, g3⟩ := gO_p (w := w) n
    have hx : nxW w n k = gO w n k := by
      unfold nxW
      have hP : (plW w n k).testBit (gO w n k) = false := by
        rw [← Bool.not_eq_true, h1]
        rintro ⟨b, hb1, hb2⟩
        have := g3 b k hb1 (by omega)
        rw [hb2] at this
        rcases this with h | h <;> omega
      have := (pickW_is (w := w) (n := n) hP (fun y hy hy2 hy3 => by
        obtain ⟨b, hb1, hb2⟩ := g2 y hy
        subst hb2
        have hbk : ¬ b < k := fun h => by
          have : (plW w n k).testBit (gO w n b) = true := (h1 _).mpr ⟨b, h, rfl⟩
          rw [hy2] at this
          cases this
        have : b ≠ k := fun e => hy3 (by rw [e])
        exact g3 k b (by omega) hb1) n (Nat.le_refl _)).1 (g1 k (by omega))
      rw [this, Int.toNat_natCast]
    refine ⟨fun c => ?_, fun b hb => ?_⟩
    · have hp : plW w n (k + 1) = plW w n k ||| 2 ^ nxW w n k := rfl
      rw [hp, Nat.testBit_or, Bool.or_eq_true, h1, Nat.testBit_two_pow, hx, decide_eq_true_eq]
      constructor
      · rintro (⟨b, hb1, hb2⟩ | h)
        · exact ⟨b, by omega, hb2⟩
        · exact ⟨k, by omega, h⟩
      · rintro ⟨b, hb1, hb2⟩
        by_cases e : b = k
        · subst e; exact Or.inr hb2
        · exact Or.inl ⟨b, by omega, hb2⟩
    · by_cases e : b = k
      · subst e; exact hx
      · exact h2 b (by omega)
theorem nxW_ord {w : Nat → Int} {n b : Nat} (h : b < n) : nxW w n b = gO w n b := (plW_ord n (Nat.le_refl _)).2 b h
theorem insK_congr {p p' : Nat → Bool} {f : Nat → Nat} : ∀ n, (∀ b, b < n → p (f b) = p' (f b)) → insK p f n = insK p' f n
  | 0, _ => rfl
  | n + 1, h => by
    rw [insK, insK, h n (by omega), insK_congr n (fun b hb => h b (by omega))]
theorem gO_cut {w : Nat → Int} {n : Nat} {d : Int} : ∀ j, j ≤ n → gO (cut d n w) j = gO w j
  | 0, _ => rfl
  | j + 1, hj => by
    rw [gO, gO, gO_cut j (by omega)]
    have := insK_congr (p := fun x => decide (cut d n w x < cut d n w j)) (p' := fun x => decide (w x < w j)) (f := gO w j) j (fun b hb => by
      have := (gO_p (w := w) j).1 b hb
      simp only [cut, show gO w j b < n by omega, show j < n by omega, if_true])
    rw [this]
theorem nxW_gO {w : Nat → Int} {n b : Nat} (h : b < n) : nxW (cut 0 n w) n b = gO w n b := by rw [nxW_ord h, gO_cut n (Nat.le_refl _)]
def gangIs (G : Nat → Nat → Int) (q n : Nat) (w k : Nat → Int) : Prop := G q 0 = (n : Int) ∧ (∀ a, a < n → G (q + 1) a = w a ∧ G (q + 2) a = k a) ∧ ∀ i, i < n → G (q + 4) i = (nxW (cut 0 n w) n i : Int)
theorem Gg_add {G U : Nat → Nat → Int} {q n : Nat} {w k : Int} (hq : isGang q) (hn : G q 0 = (n : Int)) (h4 : n < 4) : F_Gang_add [pR q, pI (Int32.ofInt w), pI (Int32.ofInt k)] (zM G U) = some (none, zM (upZ (upZ (upZ G (q + 1) n w) (q + 2) n k) q 0 ((n : Int) + 1)) U) := by
  apply wF_to
  unfold F_Gang_add B_Gang_add
  apply wBody (Nat.le_of_ble_eq_true rfl)
  repeat' first | with_reducible apply wSeq | with_reducible apply wSkip | with_reducible apply wIf | with_reducible apply wRV | with_reducible apply wModA2 | with_reducible apply wModS2 | with_reducible apply wModO2 | with_reducible apply wAst2 | with_reducible apply wB_e | (intro h; try simp only [Bool.and_eq_true, Bool.or_eq_true, Bool.not_eq_true', Bool.not_eq_false', Bool.and_eq_false_imp, Bool.or_eq_false_iff, decide_eq_true_eq, decide_eq_false_iff_not, Bool.not_true, Bool.not_false, Bool.true_eq_false, Bool.false_eq_true, Bool.not_not] at h) | with_reducible apply wN1 | with_reducible apply wN2 | with_reducible apply wN3 | with_reducible apply wN4 | with_reducible apply wN0 | with_reducible apply wE0 | with_reducible apply wXI | with_reducible apply wXB | with_reducible exact eK | ((with_reducible apply eL); rfl) | ((with_reducible apply eLR); rfl) | with_reducible exact eAN | with_reducible apply eAdd | with_reducible apply eLt | with_reducible apply eFld2 | with_reducible apply R_Gang_wide | with_reducible apply R_Gang_asks | with_reducible exact K_Gang_size (by assumption) | with_reducible exact N_Gang_wide (by assumption) | with_reducible exact N_Gang_asks (by assumption) | with_reducible exact Int.toNat_natCast _ | with_reducible exact tn0 | with_reducible exact tn1 | with_reducible exact tn2 | with_reducible exact tn3 | with_reducible exact tn4 | with_reducible exact tn5 | with_reducible exact tn6 | with_reducible exact tn7 | with_reducible exact tn8 | with_reducible exact tn9 | with_reducible exact tn10 | with_reducible exact tn11 | with_reducible exact tn12 | with_reducible exact tn13 | with_reducible exact tn14 | with_reducible exact tn15 | with_reducible exact tn16 | with_reducible exact tnK0 | with_reducible exact tnK4 | with_reducible exact tnK8 | with_reducible exact tnK12 | with_reducible exact tnK16 | with_reducible exact tnK20 | with_reducible exact tnK24 | with_reducible exact tnK28 | with_reducible exact tnK32 | with_reducible exact tnJA | with_reducible exact tnA | with_reducible exact upR_s | ((with_reducible apply upR_a); (first | decide | omega)) | ((with_reducible apply upR_b); (first | decide | omega)) | exact Nat.le_of_ble_eq_true rfl | with_reducible assumption | with_reducible exact rfl | omega | with_reducible apply wAnd | decide +kernel
theorem Gg_arrange {G U : Nat → Nat → Int} {q n : Nat} {w : Nat → Int} {R : Option pV → pM → Prop} (hq : isGang q) (hn : G q 0 = (n : Int)) (h4 : n ≤ 4) (hw : ∀ a, a < n → G (q + 1) a = w a ∧ rg (w a)) (hR : ∀ F, (∀ i, i < n → F i = (gO w n i : Int)) → R none (zM (setRow G (q + 4) F) U)) : WpF F_Gang_arrange [pR q] (zM G U) R := by
  unfold F_Gang_arrange B_Gang_arrange
  apply wBody (Nat.le_of_ble_eq_true rfl)
  repeat' first | with_reducible apply wSeq | with_reducible apply wSkip | with_reducible apply wAsI | ((with_reducible apply wInc); rfl) | with_reducible apply wKil | with_reducible apply wRV | with_reducible apply wAst2 | with_reducible apply wB_e | (intro h; try simp only [Bool.and_eq_true, Bool.or_eq_true, Bool.not_eq_true', Bool.not_eq_false', Bool.and_eq_false_imp, Bool.or_eq_false_iff, decide_eq_true_eq, decide_eq_false_iff_not, Bool.not_true, Bool.not_false, Bool.true_eq_false, Bool.false_eq_true, Bool.not_not] at h) | with_reducible apply wN1 | with_reducible apply wN2 | with_reducible apply wN3 | with_reducible apply wN4 | with_reducible apply wN0 | with_reducible apply wE0 | with_reducible apply wXI | with_reducible apply wXB | with_reducible exact eK | ((with_reducible apply eL); rfl) | ((with_reducible apply eLR); rfl) | with_reducible exact eAN | with_reducible apply eSub | with_reducible apply eLt | with_reducible apply eGt | with_reducible apply eAnd | with_reducible apply eArr2 | with_reducible apply eFld2 | with_reducible apply R_Gang_wide | with_reducible apply R_Gang_order | with_reducible exact K_Gang_size (by assumption) | with_reducible exact N_Gang_wide (by assumption) | with_reducible exact N_Gang_order (by assumption) | with_reducible exact Int.toNat_natCast _ | with_reducible exact tn0 | with_reducible exact tn1 | with_reducible exact tn2 | with_reducible exact tn3 | with_reducible exact tn4 | with_reducible exact tn5 | with_reducible exact tn6 | with_reducible exact tn7 | with_reducible exact tn8 | with_reducible exact tn9 | with_reducible exact tn10 | with_reducible exact tn11 | with_reducible exact tn12 | with_reducible exact tn13 | with_reducible exact tn14 | with_reducible exact tn15 | with_reducible exact tn16 | with_reducible exact tnK0 | with_reducible exact tnK4 | with_reducible exact tnK8 | with_reducible exact tnK12 | with_reducible exact tnK16 | with_reducible exact tnK20 | with_reducible exact tnK24 | with_reducible exact tnK28 | with_reducible exact tnK32 | with_reducible exact tnJA | with_reducible exact tnA | with_reducible exact upR_s | ((with_reducible apply upR_a); (first | decide | omega)) | ((with_reducible apply upR_b); (first | decide | omega)) | exact Nat.le_of_ble_eq_true rfl | with_reducible assumption | with_reducible exact rfl | omega | with_reducible apply wAnd | decide +kernel
  refine wWh (fun j L σ => ∃ F, L = [some (pR q), some (pI (Int32.ofInt (j : Int))), none] ∧ σ = zM (setRow G (q + 4) F) U ∧ ∀ b, b < j → F b = (gO w j b : Int)) n (by omega) ⟨G (q + 4), rfl, by rw [setRow_0], fun b h => absurd h (Nat.not_lt_zero b)⟩ ?_
  rintro j _ _ hj ⟨F, rfl, rfl, hF⟩
  have e0 : setRow G (q + 4) F q 0 = (n : Int) := by rw [setRow_o (by omega)]; exact hn
  rcases Nat.lt_or_ge j n with hlt | hge
  · have hln := (gO_p (w := w) j).1
    have hss : gO w (j + 1) = insF (gO w j) (insK (fun x => decide (w x < w j)) (gO w j) j) j := rfl
    rw [hss]
    clear hss
    generalize gO w j = f at *
    repeat' first | with_reducible apply wSeq | with_reducible apply wSkip | with_reducible apply wAsI | ((with_reducible apply wInc); rfl) | with_reducible apply wKil | with_reducible apply wRV | with_reducible apply wAst2 | with_reducible apply wB_e | (intro h; try simp only [Bool.and_eq_true, Bool.or_eq_true, Bool.not_eq_true', Bool.not_eq_false', Bool.and_eq_false_imp, Bool.or_eq_false_iff, decide_eq_true_eq, decide_eq_false_iff_not, Bool.not_true, Bool.not_false, Bool.true_eq_false, Bool.false_eq_true, Bool.not_not] at h) | with_reducible apply wN1 | with_reducible apply wN2 | with_reducible apply wN3 | with_reducible apply wN4 | with_reducible apply wN0 | with_reducible apply wE0 | with_reducible apply wXI | with_reducible apply wXB | with_reducible exact eK | ((with_reducible apply eL); rfl) | ((with_reducible apply eLR); rfl) | with_reducible exact eAN | with_reducible apply eSub | with_reducible apply eLt | with_reducible apply eGt | with_reducible apply eAnd | with_reducible apply eArr2 | with_reducible apply eFld2 | with_reducible apply R_Gang_wide | with_reducible apply R_Gang_order | with_reducible exact K_Gang_size (by assumption) | with_reducible exact N_Gang_wide (by assumption) | with_reducible exact N_Gang_order (by assumption) | with_reducible exact Int.toNat_natCast _ | with_reducible exact tn0 | with_reducible exact tn1 | with_reducible exact tn2 | with_reducible exact tn3 | with_reducible exact tn4 | with_reducible exact tn5 | with_reducible exact tn6 | with_reducible exact tn7 | with_reducible exact tn8 | with_reducible exact tn9 | with_reducible exact tn10 | with_reducible exact tn11 | with_reducible exact tn12 | with_reducible exact tn13 | with_reducible exact tn14 | with_reducible exact tn15 | with_reducible exact tn16 | with_reducible exact tnK0 | with_reducible exact tnK4 | with_reducible exact tnK8 | with_reducible exact tnK12 | with_reducible exact tnK16 | with_reducible exact tnK20 | with_reducible exact tnK24 | with_reducible exact tnK28 | with_reducible exact tnK32 | with_reducible exact tnJA | with_reducible exact tnA | with_reducible exact upR_s | ((with_reducible apply upR_a); (first | decide | omega)) | ((with_reducible apply upR_b); (first | decide | omega)) | exact Nat.le_of_ble_eq_true rfl | with_reducible assumption | with_reducible exact rfl | omega | with_reducible apply wAnd | decide +kernel
    refine wWh (fun t L σ => ∃ F k, j = t + k ∧ L = [some (pR q), some (pI (Int32.ofInt (j : Int))), some (pI (Int32.ofInt (k : Int)))] ∧ σ = zM (setRow G (q + 4) F) U ∧ insSt f j t F ∧ insK (fun x => decide (w x < w j)) f j = insK (fun x => decide (w x < w j)) f k) j (by omega) ⟨F, j, by omega, rfl, rfl, insSt_0 hF, rfl⟩ ?_
    clear hF e0 F
    rintro t _ _ ht ⟨F, k, hk, rfl, rfl, hst, hik⟩
    cases k with
    | zero =>
      apply wB_e (p := false && false) (τ := zM (setRow G (q + 4) F) U)
      · refine eAnd ?_ (fun h => by cases h)
        show _ = some (decide ((0 : Int) < ((0 : Nat) : Int)), _)
        repeat' first | with_reducible apply wSeq | with_reducible apply wSkip | with_reducible apply wAsI | ((with_reducible apply wInc); rfl) | with_reducible apply wKil | with_reducible apply wRV | with_reducible apply wAst2 | with_reducible apply wB_e | (intro h; try simp only [Bool.and_eq_true, Bool.or_eq_true, Bool.not_eq_true', Bool.not_eq_false', Bool.and_eq_false_imp, Bool.or_eq_false_iff, decide_eq_true_eq, decide_eq_false_iff_not, Bool.not_true, Bool.not_false, Bool.true_eq_false, Bool.false_eq_true, Bool.not_not] at h) | with_reducible apply wN1 | with_reducible apply wN2 | with_reducible apply wN3 | with_reducible apply wN4 | with_reducible apply wN0 | with_reducible apply wE0 | with_reducible apply wXI | with_reducible apply wXB | with_reducible exact eK | ((with_reducible apply eL); rfl) | ((with_reducible apply eLR); rfl) | with_reducible exact eAN | with_reducible apply eSub | with_reducible apply eLt | with_reducible apply eGt | with_reducible apply eAnd | with_reducible apply eArr2 | with_reducible apply eFld2 | with_reducible apply R_Gang_wide | with_reducible apply R_Gang_order | with_reducible exact K_Gang_size (by assumption) | with_reducible exact N_Gang_wide (by assumption) | with_reducible exact N_Gang_order (by assumption) | with_reducible exact Int.toNat_natCast _ | with_reducible exact tn0 | with_reducible exact tn1 | with_reducible exact tn2 | with_reducible exact tn3 | with_reducible exact tn4 | with_reducible exact tn5 | with_reducible exact tn6 | with_reducible exact tn7 | with_reducible exact tn8 | with_reducible exact tn9 | with_reducible exact tn10 | with_reducible exact tn11 | with_reducible exact tn12 | with_reducible exact tn13 | with_reducible exact tn14 | with_reducible exact tn15 | with_reducible exact tn16 | with_reducible exact tnK0 | with_reducible exact tnK4 | with_reducible exact tnK8 | with_reducible exact tnK12 | with_reducible exact tnK16 | with_reducible exact tnK20 | with_reducible exact tnK24 | with_reducible exact tnK28 | with_reducible exact tnK32 | with_reducible exact tnJA | with_reducible exact tnA | with_reducible exact upR_s | ((with_reducible apply upR_a); (first | decide | omega)) | ((with_reducible apply upR_b); (first | decide | omega)) | exact Nat.le_of_ble_eq_true rfl | with_reducible assumption | with_reducible exact rfl | omega | with_reducible apply wAnd | decide +kernel
      · intro h; cases h
      · intro _
        repeat' first | with_reducible apply wSeq | with_reducible apply wSkip | with_reducible apply wAsI | ((with_reducible apply wInc); rfl) | with_reducible apply wKil | with_reducible apply wRV | with_reducible apply wAst2 | with_reducible apply wB_e | (intro h; try simp only [Bool.and_eq_true, Bool.or_eq_true, Bool.not_eq_true', Bool.not_eq_false', Bool.and_eq_false_imp, Bool.or_eq_false_iff, decide_eq_true_eq, decide_eq_false_iff_not, Bool.not_true, Bool.not_false, Bool.true_eq_false, Bool.false_eq_true, Bool.not_not] at h) | with_reducible apply wN1 | with_reducible apply wN2 | with_reducible apply wN3 | with_reducible apply wN4 | with_reducible apply wN0 | with_reducible apply wE0 | with_reducible apply wXI | with_reducible apply wXB | with_reducible exact eK | ((with_reducible apply eL); rfl) | ((with_reducible apply eLR); rfl) | with_reducible exact eAN | with_reducible apply eSub | with_reducible apply eLt | with_reducible apply eGt | with_reducible apply eAnd | with_reducible apply eArr2 | with_reducible apply eFld2 | with_reducible apply R_Gang_wide | with_reducible apply R_Gang_order | with_reducible exact K_Gang_size (by assumption) | with_reducible exact N_Gang_wide (by assumption) | with_reducible exact N_Gang_order (by assumption) | with_reducible exact Int.toNat_natCast _ | with_reducible exact tn0 | with_reducible exact tn1 | with_reducible exact tn2 | with_reducible exact tn3 | with_reducible exact tn4 | with_reducible exact tn5 | with_reducible exact tn6 | with_reducible exact tn7 | with_reducible exact tn8 | with_reducible exact tn9 | with_reducible exact tn10 | with_reducible exact tn11 | with_reducible exact tn12 | with_reducible exact tn13 | with_reducible exact tn14 | with_reducible exact tn15 | with_reducible exact tn16 | with_reducible exact tnK0 | with_reducible exact tnK4 | with_reducible exact tnK8 | with_reducible exact tnK12 | with_reducible exact tnK16 | with_reducible exact tnK20 | with_reducible exact tnK24 | with_reducible exact tnK28 | with_reducible exact tnK32 | with_reducible exact tnJA | with_reducible exact tnA | with_reducible exact upR_s | ((with_reducible apply upR_a); (first | decide | omega)) | ((with_reducible apply upR_b); (first | decide | omega)) | exact Nat.le_of_ble_eq_true rfl | with_reducible assumption | with_reducible exact rfl | omega | with_reducible apply wAnd | decide +kernel
        refine ⟨upF F 0 j, rfl, by rw [setRow_s]; rfl, ?_⟩
        show ∀ b, b < j + 1 → _
        rw [hik, insK]
        exact insSt_e (F' := upF F 0 j) (k := 0) hst (by omega) (by unfold upF; rw [if_pos rfl]) (fun b hb => by unfold upF; rw [if_neg hb])
    | succ k =>
      have hlt2 := hln k (by omega)
      have hFk : setRow G (q + 4) F (q + 4) k = (f k : Int) := by rw [setRow_at]; exact hst.2.1 k (by omega)
      have hw1 : setRow G (q + 4) F (q + 1) (f k) = w (f k) := by rw [setRow_o (by omega)]; exact (hw _ (by omega)).1
      have hw2 : setRow G (q + 4) F (q + 1) j = w j := by rw [setRow_o (by omega)]; exact (hw _ (by omega)).1
      have hr1 := (hw (f k) (by omega)).2
      have hr2 := (hw j (by omega)).2
      have tk : (((k + 1 : Nat) : Int) - 1).toNat = k := by omega
      repeat' first | with_reducible apply wSeq | with_reducible apply wSkip | with_reducible apply wAsI | ((with_reducible apply wInc); rfl) | with_reducible apply wKil | with_reducible apply wRV | with_reducible apply wAst2 | with_reducible apply wB_e | (intro h; try simp only [Bool.and_eq_true, Bool.or_eq_true, Bool.not_eq_true', Bool.not_eq_false', Bool.and_eq_false_imp, Bool.or_eq_false_iff, decide_eq_true_eq, decide_eq_false_iff_not, Bool.not_true, Bool.not_false, Bool.true_eq_false, Bool.false_eq_true, Bool.not_not] at h) | with_reducible apply wN1 | with_reducible apply wN2 | with_reducible apply wN3 | with_reducible apply wN4 | with_reducible apply wN0 | with_reducible apply wE0 | with_reducible apply wXI | with_reducible apply wXB | with_reducible exact tk | with_reducible exact eK | ((with_reducible apply eL); rfl) | ((with_reducible apply eLR); rfl) | with_reducible exact eAN | with_reducible apply eSub | with_reducible apply eLt | with_reducible apply eGt | with_reducible apply eAnd | with_reducible apply eArr2 | with_reducible apply eFld2 | with_reducible apply R_Gang_wide | with_reducible apply R_Gang_order | with_reducible exact K_Gang_size (by assumption) | with_reducible exact N_Gang_wide (by assumption) | with_reducible exact N_Gang_order (by assumption) | with_reducible exact Int.toNat_natCast _ | with_reducible exact tn0 | with_reducible exact tn1 | with_reducible exact tn2 | with_reducible exact tn3 | with_reducible exact tn4 | with_reducible exact tn5 | with_reducible exact tn6 | with_reducible exact tn7 | with_reducible exact tn8 | with_reducible exact tn9 | with_reducible exact tn10 | with_reducible exact tn11 | with_reducible exact tn12 | with_reducible exact tn13 | with_reducible exact tn14 | with_reducible exact tn15 | with_reducible exact tn16 | with_reducible exact tnK0 | with_reducible exact tnK4 | with_reducible exact tnK8 | with_reducible exact tnK12 | with_reducible exact tnK16 | with_reducible exact tnK20 | with_reducible exact tnK24 | with_reducible exact tnK28 | with_reducible exact tnK32 | with_reducible exact tnJA | with_reducible exact tnA | with_reducible exact upR_s | ((with_reducible apply upR_a); (first | decide | omega)) | ((with_reducible apply upR_b); (first | decide | omega)) | exact Nat.le_of_ble_eq_true rfl | with_reducible assumption | with_reducible exact rfl | omega | with_reducible apply wAnd | decide +kernel
      · refine ⟨upF F (k + 1) (f k), k, by omega, ?_, by rw [setRow_s]; rfl, insSt_s hst (by omega) ?_ ?_, ?_⟩
        · rw [show ((k + 1 : Nat) : Int) + -1 = (k : Int) by omega]
          rfl
        · rw [setRow_at] at hFk
          simp [upF, hFk]
        · intro b hb
          simp [upF, hb]
        · rw [hik, insK, if_pos (by simpa using h.2)]
      · have hn : ¬ w (f k) < w j := by have := h (by omega); omega
        refine ⟨upF F (k + 1) j, rfl, by rw [setRow_s]; rfl, ?_⟩
        show ∀ b, b < j + 1 → _
        rw [hik, insK, if_neg (by simpa using hn)]
        exact insSt_e hst (by omega) (by simp [upF]) (fun b hb => by simp [upF, hb])
  · repeat' first | with_reducible apply wSeq | with_reducible apply wSkip | with_reducible apply wAsI | ((with_reducible apply wInc); rfl) | with_reducible apply wKil | with_reducible apply wRV | with_reducible apply wAst2 | with_reducible apply wB_e | (intro h; try simp only [Bool.and_eq_true, Bool.or_eq_true, Bool.not_eq_true', Bool.not_eq_false', Bool.and_eq_false_imp, Bool.or_eq_false_iff, decide_eq_true_eq, decide_eq_false_iff_not, Bool.not_true, Bool.not_false, Bool.true_eq_false, Bool.false_eq_true, Bool.not_not] at h) | with_reducible apply wN1 | with_reducible apply wN2 | with_reducible apply wN3 | with_reducible apply wN4 | with_reducible apply wN0 | with_reducible apply wE0 | with_reducible apply wXI | with_reducible apply wXB | with_reducible exact eK | ((with_reducible apply eL); rfl) | ((with_reducible apply eLR); rfl) | with_reducible exact eAN | with_reducible apply eSub | with_reducible apply eLt | with_reducible apply eGt | with_reducible apply eAnd | with_reducible apply eArr2 | with_reducible apply eFld2 | with_reducible apply R_Gang_wide | with_reducible apply R_Gang_order | with_reducible exact K_Gang_size (by assumption) | with_reducible exact N_Gang_wide (by assumption) | with_reducible exact N_Gang_order (by assumption) | with_reducible exact Int.toNat_natCast _ | with_reducible exact tn0 | with_reducible exact tn1 | with_reducible exact tn2 | with_reducible exact tn3 | with_reducible exact tn4 | with_reducible exact tn5 | with_reducible exact tn6 | with_reducible exact tn7 | with_reducible exact tn8 | with_reducible exact tn9 | with_reducible exact tn10 | with_reducible exact tn11 | with_reducible exact tn12 | with_reducible exact tn13 | with_reducible exact tn14 | with_reducible exact tn15 | with_reducible exact tn16 | with_reducible exact tnK0 | with_reducible exact tnK4 | with_reducible exact tnK8 | with_reducible exact tnK12 | with_reducible exact tnK16 | with_reducible exact tnK20 | with_reducible exact tnK24 | with_reducible exact tnK28 | with_reducible exact tnK32 | with_reducible exact tnJA | with_reducible exact tnA | with_reducible exact upR_s | ((with_reducible apply upR_a); (first | decide | omega)) | ((with_reducible apply upR_b); (first | decide | omega)) | exact Nat.le_of_ble_eq_true rfl | with_reducible assumption | with_reducible exact rfl | omega | with_reducible apply wAnd | decide +kernel
    have e : j = n := by omega
    subst e
    exact hR F hF
