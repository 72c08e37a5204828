/-! ===== the law's table of columns, filled by the jobs' arms ===== -/
theorem allI_own {c : Nat} {G U G1 U1 : Nat → Nat → Int} (hg : allI c G U) (hf : ∀ x, x < 196 → G1 x = G x) (hu : ∀ x, x < 196 → U1 x = U x) : allI c G1 U1 := by
  refine allI_fr hg (Nat.le_refl _) (fun x hx => hf x (by omega)) ?_ (by rw [hf 179 (by omega)]) (fun k => by rw [hf 193 (by omega)]; exact hg.2.2.2.2.1 k) (fun x hx => hu x (by omega))
  have h := hg.2.2.1
  unfold quiet at h ⊢
  rw [hf 179 (by omega)]
  exact h
section BY
variable {c : Nat} {G U : Nat → Nat → Int} {N B C : pQ} {R : Option pV → pM → Prop} {l0 l2 l3 l4 l5 l6 l7 l8 l9 l10 l11 l12 l13 l22 : Option pV} {t : Int}
abbrev LT (l0 l2 l3 l4 l5 l6 l7 l8 l9 l10 l11 l12 l13 : Option pV) (t : Int) (a b d e f h k : Option pV) : pLo := [l0, some (pR 0), l2, l3, l4, l5, l6, l7, l8, l9, l10, l11, l12, l13, some (pI (Int32.ofInt t)), some (pR 199), a, b, d, e, f, h, k]
theorem ln199 : lenOf 0 199 = 16 := by decide +kernel
theorem by_c (hg : allI c G U) {j k : Nat} {col w e st ls : Int} (ht : 0 ≤ t ∧ t ≤ 100000) (hj : j < (G 180 1).toNat) (hj8 : j < 80) (hk : (k : Int) < mAt (G 180) j 4) (hcol : mAt (G 180) j (20 + k) = col) (hw : mAt (G 180) j (12 + k) = w) (h0 : 0 ≤ col ∧ col + w ≤ 16 ∧ 0 ≤ w) (he : 0 ≤ e ∧ e ≤ 1000000) (hfree : t < e → ∀ b : Nat, col ≤ (b : Int) → (b : Int) < col + w → G 199 b = -2)
    (hN : ∀ G1 (x : Int), (∀ x, x ≠ 199 → G1 x = G x) → (∀ b : Nat, b < 16 → G1 199 b = if t < e ∧ col ≤ (b : Int) ∧ (b : Int) < col + w then (j : Int) else G 199 b) → N (LT l0 l2 l3 l4 l5 l6 l7 l8 l9 l10 l11 l12 l13 t (some (pI (Int32.ofInt (j : Int)))) (some (pI (Int32.ofInt st))) (some (pI (Int32.ofInt (k : Int)))) (some (pI (Int32.ofInt e))) (some (pI (Int32.ofInt ls))) (some (pI (Int32.ofInt x))) l22) (zM G1 U)) : WpS (sWh (bAnd (mI .lt (lI 21) (bI (fun x y => x + y) (vC 11 F_X_arm rI (aCR (lR 1) (aCI (lI 16) (aCI (lI 18) (aCI (kI 3) aN))))) (vC 11 F_X_arm rI (aCR (lR 1) (aCI (lI 16) (aCI (lI 18) (aCI (kI 0) aN))))))) (mI .gt (lI 19) (lI 14))) (sSeq (sIf (bOr (bOr (mI .lt (lI 21) (kI 0)) (mI .gt (lI 21) (kI 15))) (mI .ne (aI 0 (lR 15) (lI 21)) (kI (-2)))) (sRZ (kZ false)) sSkip) (sAst (lR 15) (lI 21) (lI 16))) (sInc 21 1)) (LT l0 l2 l3 l4 l5 l6 l7 l8 l9 l10 l11 l12 l13 t (some (pI (Int32.ofInt (j : Int)))) (some (pI (Int32.ofInt st))) (some (pI (Int32.ofInt (k : Int)))) (some (pI (Int32.ofInt e))) (some (pI (Int32.ofInt ls))) (some (pI (Int32.ofInt col))) l22) (zM G U) N B C R := by
  obtain ⟨m, hm⟩ : ∃ m : Nat, (m : Int) = if t < e then w else 0 := ⟨(if t < e then w else 0).toNat, by split <;> omega⟩
  refine wWh (fun i L σ => ∃ G1, (∀ x, x ≠ 199 → G1 x = G x) ∧ (∀ b : Nat, b < 16 → G1 199 b = if t < e ∧ col ≤ (b : Int) ∧ (b : Int) < col + (i : Int) then (j : Int) else G 199 b) ∧ L = LT l0 l2 l3 l4 l5 l6 l7 l8 l9 l10 l11 l12 l13 t (some (pI (Int32.ofInt (j : Int)))) (some (pI (Int32.ofInt st))) (some (pI (Int32.ofInt (k : Int)))) (some (pI (Int32.ofInt e))) (some (pI (Int32.ofInt ls))) (some (pI (Int32.ofInt (col + (i : Int))))) l22 ∧ σ = zM G1 U) m (by split at hm <;> omega) ⟨G, fun _ _ => rfl, fun b _ => by rw [if_neg (by omega)], by rw [Int.natCast_zero, Int.add_zero], rfl⟩ ?_
  rintro i _ _ hi ⟨G1, hf, hb, rfl, rfl⟩
  have hg1 := allI_own (U1 := U) hg (fun x hx => hf x (by omega)) (fun _ _ => rfl)
  have e180 : G1 180 = G 180 := hf 180 (by omega)
  have h3 := xr_arm hg1 (k := j) (b := k) (t := 3) (by rw [e180]; exact hj) (by rw [e180]; exact hk) (by decide)
  have hA0 := xr_arm hg1 (k := j) (b := k) (t := 0) (by rw [e180]; exact hj) (by rw [e180]; exact hk) (by decide)
  rw [e180, show armV (G 180) j k 3 = orN (mAt (G 180) j (20 + k)) from rfl, hcol, orN_ge (by omega), if_neg (by omega)] at h3
  rw [e180, show armV (G 180) j k 0 = mAt (G 180) j (12 + k) from rfl, hw] at hA0
  simp only [Int.cast_ofNat_Int] at h3 hA0
  have hlen := ln199
  rcases Nat.lt_or_ge i m with hlt | hge
  · have hte : t < e := by
      by_cases h : t < e
      · exact h
      · rw [if_neg h] at hm; omega
    rw [if_pos hte] at hm
    obtain ⟨b, hbb⟩ : ∃ b : Nat, (b : Int) = col + (i : Int) := ⟨(col + (i : Int)).toNat, by omega⟩
    have hv : G1 199 b = -2 := by
      rw [hb b (by omega), if_neg (by omega)]
      exact hfree hte b (by omega) (by omega)
    rw [← hbb]
    repeat' first | with_reducible apply wSeq | with_reducible apply wSkip | with_reducible apply wIf | with_reducible apply wAsI | ((with_reducible apply wInc); rfl) | with_reducible apply wKil | with_reducible apply wRZ | with_reducible apply wAst2 | with_reducible apply wB_e | (intro h; try simp only [Bool.and_eq_true, Bool.or_eq_true, Bool.not_eq_true', Bool.not_eq_false', Bool.and_eq_false_imp, Bool.or_eq_false_iff, decide_eq_true_eq, decide_eq_false_iff_not, Bool.not_true, Bool.not_false, Bool.true_eq_false, Bool.false_eq_true, Bool.not_not] at h) | with_reducible apply wN1 | with_reducible apply wN2 | with_reducible apply wN3 | with_reducible apply wN4 | with_reducible apply wN0 | with_reducible apply wE0 | with_reducible apply wXI | with_reducible apply wXB | with_reducible exact h3 | with_reducible exact hA0 | with_reducible exact ckx0 | with_reducible exact hlen | with_reducible exact hv | with_reducible exact eK | ((with_reducible apply eL); rfl) | ((with_reducible apply eLR); rfl) | with_reducible exact eAN | with_reducible apply eAdd | with_reducible apply eMul | with_reducible apply eDiv | with_reducible apply eMax | with_reducible apply eMin | with_reducible apply eLt | with_reducible apply eGt | with_reducible apply eEq | with_reducible apply eNe | with_reducible apply eAnd | with_reducible apply eOrB | with_reducible apply eIteI | with_reducible apply eIteJ | with_reducible apply eIte | with_reducible exact eKZ | with_reducible apply eArr2 | with_reducible apply eAI | with_reducible apply eAR | with_reducible apply eCI | with_reducible apply eCZ | with_reducible apply wRc | with_reducible exact C_X | with_reducible exact Int.toNat_natCast _ | with_reducible exact tn0 | with_reducible exact tn1 | with_reducible exact tn2 | with_reducible exact tn3 | with_reducible exact tn4 | with_reducible exact tn5 | with_reducible exact tn6 | with_reducible exact tn7 | with_reducible exact tn8 | with_reducible exact tn9 | with_reducible exact tn10 | with_reducible exact tn11 | with_reducible exact tn12 | with_reducible exact tn13 | with_reducible exact tn14 | with_reducible exact tn15 | with_reducible exact tn16 | with_reducible exact tnK0 | with_reducible exact tnK4 | with_reducible exact tnK8 | with_reducible exact tnK12 | with_reducible exact tnK16 | with_reducible exact tnK20 | with_reducible exact tnK24 | with_reducible exact tnK28 | with_reducible exact tnK32 | with_reducible exact tnJA | with_reducible exact tnA | with_reducible exact upR_s | ((with_reducible apply upR_a); (first | decide | omega)) | ((with_reducible apply upR_b); (first | decide | omega)) | ((with_reducible apply cpR_o); (first | decide | omega)) | with_reducible apply lt_pSet1 | with_reducible apply lt_kil | exact Nat.le_of_ble_eq_true rfl | with_reducible assumption | with_reducible exact rfl | omega | with_reducible apply wAnd | decide +kernel
    all_goals first | (exfalso; omega) | skip
    · rcases h with (h | h) | h
      · exfalso; omega
      · exfalso; omega
      · exact absurd trivial h
    · refine ⟨upZ G1 199 b (j : Int), fun x hx => ?_, fun b' hb' => ?_, ?_, rfl⟩
      · rw [← hf x hx]
        funext y
        exact if_neg fun z => hx z.1
      · by_cases eb : b' = b
        · subst eb
          rw [if_pos (by omega)]
          exact if_pos ⟨rfl, rfl⟩
        · have : upZ G1 199 b (j : Int) 199 b' = G1 199 b' := if_neg fun z => eb z.2
          rw [this, hb b' hb']
          by_cases hh : t < e ∧ col ≤ (b' : Int) ∧ (b' : Int) < col + (i : Int)
          · rw [if_pos hh, if_pos (by omega)]
          · rw [if_neg hh, if_neg (by omega)]
      · rw [show col + ((i + 1 : Nat) : Int) = (b : Int) + 1 by omega]
        rfl
  · have em : i = m := by omega
    subst em
    repeat' first | with_reducible apply wSeq | with_reducible apply wSkip | with_reducible apply wIf | with_reducible apply wAsI | ((with_reducible apply wInc); rfl) | with_reducible apply wKil | with_reducible apply wRZ | with_reducible apply wAst2 | with_reducible apply wB_e | (intro h; try simp only [Bool.and_eq_true, Bool.or_eq_true, Bool.not_eq_true', Bool.not_eq_false', Bool.and_eq_false_imp, Bool.or_eq_false_iff, decide_eq_true_eq, decide_eq_false_iff_not, Bool.not_true, Bool.not_false, Bool.true_eq_false, Bool.false_eq_true, Bool.not_not] at h) | with_reducible apply wN1 | with_reducible apply wN2 | with_reducible apply wN3 | with_reducible apply wN4 | with_reducible apply wN0 | with_reducible apply wE0 | with_reducible apply wXI | with_reducible apply wXB | with_reducible exact h3 | with_reducible exact hA0 | with_reducible exact ckx0 | with_reducible exact hlen | with_reducible exact eK | ((with_reducible apply eL); rfl) | ((with_reducible apply eLR); rfl) | with_reducible exact eAN | with_reducible apply eAdd | with_reducible apply eMul | with_reducible apply eDiv | with_reducible apply eMax | with_reducible apply eMin | with_reducible apply eLt | with_reducible apply eGt | with_reducible apply eEq | with_reducible apply eNe | with_reducible apply eAnd | with_reducible apply eOrB | with_reducible apply eIteI | with_reducible apply eIteJ | with_reducible apply eIte | with_reducible exact eKZ | with_reducible apply eArr2 | with_reducible apply eAI | with_reducible apply eAR | with_reducible apply eCI | with_reducible apply eCZ | with_reducible apply wRc | with_reducible exact C_X | with_reducible exact Int.toNat_natCast _ | with_reducible exact tn0 | with_reducible exact tn1 | with_reducible exact tn2 | with_reducible exact tn3 | with_reducible exact tn4 | with_reducible exact tn5 | with_reducible exact tn6 | with_reducible exact tn7 | with_reducible exact tn8 | with_reducible exact tn9 | with_reducible exact tn10 | with_reducible exact tn11 | with_reducible exact tn12 | with_reducible exact tn13 | with_reducible exact tn14 | with_reducible exact tn15 | with_reducible exact tn16 | with_reducible exact tnK0 | with_reducible exact tnK4 | with_reducible exact tnK8 | with_reducible exact tnK12 | with_reducible exact tnK16 | with_reducible exact tnK20 | with_reducible exact tnK24 | with_reducible exact tnK28 | with_reducible exact tnK32 | with_reducible exact tnJA | with_reducible exact tnA | with_reducible exact upR_s | ((with_reducible apply upR_a); (first | decide | omega)) | ((with_reducible apply upR_b); (first | decide | omega)) | ((with_reducible apply cpR_o); (first | decide | omega)) | with_reducible apply lt_pSet1 | with_reducible apply lt_kil | exact Nat.le_of_ble_eq_true rfl | with_reducible assumption | with_reducible exact rfl | omega | with_reducible apply wAnd | decide +kernel
    all_goals first | (exfalso; split at hm <;> omega) | skip
    all_goals refine hN G1 _ hf (fun b hb' => ?_)
    all_goals rw [hb b hb']
    all_goals by_cases hte : t < e
    all_goals first
      | (rw [if_pos hte] at hm; rw [hm])
      | (rw [if_neg (fun z => hte z.1), if_neg (fun z => hte z.1)])
def prJ (j k x a : Nat) : Prop := x < j ∨ (x = j ∧ a < k)
/-- what stands at column b when the arms before (j, k) are written -/
def byP (P : Nat → Int) (j k b : Nat) (v : Int) : Prop := (∃ x a, prJ j k x a ∧ hoC P b x a ∧ v = (x : Int)) ∨ ((∀ x a, prJ j k x a → ¬ hoC P b x a) ∧ v = -2)
def hoI (P g : Nat → Int) (t : Int) : Prop := ∀ x k b : Nat, x < (g 1).toNat → k < mArms g x → b < 16 → (hoC P b x k ↔ 0 ≤ mAt g x 6 ∧ t < mAt g x (24 + k) ∧ mAt g x (20 + k) ≤ (b : Int) ∧ (b : Int) < mAt g x (20 + k) + mAt g x (12 + k))
theorem by_k (hg : allI c G U) {P : Nat → Int} {j : Nat} {st : Int} (hd : disj P) (hP1 : P 1 = G 180 1) (hP4 : ∀ x, x < (G 180 1).toNat → mArms P x = mArms (G 180) x) (hH : hoI P (G 180) t) (hA : armI (G 180) (G 180 0)) (ht0 : G 180 0 = t + 1) (ht : 0 ≤ t) (hj : j < (G 180 1).toNat) (hst : mAt (G 180) j 6 = st) (hst0 : 0 ≤ st) (hby : ∀ b, b < 16 → byP P j 0 b (G 199 b))
    (hN : ∀ G1 (n : Nat) (x y z : Option pV), (∀ x, x ≠ 199 → G1 x = G x) → (n : Int) = mAt (G 180) j 4 → (∀ b, b < 16 → byP P j n b (G1 199 b)) → N (LT l0 l2 l3 l4 l5 l6 l7 l8 l9 l10 l11 l12 l13 t (some (pI (Int32.ofInt (j : Int)))) (some (pI (Int32.ofInt st))) (some (pI (Int32.ofInt (n : Int)))) none none none l22) (zM G1 U)) : WpS (sWh (bAnd (mI .lt (lI 18) (vC 11 F_X_of rI (aCR (lR 1) (aCI (lI 16) (aCI (kI 5) aN))))) (mI .ne (lI 17) (kI (-2)))) (sSeq (sI 19 (vC 11 F_X_arm rI (aCR (lR 1) (aCI (lI 16) (aCI (lI 18) (aCI (kI 4) aN)))))) (sSeq (sI 20 (xMax (kI 1) (dI (fun x y => x / y) (bI (fun x y => x * y) (vC 11 F_X_arm rI (aCR (lR 1) (aCI (lI 16) (aCI (lI 18) (aCI (kI 1) aN))))) (vC 11 F_X_of rI (aCR (lR 1) (aCI (lI 16) (aCI (kI 3) aN))))) (kI 100)))) (sSeq (sIf (bOr (bOr (mI .ne (vC 11 F_X_arm rI (aCR (lR 1) (aCI (lI 16) (aCI (lI 18) (aCI (kI 2) aN))))) (lI 20)) (mI .gt (lI 17) (lI 14))) (cE (mI .eq (vC 11 F_X_of rI (aCR (lR 1) (aCI (lI 16) (aCI (kI 0) aN)))) (kI 4)) (mI .gt (lI 19) (bI (fun x y => x + y) (lI 17) (xMin (lI 20) (vC 11 F_X_arm rI (aCR (lR 1) (aCI (lI 16) (aCI (lI 18) (aCI (kI 1) aN)))))))) (mI .ne (lI 19) (bI (fun x y => x + y) (lI 17) (xMin (lI 20) (vC 11 F_X_arm rI (aCR (lR 1) (aCI (lI 16) (aCI (lI 18) (aCI (kI 1) aN)))))))))) (sRZ (kZ false)) sSkip) (sSeq (sSeq (sI 21 (vC 11 F_X_arm rI (aCR (lR 1) (aCI (lI 16) (aCI (lI 18) (aCI (kI 3) aN)))))) (sWh (bAnd (mI .lt (lI 21) (bI (fun x y => x + y) (vC 11 F_X_arm rI (aCR (lR 1) (aCI (lI 16) (aCI (lI 18) (aCI (kI 3) aN))))) (vC 11 F_X_arm rI (aCR (lR 1) (aCI (lI 16) (aCI (lI 18) (aCI (kI 0) aN))))))) (mI .gt (lI 19) (lI 14))) (sSeq (sIf (bOr (bOr (mI .lt (lI 21) (kI 0)) (mI .gt (lI 21) (kI 15))) (mI .ne (aI 0 (lR 15) (lI 21)) (kI (-2)))) (sRZ (kZ false)) sSkip) (sAst (lR 15) (lI 21) (lI 16))) (sInc 21 1))) (sKil [21]))))) (sSeq (sKil [19, 20, 21]) (sInc 18 1))) (LT l0 l2 l3 l4 l5 l6 l7 l8 l9 l10 l11 l12 l13 t (some (pI (Int32.ofInt (j : Int)))) (some (pI (Int32.ofInt st))) (some (pI (Int32.ofInt 0))) none none none l22) (zM G U) N B C R := by
  obtain ⟨eI, -, -, hI, -, hnow, -⟩ := hg.1
  have hrow := hI.1
  have hjo := row_j hrow hj
  have h4 := jo_4 hjo
  have hj8 := row_n hrow hj
  obtain ⟨n, hn⟩ : ∃ n : Nat, (n : Int) = mAt (G 180) j 4 := ⟨mArms (G 180) j, h4.2.2⟩
  have hnm : n = mArms (G 180) j := by omega
  obtain ⟨p5, p6, pa⟩ := hA j hj (by omega)
  have hnow0 : 0 ≤ G 180 0 := hrow.2.1.1
  refine wWh (fun i L σ => ∃ G1, (∀ x, x ≠ 199 → G1 x = G x) ∧ (∀ b, b < 16 → byP P j i b (G1 199 b)) ∧ L = LT l0 l2 l3 l4 l5 l6 l7 l8 l9 l10 l11 l12 l13 t (some (pI (Int32.ofInt (j : Int)))) (some (pI (Int32.ofInt st))) (some (pI (Int32.ofInt (i : Int)))) none none none l22 ∧ σ = zM G1 U) n (by omega) ⟨G, fun _ _ => rfl, hby, rfl, rfl⟩ ?_
  rintro i _ _ hi ⟨G1, hf, hb, rfl, rfl⟩
  have hg1 := allI_own (U1 := U) hg (fun x hx => hf x (by omega)) (fun _ _ => rfl)
  have e180 : G1 180 = G 180 := hf 180 (by omega)
  have h5 := xr_of hg1 (k := j) (t := 5) (by rw [e180]; exact hj) (by decide)
  rw [e180, show ofV (G 180) j 5 = mAt (G 180) j 4 from rfl, ← hn] at h5
  simp only [Int.cast_ofNat_Int] at h5
  rcases Nat.lt_or_ge i n with hlt | hge
  · have hja := jo_a hjo (show i < mArms (G 180) j by omega)
    obtain ⟨qc, q0, q1, q2, q3⟩ := pa i (by omega)
    have x4 := xr_arm hg1 (k := j) (b := i) (t := 4) (by rw [e180]; exact hj) (by rw [e180]; omega) (by decide)
    have x1 := xr_arm hg1 (k := j) (b := i) (t := 1) (by rw [e180]; exact hj) (by rw [e180]; omega) (by decide)
    have x2 := xr_arm hg1 (k := j) (b := i) (t := 2) (by rw [e180]; exact hj) (by rw [e180]; omega) (by decide)
    have x3 := xr_arm hg1 (k := j) (b := i) (t := 3) (by rw [e180]; exact hj) (by rw [e180]; omega) (by decide)
    have y3 := xr_of hg1 (k := j) (t := 3) (by rw [e180]; exact hj) (by decide)
    have y0 := xr_of hg1 (k := j) (t := 0) (by rw [e180]; exact hj) (by decide)
    rw [e180, show armV (G 180) j i 4 = orN (mAt (G 180) j (24 + i)) from rfl, orN_ge (by omega), if_neg (by omega)] at x4
    rw [e180, show armV (G 180) j i 1 = mAt (G 180) j (16 + i) from rfl] at x1
    rw [e180, show armV (G 180) j i 2 = lastF (G 180) j i from rfl] at x2
    rw [e180, show armV (G 180) j i 3 = orN (mAt (G 180) j (20 + i)) from rfl, orN_ge (by omega), if_neg (by omega)] at x3
    rw [e180, show ofV (G 180) j 3 = mAt (G 180) j 2 from rfl] at y3
    rw [e180, show ofV (G 180) j 0 = mAt (G 180) j 5 from rfl] at y0
    simp only [Int.cast_ofNat_Int] at x1 x2 x3 x4 y0 y3
    have hp0 : 0 ≤ mAt (G 180) j (16 + i) * mAt (G 180) j 2 := Int.mul_nonneg (by have := hja.2.1; omega) (by have := hjo.2.2.1; omega)
    have hp1 : mAt (G 180) j (16 + i) * mAt (G 180) j 2 ≤ 200 * 150 := Int.mul_le_mul (by have := hja.2.1; omega) (by have := hjo.2.2.1; omega) (by have := hjo.2.2.1; omega) (by omega)
    have hl : lastF (G 180) j i = max 1 (mAt (G 180) j (16 + i) * mAt (G 180) j 2 / 100) := rfl
    have hal : armLen (G 180) j i = min (mAt (G 180) j (16 + i)) (lastF (G 180) j i) := rfl
    have hw1 := hja.1
    have hk1 := hja.2.1
    have hs5 := hjo.2.2.2.2.2.1
    have hlf : 1 ≤ lastF (G 180) j i ∧ lastF (G 180) j i ≤ 300 := by rw [hl]; omega
    generalize hmul : mAt (G 180) j (16 + i) * mAt (G 180) j 2 = pp at *
    generalize hEe : mAt (G 180) j (24 + i) = e0 at *
    generalize hLl : lastF (G 180) j i = ll at *
    repeat' first | with_reducible apply wSeq | with_reducible apply wSkip | with_reducible apply wIf | with_reducible apply wAsI | ((with_reducible apply wInc); rfl) | with_reducible apply wKil | with_reducible apply wRZ | with_reducible apply wAst2 | with_reducible apply wB_e | (intro h; try simp only [Bool.and_eq_true, Bool.or_eq_true, Bool.not_eq_true', Bool.not_eq_false', Bool.and_eq_false_imp, Bool.or_eq_false_iff, decide_eq_true_eq, decide_eq_false_iff_not, Bool.not_true, Bool.not_false, Bool.true_eq_false, Bool.false_eq_true, Bool.not_not] at h) | with_reducible apply wN1 | with_reducible apply wN2 | with_reducible apply wN3 | with_reducible apply wN4 | with_reducible apply wN0 | with_reducible apply wE0 | with_reducible apply wXI | with_reducible apply wXB | with_reducible exact h5 | with_reducible exact x1 | with_reducible exact x2 | with_reducible exact x3 | with_reducible exact x4 | with_reducible exact y0 | with_reducible exact y3 | with_reducible exact ckx0 | with_reducible exact eK | ((with_reducible apply eL); rfl) | ((with_reducible apply eLR); rfl) | with_reducible exact eAN | with_reducible apply eAdd | with_reducible apply eMul | with_reducible apply eDiv | with_reducible apply eMax | with_reducible apply eMin | with_reducible apply eLt | with_reducible apply eGt | with_reducible apply eEq | with_reducible apply eNe | with_reducible apply eAnd | with_reducible apply eOrB | with_reducible apply eIteI | with_reducible apply eIteJ | with_reducible apply eIte | with_reducible exact eKZ | with_reducible apply eArr2 | with_reducible apply eAI | with_reducible apply eAR | with_reducible apply eCI | with_reducible apply eCZ | with_reducible apply wRc | with_reducible exact C_X | with_reducible exact Int.toNat_natCast _ | with_reducible exact tn0 | with_reducible exact tn1 | with_reducible exact tn2 | with_reducible exact tn3 | with_reducible exact tn4 | with_reducible exact tn5 | with_reducible exact tn6 | with_reducible exact tn7 | with_reducible exact tn8 | with_reducible exact tn9 | with_reducible exact tn10 | with_reducible exact tn11 | with_reducible exact tn12 | with_reducible exact tn13 | with_reducible exact tn14 | with_reducible exact tn15 | with_reducible exact tn16 | with_reducible exact tnK0 | with_reducible exact tnK4 | with_reducible exact tnK8 | with_reducible exact tnK12 | with_reducible exact tnK16 | with_reducible exact tnK20 | with_reducible exact tnK24 | with_reducible exact tnK28 | with_reducible exact tnK32 | with_reducible exact tnJA | with_reducible exact tnA | with_reducible exact upR_s | ((with_reducible apply upR_a); (first | decide | omega)) | ((with_reducible apply upR_b); (first | decide | omega)) | ((with_reducible apply cpR_o); (first | decide | omega)) | with_reducible apply lt_pSet1 | with_reducible apply lt_kil | exact Nat.le_of_ble_eq_true rfl | with_reducible assumption | with_reducible exact rfl | omega | with_reducible apply wAnd | decide +kernel
    · exfalso
      rw [hmul] at h
      rcases h with (h | h) | h
      · omega
      · omega
      · by_cases h44 : mAt (G 180) j 5 = 4
        · rw [if_pos h44] at h
          have := of_decide_eq_true h
          omega
        · rw [if_neg h44] at h
          have := q2 h44
          simp only [Bool.not_eq_true', decide_eq_false_iff_not] at h
          omega
    refine by_c (t := t) (j := j) (k := i) (col := mAt (G 180) j (20 + i)) (w := mAt (G 180) j (12 + i)) (e := e0) (st := st) hg1 (by omega) (by rw [e180]; exact hj) hj8 (by rw [e180]; omega) (by rw [e180]) (by rw [e180]) (by omega) (by omega) (fun hte b hb1 hb2 => ?_) (fun G2 x hf2 hv2 => ?_)
    · rcases hb b (by omega) with ⟨x, a, hp, hh, -⟩ | ⟨-, h2⟩
      · exfalso
        have hjk : hoC P b j i := (hH j i b hj (by omega) (by omega)).mpr ⟨by omega, by rw [hEe]; exact hte, hb1, hb2⟩
        obtain ⟨r1, r2⟩ := hd b x a j i hh hjk
        rcases hp with h | ⟨h, h'⟩ <;> omega
      · exact h2
    · repeat' first | with_reducible apply wSeq | with_reducible apply wSkip | with_reducible apply wIf | with_reducible apply wAsI | ((with_reducible apply wInc); rfl) | with_reducible apply wKil | with_reducible apply wRZ | with_reducible apply wAst2 | with_reducible apply wB_e | (intro h; try simp only [Bool.and_eq_true, Bool.or_eq_true, Bool.not_eq_true', Bool.not_eq_false', Bool.and_eq_false_imp, Bool.or_eq_false_iff, decide_eq_true_eq, decide_eq_false_iff_not, Bool.not_true, Bool.not_false, Bool.true_eq_false, Bool.false_eq_true, Bool.not_not] at h) | with_reducible apply wN1 | with_reducible apply wN2 | with_reducible apply wN3 | with_reducible apply wN4 | with_reducible apply wN0 | with_reducible apply wE0 | with_reducible apply wXI | with_reducible apply wXB | with_reducible exact eK | ((with_reducible apply eL); rfl) | ((with_reducible apply eLR); rfl) | with_reducible exact eAN | with_reducible apply eAdd | with_reducible apply eMul | with_reducible apply eDiv | with_reducible apply eMax | with_reducible apply eMin | with_reducible apply eLt | with_reducible apply eGt | with_reducible apply eEq | with_reducible apply eNe | with_reducible apply eAnd | with_reducible apply eOrB | with_reducible apply eIteI | with_reducible apply eIteJ | with_reducible apply eIte | with_reducible exact eKZ | with_reducible apply eArr2 | with_reducible apply eAI | with_reducible apply eAR | with_reducible apply eCI | with_reducible apply eCZ | with_reducible apply wRc | with_reducible exact C_X | with_reducible exact Int.toNat_natCast _ | with_reducible exact tn0 | with_reducible exact tn1 | with_reducible exact tn2 | with_reducible exact tn3 | with_reducible exact tn4 | with_reducible exact tn5 | with_reducible exact tn6 | with_reducible exact tn7 | with_reducible exact tn8 | with_reducible exact tn9 | with_reducible exact tn10 | with_reducible exact tn11 | with_reducible exact tn12 | with_reducible exact tn13 | with_reducible exact tn14 | with_reducible exact tn15 | with_reducible exact tn16 | with_reducible exact tnK0 | with_reducible exact tnK4 | with_reducible exact tnK8 | with_reducible exact tnK12 | with_reducible exact tnK16 | with_reducible exact tnK20 | with_reducible exact tnK24 | with_reducible exact tnK28 | with_reducible exact tnK32 | with_reducible exact tnJA | with_reducible exact tnA | with_reducible exact upR_s | ((with_reducible apply upR_a); (first | decide | omega)) | ((with_reducible apply upR_b); (first | decide | omega)) | ((with_reducible apply cpR_o); (first | decide | omega)) | with_reducible apply lt_pSet1 | with_reducible apply lt_kil | exact Nat.le_of_ble_eq_true rfl | with_reducible assumption | with_reducible exact rfl | omega | with_reducible apply wAnd | decide +kernel
      refine ⟨G2, fun x hx => (hf2 x hx).trans (hf x hx), fun b hb' => ?_, rfl, rfl⟩
      rw [hv2 b hb']
      by_cases hh : t < e0 ∧ mAt (G 180) j (20 + i) ≤ (b : Int) ∧ (b : Int) < mAt (G 180) j (20 + i) + mAt (G 180) j (12 + i)
      · rw [if_pos hh]
        exact Or.inl ⟨j, i, Or.inr ⟨rfl, Nat.lt_succ_self i⟩, (hH j i b hj (by omega) hb').mpr ⟨by omega, by rw [hEe]; exact hh.1, hh.2⟩, rfl⟩
      · rw [if_neg hh]
        rcases hb b hb' with ⟨x, a, hp, hh2, hv⟩ | ⟨h1, h2⟩
        · exact Or.inl ⟨x, a, by rcases hp with g | ⟨g, g'⟩
                                 · exact Or.inl g
                                 · exact Or.inr ⟨g, by omega⟩, hh2, hv⟩
        · refine Or.inr ⟨fun x a hp hx => ?_, h2⟩
          by_cases hpa : prJ j i x a
          · exact h1 x a hpa hx
          · have : x = j ∧ a = i := by
              unfold prJ at hp hpa
              omega
            obtain ⟨rfl, rfl⟩ := this
            have := (hH x a b hj (by omega) hb').mp hx
            rw [hEe] at this
            exact hh ⟨this.2.1, this.2.2⟩
  · have em : i = n := by omega
    subst em
    repeat' first | with_reducible apply wSeq | with_reducible apply wSkip | with_reducible apply wIf | with_reducible apply wAsI | ((with_reducible apply wInc); rfl) | with_reducible apply wKil | with_reducible apply wRZ | with_reducible apply wAst2 | with_reducible apply wB_e | (intro h; try simp only [Bool.and_eq_true, Bool.or_eq_true, Bool.not_eq_true', Bool.not_eq_false', Bool.and_eq_false_imp, Bool.or_eq_false_iff, decide_eq_true_eq, decide_eq_false_iff_not, Bool.not_true, Bool.not_false, Bool.true_eq_false, Bool.false_eq_true, Bool.not_not] at h) | with_reducible apply wN1 | with_reducible apply wN2 | with_reducible apply wN3 | with_reducible apply wN4 | with_reducible apply wN0 | with_reducible apply wE0 | with_reducible apply wXI | with_reducible apply wXB | with_reducible exact h5 | with_reducible exact ckx0 | with_reducible exact eK | ((with_reducible apply eL); rfl) | ((with_reducible apply eLR); rfl) | with_reducible exact eAN | with_reducible apply eAdd | with_reducible apply eMul | with_reducible apply eDiv | with_reducible apply eMax | with_reducible apply eMin | with_reducible apply eLt | with_reducible apply eGt | with_reducible apply eEq | with_reducible apply eNe | with_reducible apply eAnd | with_reducible apply eOrB | with_reducible apply eIteI | with_reducible apply eIteJ | with_reducible apply eIte | with_reducible exact eKZ | with_reducible apply eArr2 | with_reducible apply eAI | with_reducible apply eAR | with_reducible apply eCI | with_reducible apply eCZ | with_reducible apply wRc | with_reducible exact C_X | with_reducible exact Int.toNat_natCast _ | with_reducible exact tn0 | with_reducible exact tn1 | with_reducible exact tn2 | with_reducible exact tn3 | with_reducible exact tn4 | with_reducible exact tn5 | with_reducible exact tn6 | with_reducible exact tn7 | with_reducible exact tn8 | with_reducible exact tn9 | with_reducible exact tn10 | with_reducible exact tn11 | with_reducible exact tn12 | with_reducible exact tn13 | with_reducible exact tn14 | with_reducible exact tn15 | with_reducible exact tn16 | with_reducible exact tnK0 | with_reducible exact tnK4 | with_reducible exact tnK8 | with_reducible exact tnK12 | with_reducible exact tnK16 | with_reducible exact tnK20 | with_reducible exact tnK24 | with_reducible exact tnK28 | with_reducible exact tnK32 | with_reducible exact tnJA | with_reducible exact tnA | with_reducible exact upR_s | ((with_reducible apply upR_a); (first | decide | omega)) | ((with_reducible apply upR_b); (first | decide | omega)) | ((with_reducible apply cpR_o); (first | decide | omega)) | with_reducible apply lt_pSet1 | with_reducible apply lt_kil | exact Nat.le_of_ble_eq_true rfl | with_reducible assumption | with_reducible exact rfl | omega | with_reducible apply wAnd | decide +kernel
    all_goals first | (exfalso; omega) | skip
    all_goals exact hN G1 i none none none hf hn hb
theorem by_j (hg : allI c G U) {P : Nat → Int} (hd : disj P) (hP1 : P 1 = G 180 1) (hP4 : ∀ x, x < (G 180 1).toNat → mArms P x = mArms (G 180) x) (hH : hoI P (G 180) t) (hA : armI (G 180) (G 180 0)) (ht0 : G 180 0 = t + 1) (ht : 0 ≤ t) (hby : ∀ b, b < 16 → G 199 b = -2)
    (hN : ∀ G1, (∀ x, x ≠ 199 → G1 x = G x) → (∀ b, b < 16 → G1 199 b = orN (holderF P b)) → N (LT l0 l2 l3 l4 l5 l6 l7 l8 l9 l10 l11 l12 l13 t none none none none none none l22) (zM G1 U)) : WpS B_LP (LT l0 l2 l3 l4 l5 l6 l7 l8 l9 l10 l11 l12 l13 t none none none none none none l22) (zM G U) N B C R := by
  obtain ⟨eI, -, -, hI, -, hnow, -⟩ := hg.1
  have hrow := hI.1
  obtain ⟨n, hn⟩ : ∃ n : Nat, (n : Int) = G 180 1 := ⟨(G 180 1).toNat, by have := hrow.2.2.1; omega⟩
  have h80 := hrow.2.2.1
  unfold B_LP
  refine wSeqM (fun L σ => ∃ G1, (∀ x, x ≠ 199 → G1 x = G x) ∧ (∀ b, b < 16 → byP P n 0 b (G1 199 b)) ∧ L = LT l0 l2 l3 l4 l5 l6 l7 l8 l9 l10 l11 l12 l13 t (some (pI (Int32.ofInt (n : Int)))) none none none none none l22 ∧ σ = zM G1 U) ?_ ?_
  · refine wSeq (wAsI eK (Nat.le_of_ble_eq_true rfl) ?_)
    refine wWh (fun i L σ => ∃ G1, (∀ x, x ≠ 199 → G1 x = G x) ∧ (∀ b, b < 16 → byP P i 0 b (G1 199 b)) ∧ L = LT l0 l2 l3 l4 l5 l6 l7 l8 l9 l10 l11 l12 l13 t (some (pI (Int32.ofInt (i : Int)))) none none none none none l22 ∧ σ = zM G1 U) n (by omega) ⟨G, fun _ _ => rfl, fun b hb' => Or.inr ⟨fun x a hp _ => by unfold prJ at hp; omega, hby b hb'⟩, rfl, rfl⟩ ?_
    rintro i _ _ hi ⟨G1, hf, hb, rfl, rfl⟩
    have hg1 := allI_own (U1 := U) hg (fun x hx => hf x (by omega)) (fun _ _ => rfl)
    have e180 : G1 180 = G 180 := hf 180 (by omega)
    have h0 := xr_count hg1 (t := 0) (by decide)
    rw [e180, show cntV (G 180) (G1 168 0) 0 = G 180 1 from rfl, ← hn] at h0
    simp only [Int.cast_ofNat_Int] at h0
    rcases Nat.lt_or_ge i n with hlt | hge
    · have hj : i < (G 180 1).toNat := by omega
      have hjo := row_j hrow hj
      have h4 := jo_4 hjo
      have h6 := xr_of hg1 (k := i) (t := 6) (by rw [e180]; exact hj) (by decide)
      have hr6 := hjo.2.2.2.2.2.2.1
      rw [e180, show ofV (G 180) i 6 = orN (mAt (G 180) i 6) from rfl, orN_ge hr6.1] at h6
      simp only [Int.cast_ofNat_Int] at h6
      have hmono : ∀ (G2 : Nat → Nat → Int) (m : Nat), (m : Int) = mAt (G 180) i 4 → (∀ b, b < 16 → byP P i m b (G2 199 b)) → ∀ b, b < 16 → byP P (i + 1) 0 b (G2 199 b) := fun G2 m hm hb2 b hb' => by
        rcases hb2 b hb' with ⟨x, a, hp, hh, hv⟩ | ⟨h1, h2⟩
        · exact Or.inl ⟨x, a, by unfold prJ at hp ⊢; omega, hh, hv⟩
        · refine Or.inr ⟨fun x a hp hx => ?_, h2⟩
          refine h1 x a ?_ hx
          by_cases ex : x = i
          · subst ex
            have := hx.2.1
            rw [hP4 x hj] at this
            exact Or.inr ⟨rfl, by omega⟩
          · unfold prJ at hp
            exact Or.inl (by omega)
      by_cases hs : mAt (G 180) i 6 < 0
      · rw [if_pos hs] at h6
        have h5 := xr_of hg1 (k := i) (t := 5) (by rw [e180]; exact hj) (by decide)
        rw [e180, show ofV (G 180) i 5 = mAt (G 180) i 4 from rfl] at h5
        simp only [Int.cast_ofNat_Int] at h5
        have h44 := h4.2.2
        repeat' first | with_reducible apply wSeq | with_reducible apply wSkip | with_reducible apply wIf | with_reducible apply wAsI | ((with_reducible apply wInc); rfl) | with_reducible apply wKil | with_reducible apply wRZ | with_reducible apply wAst2 | with_reducible apply wB_e | (intro h; try simp only [Bool.and_eq_true, Bool.or_eq_true, Bool.not_eq_true', Bool.not_eq_false', Bool.and_eq_false_imp, Bool.or_eq_false_iff, decide_eq_true_eq, decide_eq_false_iff_not, Bool.not_true, Bool.not_false, Bool.true_eq_false, Bool.false_eq_true, Bool.not_not] at h) | with_reducible apply wN1 | with_reducible apply wN2 | with_reducible apply wN3 | with_reducible apply wN4 | with_reducible apply wN0 | with_reducible apply wE0 | with_reducible apply wXI | with_reducible apply wXB | with_reducible exact h0 | with_reducible exact h6 | with_reducible exact ckx0 | with_reducible exact eK | ((with_reducible apply eL); rfl) | ((with_reducible apply eLR); rfl) | with_reducible exact eAN | with_reducible apply eAdd | with_reducible apply eMul | with_reducible apply eDiv | with_reducible apply eMax | with_reducible apply eMin | with_reducible apply eLt | with_reducible apply eGt | with_reducible apply eEq | with_reducible apply eNe | with_reducible apply eAnd | with_reducible apply eOrB | with_reducible apply eIteI | with_reducible apply eIteJ | with_reducible apply eIte | with_reducible exact eKZ | with_reducible apply eArr2 | with_reducible apply eAI | with_reducible apply eAR | with_reducible apply eCI | with_reducible apply eCZ | with_reducible apply wRc | with_reducible exact C_X | with_reducible exact Int.toNat_natCast _ | with_reducible exact tn0 | with_reducible exact tn1 | with_reducible exact tn2 | with_reducible exact tn3 | with_reducible exact tn4 | with_reducible exact tn5 | with_reducible exact tn6 | with_reducible exact tn7 | with_reducible exact tn8 | with_reducible exact tn9 | with_reducible exact tn10 | with_reducible exact tn11 | with_reducible exact tn12 | with_reducible exact tn13 | with_reducible exact tn14 | with_reducible exact tn15 | with_reducible exact tn16 | with_reducible exact tnK0 | with_reducible exact tnK4 | with_reducible exact tnK8 | with_reducible exact tnK12 | with_reducible exact tnK16 | with_reducible exact tnK20 | with_reducible exact tnK24 | with_reducible exact tnK28 | with_reducible exact tnK32 | with_reducible exact tnJA | with_reducible exact tnA | with_reducible exact upR_s | ((with_reducible apply upR_a); (first | decide | omega)) | ((with_reducible apply upR_b); (first | decide | omega)) | ((with_reducible apply cpR_o); (first | decide | omega)) | with_reducible apply lt_pSet1 | with_reducible apply lt_kil | exact Nat.le_of_ble_eq_true rfl | with_reducible assumption | with_reducible exact rfl | omega | with_reducible apply wAnd | decide +kernel
        refine wWh (fun z L σ => L = LT l0 l2 l3 l4 l5 l6 l7 l8 l9 l10 l11 l12 l13 t (some (pI (Int32.ofInt (i : Int)))) (some (pI (Int32.ofInt (-2)))) (some (pI (Int32.ofInt 0))) none none none l22 ∧ σ = zM G1 U) 0 (by omega) ⟨rfl, rfl⟩ ?_
        rintro z _ _ hz ⟨rfl, rfl⟩
        refine ⟨false, zM G1 U, ?_, fun h => (by cases h), fun _ => ?_⟩
        · rw [show (some (false, zM G1 U) : Option (Bool × pM)) = some (decide ((0 : Int) < mAt (G 180) i 4) && !decide ((-2 : Int) = -2), zM G1 U) by simp]
          exact eAnd (eLt (eL rfl) (eCI (eAR (eLR rfl) (eAI (eL rfl) (eAI eK eAN))) ckx0 h5) (by unfold rg; omega) (by unfold rg; omega)) (fun _ => eNe (eL rfl) eK (by unfold rg; omega) (by unfold rg; omega))
        repeat' first | with_reducible apply wSeq | with_reducible apply wSkip | with_reducible apply wIf | with_reducible apply wAsI | ((with_reducible apply wInc); rfl) | with_reducible apply wKil | with_reducible apply wRZ | with_reducible apply wAst2 | with_reducible apply wB_e | (intro h; try simp only [Bool.and_eq_true, Bool.or_eq_true, Bool.not_eq_true', Bool.not_eq_false', Bool.and_eq_false_imp, Bool.or_eq_false_iff, decide_eq_true_eq, decide_eq_false_iff_not, Bool.not_true, Bool.not_false, Bool.true_eq_false, Bool.false_eq_true, Bool.not_not] at h) | with_reducible apply wN1 | with_reducible apply wN2 | with_reducible apply wN3 | with_reducible apply wN4 | with_reducible apply wN0 | with_reducible apply wE0 | with_reducible apply wXI | with_reducible apply wXB | with_reducible exact eK | ((with_reducible apply eL); rfl) | ((with_reducible apply eLR); rfl) | with_reducible exact eAN | with_reducible apply eAdd | with_reducible apply eMul | with_reducible apply eDiv | with_reducible apply eMax | with_reducible apply eMin | with_reducible apply eLt | with_reducible apply eGt | with_reducible apply eEq | with_reducible apply eNe | with_reducible apply eAnd | with_reducible apply eOrB | with_reducible apply eIteI | with_reducible apply eIteJ | with_reducible apply eIte | with_reducible exact eKZ | with_reducible apply eArr2 | with_reducible apply eAI | with_reducible apply eAR | with_reducible apply eCI | with_reducible apply eCZ | with_reducible apply wRc | with_reducible exact C_X | with_reducible exact Int.toNat_natCast _ | with_reducible exact tn0 | with_reducible exact tn1 | with_reducible exact tn2 | with_reducible exact tn3 | with_reducible exact tn4 | with_reducible exact tn5 | with_reducible exact tn6 | with_reducible exact tn7 | with_reducible exact tn8 | with_reducible exact tn9 | with_reducible exact tn10 | with_reducible exact tn11 | with_reducible exact tn12 | with_reducible exact tn13 | with_reducible exact tn14 | with_reducible exact tn15 | with_reducible exact tn16 | with_reducible exact tnK0 | with_reducible exact tnK4 | with_reducible exact tnK8 | with_reducible exact tnK12 | with_reducible exact tnK16 | with_reducible exact tnK20 | with_reducible exact tnK24 | with_reducible exact tnK28 | with_reducible exact tnK32 | with_reducible exact tnJA | with_reducible exact tnA | with_reducible exact upR_s | ((with_reducible apply upR_a); (first | decide | omega)) | ((with_reducible apply upR_b); (first | decide | omega)) | ((with_reducible apply cpR_o); (first | decide | omega)) | with_reducible apply lt_pSet1 | with_reducible apply lt_kil | exact Nat.le_of_ble_eq_true rfl | with_reducible assumption | with_reducible exact rfl | omega | with_reducible apply wAnd | decide +kernel
        all_goals refine ⟨G1, hf, fun b hb' => ?_, rfl, rfl⟩
        all_goals rcases hb b hb' with ⟨x, a, hp, hh, hv⟩ | ⟨h1, h2⟩
        all_goals first
          | exact Or.inl ⟨x, a, by unfold prJ at hp ⊢; omega, hh, hv⟩
          | (refine Or.inr ⟨fun x a hp hx => ?_, h2⟩
             by_cases ex : x = i
             · subst ex
               have ha := hx.2.1
               rw [hP4 x hj] at ha
               have := ((hH x a b hj ha hb').mp hx).1
               omega
             · refine h1 x a ?_ hx
               unfold prJ at hp ⊢
               omega)
      · rw [if_neg hs] at h6
        repeat' first | with_reducible apply wSeq | with_reducible apply wSkip | with_reducible apply wIf | with_reducible apply wAsI | ((with_reducible apply wInc); rfl) | with_reducible apply wKil | with_reducible apply wRZ | with_reducible apply wAst2 | with_reducible apply wB_e | (intro h; try simp only [Bool.and_eq_true, Bool.or_eq_true, Bool.not_eq_true', Bool.not_eq_false', Bool.and_eq_false_imp, Bool.or_eq_false_iff, decide_eq_true_eq, decide_eq_false_iff_not, Bool.not_true, Bool.not_false, Bool.true_eq_false, Bool.false_eq_true, Bool.not_not] at h) | with_reducible apply wN1 | with_reducible apply wN2 | with_reducible apply wN3 | with_reducible apply wN4 | with_reducible apply wN0 | with_reducible apply wE0 | with_reducible apply wXI | with_reducible apply wXB | with_reducible exact h0 | with_reducible exact h6 | with_reducible exact ckx0 | with_reducible exact eK | ((with_reducible apply eL); rfl) | ((with_reducible apply eLR); rfl) | with_reducible exact eAN | with_reducible apply eAdd | with_reducible apply eMul | with_reducible apply eDiv | with_reducible apply eMax | with_reducible apply eMin | with_reducible apply eLt | with_reducible apply eGt | with_reducible apply eEq | with_reducible apply eNe | with_reducible apply eAnd | with_reducible apply eOrB | with_reducible apply eIteI | with_reducible apply eIteJ | with_reducible apply eIte | with_reducible exact eKZ | with_reducible apply eArr2 | with_reducible apply eAI | with_reducible apply eAR | with_reducible apply eCI | with_reducible apply eCZ | with_reducible apply wRc | with_reducible exact C_X | with_reducible exact Int.toNat_natCast _ | with_reducible exact tn0 | with_reducible exact tn1 | with_reducible exact tn2 | with_reducible exact tn3 | with_reducible exact tn4 | with_reducible exact tn5 | with_reducible exact tn6 | with_reducible exact tn7 | with_reducible exact tn8 | with_reducible exact tn9 | with_reducible exact tn10 | with_reducible exact tn11 | with_reducible exact tn12 | with_reducible exact tn13 | with_reducible exact tn14 | with_reducible exact tn15 | with_reducible exact tn16 | with_reducible exact tnK0 | with_reducible exact tnK4 | with_reducible exact tnK8 | with_reducible exact tnK12 | with_reducible exact tnK16 | with_reducible exact tnK20 | with_reducible exact tnK24 | with_reducible exact tnK28 | with_reducible exact tnK32 | with_reducible exact tnJA | with_reducible exact tnA | with_reducible exact upR_s | ((with_reducible apply upR_a); (first | decide | omega)) | ((with_reducible apply upR_b); (first | decide | omega)) | ((with_reducible apply cpR_o); (first | decide | omega)) | with_reducible apply lt_pSet1 | with_reducible apply lt_kil | exact Nat.le_of_ble_eq_true rfl | with_reducible assumption | with_reducible exact rfl | omega | with_reducible apply wAnd | decide +kernel
        refine by_k (t := t) (j := i) (P := P) hg1 hd (by rw [e180]; exact hP1) (by rw [e180]; exact hP4) (by rw [e180]; exact hH) (by rw [e180]; exact hA) (by rw [e180]; exact ht0) ht (by rw [e180]; exact hj) (by rw [e180]) (by omega) hb (fun G2 m x y z hf2 hm hb2 => ?_)
        rw [e180] at hm
        repeat' first | with_reducible apply wSeq | with_reducible apply wSkip | with_reducible apply wIf | with_reducible apply wAsI | ((with_reducible apply wInc); rfl) | with_reducible apply wKil | with_reducible apply wRZ | with_reducible apply wAst2 | with_reducible apply wB_e | (intro h; try simp only [Bool.and_eq_true, Bool.or_eq_true, Bool.not_eq_true', Bool.not_eq_false', Bool.and_eq_false_imp, Bool.or_eq_false_iff, decide_eq_true_eq, decide_eq_false_iff_not, Bool.not_true, Bool.not_false, Bool.true_eq_false, Bool.false_eq_true, Bool.not_not] at h) | with_reducible apply wN1 | with_reducible apply wN2 | with_reducible apply wN3 | with_reducible apply wN4 | with_reducible apply wN0 | with_reducible apply wE0 | with_reducible apply wXI | with_reducible apply wXB | with_reducible exact eK | ((with_reducible apply eL); rfl) | ((with_reducible apply eLR); rfl) | with_reducible exact eAN | with_reducible apply eAdd | with_reducible apply eMul | with_reducible apply eDiv | with_reducible apply eMax | with_reducible apply eMin | with_reducible apply eLt | with_reducible apply eGt | with_reducible apply eEq | with_reducible apply eNe | with_reducible apply eAnd | with_reducible apply eOrB | with_reducible apply eIteI | with_reducible apply eIteJ | with_reducible apply eIte | with_reducible exact eKZ | with_reducible apply eArr2 | with_reducible apply eAI | with_reducible apply eAR | with_reducible apply eCI | with_reducible apply eCZ | with_reducible apply wRc | with_reducible exact C_X | with_reducible exact Int.toNat_natCast _ | with_reducible exact tn0 | with_reducible exact tn1 | with_reducible exact tn2 | with_reducible exact tn3 | with_reducible exact tn4 | with_reducible exact tn5 | with_reducible exact tn6 | with_reducible exact tn7 | with_reducible exact tn8 | with_reducible exact tn9 | with_reducible exact tn10 | with_reducible exact tn11 | with_reducible exact tn12 | with_reducible exact tn13 | with_reducible exact tn14 | with_reducible exact tn15 | with_reducible exact tn16 | with_reducible exact tnK0 | with_reducible exact tnK4 | with_reducible exact tnK8 | with_reducible exact tnK12 | with_reducible exact tnK16 | with_reducible exact tnK20 | with_reducible exact tnK24 | with_reducible exact tnK28 | with_reducible exact tnK32 | with_reducible exact tnJA | with_reducible exact tnA | with_reducible exact upR_s | ((with_reducible apply upR_a); (first | decide | omega)) | ((with_reducible apply upR_b); (first | decide | omega)) | ((with_reducible apply cpR_o); (first | decide | omega)) | with_reducible apply lt_pSet1 | with_reducible apply lt_kil | exact Nat.le_of_ble_eq_true rfl | with_reducible assumption | with_reducible exact rfl | omega | with_reducible apply wAnd | decide +kernel
        exact ⟨G2, fun x hx => (hf2 x hx).trans (hf x hx), hmono G2 m hm hb2, rfl, rfl⟩
    · have ei : i = n := by omega
      subst ei
      repeat' first | with_reducible apply wSeq | with_reducible apply wSkip | with_reducible apply wIf | with_reducible apply wAsI | ((with_reducible apply wInc); rfl) | with_reducible apply wKil | with_reducible apply wRZ | with_reducible apply wAst2 | with_reducible apply wB_e | (intro h; try simp only [Bool.and_eq_true, Bool.or_eq_true, Bool.not_eq_true', Bool.not_eq_false', Bool.and_eq_false_imp, Bool.or_eq_false_iff, decide_eq_true_eq, decide_eq_false_iff_not, Bool.not_true, Bool.not_false, Bool.true_eq_false, Bool.false_eq_true, Bool.not_not] at h) | with_reducible apply wN1 | with_reducible apply wN2 | with_reducible apply wN3 | with_reducible apply wN4 | with_reducible apply wN0 | with_reducible apply wE0 | with_reducible apply wXI | with_reducible apply wXB | with_reducible exact h0 | with_reducible exact ckx0 | with_reducible exact eK | ((with_reducible apply eL); rfl) | ((with_reducible apply eLR); rfl) | with_reducible exact eAN | with_reducible apply eAdd | with_reducible apply eMul | with_reducible apply eDiv | with_reducible apply eMax | with_reducible apply eMin | with_reducible apply eLt | with_reducible apply eGt | with_reducible apply eEq | with_reducible apply eNe | with_reducible apply eAnd | with_reducible apply eOrB | with_reducible apply eIteI | with_reducible apply eIteJ | with_reducible apply eIte | with_reducible exact eKZ | with_reducible apply eArr2 | with_reducible apply eAI | with_reducible apply eAR | with_reducible apply eCI | with_reducible apply eCZ | with_reducible apply wRc | with_reducible exact C_X | with_reducible exact Int.toNat_natCast _ | with_reducible exact tn0 | with_reducible exact tn1 | with_reducible exact tn2 | with_reducible exact tn3 | with_reducible exact tn4 | with_reducible exact tn5 | with_reducible exact tn6 | with_reducible exact tn7 | with_reducible exact tn8 | with_reducible exact tn9 | with_reducible exact tn10 | with_reducible exact tn11 | with_reducible exact tn12 | with_reducible exact tn13 | with_reducible exact tn14 | with_reducible exact tn15 | with_reducible exact tn16 | with_reducible exact tnK0 | with_reducible exact tnK4 | with_reducible exact tnK8 | with_reducible exact tnK12 | with_reducible exact tnK16 | with_reducible exact tnK20 | with_reducible exact tnK24 | with_reducible exact tnK28 | with_reducible exact tnK32 | with_reducible exact tnJA | with_reducible exact tnA | with_reducible exact upR_s | ((with_reducible apply upR_a); (first | decide | omega)) | ((with_reducible apply upR_b); (first | decide | omega)) | ((with_reducible apply cpR_o); (first | decide | omega)) | with_reducible apply lt_pSet1 | with_reducible apply lt_kil | exact Nat.le_of_ble_eq_true rfl | with_reducible assumption | with_reducible exact rfl | omega | with_reducible apply wAnd | decide +kernel
      all_goals exact ⟨G1, hf, hb, rfl, rfl⟩
  · rintro _ _ ⟨G1, hf, hb, rfl, rfl⟩
    refine wKil (hN G1 hf fun b hb' => ?_)
    rcases hb b hb' with ⟨x, a, hp, hh, hv⟩ | ⟨h1, h2⟩
    · rw [hold_eq hd hh, hv, orN_ge (by omega), if_neg (by omega)]
    · have : holderF P b = -1 := hold_none.mpr fun j a hx => h1 j a (Or.inl (by have := hx.1; omega)) hx
      rw [this, h2]
      rfl
end BY
