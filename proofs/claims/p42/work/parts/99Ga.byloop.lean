/-! ===== the law's table of columns, filled by the jobs' arms ===== -/
theorem allI_own {c : Nat} {G U G1 U1 : Nat → Nat → Int} (hg : allI c G U) (hf : ∀ x, x < 196 → G1 x = G x) (hu : ∀ x, x < 196 → U1 x = U x) : allI c G1 U1 := by
  refine allI_fr hg (Nat.le_refl _) (fun x hx => hf x (by omega)) ?_ (by rw [hf 179 (by omega)]) (fun k => by rw [hf 193 (by omega)]; exact hg.2.2.2.2.1 k) (fun x hx => hu x (by omega))
  have h := hg.2.2.1
  unfold quiet at h ⊢
  rw [hf 179 (by omega)]
  exact h
section BY
variable {c : Nat} {G U : Nat → Nat → Int} {N : pQ} {R : Option pV → pM → Prop} {l0 l2 l3 l4 l5 l6 l7 l8 l9 l10 l11 l12 l13 l22 : Option pV} {t : Int}
abbrev LT (l0 l2 l3 l4 l5 l6 l7 l8 l9 l10 l11 l12 l13 : Option pV) (t : Int) (a b d e f h k : Option pV) : pLo := [l0, some (pR 0), l2, l3, l4, l5, l6, l7, l8, l9, l10, l11, l12, l13, some (pI (Int32.ofInt t)), some (pR 199), a, b, d, e, f, h, k]
theorem ln199 : lenOf 0 199 = 16 := by decide +kernel
theorem by_c (hg : allI c G U) {j k : Nat} {col w e st ls : Int} (ht : 0 ≤ t ∧ t ≤ 100000) (hj : j < (G 180 1).toNat) (hj8 : j < 80) (hk : (k : Int) < mAt (G 180) j 4) (hcol : mAt (G 180) j (20 + k) = col) (hw : mAt (G 180) j (12 + k) = w) (h0 : 0 ≤ col ∧ col + w ≤ 16 ∧ 0 ≤ w) (he : 0 ≤ e ∧ e ≤ 1000000) (hfree : t < e → ∀ b : Nat, col ≤ (b : Int) → (b : Int) < col + w → G 199 b = -2)
    (hN : ∀ G1 (x : Int), (∀ x, x ≠ 199 → G1 x = G x) → (∀ b : Nat, b < 16 → G1 199 b = if t < e ∧ col ≤ (b : Int) ∧ (b : Int) < col + w then (j : Int) else G 199 b) → N (LT l0 l2 l3 l4 l5 l6 l7 l8 l9 l10 l11 l12 l13 t (some (pI (Int32.ofInt (j : Int)))) (some (pI (Int32.ofInt st))) (some (pI (Int32.ofInt (k : Int)))) (some (pI (Int32.ofInt e))) (some (pI (Int32.ofInt ls))) (some (pI (Int32.ofInt x))) l22) (zM G1 U)) : WpS (sWh (bAnd (mI .lt (lI 21) (bI (fun x y => x + y) (vC 11 F_X_arm rI (aCR (lR 1) (aCI (lI 16) (aCI (lI 18) (aCI (kI 3) aN))))) (vC 11 F_X_arm rI (aCR (lR 1) (aCI (lI 16) (aCI (lI 18) (aCI (kI 0) aN))))))) (mI .gt (lI 19) (lI 14))) (sSeq (sIf (bOr (bOr (mI .lt (lI 21) (kI 0)) (mI .gt (lI 21) (kI 15))) (mI .ne (aI 0 (lR 15) (lI 21)) (kI (-2)))) (sRZ (kZ false)) sSkip) (sAst (lR 15) (lI 21) (lI 16))) (sInc 21 1)) (LT l0 l2 l3 l4 l5 l6 l7 l8 l9 l10 l11 l12 l13 t (some (pI (Int32.ofInt (j : Int)))) (some (pI (Int32.ofInt st))) (some (pI (Int32.ofInt (k : Int)))) (some (pI (Int32.ofInt e))) (some (pI (Int32.ofInt ls))) (some (pI (Int32.ofInt col))) l22) (zM G U) N noQ noQ R := by
  obtain ⟨m, hm⟩ : ∃ m : Nat, (m : Int) = if t < e then w else 0 := ⟨(if t < e then w else 0).toNat, by split <;> omega⟩
  refine wWh (fun i L σ => ∃ G1, (∀ x, x ≠ 199 → G1 x = G x) ∧ (∀ b : Nat, b < 16 → G1 199 b = if t < e ∧ col ≤ (b : Int) ∧ (b : Int) < col + (i : Int) then (j : Int) else G 199 b) ∧ L = LT l0 l2 l3 l4 l5 l6 l7 l8 l9 l10 l11 l12 l13 t (some (pI (Int32.ofInt (j : Int)))) (some (pI (Int32.ofInt st))) (some (pI (Int32.ofInt (k : Int)))) (some (pI (Int32.ofInt e))) (some (pI (Int32.ofInt ls))) (some (pI (Int32.ofInt (col + (i : Int))))) l22 ∧ σ = zM G1 U) m (by split at hm <;> omega) ⟨G, fun _ _ => rfl, fun b _ => by rw [if_neg (by omega)], by rw [Int.natCast_zero, Int.add_zero], rfl⟩ ?_
  rintro i _ _ hi ⟨G1, hf, hb, rfl, rfl⟩
  have hg1 := allI_own (U1 := U) hg (fun x hx => hf x (by omega)) (fun _ _ => rfl)
  have e180 : G1 180 = G 180 := hf 180 (by omega)
  have h3 := xr_arm hg1 (k := j) (b := k) (t := 3) (by rw [e180]; exact hj) (by rw [e180]; exact hk) (by decide)
  have hA0 := xr_arm hg1 (k := j) (b := k) (t := 0) (by rw [e180]; exact hj) (by rw [e180]; exact hk) (by decide)
  rw [e180, show armV (G 180) j k 3 = orN (mAt (G 180) j (20 + k)) from rfl, hcol, orN_ge (by omega), if_neg (by omega)] at h3
  rw [e180, show armV (G 180) j k 0 = mAt (G 180) j (12 + k) from rfl, hw] at hA0
  simp only [Int.cast_ofNat_Int] at h3 hA0
  have hlen := ln199
  rcases Nat.lt_or_ge i m with hlt | hge
  · have hte : t < e := by
      by_cases h : t < e
      · exact h
      · rw [if_neg h] at hm; omega
    rw [if_pos hte] at hm
    obtain ⟨b, hbb⟩ : ∃ b : Nat, (b : Int) = col + (i : Int) := ⟨(col + (i : Int)).toNat, by omega⟩
    have hv : G1 199 b = -2 := by
      rw [hb b (by omega), if_neg (by omega)]
      exact hfree hte b (by omega) (by omega)
    rw [← hbb]
    repeat' first | with_reducible apply wSeq | with_reducible apply wSkip | with_reducible apply wIf | with_reducible apply wAsI | ((with_reducible apply wInc); rfl) | with_reducible apply wKil | with_reducible apply wRZ | with_reducible apply wAst2 | with_reducible apply wB_e | (intro h; try simp only [Bool.and_eq_true, Bool.or_eq_true, Bool.not_eq_true', Bool.not_eq_false', Bool.and_eq_false_imp, Bool.or_eq_false_iff, decide_eq_true_eq, decide_eq_false_iff_not, Bool.not_true, Bool.not_false, Bool.true_eq_false, Bool.false_eq_true, Bool.not_not] at h) | with_reducible apply wN1 | with_reducible apply wN2 | with_reducible apply wN3 | with_reducible apply wN4 | with_reducible apply wN0 | with_reducible apply wE0 | with_reducible apply wXI | with_reducible apply wXB | with_reducible exact h3 | with_reducible exact hA0 | with_reducible exact ckx0 | with_reducible exact hlen | with_reducible exact hv | with_reducible exact eK | ((with_reducible apply eL); rfl) | ((with_reducible apply eLR); rfl) | with_reducible exact eAN | with_reducible apply eAdd | with_reducible apply eMul | with_reducible apply eDiv | with_reducible apply eMax | with_reducible apply eMin | with_reducible apply eLt | with_reducible apply eGt | with_reducible apply eEq | with_reducible apply eNe | with_reducible apply eAnd | with_reducible apply eOrB | with_reducible apply eIteI | with_reducible apply eIteJ | with_reducible apply eIte | with_reducible exact eKZ | with_reducible apply eArr2 | with_reducible apply eAI | with_reducible apply eAR | with_reducible apply eCI | with_reducible apply eCZ | with_reducible apply wRc | with_reducible exact C_X | with_reducible exact Int.toNat_natCast _ | with_reducible exact tn0 | with_reducible exact tn1 | with_reducible exact tn2 | with_reducible exact tn3 | with_reducible exact tn4 | with_reducible exact tn5 | with_reducible exact tn6 | with_reducible exact tn7 | with_reducible exact tn8 | with_reducible exact tn9 | with_reducible exact tn10 | with_reducible exact tn11 | with_reducible exact tn12 | with_reducible exact tn13 | with_reducible exact tn14 | with_reducible exact tn15 | with_reducible exact tn16 | with_reducible exact tnK0 | with_reducible exact tnK4 | with_reducible exact tnK8 | with_reducible exact tnK12 | with_reducible exact tnK16 | with_reducible exact tnK20 | with_reducible exact tnK24 | with_reducible exact tnK28 | with_reducible exact tnK32 | with_reducible exact tnJA | with_reducible exact tnA | with_reducible exact upR_s | ((with_reducible apply upR_a); (first | decide | omega)) | ((with_reducible apply upR_b); (first | decide | omega)) | ((with_reducible apply cpR_o); (first | decide | omega)) | with_reducible apply lt_pSet1 | with_reducible apply lt_kil | exact Nat.le_of_ble_eq_true rfl | with_reducible assumption | with_reducible exact rfl | omega | with_reducible apply wAnd | decide +kernel
    all_goals first | (exfalso; omega) | skip
    · rcases h with (h | h) | h
      · exfalso; omega
      · exfalso; omega
      · exact absurd trivial h
    · refine ⟨upZ G1 199 b (j : Int), fun x hx => ?_, fun b' hb' => ?_, ?_, rfl⟩
      · rw [← hf x hx]
        funext y
        exact if_neg fun z => hx z.1
      · by_cases eb : b' = b
        · subst eb
          rw [if_pos (by omega)]
          exact if_pos ⟨rfl, rfl⟩
        · have : upZ G1 199 b (j : Int) 199 b' = G1 199 b' := if_neg fun z => eb z.2
          rw [this, hb b' hb']
          by_cases hh : t < e ∧ col ≤ (b' : Int) ∧ (b' : Int) < col + (i : Int)
          · rw [if_pos hh, if_pos (by omega)]
          · rw [if_neg hh, if_neg (by omega)]
      · rw [show col + ((i + 1 : Nat) : Int) = (b : Int) + 1 by omega]
        rfl
  · have em : i = m := by omega
    subst em
    repeat' first | with_reducible apply wSeq | with_reducible apply wSkip | with_reducible apply wIf | with_reducible apply wAsI | ((with_reducible apply wInc); rfl) | with_reducible apply wKil | with_reducible apply wRZ | with_reducible apply wAst2 | with_reducible apply wB_e | (intro h; try simp only [Bool.and_eq_true, Bool.or_eq_true, Bool.not_eq_true', Bool.not_eq_false', Bool.and_eq_false_imp, Bool.or_eq_false_iff, decide_eq_true_eq, decide_eq_false_iff_not, Bool.not_true, Bool.not_false, Bool.true_eq_false, Bool.false_eq_true, Bool.not_not] at h) | with_reducible apply wN1 | with_reducible apply wN2 | with_reducible apply wN3 | with_reducible apply wN4 | with_reducible apply wN0 | with_reducible apply wE0 | with_reducible apply wXI | with_reducible apply wXB | with_reducible exact h3 | with_reducible exact hA0 | with_reducible exact ckx0 | with_reducible exact hlen | with_reducible exact eK | ((with_reducible apply eL); rfl) | ((with_reducible apply eLR); rfl) | with_reducible exact eAN | with_reducible apply eAdd | with_reducible apply eMul | with_reducible apply eDiv | with_reducible apply eMax | with_reducible apply eMin | with_reducible apply eLt | with_reducible apply eGt | with_reducible apply eEq | with_reducible apply eNe | with_reducible apply eAnd | with_reducible apply eOrB | with_reducible apply eIteI | with_reducible apply eIteJ | with_reducible apply eIte | with_reducible exact eKZ | with_reducible apply eArr2 | with_reducible apply eAI | with_reducible apply eAR | with_reducible apply eCI | with_reducible apply eCZ | with_reducible apply wRc | with_reducible exact C_X | with_reducible exact Int.toNat_natCast _ | with_reducible exact tn0 | with_reducible exact tn1 | with_reducible exact tn2 | with_reducible exact tn3 | with_reducible exact tn4 | with_reducible exact tn5 | with_reducible exact tn6 | with_reducible exact tn7 | with_reducible exact tn8 | with_reducible exact tn9 | with_reducible exact tn10 | with_reducible exact tn11 | with_reducible exact tn12 | with_reducible exact tn13 | with_reducible exact tn14 | with_reducible exact tn15 | with_reducible exact tn16 | with_reducible exact tnK0 | with_reducible exact tnK4 | with_reducible exact tnK8 | with_reducible exact tnK12 | with_reducible exact tnK16 | with_reducible exact tnK20 | with_reducible exact tnK24 | with_reducible exact tnK28 | with_reducible exact tnK32 | with_reducible exact tnJA | with_reducible exact tnA | with_reducible exact upR_s | ((with_reducible apply upR_a); (first | decide | omega)) | ((with_reducible apply upR_b); (first | decide | omega)) | ((with_reducible apply cpR_o); (first | decide | omega)) | with_reducible apply lt_pSet1 | with_reducible apply lt_kil | exact Nat.le_of_ble_eq_true rfl | with_reducible assumption | with_reducible exact rfl | omega | with_reducible apply wAnd | decide +kernel
    all_goals first | (exfalso; split at hm <;> omega) | skip
    all_goals refine hN G1 _ hf (fun b hb' => ?_)
    all_goals rw [hb b hb']
    all_goals by_cases hte : t < e
    all_goals first
      | (rw [if_pos hte] at hm; rw [hm])
      | (rw [if_neg (fun z => hte z.1), if_neg (fun z => hte z.1)])
end BY
