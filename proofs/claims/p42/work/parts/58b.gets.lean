theorem Sc_knownEnd {G U : Nat → Nat → Int} {s j a : Nat} {g : Nat → Int} (hs : isScene s) (hJ : relJ G s g) (hA : relA G s g) (hj : j < (g 1).toNat) (hj2 : j < 80) (ha : a < mArms g j) (ha2 : a < 4) : F_Scene_knownEnd [pR s, pI (Int32.ofInt ((j : Int) * 4 + (a : Int)))] (zM G U) = some (some (pI (Int32.ofInt (mAt g j 6 + mAt g j (16 + a)))), zM G U) := by
  apply wF_to
  obtain ⟨-, h1⟩ := hJ
  obtain ⟨-, -, -, -, -, -, -, -, -, j10, -⟩ := h1 j hj
  obtain ⟨-, a2, -, -⟩ := hA j a hj ha
  have hsj := S_Scene_jobs hs
  have hsa := S_Scene_arms hs
  unfold F_Scene_knownEnd B_Scene_knownEnd
  apply wBody (Nat.le_of_ble_eq_true rfl)
  repeat' first | with_reducible apply wRI | with_reducible apply wB_e | (intro h; try simp only [Bool.and_eq_true, Bool.or_eq_true, Bool.not_eq_true', Bool.not_eq_false', Bool.and_eq_false_imp, Bool.or_eq_false_iff, decide_eq_true_eq, decide_eq_false_iff_not, Bool.not_true, Bool.not_false, Bool.true_eq_false, Bool.false_eq_true, Bool.not_not] at h) | with_reducible apply wN1 | with_reducible apply wN2 | with_reducible apply wN3 | with_reducible apply wN4 | with_reducible apply wN0 | with_reducible apply wE0 | with_reducible apply wXI | with_reducible apply wXB | with_reducible exact tnD4 ha2 | with_reducible exact eK | ((with_reducible apply eL); rfl) | ((with_reducible apply eLR); rfl) | with_reducible exact eAN | with_reducible apply eAdd | with_reducible apply eDiv | with_reducible apply eArr2 | with_reducible apply R_Scene_jobs | with_reducible apply R_Scene_arms | with_reducible apply R_Jobs_start | with_reducible apply R_Arms_asks | with_reducible exact S_Scene_jobs (by assumption) | with_reducible exact C_Jobs (S_Scene_jobs (by assumption)) | with_reducible exact S_Scene_arms (by assumption) | with_reducible exact C_Arms (S_Scene_arms (by assumption)) | with_reducible exact N_Jobs_start (by assumption) | with_reducible exact N_Arms_asks (by assumption) | with_reducible exact Int.toNat_natCast _ | with_reducible exact tn0 | with_reducible exact tn1 | with_reducible exact tn2 | with_reducible exact tn3 | with_reducible exact tn4 | with_reducible exact tn5 | with_reducible exact tn6 | with_reducible exact tn7 | with_reducible exact tn8 | with_reducible exact tn9 | with_reducible exact tn10 | with_reducible exact tn11 | with_reducible exact tn12 | with_reducible exact tn13 | with_reducible exact tn14 | with_reducible exact tn15 | with_reducible exact tn16 | with_reducible exact tnK0 | with_reducible exact tnK4 | with_reducible exact tnK8 | with_reducible exact tnK12 | with_reducible exact tnK16 | with_reducible exact tnK20 | with_reducible exact tnK24 | with_reducible exact tnK28 | with_reducible exact tnK32 | with_reducible exact tnJA | with_reducible exact tnA | with_reducible exact upR_s | ((with_reducible apply upR_a); (first | decide | omega)) | ((with_reducible apply upR_b); (first | decide | omega)) | exact Nat.le_of_ble_eq_true rfl | with_reducible assumption | with_reducible exact rfl | omega | with_reducible apply wAnd | decide +kernel
  exact ⟨rfl, rfl⟩
theorem Sc_acc {G U : Nat → Nat → Int} {s j a : Nat} {g : Nat → Int} (hs : isScene s) (hJ : relJ G s g) (hj : j < (g 1).toNat) (hj2 : j < 80) (ha2 : a < 4) : F_Scene_accountOfArm [pR s, pI (Int32.ofInt ((j : Int) * 4 + (a : Int)))] (zM G U) = some (some (pI (Int32.ofInt (mAt g j 0))), zM G U) := by
  apply wF_to
  obtain ⟨-, h1⟩ := hJ
  obtain ⟨-, j1, -⟩ := h1 j hj
  have hsj := S_Scene_jobs hs
  have hsa := S_Scene_arms hs
  unfold F_Scene_accountOfArm B_Scene_accountOfArm
  apply wBody (Nat.le_of_ble_eq_true rfl)
  repeat' first | with_reducible apply wRI | with_reducible apply wB_e | (intro h; try simp only [Bool.and_eq_true, Bool.or_eq_true, Bool.not_eq_true', Bool.not_eq_false', Bool.and_eq_false_imp, Bool.or_eq_false_iff, decide_eq_true_eq, decide_eq_false_iff_not, Bool.not_true, Bool.not_false, Bool.true_eq_false, Bool.false_eq_true, Bool.not_not] at h) | with_reducible apply wN1 | with_reducible apply wN2 | with_reducible apply wN3 | with_reducible apply wN4 | with_reducible apply wN0 | with_reducible apply wE0 | with_reducible apply wXI | with_reducible apply wXB | with_reducible exact tnD4 ha2 | with_reducible exact eK | ((with_reducible apply eL); rfl) | ((with_reducible apply eLR); rfl) | with_reducible exact eAN | with_reducible apply eDiv | with_reducible apply eArr2 | with_reducible apply R_Scene_jobs | with_reducible apply R_Jobs_account | with_reducible exact S_Scene_jobs (by assumption) | with_reducible exact C_Jobs (S_Scene_jobs (by assumption)) | with_reducible exact N_Jobs_account (by assumption) | with_reducible exact Int.toNat_natCast _ | with_reducible exact tn0 | with_reducible exact tn1 | with_reducible exact tn2 | with_reducible exact tn3 | with_reducible exact tn4 | with_reducible exact tn5 | with_reducible exact tn6 | with_reducible exact tn7 | with_reducible exact tn8 | with_reducible exact tn9 | with_reducible exact tn10 | with_reducible exact tn11 | with_reducible exact tn12 | with_reducible exact tn13 | with_reducible exact tn14 | with_reducible exact tn15 | with_reducible exact tn16 | with_reducible exact tnK0 | with_reducible exact tnK4 | with_reducible exact tnK8 | with_reducible exact tnK12 | with_reducible exact tnK16 | with_reducible exact tnK20 | with_reducible exact tnK24 | with_reducible exact tnK28 | with_reducible exact tnK32 | with_reducible exact tnJA | with_reducible exact tnA | with_reducible exact upR_s | ((with_reducible apply upR_a); (first | decide | omega)) | ((with_reducible apply upR_b); (first | decide | omega)) | exact Nat.le_of_ble_eq_true rfl | with_reducible assumption | with_reducible exact rfl | omega | with_reducible apply wAnd | decide +kernel
  exact ⟨rfl, rfl⟩
theorem Sc_lasts {G U : Nat → Nat → Int} {s j a : Nat} {g : Nat → Int} (hs : isScene s) (hJ : relJ G s g) (hA : relA G s g) (hj : j < (g 1).toNat) (hj2 : j < 80) (ha : a < mArms g j) (ha2 : a < 4) (h1 : 0 ≤ mAt g j (16 + a) ∧ mAt g j (16 + a) ≤ 1000) (h2 : 0 ≤ mAt g j 2 ∧ mAt g j 2 ≤ 1000) : F_Scene_lasts [pR s, pI (Int32.ofInt ((j : Int) * 4 + (a : Int)))] (zM G U) = some (some (pI (Int32.ofInt (lastF g j a))), zM G U) := by
  apply wF_to
  obtain ⟨-, hh⟩ := hJ
  obtain ⟨-, -, -, j4, -⟩ := hh j hj
  obtain ⟨-, a2, -, -⟩ := hA j a hj ha
  have hsj := S_Scene_jobs hs
  have hsa := S_Scene_arms hs
  unfold F_Scene_lasts B_Scene_lasts lastF
  apply wBody (Nat.le_of_ble_eq_true rfl)
  have hm : 0 ≤ mAt g j (16 + a) * mAt g j 2 ∧ mAt g j (16 + a) * mAt g j 2 ≤ 1000000 := by
    constructor
    · exact Int.mul_nonneg h1.1 h2.1
    · have := Int.mul_le_mul h1.2 h2.2 h2.1 (by omega)
      omega
  have hq : rg (mAt g j (16 + a) * mAt g j 2 / 100) := by unfold rg; omega
  repeat' first | with_reducible apply wRI | with_reducible apply wB_e | (intro h; try simp only [Bool.and_eq_true, Bool.or_eq_true, Bool.not_eq_true', Bool.not_eq_false', Bool.and_eq_false_imp, Bool.or_eq_false_iff, decide_eq_true_eq, decide_eq_false_iff_not, Bool.not_true, Bool.not_false, Bool.true_eq_false, Bool.false_eq_true, Bool.not_not] at h) | with_reducible apply wN1 | with_reducible apply wN2 | with_reducible apply wN3 | with_reducible apply wN4 | with_reducible apply wN0 | with_reducible apply wE0 | with_reducible apply wXI | with_reducible apply wXB | with_reducible exact tnD4 ha2 | with_reducible exact eK | ((with_reducible apply eL); rfl) | ((with_reducible apply eLR); rfl) | with_reducible exact eAN | with_reducible apply eMul | with_reducible apply eDiv | with_reducible apply eMax | with_reducible apply eArr2 | with_reducible apply R_Scene_jobs | with_reducible apply R_Scene_arms | with_reducible apply R_Jobs_part | with_reducible apply R_Arms_asks | with_reducible exact S_Scene_jobs (by assumption) | with_reducible exact C_Jobs (S_Scene_jobs (by assumption)) | with_reducible exact S_Scene_arms (by assumption) | with_reducible exact C_Arms (S_Scene_arms (by assumption)) | with_reducible exact N_Jobs_part (by assumption) | with_reducible exact N_Arms_asks (by assumption) | with_reducible exact Int.toNat_natCast _ | with_reducible exact tn0 | with_reducible exact tn1 | with_reducible exact tn2 | with_reducible exact tn3 | with_reducible exact tn4 | with_reducible exact tn5 | with_reducible exact tn6 | with_reducible exact tn7 | with_reducible exact tn8 | with_reducible exact tn9 | with_reducible exact tn10 | with_reducible exact tn11 | with_reducible exact tn12 | with_reducible exact tn13 | with_reducible exact tn14 | with_reducible exact tn15 | with_reducible exact tn16 | with_reducible exact tnK0 | with_reducible exact tnK4 | with_reducible exact tnK8 | with_reducible exact tnK12 | with_reducible exact tnK16 | with_reducible exact tnK20 | with_reducible exact tnK24 | with_reducible exact tnK28 | with_reducible exact tnK32 | with_reducible exact tnJA | with_reducible exact tnA | with_reducible exact upR_s | ((with_reducible apply upR_a); (first | decide | omega)) | ((with_reducible apply upR_b); (first | decide | omega)) | exact Nat.le_of_ble_eq_true rfl | with_reducible assumption | with_reducible exact rfl | omega | with_reducible apply wAnd | decide +kernel
  exact ⟨rfl, rfl⟩
theorem Ar_holds {G U : Nat → Nat → Int} {s j a : Nat} {g : Nat → Int} (hs : isScene s) (hrow : rowOk g) (hcol : colOk g) (hA : relA G s g) (hO : relO G s g) (hj : j < (g 1).toNat) (ha : a < mArms g j) : F_Arms_holds [pR (s + 19), pI (Int32.ofInt ((j : Int) * 4 + (a : Int)))] (zM G U) = some (some (pI (zI (mHolds g j a))), zM G U) := by
  apply wF_to
  have hs2 := S_Scene_arms hs
  obtain ⟨-, -, a3, -⟩ := hA j a hj ha
  obtain ⟨-, w2, w3, -, -, -, -, -, -, -, -, w12, -, -⟩ := id hrow
  have hjo := w12 j hj
  have em : mArms g j = (mAt g j 4).toNat := rfl
  have h4 := hjo.2.2.2.2.1
  have hao := hjo.2.2.2.2.2.2.2.2.2.2.2.2.2.2.2 a ha
  obtain ⟨q1, q2, q3, q4, q5, q6⟩ := hao
  have hc := hcol j a hj ha
  unfold F_Arms_holds B_Arms_holds
  apply wBody (Nat.le_of_ble_eq_true rfl)
  by_cases c : mAt g j (20 + a) = -1
  · have hn : mHolds g j a = false := by
      rw [← Bool.not_eq_true]
      intro h
      have h5 : mAt g j 5 = 1 := by
        unfold mHolds at h
        simp only [Bool.and_eq_true, decide_eq_true_eq] at h
        exact h.1
      have := q5 h5
      omega
    repeat' first | with_reducible apply wRZ | with_reducible apply wB_e | (intro h; try simp only [Bool.and_eq_true, Bool.or_eq_true, Bool.not_eq_true', Bool.not_eq_false', Bool.and_eq_false_imp, Bool.or_eq_false_iff, decide_eq_true_eq, decide_eq_false_iff_not, Bool.not_true, Bool.not_false, Bool.true_eq_false, Bool.false_eq_true, Bool.not_not] at h) | with_reducible apply wN1 | with_reducible apply wN2 | with_reducible apply wN3 | with_reducible apply wN4 | with_reducible apply wN0 | with_reducible apply wE0 | with_reducible apply wXI | with_reducible apply wXB | with_reducible exact eK | ((with_reducible apply eL); rfl) | ((with_reducible apply eLR); rfl) | with_reducible exact eAN | with_reducible apply eEq | with_reducible apply eNe | with_reducible apply eAnd | with_reducible apply eArr2 | with_reducible apply R_Arms_column | with_reducible apply R_Arms_owner | with_reducible exact N_Arms_column (by assumption) | with_reducible exact N_Arms_owner (by assumption) | with_reducible exact Int.toNat_natCast _ | with_reducible exact tn0 | with_reducible exact tn1 | with_reducible exact tn2 | with_reducible exact tn3 | with_reducible exact tn4 | with_reducible exact tn5 | with_reducible exact tn6 | with_reducible exact tn7 | with_reducible exact tn8 | with_reducible exact tn9 | with_reducible exact tn10 | with_reducible exact tn11 | with_reducible exact tn12 | with_reducible exact tn13 | with_reducible exact tn14 | with_reducible exact tn15 | with_reducible exact tn16 | with_reducible exact tnK0 | with_reducible exact tnK4 | with_reducible exact tnK8 | with_reducible exact tnK12 | with_reducible exact tnK16 | with_reducible exact tnK20 | with_reducible exact tnK24 | with_reducible exact tnK28 | with_reducible exact tnK32 | with_reducible exact tnJA | with_reducible exact tnA | with_reducible exact upR_s | ((with_reducible apply upR_a); (first | decide | omega)) | ((with_reducible apply upR_b); (first | decide | omega)) | exact Nat.le_of_ble_eq_true rfl | with_reducible assumption | with_reducible exact rfl | omega | with_reducible apply wAnd | decide +kernel
    exact ⟨by rw [hn]; simp [c], rfl⟩
  · obtain ⟨m, hm⟩ : ∃ m : Nat, mAt g j (20 + a) = m := ⟨(mAt g j (20 + a)).toNat, by omega⟩
    have hO1 := hO m (by omega)
    have hv : ∃ v : Int, G (s + 25) m = v ∧ rg v ∧ (v = (j : Int) * 4 + (a : Int) ↔ mHolds g j a = true) := by
      by_cases hx : ∃ j' a', hoC g m j' a'
      · obtain ⟨j', a', hx⟩ := hx
        have e1 := hO1.1 j' a' hx
        have k2 := (w12 j' hx.1).2.2.2.2.1
        have m2 : mArms g j' = (mAt g j' 4).toNat := rfl
        have q2' := hx.2.1
        have q1' := hx.1
        refine ⟨_, e1, by unfold rg; omega, ?_⟩
        constructor
        · intro h
          have e2 : j' = j ∧ a' = a := by omega
          rw [← e2.1, ← e2.2]
          exact hx.2.2.1
        · intro h
          have hy : hoC g m j a := ⟨hj, ha, h, (ho_bits hrow hj ha h).mpr (by omega)⟩
          rw [← e1]
          exact hO1.1 j a hy
      · have hx2 : ∀ j' a', ¬ hoC g m j' a' := fun j' a' h => hx ⟨j', a', h⟩
        refine ⟨-1, hO1.2 hx2, by unfold rg; omega, ?_⟩
        constructor
        · intro h; omega
        · intro h
          exact absurd ⟨hj, ha, h, (ho_bits hrow hj ha h).mpr (by omega)⟩ (hx2 j a)
    obtain ⟨v, hv1, hv2, hv3⟩ := hv
    rw [hm] at a3
    repeat' first | with_reducible apply wRZ | with_reducible apply wB_e | (intro h; try simp only [Bool.and_eq_true, Bool.or_eq_true, Bool.not_eq_true', Bool.not_eq_false', Bool.and_eq_false_imp, Bool.or_eq_false_iff, decide_eq_true_eq, decide_eq_false_iff_not, Bool.not_true, Bool.not_false, Bool.true_eq_false, Bool.false_eq_true, Bool.not_not] at h) | with_reducible apply wN1 | with_reducible apply wN2 | with_reducible apply wN3 | with_reducible apply wN4 | with_reducible apply wN0 | with_reducible apply wE0 | with_reducible apply wXI | with_reducible apply wXB | with_reducible exact eK | ((with_reducible apply eL); rfl) | ((with_reducible apply eLR); rfl) | with_reducible exact eAN | with_reducible apply eEq | with_reducible apply eNe | with_reducible apply eAnd | with_reducible apply eArr2 | with_reducible apply R_Arms_column | with_reducible apply R_Arms_owner | with_reducible exact N_Arms_column (by assumption) | with_reducible exact N_Arms_owner (by assumption) | with_reducible exact Int.toNat_natCast _ | with_reducible exact tn0 | with_reducible exact tn1 | with_reducible exact tn2 | with_reducible exact tn3 | with_reducible exact tn4 | with_reducible exact tn5 | with_reducible exact tn6 | with_reducible exact tn7 | with_reducible exact tn8 | with_reducible exact tn9 | with_reducible exact tn10 | with_reducible exact tn11 | with_reducible exact tn12 | with_reducible exact tn13 | with_reducible exact tn14 | with_reducible exact tn15 | with_reducible exact tn16 | with_reducible exact tnK0 | with_reducible exact tnK4 | with_reducible exact tnK8 | with_reducible exact tnK12 | with_reducible exact tnK16 | with_reducible exact tnK20 | with_reducible exact tnK24 | with_reducible exact tnK28 | with_reducible exact tnK32 | with_reducible exact tnJA | with_reducible exact tnA | with_reducible exact upR_s | ((with_reducible apply upR_a); (first | decide | omega)) | ((with_reducible apply upR_b); (first | decide | omega)) | exact Nat.le_of_ble_eq_true rfl | with_reducible assumption | with_reducible exact rfl | omega | with_reducible apply wAnd | decide +kernel
    refine ⟨?_, rfl⟩
    have e5 : (decide (v = (j : Int) * 4 + (a : Int))) = mHolds g j a := by
      cases hb : mHolds g j a with
      | true => simp [hv3.mpr hb]
      | false => simp only [decide_eq_false_iff_not]; intro h; rw [hv3.mp h] at hb; cases hb
    have e6 : ¬ (m : Int) = -1 := by omega
    simp [e5, e6]
theorem hold_is {G : Nat → Nat → Int} {s c : Nat} {g : Nat → Int} (hrow : rowOk g) (hO : relO G s g) (hc : c < 16) : (∃ j a : Nat, hoC g c j a ∧ holderF g c = (j : Int) ∧ G (s + 25) c = (j : Int) * 4 + (a : Int)) ∨ ((∀ j a, ¬ hoC g c j a) ∧ holderF g c = -1 ∧ G (s + 25) c = -1) := by
  by_cases hx : ∃ j a, hoC g c j a
  · obtain ⟨j, a, hx⟩ := hx
    refine Or.inl ⟨j, a, hx, ?_, (hO c hc).1 j a hx⟩
    have hjb : holdB g c j = true := anyTo_iff.mpr ⟨a, hx.2.1, by show (mHolds g j a && (mHeldBits g j a).testBit c) = true; rw [hx.2.2.1, hx.2.2.2]; rfl⟩
    have e : leastTo (holdB g c) (g 1).toNat = j := by
      refine leastTo_eq hjb (fun i hi => ?_) _ hx.1
      rw [← Bool.not_eq_true]
      intro h
      obtain ⟨b, hb, hb2⟩ := anyTo_iff.mp h
      simp only [Bool.and_eq_true] at hb2
      have hy : hoC g c i b := ⟨by have := hx.1; omega, hb, hb2.1, hb2.2⟩
      have := ho_one hrow hO hc hx hy
      omega
    unfold holderF
    rw [e, if_pos hx.1]
  · have hx2 : ∀ j a, ¬ hoC g c j a := fun j a h => hx ⟨j, a, h⟩
    refine Or.inr ⟨hx2, ?_, (hO c hc).2 hx2⟩
    have e : leastTo (holdB g c) (g 1).toNat = (g 1).toNat := by
      refine leastTo_no _ fun i hi => ?_
      rw [← Bool.not_eq_true]
      intro h
      obtain ⟨b, hb, hb2⟩ := anyTo_iff.mp h
      simp only [Bool.and_eq_true] at hb2
      exact hx2 i b ⟨hi, hb, hb2.1, hb2.2⟩
    unfold holderF
    rw [e, if_neg (Nat.lt_irrefl _)]
