/-! ===== a call of both: a job taken off ===== -/
theorem is1 : isScene 1 := by unfold isScene; decide
theorem is40 : isScene 40 := by unfold isScene; decide
theorem is79 : isScheduler 79 := by unfold isScheduler; decide
theorem Xc_isJob {G U : Nat → Nat → Int} {j m : Int} (hm : G 6 0 = m) (hb : 0 ≤ m ∧ m ≤ 80) (hj : rg j) : F_X_isJob [pR 0, pI (Int32.ofInt j)] (zM G U) = some (some (pI (zI (decide (0 ≤ j ∧ j < m)))), zM G U) := by
  apply wF_to
  unfold F_X_isJob B_X_isJob
  apply wBody (Nat.le_of_ble_eq_true rfl)
  repeat' first | with_reducible apply wRZ | with_reducible apply wB_e | (intro h; try simp only [Bool.and_eq_true, Bool.or_eq_true, Bool.not_eq_true', Bool.not_eq_false', Bool.and_eq_false_imp, Bool.or_eq_false_iff, decide_eq_true_eq, decide_eq_false_iff_not, Bool.not_true, Bool.not_false, Bool.true_eq_false, Bool.false_eq_true, Bool.not_not] at h) | with_reducible apply wN1 | with_reducible apply wN2 | with_reducible apply wN3 | with_reducible apply wN4 | with_reducible apply wN0 | with_reducible apply wE0 | with_reducible apply wXI | with_reducible apply wXB | with_reducible exact hm | with_reducible exact eK | ((with_reducible apply eL); rfl) | ((with_reducible apply eLR); rfl) | with_reducible exact eAN | with_reducible apply eLt | with_reducible apply eGe | with_reducible apply eAnd | with_reducible apply eFld2 | with_reducible apply R_X_scene | with_reducible apply R_Scene_jobs | with_reducible exact isScene_1 | with_reducible exact C_Scene isScene_1 | with_reducible exact S_Scene_jobs (by assumption) | with_reducible exact C_Jobs (S_Scene_jobs (by assumption)) | with_reducible exact K_Jobs_size (by assumption) | with_reducible exact upR_s | ((with_reducible apply upR_a); (first | decide | omega)) | ((with_reducible apply upR_b); (first | decide | omega)) | ((with_reducible apply cpR_o); (first | decide | omega)) | with_reducible apply lt_pSet1 | with_reducible apply lt_kil | exact Nat.le_of_ble_eq_true rfl | with_reducible assumption | with_reducible exact rfl | omega | with_reducible apply wAnd | decide +kernel
  exact ⟨by rw [Bool.decide_and], rfl⟩
theorem quiet_fr {G G' : Nat → Nat → Int} (h : quiet G) (hf : G' 179 = G 179) : quiet G' := by
  unfold quiet at *
  rw [hf]
  exact h
theorem tapesI_fr {G G' : Nat → Nat → Int} (h : tapesI G) (h1 : G' 168 = G 168) (h2 : G' 169 = G 169) (h3 : G' 179 = G 179) (h4 : G' 186 = G 186) : tapesI G' := by
  unfold tapesI at *
  rw [h1, h2, h3, h4]
  exact h
theorem allI_up {c : Nat} {G U : Nat → Nat → Int} (h : allI c G U) : allI (c + 1) G U := ⟨sideI_fr h.1 (by omega) (fun _ _ _ => rfl) rfl rfl rfl rfl, sideI_fr h.2.1 (by omega) (fun _ _ _ => rfl) rfl rfl rfl rfl, h.2.2.1, h.2.2.2.1, h.2.2.2.2.1, aheadI_fr h.2.2.2.2.2 (by omega) rfl rfl⟩
theorem rowI_offOk {g : Nat → Int} (h : rowI g) (h4 : arms4 g) : offOk g := ⟨h.1.1, h.1.2.2.2.2.2.2.2.2.1, h.1.2.2.1, h4⟩