/-! ===== calls of both: a rank, a holding back ===== -/
/-- what the calls read of what stands between them -/
theorem allI_fr {c c' : Nat} {G G' U U' : Nat → Nat → Int} (hg : allI c G U) (hc : c ≤ c') (hf : ∀ x, (x < 79 ∨ x = 98 ∨ x = 130 ∨ x = 168 ∨ x = 169 ∨ x = 180 ∨ x = 182 ∨ x = 186) → G' x = G x) (hq : quiet G') (h7 : G' 179 7 = G 179 7) (h193 : ∀ k, rg (G' 193 k)) (hu : ∀ x, (x < 79 ∨ x = 183 ∨ x = 185) → U' x = U x) : allI c' G' U' := by
  obtain ⟨s1, s2, q, ⟨n, t1, t2, t3, t4, t5⟩, -, h98⟩ := hg
  refine ⟨sideI_fr s1 hc (fun x _ _ => hf x (by omega)) (hf _ (by omega)) (hu _ (by omega)) (hu _ (by omega)) (hu _ (by omega)), sideI_fr s2 hc (fun x _ _ => hf x (by omega)) (hf _ (by omega)) (hu _ (by omega)) (hu _ (by omega)) (hu _ (by omega)), hq, ⟨n, t1, by rw [hf _ (by omega)]; exact t2, by rw [h7]; exact t3, by rw [hf _ (by omega), hf _ (by omega)]; exact t4, by rw [hf _ (by omega)]; exact t5⟩, h193, aheadI_fr h98 hc (hf _ (by omega)) (hf _ (by omega))⟩
theorem Xc_isRank {σ : pM} {a : Int} (ha : rg a) : F_X_isRank [pI (Int32.ofInt a)] σ = some (some (pI (zI (decide (0 ≤ a ∧ a ≤ 9)))), σ) := by
  apply wF_to
  unfold F_X_isRank B_X_isRank
  apply wBody (Nat.le_of_ble_eq_true rfl)
  repeat' first | with_reducible apply wRZ | with_reducible apply wB_e | (intro h; try simp only [Bool.and_eq_true, Bool.or_eq_true, Bool.not_eq_true', Bool.not_eq_false', Bool.and_eq_false_imp, Bool.or_eq_false_iff, decide_eq_true_eq, decide_eq_false_iff_not, Bool.not_true, Bool.not_false, Bool.true_eq_false, Bool.false_eq_true, Bool.not_not] at h) | with_reducible apply wN1 | with_reducible apply wN2 | with_reducible apply wN3 | with_reducible apply wN4 | with_reducible apply wN0 | with_reducible apply wE0 | with_reducible apply wXI | with_reducible apply wXB | with_reducible exact eK | ((with_reducible apply eL); rfl) | with_reducible exact eAN | with_reducible apply eLe | with_reducible apply eGe | with_reducible apply eAnd | with_reducible exact upR_s | ((with_reducible apply upR_a); (first | decide | omega)) | ((with_reducible apply upR_b); (first | decide | omega)) | ((with_reducible apply cpR_o); (first | decide | omega)) | with_reducible apply lt_pSet1 | with_reducible apply lt_kil | exact Nat.le_of_ble_eq_true rfl | with_reducible assumption | with_reducible exact rfl | omega | with_reducible apply wAnd | decide +kernel
  exact ⟨by rw [Bool.decide_and], rfl⟩
theorem Xc_isWaiting {G U : Nat → Nat → Int} {k : Nat} {v : Int} (hk : k < 80) (hv : G 7 k = v) (hr : rg v) : F_X_isWaiting [pR 0, pI (Int32.ofInt (k : Int))] (zM G U) = some (some (pI (zI (decide (v = 0)))), zM G U) := by
  have i1 := is1
  have i6 : isJobs 6 := S_Scene_jobs is1
  apply wF_to
  unfold F_X_isWaiting B_X_isWaiting
  apply wBody (Nat.le_of_ble_eq_true rfl)
  repeat' first | with_reducible apply wRZ | with_reducible apply wB_e | (intro h; try simp only [Bool.and_eq_true, Bool.or_eq_true, Bool.not_eq_true', Bool.not_eq_false', Bool.and_eq_false_imp, Bool.or_eq_false_iff, decide_eq_true_eq, decide_eq_false_iff_not, Bool.not_true, Bool.not_false, Bool.true_eq_false, Bool.false_eq_true, Bool.not_not] at h) | with_reducible apply wN1 | with_reducible apply wN2 | with_reducible apply wN3 | with_reducible apply wN4 | with_reducible apply wN0 | with_reducible apply wE0 | with_reducible apply wXI | with_reducible apply wXB | with_reducible exact hv | with_reducible exact eK | ((with_reducible apply eL); rfl) | ((with_reducible apply eLR); rfl) | with_reducible exact eAN | with_reducible apply eEq | with_reducible apply eArr2 | with_reducible apply R_X_scene | with_reducible apply R_Scene_jobs | with_reducible apply R_Jobs_state | with_reducible exact isScene_1 | with_reducible exact C_Scene isScene_1 | with_reducible exact S_Scene_jobs (by assumption) | with_reducible exact C_Jobs (S_Scene_jobs (by assumption)) | with_reducible exact N_Jobs_state (by assumption) | with_reducible exact Int.toNat_natCast _ | with_reducible exact tn0 | with_reducible exact tn1 | with_reducible exact tn2 | with_reducible exact tn3 | with_reducible exact tn4 | with_reducible exact tn5 | with_reducible exact tn6 | with_reducible exact tn7 | with_reducible exact tn8 | with_reducible exact tn9 | with_reducible exact tn10 | with_reducible exact tn11 | with_reducible exact tn12 | with_reducible exact tn13 | with_reducible exact tn14 | with_reducible exact tn15 | with_reducible exact tn16 | with_reducible exact tnK0 | with_reducible exact tnK4 | with_reducible exact tnK8 | with_reducible exact tnK12 | with_reducible exact tnK16 | with_reducible exact tnK20 | with_reducible exact tnK24 | with_reducible exact tnK28 | with_reducible exact tnK32 | with_reducible exact tnJA | with_reducible exact tnA | with_reducible exact upR_s | ((with_reducible apply upR_a); (first | decide | omega)) | ((with_reducible apply upR_b); (first | decide | omega)) | ((with_reducible apply cpR_o); (first | decide | omega)) | with_reducible apply lt_pSet1 | with_reducible apply lt_kil | exact Nat.le_of_ble_eq_true rfl | with_reducible assumption | with_reducible exact rfl | omega | with_reducible apply wAnd | decide +kernel
  exact ⟨rfl, rfl⟩
/-- a rank, a holding back, a promise told off: what holds goes on -/
theorem near_all {c : Nat} {G G' U : Nat → Nat → Int} {g' : Nat → Int} (hg : allI c G U) (h180 : G' 180 = g') (hG : ∀ x, x ≠ 9 → x ≠ 14 → x ≠ 19 → x ≠ 180 → G' x = G x) (hr : gRange g') (lo : ∀ b, b < 96 → g' b = G 180 b) (hi : ∀ b, 2656 ≤ b → g' b = G 180 b) (he : ∀ k w, k < (G 180 1).toNat → w < 32 → w ≠ 1 → w ≠ 9 → w ≠ 10 → mAt g' k w = mAt (G 180) k w) (ho : ∀ k w, (G 180 1).toNat ≤ k → k < 80 → w < 32 → mAt g' k w = mAt (G 180) k w) (h1 : ∀ k, k < (G 180 1).toNat → G' 9 k = mAt g' k 1 ∧ 0 ≤ mAt g' k 1 ∧ mAt g' k 1 ≤ 9) (h10 : ∀ k, k < (G 180 1).toNat → G' 14 k = mAt g' k 10 ∧ 0 ≤ mAt g' k 10 ∧ mAt g' k 10 ≤ 1) (h9 : ∀ k, k < (G 180 1).toNat → G' 19 k = mAt g' k 9 ∧ (mAt g' k 9 = -1 ∨ mAt g' k 9 = mAt (G 180) k 9)) : allI (c + 1) G' U := by
  obtain ⟨⟨e, hee, hS, hI, hP, hnow, hub⟩, hside2, hq, htp, h193, h98⟩ := hg
  have hrow := hI.1
  have hjo := fun k hk => row_j hrow (j := k) hk
  have hI' : rowI g' := by
    refine row_near hI hr (by rw [lo 7 (by omega)]; exact hrow.2.2.2.2.2.2.2.2.1) (fun b hb _ => lo b hb) (fun k w hk hw a1 _ a9 a10 => he k w hk (by omega) a1 a9 a10) fun k hk => ⟨(h1 k hk).2, (h10 k hk).2, ?_, ?_, fun h0 => ?_⟩
    · rw [he k 8 hk (by omega) (by omega) (by omega) (by omega)]
      have := hjo k hk
      unfold jOk at this
      omega
    · have := hjo k hk
      unfold jOk at this
      have := (h9 k hk).2
      omega
    · have h9k := (h9 k hk).2
      have e9 : mAt g' k 9 = mAt (G 180) k 9 := by omega
      have hj := hjo k hk
      have q := hj.2.2.2.2.2.2.2.2.2.2.2.2.2.2.1 (by omega)
      refine ⟨q.1, by omega, fun a ha => ?_⟩
      have h4 := (jo_4 hj).2.1
      rw [he k (28 + a) hk (by omega) (by omega) (by omega) (by omega)]
      exact (jo_a hj ha).2.2.2.2.2 (by omega)
  have hP' : rowP g' := by
    obtain ⟨p2, p3, p4⟩ := hP
    refine ⟨fun k hk => ?_, ?_, fun b hb hb2 => by rw [hi b (by omega)]; exact p4 b hb hb2⟩
    · rcases Nat.lt_or_ge k (G 180 1).toNat with c | c
      · rw [he k 4 c (by omega) (by omega) (by omega) (by omega)]; exact p2 k hk
      · rw [ho k 4 c hk (by omega)]; exact p2 k hk
    · rw [lo 1 (by omega)]
      refine Int.le_trans (sumTo_le fun x hx => ?_) p3
      (try dsimp only)
      have h9k := (h9 x hx).2
      by_cases c : 0 ≤ mAt g' x 9
      · rw [if_pos (decide_eq_true c), if_pos (decide_eq_true (by omega))]
        exact Int.le_refl 1
      · rw [if_neg (by simpa using c)]
        split <;> omega
  obtain ⟨⟨z0, hSB, hSJ, hSA, hSO, hSS, hST, hSe, hSK⟩, hSQ⟩ := hS
  obtain ⟨kF, kL, kE, kC⟩ := hSK rfl
  have e1 := lo 1 (by omega)
  have a4 : ∀ x, x < (G 180 1).toNat → mArms (G 180) x ≤ 4 := fun x hx => (jo_4 (hjo x hx)).2.1
  have hot : ∀ x k a, hoC g' x k a ↔ hoC (G 180) x k a := fun x k a => by
    by_cases hk : k < (G 180 1).toNat
    · exact hoC_congr (lo 0 (by omega)) e1 (a4 k hk) fun w hw => he k w hk (by omega) (by omega) (by omega) (by omega)
    · constructor
      · rintro ⟨h, _⟩; rw [e1] at h; exact absurd h hk
      · rintro ⟨h, _⟩; exact absurd h hk
  refine ⟨⟨e, ⟨by omega, by rw [h180, lo 5 (by omega)]; omega⟩, ⟨⟨by rw [hG _ (by omega) (by omega) (by omega) (by omega)]; exact z0, ?_, ?_, ?_, ?_, ?_, ?_, by rw [hG _ (by omega) (by omega) (by omega) (by omega)]; exact hSe, fun _ => ⟨?_, ?_, ?_, ?_⟩⟩, ?_⟩, by rw [h180]; exact hI', by rw [h180]; exact hP', by rw [h180, lo 0 (by omega)]; exact hnow, by rw [h180, lo 0 (by omega)]; exact hub⟩, ?_, quiet_fr hq (hG _ (by omega) (by omega) (by omega) (by omega)), tapesI_fr htp (hG _ (by omega) (by omega) (by omega) (by omega)) (hG _ (by omega) (by omega) (by omega) (by omega)) (hG _ (by omega) (by omega) (by omega) (by omega)) (hG _ (by omega) (by omega) (by omega) (by omega)), fun k => by rw [hG _ (by omega) (by omega) (by omega) (by omega)]; exact h193 k, aheadI_fr h98 (by omega) (by rw [hG _ (by omega) (by omega) (by omega) (by omega)]) (by rw [hG _ (by omega) (by omega) (by omega) (by omega)])⟩
  · rw [h180]
    exact relB_g (relB_r hSB (by rw [hG _ (by omega) (by omega) (by omega) (by omega)]) (fun x _ _ => hG x (by omega) (by omega) (by omega) (by omega)) rfl) (lo 0 (by omega)) (fun b _ hb _ _ _ => lo b (by omega)) fun _ _ => rfl
  · rw [h180]
    obtain ⟨j0, jj⟩ := hSJ
    refine ⟨by rw [e1, hG _ (by omega) (by omega) (by omega) (by omega)]; exact j0, fun k hk => ?_⟩
    rw [e1] at hk
    obtain ⟨x5, x0, x1, x2, x3, x4, xc, x10, x11, x6, x7⟩ := jj k hk
    refine ⟨?_, ?_, (h1 k hk).1, ?_, ?_, ?_, ?_, (h10 k hk).1, ?_, ?_, ?_⟩
    · rw [hG _ (by omega) (by omega) (by omega) (by omega), he k 5 hk (by omega) (by omega) (by omega) (by omega)]; exact x5
    · rw [hG _ (by omega) (by omega) (by omega) (by omega), he k 0 hk (by omega) (by omega) (by omega) (by omega)]; exact x0
    · rw [hG _ (by omega) (by omega) (by omega) (by omega), he k 2 hk (by omega) (by omega) (by omega) (by omega)]; exact x2
    · rw [hG _ (by omega) (by omega) (by omega) (by omega), he k 3 hk (by omega) (by omega) (by omega) (by omega)]; exact x3
    · rw [hG _ (by omega) (by omega) (by omega) (by omega), he k 4 hk (by omega) (by omega) (by omega) (by omega)]; exact x4
    · rw [hG _ (by omega) (by omega) (by omega) (by omega), colsF_g (he k 4 hk (by omega) (by omega) (by omega) (by omega)) (a4 k hk) fun w _ _ => he k w hk (by omega) (by omega) (by omega) (by omega)]; exact xc
    · rw [hG _ (by omega) (by omega) (by omega) (by omega), he k 11 hk (by omega) (by omega) (by omega) (by omega)]; exact x11
    · rw [hG _ (by omega) (by omega) (by omega) (by omega), he k 6 hk (by omega) (by omega) (by omega) (by omega)]; exact x6
    · rw [hG _ (by omega) (by omega) (by omega) (by omega), he k 7 hk (by omega) (by omega) (by omega) (by omega)]; exact x7
  · rw [h180]
    exact relA_g (relA_r hSA fun x _ _ => hG x (by omega) (by omega) (by omega) (by omega)) e1 (fun x hx => ⟨a4 x hx, he x 4 hx (by omega) (by omega) (by omega) (by omega)⟩) (fun x w hx _ _ => he x w hx (by omega) (by omega) (by omega) (by omega))
  · rw [h180]
    exact relO_g (relO_r hSO (hG _ (by omega) (by omega) (by omega) (by omega))) hot
  · rw [h180]
    exact relS_g (relS_r hSS fun x _ _ => hG x (by omega) (by omega) (by omega) (by omega)) (lo 5 (by omega)) (fun b _ hb => lo b hb)
  · rw [h180]
    exact relT_g (relT_r hST (by rw [hG _ (by omega) (by omega) (by omega) (by omega)]) (hG _ (by omega) (by omega) (by omega) (by omega))) (lo 6 (by omega)) hrow.2.2.2.2.2.2.2.1.2 (fun b hb _ => hi b hb)
  · rw [h180]
    exact relF_g (relF_r kF (hG _ (by omega) (by omega) (by omega) (by omega))) e1 (fun x hx => he x 8 hx (by omega) (by omega) (by omega) (by omega))
  · exact kL
  · rw [h180]
    exact relE_g (relE_r kE fun x _ _ => hG x (by omega) (by omega) (by omega) (by omega)) (lo 7 (by omega)) (fun b hb _ => hi b (by omega))
  · rw [h180]
    exact relC_g (relC_r kC (hG _ (by omega) (by omega) (by omega) (by omega))) (fun b hb _ => hi b (by omega))
  · rw [h180]
    intro k hk
    rw [e1] at hk
    obtain ⟨k1, k2⟩ := hSQ k hk
    obtain ⟨q1, q2⟩ := h9 k hk
    refine ⟨q1, fun h0 a ha => ?_⟩
    have em : mArms g' k = mArms (G 180) k := by unfold mArms; rw [he k 4 hk (by omega) (by omega) (by omega) (by omega)]
    rw [em] at ha
    have := a4 k hk
    rw [he k (28 + a) hk (by omega) (by omega) (by omega) (by omega), hG _ (by omega) (by omega) (by omega) (by omega)]
    exact k2 (by omega) a ha
  · exact sideI_fr hside2 (by omega) (fun x _ _ => hG x (by omega) (by omega) (by omega) (by omega)) (hG _ (by omega) (by omega) (by omega) (by omega)) rfl rfl rfl
theorem M_isJobR {G U : Nat → Nat → Int} {g : Nat → Int} {j : Int} (hj : -2147483648 ≤ j ∧ j < 2147483648) (hm : -2147483647 ≤ g 1 ∧ g 1 < 2147483648) : F_M_isJob [pR 179, pI (Int32.ofInt j)] (zM (setRow G 180 g) U) = some (some (pI (zI (decide (0 ≤ j ∧ j ≤ g 1 - 1)))), zM (setRow G 180 g) U) := by
  have := M_isJob (G := setRow G 180 g) (U := U) hj (by rw [setRow_at]; exact hm)
  rw [setRow_at] at this
  exact this