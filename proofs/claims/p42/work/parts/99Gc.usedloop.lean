/-! ===== the law's look at the uses, at the limit and at the idle columns ===== -/
theorem eJNeS {L : pLo} {σ τ : pM} {x : Int} {a b : eJ} (ha : a L σ = some (Int64.ofInt x, σ)) (hb : b L σ = some (Int64.ofInt x, τ)) : mJ .ne a b L σ = some (false, τ) := by
  simp only [mJ, ha, hb, Option.bind_some, pCj]
  simp
theorem eJEqS {L : pLo} {σ τ : pM} {x : Int} {a b : eJ} (ha : a L σ = some (Int64.ofInt x, σ)) (hb : b L σ = some (Int64.ofInt x, τ)) : mJ .eq a b L σ = some (true, τ) := by
  simp only [mJ, ha, hb, Option.bind_some, pCj]
  simp
section UL
variable {c : Nat} {G U : Nat → Nat → Int} {N B C : pQ} {R : Option pV → pM → Prop} {l0 l4 l5 l6 l7 l8 l9 l10 l11 l12 l13 l15 l16 l18 l19 l20 l21 l22 : Option pV} {t : Int}
abbrev LRc (l0 : Option pV) (per : Int) (l4 l5 l6 l7 l8 l9 l10 l11 l12 l13 : Option pV) (t : Int) (l15 : Option pV) (ob : Int) (k l18 l19 l20 l21 l22 : Option pV) : pLo := [l0, some (pR 0), some (pR 196), some (pI (Int32.ofInt per)), l4, l5, l6, l7, l8, l9, l10, l11, l12, l13, some (pI (Int32.ofInt t)), l15, some (pI (Int32.ofInt ob)), k, l18, l19, l20, l21, l22]
theorem lr_all (hg : allI c G U) {per ob : Int} (hper : 0 ≤ per ∧ per ≤ 100) (ht : 0 ≤ t ∧ t ≤ 100000) (hu0 : ∀ a : Nat, a < 8 → 0 ≤ U 196 a ∧ U 196 a < 1000000000) (hrel : ∀ a : Nat, a < 8 → U 183 a = if 0 < per ∧ (t + 1) % per = 0 then U 196 a / 2 else U 196 a)
    (hN : ∀ U1 : Nat → Nat → Int, (∀ x, x ≠ 196 → U1 x = U x) → (∀ a : Nat, a < 8 → U1 196 a = U 183 a) → N (LRc l0 per l4 l5 l6 l7 l8 l9 l10 l11 l12 l13 t l15 ob none l18 l19 l20 l21 l22) (zM G U1)) : WpS B_LR (LRc l0 per l4 l5 l6 l7 l8 l9 l10 l11 l12 l13 t l15 ob none l18 l19 l20 l21 l22) (zM G U) N B C R := by
  have k6 := ln196
  unfold B_LR
  refine wSeqM (fun L σ => ∃ U1, (∀ x, x ≠ 196 → U1 x = U x) ∧ (∀ a : Nat, a < 8 → U1 196 a = U 183 a) ∧ L = LRc l0 per l4 l5 l6 l7 l8 l9 l10 l11 l12 l13 t l15 ob (some (pI (Int32.ofInt 8))) l18 l19 l20 l21 l22 ∧ σ = zM G U1) ?_ ?_
  · refine wSeq (wAsI eK (Nat.le_of_ble_eq_true rfl) ?_)
    refine wWh (fun i L σ => ∃ U1, (∀ x, x ≠ 196 → U1 x = U x) ∧ (∀ a : Nat, a < 8 → U1 196 a = if a < i then U 183 a else U 196 a) ∧ L = LRc l0 per l4 l5 l6 l7 l8 l9 l10 l11 l12 l13 t l15 ob (some (pI (Int32.ofInt (i : Int)))) l18 l19 l20 l21 l22 ∧ σ = zM G U1) 8 (by omega) ⟨U, fun _ _ => rfl, fun a _ => by rw [if_neg (Nat.not_lt_zero a)], rfl, rfl⟩ ?_
    rintro i _ _ hi ⟨U1, hf, hu, rfl, rfl⟩
    have hg1 := allI_own (G1 := G) hg (fun _ _ => rfl) (fun x hx => hf x (by omega))
    rcases Nat.lt_or_ge i 8 with hlt | hge
    · have hui := hu i hlt
      rw [if_neg (Nat.lt_irrefl i)] at hui
      have hr := hrel i hlt
      have hz := hu0 i hlt
      have y1 := xr_used hg1 (k := i) hlt
      rw [hf 183 (by omega)] at y1
      have hg2 := allI_own (G1 := G) (U1 := upZ U1 196 i (U1 196 i / 2)) hg (fun _ _ => rfl) (fun z hz => by
        have e1 : upZ U1 196 i (U1 196 i / 2) z = U1 z := by funext y; exact if_neg fun q => by omega
        rw [e1, hf z (by omega)])
      have y2 := xr_used hg2 (k := i) hlt
      rw [show upZ U1 196 i (U1 196 i / 2) 183 = U 183 from by
        have e1 : upZ U1 196 i (U1 196 i / 2) 183 = U1 183 := by funext y; exact if_neg fun q => by omega
        rw [e1, hf 183 (by omega)]] at y2
      by_cases hh : 0 < per ∧ (t + 1) % per = 0
      · rw [if_pos hh] at hr
        have hv : upZ U1 196 i (U1 196 i / 2) 196 i = U 183 i := by
          rw [hr, ← hui]
          exact if_pos ⟨rfl, rfl⟩
        repeat' first | with_reducible apply wSeq | with_reducible apply wSkip | with_reducible apply wIf | with_reducible apply wAsI | ((with_reducible apply wInc); rfl) | with_reducible apply wKil | with_reducible apply wRZ | with_reducible apply wLdv2 | with_reducible apply wB_e | (intro h; try simp only [Bool.and_eq_true, Bool.or_eq_true, Bool.not_eq_true', Bool.not_eq_false', Bool.and_eq_false_imp, Bool.or_eq_false_iff, decide_eq_true_eq, decide_eq_false_iff_not, Bool.not_true, Bool.not_false, Bool.true_eq_false, Bool.false_eq_true, Bool.not_not] at h) | with_reducible apply wN1 | with_reducible apply wN2 | with_reducible apply wN3 | with_reducible apply wN4 | with_reducible apply wN0 | with_reducible apply wE0 | with_reducible apply wXI | with_reducible apply wXB | with_reducible exact ckx0 | with_reducible exact k6 | with_reducible exact y2 | with_reducible exact hv | (with_reducible apply eJNeS) | (with_reducible apply eCJr) | with_reducible exact eK | with_reducible exact eKJ | ((with_reducible apply eL); rfl) | ((with_reducible apply eLR); rfl) | with_reducible exact eAN | with_reducible apply eAdd | with_reducible apply eDiv | with_reducible apply eRem | with_reducible apply eLt | with_reducible apply eGt | with_reducible apply eEq | with_reducible apply eAnd | with_reducible exact eKZ | with_reducible apply eArrJ2 | with_reducible apply eAI | with_reducible apply eAR | with_reducible apply eCI | with_reducible apply eCZ | with_reducible apply wRc | with_reducible exact C_X | with_reducible exact Int.toNat_natCast _ | with_reducible exact tn0 | with_reducible exact tn1 | with_reducible exact tn2 | with_reducible exact tn3 | with_reducible exact tn4 | with_reducible exact tn5 | with_reducible exact tn6 | with_reducible exact tn7 | with_reducible exact tn8 | with_reducible exact tn9 | with_reducible exact tn10 | with_reducible exact tn11 | with_reducible exact tn12 | with_reducible exact tn13 | with_reducible exact tn14 | with_reducible exact tn15 | with_reducible exact tn16 | with_reducible exact tnK0 | with_reducible exact tnK4 | with_reducible exact tnK8 | with_reducible exact tnK12 | with_reducible exact tnK16 | with_reducible exact tnK20 | with_reducible exact tnK24 | with_reducible exact tnK28 | with_reducible exact tnK32 | with_reducible exact tnJA | with_reducible exact tnA | with_reducible exact upR_s | ((with_reducible apply upR_a); (first | decide | omega)) | ((with_reducible apply upR_b); (first | decide | omega)) | ((with_reducible apply cpR_o); (first | decide | omega)) | with_reducible apply lt_pSet1 | with_reducible apply lt_kil | exact Nat.le_of_ble_eq_true rfl | with_reducible assumption | with_reducible exact rfl | omega | with_reducible apply wAnd | decide +kernel
        all_goals first | (exfalso; omega) | (have h1 := Int.emod_nonneg (t + 1) (show per ≠ 0 by omega); have h2 := Int.emod_lt_of_pos (t + 1) h; unfold rg; omega) | skip
        refine ⟨upZ U1 196 i (U1 196 i / 2), fun z hz => ?_, fun a ha => ?_, rfl, rfl⟩
        · rw [← hf z hz]
          funext y
          exact if_neg fun q => hz q.1
        · by_cases ea : a = i
          · subst ea
            rw [if_pos (by omega)]
            exact hv
          · have e1 : upZ U1 196 i (U1 196 i / 2) 196 a = U1 196 a := if_neg fun z => ea z.2
            rw [e1, hu a ha]
            by_cases hai : a < i
            · rw [if_pos hai, if_pos (by omega)]
            · rw [if_neg hai, if_neg (by omega)]
      · rw [if_neg hh] at hr
        have hv : U1 196 i = U 183 i := by rw [hui, hr]
        repeat' first | with_reducible apply wSeq | with_reducible apply wSkip | with_reducible apply wIf | with_reducible apply wAsI | ((with_reducible apply wInc); rfl) | with_reducible apply wKil | with_reducible apply wRZ | with_reducible apply wLdv2 | with_reducible apply wB_e | (intro h; try simp only [Bool.and_eq_true, Bool.or_eq_true, Bool.not_eq_true', Bool.not_eq_false', Bool.and_eq_false_imp, Bool.or_eq_false_iff, decide_eq_true_eq, decide_eq_false_iff_not, Bool.not_true, Bool.not_false, Bool.true_eq_false, Bool.false_eq_true, Bool.not_not] at h) | with_reducible apply wN1 | with_reducible apply wN2 | with_reducible apply wN3 | with_reducible apply wN4 | with_reducible apply wN0 | with_reducible apply wE0 | with_reducible apply wXI | with_reducible apply wXB | with_reducible exact ckx0 | with_reducible exact k6 | with_reducible exact y1 | with_reducible exact hv | (with_reducible apply eJNeS) | (with_reducible apply eCJr) | with_reducible exact eK | with_reducible exact eKJ | ((with_reducible apply eL); rfl) | ((with_reducible apply eLR); rfl) | with_reducible exact eAN | with_reducible apply eAdd | with_reducible apply eDiv | with_reducible apply eRem | with_reducible apply eLt | with_reducible apply eGt | with_reducible apply eEq | with_reducible apply eAnd | with_reducible exact eKZ | with_reducible apply eArrJ2 | with_reducible apply eAI | with_reducible apply eAR | with_reducible apply eCI | with_reducible apply eCZ | with_reducible apply wRc | with_reducible exact C_X | with_reducible exact Int.toNat_natCast _ | with_reducible exact tn0 | with_reducible exact tn1 | with_reducible exact tn2 | with_reducible exact tn3 | with_reducible exact tn4 | with_reducible exact tn5 | with_reducible exact tn6 | with_reducible exact tn7 | with_reducible exact tn8 | with_reducible exact tn9 | with_reducible exact tn10 | with_reducible exact tn11 | with_reducible exact tn12 | with_reducible exact tn13 | with_reducible exact tn14 | with_reducible exact tn15 | with_reducible exact tn16 | with_reducible exact tnK0 | with_reducible exact tnK4 | with_reducible exact tnK8 | with_reducible exact tnK12 | with_reducible exact tnK16 | with_reducible exact tnK20 | with_reducible exact tnK24 | with_reducible exact tnK28 | with_reducible exact tnK32 | with_reducible exact tnJA | with_reducible exact tnA | with_reducible exact upR_s | ((with_reducible apply upR_a); (first | decide | omega)) | ((with_reducible apply upR_b); (first | decide | omega)) | ((with_reducible apply cpR_o); (first | decide | omega)) | with_reducible apply lt_pSet1 | with_reducible apply lt_kil | exact Nat.le_of_ble_eq_true rfl | with_reducible assumption | with_reducible exact rfl | omega | with_reducible apply wAnd | decide +kernel
        all_goals first | (exfalso; omega) | (have h1 := Int.emod_nonneg (t + 1) (show per ≠ 0 by omega); have h2 := Int.emod_lt_of_pos (t + 1) h; unfold rg; omega) | skip
        refine ⟨U1, hf, fun a ha => ?_, rfl, rfl⟩
        by_cases ea : a = i
        · subst ea
          rw [if_pos (by omega)]
          exact hv
        · rw [hu a ha]
          by_cases hai : a < i
          · rw [if_pos hai, if_pos (by omega)]
          · rw [if_neg hai, if_neg (by omega)]
    · have ei : i = 8 := by omega
      subst ei
      repeat' first | with_reducible apply wSeq | with_reducible apply wSkip | with_reducible apply wIf | with_reducible apply wAsI | ((with_reducible apply wInc); rfl) | with_reducible apply wKil | with_reducible apply wRZ | with_reducible apply wLdv2 | with_reducible apply wB_e | (intro h; try simp only [Bool.and_eq_true, Bool.or_eq_true, Bool.not_eq_true', Bool.not_eq_false', Bool.and_eq_false_imp, Bool.or_eq_false_iff, decide_eq_true_eq, decide_eq_false_iff_not, Bool.not_true, Bool.not_false, Bool.true_eq_false, Bool.false_eq_true, Bool.not_not] at h) | with_reducible apply wN1 | with_reducible apply wN2 | with_reducible apply wN3 | with_reducible apply wN4 | with_reducible apply wN0 | with_reducible apply wE0 | with_reducible apply wXI | with_reducible apply wXB | with_reducible exact eK | with_reducible exact eKJ | ((with_reducible apply eL); rfl) | ((with_reducible apply eLR); rfl) | with_reducible exact eAN | with_reducible apply eAdd | with_reducible apply eDiv | with_reducible apply eRem | with_reducible apply eLt | with_reducible apply eGt | with_reducible apply eEq | with_reducible apply eAnd | with_reducible exact eKZ | with_reducible apply eArrJ2 | with_reducible apply eAI | with_reducible apply eAR | with_reducible apply eCI | with_reducible apply eCZ | with_reducible apply wRc | with_reducible exact C_X | with_reducible exact Int.toNat_natCast _ | with_reducible exact tn0 | with_reducible exact tn1 | with_reducible exact tn2 | with_reducible exact tn3 | with_reducible exact tn4 | with_reducible exact tn5 | with_reducible exact tn6 | with_reducible exact tn7 | with_reducible exact tn8 | with_reducible exact tn9 | with_reducible exact tn10 | with_reducible exact tn11 | with_reducible exact tn12 | with_reducible exact tn13 | with_reducible exact tn14 | with_reducible exact tn15 | with_reducible exact tn16 | with_reducible exact tnK0 | with_reducible exact tnK4 | with_reducible exact tnK8 | with_reducible exact tnK12 | with_reducible exact tnK16 | with_reducible exact tnK20 | with_reducible exact tnK24 | with_reducible exact tnK28 | with_reducible exact tnK32 | with_reducible exact tnJA | with_reducible exact tnA | with_reducible exact upR_s | ((with_reducible apply upR_a); (first | decide | omega)) | ((with_reducible apply upR_b); (first | decide | omega)) | ((with_reducible apply cpR_o); (first | decide | omega)) | with_reducible apply lt_pSet1 | with_reducible apply lt_kil | exact Nat.le_of_ble_eq_true rfl | with_reducible assumption | with_reducible exact rfl | omega | with_reducible apply wAnd | decide +kernel
      all_goals first | exact ⟨U1, hf, fun a ha => by rw [hu a ha, if_pos ha], rfl, rfl⟩ | (exfalso; omega)
  · rintro _ _ ⟨U1, hf, hu, rfl, rfl⟩
    exact wKil (hN U1 hf hu)
theorem ls_all (hg : allI c G U) {ob mst id : Int} (hob : 0 ≤ ob ∧ ob ≤ mst ∧ mst ≤ 16) (hid : U 183 14 = id) (hN : N [l0, some (pR 0), l4, l6, l7, some (pI (Int32.ofInt mst)), l9, l10, some (pJ (Int64.ofInt id)), l11, l12, l13, l15, l16, l18, l19, some (pI (Int32.ofInt ob)), l20, l21, l22, l5, l8, none] (zM G U)) : WpS B_LS [l0, some (pR 0), l4, l6, l7, some (pI (Int32.ofInt mst)), l9, l10, some (pJ (Int64.ofInt id)), l11, l12, l13, l15, l16, l18, l19, some (pI (Int32.ofInt ob)), l20, l21, l22, l5, l8, none] (zM G U) N B C R := by
  have y1 := xr_led hg (k := 6) (by decide)
  rw [show 8 + 6 = 14 from rfl, hid] at y1
  simp only [Int.cast_ofNat_Int] at y1
  unfold B_LS
  repeat' first | with_reducible apply wSkip | with_reducible apply wIf | with_reducible apply wRZ | with_reducible apply wB_e | (intro h; try simp only [Bool.and_eq_true, Bool.or_eq_true, Bool.not_eq_true', Bool.not_eq_false', Bool.and_eq_false_imp, Bool.or_eq_false_iff, decide_eq_true_eq, decide_eq_false_iff_not, Bool.not_true, Bool.not_false, Bool.true_eq_false, Bool.false_eq_true, Bool.not_not] at h) | with_reducible apply wN1 | with_reducible apply wN2 | with_reducible apply wN3 | with_reducible apply wN4 | with_reducible apply wN0 | with_reducible apply wE0 | with_reducible apply wXI | with_reducible apply wXB | with_reducible exact ckx0 | with_reducible exact y1 | (with_reducible apply eJNeS) | (with_reducible apply eCJr) | with_reducible exact eK | ((with_reducible apply eL); rfl) | ((with_reducible apply eLJ); rfl) | ((with_reducible apply eLR); rfl) | with_reducible exact eAN | with_reducible apply eGt | with_reducible apply eOrB | with_reducible exact eKZ | with_reducible apply eAI | with_reducible apply eAR | with_reducible apply eCI | with_reducible apply eCZ | with_reducible apply wRc | with_reducible exact C_X | with_reducible exact upR_s | ((with_reducible apply upR_a); (first | decide | omega)) | ((with_reducible apply upR_b); (first | decide | omega)) | ((with_reducible apply cpR_o); (first | decide | omega)) | with_reducible apply lt_pSet1 | with_reducible apply lt_kil | exact Nat.le_of_ble_eq_true rfl | with_reducible assumption | with_reducible exact rfl | omega | with_reducible apply wAnd | decide +kernel
  all_goals first
    | exact hN
    | (exfalso
       rcases h with h | h
       · omega
       · exact h)
end UL
