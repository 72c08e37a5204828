set_option maxHeartbeats 1000000 in
theorem Sd_offAlone {G U V : Nat → Nat → Int} {e s k j : Nat} {g : Nat → Int} {R : Option pV → pM → Prop} (hs : isScene s) (hk : isScheduler k) (hI : rowI g) (hj : j < (g 1).toNat) (hS : scR false 0 e G U s g (V 183)) (he : e < 2000000000)
    (hR : ∀ G' U', (∀ x, (x < s ∨ s + 39 ≤ x) → G' x = G x) → (∀ x, x ≠ s + 33 → U' x = U x) → scR false 0 (e + 1) G' U' s (of1 g j) (of1U V 183) → R none (zM G' U')) : WpF F_Scheduler_takeOffAlone [pR k, pR s, pI (Int32.ofInt (j : Int))] (zM G U) R := by
  have hsj := S_Scene_jobs hs
  have hsa := S_Scene_arms hs
  have hS0 := hS
  obtain ⟨⟨z0, hSB, hSJ, hSA, hSO, hSS, hST, hSe, hSK⟩, hSQ⟩ := hS
  have hrow := hI.1
  have hn := row_n hrow hj
  have hjo := row_j hrow hj
  have h4 := jo_4 hjo
  have r0 := hrow.2.1
  have eB := hSB.1
  have j4 := (hSJ.2 j hj).2.2.2.2.2.1
  rw [← h4.2.2] at j4
  unfold F_Scheduler_takeOffAlone B_Scheduler_takeOffAlone
  apply wBody (Nat.le_of_ble_eq_true rfl)
  repeat' first | with_reducible apply wSeq | with_reducible apply wSkip | with_reducible apply wIf | with_reducible apply wAsI | ((with_reducible apply wInc); rfl) | with_reducible apply wKil | with_reducible apply wRV | with_reducible apply wAst2 | with_reducible apply wVd | with_reducible apply wB_e | (intro h; try simp only [Bool.and_eq_true, Bool.or_eq_true, Bool.not_eq_true', Bool.not_eq_false', Bool.and_eq_false_imp, Bool.or_eq_false_iff, decide_eq_true_eq, decide_eq_false_iff_not, Bool.not_true, Bool.not_false, Bool.true_eq_false, Bool.false_eq_true, Bool.not_not] at h) | with_reducible apply wN1 | with_reducible apply wN2 | with_reducible apply wN3 | with_reducible apply wN4 | with_reducible apply wN0 | with_reducible apply wE0 | with_reducible apply wXI | with_reducible apply wXB | with_reducible exact eK | ((with_reducible apply eL); rfl) | ((with_reducible apply eLR); rfl) | with_reducible exact eAN | with_reducible apply eAdd | with_reducible apply eMul | with_reducible apply eLt | with_reducible apply eArr2 | with_reducible apply eFld2 | with_reducible apply eAI | with_reducible apply eAR | with_reducible apply eCI | with_reducible apply eCZ | with_reducible apply wRc | with_reducible apply R_Scene_jobs | with_reducible apply R_Scene_arms | with_reducible apply R_Jobs_arms | with_reducible apply R_Jobs_promise | with_reducible apply R_Arms_end | with_reducible exact K_Scene_now (by assumption) | with_reducible exact S_Scene_jobs (by assumption) | with_reducible exact C_Jobs (S_Scene_jobs (by assumption)) | with_reducible exact S_Scene_arms (by assumption) | with_reducible exact C_Arms (S_Scene_arms (by assumption)) | with_reducible exact N_Jobs_arms (by assumption) | with_reducible exact N_Jobs_promise (by assumption) | with_reducible exact C_Arms (by assumption) | with_reducible exact N_Arms_end (by assumption) | with_reducible exact C_Scheduler (by assumption) | with_reducible exact Int.toNat_natCast _ | with_reducible exact tn0 | with_reducible exact tn1 | with_reducible exact tn2 | with_reducible exact tn3 | with_reducible exact tn4 | with_reducible exact tn5 | with_reducible exact tn6 | with_reducible exact tn7 | with_reducible exact tn8 | with_reducible exact tn9 | with_reducible exact tn10 | with_reducible exact tn11 | with_reducible exact tn12 | with_reducible exact tn13 | with_reducible exact tn14 | with_reducible exact tn15 | with_reducible exact tn16 | with_reducible exact tnK0 | with_reducible exact tnK4 | with_reducible exact tnK8 | with_reducible exact tnK12 | with_reducible exact tnK16 | with_reducible exact tnK20 | with_reducible exact tnK24 | with_reducible exact tnK28 | with_reducible exact tnK32 | with_reducible exact tnJA | with_reducible exact tnA | with_reducible exact upR_s | ((with_reducible apply upR_a); (first | decide | omega)) | ((with_reducible apply upR_b); (first | decide | omega)) | ((with_reducible apply noteR_a); (first | decide | omega)) | ((with_reducible apply noteR_b); (first | decide | omega)) | ((with_reducible apply cpR_o); (first | decide | omega)) | with_reducible apply lt_pSet1 | with_reducible apply lt_kil | exact Nat.le_of_ble_eq_true rfl | with_reducible assumption | with_reducible exact rfl | omega | with_reducible apply wAnd | decide +kernel
  refine wWh (fun i L σ => ∃ G', L = [some (pR k), some (pR s), some (pI (Int32.ofInt (j : Int))), some (pI (Int32.ofInt ((j : Int) * 4 + (i : Int))))] ∧ σ = zM G' U ∧ (∀ x, x ≠ s + 23 → x ≠ s + 25 → G' x = G x) ∧ relA G' s (ofA g j i) ∧ relO G' s (ofA g j i)) (mArms g j) (by omega) ⟨G, by rw [show (j : Int) * 4 + ((0 : Nat) : Int) = (j : Int) * 4 by omega]; rfl, rfl, fun _ _ _ => rfl, hSA, hSO⟩ ?_
  rintro i _ _ hi ⟨G', rfl, rfl, f1, f2, f3⟩
  have e1 : G' (s + 11) j = (mArms g j : Int) := by rw [f1 _ (by omega) (by omega)]; exact j4
  have eN : G' s 1 = g 0 := by rw [f1 s (by omega) (by omega)]; exact eB
  obtain ⟨hA, hAc⟩ := ofA_row hj hrow hI.2.1 hi
  have a1 : ofA g j i 1 = g 1 := ofA_lo (by omega) _
  rcases Nat.lt_or_ge i (mArms g j) with hlt | hge
  · have emA : mArms (ofA g j i) j = mArms g j := by
      show (mAt _ j 4).toNat = _
      rw [ofA_o hj hrow hi (by omega) (Or.inr (Or.inl (by omega)))]
      rfl
    have hh := Ar_holds (U := U) (a := i) hs hA hAc f2 f3 (j := j) (by rw [a1]; exact hj) (by rw [emA]; exact hlt)
    have hsame : mHolds (ofA g j i) j i = mHolds g j i := by
      rw [Bool.eq_iff_iff, ofA_holds hj hrow hi hj hlt]
      exact ⟨fun h => h.1, fun h => ⟨h, fun h2 => by omega⟩⟩
    have hsuc : ofA g j (i + 1) = if mHolds g j i = true then jput (ofA g j i) j (24 + i) (g 0) else ofA g j i := by rw [ofA, hsame]
    rw [hsame] at hh
    cases hb : mHolds g j i with
    | true =>
      rw [hb] at hh
      rw [if_pos hb] at hsuc
      obtain ⟨p1, p2, p3, p4, p5⟩ := he_ok hrow hj hlt hb
      obtain ⟨q20, q21, q22, q23⟩ := f2 j i (by rw [a1]; exact hj) (by rw [emA]; exact hlt)
      rw [ofA_o hj hrow hi (by omega) (Or.inr (Or.inl (by omega)))] at q20 q22
      have hown := Ar_own (U := U) (G := G') (o := s + 19) (j := j) (a := i) (col := (mAt g j (20 + i)).toNat) (w := (mAt g j (12 + i)).toNat) (who := -1) hsa hn (by omega) (by rw [q22]; omega) (by rw [q20]; omega) (by omega)
      repeat' first | with_reducible apply wSeq | with_reducible apply wSkip | with_reducible apply wIf | with_reducible apply wAsI | ((with_reducible apply wInc); rfl) | with_reducible apply wKil | with_reducible apply wRV | with_reducible apply wAst2 | with_reducible apply wVd | with_reducible apply wB_e | (intro h; try simp only [Bool.and_eq_true, Bool.or_eq_true, Bool.not_eq_true', Bool.not_eq_false', Bool.and_eq_false_imp, Bool.or_eq_false_iff, decide_eq_true_eq, decide_eq_false_iff_not, Bool.not_true, Bool.not_false, Bool.true_eq_false, Bool.false_eq_true, Bool.not_not] at h) | with_reducible apply wN1 | with_reducible apply wN2 | with_reducible apply wN3 | with_reducible apply wN4 | with_reducible apply wN0 | with_reducible apply wE0 | with_reducible apply wXI | with_reducible apply wXB | with_reducible exact hh | with_reducible exact eK | ((with_reducible apply eL); rfl) | ((with_reducible apply eLR); rfl) | with_reducible exact eAN | with_reducible apply eAdd | with_reducible apply eMul | with_reducible apply eLt | with_reducible apply eArr2 | with_reducible apply eFld2 | with_reducible apply eAI | with_reducible apply eAR | with_reducible apply eCI | with_reducible apply eCZ | with_reducible apply wRc | with_reducible apply R_Scene_jobs | with_reducible apply R_Scene_arms | with_reducible apply R_Jobs_arms | with_reducible apply R_Jobs_promise | with_reducible apply R_Arms_end | with_reducible exact K_Scene_now (by assumption) | with_reducible exact S_Scene_jobs (by assumption) | with_reducible exact C_Jobs (S_Scene_jobs (by assumption)) | with_reducible exact S_Scene_arms (by assumption) | with_reducible exact C_Arms (S_Scene_arms (by assumption)) | with_reducible exact N_Jobs_arms (by assumption) | with_reducible exact N_Jobs_promise (by assumption) | with_reducible exact C_Arms (by assumption) | with_reducible exact N_Arms_end (by assumption) | with_reducible exact C_Scheduler (by assumption) | with_reducible exact Int.toNat_natCast _ | with_reducible exact tn0 | with_reducible exact tn1 | with_reducible exact tn2 | with_reducible exact tn3 | with_reducible exact tn4 | with_reducible exact tn5 | with_reducible exact tn6 | with_reducible exact tn7 | with_reducible exact tn8 | with_reducible exact tn9 | with_reducible exact tn10 | with_reducible exact tn11 | with_reducible exact tn12 | with_reducible exact tn13 | with_reducible exact tn14 | with_reducible exact tn15 | with_reducible exact tn16 | with_reducible exact tnK0 | with_reducible exact tnK4 | with_reducible exact tnK8 | with_reducible exact tnK12 | with_reducible exact tnK16 | with_reducible exact tnK20 | with_reducible exact tnK24 | with_reducible exact tnK28 | with_reducible exact tnK32 | with_reducible exact tnJA | with_reducible exact tnA | with_reducible exact upR_s | ((with_reducible apply upR_a); (first | decide | omega)) | ((with_reducible apply upR_b); (first | decide | omega)) | ((with_reducible apply noteR_a); (first | decide | omega)) | ((with_reducible apply noteR_b); (first | decide | omega)) | ((with_reducible apply cpR_o); (first | decide | omega)) | with_reducible apply lt_pSet1 | with_reducible apply lt_kil | exact Nat.le_of_ble_eq_true rfl | with_reducible assumption | with_reducible exact rfl | omega | with_reducible apply wAnd | decide +kernel
      all_goals first | exact absurd trivial h | skip
      refine wF_e hown ⟨rfl, ?_⟩
      clear hown hh
      change WpS _ _ (zM (setRow G' (s + 25) (fun c => if (mAt g j (20 + i)).toNat ≤ c ∧ c < (mAt g j (20 + i)).toNat + (mAt g j (12 + i)).toNat then -1 else G' (s + 25) c)) U) _ _ _ _
      have eN2 : setRow G' (s + 25) (fun c => if (mAt g j (20 + i)).toNat ≤ c ∧ c < (mAt g j (20 + i)).toNat + (mAt g j (12 + i)).toNat then -1 else G' (s + 25) c) s 1 = g 0 := by rw [setRow_o (by omega)]; exact eN
      have w25 : ∀ c, setRow G' (s + 25) (fun c => if (mAt g j (20 + i)).toNat ≤ c ∧ c < (mAt g j (20 + i)).toNat + (mAt g j (12 + i)).toNat then -1 else G' (s + 25) c) (s + 25) c = if (mAt g j (20 + i)).toNat ≤ c ∧ c < (mAt g j (20 + i)).toNat + (mAt g j (12 + i)).toNat then -1 else G' (s + 25) c := fun c => by rw [setRow_at]
      have wo : ∀ x, x ≠ s + 25 → setRow G' (s + 25) (fun c => if (mAt g j (20 + i)).toNat ≤ c ∧ c < (mAt g j (20 + i)).toNat + (mAt g j (12 + i)).toNat then -1 else G' (s + 25) c) x = G' x := fun x hx => setRow_o hx
      generalize setRow G' (s + 25) (fun c => if (mAt g j (20 + i)).toNat ≤ c ∧ c < (mAt g j (20 + i)).toNat + (mAt g j (12 + i)).toNat then -1 else G' (s + 25) c) = G2 at *
      repeat' first | with_reducible apply wSeq | with_reducible apply wSkip | with_reducible apply wIf | with_reducible apply wAsI | ((with_reducible apply wInc); rfl) | with_reducible apply wKil | with_reducible apply wRV | with_reducible apply wAst2 | with_reducible apply wVd | with_reducible apply wB_e | (intro h; try simp only [Bool.and_eq_true, Bool.or_eq_true, Bool.not_eq_true', Bool.not_eq_false', Bool.and_eq_false_imp, Bool.or_eq_false_iff, decide_eq_true_eq, decide_eq_false_iff_not, Bool.not_true, Bool.not_false, Bool.true_eq_false, Bool.false_eq_true, Bool.not_not] at h) | with_reducible apply wN1 | with_reducible apply wN2 | with_reducible apply wN3 | with_reducible apply wN4 | with_reducible apply wN0 | with_reducible apply wE0 | with_reducible apply wXI | with_reducible apply wXB | with_reducible exact tnJA | with_reducible exact eK | ((with_reducible apply eL); rfl) | ((with_reducible apply eLR); rfl) | with_reducible exact eAN | with_reducible apply eAdd | with_reducible apply eMul | with_reducible apply eLt | with_reducible apply eArr2 | with_reducible apply eFld2 | with_reducible apply eAI | with_reducible apply eAR | with_reducible apply eCI | with_reducible apply eCZ | with_reducible apply wRc | with_reducible apply R_Scene_jobs | with_reducible apply R_Scene_arms | with_reducible apply R_Jobs_arms | with_reducible apply R_Jobs_promise | with_reducible apply R_Arms_end | with_reducible exact K_Scene_now (by assumption) | with_reducible exact S_Scene_jobs (by assumption) | with_reducible exact C_Jobs (S_Scene_jobs (by assumption)) | with_reducible exact S_Scene_arms (by assumption) | with_reducible exact C_Arms (S_Scene_arms (by assumption)) | with_reducible exact N_Jobs_arms (by assumption) | with_reducible exact N_Jobs_promise (by assumption) | with_reducible exact C_Arms (by assumption) | with_reducible exact N_Arms_end (by assumption) | with_reducible exact C_Scheduler (by assumption) | with_reducible exact Int.toNat_natCast _ | with_reducible exact tn0 | with_reducible exact tn1 | with_reducible exact tn2 | with_reducible exact tn3 | with_reducible exact tn4 | with_reducible exact tn5 | with_reducible exact tn6 | with_reducible exact tn7 | with_reducible exact tn8 | with_reducible exact tn9 | with_reducible exact tn10 | with_reducible exact tn11 | with_reducible exact tn12 | with_reducible exact tn13 | with_reducible exact tn14 | with_reducible exact tn15 | with_reducible exact tn16 | with_reducible exact tnK0 | with_reducible exact tnK4 | with_reducible exact tnK8 | with_reducible exact tnK12 | with_reducible exact tnK16 | with_reducible exact tnK20 | with_reducible exact tnK24 | with_reducible exact tnK28 | with_reducible exact tnK32 | with_reducible exact tnJA | with_reducible exact tnA | with_reducible exact upR_s | ((with_reducible apply upR_a); (first | decide | omega)) | ((with_reducible apply upR_b); (first | decide | omega)) | ((with_reducible apply noteR_a); (first | decide | omega)) | ((with_reducible apply noteR_b); (first | decide | omega)) | ((with_reducible apply cpR_o); (first | decide | omega)) | with_reducible apply lt_pSet1 | with_reducible apply lt_kil | exact Nat.le_of_ble_eq_true rfl | with_reducible assumption | with_reducible exact rfl | omega | with_reducible apply wAnd | decide +kernel
      refine ⟨_, by rw [show (j : Int) * 4 + (i : Int) + 1 = (j : Int) * 4 + ((i + 1 : Nat) : Int) by omega]; rfl, rfl, fun x a b => by rw [upZ_ne a, wo x b]; exact f1 x a b, ?_, fun c hc => ?_⟩
      · rw [hsuc]
        intro x b hx hb2
        rw [jput_lo (by omega), a1] at hx
        have h4x := (jo_4 (row_j hrow hx)).2.1
        have emx : mArms (jput (ofA g j i) j (24 + i) (g 0)) x = mArms g x := by
          show (mAt _ x 4).toNat = _
          rw [mAt_jput (by omega) (by omega), if_neg (by omega), ofA_o hj hrow hi (by omega) (Or.inr (Or.inl (by omega)))]
          rfl
        rw [emx] at hb2
        obtain ⟨y1, y2, y3, y4⟩ := f2 x b (by rw [a1]; exact hx) (by
          show b < (mAt _ x 4).toNat
          rw [ofA_o hj hrow hi (by omega) (Or.inr (Or.inl (by omega)))]
          exact hb2)
        rw [upZ_ne (by omega), upZ_ne (by omega), upZ_ne (by omega), wo _ (by omega), wo _ (by omega), wo _ (by omega), mAt_jput (by omega) (by omega), if_neg (by omega), mAt_jput (by omega) (by omega), if_neg (by omega), mAt_jput (by omega) (by omega), if_neg (by omega), mAt_jput (by omega) (by omega)]
        refine ⟨y1, y2, y3, ?_⟩
        by_cases cc : x = j ∧ b = i
        · obtain ⟨rfl, rfl⟩ := cc
          rw [if_pos ⟨rfl, rfl⟩, upR_s]
        · rw [if_neg (by omega), ← y4, ← wo (s + 23) (by omega)]
          unfold upZ
          rw [if_neg (by omega)]
      · rw [upZ_ne (by omega), w25]
        have hin : (mHeldBits g j i).testBit c = true ↔ (mAt g j (20 + i)).toNat ≤ c ∧ c < (mAt g j (20 + i)).toNat + (mAt g j (12 + i)).toNat := by
          rw [ho_bits hrow hj hlt hb]
          omega
        have hsc := fun x a => ofA_ho (g := g) (j := j) (i := i + 1) (k := x) (c := c) (a := a) hj hrow hlt
        have hsc0 := fun x a => ofA_ho (g := g) (j := j) (i := i) (k := x) (c := c) (a := a) hj hrow hi
        by_cases cin : (mAt g j (20 + i)).toNat ≤ c ∧ c < (mAt g j (20 + i)).toNat + (mAt g j (12 + i)).toNat
        · rw [if_pos cin]
          refine ⟨fun x a hx => ?_, fun _ => rfl⟩
          have hx2 := (hsc x a).mp hx
          have := hI.2.2.1 c j i x a ⟨hj, hlt, hb, hin.mpr cin⟩ hx2.1
          exact absurd ⟨this.1, by omega⟩ hx2.2
        · rw [if_neg cin]
          refine ⟨fun x a hx => (f3 c hc).1 x a ((hsc0 x a).mpr ?_), fun hno => (f3 c hc).2 fun x a hx => ?_⟩
          · have hx2 := (hsc x a).mp hx
            exact ⟨hx2.1, fun h => hx2.2 ⟨h.1, by omega⟩⟩
          · have hx2 := (hsc0 x a).mp hx
            refine hno x a ((hsc x a).mpr ⟨hx2.1, fun h => ?_⟩)
            obtain ⟨rfl, h2⟩ := h
            by_cases ea : a = i
            · subst ea
              exact cin (hin.mp hx2.1.2.2.2)
            · exact hx2.2 ⟨rfl, by omega⟩
    | false =>
      rw [hb] at hh
      rw [if_neg (by rw [hb]; decide)] at hsuc
      repeat' first | with_reducible apply wSeq | with_reducible apply wSkip | with_reducible apply wIf | with_reducible apply wAsI | ((with_reducible apply wInc); rfl) | with_reducible apply wKil | with_reducible apply wRV | with_reducible apply wAst2 | with_reducible apply wVd | with_reducible apply wB_e | (intro h; try simp only [Bool.and_eq_true, Bool.or_eq_true, Bool.not_eq_true', Bool.not_eq_false', Bool.and_eq_false_imp, Bool.or_eq_false_iff, decide_eq_true_eq, decide_eq_false_iff_not, Bool.not_true, Bool.not_false, Bool.true_eq_false, Bool.false_eq_true, Bool.not_not] at h) | with_reducible apply wN1 | with_reducible apply wN2 | with_reducible apply wN3 | with_reducible apply wN4 | with_reducible apply wN0 | with_reducible apply wE0 | with_reducible apply wXI | with_reducible apply wXB | with_reducible exact hh | with_reducible exact eK | ((with_reducible apply eL); rfl) | ((with_reducible apply eLR); rfl) | with_reducible exact eAN | with_reducible apply eAdd | with_reducible apply eMul | with_reducible apply eLt | with_reducible apply eArr2 | with_reducible apply eFld2 | with_reducible apply eAI | with_reducible apply eAR | with_reducible apply eCI | with_reducible apply eCZ | with_reducible apply wRc | with_reducible apply R_Scene_jobs | with_reducible apply R_Scene_arms | with_reducible apply R_Jobs_arms | with_reducible apply R_Jobs_promise | with_reducible apply R_Arms_end | with_reducible exact K_Scene_now (by assumption) | with_reducible exact S_Scene_jobs (by assumption) | with_reducible exact C_Jobs (S_Scene_jobs (by assumption)) | with_reducible exact S_Scene_arms (by assumption) | with_reducible exact C_Arms (S_Scene_arms (by assumption)) | with_reducible exact N_Jobs_arms (by assumption) | with_reducible exact N_Jobs_promise (by assumption) | with_reducible exact C_Arms (by assumption) | with_reducible exact N_Arms_end (by assumption) | with_reducible exact C_Scheduler (by assumption) | with_reducible exact Int.toNat_natCast _ | with_reducible exact tn0 | with_reducible exact tn1 | with_reducible exact tn2 | with_reducible exact tn3 | with_reducible exact tn4 | with_reducible exact tn5 | with_reducible exact tn6 | with_reducible exact tn7 | with_reducible exact tn8 | with_reducible exact tn9 | with_reducible exact tn10 | with_reducible exact tn11 | with_reducible exact tn12 | with_reducible exact tn13 | with_reducible exact tn14 | with_reducible exact tn15 | with_reducible exact tn16 | with_reducible exact tnK0 | with_reducible exact tnK4 | with_reducible exact tnK8 | with_reducible exact tnK12 | with_reducible exact tnK16 | with_reducible exact tnK20 | with_reducible exact tnK24 | with_reducible exact tnK28 | with_reducible exact tnK32 | with_reducible exact tnJA | with_reducible exact tnA | with_reducible exact upR_s | ((with_reducible apply upR_a); (first | decide | omega)) | ((with_reducible apply upR_b); (first | decide | omega)) | ((with_reducible apply noteR_a); (first | decide | omega)) | ((with_reducible apply noteR_b); (first | decide | omega)) | ((with_reducible apply cpR_o); (first | decide | omega)) | with_reducible apply lt_pSet1 | with_reducible apply lt_kil | exact Nat.le_of_ble_eq_true rfl | with_reducible assumption | with_reducible exact rfl | omega | with_reducible apply wAnd | decide +kernel
      all_goals first | exact absurd trivial h | exact ⟨G', by rw [show (j : Int) * 4 + (i : Int) + 1 = (j : Int) * 4 + ((i + 1 : Nat) : Int) by omega]; rfl, rfl, f1, by rw [hsuc]; exact f2, by rw [hsuc]; exact f3⟩
  · have ei : i = mArms g j := by omega
    subst ei
    have e32 : evE (G' (s + 32)) e := by rw [f1 _ (by omega) (by omega)]; exact hSe
    repeat' first | with_reducible apply wSeq | with_reducible apply wSkip | with_reducible apply wIf | with_reducible apply wAsI | ((with_reducible apply wInc); rfl) | with_reducible apply wKil | with_reducible apply wRV | with_reducible apply wAst2 | with_reducible apply wVd | with_reducible apply wB_e | (intro h; try simp only [Bool.and_eq_true, Bool.or_eq_true, Bool.not_eq_true', Bool.not_eq_false', Bool.and_eq_false_imp, Bool.or_eq_false_iff, decide_eq_true_eq, decide_eq_false_iff_not, Bool.not_true, Bool.not_false, Bool.true_eq_false, Bool.false_eq_true, Bool.not_not] at h) | with_reducible apply wN1 | with_reducible apply wN2 | with_reducible apply wN3 | with_reducible apply wN4 | with_reducible apply wN0 | with_reducible apply wE0 | with_reducible apply wXI | with_reducible apply wXB | with_reducible exact eK | ((with_reducible apply eL); rfl) | ((with_reducible apply eLR); rfl) | with_reducible exact eAN | with_reducible apply eAdd | with_reducible apply eMul | with_reducible apply eLt | with_reducible apply eArr2 | with_reducible apply eFld2 | with_reducible apply eAI | with_reducible apply eAR | with_reducible apply eCI | with_reducible apply eCZ | with_reducible apply wRc | with_reducible apply R_Scene_jobs | with_reducible apply R_Scene_arms | with_reducible apply R_Jobs_arms | with_reducible apply R_Jobs_promise | with_reducible apply R_Arms_end | with_reducible exact K_Scene_now (by assumption) | with_reducible exact S_Scene_jobs (by assumption) | with_reducible exact C_Jobs (S_Scene_jobs (by assumption)) | with_reducible exact S_Scene_arms (by assumption) | with_reducible exact C_Arms (S_Scene_arms (by assumption)) | with_reducible exact N_Jobs_arms (by assumption) | with_reducible exact N_Jobs_promise (by assumption) | with_reducible exact C_Arms (by assumption) | with_reducible exact N_Arms_end (by assumption) | with_reducible exact C_Scheduler (by assumption) | with_reducible exact Int.toNat_natCast _ | with_reducible exact tn0 | with_reducible exact tn1 | with_reducible exact tn2 | with_reducible exact tn3 | with_reducible exact tn4 | with_reducible exact tn5 | with_reducible exact tn6 | with_reducible exact tn7 | with_reducible exact tn8 | with_reducible exact tn9 | with_reducible exact tn10 | with_reducible exact tn11 | with_reducible exact tn12 | with_reducible exact tn13 | with_reducible exact tn14 | with_reducible exact tn15 | with_reducible exact tn16 | with_reducible exact tnK0 | with_reducible exact tnK4 | with_reducible exact tnK8 | with_reducible exact tnK12 | with_reducible exact tnK16 | with_reducible exact tnK20 | with_reducible exact tnK24 | with_reducible exact tnK28 | with_reducible exact tnK32 | with_reducible exact tnJA | with_reducible exact tnA | with_reducible exact upR_s | ((with_reducible apply upR_a); (first | decide | omega)) | ((with_reducible apply upR_b); (first | decide | omega)) | ((with_reducible apply noteR_a); (first | decide | omega)) | ((with_reducible apply noteR_b); (first | decide | omega)) | ((with_reducible apply cpR_o); (first | decide | omega)) | with_reducible apply lt_pSet1 | with_reducible apply lt_kil | exact Nat.le_of_ble_eq_true rfl | with_reducible assumption | with_reducible exact rfl | omega | with_reducible apply wAnd | decide +kernel
    refine Sd_endAs (e := e) (st := 4) (now := g 0) hs hk hn (by omega) (by rw [upZ_ne (by omega)]; exact eN) (by rw [upZ_ne (by omega)]; exact e32) he ⟨rfl, ?_⟩
    have hlab : ∀ x, x ≠ s + 6 → x ≠ s + 16 → x ≠ s + 18 → x ≠ s + 23 → x ≠ s + 25 → x ≠ s + 32 → x ≠ s + 35 → x ≠ s + 36 → x ≠ s + 37 → noteZ (upZ (upZ (upZ (upZ (upZ (upZ G' (s + 18) j (-1)) (s + 6) j 4) (s + 16) j (g 0)) (s + 35) (e % 60) (g 0)) (s + 36) (e % 60) 4) (s + 37) (e % 60) (j : Int)) (s + 32) e x = G x := fun x b6 b16 b18 b23 b25 b32 b35 b36 b37 => by
      rw [noteZ_ne b32, upZ_ne b37, upZ_ne b36, upZ_ne b35, upZ_ne b16, upZ_ne b6, upZ_ne b18]
      exact f1 x b23 b25
    have e6 : G' (s + 6) = G (s + 6) := f1 _ (by omega) (by omega)
    have e16 : G' (s + 16) = G (s + 16) := f1 _ (by omega) (by omega)
    have e18 : G' (s + 18) = G (s + 18) := f1 _ (by omega) (by omega)
    have e35 : G' (s + 35) = G (s + 35) := f1 _ (by omega) (by omega)
    have e36 : G' (s + 36) = G (s + 36) := f1 _ (by omega) (by omega)
    have e37 : G' (s + 37) = G (s + 37) := f1 _ (by omega) (by omega)
    have e320 : G' (s + 32) = G (s + 32) := f1 _ (by omega) (by omega)
    have l6 : ∀ x, noteZ (upZ (upZ (upZ (upZ (upZ (upZ G' (s + 18) j (-1)) (s + 6) j 4) (s + 16) j (g 0)) (s + 35) (e % 60) (g 0)) (s + 36) (e % 60) 4) (s + 37) (e % 60) (j : Int)) (s + 32) e (s + 6) x = if x = j then 4 else G (s + 6) x := fun x => by by_cases c : x = j <;> simp [noteZ, upZ, c, e6]
    have l16 : ∀ x, noteZ (upZ (upZ (upZ (upZ (upZ (upZ G' (s + 18) j (-1)) (s + 6) j 4) (s + 16) j (g 0)) (s + 35) (e % 60) (g 0)) (s + 36) (e % 60) 4) (s + 37) (e % 60) (j : Int)) (s + 32) e (s + 16) x = if x = j then g 0 else G (s + 16) x := fun x => by by_cases c : x = j <;> simp [noteZ, upZ, c, e16]
    have l18 : ∀ x, noteZ (upZ (upZ (upZ (upZ (upZ (upZ G' (s + 18) j (-1)) (s + 6) j 4) (s + 16) j (g 0)) (s + 35) (e % 60) (g 0)) (s + 36) (e % 60) 4) (s + 37) (e % 60) (j : Int)) (s + 32) e (s + 18) x = if x = j then -1 else G (s + 18) x := fun x => by by_cases c : x = j <;> simp [noteZ, upZ, c, e18]
    have l35 : ∀ x, noteZ (upZ (upZ (upZ (upZ (upZ (upZ G' (s + 18) j (-1)) (s + 6) j 4) (s + 16) j (g 0)) (s + 35) (e % 60) (g 0)) (s + 36) (e % 60) 4) (s + 37) (e % 60) (j : Int)) (s + 32) e (s + 35) x = if x = e % 60 then g 0 else G (s + 35) x := fun x => by by_cases c : x = e % 60 <;> simp [noteZ, upZ, c, e35]
    have l36 : ∀ x, noteZ (upZ (upZ (upZ (upZ (upZ (upZ G' (s + 18) j (-1)) (s + 6) j 4) (s + 16) j (g 0)) (s + 35) (e % 60) (g 0)) (s + 36) (e % 60) 4) (s + 37) (e % 60) (j : Int)) (s + 32) e (s + 36) x = if x = e % 60 then 4 else G (s + 36) x := fun x => by by_cases c : x = e % 60 <;> simp [noteZ, upZ, c, e36]
    have l37 : ∀ x, noteZ (upZ (upZ (upZ (upZ (upZ (upZ G' (s + 18) j (-1)) (s + 6) j 4) (s + 16) j (g 0)) (s + 35) (e % 60) (g 0)) (s + 36) (e % 60) 4) (s + 37) (e % 60) (j : Int)) (s + 32) e (s + 37) x = if x = e % 60 then (j : Int) else G (s + 37) x := fun x => by by_cases c : x = e % 60 <;> simp [noteZ, upZ, c, e37]
    have l320 : noteZ (upZ (upZ (upZ (upZ (upZ (upZ G' (s + 18) j (-1)) (s + 6) j 4) (s + 16) j (g 0)) (s + 35) (e % 60) (g 0)) (s + 36) (e % 60) 4) (s + 37) (e % 60) (j : Int)) (s + 32) e (s + 32) 0 = G (s + 32) 0 := by simp [noteZ, upZ, e320]
    have l323 : evE (noteZ (upZ (upZ (upZ (upZ (upZ (upZ G' (s + 18) j (-1)) (s + 6) j 4) (s + 16) j (g 0)) (s + 35) (e % 60) (g 0)) (s + 36) (e % 60) 4) (s + 37) (e % 60) (j : Int)) (s + 32) e (s + 32)) (e + 1) := noteZ_ev
    have l23 : ∀ x, (x = s + 23 ∨ x = s + 25 ∨ x = s + 20 ∨ x = s + 21 ∨ x = s + 22) → noteZ (upZ (upZ (upZ (upZ (upZ (upZ G' (s + 18) j (-1)) (s + 6) j 4) (s + 16) j (g 0)) (s + 35) (e % 60) (g 0)) (s + 36) (e % 60) 4) (s + 37) (e % 60) (j : Int)) (s + 32) e x = G' x := fun x hx => by rw [noteZ_ne (by omega), upZ_ne (by omega), upZ_ne (by omega), upZ_ne (by omega), upZ_ne (by omega), upZ_ne (by omega), upZ_ne (by omega)]
    have hRf := hR (noteZ (upZ (upZ (upZ (upZ (upZ (upZ G' (s + 18) j (-1)) (s + 6) j 4) (s + 16) j (g 0)) (s + 35) (e % 60) (g 0)) (s + 36) (e % 60) 4) (s + 37) (e % 60) (j : Int)) (s + 32) e) (upZ U (s + 33) ((4 : Int) - 1).toNat (U (s + 33) ((4 : Int) - 1).toNat + 1))
    generalize noteZ (upZ (upZ (upZ (upZ (upZ (upZ G' (s + 18) j (-1)) (s + 6) j 4) (s + 16) j (g 0)) (s + 35) (e % 60) (g 0)) (s + 36) (e % 60) 4) (s + 37) (e % 60) (j : Int)) (s + 32) e = G3 at *
    have lo := fun b (h : b < 96) (h7 : b ≠ 7) => of1_lo (g := g) (j := j) (b := b) h h7
    have g1 := lo 1 (by omega) (by omega)
    have hat := fun x w (hx : x < (g 1).toNat) (hw : w < 32) h => of1_o (j := j) hrow hj (row_n hrow hx) hw h
    have a4 : ∀ x, x < (g 1).toNat → mArms g x ≤ 4 := fun x hx => (jo_4 (row_j hrow hx)).2.1
    have emf : ∀ x, x < (g 1).toNat → mArms (of1 g j) x = mArms g x := fun x hx => by
      show (mAt _ x 4).toNat = _
      rw [hat x 4 hx (by omega) (by omega)]
      rfl
    have c5 : mAt (of1 g j) j 5 = 4 := by rw [of1_cell hrow hj hn (by omega), if_neg (by omega), if_neg (by omega), if_pos ⟨rfl, rfl⟩]
    have c7 : mAt (of1 g j) j 7 = g 0 := by rw [of1_cell hrow hj hn (by omega), if_neg (by omega), if_pos ⟨rfl, rfl⟩]
    have c9 : mAt (of1 g j) j 9 = -1 := by rw [of1_cell hrow hj hn (by omega), if_pos ⟨rfl, rfl⟩]
    obtain ⟨kF, kL, kE, kC⟩ := hSK rfl
    have hend := hRf (fun x hx => hlab x (by omega) (by omega) (by omega) (by omega) (by omega) (by omega) (by omega) (by omega) (by omega)) (fun x hx => upZ_ne hx) ⟨⟨?_, ?_, ⟨?_, fun x hx => ?_⟩, fun x b hx hb => ?_, fun c hc => ?_, ?_, ?_, l323, fun _ => ⟨?_, fun q hq => ?_, ?_, ?_⟩⟩, fun x hx => ?_⟩
    · clear hR hRf
      repeat' first | with_reducible apply wSeq | with_reducible apply wSkip | with_reducible apply wIf | with_reducible apply wAsI | ((with_reducible apply wInc); rfl) | with_reducible apply wKil | with_reducible apply wRV | with_reducible apply wAst2 | with_reducible apply wVd | with_reducible apply wB_e | (intro h; try simp only [Bool.and_eq_true, Bool.or_eq_true, Bool.not_eq_true', Bool.not_eq_false', Bool.and_eq_false_imp, Bool.or_eq_false_iff, decide_eq_true_eq, decide_eq_false_iff_not, Bool.not_true, Bool.not_false, Bool.true_eq_false, Bool.false_eq_true, Bool.not_not] at h) | with_reducible apply wN1 | with_reducible apply wN2 | with_reducible apply wN3 | with_reducible apply wN4 | with_reducible apply wN0 | with_reducible apply wE0 | with_reducible apply wXI | with_reducible apply wXB | with_reducible exact eK | ((with_reducible apply eL); rfl) | ((with_reducible apply eLR); rfl) | with_reducible exact eAN | with_reducible apply eAdd | with_reducible apply eMul | with_reducible apply eLt | with_reducible apply eArr2 | with_reducible apply eFld2 | with_reducible apply eAI | with_reducible apply eAR | with_reducible apply eCI | with_reducible apply eCZ | with_reducible apply wRc | with_reducible apply R_Scene_jobs | with_reducible apply R_Scene_arms | with_reducible apply R_Jobs_arms | with_reducible apply R_Jobs_promise | with_reducible apply R_Arms_end | with_reducible exact K_Scene_now (by assumption) | with_reducible exact S_Scene_jobs (by assumption) | with_reducible exact C_Jobs (S_Scene_jobs (by assumption)) | with_reducible exact S_Scene_arms (by assumption) | with_reducible exact C_Arms (S_Scene_arms (by assumption)) | with_reducible exact N_Jobs_arms (by assumption) | with_reducible exact N_Jobs_promise (by assumption) | with_reducible exact C_Arms (by assumption) | with_reducible exact N_Arms_end (by assumption) | with_reducible exact C_Scheduler (by assumption) | with_reducible exact Int.toNat_natCast _ | with_reducible exact tn0 | with_reducible exact tn1 | with_reducible exact tn2 | with_reducible exact tn3 | with_reducible exact tn4 | with_reducible exact tn5 | with_reducible exact tn6 | with_reducible exact tn7 | with_reducible exact tn8 | with_reducible exact tn9 | with_reducible exact tn10 | with_reducible exact tn11 | with_reducible exact tn12 | with_reducible exact tn13 | with_reducible exact tn14 | with_reducible exact tn15 | with_reducible exact tn16 | with_reducible exact tnK0 | with_reducible exact tnK4 | with_reducible exact tnK8 | with_reducible exact tnK12 | with_reducible exact tnK16 | with_reducible exact tnK20 | with_reducible exact tnK24 | with_reducible exact tnK28 | with_reducible exact tnK32 | with_reducible exact tnJA | with_reducible exact tnA | with_reducible exact upR_s | ((with_reducible apply upR_a); (first | decide | omega)) | ((with_reducible apply upR_b); (first | decide | omega)) | ((with_reducible apply noteR_a); (first | decide | omega)) | ((with_reducible apply noteR_b); (first | decide | omega)) | ((with_reducible apply cpR_o); (first | decide | omega)) | with_reducible apply lt_pSet1 | with_reducible apply lt_kil | exact Nat.le_of_ble_eq_true rfl | with_reducible assumption | with_reducible exact rfl | omega | with_reducible apply wAnd | decide +kernel
    · rw [hlab s (by omega) (by omega) (by omega) (by omega) (by omega) (by omega) (by omega) (by omega) (by omega)]; exact z0
    · exact relB_g (relB_r hSB (by rw [hlab s (by omega) (by omega) (by omega) (by omega) (by omega) (by omega) (by omega) (by omega) (by omega)]) (fun x _ _ => hlab x (by omega) (by omega) (by omega) (by omega) (by omega) (by omega) (by omega) (by omega) (by omega)) (upZ_ne (by omega))) (lo 0 (by omega) (by omega)) (fun b _ _ _ _ h7 => lo b (by omega) h7) (fun a ha => by unfold of1U upZ; rw [if_neg (by omega)])
    · rw [hlab _ (by omega) (by omega) (by omega) (by omega) (by omega) (by omega) (by omega) (by omega) (by omega), g1]; exact hSJ.1
    · rw [g1] at hx
      have hcx : colsF (of1 g j) x = colsF g x := colsF_g (hat x 4 hx (by omega) (by omega)) (a4 x hx) (fun w h1 h2 => hat x w hx (by omega) (by omega))
      obtain ⟨x5, x0, x1, x2, x3, x4, xc, x10, x11, x6, x7⟩ := hSJ.2 x hx
      rw [hcx, l6, l16, hlab (s + 7) (by omega) (by omega) (by omega) (by omega) (by omega) (by omega) (by omega) (by omega) (by omega), hlab (s + 8) (by omega) (by omega) (by omega) (by omega) (by omega) (by omega) (by omega) (by omega) (by omega), hlab (s + 9) (by omega) (by omega) (by omega) (by omega) (by omega) (by omega) (by omega) (by omega) (by omega), hlab (s + 10) (by omega) (by omega) (by omega) (by omega) (by omega) (by omega) (by omega) (by omega) (by omega), hlab (s + 11) (by omega) (by omega) (by omega) (by omega) (by omega) (by omega) (by omega) (by omega) (by omega), hlab (s + 12) (by omega) (by omega) (by omega) (by omega) (by omega) (by omega) (by omega) (by omega) (by omega), hlab (s + 13) (by omega) (by omega) (by omega) (by omega) (by omega) (by omega) (by omega) (by omega) (by omega), hlab (s + 14) (by omega) (by omega) (by omega) (by omega) (by omega) (by omega) (by omega) (by omega) (by omega), hlab (s + 15) (by omega) (by omega) (by omega) (by omega) (by omega) (by omega) (by omega) (by omega) (by omega), hat x 0 hx (by omega) (by omega), hat x 1 hx (by omega) (by omega), hat x 2 hx (by omega) (by omega), hat x 3 hx (by omega) (by omega), hat x 4 hx (by omega) (by omega), hat x 10 hx (by omega) (by omega), hat x 11 hx (by omega) (by omega), hat x 6 hx (by omega) (by omega)]
      by_cases ex : x = j
      · rw [if_pos ex, if_pos ex, ex, c5, c7]
        rw [ex] at x0 x1 x2 x3 x4 xc x10 x11 x6
        exact ⟨rfl, x0, x1, x2, x3, x4, xc, x10, x11, x6, rfl⟩
      · rw [if_neg ex, if_neg ex, hat x 5 hx (by omega) (Or.inl ex), hat x 7 hx (by omega) (Or.inl ex)]
        exact ⟨x5, x0, x1, x2, x3, x4, xc, x10, x11, x6, x7⟩
    · rw [g1] at hx
      rw [emf x hx] at hb
      have h4x := a4 x hx
      rw [l23 (s + 20) (by omega), l23 (s + 21) (by omega), l23 (s + 22) (by omega), l23 (s + 23) (by omega)]
      have hcell : ∀ w, 12 ≤ w → w < 28 → mAt (of1 g j) x w = mAt (ofA g j (mArms g j)) x w := fun w h1 h2 => by rw [of1_cell hrow hj (row_n hrow hx) (by omega), if_neg (by omega), if_neg (by omega), if_neg (by omega)]
      rw [hcell _ (by omega) (by omega), hcell _ (by omega) (by omega), hcell _ (by omega) (by omega), hcell _ (by omega) (by omega)]
      refine f2 x b (by rw [a1]; exact hx) ?_
      show b < (mAt _ x 4).toNat
      rw [ofA_o hj hrow hi (by omega) (Or.inr (Or.inl (by omega)))]
      exact hb
    · rw [l23 (s + 25) (by omega)]
      refine ⟨fun x a h => (f3 c hc).1 x a ((ofA_ho hj hrow hi).mpr ?_), fun hno => (f3 c hc).2 fun x a h => ?_⟩
      · have := (of1_ho hrow hj).mp h
        exact ⟨this.1, fun h2 => this.2 h2.1⟩
      · have h2 := (ofA_ho hj hrow hi).mp h
        refine hno x a ((of1_ho hrow hj).mpr ⟨h2.1, fun e2 => h2.2 ⟨e2, ?_⟩⟩)
        have := h2.1.2.1
        rw [e2] at this
        exact this
    · exact relS_g (relS_r hSS fun x _ _ => hlab x (by omega) (by omega) (by omega) (by omega) (by omega) (by omega) (by omega) (by omega) (by omega)) (lo 5 (by omega) (by omega)) (fun b _ h => lo b h (by omega))
    · exact relT_g (relT_r hST l320 (hlab _ (by omega) (by omega) (by omega) (by omega) (by omega) (by omega) (by omega) (by omega) (by omega))) (lo 6 (by omega) (by omega)) hrow.2.2.2.2.2.2.2.1.2 (fun b _ _ => of1_hi hrow hj (by omega))
    · exact relF_g (relF_r kF (hlab _ (by omega) (by omega) (by omega) (by omega) (by omega) (by omega) (by omega) (by omega) (by omega))) g1 (fun x hx => hat x 8 hx (by omega) (by omega))
    · have hl := kL q hq
      show upZ U (s + 33) 3 (U (s + 33) 3 + 1) (s + 33) q = upZ V 183 11 (V 183 11 + 1) 183 (8 + q)
      by_cases c : q = 3
      · rw [c, upR_s]
        show _ = upZ V 183 11 (V 183 11 + 1) 183 11
        rw [upR_s, kL 3 (by omega)]
      · unfold upZ
        rw [if_neg (by omega), if_neg (by omega)]
        exact hl
    · have hE : relE G s e (jput (jput (jput (ofA g j (mArms g j)) j 5 4) j 7 (g 0)) j 9 (-1)) := relE_g kE (by rw [jput_lo (by omega), jput_lo (by omega), jput_lo (by omega), ofA_lo (by omega)]) (fun b _ _ => by rw [jput_hi hn (by omega) (by omega), jput_hi hn (by omega) (by omega), jput_hi hn (by omega) (by omega), ofA_hi hn (by omega) _ h4.2.1])
      exact relE_note hE (fun x _ => by rw [l35, jput_lo (by omega), jput_lo (by omega), jput_lo (by omega), ofA_lo (by omega)]) (fun x _ => l36 x) (fun x _ => l37 x)
    · exact relC_g (relC_r kC (hlab _ (by omega) (by omega) (by omega) (by omega) (by omega) (by omega) (by omega) (by omega) (by omega))) (fun b _ _ => of1_hi hrow hj (by omega))
    · rw [g1] at hx
      obtain ⟨k1, k2⟩ := hSQ x hx
      rw [l18, emf x hx, hlab (s + 24) (by omega) (by omega) (by omega) (by omega) (by omega) (by omega) (by omega) (by omega) (by omega)]
      by_cases ex : x = j
      · rw [if_pos ex, ex, c9]
        exact ⟨rfl, fun h => by omega⟩
      · rw [if_neg ex, hat x 9 hx (by omega) (Or.inl ex)]
        refine ⟨k1, fun h a ha => ?_⟩
        have := a4 x hx
        rw [hat x (28 + a) hx (by omega) (Or.inl ex)]
        exact k2 h a ha
