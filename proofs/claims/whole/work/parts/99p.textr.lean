/-! ===== text: both answer alike ===== -/
theorem nI_iI (n : Nat) : Int32.ofInt (n : Int) = nI n := Int32.ofInt_eq_ofNat
theorem st3_eq {p : Tx} {i a b : Nat} (h0 : xB i 0 = a) (h1 : ∀ j, xB i (j + 1) = b) : tSt3 p i = tCh (tCh p a) b := by
  unfold tSt3 tCh
  refine Prod.ext ?_ rfl
  funext j
  show sb_cat p.1 p.2 (xB i) j = sb_cat (sb_cat p.1 p.2 (fun _ => a)) (p.2 + 1) (fun _ => b) j
  unfold sb_cat
  by_cases c1 : j < p.2
  · rw [if_pos c1, if_pos (by omega), if_pos c1]
  · rw [if_neg c1]
    by_cases c2 : j < p.2 + 1
    · rw [if_pos c2, if_neg c1, show j - p.2 = 0 by omega, h0]
    · rw [if_neg c2]
      obtain ⟨k, hk⟩ : ∃ k, j - p.2 = k + 1 := ⟨j - p.2 - 1, by omega⟩
      rw [hk, h1]
theorem st3_0 {p : Tx} : tSt3 p 0 = tCh (tCh p 58) 97 := st3_eq rfl fun _ => rfl
theorem st3_1 {p : Tx} : tSt3 p 1 = tCh (tCh p 32) 114 := st3_eq rfl fun _ => rfl
theorem st3_2 {p : Tx} : tSt3 p 2 = tCh (tCh p 32) 64 := st3_eq rfl fun _ => rfl
theorem tAns_eq {g : Nat → Int} {j : Nat} {ix : Int} (hn : (tAll g j).2 ≤ 45) (hi : -2147483648 ≤ ix ∧ ix < 2147483648) : tAns (tAll g j) (Int32.ofInt ix) = Int32.ofInt (txV g j ix) := by
  unfold tAns txV
  by_cases c1 : ix < 0
  · rw [if_pos (by rw [iI_neg0 hi]; exact c1), if_pos c1, nI_iI]
  · rw [if_neg (by rw [iI_neg0 hi]; exact c1), if_neg c1]
    have hlt : (Int32.ofInt ix < nI (tAll g j).2) = (ix < ((tAll g j).2 : Int)) := by
      rw [← nI_iI]
      exact iI_lt hi (by omega)
    by_cases c2 : ix < ((tAll g j).2 : Int)
    · rw [if_pos (by rw [hlt]; exact c2), if_pos c2, show (Int32.ofInt ix).toNatClampNeg = ix.toNat from iI_nat (by omega), nI_iI]
    · rw [if_neg (by rw [hlt]; exact c2), if_neg c2]
      rfl
def textR2 (l : Launch) (c : Nat) : Prop := ∀ (G U : Nat → Nat → Int) (a ix : Int), rg a → rg ix → allI c G U → ∃ r : Int32, (∀ (E : cEnv) (b : Nat) (q : xA), cOkE E → xRun l E b q 20 40 3000 yX11_text [pR 0, pI (Int32.ofInt a), pI (Int32.ofInt ix)] (zM G U) (SBP E) (some (pI r))) ∧ ∃ G' U', F_M_text [pR 179, pI (Int32.ofInt a), pI (Int32.ofInt ix)] (zM G U) = some (some (pI r), zM G' U') ∧ allI (c + 1) G' U'
theorem text_R {l : Launch} {c : Nat} : textR2 l c := by
  intro G U a ix ha hix hg
  have r1 : -2147483648 ≤ a ∧ a < 2147483648 := ha
  have r2 : -2147483648 ≤ ix ∧ ix < 2147483648 := hix
  obtain ⟨⟨e, he, hS, hI, hP, hnow, hub⟩, -⟩ := id hg
  have hrow := hI.1
  have h0 := hrow.2.1
  have hn := hrow.2.2.1
  obtain ⟨-, -, ⟨hJ0, hJ⟩, hA, -⟩ := hS.1
  have h6 : G 6 0 = G 180 1 := hJ0
  have hXj := Xc_isJob (U := U) h6 (by omega) ha
  have hneg : (Int32.ofInt ix < -1) = (ix < -1) := by
    rw [show (-1 : Int32) = Int32.ofInt (-1) by decide]
    exact iI_lt (b := -1) r2 (by omega)
  by_cases hbad : ¬ (0 ≤ a ∧ a < G 180 1) ∨ ix < -1
  · refine ⟨-1, fun E b q hE => text_run hE (Or.inl ⟨?_, rfl, _, hXj⟩), ?_⟩
    · rcases hbad with hb | hb
      · left
        rw [hXj, decide_eq_false hb]
      · right
        rw [hneg]; exact hb
    · have hMB : WpF F_M_text [pR 179, pI (Int32.ofInt a), pI (Int32.ofInt ix)] (zM G U) (fun r' τ' => r' = some (pI (Int32.ofInt (-1))) ∧ ∃ G' U', τ' = zM G' U' ∧ allI (c + 1) G' U') := by
        unfold F_M_text B_M_text
        apply wBody (Nat.le_of_ble_eq_true rfl)
        apply wSeq
        apply wIf
        repeat' first | with_reducible apply wAsIc (F := F_M_writes) | with_reducible apply wAsZc (F := F_M_writes) | with_reducible apply wRIc (F := F_M_writes) | with_reducible apply wRZc (F := F_M_writes) | with_reducible apply wBc (F := F_M_writes) | with_reducible apply wIc (F := F_M_writes) | with_reducible apply wAsIc (F := F_M_writesNumber) | with_reducible apply wAsZc (F := F_M_writesNumber) | with_reducible apply wRIc (F := F_M_writesNumber) | with_reducible apply wRZc (F := F_M_writesNumber) | with_reducible apply wBc (F := F_M_writesNumber) | with_reducible apply wIc (F := F_M_writesNumber) | with_reducible apply wB_and | with_reducible apply wB_or | with_reducible apply wB_not | with_reducible apply wI_ite | with_reducible apply wI_add | with_reducible apply wI_sub | with_reducible apply wSeq | with_reducible apply wSkip | with_reducible apply wIf | ((with_reducible apply wInc); rfl) | with_reducible apply wKil | with_reducible apply wPut | with_reducible apply wVd | with_reducible apply wAsIw | with_reducible apply wAsZw | with_reducible apply wRIw | with_reducible apply wRZw | with_reducible apply wB_e | with_reducible apply wI_e | (intro h; try simp only [Bool.and_eq_true, Bool.or_eq_true, Bool.not_eq_true', Bool.not_eq_false', Bool.and_eq_false_imp, Bool.or_eq_false_iff, decide_eq_true_eq, decide_eq_false_iff_not, Bool.not_true, Bool.not_false, Bool.true_eq_false, Bool.false_eq_true, Bool.not_not] at h) | with_reducible apply wN1 | with_reducible apply wN2 | with_reducible apply wN3 | with_reducible apply wN4 | with_reducible apply wN0 | with_reducible apply wE0 | with_reducible apply wXI | with_reducible apply wXB | with_reducible exact eK | ((with_reducible apply eL); rfl) | ((with_reducible apply eLR); rfl) | with_reducible exact eAN | with_reducible apply eAdd | with_reducible apply eLt | with_reducible apply eGt | with_reducible apply eGe | with_reducible apply eOrB | with_reducible apply eNot | with_reducible apply eIteI | with_reducible apply eIteJ | with_reducible apply eIte | with_reducible apply eArr2 | with_reducible apply eFld2 | with_reducible apply eAI | with_reducible apply eAR | with_reducible apply eCI | with_reducible apply eCZ | with_reducible apply wRc | with_reducible exact ckv179 | with_reducible apply R_M_written | with_reducible exact N_M_written | with_reducible exact K_M_writtenMany | with_reducible exact M_isJob (by omega) (by omega) | with_reducible exact M_a0 (by omega) | with_reducible exact M_a1 (by omega) | with_reducible exact M_a2 (by omega) | with_reducible exact M_a3 (by omega) | with_reducible exact M_a4 (by omega) | with_reducible exact M_a5 (by omega) | with_reducible exact M_a6 (by omega) | with_reducible exact M_a7 (by omega) | with_reducible exact M_a8 (by omega) | with_reducible exact M_a9 (by omega) | with_reducible exact M_a10 (by omega) | with_reducible exact M_a11 (by omega) | with_reducible exact M_b12 (by omega) (by omega) | with_reducible exact M_b16 (by omega) (by omega) | with_reducible exact M_b20 (by omega) (by omega) | with_reducible exact M_b24 (by omega) (by omega) | with_reducible exact M_b28 (by omega) (by omega) | with_reducible exact Int.toNat_natCast _ | with_reducible exact tn0 | with_reducible exact tn1 | with_reducible exact tn2 | with_reducible exact tn3 | with_reducible exact tn4 | with_reducible exact tn5 | with_reducible exact tn6 | with_reducible exact tn7 | with_reducible exact tn8 | with_reducible exact tn9 | with_reducible exact tn10 | with_reducible exact tn11 | with_reducible exact tn12 | with_reducible exact tn13 | with_reducible exact tn14 | with_reducible exact tn15 | with_reducible exact tn16 | with_reducible exact tnK0 | with_reducible exact tnK4 | with_reducible exact tnK8 | with_reducible exact tnK12 | with_reducible exact tnK16 | with_reducible exact tnK20 | with_reducible exact tnK24 | with_reducible exact tnK28 | with_reducible exact tnK32 | with_reducible exact tnJA | with_reducible exact tnA | with_reducible exact upR_s | ((with_reducible apply upR_a); (first | decide | omega)) | ((with_reducible apply upR_b); (first | decide | omega)) | ((with_reducible apply cpR_o); (first | decide | omega)) | with_reducible apply lt_pSet1 | with_reducible apply lt_kil | exact Nat.le_of_ble_eq_true rfl | with_reducible assumption | with_reducible exact rfl | omega | with_reducible apply wAnd | decide +kernel
        all_goals first | (exfalso; omega) | exact absurd trivial (by assumption) | exact absurd rfl (by assumption) | exact ⟨rfl, G, U, rfl, allI_up hg⟩
      obtain ⟨r', τ', h1, rfl, G', U', rfl, h2⟩ := hMB
      exact ⟨G', U', h1, h2⟩
  · have hj : 0 ≤ a ∧ a < G 180 1 := by
      by_cases h : 0 ≤ a ∧ a < G 180 1
      · exact h
      · exact absurd (Or.inl h) hbad
    have hi : ¬ ix < -1 := fun h => hbad (Or.inr h)
    obtain ⟨j, rfl⟩ : ∃ j : Nat, a = (j : Int) := ⟨a.toNat, by omega⟩
    have hjl : j < (G 180 1).toNat := by omega
    have hjo := row_j hrow hjl
    have h4 := jo_4 hjo
    have hAn := tAll_n hrow hjl
    have hh := tHd_n (g := G 180) (j := j) (by omega) hjo.1 hjo.2.1
    obtain ⟨-, e8, e9, -, -, e12, -, -, -, e16, -⟩ := hJ j hjl
    have hMW := M_textW (U := U) (ix := ix) hg hjl (by omega)
    obtain ⟨r', τ', m1, m2, G', m3, m4⟩ := hMW
    subst m2; subst m3
    refine ⟨Int32.ofInt (txV (G 180) j ix), fun E b q hE => ?_, G', U, m1, m4⟩
    rw [← tAns_eq hAn r2]
    rw [nI_iI] at hXj ⊢
    refine text_run hE (Or.inr ⟨by rw [hXj, decide_eq_true hj], by rw [hneg]; exact hi, tAll (G 180) j, by omega, ?_, rfl⟩)
    have h6' := hjo.2.2.2.2.2.2.1
    have hna : mAt (G 180) j 4 = ((mArms (G 180) j : Nat) : Int) := h4.2.2.symm
    refine tell_run hE (x0 := (mAt (G 180) j 0).toNat) (x1 := (mAt (G 180) j 1).toNat) (na := mArms (G 180) j) (st := Int32.ofInt (mAt (G 180) j 6)) (wf := fun a => (mAt (G 180) j (12 + a)).toNat) (kf := fun a => (mAt (G 180) j (16 + a)).toNat) (Tf := tArs (G 180) j (tHd (G 180) j)) (by omega) ?_ (by have := hjo.1; omega) ?_ (by have := hjo.2.1; omega) ?_ h4.2.1 ?_ (fun a ha => ?_) (fun a ha => ?_) ?_ (fun a ha => rfl) (fun a ha => ?_) ?_
    · rw [zM1, show G 8 j = mAt (G 180) j 0 from e8, ← nI_iI]
      congr 1
      have := hjo.1; omega
    · rw [zM1, show G 9 j = mAt (G 180) j 1 from e9, ← nI_iI]
      congr 1
      have := hjo.2.1; omega
    · rw [zM1, show G 12 j = mAt (G 180) j 4 from e12, hna, nI_iI]
    · rw [zM1, show G 16 j = mAt (G 180) j 6 from e16]
    · have hao := jo_a hjo ha
      have hw := (hA j a hjl ha).1
      refine ⟨?_, by have := hao.1; omega⟩
      rw [zM1, show G 21 (j * 4 + a) = mAt (G 180) j (12 + a) from hw, ← nI_iI]
      congr 1
      have := hao.1; omega
    · have hao := jo_a hjo ha
      have hw := (hA j a hjl ha).2.1
      refine ⟨?_, by have := hao.2.1; omega⟩
      rw [zM1, show G 22 (j * 4 + a) = mAt (G 180) j (16 + a) from hw, ← nI_iI]
      congr 1
      have := hao.2.1; omega
    · rw [st3_0, st3_1]
      rfl
    · have := tArs_n (g := G 180) (j := j) (p := tHd (G 180) j) a fun a' ha' => ⟨(jo_a hjo (Nat.lt_of_lt_of_le ha' ha)).1, (jo_a hjo (Nat.lt_of_lt_of_le ha' ha)).2.1⟩
      omega
    · by_cases c6 : 0 ≤ mAt (G 180) j 6
      · right
        refine ⟨(mAt (G 180) j 6).toNat, by omega, ?_, ?_⟩
        · rw [← nI_iI]
          congr 1
          omega
        · rw [st3_2]
          exact if_pos c6
      · left
        refine ⟨?_, if_neg c6⟩
        rw [show mAt (G 180) j 6 = -1 by omega]
        rfl
