/-! ===== calls of both: counts ===== -/
set_option maxHeartbeats 1000000 in
theorem Jb_countIn {G U : Nat → Nat → Int} {s : Nat} {how : Int} {g : Nat → Int} (hs : isScene s) (hrow : rowOk g) (hJ : relJ G s g) (hh : rg how) : F_Jobs_countIn [pR (s + 5), pI (Int32.ofInt how)] (zM G U) = some (some (pI (Int32.ofInt (ofF g how))), zM G U) := by
  have hsj := S_Scene_jobs hs
  obtain ⟨j0, jj⟩ := hJ
  have hn := hrow.2.2.1
  obtain ⟨m, hm⟩ : ∃ m : Nat, g 1 = (m : Int) := ⟨(g 1).toNat, by omega⟩
  have hr := hrow.1
  apply wF_to
  unfold F_Jobs_countIn B_Jobs_countIn ofF
  apply wBody (Nat.le_of_ble_eq_true rfl)
  have hsum := fun n => sumTo_rg (f := fun j => if decide (mAt g j 5 = how) = true then (1 : Int) else 0) (c := 1) (n := n) (fun i (_ : i < n) => by (try dsimp only); split <;> omega)
  have hss : ∀ i, sumTo (fun j => if decide (mAt g j 5 = how) = true then (1 : Int) else 0) (i + 1) = sumTo (fun j => if decide (mAt g j 5 = how) = true then (1 : Int) else 0) i + (if decide (mAt g i 5 = how) = true then 1 else 0) := fun i => rfl
  have h0 : sumTo (fun j => if decide (mAt g j 5 = how) = true then (1 : Int) else 0) 0 = 0 := rfl
  generalize sumTo (fun j => if decide (mAt g j 5 = how) = true then (1 : Int) else 0) = S at *
  rw [hm] at j0 jj ⊢
  rw [Int.toNat_natCast] at jj ⊢
  repeat' first | with_reducible apply wSeq | with_reducible apply wAsI | ((with_reducible apply wInc); rfl) | with_reducible apply wKil | with_reducible apply wRI | with_reducible apply wB_e | (intro h; try simp only [Bool.and_eq_true, Bool.or_eq_true, Bool.not_eq_true', Bool.not_eq_false', Bool.and_eq_false_imp, Bool.or_eq_false_iff, decide_eq_true_eq, decide_eq_false_iff_not, Bool.not_true, Bool.not_false, Bool.true_eq_false, Bool.false_eq_true, Bool.not_not] at h) | with_reducible apply wN1 | with_reducible apply wN2 | with_reducible apply wN3 | with_reducible apply wN4 | with_reducible apply wN0 | with_reducible apply wE0 | with_reducible apply wXI | with_reducible apply wXB | with_reducible exact eK | ((with_reducible apply eL); rfl) | ((with_reducible apply eLR); rfl) | with_reducible exact eAN | with_reducible apply eAdd | with_reducible apply eLt | with_reducible apply eEq | with_reducible apply eIteI | with_reducible apply eIteJ | with_reducible apply eIte | with_reducible apply eArr2 | with_reducible apply eFld2 | with_reducible apply R_Jobs_state | with_reducible exact K_Jobs_size (by assumption) | with_reducible exact N_Jobs_state (by assumption) | with_reducible exact Int.toNat_natCast _ | with_reducible exact tn0 | with_reducible exact tn1 | with_reducible exact tn2 | with_reducible exact tn3 | with_reducible exact tn4 | with_reducible exact tn5 | with_reducible exact tn6 | with_reducible exact tn7 | with_reducible exact tn8 | with_reducible exact tn9 | with_reducible exact tn10 | with_reducible exact tn11 | with_reducible exact tn12 | with_reducible exact tn13 | with_reducible exact tn14 | with_reducible exact tn15 | with_reducible exact tn16 | with_reducible exact tnK0 | with_reducible exact tnK4 | with_reducible exact tnK8 | with_reducible exact tnK12 | with_reducible exact tnK16 | with_reducible exact tnK20 | with_reducible exact tnK24 | with_reducible exact tnK28 | with_reducible exact tnK32 | with_reducible exact tnJA | with_reducible exact tnA | with_reducible exact upR_s | ((with_reducible apply upR_a); (first | decide | omega)) | ((with_reducible apply upR_b); (first | decide | omega)) | ((with_reducible apply cpR_o); (first | decide | omega)) | with_reducible apply lt_pSet1 | with_reducible apply lt_kil | exact Nat.le_of_ble_eq_true rfl | with_reducible assumption | with_reducible exact rfl | omega | with_reducible apply wAnd | decide +kernel
  refine wWh (fun j L σ => L = [some (pR (s + 5)), some (pI (Int32.ofInt how)), some (pI (Int32.ofInt (S j))), some (pI (Int32.ofInt (j : Int)))] ∧ σ = zM G U) m (by omega) ⟨by rw [h0]; rfl, rfl⟩ ?_
  rintro j _ _ hj ⟨rfl, rfl⟩
  have hSj := hsum j
  rcases Nat.lt_or_ge j m with hlt | hge
  · rw [hss j]
    have x5 := (jj j hlt).1
    have r5 : rg (mAt g j 5) := hr _
    generalize S j = z at *
    repeat' first | with_reducible apply wSeq | with_reducible apply wAsI | ((with_reducible apply wInc); rfl) | with_reducible apply wKil | with_reducible apply wRI | with_reducible apply wB_e | (intro h; try simp only [Bool.and_eq_true, Bool.or_eq_true, Bool.not_eq_true', Bool.not_eq_false', Bool.and_eq_false_imp, Bool.or_eq_false_iff, decide_eq_true_eq, decide_eq_false_iff_not, Bool.not_true, Bool.not_false, Bool.true_eq_false, Bool.false_eq_true, Bool.not_not] at h) | with_reducible apply wN1 | with_reducible apply wN2 | with_reducible apply wN3 | with_reducible apply wN4 | with_reducible apply wN0 | with_reducible apply wE0 | with_reducible apply wXI | with_reducible apply wXB | with_reducible exact j0 | with_reducible exact x5 | with_reducible exact eK | ((with_reducible apply eL); rfl) | ((with_reducible apply eLR); rfl) | with_reducible exact eAN | with_reducible apply eAdd | with_reducible apply eLt | with_reducible apply eEq | with_reducible apply eIteI | with_reducible apply eIteJ | with_reducible apply eIte | with_reducible apply eArr2 | with_reducible apply eFld2 | with_reducible apply R_Jobs_state | with_reducible exact K_Jobs_size (by assumption) | with_reducible exact N_Jobs_state (by assumption) | with_reducible exact Int.toNat_natCast _ | with_reducible exact tn0 | with_reducible exact tn1 | with_reducible exact tn2 | with_reducible exact tn3 | with_reducible exact tn4 | with_reducible exact tn5 | with_reducible exact tn6 | with_reducible exact tn7 | with_reducible exact tn8 | with_reducible exact tn9 | with_reducible exact tn10 | with_reducible exact tn11 | with_reducible exact tn12 | with_reducible exact tn13 | with_reducible exact tn14 | with_reducible exact tn15 | with_reducible exact tn16 | with_reducible exact tnK0 | with_reducible exact tnK4 | with_reducible exact tnK8 | with_reducible exact tnK12 | with_reducible exact tnK16 | with_reducible exact tnK20 | with_reducible exact tnK24 | with_reducible exact tnK28 | with_reducible exact tnK32 | with_reducible exact tnJA | with_reducible exact tnA | with_reducible exact upR_s | ((with_reducible apply upR_a); (first | decide | omega)) | ((with_reducible apply upR_b); (first | decide | omega)) | ((with_reducible apply cpR_o); (first | decide | omega)) | with_reducible apply lt_pSet1 | with_reducible apply lt_kil | exact Nat.le_of_ble_eq_true rfl | with_reducible assumption | with_reducible exact rfl | omega | with_reducible apply wAnd | decide +kernel
    exact ⟨rfl, rfl⟩
  · have e : j = m := by omega
    subst e
    generalize S j = z at *
    repeat' first | with_reducible apply wSeq | with_reducible apply wAsI | ((with_reducible apply wInc); rfl) | with_reducible apply wKil | with_reducible apply wRI | with_reducible apply wB_e | (intro h; try simp only [Bool.and_eq_true, Bool.or_eq_true, Bool.not_eq_true', Bool.not_eq_false', Bool.and_eq_false_imp, Bool.or_eq_false_iff, decide_eq_true_eq, decide_eq_false_iff_not, Bool.not_true, Bool.not_false, Bool.true_eq_false, Bool.false_eq_true, Bool.not_not] at h) | with_reducible apply wN1 | with_reducible apply wN2 | with_reducible apply wN3 | with_reducible apply wN4 | with_reducible apply wN0 | with_reducible apply wE0 | with_reducible apply wXI | with_reducible apply wXB | with_reducible exact j0 | with_reducible exact eK | ((with_reducible apply eL); rfl) | ((with_reducible apply eLR); rfl) | with_reducible exact eAN | with_reducible apply eAdd | with_reducible apply eLt | with_reducible apply eEq | with_reducible apply eIteI | with_reducible apply eIteJ | with_reducible apply eIte | with_reducible apply eArr2 | with_reducible apply eFld2 | with_reducible apply R_Jobs_state | with_reducible exact K_Jobs_size (by assumption) | with_reducible exact N_Jobs_state (by assumption) | with_reducible exact Int.toNat_natCast _ | with_reducible exact tn0 | with_reducible exact tn1 | with_reducible exact tn2 | with_reducible exact tn3 | with_reducible exact tn4 | with_reducible exact tn5 | with_reducible exact tn6 | with_reducible exact tn7 | with_reducible exact tn8 | with_reducible exact tn9 | with_reducible exact tn10 | with_reducible exact tn11 | with_reducible exact tn12 | with_reducible exact tn13 | with_reducible exact tn14 | with_reducible exact tn15 | with_reducible exact tn16 | with_reducible exact tnK0 | with_reducible exact tnK4 | with_reducible exact tnK8 | with_reducible exact tnK12 | with_reducible exact tnK16 | with_reducible exact tnK20 | with_reducible exact tnK24 | with_reducible exact tnK28 | with_reducible exact tnK32 | with_reducible exact tnJA | with_reducible exact tnA | with_reducible exact upR_s | ((with_reducible apply upR_a); (first | decide | omega)) | ((with_reducible apply upR_b); (first | decide | omega)) | ((with_reducible apply cpR_o); (first | decide | omega)) | with_reducible apply lt_pSet1 | with_reducible apply lt_kil | exact Nat.le_of_ble_eq_true rfl | with_reducible assumption | with_reducible exact rfl | omega | with_reducible apply wAnd | decide +kernel
    exact ⟨rfl, rfl⟩
set_option maxHeartbeats 1000000 in
theorem Jb_countP {G U : Nat → Nat → Int} {s : Nat} {g : Nat → Int} (hs : isScene s) (hrow : rowOk g) (hJ : relJ G s g) (hQ : relQ G s g) : F_Jobs_countPromises [pR (s + 5)] (zM G U) = some (some (pI (Int32.ofInt (promTo g (g 1).toNat))), zM G U) := by
  have hsj := S_Scene_jobs hs
  have j0 := hJ.1
  have hn := hrow.2.2.1
  obtain ⟨m, hm⟩ : ∃ m : Nat, g 1 = (m : Int) := ⟨(g 1).toNat, by omega⟩
  have hr := hrow.1
  have hjo := fun j hj => row_j hrow (j := j) hj
  apply wF_to
  unfold F_Jobs_countPromises B_Jobs_countPromises promTo
  apply wBody (Nat.le_of_ble_eq_true rfl)
  have hsum := fun n => sumTo_rg (f := fun j => if decide (0 ≤ mAt g j 9) = true then (1 : Int) else 0) (c := 1) (n := n) (fun i (_ : i < n) => by (try dsimp only); split <;> omega)
  have hss : ∀ i, sumTo (fun j => if decide (0 ≤ mAt g j 9) = true then (1 : Int) else 0) (i + 1) = sumTo (fun j => if decide (0 ≤ mAt g j 9) = true then (1 : Int) else 0) i + (if decide (0 ≤ mAt g i 9) = true then 1 else 0) := fun i => rfl
  have h0 : sumTo (fun j => if decide (0 ≤ mAt g j 9) = true then (1 : Int) else 0) 0 = 0 := rfl
  generalize sumTo (fun j => if decide (0 ≤ mAt g j 9) = true then (1 : Int) else 0) = S at *
  unfold relQ at hQ
  rw [hm] at j0 hQ hjo ⊢
  rw [Int.toNat_natCast] at hQ hjo ⊢
  repeat' first | with_reducible apply wSeq | with_reducible apply wAsI | ((with_reducible apply wInc); rfl) | with_reducible apply wKil | with_reducible apply wRI | with_reducible apply wB_e | (intro h; try simp only [Bool.and_eq_true, Bool.or_eq_true, Bool.not_eq_true', Bool.not_eq_false', Bool.and_eq_false_imp, Bool.or_eq_false_iff, decide_eq_true_eq, decide_eq_false_iff_not, Bool.not_true, Bool.not_false, Bool.true_eq_false, Bool.false_eq_true, Bool.not_not] at h) | with_reducible apply wN1 | with_reducible apply wN2 | with_reducible apply wN3 | with_reducible apply wN4 | with_reducible apply wN0 | with_reducible apply wE0 | with_reducible apply wXI | with_reducible apply wXB | with_reducible exact eK | ((with_reducible apply eL); rfl) | ((with_reducible apply eLR); rfl) | with_reducible exact eAN | with_reducible apply eAdd | with_reducible apply eLt | with_reducible apply eNe | with_reducible apply eIteI | with_reducible apply eIteJ | with_reducible apply eIte | with_reducible apply eArr2 | with_reducible apply eFld2 | with_reducible apply R_Jobs_promise | with_reducible exact K_Jobs_size (by assumption) | with_reducible exact N_Jobs_promise (by assumption) | with_reducible exact Int.toNat_natCast _ | with_reducible exact tn0 | with_reducible exact tn1 | with_reducible exact tn2 | with_reducible exact tn3 | with_reducible exact tn4 | with_reducible exact tn5 | with_reducible exact tn6 | with_reducible exact tn7 | with_reducible exact tn8 | with_reducible exact tn9 | with_reducible exact tn10 | with_reducible exact tn11 | with_reducible exact tn12 | with_reducible exact tn13 | with_reducible exact tn14 | with_reducible exact tn15 | with_reducible exact tn16 | with_reducible exact tnK0 | with_reducible exact tnK4 | with_reducible exact tnK8 | with_reducible exact tnK12 | with_reducible exact tnK16 | with_reducible exact tnK20 | with_reducible exact tnK24 | with_reducible exact tnK28 | with_reducible exact tnK32 | with_reducible exact tnJA | with_reducible exact tnA | with_reducible exact upR_s | ((with_reducible apply upR_a); (first | decide | omega)) | ((with_reducible apply upR_b); (first | decide | omega)) | ((with_reducible apply cpR_o); (first | decide | omega)) | with_reducible apply lt_pSet1 | with_reducible apply lt_kil | exact Nat.le_of_ble_eq_true rfl | with_reducible assumption | with_reducible exact rfl | omega | with_reducible apply wAnd | decide +kernel
  refine wWh (fun j L σ => L = [some (pR (s + 5)), some (pI (Int32.ofInt (S j))), some (pI (Int32.ofInt (j : Int)))] ∧ σ = zM G U) m (by omega) ⟨by rw [h0]; rfl, rfl⟩ ?_
  rintro j _ _ hj ⟨rfl, rfl⟩
  have hSj := hsum j
  rcases Nat.lt_or_ge j m with hlt | hge
  · rw [hss j]
    have x9 := (hQ j hlt).1
    have r9 : rg (mAt g j 9) := hr _
    have hj9 : -1 ≤ mAt g j 9 := (hjo j hlt).2.2.2.2.2.2.2.2.2.1.1
    have e9 : decide (0 ≤ mAt g j 9) = !decide (mAt g j 9 = -1) := by
      by_cases c : 0 ≤ mAt g j 9
      · rw [decide_eq_true c, decide_eq_false (by omega)]; rfl
      · rw [decide_eq_false c, decide_eq_true (by omega)]; rfl
    rw [e9]
    generalize S j = z at *
    repeat' first | with_reducible apply wSeq | with_reducible apply wAsI | ((with_reducible apply wInc); rfl) | with_reducible apply wKil | with_reducible apply wRI | with_reducible apply wB_e | (intro h; try simp only [Bool.and_eq_true, Bool.or_eq_true, Bool.not_eq_true', Bool.not_eq_false', Bool.and_eq_false_imp, Bool.or_eq_false_iff, decide_eq_true_eq, decide_eq_false_iff_not, Bool.not_true, Bool.not_false, Bool.true_eq_false, Bool.false_eq_true, Bool.not_not] at h) | with_reducible apply wN1 | with_reducible apply wN2 | with_reducible apply wN3 | with_reducible apply wN4 | with_reducible apply wN0 | with_reducible apply wE0 | with_reducible apply wXI | with_reducible apply wXB | with_reducible exact j0 | with_reducible exact x9 | with_reducible exact eK | ((with_reducible apply eL); rfl) | ((with_reducible apply eLR); rfl) | with_reducible exact eAN | with_reducible apply eAdd | with_reducible apply eLt | with_reducible apply eNe | with_reducible apply eIteI | with_reducible apply eIteJ | with_reducible apply eIte | with_reducible apply eArr2 | with_reducible apply eFld2 | with_reducible apply R_Jobs_promise | with_reducible exact K_Jobs_size (by assumption) | with_reducible exact N_Jobs_promise (by assumption) | with_reducible exact Int.toNat_natCast _ | with_reducible exact tn0 | with_reducible exact tn1 | with_reducible exact tn2 | with_reducible exact tn3 | with_reducible exact tn4 | with_reducible exact tn5 | with_reducible exact tn6 | with_reducible exact tn7 | with_reducible exact tn8 | with_reducible exact tn9 | with_reducible exact tn10 | with_reducible exact tn11 | with_reducible exact tn12 | with_reducible exact tn13 | with_reducible exact tn14 | with_reducible exact tn15 | with_reducible exact tn16 | with_reducible exact tnK0 | with_reducible exact tnK4 | with_reducible exact tnK8 | with_reducible exact tnK12 | with_reducible exact tnK16 | with_reducible exact tnK20 | with_reducible exact tnK24 | with_reducible exact tnK28 | with_reducible exact tnK32 | with_reducible exact tnJA | with_reducible exact tnA | with_reducible exact upR_s | ((with_reducible apply upR_a); (first | decide | omega)) | ((with_reducible apply upR_b); (first | decide | omega)) | ((with_reducible apply cpR_o); (first | decide | omega)) | with_reducible apply lt_pSet1 | with_reducible apply lt_kil | exact Nat.le_of_ble_eq_true rfl | with_reducible assumption | with_reducible exact rfl | omega | with_reducible apply wAnd | decide +kernel
    exact ⟨rfl, rfl⟩
  · have e : j = m := by omega
    subst e
    generalize S j = z at *
    repeat' first | with_reducible apply wSeq | with_reducible apply wAsI | ((with_reducible apply wInc); rfl) | with_reducible apply wKil | with_reducible apply wRI | with_reducible apply wB_e | (intro h; try simp only [Bool.and_eq_true, Bool.or_eq_true, Bool.not_eq_true', Bool.not_eq_false', Bool.and_eq_false_imp, Bool.or_eq_false_iff, decide_eq_true_eq, decide_eq_false_iff_not, Bool.not_true, Bool.not_false, Bool.true_eq_false, Bool.false_eq_true, Bool.not_not] at h) | with_reducible apply wN1 | with_reducible apply wN2 | with_reducible apply wN3 | with_reducible apply wN4 | with_reducible apply wN0 | with_reducible apply wE0 | with_reducible apply wXI | with_reducible apply wXB | with_reducible exact j0 | with_reducible exact eK | ((with_reducible apply eL); rfl) | ((with_reducible apply eLR); rfl) | with_reducible exact eAN | with_reducible apply eAdd | with_reducible apply eLt | with_reducible apply eNe | with_reducible apply eIteI | with_reducible apply eIteJ | with_reducible apply eIte | with_reducible apply eArr2 | with_reducible apply eFld2 | with_reducible apply R_Jobs_promise | with_reducible exact K_Jobs_size (by assumption) | with_reducible exact N_Jobs_promise (by assumption) | with_reducible exact Int.toNat_natCast _ | with_reducible exact tn0 | with_reducible exact tn1 | with_reducible exact tn2 | with_reducible exact tn3 | with_reducible exact tn4 | with_reducible exact tn5 | with_reducible exact tn6 | with_reducible exact tn7 | with_reducible exact tn8 | with_reducible exact tn9 | with_reducible exact tn10 | with_reducible exact tn11 | with_reducible exact tn12 | with_reducible exact tn13 | with_reducible exact tn14 | with_reducible exact tn15 | with_reducible exact tn16 | with_reducible exact tnK0 | with_reducible exact tnK4 | with_reducible exact tnK8 | with_reducible exact tnK12 | with_reducible exact tnK16 | with_reducible exact tnK20 | with_reducible exact tnK24 | with_reducible exact tnK28 | with_reducible exact tnK32 | with_reducible exact tnJA | with_reducible exact tnA | with_reducible exact upR_s | ((with_reducible apply upR_a); (first | decide | omega)) | ((with_reducible apply upR_b); (first | decide | omega)) | ((with_reducible apply cpR_o); (first | decide | omega)) | with_reducible apply lt_pSet1 | with_reducible apply lt_kil | exact Nat.le_of_ble_eq_true rfl | with_reducible assumption | with_reducible exact rfl | omega | with_reducible apply wAnd | decide +kernel
    exact ⟨rfl, rfl⟩
theorem held_all {g : Nat → Int} (hI : rowI g) : sumTo (fun a => heldF g (a : Int)) 8 = 16 - idleF g := by
  have hrow := hI.1
  have e1 : ∀ a : Nat, heldF g (a : Int) = sumTo (fun c => if hoAcc g (a : Int) c = true then 1 else 0) 16 := fun a => heldF_is hrow hI.2.2.1
  have e2 : sumTo (fun a => heldF g ((a : Nat) : Int)) 8 = sumTo (fun a => sumTo (fun c => if hoAcc g ((a : Nat) : Int) c = true then 1 else 0) 16) 8 := sumTo_congr fun a _ => e1 a
  rw [e2, sumTo_swap (f := fun a c => if hoAcc g ((a : Nat) : Int) c = true then 1 else 0)]
  have e3 : sumTo (fun _ => (1 : Int)) 16 = sumTo (fun c => sumTo (fun a => if hoAcc g ((a : Nat) : Int) c = true then 1 else 0) 8) 16 + idleF g := by
    unfold idleF
    refine sumTo_add fun c hc => ?_
    (try dsimp only)
    by_cases hh : holderF g c = -1
    · rw [if_pos (decide_eq_true hh)]
      rw [sumTo_zero fun a _ => ?_]
      · rfl
      · (try dsimp only)
        unfold hoAcc
        rw [if_neg (by rw [hh]; simp)]
    · have h1 := holderF_rg (g := g) (c := c)
      have hn := hrow.2.2.1
      rw [if_pos hn.1] at h1
      have hj : (holderF g c).toNat < (g 1).toNat := by omega
      have h0 := (row_j hrow hj).1
      rw [if_neg (by simpa using hh), sumTo_one (z := (mAt g (holderF g c).toNat 0).toNat) (x := 1) fun a ha => ?_, if_pos (by omega)]
      · rfl
      · (try dsimp only)
        unfold hoAcc
        by_cases ca : a = (mAt g (holderF g c).toNat 0).toNat
        · rw [if_pos ca, if_pos (by simp only [Bool.and_eq_true, decide_eq_true_eq]; omega)]
        · rw [if_neg ca, if_neg (by simp only [Bool.and_eq_true, decide_eq_true_eq]; omega)]
  have e4 : sumTo (fun _ => (1 : Int)) 16 = 16 := rfl
  omega