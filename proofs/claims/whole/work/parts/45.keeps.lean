/-! ===== spans ===== -/
def colsB (ab : Int) : Bool := (decide (0 ≤ ab) && decide (0 ≤ ab / 100 ∧ ab / 100 ≤ 15)) && decide (ab / 100 ≤ ab % 100 ∧ ab % 100 ≤ 15)
theorem M_areColumns {G U : Nat → Nat → Int} {ab : Int} (h : rg ab) : F_M_areColumns [pR 179, pI (Int32.ofInt ab)] (zM G U) = some (some (pI (zI (colsB ab))), zM G U) := by
  apply wF_to
  unfold F_M_areColumns B_M_areColumns colsB
  apply wBody (Nat.le_of_ble_eq_true rfl)
  by_cases c : 0 ≤ ab
  · repeat' first | with_reducible apply wRZ | with_reducible apply wB_e | (intro h; try simp only [Bool.and_eq_true, Bool.or_eq_true, Bool.not_eq_true', Bool.not_eq_false', Bool.and_eq_false_imp, Bool.or_eq_false_iff, decide_eq_true_eq, decide_eq_false_iff_not, Bool.not_true, Bool.not_false, Bool.true_eq_false, Bool.false_eq_true, Bool.not_not] at h) | with_reducible apply wN1 | with_reducible apply wN2 | with_reducible apply wN3 | with_reducible apply wN4 | with_reducible apply wN0 | with_reducible apply wE0 | with_reducible apply wXI | with_reducible apply wXB | with_reducible exact eK | with_reducible exact eKJ | ((with_reducible apply eL); rfl) | with_reducible exact eAN | with_reducible apply eDiv | with_reducible apply eRem | with_reducible apply eWJ | with_reducible apply eGe | with_reducible apply eAnd | with_reducible apply eAJ | with_reducible apply eCI | with_reducible apply eCZ | with_reducible apply wRc | with_reducible exact ckv99 | with_reducible exact M_in (by omega) (by omega) (by omega) | with_reducible exact upR_s | ((with_reducible apply upR_a); (first | decide | omega)) | ((with_reducible apply upR_b); (first | decide | omega)) | exact Nat.le_of_ble_eq_true rfl | with_reducible assumption | with_reducible exact rfl | omega | with_reducible apply wAnd | decide +kernel
    exact ⟨rfl, rfl⟩
  · apply wRZ (p := false && false && false) (τ := zM G U)
    · refine eAnd (eAnd ?_ fun h => by cases h) fun h => by cases h
      rw [show false = decide (0 ≤ ab) by simp [c]]
      repeat' first | with_reducible apply wRZ | with_reducible apply wB_e | (intro h; try simp only [Bool.and_eq_true, Bool.or_eq_true, Bool.not_eq_true', Bool.not_eq_false', Bool.and_eq_false_imp, Bool.or_eq_false_iff, decide_eq_true_eq, decide_eq_false_iff_not, Bool.not_true, Bool.not_false, Bool.true_eq_false, Bool.false_eq_true, Bool.not_not] at h) | with_reducible apply wN1 | with_reducible apply wN2 | with_reducible apply wN3 | with_reducible apply wN4 | with_reducible apply wN0 | with_reducible apply wE0 | with_reducible apply wXI | with_reducible apply wXB | with_reducible exact eK | with_reducible exact eKJ | ((with_reducible apply eL); rfl) | with_reducible exact eAN | with_reducible apply eDiv | with_reducible apply eRem | with_reducible apply eWJ | with_reducible apply eGe | with_reducible apply eAnd | with_reducible apply eAJ | with_reducible apply eCI | with_reducible apply eCZ | with_reducible apply wRc | with_reducible exact ckv99 | with_reducible exact M_in (by omega) (by omega) (by omega) | with_reducible exact upR_s | ((with_reducible apply upR_a); (first | decide | omega)) | ((with_reducible apply upR_b); (first | decide | omega)) | exact Nat.le_of_ble_eq_true rfl | with_reducible assumption | with_reducible exact rfl | omega | with_reducible apply wAnd | decide +kernel
    · refine ⟨nar2, ?_, rfl⟩
      simp [c]
def spanB (g : Nat → Int) (ab fr to acc : Int) : Bool := (((colsB ab && decide (g 0 ≤ fr)) && decide (fr < to)) && decide (to ≤ g 0 + 30000)) && decide (-1 ≤ acc ∧ acc ≤ 7)
theorem M_isSpanTold {G U : Nat → Nat → Int} {ab fr to acc : Int} (h1 : rg ab) (h2 : rgJ fr) (h3 : rgJ to) (h4 : rg acc) (h0 : 0 ≤ G 180 0 ∧ G 180 0 ≤ 1000000) : F_M_isSpanTold [pR 179, pI (Int32.ofInt ab), pJ (Int64.ofInt fr), pJ (Int64.ofInt to), pI (Int32.ofInt acc)] (zM G U) = some (some (pI (zI (spanB (G 180) ab fr to acc))), zM G U) := by
  apply wF_to
  unfold F_M_isSpanTold B_M_isSpanTold spanB
  apply wBody (Nat.le_of_ble_eq_true rfl)
  repeat' first | with_reducible apply wRZ | with_reducible apply wB_e | (intro h; try simp only [Bool.and_eq_true, Bool.or_eq_true, Bool.not_eq_true', Bool.not_eq_false', Bool.and_eq_false_imp, Bool.or_eq_false_iff, decide_eq_true_eq, decide_eq_false_iff_not, Bool.not_true, Bool.not_false, Bool.true_eq_false, Bool.false_eq_true, Bool.not_not] at h) | with_reducible apply wN1 | with_reducible apply wN2 | with_reducible apply wN3 | with_reducible apply wN4 | with_reducible apply wN0 | with_reducible apply wE0 | with_reducible apply wXI | with_reducible apply wXB | with_reducible exact eK | with_reducible exact eKJ | ((with_reducible apply eL); rfl) | ((with_reducible apply eLJ); rfl) | ((with_reducible apply eLR); rfl) | with_reducible exact eAN | with_reducible apply eAdd | with_reducible apply eWJ | with_reducible apply eJGt | with_reducible apply eJLe | with_reducible apply eJGe | with_reducible apply eAnd | with_reducible apply eArr2 | with_reducible apply eAI | with_reducible apply eAJ | with_reducible apply eAR | with_reducible apply eCI | with_reducible apply eCZ | with_reducible apply wRc | with_reducible exact ckv179 | with_reducible exact ckv99 | with_reducible apply R_M_g | with_reducible exact N_M_g | with_reducible exact M_in (by omega) (by omega) (by omega) | with_reducible exact M_areColumns (by omega) | with_reducible exact Int.toNat_natCast _ | with_reducible exact tn0 | with_reducible exact tn1 | with_reducible exact tn2 | with_reducible exact tn3 | with_reducible exact tn4 | with_reducible exact tn5 | with_reducible exact tn6 | with_reducible exact tn7 | with_reducible exact tn8 | with_reducible exact tn9 | with_reducible exact tn10 | with_reducible exact tn11 | with_reducible exact tn12 | with_reducible exact tn13 | with_reducible exact tn14 | with_reducible exact tn15 | with_reducible exact tn16 | with_reducible exact tnK0 | with_reducible exact tnK4 | with_reducible exact tnK8 | with_reducible exact tnK12 | with_reducible exact tnK16 | with_reducible exact tnK20 | with_reducible exact tnK24 | with_reducible exact tnK28 | with_reducible exact tnK32 | with_reducible exact tnJA | with_reducible exact tnA | with_reducible exact upR_s | ((with_reducible apply upR_a); (first | decide | omega)) | ((with_reducible apply upR_b); (first | decide | omega)) | exact Nat.le_of_ble_eq_true rfl | with_reducible assumption | with_reducible exact rfl | omega | with_reducible apply wAnd | decide +kernel
  exact ⟨rfl, rfl⟩
/-- the first place of the row where no span stands -/
def slotF (g : Nat → Int) : Nat := leastTo (fun s => decide (mSpan g s 0 < 0)) 12
def keepF (g : Nat → Int) (ab fr to acc : Int) : Nat → Int := put (put (put (put (put (put (put g (24 + slotF g * 6) (g 5)) (24 + slotF g * 6 + 1) (ab / 100)) (24 + slotF g * 6 + 2) (ab % 100)) (24 + slotF g * 6 + 3) fr) (24 + slotF g * 6 + 4) to) (24 + slotF g * 6 + 5) acc) 5 (g 5 + 1)
theorem leastTo_is {p : Nat → Bool} : ∀ n i, i < leastTo p n → p i = false
  | 0, i, h => by rw [leastTo] at h; omega
  | n + 1, i, h => by
    have ih := leastTo_is (p := p) n
    have hl := (leastTo_le (p := p) n).1
    rw [leastTo] at h
    split at h
    · exact ih i h
    · split at h
      · by_cases c : i < leastTo p n
        · exact ih i c
        · omega
      · rename_i h1 h2
        by_cases c : i = n
        · subst c; simpa using h2
        · exact ih i (by omega)
theorem slotF_free {g : Nat → Int} (h : slotF g < 12) : mSpan g (slotF g) 0 < 0 := by
  unfold slotF at h ⊢
  have h2 := (leastTo_le (p := fun s => decide (mSpan g s 0 < 0)) 12).2 h
  revert h2
  generalize leastTo (fun s => decide (mSpan g s 0 < 0)) 12 = q
  intro h2
  exact of_decide_eq_true h2
theorem slotF_busy {g : Nat → Int} {i : Nat} (h : i < slotF g) : 0 ≤ mSpan g i 0 := by
  unfold slotF at h
  have h2 := leastTo_is (p := fun s => decide (mSpan g s 0 < 0)) 12 i h
  have := of_decide_eq_false h2
  omega
theorem W_keeps {G U : Nat → Nat → Int} {g : Nat → Int} {ab fr to acc : Int} {R : Option pV → pM → Prop} (hr : gRange g) (hab : 0 ≤ ab ∧ ab < 2147483648) (hsl : slotF g < 12) (hR : R (some (pI (Int32.ofInt (g 5)))) (zM (setRow G 180 (keepF g ab fr to acc)) U)) : WpF F_M_keeps [pR 179, pI (Int32.ofInt ab), pI (Int32.ofInt fr), pI (Int32.ofInt to), pI (Int32.ofInt acc)] (zM (setRow G 180 g) U) R := by
  unfold F_M_keeps B_M_keeps
  apply wBody (Nat.le_of_ble_eq_true rfl)
  have hfree := slotF_free hsl
  have hbus : ∀ i, i < slotF g → 0 ≤ mSpan g i 0 := fun i hi => slotF_busy hi
  unfold keepF at hR
  generalize slotF g = sl at *
  repeat' first | ((with_reducible apply wAstG); rfl) | ((with_reducible apply wAmdGA); rfl) | ((with_reducible apply wAmdGS); rfl) | with_reducible apply wAstO | with_reducible apply wSeq | with_reducible apply wSkip | with_reducible apply wAsI | ((with_reducible apply wInc); rfl) | with_reducible apply wRI | with_reducible apply wAst2 | with_reducible apply wAmdA2 | with_reducible apply wAmdS2 | with_reducible apply wB_e | (intro h; try simp only [Bool.and_eq_true, Bool.or_eq_true, Bool.not_eq_true', Bool.not_eq_false', Bool.and_eq_false_imp, Bool.or_eq_false_iff, decide_eq_true_eq, decide_eq_false_iff_not, Bool.not_true, Bool.not_false, Bool.true_eq_false, Bool.false_eq_true, Bool.not_not] at h) | with_reducible apply wN1 | with_reducible apply wN2 | with_reducible apply wN3 | with_reducible apply wN4 | with_reducible apply wN0 | with_reducible apply wE0 | with_reducible apply wXI | with_reducible apply wXB | ((with_reducible apply eG); rfl) | with_reducible apply eArrO | with_reducible exact eK | ((with_reducible apply eL); rfl) | ((with_reducible apply eLR); rfl) | with_reducible exact eAN | with_reducible apply eAdd | with_reducible apply eMul | with_reducible apply eDiv | with_reducible apply eRem | with_reducible apply eArr2 | with_reducible apply eAI | with_reducible apply eAR | with_reducible apply eCI | with_reducible apply eCZ | with_reducible apply wRc | with_reducible exact ckv179 | with_reducible apply R_M_g | with_reducible exact N_M_g | with_reducible exact M_isSpan (by omega) (by assumption) | with_reducible exact Int.toNat_natCast _ | with_reducible exact tn0 | with_reducible exact tn1 | with_reducible exact tn2 | with_reducible exact tn3 | with_reducible exact tn4 | with_reducible exact tn5 | with_reducible exact tn6 | with_reducible exact tn7 | with_reducible exact tn8 | with_reducible exact tn9 | with_reducible exact tn10 | with_reducible exact tn11 | with_reducible exact tn12 | with_reducible exact tn13 | with_reducible exact tn14 | with_reducible exact tn15 | with_reducible exact tn16 | with_reducible exact tnK0 | with_reducible exact tnK4 | with_reducible exact tnK8 | with_reducible exact tnK12 | with_reducible exact tnK16 | with_reducible exact tnK20 | with_reducible exact tnK24 | with_reducible exact tnK28 | with_reducible exact tnK32 | with_reducible exact tnJA | with_reducible exact tnA | with_reducible exact upR_s | ((with_reducible apply upR_a); (first | decide | omega)) | ((with_reducible apply upR_b); (first | decide | omega)) | with_reducible exact putR_s | ((with_reducible apply putR_o); (first | decide | omega)) | ((with_reducible apply jputR_lo); (first | decide | omega)) | ((with_reducible apply jputR_hi); omega; omega; omega) | exact Nat.le_of_ble_eq_true rfl | with_reducible assumption | with_reducible exact rfl | omega | with_reducible apply wAnd | decide +kernel
  refine wWh (fun s L σ => L = [some (pR 179), some (pI (Int32.ofInt ab)), some (pI (Int32.ofInt fr)), some (pI (Int32.ofInt to)), some (pI (Int32.ofInt acc)), some (pI (Int32.ofInt (s : Int))), none] ∧ σ = zM (setRow G 180 g) U ∧ s ≤ sl) 12 (by omega) ⟨rfl, rfl, by omega⟩ ?_
  rintro s _ _ hs ⟨rfl, rfl, hss⟩
  have m0 := M_isSpanR (G := G) (U := U) (g := g) (s := s) (by omega) (hr _)
  rcases Nat.lt_or_ge s (sl) with hlt | hge
  · have := hbus s hlt
    rw [decide_eq_true this] at m0
    repeat' first | ((with_reducible apply wAstG); rfl) | ((with_reducible apply wAmdGA); rfl) | ((with_reducible apply wAmdGS); rfl) | with_reducible apply wAstO | with_reducible apply wSeq | with_reducible apply wSkip | with_reducible apply wAsI | ((with_reducible apply wInc); rfl) | with_reducible apply wRI | with_reducible apply wAst2 | with_reducible apply wAmdA2 | with_reducible apply wAmdS2 | with_reducible apply wB_e | (intro h; try simp only [Bool.and_eq_true, Bool.or_eq_true, Bool.not_eq_true', Bool.not_eq_false', Bool.and_eq_false_imp, Bool.or_eq_false_iff, decide_eq_true_eq, decide_eq_false_iff_not, Bool.not_true, Bool.not_false, Bool.true_eq_false, Bool.false_eq_true, Bool.not_not] at h) | with_reducible apply wN1 | with_reducible apply wN2 | with_reducible apply wN3 | with_reducible apply wN4 | with_reducible apply wN0 | with_reducible apply wE0 | with_reducible apply wXI | with_reducible apply wXB | with_reducible exact m0 | ((with_reducible apply eG); rfl) | with_reducible apply eArrO | with_reducible exact eK | ((with_reducible apply eL); rfl) | ((with_reducible apply eLR); rfl) | with_reducible exact eAN | with_reducible apply eAdd | with_reducible apply eMul | with_reducible apply eDiv | with_reducible apply eRem | with_reducible apply eArr2 | with_reducible apply eAI | with_reducible apply eAR | with_reducible apply eCI | with_reducible apply eCZ | with_reducible apply wRc | with_reducible exact ckv179 | with_reducible apply R_M_g | with_reducible exact N_M_g | with_reducible exact M_isSpan (by omega) (by assumption) | with_reducible exact m0 | with_reducible exact Int.toNat_natCast _ | with_reducible exact tn0 | with_reducible exact tn1 | with_reducible exact tn2 | with_reducible exact tn3 | with_reducible exact tn4 | with_reducible exact tn5 | with_reducible exact tn6 | with_reducible exact tn7 | with_reducible exact tn8 | with_reducible exact tn9 | with_reducible exact tn10 | with_reducible exact tn11 | with_reducible exact tn12 | with_reducible exact tn13 | with_reducible exact tn14 | with_reducible exact tn15 | with_reducible exact tn16 | with_reducible exact tnK0 | with_reducible exact tnK4 | with_reducible exact tnK8 | with_reducible exact tnK12 | with_reducible exact tnK16 | with_reducible exact tnK20 | with_reducible exact tnK24 | with_reducible exact tnK28 | with_reducible exact tnK32 | with_reducible exact tnJA | with_reducible exact tnA | with_reducible exact upR_s | ((with_reducible apply upR_a); (first | decide | omega)) | ((with_reducible apply upR_b); (first | decide | omega)) | with_reducible exact putR_s | ((with_reducible apply putR_o); (first | decide | omega)) | ((with_reducible apply jputR_lo); (first | decide | omega)) | ((with_reducible apply jputR_hi); omega; omega; omega) | exact Nat.le_of_ble_eq_true rfl | with_reducible assumption | with_reducible exact rfl | omega | with_reducible apply wAnd | decide +kernel
    exact ⟨rfl, rfl, by omega⟩
  · have e : s = sl := by omega
    subst e
    rw [decide_eq_false (by omega)] at m0
    obtain ⟨b, hb⟩ : ∃ b, b = 24 + sl * 6 := ⟨_, rfl⟩
    have eb : 24 + (sl : Int) * 6 = (b : Int) := by omega
    have hb2 : 24 ≤ b ∧ b ≤ 90 := by omega
    rw [← hb] at hR
    have e5 : 0 ≤ ab / 100 ∧ ab / 100 ≤ 2147483647 := by omega
    all_goals sorry
