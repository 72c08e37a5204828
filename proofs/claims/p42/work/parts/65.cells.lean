/-! ===== the cells behind a start, a promise ===== -/
theorem stA_cell {g F : Nat → Int} {j k w : Nat} (hw : w < 32) : ∀ i, i ≤ 4 → mAt (stA g j F i) k w = if k = j ∧ 20 ≤ w ∧ w < 20 + i then F (w - 20) else if k = j ∧ 24 ≤ w ∧ w < 24 + i then g 0 + min (mAt g j (w - 8)) (lastF g j (w - 24)) else mAt g k w
  | 0, _ => by rw [stA, if_neg (by omega), if_neg (by omega)]
  | i + 1, hi => by
    rw [stA, mAt_jput (by omega) hw, mAt_jput (by omega) hw, stA_cell hw i (by omega)]
    repeat' split
    all_goals first | rfl | (exfalso; omega) | (rw [show w - 20 = i by omega]) | (rw [show w - 8 = 16 + i by omega, show w - 24 = i by omega])
theorem starF_cell {g F : Nat → Int} {j n k w : Nat} (hj : j < 80) (hk : k < 80) (hw : w < 32) (hn : n ≤ 4) (h6 : 0 ≤ g 6 ∧ g 6 < 80) : mAt (starF g j n F) k w = if k = j ∧ w = 5 then 1 else if k = j ∧ w = 6 then g 0 else if k = j ∧ 20 ≤ w ∧ w < 20 + n then F (w - 20) else if k = j ∧ 24 ≤ w ∧ w < 24 + n then g 0 + min (mAt g j (w - 8)) (lastF g j (w - 24)) else mAt g k w := by
  unfold starF stJ
  have e0 : jput (jput g j 5 1) j 6 (g 0) 0 = g 0 := by rw [jput_lo (by omega), jput_lo (by omega)]
  have e1 : ∀ v, 12 ≤ v → v < 32 → mAt (jput (jput g j 5 1) j 6 (g 0)) j v = mAt g j v := fun v h1 h2 => by
    rw [mAt_jput (by omega) (by omega), if_neg (by omega), mAt_jput (by omega) (by omega), if_neg (by omega)]
  have e2 : ∀ a, a < 4 → lastF (jput (jput g j 5 1) j 6 (g 0)) j a = lastF g j a := fun a ha => by
    unfold lastF
    rw [e1 _ (by omega) (by omega), mAt_jput (by omega) (by omega), if_neg (by omega), mAt_jput (by omega) (by omega), if_neg (by omega)]
  rw [mAt_put (by omega) hk hw, mAt_put (by omega) hk hw, mAt_hapF hk hw, stA_cell hw n hn, mAt_jput (by omega) hw, mAt_jput (by omega) hw, e0]
  repeat' split
  all_goals first | rfl | (exfalso; omega) | (rw [e1 _ (by omega) (by omega), e2 _ (by omega)])
theorem starF_lo {g F : Nat → Int} {j n b : Nat} (h : b < 96) (h6 : b ≠ 6) (h7 : b ≠ 7) : starF g j n F b = g b := by
  unfold starF stJ
  rw [put_o h6, put_o (by omega), hapF_lo (by omega) h7, stA_lo h, jput_lo h, jput_lo h]
theorem starF_6 {g F : Nat → Int} {j n : Nat} : starF g j n F 6 = g 6 + 1 := by unfold starF; rw [put_at]
theorem prA_cell {g F : Nat → Int} {j k w : Nat} (hw : w < 32) : ∀ i, i ≤ 4 → mAt (prA g j F i) k w = if k = j ∧ 28 ≤ w ∧ w < 28 + i then F (w - 28) else mAt g k w
  | 0, _ => by rw [prA, if_neg (by omega)]
  | i + 1, hi => by
    rw [prA, mAt_jput (by omega) hw, prA_cell hw i (by omega)]
    repeat' split
    all_goals first | rfl | (exfalso; omega) | (rw [show w - 28 = i by omega])
theorem promF_cell {g F : Nat → Int} {j n k w : Nat} {t was : Int} (hk : k < 80) (hw : w < 32) (hn : n ≤ 4) : mAt (promF g j t n F was) k w = if k = j ∧ w = 9 then t else if k = j ∧ 28 ≤ w ∧ w < 28 + n then F (w - 28) else if k = j ∧ w = 8 ∧ mAt g j 8 < 0 then t else mAt g k w := by
  have e1 : mAt (promF g j t n F was) k w = mAt (prG g j t n F) k w := by
    unfold promF
    split
    · rfl
    · exact mAt_hapF hk hw
  have e2 : mAt (prA (jput g j 9 t) j F n) k w = if k = j ∧ 28 ≤ w ∧ w < 28 + n then F (w - 28) else if k = j ∧ w = 9 then t else mAt g k w := by
    rw [prA_cell hw n hn, mAt_jput (by omega) hw]
  rw [e1]
  unfold prG
  by_cases c : mAt g j 8 < 0
  · rw [if_pos c, mAt_jput (by omega) hw, e2]
    repeat' split
    all_goals first | rfl | (exfalso; omega)
  · rw [if_neg c, e2]
    repeat' split
    all_goals first | rfl | (exfalso; omega)
theorem promF_lo {g F : Nat → Int} {j n b : Nat} {t was : Int} (h : b < 96) (h7 : b ≠ 7) : promF g j t n F was b = g b := by
  have e : prG g j t n F b = g b := by
    unfold prG
    split
    · rw [jput_lo h, prA_lo h, jput_lo h]
    · rw [prA_lo h, jput_lo h]
  unfold promF
  split
  · exact e
  · rw [hapF_lo (by omega) h7]; exact e
theorem lastF_1 {g : Nat → Int} {j a : Nat} : 1 ≤ lastF g j a := by unfold lastF; omega
/-- what always holds of the reference's row -/
def disj (g : Nat → Int) : Prop := ∀ c j a j' a', hoC g c j a → hoC g c j' a' → j' = j ∧ a' = a
def runA (g : Nat → Int) : Prop := ∀ j, j < (g 1).toNat → mAt g j 5 = 1 → ∃ a, a < mArms g j ∧ g 0 < mAt g j (24 + a)
def staTo (g : Nat → Int) (n : Nat) : Int := sumTo (fun j => if decide (0 ≤ mAt g j 6) = true then 1 else 0) n
def rowI (g : Nat → Int) : Prop := rowOk g ∧ colOk g ∧ disj g ∧ runA g ∧ g 6 = staTo g (g 1).toNat
theorem holds_1 {g : Nat → Int} {j a : Nat} (h : mHolds g j a = true) : mAt g j 5 = 1 ∧ g 0 < mAt g j (24 + a) := by
  unfold mHolds at h
  simp only [Bool.and_eq_true, decide_eq_true_eq] at h
  exact h
theorem holds_2 {g : Nat → Int} {j a : Nat} (h : mAt g j 5 = 1 ∧ g 0 < mAt g j (24 + a)) : mHolds g j a = true := by
  unfold mHolds
  simp only [Bool.and_eq_true, decide_eq_true_eq]
  exact h
theorem holds_0 {g : Nat → Int} {j a : Nat} (h : mAt g j 5 ≠ 1) : mHolds g j a = false := by
  rw [← Bool.not_eq_true]
  intro h2
  exact h (holds_1 h2).1
/-- what is held now is not free -/
theorem ho_bz {g : Nat → Int} {c j a : Nat} {y acc : Int} (hrow : rowOk g) (h : hoC g c j a) : (bzG g (g 0) y acc).testBit c = true := by
  obtain ⟨h1, h2, h3, h4⟩ := h
  obtain ⟨-, -, -, -, -, -, -, -, -, -, -, w12, -, -⟩ := id hrow
  have hao := (w12 j h1).2.2.2.2.2.2.2.2.2.2.2.2.2.2.2 a h2
  obtain ⟨e5, e0⟩ := holds_1 h3
  have q5 := hao.2.2.2.2.1 e5
  unfold bzG
  rw [Nat.testBit_or, Bool.or_eq_true, orTo_test]
  left
  refine ⟨j, h1, byJob_test.mpr ⟨a, h2, Or.inl ⟨?_, h4⟩⟩⟩
  unfold cHeld
  rw [h3]
  simp only [Bool.and_eq_true, decide_eq_true_eq, Bool.not_eq_true', decide_eq_false_iff_not]
  exact ⟨⟨⟨trivial, by omega⟩, by omega⟩, by omega⟩
theorem hold_none {g : Nat → Int} {c : Nat} : holderF g c = -1 ↔ ∀ j a, ¬ hoC g c j a := by
  constructor
  · intro h j a hx
    have hjb : holdB g c j = true := anyTo_iff.mpr ⟨a, hx.2.1, by show (mHolds g j a && (mHeldBits g j a).testBit c) = true; rw [hx.2.2.1, hx.2.2.2]; rfl⟩
    have hl := leastTo_le (p := holdB g c) (g 1).toNat
    have hlt : leastTo (holdB g c) (g 1).toNat < (g 1).toNat := by
      by_cases c1 : leastTo (holdB g c) (g 1).toNat < (g 1).toNat
      · exact c1
      · have := leastTo_is (p := holdB g c) (g 1).toNat j (by have := hx.1; omega)
        rw [hjb] at this
        cases this
    unfold holderF at h
    rw [if_pos hlt] at h
    omega
  · intro h
    have e : leastTo (holdB g c) (g 1).toNat = (g 1).toNat := by
      refine leastTo_no _ fun i hi => ?_
      rw [← Bool.not_eq_true]
      intro h2
      obtain ⟨b, hb, hb2⟩ := anyTo_iff.mp h2
      simp only [Bool.and_eq_true] at hb2
      exact h i b ⟨hi, hb, hb2.1, hb2.2⟩
    unfold holderF
    rw [e, if_neg (Nat.lt_irrefl _)]
/-- what fits now is no wider than what nobody holds -/
theorem fit_idle {g : Nat → Int} {j : Nat} {s : Nat × (Nat → Int)} (hrow : rowOk g) (hj : j < (g 1).toNat) (h : gfitJ g j (g 0) = some s) : cnt16 s.1 = colsF g j ∧ colsF g j ≤ idleF g ∧ ∀ c j' a', s.1.testBit c = true → ¬ hoC g c j' a' := by
  obtain ⟨-, -, -, -, -, -, -, -, -, -, -, w12, -, -⟩ := id hrow
  have hjo := w12 j hj
  have hao := hjo.2.2.2.2.2.2.2.2.2.2.2.2.2.2.2
  have hw : ∀ a, a < mArms g j → 0 ≤ (cut 0 (mArms g j) fun a => mAt g j (12 + a)) a := fun a ha => by
    rw [cut_at ha]
    have := (hao a ha).1
    omega
  unfold gfitJ at h
  have h1 := gfit_all hw h
  have e1 : sumTo (cut 0 (mArms g j) fun a => mAt g j (12 + a)) (mArms g j) = colsF g j := by
    unfold colsF
    exact sumTo_congr fun a ha => cut_at ha
  have h2 : ∀ c j' a', s.1.testBit c = true → ¬ hoC g c j' a' := by
    intro c j' a' hc hx
    obtain ⟨a, ha, hb⟩ := (gfit_own (c := c) _ (Nat.le_refl _) s h).mp hc
    have hal := plW_bit _ (Nat.le_refl _) ha
    have := (gfit_free hw (c := c) _ (Nat.le_refl _) s h a ha hb).1
    rw [cut_at hal, ho_bz hrow hx] at this
    cases this
  refine ⟨h1.trans e1, ?_, h2⟩
  rw [← e1, ← h1]
  refine sumTo_le fun c _ => ?_
  try dsimp only
  by_cases hc : s.1.testBit c = true
  · rw [if_pos hc, if_pos (by rw [decide_eq_true_eq]; exact hold_none.mpr fun j' a' => h2 c j' a' hc)]
    exact Int.le_refl _
  · rw [if_neg hc]
    split <;> omega
