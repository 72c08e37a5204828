/-! ===== what lies on a board is what the reference asks of all ===== -/
def heRow (g : Nat → Int) (j a : Nat) : bR := (mHeldBits g j a, g 0, mAt g j 6 + mAt g j (16 + a), -1)
def spRow (g : Nat → Int) (s : Nat) : bR := (mSpanBits g s, mSpan g s 3, mSpan g s 4, mSpan g s 5)
def prRow (g : Nat → Int) (j a : Nat) : bR := (mPromBits g j a, mAt g j 9, mAt g j 9 + mAt g j (16 + a), -1)
def isHe (g : Nat → Int) (gA gB : Int) (r : bR) : Prop := ∃ j a : Nat, j < (g 1).toNat ∧ a < mArms g j ∧ mHolds g j a = true ∧ ¬ 4 * (j : Int) + a = gA ∧ ¬ 4 * (j : Int) + a = gB ∧ r = heRow g j a
def isSpR (g : Nat → Int) (r : bR) : Prop := ∃ s : Nat, s < 12 ∧ 0 ≤ mSpan g s 0 ∧ r = spRow g s
def isPr (g : Nat → Int) (sA sB : Int) (r : bR) : Prop := ∃ j a : Nat, j < (g 1).toNat ∧ a < mArms g j ∧ 0 ≤ mAt g j 9 ∧ ¬ (j : Int) = sA ∧ ¬ (j : Int) = sB ∧ r = prRow g j a
def isRow (g : Nat → Int) (gA gB sA sB : Int) (r : bR) : Prop := isHe g gA gB r ∨ isSpR g r ∨ isPr g sA sB r
theorem brN_test {l : List bR} {acc x y : Int} {c : Nat} : (brN l acc x y).testBit c = true ↔ ∃ r, r ∈ l ∧ brC r acc x y = true ∧ r.m.testBit c = true := by
  unfold brN
  rw [orTo_test]
  constructor
  · rintro ⟨i, hi, hb⟩
    unfold brM at hb
    rw [List.getElem?_eq_getElem hi] at hb
    simp only at hb
    refine ⟨_, List.getElem_mem hi, ?_⟩
    by_cases c : brC l[i] acc x y = true
    · rw [if_pos c] at hb; exact ⟨c, hb⟩
    · rw [if_neg c] at hb; simp at hb
  · rintro ⟨r, hr, hc, hb⟩
    obtain ⟨i, hi, he⟩ := List.mem_iff_getElem.mp hr
    refine ⟨i, hi, ?_⟩
    unfold brM
    rw [List.getElem?_eq_getElem hi, he]
    simp only [hc, if_true]
    exact hb
theorem ite_test {p : Bool} {m c : Nat} : (if p = true then m else 0).testBit c = true ↔ p = true ∧ m.testBit c = true := by
  cases p <;> simp
theorem byJob_test {g : Nat → Int} {x y gA gB sA sB : Int} {j c : Nat} : (byJob g x y gA gB sA sB j).testBit c = true ↔ ∃ a, a < mArms g j ∧ ((cHeld g x gA gB j a = true ∧ (mHeldBits g j a).testBit c = true) ∨ (cProm g x y sA sB j a = true ∧ (mPromBits g j a).testBit c = true)) := by
  unfold byJob
  rw [orTo_test]
  unfold byArm
  simp only [Nat.testBit_or, Bool.or_eq_true, ite_test]
theorem rows_busy {l : List bR} {g : Nat → Int} {gA gB sA sB acc acc' x y : Int} (hrow : rowOk g) (hl : ∀ r, r ∈ l ↔ isRow g gA gB sA sB r) (hx : g 0 ≤ x) (hy : 1 ≤ y) (ha : (acc' = acc ∧ 0 ≤ acc) ∨ (acc = -1 ∧ acc' = -2)) : brN l acc x y = orTo (byJob g x (x + y) gA gB sA sB) (g 1).toNat ||| orTo (bySpan g x (x + y) acc') 12 := by
  obtain ⟨-, -, -, -, -, -, -, -, -, -, -, w12, w13, -⟩ := hrow
  apply Nat.eq_of_testBit_eq
  intro c
  rw [Bool.eq_iff_iff, brN_test, Nat.testBit_or, Bool.or_eq_true, orTo_test, orTo_test]
  constructor
  · rintro ⟨r, hr, hc, hb⟩
    unfold brC at hc
    simp only [Bool.and_eq_true, Bool.or_eq_true, decide_eq_true_eq, Bool.not_eq_true', decide_eq_false_iff_not] at hc
    obtain ⟨⟨c1, c2⟩, c3⟩ := hc
    rcases (hl r).mp hr with ⟨j, a, h1, h2, h3, h4, h5, rfl⟩ | ⟨s, h1, h2, rfl⟩ | ⟨j, a, h1, h2, h3, h4, h5, rfl⟩
    · left
      refine ⟨j, h1, byJob_test.mpr ⟨a, h2, Or.inl ⟨?_, hb⟩⟩⟩
      unfold cHeld
      have c1' : x < mAt g j 6 + mAt g j (16 + a) := c1
      simp [h3, h4, h5, c1']
    · right
      refine ⟨s, h1, ?_⟩
      unfold bySpan
      rw [ite_test]
      refine ⟨?_, hb⟩
      have c1' : x < mSpan g s 4 := c1
      have c2' : mSpan g s 3 - x < y := c2
      have c3' : acc = -1 ∨ ¬ mSpan g s 5 = acc := c3
      have h6 := (w13 s h1).2 h2
      simp only [Bool.and_eq_true, decide_eq_true_eq, Bool.not_eq_true', decide_eq_false_iff_not]
      omega
    · left
      refine ⟨j, h1, byJob_test.mpr ⟨a, h2, Or.inr ⟨?_, hb⟩⟩⟩
      unfold cProm
      have c1' : x < mAt g j 9 + mAt g j (16 + a) := c1
      have c2' : mAt g j 9 - x < y := c2
      simp only [Bool.and_eq_true, decide_eq_true_eq, Bool.not_eq_true', decide_eq_false_iff_not]
      omega
  · rintro (⟨j, hj, hb⟩ | ⟨s, hs, hb⟩)
    · obtain ⟨a, ha2, hb⟩ := byJob_test.mp hb
      rcases hb with ⟨hc, hb⟩ | ⟨hc, hb⟩
      · unfold cHeld at hc
        simp only [Bool.and_eq_true, decide_eq_true_eq, Bool.not_eq_true', decide_eq_false_iff_not] at hc
        refine ⟨heRow g j a, (hl _).mpr (Or.inl ⟨j, a, hj, ha2, hc.1.1.1, hc.1.2, hc.2, rfl⟩), ?_, hb⟩
        unfold brC
        have e1 : (heRow g j a).t = mAt g j 6 + mAt g j (16 + a) := rfl
        have e2 : (heRow g j a).f = g 0 := rfl
        have e3 : (heRow g j a).a = -1 := rfl
        rw [e1, e2, e3]
        simp only [Bool.and_eq_true, Bool.or_eq_true, decide_eq_true_eq, Bool.not_eq_true', decide_eq_false_iff_not]
        omega
      · unfold cProm at hc
        simp only [Bool.and_eq_true, decide_eq_true_eq, Bool.not_eq_true', decide_eq_false_iff_not] at hc
        refine ⟨prRow g j a, (hl _).mpr (Or.inr (Or.inr ⟨j, a, hj, ha2, hc.1.1.1.1, hc.1.1.1.2, hc.1.1.2, rfl⟩)), ?_, hb⟩
        unfold brC
        have e1 : (prRow g j a).t = mAt g j 9 + mAt g j (16 + a) := rfl
        have e2 : (prRow g j a).f = mAt g j 9 := rfl
        have e3 : (prRow g j a).a = -1 := rfl
        rw [e1, e2, e3]
        simp only [Bool.and_eq_true, Bool.or_eq_true, decide_eq_true_eq, Bool.not_eq_true', decide_eq_false_iff_not]
        omega
    · unfold bySpan at hb
      rw [ite_test] at hb
      obtain ⟨hc, hb⟩ := hb
      simp only [Bool.and_eq_true, decide_eq_true_eq, Bool.not_eq_true', decide_eq_false_iff_not] at hc
      refine ⟨spRow g s, (hl _).mpr (Or.inr (Or.inl ⟨s, hs, hc.1.1.1, rfl⟩)), ?_, hb⟩
      unfold brC
      have e1 : (spRow g s).t = mSpan g s 4 := rfl
      have e2 : (spRow g s).f = mSpan g s 3 := rfl
      have e3 : (spRow g s).a = mSpan g s 5 := rfl
      rw [e1, e2, e3]
      have h6 := (w13 s hs).2 hc.1.1.1
      simp only [Bool.and_eq_true, Bool.or_eq_true, decide_eq_true_eq, Bool.not_eq_true', decide_eq_false_iff_not]
      omega
theorem rows_bz {l : List bR} {g : Nat → Int} {acc x y : Int} (hrow : rowOk g) (hl : ∀ r, r ∈ l ↔ isRow g (-1) (-1) (-1) (-1) r) (hx : g 0 ≤ x) (hy : 1 ≤ y) (ha : 0 ≤ acc) : brN l acc x y = bzG g x (x + y) acc := rows_busy hrow hl hx hy (Or.inl ⟨rfl, ha⟩)
/-- a gang on a board finds what the reference finds -/
theorem gfit_rows {l : List bR} {g : Nat → Int} {j : Nat} {x : Int} (hrow : rowOk g) (hl : ∀ r, r ∈ l ↔ isRow g (-1) (-1) (-1) (-1) r) (hj : j < (g 1).toNat) (hx : g 0 ≤ x) : gfit (mArms g j) (cut 0 (mArms g j) fun a => mAt g j (12 + a)) (cut 0 (mArms g j) fun a => brN l (mAt g j 0) x (mAt g j (16 + a))) (mArms g j) = gfitJ g j x := by
  obtain ⟨-, -, -, -, -, -, -, -, -, -, -, w12, -, -⟩ := id hrow
  have hjo := w12 j hj
  unfold gfitJ
  rw [show (cut 0 (mArms g j) fun a => brN l (mAt g j 0) x (mAt g j (16 + a))) = (cut 0 (mArms g j) fun a => bzG g x (x + mAt g j (16 + a)) (mAt g j 0)) from cut_eq fun a ha => rows_bz hrow hl hx (by have := (hjo.2.2.2.2.2.2.2.2.2.2.2.2.2.2.2 a ha).2.1; omega) hjo.1.1]
