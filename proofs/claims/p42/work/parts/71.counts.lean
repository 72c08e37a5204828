/-! ===== counting columns ===== -/
theorem sumTo_swap {f : Nat → Nat → Int} {m : Nat} : ∀ n, sumTo (fun i => sumTo (fun c => f i c) m) n = sumTo (fun c => sumTo (fun i => f i c) n) m
  | 0 => by
    show (0 : Int) = sumTo (fun c => sumTo (fun i => f i c) 0) m
    exact (sumTo_zero (f := fun c => sumTo (fun i => f i c) 0) (fun _ _ => rfl)).symm
  | n + 1 => by
    rw [sumTo, sumTo_swap n]
    exact (sumTo_add (fun c _ => rfl)).symm
theorem sumTo_one {f : Nat → Int} {z : Nat} {x : Int} : ∀ {n : Nat}, (∀ i, i < n → f i = if i = z then x else 0) → sumTo f n = if z < n then x else 0
  | 0, _ => rfl
  | n + 1, h => by
    rw [sumTo, sumTo_one (fun i hi => h i (by omega)), h n (by omega)]
    by_cases c : n = z
    · rw [if_pos c, if_neg (by omega), if_pos (by omega)]; omega
    · rw [if_neg c]
      by_cases c2 : z < n
      · rw [if_pos c2, if_pos (by omega)]; omega
      · rw [if_neg c2, if_neg (by omega)]; rfl
/-- whether the holder of a column is an account's -/
def hoAcc (g : Nat → Int) (acc : Int) (c : Nat) : Bool := decide (0 ≤ holderF g c) && decide (mAt g (holderF g c).toNat 0 = acc)
def heldTo (g : Nat → Int) (acc : Int) (n : Nat) : Int := sumTo (fun c => if hoAcc g acc c = true then 1 else 0) n
theorem heldArm_is {g : Nat → Int} {acc : Int} {j a : Nat} (hrow : rowOk g) (hj : j < (g 1).toNat) (ha : a < mArms g j) : heldArm g acc j a = sumTo (fun c => if (decide (mAt g j 0 = acc) && mHolds g j a && (mHeldBits g j a).testBit c) = true then 1 else 0) 16 := by
  unfold heldArm
  by_cases h : (decide (mAt g j 0 = acc) && mHolds g j a) = true
  · rw [if_pos h]
    simp only [Bool.and_eq_true] at h
    obtain ⟨r1, r2, r3, r4, r5⟩ := he_ok hrow hj ha h.2
    have e : sumTo (fun c => if (decide (mAt g j 0 = acc) && mHolds g j a && (mHeldBits g j a).testBit c) = true then (1 : Int) else 0) 16 = cnt16 (mHeldBits g j a) := by
      unfold cnt16
      exact sumTo_congr fun c _ => by rw [h.1, h.2]; simp
    rw [e]
    unfold mHeldBits
    rw [cnt16_bits (by omega)]
    omega
  · rw [if_neg h]
    exact (sumTo_zero fun c _ => by rw [if_neg]; simp only [Bool.and_eq_true] at h ⊢; intro h2; exact h h2.1).symm
theorem heldF_is {g : Nat → Int} {acc : Int} (hrow : rowOk g) (hd : disj g) : heldF g acc = heldTo g acc 16 := by
  unfold heldF heldTo
  have e1 : sumTo (fun j => sumTo (heldArm g acc j) (mArms g j)) (g 1).toNat = sumTo (fun j => sumTo (fun c => sumTo (fun a => if (decide (mAt g j 0 = acc) && mHolds g j a && (mHeldBits g j a).testBit c) = true then (1 : Int) else 0) (mArms g j)) 16) (g 1).toNat := by
    refine sumTo_congr fun j hj => ?_
    rw [← sumTo_swap]
    exact sumTo_congr fun a ha => heldArm_is hrow hj ha
  rw [e1, sumTo_swap]
  refine sumTo_congr fun c hc => ?_
  rcases hold_cases (c := c) hd with ⟨j, a, hx, hh⟩ | ⟨hx, hh⟩
  · have q : ∀ i b, i < (g 1).toNat → b < mArms g i → (decide (mAt g i 0 = acc) && mHolds g i b && (mHeldBits g i b).testBit c) = true → i = j ∧ b = a ∧ mAt g j 0 = acc := by
      intro i b hi hb h
      simp only [Bool.and_eq_true, decide_eq_true_eq] at h
      have := hd c j a i b hx ⟨hi, hb, h.1.2, h.2⟩
      refine ⟨this.1, this.2, ?_⟩
      rw [← this.1]
      exact h.1.1
    have e2 : sumTo (fun i => sumTo (fun b => if (decide (mAt g i 0 = acc) && mHolds g i b && (mHeldBits g i b).testBit c) = true then (1 : Int) else 0) (mArms g i)) (g 1).toNat = if j < (g 1).toNat then (if mAt g j 0 = acc then 1 else 0) else 0 := by
      refine sumTo_one fun i hi => ?_
      by_cases c1 : i = j
      · subst c1
        rw [if_pos rfl]
        have : sumTo (fun b => if (decide (mAt g i 0 = acc) && mHolds g i b && (mHeldBits g i b).testBit c) = true then (1 : Int) else 0) (mArms g i) = if a < mArms g i then (if mAt g i 0 = acc then 1 else 0) else 0 := by
          refine sumTo_one fun b hb => ?_
          by_cases c2 : b = a
          · subst c2
            rw [if_pos rfl]
            by_cases c3 : mAt g i 0 = acc
            · rw [if_pos c3, if_pos]
              rw [hx.2.2.1, hx.2.2.2]
              simp [c3]
            · rw [if_neg c3, if_neg]
              simp [c3]
          · rw [if_neg c2, if_neg]
            intro h
            exact c2 (q i b hi hb h).2.1
        rw [this, if_pos hx.2.1]
      · rw [if_neg c1]
        refine sumTo_zero fun b hb => ?_
        rw [if_neg]
        intro h
        exact c1 (q i b hi hb h).1
    rw [e2, if_pos hx.1]
    unfold hoAcc
    rw [hh, Int.toNat_natCast]
    simp
  · rw [sumTo_zero]
    · unfold hoAcc
      rw [hh]
      rfl
    · intro i hi
      refine sumTo_zero fun b hb => ?_
      rw [if_neg]
      intro h
      simp only [Bool.and_eq_true] at h
      exact hx i b ⟨hi, hb, h.1.2, h.2⟩
theorem heldTo_rg {g : Nat → Int} {acc : Int} {n : Nat} : 0 ≤ heldTo g acc n ∧ heldTo g acc n ≤ n := by
  have := sumTo_rg (f := fun c => if hoAcc g acc c = true then (1 : Int) else 0) (c := 1) (n := n) (fun i _ => by (try dsimp only); split <;> omega)
  unfold heldTo
  omega
/-! who holds what behind a start -/
theorem star_hold {g : Nat → Int} {j c : Nat} {f : Nat × (Nat → Int)} (hI : rowI g) (hj : j < (g 1).toNat) (h5 : mAt g j 5 = 0) (h9 : mAt g j 9 < 0) (hf : gfitJ g j (g 0) = some f) : holderF (starF g j (mArms g j) f.2) c = if f.1.testBit c = true then (j : Int) else holderF g c := by
  have hI' := star_row hI hj h5 h9 hf
  have hrow := hI.1
  have hjo := row_j hrow hj
  have h6 := row_6 hI hj (by have := hjo.2.2.2.2.2.2.2.2.2.2.2.2.1 h5; omega)
  have hb := fit_bits (c := c) hrow hj hf
  have hfi := (fit_idle hrow hj hf).2.2 c
  by_cases h : f.1.testBit c = true
  · rw [if_pos h]
    obtain ⟨a, ha, h2⟩ := hb.1.mp h
    exact hold_eq hI'.2.2.1 ((star_ho hrow hj h6).mpr (Or.inr ⟨rfl, ha, h2⟩))
  · rw [if_neg h]
    have e : ∀ x a, hoC (starF g j (mArms g j) f.2) c x a ↔ hoC g c x a := fun x a => by
      rw [star_ho hrow hj h6]
      constructor
      · rintro (⟨_, h2⟩ | ⟨_, h2, h3⟩)
        · exact h2
        · exact absurd (hb.1.mpr ⟨a, h2, h3⟩) h
      · intro h2
        refine Or.inl ⟨fun e => ?_, h2⟩
        subst e
        have := (holds_1 h2.2.2.1).1
        omega
    exact hold_same hI.2.2.1 hI'.2.2.1 e
theorem star_idle {g : Nat → Int} {j : Nat} {f : Nat × (Nat → Int)} (hI : rowI g) (hj : j < (g 1).toNat) (h5 : mAt g j 5 = 0) (h9 : mAt g j 9 < 0) (hf : gfitJ g j (g 0) = some f) : idleF (starF g j (mArms g j) f.2) = idleF g - colsF g j := by
  have hfi := fit_idle hI.1 hj hf
  have : idleF g = idleF (starF g j (mArms g j) f.2) + cnt16 f.1 := by
    unfold idleF cnt16
    refine sumTo_add fun c _ => ?_
    (try dsimp only)
    rw [star_hold hI hj h5 h9 hf]
    by_cases h : f.1.testBit c = true
    · rw [if_pos h, if_pos h, if_pos (by rw [decide_eq_true_eq]; exact hold_none.mpr fun x a => hfi.2.2 c x a h), if_neg (by rw [decide_eq_true_eq]; omega)]
      rfl
    · rw [if_neg h, if_neg h]
      omega
  rw [← hfi.1]
  omega
theorem star_held {g : Nat → Int} {j : Nat} {acc : Int} {f : Nat × (Nat → Int)} (hI : rowI g) (hj : j < (g 1).toNat) (h5 : mAt g j 5 = 0) (h9 : mAt g j 9 < 0) (hf : gfitJ g j (g 0) = some f) : heldF (starF g j (mArms g j) f.2) acc = if acc = mAt g j 0 then heldF g acc + colsF g j else heldF g acc := by
  have hI' := star_row hI hj h5 h9 hf
  have hrow := hI.1
  have hjo := row_j hrow hj
  have hn := row_n hrow hj
  have h4 := jo_4 hjo
  have h6 := row_6 hI hj (by have := hjo.2.2.2.2.2.2.2.2.2.2.2.2.1 h5; omega)
  have q6 : 0 ≤ g 6 ∧ g 6 < 80 := ⟨hrow.2.2.2.2.2.2.2.1.1, h6⟩
  have hfi := fit_idle hI.1 hj hf
  rw [heldF_is hI'.1 hI'.2.2.1, heldF_is hrow hI.2.2.1]
  have e0 : ∀ x, x < 80 → mAt (starF g j (mArms g j) f.2) x 0 = mAt g x 0 := fun x hx => star_at hn hx (by omega) h4.2.1 q6 (by omega)
  have hlt : ∀ c, 0 ≤ holderF g c → (holderF g c).toNat < 80 := fun c h => by
    have h1 := holderF_rg (g := g) (c := c)
    have h2 := hrow.2.2.1
    rw [if_pos h2.1] at h1
    omega
  unfold heldTo
  by_cases ha : acc = mAt g j 0
  · rw [if_pos ha, ← hfi.1]
    unfold cnt16
    refine sumTo_add fun c _ => ?_
    (try dsimp only)
    unfold hoAcc
    rw [star_hold hI hj h5 h9 hf]
    by_cases h : f.1.testBit c = true
    · rw [if_pos h, if_pos h, hold_none.mpr fun x a => hfi.2.2 c x a h, Int.toNat_natCast, e0 j hn]
      simp [ha]
    · rw [if_neg h, if_neg h]
      by_cases h0 : 0 ≤ holderF g c
      · rw [e0 _ (hlt c h0)]
        omega
      · simp [h0]
  · rw [if_neg ha]
    refine sumTo_congr fun c _ => ?_
    unfold hoAcc
    rw [star_hold hI hj h5 h9 hf]
    by_cases h : f.1.testBit c = true
    · rw [if_pos h, hold_none.mpr fun x a => hfi.2.2 c x a h, Int.toNat_natCast, e0 j hn]
      have hb2 : ¬ mAt g j 0 = acc := fun h => ha h.symm
      simp [hb2]
    · rw [if_neg h]
      by_cases h0 : 0 ≤ holderF g c
      · rw [e0 _ (hlt c h0)]
      · simp [h0]
/-- what stays as it is when nobody starts or ends -/
theorem same_hold {g g' : Nat → Int} (hd : disj g) (hd' : disj g') (h : ∀ c j a, hoC g' c j a ↔ hoC g c j a) : idleF g' = idleF g := by
  unfold idleF
  exact sumTo_congr fun c _ => by rw [hold_same hd hd' (h c)]
theorem same_held {g g' : Nat → Int} {acc : Int} (hI : rowI g) (hI' : rowI g') (h0 : ∀ j, j < 80 → mAt g' j 0 = mAt g j 0) (h : ∀ c j a, hoC g' c j a ↔ hoC g c j a) : heldF g' acc = heldF g acc := by
  rw [heldF_is hI'.1 hI'.2.2.1, heldF_is hI.1 hI.2.2.1]
  unfold heldTo
  refine sumTo_congr fun c _ => ?_
  unfold hoAcc
  rw [hold_same hI.2.2.1 hI'.2.2.1 (h c)]
  by_cases c0 : 0 ≤ holderF g c
  · have h1 := holderF_rg (g := g) (c := c)
    have h2 := hI.1.2.2.1
    rw [if_pos h2.1] at h1
    rw [h0 _ (by omega)]
  · simp [c0]
theorem prom_ho {g F : Nat → Int} {j c x a : Nat} {t was : Int} (hrow : rowOk g) (hj : j < (g 1).toNat) : hoC (promF g j t (mArms g j) F was) c x a ↔ hoC g c x a := by
  have h4 := jo_4 (row_j hrow hj)
  have e1 : promF g j t (mArms g j) F was 1 = g 1 := promF_lo (by omega) (by omega)
  by_cases hx : x < (g 1).toNat
  · exact hoC_congr (promF_lo (by omega) (by omega)) e1 (jo_4 (row_j hrow hx)).2.1 fun w hw => prom_o (row_n hrow hx) (by omega) h4.2.1 (by omega)
  · constructor
    · rintro ⟨h, _⟩; rw [e1] at h; exact absurd h hx
    · rintro ⟨h, _⟩; exact absurd h hx
theorem prom_0 {g F : Nat → Int} {j x : Nat} {t was : Int} (hrow : rowOk g) (hj : j < (g 1).toNat) (hx : x < 80) : mAt (promF g j t (mArms g j) F was) x 0 = mAt g x 0 := prom_o hx (by omega) (jo_4 (row_j hrow hj)).2.1 (by omega)
theorem p0_ho {g : Nat → Int} {c x a : Nat} (hrow : rowOk g) : hoC (p0G g) c x a ↔ hoC g c x a := by
  have e1 : p0G g 1 = g 1 := p0_lo (by omega)
  by_cases hx : x < (g 1).toNat
  · exact hoC_congr (p0_lo (by omega)) e1 (jo_4 (row_j hrow hx)).2.1 fun w hw => p0_at (by omega) (by omega)
  · constructor
    · rintro ⟨h, _⟩; rw [e1] at h; exact absurd h hx
    · rintro ⟨h, _⟩; exact absurd h hx
/-! what lies on a board behind a start, a promise -/
theorem star_rows {g : Nat → Int} {j : Nat} {f : Nat × (Nat → Int)} {r : bR} (hI : rowI g) (hj : j < (g 1).toNat) (h5 : mAt g j 5 = 0) (h9 : mAt g j 9 < 0) (hf : gfitJ g j (g 0) = some f) : isRow (starF g j (mArms g j) f.2) (-1) (-1) (-1) (-1) r ↔ isRow g (-1) (-1) (-1) (-1) r ∨ ∃ a, a < mArms g j ∧ r = (bitsN (f.2 a).toNat (mAt g j (12 + a)).toNat, g 0, g 0 + mAt g j (16 + a), -1) := by
  have hrow := hI.1
  have hjo := row_j hrow hj
  have hn := row_n hrow hj
  have h4 := jo_4 hjo
  have h6 := row_6 hI hj (by have := hjo.2.2.2.2.2.2.2.2.2.2.2.2.1 h5; omega)
  have q6 : 0 ≤ g 6 ∧ g 6 < 80 := ⟨hrow.2.2.2.2.2.2.2.1.1, h6⟩
  have lo := fun b (h : b < 96) (h6 : b ≠ 6) (h7 : b ≠ 7) => starF_lo (g := g) (F := f.2) (j := j) (n := mArms g j) (b := b) h h6 h7
  have e0 := lo 0 (by omega) (by omega) (by omega)
  have e1 := lo 1 (by omega) (by omega) (by omega)
  have at_ := fun x w (hx : x < (g 1).toNat) (hw : w < 32) h => star_at (g := g) (F := f.2) (j := j) (n := mArms g j) (k := x) (w := w) hn (row_n hrow hx) hw h4.2.1 q6 h
  have em : ∀ x, x < (g 1).toNat → mArms (starF g j (mArms g j) f.2) x = mArms g x := fun x hx => by
    show (mAt _ x 4).toNat = _
    rw [at_ x 4 hx (by omega) (by omega)]
    rfl
  have a4 : ∀ x, x < (g 1).toNat → mArms g x ≤ 4 := fun x hx => (jo_4 (row_j hrow hx)).2.1
  -- rows of held arms
  have hh : ∀ x a, x < (g 1).toNat → a < mArms g x → x ≠ j → mHolds (starF g j (mArms g j) f.2) x a = mHolds g x a ∧ heRow (starF g j (mArms g j) f.2) x a = heRow g x a := fun x a hx ha hne => by
    have := a4 x hx
    refine ⟨?_, ?_⟩
    · unfold mHolds
      rw [at_ x 5 hx (by omega) (Or.inl hne), at_ x (24 + a) hx (by omega) (Or.inl hne), e0]
    · unfold heRow mHeldBits
      rw [at_ x 6 hx (by omega) (Or.inl hne), at_ x (20 + a) hx (by omega) (Or.inl hne), at_ x (12 + a) hx (by omega) (Or.inl hne), at_ x (16 + a) hx (by omega) (Or.inl hne), e0]
  have hjr : ∀ a, a < mArms g j → heRow (starF g j (mArms g j) f.2) j a = (bitsN (f.2 a).toNat (mAt g j (12 + a)).toNat, g 0, g 0 + mAt g j (16 + a), -1) := fun a ha => by
    unfold heRow mHeldBits
    rw [star_6 hn h4.2.1 q6, star_c hn h4.2.1 q6 ha, at_ j (12 + a) hj (by omega) (by omega), at_ j (16 + a) hj (by omega) (by omega), e0]
  have hjh : ∀ a, a < mArms g j → mHolds (starF g j (mArms g j) f.2) j a = true := fun a ha => holds_2 ⟨star_5 hn h4.2.1 q6, by
    rw [star_e hn h4.2.1 q6 ha, e0]
    have := (jo_a hjo ha).2.1
    have := lastF_1 (g := g) (j := j) (a := a)
    omega⟩
  have es : ∀ s w, s < 12 → w < 6 → mSpan (starF g j (mArms g j) f.2) s w = mSpan g s w := fun s w hs hw => lo _ (by omega) (by omega) (by omega)
  have hsr : ∀ s, s < 12 → spRow (starF g j (mArms g j) f.2) s = spRow g s := fun s hs => by
    unfold spRow mSpanBits
    rw [es s 1 hs (by omega), es s 2 hs (by omega), es s 3 hs (by omega), es s 4 hs (by omega), es s 5 hs (by omega)]
  have hpr : ∀ x a, x < (g 1).toNat → a < mArms g x → prRow (starF g j (mArms g j) f.2) x a = prRow g x a := fun x a hx ha => by
    have := a4 x hx
    unfold prRow mPromBits
    rw [at_ x 9 hx (by omega) (by omega), at_ x (28 + a) hx (by omega) (by omega), at_ x (12 + a) hx (by omega) (by omega), at_ x (16 + a) hx (by omega) (by omega)]
  unfold isRow isHe isSpR isPr
  rw [e1]
  constructor
  · rintro (⟨x, a, q1, q2, q3, q4, q5, q7⟩ | ⟨s, q1, q2, q3⟩ | ⟨x, a, q1, q2, q3, q4, q5, q6⟩)
    · rw [em x q1] at q2
      by_cases e : x = j
      · subst e
        exact Or.inr ⟨a, q2, by rw [q7, hjr a q2]⟩
      · rw [(hh x a q1 q2 e).1] at q3
        exact Or.inl (Or.inl ⟨x, a, q1, q2, q3, q4, q5, by rw [q7, (hh x a q1 q2 e).2]⟩)
    · rw [es s 0 q1 (by omega)] at q2
      exact Or.inl (Or.inr (Or.inl ⟨s, q1, q2, by rw [q3, hsr s q1]⟩))
    · rw [em x q1] at q2
      rw [at_ x 9 q1 (by omega) (by omega)] at q3
      exact Or.inl (Or.inr (Or.inr ⟨x, a, q1, q2, q3, q4, q5, by rw [q6, hpr x a q1 q2]⟩))
  · rintro ((⟨x, a, q1, q2, q3, q4, q5, q7⟩ | ⟨s, q1, q2, q3⟩ | ⟨x, a, q1, q2, q3, q4, q5, q6⟩) | ⟨a, q1, q2⟩)
    · have e : x ≠ j := fun e => by
        subst e
        have := (holds_1 q3).1
        omega
      exact Or.inl ⟨x, a, q1, by rw [em x q1]; exact q2, by rw [(hh x a q1 q2 e).1]; exact q3, q4, q5, by rw [q7, (hh x a q1 q2 e).2]⟩
    · exact Or.inr (Or.inl ⟨s, q1, by rw [es s 0 q1 (by omega)]; exact q2, by rw [q3, hsr s q1]⟩)
    · exact Or.inr (Or.inr ⟨x, a, q1, by rw [em x q1]; exact q2, by rw [at_ x 9 q1 (by omega) (by omega)]; exact q3, q4, q5, by rw [q6, hpr x a q1 q2]⟩)
    · exact Or.inl ⟨j, a, hj, by rw [em j hj]; exact q1, hjh a q1, by omega, by omega, by rw [q2, hjr a q1]⟩
theorem prom_rows {g : Nat → Int} {j : Nat} {t was : Int} {f : Nat × (Nat → Int)} {r : bR} (hI : rowI g) (hj : j < (g 1).toNat) (h9 : mAt g j 9 < 0) (ht : 0 ≤ t) : isRow (promF g j t (mArms g j) f.2 was) (-1) (-1) (-1) (-1) r ↔ isRow g (-1) (-1) (-1) (-1) r ∨ ∃ a, a < mArms g j ∧ r = (bitsN (f.2 a).toNat (mAt g j (12 + a)).toNat, t, t + mAt g j (16 + a), -1) := by
  have hrow := hI.1
  have hjo := row_j hrow hj
  have hn := row_n hrow hj
  have h4 := jo_4 hjo
  have lo := fun b (h : b < 96) (h7 : b ≠ 7) => promF_lo (g := g) (F := f.2) (j := j) (n := mArms g j) (b := b) (t := t) (was := was) h h7
  have e0 := lo 0 (by omega) (by omega)
  have e1 := lo 1 (by omega) (by omega)
  have at_ := fun x w (hx : x < (g 1).toNat) (hw : w < 32) h => prom_o (g := g) (F := f.2) (j := j) (n := mArms g j) (k := x) (w := w) (t := t) (was := was) (row_n hrow hx) hw h4.2.1 h
  have em : ∀ x, x < (g 1).toNat → mArms (promF g j t (mArms g j) f.2 was) x = mArms g x := fun x hx => by
    show (mAt _ x 4).toNat = _
    rw [at_ x 4 hx (by omega) (by omega)]
    rfl
  have a4 : ∀ x, x < (g 1).toNat → mArms g x ≤ 4 := fun x hx => (jo_4 (row_j hrow hx)).2.1
  have hh : ∀ x a, x < (g 1).toNat → a < mArms g x → mHolds (promF g j t (mArms g j) f.2 was) x a = mHolds g x a ∧ heRow (promF g j t (mArms g j) f.2 was) x a = heRow g x a := fun x a hx ha => by
    have := a4 x hx
    refine ⟨?_, ?_⟩
    · unfold mHolds
      rw [at_ x 5 hx (by omega) (by omega), at_ x (24 + a) hx (by omega) (by omega), e0]
    · unfold heRow mHeldBits
      rw [at_ x 6 hx (by omega) (by omega), at_ x (20 + a) hx (by omega) (by omega), at_ x (12 + a) hx (by omega) (by omega), at_ x (16 + a) hx (by omega) (by omega), e0]
  have es : ∀ s w, s < 12 → w < 6 → mSpan (promF g j t (mArms g j) f.2 was) s w = mSpan g s w := fun s w hs hw => lo _ (by omega) (by omega)
  have hsr : ∀ s, s < 12 → spRow (promF g j t (mArms g j) f.2 was) s = spRow g s := fun s hs => by
    unfold spRow mSpanBits
    rw [es s 1 hs (by omega), es s 2 hs (by omega), es s 3 hs (by omega), es s 4 hs (by omega), es s 5 hs (by omega)]
  have hpr : ∀ x a, x < (g 1).toNat → a < mArms g x → x ≠ j → prRow (promF g j t (mArms g j) f.2 was) x a = prRow g x a := fun x a hx ha hne => by
    have := a4 x hx
    unfold prRow mPromBits
    rw [at_ x 9 hx (by omega) (Or.inl hne), at_ x (28 + a) hx (by omega) (Or.inl hne), at_ x (12 + a) hx (by omega) (by omega), at_ x (16 + a) hx (by omega) (by omega)]
  have hpj : ∀ a, a < mArms g j → prRow (promF g j t (mArms g j) f.2 was) j a = (bitsN (f.2 a).toNat (mAt g j (12 + a)).toNat, t, t + mAt g j (16 + a), -1) := fun a ha => by
    unfold prRow mPromBits
    rw [prom_9 hn h4.2.1, prom_28 hn h4.2.1 ha, at_ j (12 + a) hj (by omega) (by omega), at_ j (16 + a) hj (by omega) (by omega)]
  unfold isRow isHe isSpR isPr
  rw [e1]
  constructor
  · rintro (⟨x, a, q1, q2, q3, q4, q5, q7⟩ | ⟨s, q1, q2, q3⟩ | ⟨x, a, q1, q2, q3, q4, q5, q6⟩)
    · rw [em x q1] at q2
      rw [(hh x a q1 q2).1] at q3
      exact Or.inl (Or.inl ⟨x, a, q1, q2, q3, q4, q5, by rw [q7, (hh x a q1 q2).2]⟩)
    · rw [es s 0 q1 (by omega)] at q2
      exact Or.inl (Or.inr (Or.inl ⟨s, q1, q2, by rw [q3, hsr s q1]⟩))
    · rw [em x q1] at q2
      by_cases e : x = j
      · subst e
        exact Or.inr ⟨a, q2, by rw [q6, hpj a q2]⟩
      · rw [at_ x 9 q1 (by omega) (Or.inl e)] at q3
        exact Or.inl (Or.inr (Or.inr ⟨x, a, q1, q2, q3, q4, q5, by rw [q6, hpr x a q1 q2 e]⟩))
  · rintro ((⟨x, a, q1, q2, q3, q4, q5, q7⟩ | ⟨s, q1, q2, q3⟩ | ⟨x, a, q1, q2, q3, q4, q5, q6⟩) | ⟨a, q1, q2⟩)
    · exact Or.inl ⟨x, a, q1, by rw [em x q1]; exact q2, by rw [(hh x a q1 q2).1]; exact q3, q4, q5, by rw [q7, (hh x a q1 q2).2]⟩
    · exact Or.inr (Or.inl ⟨s, q1, by rw [es s 0 q1 (by omega)]; exact q2, by rw [q3, hsr s q1]⟩)
    · have e : x ≠ j := fun e => by subst e; omega
      exact Or.inr (Or.inr ⟨x, a, q1, by rw [em x q1]; exact q2, by rw [at_ x 9 q1 (by omega) (Or.inl e)]; exact q3, q4, q5, by rw [q6, hpr x a q1 q2 e]⟩)
    · exact Or.inr (Or.inr ⟨j, a, hj, by rw [em j hj]; exact q1, by rw [prom_9 hn h4.2.1]; exact ht, by omega, by omega, by rw [q2, hpj a q1]⟩)
