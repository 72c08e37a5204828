/-! ===== the row behind a tick ===== -/
theorem now_lo {g : Nat → Int} {b : Nat} (h : b < 96) (h0 : b ≠ 0) : nowG g b = g b := by
  unfold nowG
  rw [put_o h0, chaG_lo (by omega)]
theorem now_0 {g : Nat → Int} : nowG g 0 = g 0 + 1 := by unfold nowG; rw [put_at]
theorem now_at {g : Nat → Int} {k w : Nat} (hk : k < 80) (hw : w < 32) : mAt (nowG g) k w = mAt g k w := by
  unfold nowG
  rw [mAt_put (Or.inl (by omega)) hk hw, chaG_at hk hw]
/-- whether a job ends in the tick -/
def goneB (g : Nat → Int) (k : Nat) : Bool := decide (mAt g k 5 = 1) && decide (lastEnd g k ≤ g 0 + 1)
theorem lastEnd_congr {g g' : Nat → Int} {k : Nat} (h4 : mAt g' k 4 = mAt g k 4) (hm : mArms g k ≤ 4) (h : ∀ w, 24 ≤ w → w < 28 → mAt g' k w = mAt g k w) : lastEnd g' k = lastEnd g k := by
  unfold lastEnd
  have em : mArms g' k = mArms g k := by unfold mArms; rw [h4]
  rw [em]
  have : ∀ n, n ≤ 4 → maxTo (fun a => mAt g' k (24 + a)) n = maxTo (fun a => mAt g k (24 + a)) n := by
    intro n
    induction n with
    | zero => intro _; rfl
    | succ n ih =>
      intro hn
      rw [maxTo, maxTo, ih (by omega), h _ (by omega) (by omega)]
  exact this _ hm
theorem cutB_congr {g g' : Nat → Int} {k : Nat} (h4 : mAt g' k 4 = mAt g k 4) (h2 : mAt g' k 2 = mAt g k 2) (hm : mArms g k ≤ 4) (h : ∀ w, 16 ≤ w → w < 20 → mAt g' k w = mAt g k w) : cutB g' k = cutB g k := by
  unfold cutB
  have em : mArms g' k = mArms g k := by unfold mArms; rw [h4]
  rw [em]
  refine anyTo_congr fun a ha => ?_
  unfold lastF
  rw [h2, h _ (by omega) (by omega)]
def cutK (g : Nat → Int) (k : Nat) : Int := if cutB g k = true then 3 else 2
theorem endR_cell {g : Nat → Int} {U : Nat → Nat → Int} (hrow : rowOk g) : ∀ i, i ≤ (g 1).toNat → (∀ k, k < (g 1).toNat → mAt (endR (nowG g, U) i).1 k 5 = if k < i ∧ goneB g k = true then cutK g k else mAt g k 5) ∧ ∀ k, k < (g 1).toNat → mAt (endR (nowG g, U) i).1 k 7 = if k < i ∧ goneB g k = true then g 0 + 1 else mAt g k 7
  | 0, _ => ⟨fun k hk => by rw [if_neg (by omega)]; exact now_at (row_n hrow hk) (by omega), fun k hk => by rw [if_neg (by omega)]; exact now_at (row_n hrow hk) (by omega)⟩
  | i + 1, hi => by
    have n7 : 0 ≤ nowG g 7 ∧ nowG g 7 ≤ 60 := by rw [now_lo (by omega) (by omega)]; exact hrow.2.2.2.2.2.2.2.2.1
    obtain ⟨ih1, ih2⟩ := endR_cell (U := U) hrow i (by omega)
    have hi1 : i < (g 1).toNat := by omega
    have hi8 := row_n hrow hi1
    obtain ⟨f1, f2, f3, f4, f5⟩ := endR_fact (g := nowG g) (U := U) n7 i (by omega)
    have h4 := jo_4 (row_j hrow hi1)
    have e5 : mAt (endR (nowG g, U) i).1 i 5 = mAt g i 5 := by rw [f4 i 5 hi8 (by omega) (Nat.le_refl _), now_at hi8 (by omega)]
    have e7 : mAt (endR (nowG g, U) i).1 i 7 = mAt g i 7 := by rw [f4 i 7 hi8 (by omega) (Nat.le_refl _), now_at hi8 (by omega)]
    have e0 : (endR (nowG g, U) i).1 0 = g 0 + 1 := by rw [f1 0 (by omega) (by omega), now_0]
    have el : lastEnd (endR (nowG g, U) i).1 i = lastEnd g i := lastEnd_congr (by rw [f4 i 4 hi8 (by omega) (Nat.le_refl _), now_at hi8 (by omega)]) h4.2.1 (fun w h1 h2 => by rw [f4 i w hi8 (by omega) (Nat.le_refl _), now_at hi8 (by omega)])
    have ec : cutB (endR (nowG g, U) i).1 i = cutB g i := cutB_congr (by rw [f4 i 4 hi8 (by omega) (Nat.le_refl _), now_at hi8 (by omega)]) (by rw [f4 i 2 hi8 (by omega) (Nat.le_refl _), now_at hi8 (by omega)]) h4.2.1 (fun w h1 h2 => by rw [f4 i w hi8 (by omega) (Nat.le_refl _), now_at hi8 (by omega)])
    have hs : (endR (nowG g, U) (i + 1)).1 = if mAt g i 5 = 1 then endG (endR (nowG g, U) i).1 i else (endR (nowG g, U) i).1 := by
      rw [endR]
      rw [e5]
      split <;> rfl
    rw [hs]
    clear hs
    generalize (endR (nowG g, U) i).1 = E at *
    by_cases c : mAt g i 5 = 1
    · rw [if_pos c]
      by_cases c2 : lastEnd g i ≤ g 0 + 1
      · have hg : goneB g i = true := by unfold goneB; simp [c, c2]
        have eE : endG E i = hapF (jput (jput E i 5 (cutK g i)) i 7 (g 0 + 1)) (cutK g i) i := by
          unfold endG
          rw [el, e0, if_pos c2, ec]
          rfl
        rw [eE]
        constructor
        · intro k hk
          rw [mAt_hapF (row_n hrow hk) (by omega), mAt_jput (by omega) (by omega), if_neg (by omega), mAt_jput (by omega) (by omega)]
          by_cases ek : k = i
          · subst ek
            rw [if_pos ⟨rfl, rfl⟩, if_pos ⟨by omega, hg⟩]
          · rw [if_neg (by omega), ih1 k hk]
            by_cases c3 : k < i ∧ goneB g k = true
            · rw [if_pos c3, if_pos ⟨by omega, c3.2⟩]
            · rw [if_neg c3, if_neg fun h => c3 ⟨by omega, h.2⟩]
        · intro k hk
          rw [mAt_hapF (row_n hrow hk) (by omega), mAt_jput (by omega) (by omega)]
          by_cases ek : k = i
          · subst ek
            rw [if_pos ⟨rfl, rfl⟩, if_pos ⟨by omega, hg⟩]
          · rw [if_neg (by omega), mAt_jput (by omega) (by omega), if_neg (by omega), ih2 k hk]
            by_cases c3 : k < i ∧ goneB g k = true
            · rw [if_pos c3, if_pos ⟨by omega, c3.2⟩]
            · rw [if_neg c3, if_neg fun h => c3 ⟨by omega, h.2⟩]
      · have hg : ¬ goneB g i = true := by unfold goneB; simp [c2]
        have eE : endG E i = E := by
          unfold endG
          rw [el, e0, if_neg c2]
        rw [eE]
        constructor
        · intro k hk
          rw [ih1 k hk]
          by_cases c3 : k < i ∧ goneB g k = true
          · rw [if_pos c3, if_pos ⟨by omega, c3.2⟩]
          · rw [if_neg c3, if_neg]
            rintro ⟨h1, h2⟩
            by_cases ek : k = i
            · subst ek; exact hg h2
            · exact c3 ⟨by omega, h2⟩
        · intro k hk
          rw [ih2 k hk]
          by_cases c3 : k < i ∧ goneB g k = true
          · rw [if_pos c3, if_pos ⟨by omega, c3.2⟩]
          · rw [if_neg c3, if_neg]
            rintro ⟨h1, h2⟩
            by_cases ek : k = i
            · subst ek; exact hg h2
            · exact c3 ⟨by omega, h2⟩
    · rw [if_neg c]
      have hg : ¬ goneB g i = true := by unfold goneB; simp [c]
      constructor
      · intro k hk
        rw [ih1 k hk]
        by_cases c3 : k < i ∧ goneB g k = true
        · rw [if_pos c3, if_pos ⟨by omega, c3.2⟩]
        · rw [if_neg c3, if_neg]
          rintro ⟨h1, h2⟩
          by_cases ek : k = i
          · subst ek; exact hg h2
          · exact c3 ⟨by omega, h2⟩
      · intro k hk
        rw [ih2 k hk]
        by_cases c3 : k < i ∧ goneB g k = true
        · rw [if_pos c3, if_pos ⟨by omega, c3.2⟩]
        · rw [if_neg c3, if_neg]
          rintro ⟨h1, h2⟩
          by_cases ek : k = i
          · subst ek; exact hg h2
          · exact c3 ⟨by omega, h2⟩
theorem gRange_expG {g : Nat → Int} (h : gRange g) : ∀ i, gRange (expG g i)
  | 0 => h
  | i + 1 => by
    rw [expG]
    split
    · exact gRange_put (gRange_expG h i) ⟨by omega, by omega⟩
    · exact gRange_expG h i
/-- the row in the midst of a tick: so many jobs were looked at, the spans are gone -/
def midG (g : Nat → Int) (U : Nat → Nat → Int) (i : Nat) : Nat → Int := expG (endR (nowG g, U) i).1 12
section MID
variable {g : Nat → Int} {U : Nat → Nat → Int} {i : Nat}
theorem mid_at {k w : Nat} (hrow : rowOk g) (hi : i ≤ (g 1).toNat) (hk : k < 80) (hw : w < 32) (h5 : w ≠ 5) (h7 : w ≠ 7) : mAt (midG g U i) k w = mAt g k w := by
  have n7 : 0 ≤ nowG g 7 ∧ nowG g 7 ≤ 60 := by rw [now_lo (by omega) (by omega)]; exact hrow.2.2.2.2.2.2.2.2.1
  have hm := hrow.2.2.1
  obtain ⟨f1, f2, f3, f4, f5⟩ := endR_fact (g := nowG g) (U := U) n7 i (by omega)
  unfold midG
  have : mAt (expG (endR (nowG g, U) i).1 12) k w = mAt (endR (nowG g, U) i).1 k w := expG_o 12 _ (fun s hs => by omega) (Nat.le_refl _)
  rw [this, f3 k w hk hw h5 h7, now_at hk hw]
theorem mid_57 {k w : Nat} (hrow : rowOk g) (hi : i ≤ (g 1).toNat) (hk : k < (g 1).toNat) (hw : w = 5 ∨ w = 7) : mAt (midG g U i) k w = if k < i ∧ goneB g k = true then (if w = 5 then cutK g k else g 0 + 1) else mAt g k w := by
  unfold midG
  have hk8 := row_n hrow hk
  have : mAt (expG (endR (nowG g, U) i).1 12) k w = mAt (endR (nowG g, U) i).1 k w := expG_o 12 _ (fun s hs => by omega) (Nat.le_refl _)
  rw [this]
  obtain ⟨h1, h2⟩ := endR_cell (U := U) hrow i hi
  rcases hw with rfl | rfl
  · rw [h1 k hk]; simp
  · rw [h2 k hk]; simp
theorem mid_lo {b : Nat} (hrow : rowOk g) (hi : i ≤ (g 1).toNat) (hb : b < 24) (h0 : b ≠ 0) (h7 : b ≠ 7) : midG g U i b = g b := by
  have n7 : 0 ≤ nowG g 7 ∧ nowG g 7 ≤ 60 := by rw [now_lo (by omega) (by omega)]; exact hrow.2.2.2.2.2.2.2.2.1
  have hm := hrow.2.2.1
  obtain ⟨f1, f2, f3, f4, f5⟩ := endR_fact (g := nowG g) (U := U) n7 i (by omega)
  unfold midG
  rw [expG_o 12 _ (fun s hs => by omega) (Nat.le_refl _), f1 b (by omega) h7, now_lo (by omega) h0]
theorem mid_0 (hrow : rowOk g) (hi : i ≤ (g 1).toNat) : midG g U i 0 = g 0 + 1 := by
  have n7 : 0 ≤ nowG g 7 ∧ nowG g 7 ≤ 60 := by rw [now_lo (by omega) (by omega)]; exact hrow.2.2.2.2.2.2.2.2.1
  have hm := hrow.2.2.1
  obtain ⟨f1, f2, f3, f4, f5⟩ := endR_fact (g := nowG g) (U := U) n7 i (by omega)
  unfold midG
  rw [expG_o 12 _ (fun s hs => by omega) (Nat.le_refl _), f1 0 (by omega) (by omega), now_0]
theorem mid_7 (hrow : rowOk g) (hi : i ≤ (g 1).toNat) : 0 ≤ midG g U i 7 ∧ midG g U i 7 ≤ 60 := by
  have n7 : 0 ≤ nowG g 7 ∧ nowG g 7 ≤ 60 := by rw [now_lo (by omega) (by omega)]; exact hrow.2.2.2.2.2.2.2.2.1
  have hm := hrow.2.2.1
  obtain ⟨f1, f2, f3, f4, f5⟩ := endR_fact (g := nowG g) (U := U) n7 i (by omega)
  unfold midG
  rw [expG_o 12 _ (fun s hs => by omega) (Nat.le_refl _)]
  exact f2
theorem mid_span {s w : Nat} (hrow : rowOk g) (hi : i ≤ (g 1).toNat) (hs : s < 12) (hw : w < 6) : mSpan (midG g U i) s w = if w = 0 ∧ 0 ≤ mSpan g s 0 ∧ mSpan g s 4 ≤ g 0 + 1 then -1 else mSpan g s w := by
  have n7 : 0 ≤ nowG g 7 ∧ nowG g 7 ≤ 60 := by rw [now_lo (by omega) (by omega)]; exact hrow.2.2.2.2.2.2.2.2.1
  have hm := hrow.2.2.1
  obtain ⟨f1, f2, f3, f4, f5⟩ := endR_fact (g := nowG g) (U := U) n7 i (by omega)
  have hsp : ∀ w, w < 6 → mSpan (endR (nowG g, U) i).1 s w = mSpan g s w := fun w hw => by
    have : (endR (nowG g, U) i).1 (24 + s * 6 + w) = nowG g (24 + s * 6 + w) := f1 _ (by omega) (by omega)
    show (endR (nowG g, U) i).1 (24 + s * 6 + w) = g (24 + s * 6 + w)
    rw [this, now_lo (by omega) (by omega)]
  have e0 : (endR (nowG g, U) i).1 0 = g 0 + 1 := by rw [f1 0 (by omega) (by omega), now_0]
  unfold midG
  by_cases c : w = 0
  · subst c
    have := (expG_s (g := (endR (nowG g, U) i).1) 12 s hs (Nat.le_refl _)).2 hs
    show expG _ 12 (24 + s * 6 + 0) = _
    rw [Nat.add_zero, this, hsp 0 (by omega), hsp 4 (by omega), e0]
    by_cases c2 : 0 ≤ mSpan g s 0 ∧ mSpan g s 4 ≤ g 0 + 1
    · rw [if_pos c2, if_pos ⟨rfl, c2⟩]
    · rw [if_neg c2, if_neg fun h => c2 h.2]
      exact hsp 0 (by omega)
  · rw [if_neg fun h => c h.1]
    have : mSpan (expG (endR (nowG g, U) i).1 12) s w = mSpan (endR (nowG g, U) i).1 s w := expG_o 12 _ (fun t ht => by omega) (Nat.le_refl _)
    rw [this, hsp w hw]
end MID
/-- what holds its columns once NOW is one more -/
def hoN (g : Nat → Int) (c k a : Nat) : Prop := k < (g 1).toNat ∧ a < mArms g k ∧ mAt g k 5 = 1 ∧ g 0 + 1 < mAt g k (24 + a) ∧ (mHeldBits g k a).testBit c = true
theorem gone_none {g : Nat → Int} {k a : Nat} (h0 : 0 ≤ g 0) (hg : goneB g k = true) (ha : a < mArms g k) : mAt g k (24 + a) ≤ g 0 + 1 := by
  unfold goneB at hg
  simp only [Bool.and_eq_true, decide_eq_true_eq] at hg
  exact (maxTo_le (by omega)).mp hg.2 a ha
theorem mid_ho {g : Nat → Int} {U : Nat → Nat → Int} {i c k a : Nat} (hrow : rowOk g) (hi : i ≤ (g 1).toNat) : hoC (midG g U i) c k a ↔ hoN g c k a := by
  have e1 : midG g U i 1 = g 1 := mid_lo hrow hi (by omega) (by omega) (by omega)
  unfold hoC hoN
  rw [e1]
  by_cases hk : k < (g 1).toNat
  · have hk8 := row_n hrow hk
    have h4 := jo_4 (row_j hrow hk)
    have em : mArms (midG g U i) k = mArms g k := by
      show (mAt _ k 4).toNat = _
      rw [mid_at hrow hi hk8 (by omega) (by omega) (by omega)]
      rfl
    rw [em]
    by_cases ha : a < mArms g k
    · have eb : mHeldBits (midG g U i) k a = mHeldBits g k a := by
        unfold mHeldBits
        rw [mid_at hrow hi hk8 (by omega) (by omega) (by omega), mid_at hrow hi hk8 (by omega) (by omega) (by omega)]
      have eh : mHolds (midG g U i) k a = true ↔ mAt g k 5 = 1 ∧ g 0 + 1 < mAt g k (24 + a) := by
        unfold mHolds
        simp only [Bool.and_eq_true, decide_eq_true_eq]
        rw [mid_57 hrow hi hk (Or.inl rfl), mid_at hrow hi hk8 (by omega) (by omega) (by omega), mid_0 hrow hi]
        by_cases cg : k < i ∧ goneB g k = true
        · have := gone_none hrow.2.1.1 cg.2 ha
          rw [if_pos cg]
          constructor
          · rintro ⟨_, h⟩; omega
          · rintro ⟨_, h⟩; omega
        · rw [if_neg cg]
      rw [eb, eh]
      constructor
      · rintro ⟨a1, a2, a3, a4⟩; exact ⟨a1, a2, a3.1, a3.2, a4⟩
      · rintro ⟨a1, a2, a3, a4, a5⟩; exact ⟨a1, a2, ⟨a3, a4⟩, a5⟩
    · constructor
      · rintro ⟨_, h, _⟩; exact absurd h ha
      · rintro ⟨_, h, _⟩; exact absurd h ha
  · constructor
    · rintro ⟨h, _⟩; exact absurd h hk
    · rintro ⟨h, _⟩; exact absurd h hk
theorem hoN_hoC {g : Nat → Int} {c k a : Nat} (h : hoN g c k a) : hoC g c k a := ⟨h.1, h.2.1, holds_2 ⟨h.2.2.1, by have := h.2.2.2.1; omega⟩, h.2.2.2.2⟩
/-- promises of a pass lie ahead -/
def promA (g : Nat → Int) : Prop := ∀ j, j < (g 1).toNat → 0 ≤ mAt g j 9 → g 0 < mAt g j 9
theorem mid_row {g : Nat → Int} {U : Nat → Nat → Int} {i : Nat} (hI : rowI g) (hp : promA g) (hnow : g 0 < 110000) (hi : i ≤ (g 1).toNat) : rowOk (midG g U i) ∧ colOk (midG g U i) ∧ disj (midG g U i) ∧ midG g U i 6 = staTo (midG g U i) (midG g U i 1).toNat := by
  obtain ⟨hrow, hcol, hdis, hrun, hsta⟩ := id hI
  obtain ⟨r1, r2, r3, r4, r5, r6, r7, r8, r9, r10, r11, r12, r13, r14⟩ := id hrow
  have lo := fun b (h : b < 24) (h0 : b ≠ 0) (h7 : b ≠ 7) => mid_lo (U := U) hrow hi h h0 h7
  have e0 := mid_0 (U := U) hrow hi
  have e1 := lo 1 (by omega) (by omega) (by omega)
  have n7 : 0 ≤ nowG g 7 ∧ nowG g 7 ≤ 60 := by rw [now_lo (by omega) (by omega)]; exact r9
  have hat := fun k w (hk : k < (g 1).toNat) (hw : w < 32) (h5 : w ≠ 5) (h7 : w ≠ 7) => mid_at (U := U) hrow hi (row_n hrow hk) hw h5 h7
  have em : ∀ k, k < (g 1).toNat → mArms (midG g U i) k = mArms g k := fun k hk => by
    show (mAt _ k 4).toNat = _
    rw [hat k 4 hk (by omega) (by omega) (by omega)]
    rfl
  have hgr : gRange (midG g U i) := gRange_expG (gRange_endR (gRange_nowG hrow) n7 i (by omega)) 12
  have hst : midG g U i 6 = staTo (midG g U i) (midG g U i 1).toNat := by
    rw [lo 6 (by omega) (by omega) (by omega), e1, hsta]
    exact (staTo_congr fun j hj => hat j 6 hj (by omega) (by omega) (by omega)).symm
  refine ⟨⟨hgr, by rw [e0]; omega, by rw [e1]; exact r3, by rw [lo 2 (by omega) (by omega) (by omega)]; exact r4, by rw [lo 3 (by omega) (by omega) (by omega)]; exact r5, by rw [lo 4 (by omega) (by omega) (by omega)]; exact r6, by rw [lo 5 (by omega) (by omega) (by omega)]; exact r7, by rw [lo 6 (by omega) (by omega) (by omega)]; exact r8, mid_7 hrow hi, fun a ha => by rw [lo (8 + a) (by omega) (by omega) (by omega)]; exact r10 a ha, fun a ha => by rw [lo (16 + a) (by omega) (by omega) (by omega)]; exact r11 a ha, ?_, ?_, ?_⟩, ?_, ?_, hst⟩
  · intro k hk
    rw [e1] at hk
    obtain ⟨b0, b1, b2, b3, b4, b5, b6, b7, b8, b9, b10, b11, b12, b13, b14, b15⟩ := r12 k hk
    have h4 := jo_4 (r12 k hk)
    have hpk := hp k hk
    have h57 := mid_57 (U := U) hrow hi hk (Or.inl rfl)
    have h77 := mid_57 (U := U) hrow hi hk (Or.inr rfl)
    have hcut : cutK g k = 2 ∨ cutK g k = 3 := by unfold cutK; split <;> simp
    have h5v : (goneB g k = true ∧ mAt g k 5 = 1 ∧ mAt (midG g U i) k 5 = cutK g k ∧ mAt (midG g U i) k 7 = g 0 + 1) ∨ (mAt (midG g U i) k 5 = mAt g k 5 ∧ mAt (midG g U i) k 7 = mAt g k 7) := by
      by_cases c : k < i ∧ goneB g k = true
      · rw [if_pos c, if_pos rfl] at h57
        rw [if_pos c, if_neg (by omega)] at h77
        have h1 := c.2
        unfold goneB at h1
        simp only [Bool.and_eq_true, decide_eq_true_eq] at h1
        exact Or.inl ⟨c.2, h1.1, h57, h77⟩
      · rw [if_neg c] at h57 h77
        exact Or.inr ⟨h57, h77⟩
    unfold jOk
    rw [em k hk, e0, hat k 0 hk (by omega) (by omega) (by omega), hat k 1 hk (by omega) (by omega) (by omega), hat k 2 hk (by omega) (by omega) (by omega), hat k 3 hk (by omega) (by omega) (by omega), hat k 4 hk (by omega) (by omega) (by omega), hat k 6 hk (by omega) (by omega) (by omega), hat k 8 hk (by omega) (by omega) (by omega), hat k 9 hk (by omega) (by omega) (by omega), hat k 10 hk (by omega) (by omega) (by omega), hat k 11 hk (by omega) (by omega) (by omega)]
    refine ⟨b0, b1, b2, b3, b4, by omega, by omega, by omega, b8, by omega, b10, by omega, by omega, by omega, by omega, fun a ha => ?_⟩
    obtain ⟨k1, k2, k3, k4, k5, k6⟩ := b15 a ha
    unfold aOk
    rw [hat k 6 hk (by omega) (by omega) (by omega), hat k 9 hk (by omega) (by omega) (by omega), hat k (12 + a) hk (by omega) (by omega) (by omega), hat k (16 + a) hk (by omega) (by omega) (by omega), hat k (20 + a) hk (by omega) (by omega) (by omega), hat k (24 + a) hk (by omega) (by omega) (by omega), hat k (28 + a) hk (by omega) (by omega) (by omega)]
    exact ⟨k1, k2, k3, k4, fun h => k5 (by omega), k6⟩
  · intro s hs
    have h1 := r13 s hs
    have em : ∀ w, w < 6 → mSpan (midG g U i) s w = if w = 0 ∧ 0 ≤ mSpan g s 0 ∧ mSpan g s 4 ≤ g 0 + 1 then -1 else mSpan g s w := fun w hw => mid_span hrow hi hs hw
    unfold spOk at *
    rw [em 0 (by omega), em 1 (by omega), em 2 (by omega), em 3 (by omega), em 4 (by omega), em 5 (by omega), e0, lo 5 (by omega) (by omega) (by omega)]
    by_cases c : 0 ≤ mSpan g s 0 ∧ mSpan g s 4 ≤ g 0 + 1
    · rw [if_pos ⟨rfl, c⟩]
      exact ⟨by omega, fun h => by omega⟩
    · rw [if_neg fun h => c h.2, if_neg (by omega), if_neg (by omega), if_neg (by omega), if_neg (by omega), if_neg (by omega)]
      exact ⟨h1.1, fun h => by have := h1.2 h; omega⟩
  · intro k hk hk5
    rw [e1] at hk
    rw [lo 6 (by omega) (by omega) (by omega)]
    have h57 := mid_57 (U := U) hrow hi hk (Or.inl rfl)
    have hcut : cutK g k = 2 ∨ cutK g k = 3 := by unfold cutK; split <;> simp
    by_cases c : k < i ∧ goneB g k = true
    · rw [if_pos c, if_pos rfl] at h57
      omega
    · rw [if_neg c] at h57
      exact r14 k hk (by omega)
  · intro k a hk ha
    rw [e1] at hk
    rw [em k hk] at ha
    have h4 := jo_4 (r12 k hk)
    rw [hat k (20 + a) hk (by omega) (by omega) (by omega), hat k (12 + a) hk (by omega) (by omega) (by omega)]
    exact hcol k a hk ha
  · intro c k a k' a' h1 h2
    exact hdis c k a k' a' (hoN_hoC ((mid_ho hrow hi).mp h1)) (hoN_hoC ((mid_ho hrow hi).mp h2))
theorem tail_row {g : Nat → Int} {U : Nat → Nat → Int} (hI : rowI g) (hp : promA g) (hnow : g 0 < 110000) : rowI (tailG g U) := by
  have hrow := hI.1
  have e : tailG g U = midG g (useU g U 16) (g 1).toNat := rfl
  rw [e]
  obtain ⟨h1, h2, h3, h4⟩ := mid_row (U := useU g U 16) hI hp hnow (Nat.le_refl _)
  refine ⟨h1, h2, h3, ?_, h4⟩
  have e1 := mid_lo (b := 1) (U := useU g U 16) (i := (g 1).toNat) hrow (Nat.le_refl _) (by omega) (by omega) (by omega)
  intro k hk hk5
  rw [e1] at hk
  have hk8 := row_n hrow hk
  have h4 := jo_4 (row_j hrow hk)
  have em : mArms (midG g (useU g U 16) (g 1).toNat) k = mArms g k := by
    show (mAt _ k 4).toNat = _
    rw [mid_at hrow (Nat.le_refl _) hk8 (by omega) (by omega) (by omega)]
    rfl
  rw [mid_57 hrow (Nat.le_refl _) hk (Or.inl rfl)] at hk5
  have hcut : cutK g k = 2 ∨ cutK g k = 3 := by unfold cutK; split <;> simp
  by_cases c : k < (g 1).toNat ∧ goneB g k = true
  · rw [if_pos c, if_pos rfl] at hk5
    omega
  · rw [if_neg c] at hk5
    have hg : ¬ lastEnd g k ≤ g 0 + 1 := fun h => c ⟨hk, by unfold goneB; simp [hk5, h]⟩
    have : ¬ ∀ a, a < mArms g k → mAt g k (24 + a) ≤ g 0 + 1 := fun h => hg ((maxTo_le (by have := hrow.2.1; omega)).mpr h)
    rw [em, mid_0 hrow (Nat.le_refl _)]
    apply Classical.byContradiction
    intro hno
    apply this
    intro a ha
    apply Classical.byContradiction
    intro h
    exact hno ⟨a, ha, by rw [mid_at hrow (Nat.le_refl _) hk8 (by omega) (by omega) (by omega)]; omega⟩
