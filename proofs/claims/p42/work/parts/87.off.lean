/-! ===== a job that is taken off ===== -/
section OFA
variable {g : Nat → Int} {j i k w : Nat}
theorem ofA_c (hj : j < (g 1).toNat) (hrow : rowOk g) (hi : i ≤ mArms g j) (hw : w < 32) : mAt (ofA g j i) k w = if k = j ∧ 24 ≤ w ∧ w < 24 + i ∧ mHolds g j (w - 24) = true then g 0 else mAt g k w := ofA_at hw i (by have := (jo_4 (row_j hrow hj)).2.1; omega)
theorem ofA_o (hj : j < (g 1).toNat) (hrow : rowOk g) (hi : i ≤ mArms g j) (hw : w < 32) (h : k ≠ j ∨ w < 24 ∨ 28 ≤ w) : mAt (ofA g j i) k w = mAt g k w := by
  have := (jo_4 (row_j hrow hj)).2.1
  rw [ofA_c hj hrow hi hw, if_neg (by omega)]
theorem ofA_hi (hj : j < 80) {b : Nat} (hb : 2656 ≤ b) : ∀ i, i ≤ 4 → ofA g j i b = g b
  | 0, _ => rfl
  | i + 1, hi => by
    rw [ofA]
    split
    · rw [jput_hi hj (by omega) hb]; exact ofA_hi hj hb i (by omega)
    · exact ofA_hi hj hb i (by omega)
theorem ofA_holds {a : Nat} (hj : j < (g 1).toNat) (hrow : rowOk g) (hi : i ≤ mArms g j) (hk : k < (g 1).toNat) (ha : a < mArms g k) : mHolds (ofA g j i) k a = true ↔ mHolds g k a = true ∧ ¬ (k = j ∧ a < i) := by
  have h4 := (jo_4 (row_j hrow hk)).2.1
  have h4j := (jo_4 (row_j hrow hj)).2.1
  unfold mHolds
  rw [ofA_o hj hrow hi (by omega) (Or.inr (Or.inl (by omega))), ofA_c hj hrow hi (by omega), ofA_lo (by omega)]
  simp only [Bool.and_eq_true, decide_eq_true_eq]
  by_cases c : k = j ∧ a < i
  · obtain ⟨rfl, hai⟩ := c
    by_cases hh : mHolds g k a = true
    · rw [if_pos ⟨rfl, by omega, by omega, by rw [show 24 + a - 24 = a by omega]; exact hh⟩]
      constructor
      · rintro ⟨_, h⟩; omega
      · rintro ⟨_, h⟩; exact absurd ⟨rfl, hai⟩ h
    · rw [if_neg (by rw [show 24 + a - 24 = a by omega]; exact fun h => hh h.2.2.2)]
      constructor
      · intro h; exact absurd (holds_2 h) hh
      · rintro ⟨_, h⟩; exact absurd ⟨rfl, hai⟩ h
  · rw [if_neg (fun h => c ⟨h.1, by omega⟩)]
    constructor
    · intro h; exact ⟨h, c⟩
    · rintro ⟨h, _⟩; exact h
theorem ofA_ho {c a : Nat} (hj : j < (g 1).toNat) (hrow : rowOk g) (hi : i ≤ mArms g j) : hoC (ofA g j i) c k a ↔ hoC g c k a ∧ ¬ (k = j ∧ a < i) := by
  unfold hoC
  rw [ofA_lo (by omega)]
  by_cases hk : k < (g 1).toNat
  · have em : mArms (ofA g j i) k = mArms g k := by
      show (mAt _ k 4).toNat = _
      rw [ofA_o hj hrow hi (by omega) (Or.inr (Or.inl (by omega)))]
      rfl
    rw [em]
    by_cases ha : a < mArms g k
    · have h4 := (jo_4 (row_j hrow hk)).2.1
      have eb : mHeldBits (ofA g j i) k a = mHeldBits g k a := by
        unfold mHeldBits
        rw [ofA_o hj hrow hi (by omega) (Or.inr (Or.inl (by omega))), ofA_o hj hrow hi (by omega) (Or.inr (Or.inl (by omega)))]
      rw [eb, ofA_holds hj hrow hi hk ha]
      constructor
      · rintro ⟨a1, a2, ⟨a3, a4⟩, a5⟩; exact ⟨⟨a1, a2, a3, a5⟩, a4⟩
      · rintro ⟨⟨a1, a2, a3, a5⟩, a4⟩; exact ⟨a1, a2, ⟨a3, a4⟩, a5⟩
    · constructor
      · rintro ⟨_, h, _⟩; exact absurd h ha
      · rintro ⟨⟨_, h, _⟩, _⟩; exact absurd h ha
  · constructor
    · rintro ⟨h, _⟩; exact absurd h hk
    · rintro ⟨⟨h, _⟩, _⟩; exact absurd h hk
theorem ofA_row (hj : j < (g 1).toNat) (hrow : rowOk g) (hcol : colOk g) (hi : i ≤ mArms g j) : rowOk (ofA g j i) ∧ colOk (ofA g j i) := by
  obtain ⟨r1, r2, r3, r4, r5, r6, r7, r8, r9, r10, r11, r12, r13, r14⟩ := id hrow
  have lo := fun b (h : b < 96) => ofA_lo (g := g) (j := j) h i
  have em : ∀ k, mArms (ofA g j i) k = mArms g k := fun k => by
    show (mAt _ k 4).toNat = _
    rw [ofA_o hj hrow hi (by omega) (Or.inr (Or.inl (by omega)))]
    rfl
  refine ⟨⟨gRange_ofA r1 i, by rw [lo 0 (by omega)]; exact r2, by rw [lo 1 (by omega)]; exact r3, by rw [lo 2 (by omega)]; exact r4, by rw [lo 3 (by omega)]; exact r5, by rw [lo 4 (by omega)]; exact r6, by rw [lo 5 (by omega)]; exact r7, by rw [lo 6 (by omega)]; exact r8, by rw [lo 7 (by omega)]; exact r9, fun a ha => by rw [lo _ (by omega)]; exact r10 a ha, fun a ha => by rw [lo _ (by omega)]; exact r11 a ha, fun k hk => ?_, fun s hs => ?_, fun k hk h5 => ?_⟩, fun k a hk ha => ?_⟩
  · rw [lo 1 (by omega)] at hk
    have hjo := r12 k hk
    have h4 := jo_4 hjo
    obtain ⟨b0, b1, b2, b3, b4, b5, b6, b7, b8, b9, b10, b11, b12, b13, b14, b15⟩ := hjo
    have c := fun w (hw : w < 24) => ofA_o (k := k) hj hrow hi (w := w) (by omega) (Or.inr (Or.inl hw))
    unfold jOk
    rw [em, lo 0 (by omega), c 0 (by omega), c 1 (by omega), c 2 (by omega), c 3 (by omega), c 4 (by omega), c 5 (by omega), c 6 (by omega), c 7 (by omega), c 8 (by omega), c 9 (by omega), c 10 (by omega), c 11 (by omega)]
    refine ⟨b0, b1, b2, b3, b4, b5, b6, b7, b8, b9, b10, b11, b12, b13, b14, fun a ha => ?_⟩
    obtain ⟨k1, k2, k3, k4, k5, k6⟩ := b15 a ha
    unfold aOk
    rw [c 5 (by omega), c 6 (by omega), c 9 (by omega), c (12 + a) (by omega), c (16 + a) (by omega), c (20 + a) (by omega), ofA_o (k := k) (w := 28 + a) hj hrow hi (by omega) (Or.inr (Or.inr (by omega))), ofA_c (k := k) (w := 24 + a) hj hrow hi (by omega)]
    by_cases cc : k = j ∧ 24 ≤ 24 + a ∧ 24 + a < 24 + i ∧ mHolds g j (24 + a - 24) = true
    · rw [if_pos cc]
      obtain ⟨rfl, -, -, hh⟩ := cc
      rw [show 24 + a - 24 = a by omega] at hh
      have := (holds_1 hh).2
      refine ⟨k1, k2, k3, by omega, fun h => ?_, k6⟩
      have := k5 h
      omega
    · rw [if_neg cc]
      exact ⟨k1, k2, k3, k4, k5, k6⟩
  · have h1 := r13 s hs
    have es : ∀ w, w < 6 → mSpan (ofA g j i) s w = mSpan g s w := fun w hw => lo _ (by omega)
    unfold spOk at *
    rw [es 0 (by omega), es 1 (by omega), es 2 (by omega), es 3 (by omega), es 4 (by omega), es 5 (by omega), lo 0 (by omega), lo 5 (by omega)]
    exact h1
  · rw [lo 1 (by omega)] at hk
    rw [ofA_o hj hrow hi (by omega) (Or.inr (Or.inl (by omega)))] at h5
    rw [lo 6 (by omega)]
    exact r14 k hk h5
  · rw [lo 1 (by omega)] at hk
    rw [em] at ha
    have h4 := (jo_4 (r12 k hk)).2.1
    rw [ofA_o hj hrow hi (by omega) (Or.inr (Or.inl (by omega))), ofA_o hj hrow hi (by omega) (Or.inr (Or.inl (by omega)))]
    exact hcol k a hk ha
end OFA
section OF1
variable {g : Nat → Int} {j k w : Nat}
theorem of1_cell (hrow : rowOk g) (hj : j < (g 1).toNat) (hk : k < 80) (hw : w < 32) : mAt (of1 g j) k w = if k = j ∧ w = 9 then -1 else if k = j ∧ w = 7 then g 0 else if k = j ∧ w = 5 then 4 else mAt (ofA g j (mArms g j)) k w := by
  unfold of1
  rw [mAt_hapF hk hw, mAt_jput (by omega) hw, mAt_jput (by omega) hw, mAt_jput (by omega) hw]
theorem of1_o (hrow : rowOk g) (hj : j < (g 1).toNat) (hk : k < 80) (hw : w < 32) (h : k ≠ j ∨ (w ≠ 5 ∧ w ≠ 7 ∧ w ≠ 9 ∧ (w < 24 ∨ 28 ≤ w))) : mAt (of1 g j) k w = mAt g k w := by
  rw [of1_cell hrow hj hk hw, if_neg (by omega), if_neg (by omega), if_neg (by omega), ofA_o hj hrow (Nat.le_refl _) hw (by omega)]
theorem of1_ho {c a : Nat} (hrow : rowOk g) (hj : j < (g 1).toNat) : hoC (of1 g j) c k a ↔ hoC g c k a ∧ k ≠ j := by
  have e1 : of1 g j 1 = g 1 := of1_lo (by omega) (by omega)
  by_cases hk : k < (g 1).toNat
  · have hk8 := row_n hrow hk
    by_cases e : k = j
    · subst e
      constructor
      · intro h
        have := (holds_1 h.2.2.1).1
        rw [of1_cell hrow hj hk8 (by omega), if_neg (by omega), if_neg (by omega), if_pos ⟨rfl, rfl⟩] at this
        omega
      · rintro ⟨_, h⟩; exact absurd rfl h
    · rw [hoC_congr (of1_lo (by omega) (by omega)) e1 (jo_4 (row_j hrow hk)).2.1 fun w hw => of1_o hrow hj hk8 (by omega) (Or.inl e)]
      exact ⟨fun h => ⟨h, e⟩, fun h => h.1⟩
  · constructor
    · rintro ⟨h, _⟩; rw [e1] at h; exact absurd h hk
    · rintro ⟨⟨h, _⟩, _⟩; exact absurd h hk
theorem of1_hi {b : Nat} (hrow : rowOk g) (hj : j < (g 1).toNat) (hb : (2656 ≤ b ∧ b < 2736) ∨ 2916 ≤ b) : of1 g j b = g b := by
  have h4 := (jo_4 (row_j hrow hj)).2.1
  have hn := row_n hrow hj
  have e7 : jput (jput (jput (ofA g j (mArms g j)) j 5 4) j 7 (g 0)) j 9 (-1) 7 = g 7 := by rw [jput_lo (by omega), jput_lo (by omega), jput_lo (by omega), ofA_lo (by omega)]
  unfold of1
  rcases hb with hb | hb
  · rw [hapF_lo (by omega) (by omega), jput_hi hn (by omega) (by omega), jput_hi hn (by omega) (by omega), jput_hi hn (by omega) (by omega), ofA_hi hn (by omega) _ h4]
  · rw [hapF_hi hb (by rw [e7]; exact hrow.2.2.2.2.2.2.2.2.1), jput_hi hn (by omega) (by omega), jput_hi hn (by omega) (by omega), jput_hi hn (by omega) (by omega), ofA_hi hn (by omega) _ h4]
theorem of1_row (hI : rowI g) (hj : j < (g 1).toNat) : rowI (of1 g j) := by
  obtain ⟨hrow, hcol, hdis, hrun, hsta⟩ := id hI
  obtain ⟨r1, r2, r3, r4, r5, r6, r7, r8, r9, r10, r11, r12, r13, r14⟩ := id hrow
  have hn := row_n hrow hj
  have lo := fun b (h : b < 96) (h7 : b ≠ 7) => of1_lo (g := g) (j := j) (b := b) h h7
  have e0 := lo 0 (by omega) (by omega)
  have e1 := lo 1 (by omega) (by omega)
  obtain ⟨hA, hAc⟩ := ofA_row hj hrow hcol (Nat.le_refl (mArms g j))
  have a1 : ofA g j (mArms g j) 1 = g 1 := ofA_lo (by omega) _
  have a0 : ofA g j (mArms g j) 0 = g 0 := ofA_lo (by omega) _
  have e7 : jput (jput (jput (ofA g j (mArms g j)) j 5 4) j 7 (g 0)) j 9 (-1) 7 = g 7 := by rw [jput_lo (by omega), jput_lo (by omega), jput_lo (by omega), ofA_lo (by omega)]
  have em : ∀ k, k < (g 1).toNat → mArms (of1 g j) k = mArms g k := fun k hk => by
    show (mAt _ k 4).toNat = _
    rw [of1_o hrow hj (row_n hrow hk) (by omega) (by omega)]
    rfl
  refine ⟨⟨?_, by rw [e0]; exact r2, by rw [e1]; exact r3, by rw [lo 2 (by omega) (by omega)]; exact r4, by rw [lo 3 (by omega) (by omega)]; exact r5, by rw [lo 4 (by omega) (by omega)]; exact r6, by rw [lo 5 (by omega) (by omega)]; exact r7, by rw [lo 6 (by omega) (by omega)]; exact r8, ?_, fun a ha => by rw [lo _ (by omega) (by omega)]; exact r10 a ha, fun a ha => by rw [lo _ (by omega) (by omega)]; exact r11 a ha, fun k hk => ?_, fun s hs => ?_, fun k hk h5 => ?_⟩, fun k a hk ha => ?_, fun c k a k' a' p q => hdis c k a k' a' ((of1_ho hrow hj).mp p).1 ((of1_ho hrow hj).mp q).1, fun k hk h5 => ?_, ?_⟩
  · unfold of1
    exact gRange_hapF (gRange_jput (gRange_jput (gRange_jput (gRange_ofA r1 _) ⟨by omega, by omega⟩) (r1 0)) ⟨by omega, by omega⟩) (by rw [e7]; exact r9) ⟨by omega, by omega⟩ ⟨by omega, by omega⟩
  · unfold of1
    rw [hapF_7 (by rw [e7]; exact r9), e7]
    split <;> omega
  · rw [e1] at hk
    have hk8 := row_n hrow hk
    by_cases e : k = j
    · subst e
      have hjA := row_j hA (by rw [a1]; exact hk)
      have emA : mArms (ofA g k (mArms g k)) k = mArms g k := by
        show (mAt _ k 4).toNat = _
        rw [ofA_o hj hrow (Nat.le_refl _) (by omega) (Or.inr (Or.inl (by omega)))]
        rfl
      have c := fun w (hw : w < 32) => of1_cell (k := k) hrow hj hk8 hw
      have h4 := jo_4 (r12 k hk)
      obtain ⟨b0, b1, b2, b3, b4, b5, b6, b7, b8, b9, b10, b11, b12, b13, b14, b15⟩ := hjA
      rw [a0] at b6 b7 b9 b11 b14
      have q5 : mAt (of1 g k) k 5 = 4 := by rw [c 5 (by omega), if_neg (by omega), if_neg (by omega), if_pos ⟨rfl, rfl⟩]
      have q7 : mAt (of1 g k) k 7 = g 0 := by rw [c 7 (by omega), if_neg (by omega), if_pos ⟨rfl, rfl⟩]
      have q9 : mAt (of1 g k) k 9 = -1 := by rw [c 9 (by omega), if_pos ⟨rfl, rfl⟩]
      have q := fun w (hw : w < 32) (h5 : w ≠ 5) (h7 : w ≠ 7) (h9 : w ≠ 9) => (c w hw).trans ((if_neg (by omega)).trans ((if_neg (by omega)).trans (if_neg (by omega))))
      unfold jOk
      rw [em k hk, e0, q5, q7, q9, q 0 (by omega) (by omega) (by omega) (by omega), q 1 (by omega) (by omega) (by omega) (by omega), q 2 (by omega) (by omega) (by omega) (by omega), q 3 (by omega) (by omega) (by omega) (by omega), q 4 (by omega) (by omega) (by omega) (by omega), q 6 (by omega) (by omega) (by omega) (by omega), q 8 (by omega) (by omega) (by omega) (by omega), q 10 (by omega) (by omega) (by omega) (by omega), q 11 (by omega) (by omega) (by omega) (by omega)]
      refine ⟨b0, b1, b2, b3, b4, by omega, b6, by omega, b8, by omega, b10, b11, by omega, by omega, by omega, fun a ha => ?_⟩
      obtain ⟨k1, k2, k3, k4, k5, k6⟩ := b15 a (by rw [emA]; exact ha)
      unfold aOk
      rw [q5, q9, q 6 (by omega) (by omega) (by omega) (by omega), q (12 + a) (by omega) (by omega) (by omega) (by omega), q (16 + a) (by omega) (by omega) (by omega) (by omega), q (20 + a) (by omega) (by omega) (by omega) (by omega), q (24 + a) (by omega) (by omega) (by omega) (by omega), q (28 + a) (by omega) (by omega) (by omega) (by omega)]
      exact ⟨k1, k2, k3, k4, fun h => by omega, fun h => by omega⟩
    · exact jOk_eq (r12 k hk) e0 fun w hw => of1_o hrow hj hk8 hw (Or.inl e)
  · have h1 := r13 s hs
    have es : ∀ w, w < 6 → mSpan (of1 g j) s w = mSpan g s w := fun w hw => lo _ (by omega) (by omega)
    unfold spOk at *
    rw [es 0 (by omega), es 1 (by omega), es 2 (by omega), es 3 (by omega), es 4 (by omega), es 5 (by omega), e0, lo 5 (by omega) (by omega)]
    exact h1
  · rw [e1] at hk
    rw [lo 6 (by omega) (by omega)]
    by_cases e : k = j
    · subst e
      rw [of1_cell hrow hj hn (by omega), if_neg (by omega), if_neg (by omega), if_pos ⟨rfl, rfl⟩] at h5
      omega
    · rw [of1_o hrow hj (row_n hrow hk) (by omega) (Or.inl e)] at h5
      exact r14 k hk h5
  · rw [e1] at hk
    rw [em k hk] at ha
    have h4 := (jo_4 (r12 k hk)).2.1
    rw [of1_o hrow hj (row_n hrow hk) (by omega) (by omega), of1_o hrow hj (row_n hrow hk) (by omega) (by omega)]
    exact hcol k a hk ha
  · rw [e1] at hk
    have hk8 := row_n hrow hk
    by_cases e : k = j
    · subst e
      rw [of1_cell hrow hj hn (by omega), if_neg (by omega), if_neg (by omega), if_pos ⟨rfl, rfl⟩] at h5
      omega
    · rw [of1_o hrow hj hk8 (by omega) (Or.inl e)] at h5
      obtain ⟨a, ha, h⟩ := hrun k hk h5
      have h4 := (jo_4 (r12 k hk)).2.1
      exact ⟨a, by rw [em k hk]; exact ha, by rw [e0, of1_o hrow hj hk8 (by omega) (Or.inl e)]; exact h⟩
  · rw [lo 6 (by omega) (by omega), e1, hsta]
    exact (staTo_congr fun x hx => of1_o hrow hj (row_n hrow hx) (by omega) (by omega)).symm
end OF1
