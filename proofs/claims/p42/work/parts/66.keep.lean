/-! ===== what always holds is kept ===== -/
theorem row_j {g : Nat → Int} (h : rowOk g) {j : Nat} (hj : j < (g 1).toNat) : jOk g j := h.2.2.2.2.2.2.2.2.2.2.2.1 j hj
theorem row_s {g : Nat → Int} (h : rowOk g) {s : Nat} (hs : s < 12) : spOk g s := h.2.2.2.2.2.2.2.2.2.2.2.2.1 s hs
theorem row_n {g : Nat → Int} (h : rowOk g) {j : Nat} (hj : j < (g 1).toNat) : j < 80 := by
  have := h.2.2.1
  omega
theorem jo_a {g : Nat → Int} {j a : Nat} (h : jOk g j) (ha : a < mArms g j) : aOk g j a := h.2.2.2.2.2.2.2.2.2.2.2.2.2.2.2 a ha
theorem jo_4 {g : Nat → Int} {j : Nat} (h : jOk g j) : 1 ≤ mArms g j ∧ mArms g j ≤ 4 ∧ (mArms g j : Int) = mAt g j 4 := by
  have h4 := h.2.2.2.2.1
  have em : mArms g j = (mAt g j 4).toNat := rfl
  omega
theorem jOk_eq {g g' : Nat → Int} {j : Nat} (h : jOk g j) (h0 : g' 0 = g 0) (he : ∀ w, w < 32 → mAt g' j w = mAt g j w) : jOk g' j := by
  have h4 := jo_4 h
  have em : mArms g' j = mArms g j := by unfold mArms; rw [he 4 (by omega)]
  unfold jOk at *
  rw [he 0 (by omega), he 1 (by omega), he 2 (by omega), he 3 (by omega), he 4 (by omega), he 5 (by omega), he 6 (by omega), he 7 (by omega), he 8 (by omega), he 9 (by omega), he 10 (by omega), he 11 (by omega), h0, em]
  obtain ⟨a0, a1, a2, a3, a4, a5, a6, a7, a8, a9, a10, a11, a12, a13, a14, a15⟩ := h
  refine ⟨a0, a1, a2, a3, a4, a5, a6, a7, a8, a9, a10, a11, a12, a13, a14, fun a ha => ?_⟩
  have := a15 a ha
  unfold aOk at *
  rw [he (12 + a) (by omega), he (16 + a) (by omega), he (20 + a) (by omega), he (24 + a) (by omega), he (28 + a) (by omega), he 5 (by omega), he 6 (by omega), he 9 (by omega)]
  exact this
theorem hoC_congr {g g' : Nat → Int} {c k a : Nat} (h0 : g' 0 = g 0) (h1 : g' 1 = g 1) (h4 : mArms g k ≤ 4) (he : ∀ w, (w = 4 ∨ w = 5 ∨ (12 ≤ w ∧ w < 16) ∨ (20 ≤ w ∧ w < 28)) → mAt g' k w = mAt g k w) : hoC g' c k a ↔ hoC g c k a := by
  have em : mArms g' k = mArms g k := by unfold mArms; rw [he 4 (by omega)]
  unfold hoC
  rw [h1, em]
  by_cases ha : a < mArms g k
  · have e1 : mHolds g' k a = mHolds g k a := by unfold mHolds; rw [he 5 (by omega), he (24 + a) (by omega), h0]
    have e2 : mHeldBits g' k a = mHeldBits g k a := by unfold mHeldBits; rw [he (20 + a) (by omega), he (12 + a) (by omega)]
    rw [e1, e2]
  · constructor
    · rintro ⟨_, h, _⟩; exact absurd h ha
    · rintro ⟨_, h, _⟩; exact absurd h ha
theorem hold_eq {g : Nat → Int} {c j a : Nat} (hd : disj g) (h : hoC g c j a) : holderF g c = (j : Int) := by
  have hjb : holdB g c j = true := anyTo_iff.mpr ⟨a, h.2.1, by show (mHolds g j a && (mHeldBits g j a).testBit c) = true; rw [h.2.2.1, h.2.2.2]; rfl⟩
  have e : leastTo (holdB g c) (g 1).toNat = j := by
    refine leastTo_eq hjb (fun i hi => ?_) _ h.1
    rw [← Bool.not_eq_true]
    intro h2
    obtain ⟨b, hb, hb2⟩ := anyTo_iff.mp h2
    simp only [Bool.and_eq_true] at hb2
    have := hd c j a i b h ⟨by have := h.1; omega, hb, hb2.1, hb2.2⟩
    omega
  unfold holderF
  rw [e, if_pos h.1]
theorem hold_cases {g : Nat → Int} {c : Nat} (hd : disj g) : (∃ j a : Nat, hoC g c j a ∧ holderF g c = (j : Int)) ∨ ((∀ j a, ¬ hoC g c j a) ∧ holderF g c = -1) := by
  by_cases hx : ∃ j a, hoC g c j a
  · obtain ⟨j, a, hx⟩ := hx
    exact Or.inl ⟨j, a, hx, hold_eq hd hx⟩
  · have hx2 : ∀ j a, ¬ hoC g c j a := fun j a h => hx ⟨j, a, h⟩
    exact Or.inr ⟨hx2, hold_none.mpr hx2⟩
theorem hold_same {g g' : Nat → Int} {c : Nat} (hd : disj g) (hd' : disj g') (h : ∀ j a, hoC g' c j a ↔ hoC g c j a) : holderF g' c = holderF g c := by
  rcases hold_cases (c := c) hd with ⟨j, a, h1, h2⟩ | ⟨h1, h2⟩
  · rw [h2, hold_eq hd' ((h j a).mpr h1)]
  · rw [h2, hold_none.mpr fun j a h3 => h1 j a ((h j a).mp h3)]
/-! a start -/
section STAR
variable {g F : Nat → Int} {j n k w a : Nat}
theorem star_at (hj : j < 80) (hk : k < 80) (hw : w < 32) (hn : n ≤ 4) (h6 : 0 ≤ g 6 ∧ g 6 < 80) (h : k ≠ j ∨ (w ≠ 5 ∧ w ≠ 6 ∧ (w < 20 ∨ 28 ≤ w))) : mAt (starF g j n F) k w = mAt g k w := by
  rw [starF_cell hj hk hw hn h6, if_neg (by omega), if_neg (by omega), if_neg (by omega), if_neg (by omega)]
theorem star_5 (hj : j < 80) (hn : n ≤ 4) (h6 : 0 ≤ g 6 ∧ g 6 < 80) : mAt (starF g j n F) j 5 = 1 := by
  rw [starF_cell hj hj (by omega) hn h6, if_pos ⟨rfl, rfl⟩]
theorem star_6 (hj : j < 80) (hn : n ≤ 4) (h6 : 0 ≤ g 6 ∧ g 6 < 80) : mAt (starF g j n F) j 6 = g 0 := by
  rw [starF_cell hj hj (by omega) hn h6, if_neg (by omega), if_pos ⟨rfl, rfl⟩]
theorem star_c (hj : j < 80) (hn : n ≤ 4) (h6 : 0 ≤ g 6 ∧ g 6 < 80) (ha : a < n) : mAt (starF g j n F) j (20 + a) = F a := by
  rw [starF_cell hj hj (by omega) hn h6, if_neg (by omega), if_neg (by omega), if_pos (by omega), show 20 + a - 20 = a by omega]
theorem star_e (hj : j < 80) (hn : n ≤ 4) (h6 : 0 ≤ g 6 ∧ g 6 < 80) (ha : a < n) : mAt (starF g j n F) j (24 + a) = g 0 + min (mAt g j (16 + a)) (lastF g j a) := by
  rw [starF_cell hj hj (by omega) hn h6, if_neg (by omega), if_neg (by omega), if_neg (by omega), if_pos (by omega), show 24 + a - 8 = 16 + a by omega, show 24 + a - 24 = a by omega]
end STAR
theorem gRange_stA {g F : Nat → Int} {j : Nat} (h : gRange g) : ∀ i, (∀ a, a < i → rg (F a) ∧ rg (g 0 + min (mAt g j (16 + a)) (lastF g j a))) → gRange (stA g j F i)
  | 0, _ => h
  | i + 1, hf => gRange_jput (gRange_jput (gRange_stA h i fun a ha => hf a (by omega)) (hf i (by omega)).1) (hf i (by omega)).2
theorem starF_7 {g F : Nat → Int} {j n : Nat} (h7 : 0 ≤ g 7 ∧ g 7 ≤ 60) : 0 ≤ starF g j n F 7 ∧ starF g j n F 7 ≤ 60 := by
  unfold starF stJ
  rw [put_o (by omega), put_o (by omega), hapF_7 (by rw [stA_lo (by omega), jput_lo (by omega), jput_lo (by omega)]; exact h7)]
  split
  · omega
  · rename_i h
    rw [stA_lo (by omega), jput_lo (by omega), jput_lo (by omega)] at *
    omega
/-- what a fit is -/
theorem fit_in {g : Nat → Int} {j a : Nat} {x : Int} {f : Nat × (Nat → Int)} (hrow : rowOk g) (hj : j < (g 1).toNat) (hf : gfitJ g j x = some f) (ha : a < mArms g j) : 0 ≤ f.2 a ∧ f.2 a + mAt g j (12 + a) ≤ 16 := by
  have hjo := row_j hrow hj
  unfold gfitJ at hf
  have := gfit_in (fun a ha => by rw [cut_at ha]; have := (jo_a hjo ha).1; omega) (mArms g j) (Nat.le_refl _) f hf a (plW_all ha)
  rwa [cut_at ha] at this
theorem fit_bits {g : Nat → Int} {j c : Nat} {x : Int} {f : Nat × (Nat → Int)} (hrow : rowOk g) (hj : j < (g 1).toNat) (hf : gfitJ g j x = some f) : (f.1.testBit c = true ↔ ∃ a, a < mArms g j ∧ (bitsN (f.2 a).toNat (mAt g j (12 + a)).toNat).testBit c = true) ∧ ∀ a a', a < mArms g j → a' < mArms g j → (bitsN (f.2 a).toNat (mAt g j (12 + a)).toNat).testBit c = true → (bitsN (f.2 a').toNat (mAt g j (12 + a')).toNat).testBit c = true → a' = a := by
  have hjo := row_j hrow hj
  unfold gfitJ at hf
  have hw : ∀ a, a < mArms g j → 0 ≤ (cut 0 (mArms g j) fun a => mAt g j (12 + a)) a := fun a ha => by rw [cut_at ha]; have := (jo_a hjo ha).1; omega
  have ho := gfit_own (c := c) _ (Nat.le_refl _) f hf
  have hfr := gfit_free hw (c := c) _ (Nat.le_refl _) f hf
  refine ⟨⟨fun h => ?_, fun h => ?_⟩, fun a a' ha ha' h1 h2 => ?_⟩
  · obtain ⟨a, h1, h2⟩ := ho.mp h
    have hal := plW_bit _ (Nat.le_refl _) h1
    rw [cut_at hal] at h2
    exact ⟨a, hal, h2⟩
  · obtain ⟨a, h1, h2⟩ := h
    exact ho.mpr ⟨a, plW_all h1, by rw [cut_at h1]; exact h2⟩
  · exact (hfr a (plW_all ha) (by rw [cut_at ha]; exact h1)).2 a' (plW_all ha') (by rw [cut_at ha']; exact h2)
theorem star_ho {g : Nat → Int} {j c k a : Nat} {F : Nat → Int} (hrow : rowOk g) (hj : j < (g 1).toNat) (h6 : g 6 < 80) : hoC (starF g j (mArms g j) F) c k a ↔ (k ≠ j ∧ hoC g c k a) ∨ (k = j ∧ a < mArms g j ∧ (bitsN (F a).toNat (mAt g j (12 + a)).toNat).testBit c = true) := by
  have hjo := row_j hrow hj
  have h4 := jo_4 hjo
  have hn := row_n hrow hj
  have q6 : 0 ≤ g 6 ∧ g 6 < 80 := ⟨hrow.2.2.2.2.2.2.2.1.1, h6⟩
  have e0 : starF g j (mArms g j) F 0 = g 0 := starF_lo (by omega) (by omega) (by omega)
  have e1 : starF g j (mArms g j) F 1 = g 1 := starF_lo (by omega) (by omega) (by omega)
  by_cases hk : k < (g 1).toNat
  · have hk8 := row_n hrow hk
    by_cases e : k = j
    · subst e
      have em : mArms (starF g k (mArms g k) F) k = mArms g k := by
        show (mAt _ k 4).toNat = _
        rw [star_at hn hn (by omega) h4.2.1 q6 (by omega)]
        rfl
      unfold hoC
      rw [em, e1]
      constructor
      · rintro ⟨a1, a2, a3, a4⟩
        refine Or.inr ⟨rfl, a2, ?_⟩
        unfold mHeldBits at a4
        rwa [star_c hn h4.2.1 q6 a2, star_at hn hn (by omega) h4.2.1 q6 (by omega)] at a4
      · rintro (⟨h, _⟩ | ⟨_, a2, a4⟩)
        · exact absurd rfl h
        · refine ⟨hk, a2, holds_2 ⟨star_5 hn h4.2.1 q6, ?_⟩, ?_⟩
          · rw [star_e hn h4.2.1 q6 a2, e0]
            have := (jo_a hjo a2).2.1
            have := lastF_1 (g := g) (j := k) (a := a)
            omega
          · unfold mHeldBits
            rwa [star_c hn h4.2.1 q6 a2, star_at hn hn (by omega) h4.2.1 q6 (by omega)]
    · rw [hoC_congr e0 e1 (jo_4 (row_j hrow hk)).2.1 fun w hw => star_at hn hk8 (by omega) h4.2.1 q6 (Or.inl e)]
      constructor
      · exact fun h => Or.inl ⟨e, h⟩
      · rintro (⟨_, h⟩ | ⟨h, _⟩)
        · exact h
        · exact absurd h e
  · constructor
    · rintro ⟨h, _⟩
      rw [e1] at h
      exact absurd h hk
    · rintro (⟨_, h, _⟩ | ⟨rfl, _⟩)
      · exact absurd h hk
      · exact absurd hj hk
theorem staTo_congr {g g' : Nat → Int} {n : Nat} (h : ∀ j, j < n → mAt g' j 6 = mAt g j 6) : staTo g' n = staTo g n := by
  unfold staTo
  exact sumTo_congr fun j hj => by rw [h j hj]
theorem sta_lt {g : Nat → Int} {j : Nat} : ∀ {n : Nat}, j < n → mAt g j 6 < 0 → staTo g n < n
  | 0, h, _ => absurd h (Nat.not_lt_zero j)
  | n + 1, h, h6 => by
    have e : staTo g (n + 1) = staTo g n + (if decide (0 ≤ mAt g n 6) = true then 1 else 0) := rfl
    have hr := sumTo_rg (f := fun j => if decide (0 ≤ mAt g j 6) = true then (1 : Int) else 0) (c := 1) (n := n) (fun i _ => by (try dsimp only); split <;> omega)
    change 0 ≤ staTo g n ∧ staTo g n ≤ 1 * (n : Int) at hr
    rw [e]
    by_cases c : j = n
    · subst c
      rw [if_neg (by simp; omega)]
      omega
    · have := sta_lt (g := g) (n := n) (by omega) h6
      split <;> omega
theorem row_6 {g : Nat → Int} {j : Nat} (hI : rowI g) (hj : j < (g 1).toNat) (h6 : mAt g j 6 < 0) : g 6 < 80 := by
  have := sta_lt hj h6
  have := hI.1.2.2.1
  have := hI.2.2.2.2
  omega
theorem star_row {g : Nat → Int} {j : Nat} {f : Nat × (Nat → Int)} (hI : rowI g) (hj : j < (g 1).toNat) (h5 : mAt g j 5 = 0) (h9 : mAt g j 9 < 0) (hf : gfitJ g j (g 0) = some f) : rowI (starF g j (mArms g j) f.2) := by
  obtain ⟨hrow, hcol, hdis, hrun, hsta⟩ := id hI
  have hjo := row_j hrow hj
  have h4 := jo_4 hjo
  have hn := row_n hrow hj
  obtain ⟨b0, b1, b2, b3, b4, b5, b6, b7, b8, b9, b10, b11, b12, b13, b14, b15⟩ := id hjo
  have hq6 := b12 h5
  have h6 := row_6 hI hj (by omega)
  obtain ⟨r1, r2, r3, r4, r5, r6, r7, r8, r9, r10, r11, r12, r13, r14⟩ := id hrow
  have q6 : 0 ≤ g 6 ∧ g 6 < 80 := ⟨r8.1, h6⟩
  have lo := fun b (h : b < 96) (h6 : b ≠ 6) (h7 : b ≠ 7) => starF_lo (g := g) (F := f.2) (j := j) (n := mArms g j) (b := b) h h6 h7
  have e0 := lo 0 (by omega) (by omega) (by omega)
  have e1 := lo 1 (by omega) (by omega) (by omega)
  have hin := fun a ha => fit_in (a := a) hrow hj hf ha
  have hat := fun k w (hk : k < 80) (hw : w < 32) h => star_at (g := g) (F := f.2) (j := j) (n := mArms g j) (k := k) (w := w) hn hk hw h4.2.1 q6 h
  have hst : starF g j (mArms g j) f.2 6 = staTo (starF g j (mArms g j) f.2) (g 1).toNat := by
    rw [starF_6, hsta]
    unfold staTo
    have hc : sumTo (fun i => if decide (0 ≤ mAt (starF g j (mArms g j) f.2) i 6) = true then (1 : Int) else 0) (g 1).toNat = sumTo (fun i => if i = j then (1 : Int) else if decide (0 ≤ mAt g i 6) = true then (1 : Int) else 0) (g 1).toNat := sumTo_congr fun i hi => by
      by_cases e : i = j
      · subst e; rw [star_6 hn h4.2.1 q6, if_pos (by simpa using r2.1), if_pos rfl]
      · rw [hat i 6 (row_n hrow hi) (by omega) (Or.inl e), if_neg e]
    have hu2 := sumTo_upd (f := fun j => if decide (0 ≤ mAt g j 6) = true then (1 : Int) else 0) (g := fun i => if i = j then (1 : Int) else if decide (0 ≤ mAt g i 6) = true then (1 : Int) else 0) (z := j) (d := 1)
      (by (try dsimp only); rw [if_pos rfl, if_neg (by simp; omega)]; rfl) (fun i hi => by (try dsimp only); rw [if_neg hi]) (n := (g 1).toNat)
    rw [hc, hu2, if_pos hj]
  refine ⟨⟨?_, by rw [e0]; exact r2, by rw [e1]; exact r3, by rw [lo 2 (by omega) (by omega) (by omega)]; exact r4, by rw [lo 3 (by omega) (by omega) (by omega)]; exact r5, by rw [lo 4 (by omega) (by omega) (by omega)]; exact r6, by rw [lo 5 (by omega) (by omega) (by omega)]; exact r7, by rw [starF_6]; omega, starF_7 r9, fun a ha => by rw [lo (8 + a) (by omega) (by omega) (by omega)]; exact r10 a ha, fun a ha => by rw [lo (16 + a) (by omega) (by omega) (by omega)]; exact r11 a ha, ?_, ?_, ?_⟩, ?_, ?_, ?_, by rw [e1]; exact hst⟩
  · -- ranges
    unfold starF stJ
    have hs : gRange (stA (jput (jput g j 5 1) j 6 (g 0)) j f.2 (mArms g j)) := by
      refine gRange_stA (gRange_jput (gRange_jput r1 ⟨by omega, by omega⟩) (r1 0)) _ fun a ha => ?_
      have k1 := hin a ha
      have k2 := (jo_a hjo ha).1
      have k3 := (jo_a hjo ha).2.1
      have k4 := lastF_1 (g := jput (jput g j 5 1) j 6 (g 0)) (j := j) (a := a)
      have e5 : mAt (jput (jput g j 5 1) j 6 (g 0)) j (16 + a) = mAt g j (16 + a) := by
        rw [mAt_jput (by omega) (by omega), if_neg (by omega), mAt_jput (by omega) (by omega), if_neg (by omega)]
      have e6 : jput (jput g j 5 1) j 6 (g 0) 0 = g 0 := by rw [jput_lo (by omega), jput_lo (by omega)]
      rw [e5, e6]
      exact ⟨⟨by omega, by omega⟩, ⟨by omega, by omega⟩⟩
    exact gRange_put (gRange_put (gRange_hapF hs (by rw [stA_lo (by omega), jput_lo (by omega), jput_lo (by omega)]; exact r9) ⟨by omega, by omega⟩ ⟨by omega, by omega⟩) ⟨by omega, by omega⟩) ⟨by omega, by omega⟩
  · -- jobs
    intro k hk
    rw [e1] at hk
    have hk8 := row_n hrow hk
    by_cases e : k = j
    · subst e
      have em : mArms (starF g k (mArms g k) f.2) k = mArms g k := by
        show (mAt _ k 4).toNat = _
        rw [hat k 4 hk8 (by omega) (by omega)]
        rfl
      unfold jOk
      rw [em, e0, star_5 hn h4.2.1 q6, star_6 hn h4.2.1 q6, hat k 0 hk8 (by omega) (by omega), hat k 1 hk8 (by omega) (by omega), hat k 2 hk8 (by omega) (by omega), hat k 3 hk8 (by omega) (by omega), hat k 4 hk8 (by omega) (by omega), hat k 7 hk8 (by omega) (by omega), hat k 8 hk8 (by omega) (by omega), hat k 9 hk8 (by omega) (by omega), hat k 10 hk8 (by omega) (by omega), hat k 11 hk8 (by omega) (by omega)]
      refine ⟨b0, b1, b2, b3, b4, by omega, by omega, b7, b8, b9, b10, b11, by omega, by omega, by omega, fun a ha => ?_⟩
      have k1 := hin a ha
      obtain ⟨k2, k3, k5⟩ := jo_a hjo ha
      have k4 := lastF_1 (g := g) (j := k) (a := a)
      unfold aOk
      rw [star_5 hn h4.2.1 q6, star_6 hn h4.2.1 q6, star_c hn h4.2.1 q6 ha, star_e hn h4.2.1 q6 ha, hat k 9 hk8 (by omega) (by omega), hat k (12 + a) hk8 (by omega) (by omega), hat k (16 + a) hk8 (by omega) (by omega), hat k (28 + a) hk8 (by omega) (by omega)]
      refine ⟨k2, k3, by omega, by omega, fun _ => by omega, fun h => by omega⟩
    · exact jOk_eq (r12 k hk) e0 fun w hw => hat k w hk8 hw (Or.inl e)
  · -- spans
    intro s hs
    have h1 := r13 s hs
    have em : ∀ w, w < 6 → mSpan (starF g j (mArms g j) f.2) s w = mSpan g s w := fun w hw => lo _ (by omega) (by omega) (by omega)
    unfold spOk at *
    rw [em 0 (by omega), em 1 (by omega), em 2 (by omega), em 3 (by omega), em 4 (by omega), em 5 (by omega), e0, lo 5 (by omega) (by omega) (by omega)]
    exact h1
  · -- room
    intro k hk hk5
    rw [e1] at hk
    have hk8 := row_n hrow hk
    have e : k ≠ j := fun e => by subst e; rw [star_5 hn h4.2.1 q6] at hk5; omega
    have hk6 : mAt (starF g j (mArms g j) f.2) k 6 < 0 := by
      rw [hat k 6 hk8 (by omega) (Or.inl e)]
      rw [hat k 5 hk8 (by omega) (Or.inl e)] at hk5
      have := (r12 k hk).2.2.2.2.2.2.2.2.2.2.2.2.1 hk5
      omega
    have := sta_lt hk hk6
    rw [hst]
    omega
  · -- columns
    intro k a hk ha
    rw [e1] at hk
    have hk8 := row_n hrow hk
    have ek := jo_4 (r12 k hk)
    have em : mArms (starF g j (mArms g j) f.2) k = mArms g k := by
      show (mAt _ k 4).toNat = _
      rw [hat k 4 hk8 (by omega) (by omega)]
      rfl
    rw [em] at ha
    rw [hat k (12 + a) hk8 (by omega) (by omega)]
    by_cases e : k = j
    · subst e
      rw [star_c hn h4.2.1 q6 ha]
      exact (hin a ha).2
    · rw [hat k (20 + a) hk8 (by omega) (Or.inl e)]
      exact hcol k a hk ha
  · -- apart
    intro c k a k' a' h1 h2
    have hb := fit_bits (c := c) hrow hj hf
    have hfi := (fit_idle hrow hj hf).2.2 c
    rw [star_ho hrow hj h6] at h1 h2
    rcases h1 with ⟨h1, h1'⟩ | ⟨rfl, h1, h1'⟩ <;> rcases h2 with ⟨h2, h2'⟩ | ⟨rfl, h2, h2'⟩
    · exact hdis c k a k' a' h1' h2'
    · exact absurd h1' (hfi k a (hb.1.mpr ⟨a', h2, h2'⟩))
    · exact absurd h2' (hfi k' a' (hb.1.mpr ⟨a, h1, h1'⟩))
    · exact ⟨rfl, hb.2 a a' h1 h2 h1' h2'⟩
  · -- who runs holds
    intro k hk hk5
    rw [e1] at hk
    have hk8 := row_n hrow hk
    have ek := jo_4 (r12 k hk)
    have em : mArms (starF g j (mArms g j) f.2) k = mArms g k := by
      show (mAt _ k 4).toNat = _
      rw [hat k 4 hk8 (by omega) (by omega)]
      rfl
    rw [em, e0]
    by_cases e : k = j
    · subst e
      refine ⟨0, by omega, ?_⟩
      have := star_e (F := f.2) hn h4.2.1 q6 (a := 0) (by omega)
      rw [show (24 : Nat) = 24 + 0 from rfl, this]
      have := (jo_a hjo (a := 0) (by omega)).2.1
      have := lastF_1 (g := g) (j := k) (a := 0)
      omega
    · rw [hat k 5 hk8 (by omega) (Or.inl e)] at hk5
      obtain ⟨a, ha, h⟩ := hrun k hk hk5
      exact ⟨a, ha, by rw [hat k (24 + a) hk8 (by omega) (Or.inl e)]; exact h⟩
