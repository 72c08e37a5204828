/-! ===== p42: what the other calls leave of what the law knows ===== -/
theorem held_le2 {g g' : Nat → Int} {acc : Int} (hI : rowI g) (hI' : rowI g') (h : ∀ c j a, hoC g' c j a → hoC g c j a ∧ mAt g' j 0 = mAt g j 0) : heldF g' acc ≤ heldF g acc := by
  rw [heldF_is hI'.1 hI'.2.2.1, heldF_is hI.1 hI.2.2.1]
  unfold heldTo
  refine sumTo_le fun c hc => ?_
  (try dsimp only)
  rcases hold_cases (g := g') (c := c) hI'.2.2.1 with ⟨j, a, q1, q2⟩ | ⟨-, q2⟩
  · have q3 := hold_eq hI.2.2.1 (h c j a q1).1
    unfold hoAcc
    rw [q2, q3, Int.toNat_natCast, (h c j a q1).2]
    exact Int.le_refl _
  · unfold hoAcc
    rw [q2]
    rw [if_neg (by simp)]
    split <;> omega
theorem law_near {a n : Nat} {sp : Nat → Nat → Int} {g g' u : Nat → Int} (hI : rowI g) (hI' : rowI g') (h0 : g' 0 = g 0) (h1 : g' 1 = g 1) (h6 : g' 6 = g 6) (hl : g' (16 + a) = g (16 + a)) (hs : ∀ b, 24 ≤ b → b < 96 → g' b = g b) (hc : ∀ j w, j < (g 1).toNat → (w = 0 ∨ w = 2 ∨ (4 ≤ w ∧ w < 7) ∨ (12 ≤ w ∧ w < 28)) → mAt g' j w = mAt g j w) (h : lawI a n sp g u) : lawI a n sp g' u := by
  obtain ⟨hA, hL, ⟨hu8, hu9⟩, hS⟩ := h
  have hrow := hI.1
  have h4 : ∀ j, j < (g 1).toNat → mArms g j ≤ 4 := fun j hj => (jo_4 (row_j hrow hj)).2.1
  refine ⟨fun x hx => ?_, ?_, ⟨by rw [h6]; exact hu8, ?_⟩, fun s hs2 => ?_⟩
  · rw [h1] at hx
    exact armJ_fr (hA x hx) (h4 x hx) (by rw [h0]; exact Int.le_refl _) (by rw [h0]; exact Int.le_refl _) fun w hw => hc x w hx (by omega)
  · unfold limI at *
    rw [hl]
    refine Int.le_trans (held_le2 hI hI' fun c j b hh => ?_) hL
    have hj : j < (g 1).toNat := by have := hh.1; rw [h1] at this; exact this
    exact ⟨(hoC_congr h0 h1 (h4 j hj) fun w hw => hc j w hj (by omega)).mp hh, hc j 0 hj (by omega)⟩
  · rw [h1, hu9]
    exact (endTo_congr fun x hx => by rw [hc x 5 hx (by omega)]).symm
  · obtain ⟨s0, hz, hjs⟩ := hS s hs2
    refine ⟨s0, spZ_fr hz (by rw [h0]; exact Int.le_refl _) hs, fun x hx => ?_⟩
    rw [h1] at hx
    exact spJ_fr (hjs x hx) (h4 x hx) (fun w hw => hc x w hx (by omega)) (fun b hb => by have := h4 x hx; rw [hc x (24 + b) hx (by omega)]; exact Int.le_refl _)
theorem law_hold {a n k : Nat} {b : Int} {sp : Nat → Nat → Int} {g u : Nat → Int} (ha : a < 8) (hk : k < (g 1).toNat) (hI : rowI g) (hI' : rowI (holdF g k b)) (h : lawI a n sp g u) : lawI a n sp (holdF g k b) u := by
  have hk8 := row_n hI.1 hk
  have lo : ∀ x, x < 96 → holdF g k b x = g x := fun x hx => by
    unfold holdF
    split
    · exact jput_lo hx
    · exact (jput_lo hx).trans (jput_lo hx)
  have ce : ∀ j w, w < 32 → w ≠ 9 → w ≠ 10 → mAt (holdF g k b) j w = mAt g j w := fun j w hw h9 h10 => by
    unfold holdF
    split
    · exact put_o (by omega)
    · exact (put_o (by omega)).trans (put_o (by omega))
  exact law_near hI hI' (lo 0 (by omega)) (lo 1 (by omega)) (lo 6 (by omega)) (lo _ (by omega)) (fun b _ hb => lo b hb) (fun j w _ hw => ce j w (by omega) (by omega) (by omega)) h
theorem slot_free {g : Nat → Int} (h : slotF g < 12) : mSpan g (slotF g) 0 < 0 := of_decide_eq_true ((leastTo_le (p := fun s => decide (mSpan g s 0 < 0)) 12).2 h)
theorem law_keep {a n : Nat} {ab fr to acc : Int} {sp : Nat → Nat → Int} {g u : Nat → Int} (ha : a < 8) (hI : rowI g) (hI' : rowI (keepF g ab fr to acc)) (hf : spansF g < 12) (h : lawI a n sp g u) : lawI a n sp (keepF g ab fr to acc) u := by
  have hsl : slotF g < 12 := slot_lt hf
  obtain ⟨hA, hL, ⟨hu8, hu9⟩, hS⟩ := h
  have hrow := hI.1
  have lo : ∀ b, b < 24 → b ≠ 5 → keepF g ab fr to acc b = g b := fun b hb h5 => keep_o hsl (Or.inl hb) h5
  have em : ∀ x w, mAt (keepF g ab fr to acc) x w = mAt g x w := fun x w => keep_o hsl (Or.inr (by omega)) (by omega)
  have h4 : ∀ j, j < (g 1).toNat → mArms g j ≤ 4 := fun j hj => (jo_4 (row_j hrow hj)).2.1
  refine ⟨fun x hx => ?_, ?_, ⟨by rw [lo 6 (by omega) (by omega)]; exact hu8, ?_⟩, fun s hs => spI_keep hsl (slot_free hsl) (hS s hs)⟩
  · rw [lo 1 (by omega) (by omega)] at hx
    exact armJ_fr (hA x hx) (h4 x hx) (by rw [lo 0 (by omega) (by omega)]; exact Int.le_refl _) (by rw [lo 0 (by omega) (by omega)]; exact Int.le_refl _) fun w hw => em x w
  · unfold limI at *
    rw [lo _ (by omega) (by omega)]
    refine Int.le_trans (held_le2 hI hI' fun c j b hh => ⟨(sp_ho lo (fun b hb => keep_o hsl (Or.inr hb) (by omega))).mp hh, em j 0⟩) hL
  · rw [lo 1 (by omega) (by omega), hu9]
    exact (endTo_congr fun x hx => by rw [em]).symm
theorem law_keep1 {a n : Nat} {ab fr to acc : Int} {sp sp' : Nat → Nat → Int} {g u : Nat → Int} (ha : a < 8) (hI : rowI g) (hI' : rowI (keepF g ab fr to acc)) (hf : spansF g < 12) (h : lawI a n sp g u) (he : ∀ s, s < n → sp' s = sp s) (hs : sp' n 0 = ab / 100 ∧ sp' n 1 = ab % 100 ∧ sp' n 2 = fr ∧ sp' n 3 = to ∧ sp' n 4 = acc ∧ sp' n 5 = g 0) (hab : 0 ≤ ab / 100 ∧ ab / 100 ≤ ab % 100 ∧ ab % 100 ≤ 15) : lawI a (n + 1) sp' (keepF g ab fr to acc) u := by
  have h1 := law_keep ha hI hI' hf h
  refine ⟨h1.1, h1.2.1, h1.2.2.1, fun s hs2 => ?_⟩
  by_cases c : s = n
  · rw [c]
    exact spI_new (slot_lt hf) hI.1.2.2.2.2.2.2.1.1 h.1 hs hab
  · rw [he s (by omega)]
    exact h1.2.2.2 s (by omega)
theorem law_com {a n m : Nat} {acc rank part aft : Int} {w k : Nat → Int} {sp : Nat → Nat → Int} {g u : Nat → Int} (ha : a < 8) (hI : rowI g) (hI' : rowI (comF g acc rank part aft m w k)) (h1 : g 1 < 80) (h4 : m ≤ 4) (h : lawI a n sp g u) : lawI a n sp (comF g acc rank part aft m w k) u := by
  obtain ⟨hA, hL, ⟨hu8, hu9⟩, hS⟩ := h
  have hrow := hI.1
  have r1 := hrow.2.2.1
  have e0 : comF g acc rank part aft m w k 0 = g 0 := com_lo (by omega) (by omega) (by omega)
  have e5 : mAt (comF g acc rank part aft m w k) (g 1).toNat 5 = 0 := by rw [com_v (by omega) (by omega) h4]; exact newJ_v.2.2.2.2.2.1
  refine ⟨by rw [e0]; exact armI_com hrow h1 h4 hA, ?_, ⟨by rw [com_lo (by omega) (by omega) (by omega)]; exact hu8, ?_⟩, fun s hs => spI_com hrow h1 h4 (hS s hs)⟩
  · unfold limI at *
    rw [com_lo (by omega) (by omega) (by omega)]
    refine Int.le_trans (held_le2 hI hI' fun c j b hh => ?_) hL
    obtain ⟨q1, q2, q3, q4⟩ := hh
    rw [com_1] at q1
    by_cases ex : j = (g 1).toNat
    · rw [ex] at q3
      have := (holds_1 q3).1
      rw [e5] at this
      exact absurd this (by decide)
    · have hj : j < (g 1).toNat := by omega
      have he : ∀ v, v < 32 → mAt (comF g acc rank part aft m w k) j v = mAt g j v := fun v hv => com_o (row_n hrow hj) hv h4 ex
      have em : mArms (comF g acc rank part aft m w k) j = mArms g j := congrArg Int.toNat (he 4 (by omega))
      rw [em] at q2
      have h44 := (jo_4 (row_j hrow hj)).2.1
      refine ⟨⟨hj, q2, ?_, ?_⟩, he 0 (by omega)⟩
      · have := holds_1 q3
        rw [he 5 (by omega), he (24 + b) (by omega), e0] at this
        exact holds_2 this
      · unfold mHeldBits at *
        rw [he (20 + b) (by omega), he (12 + b) (by omega)] at q4
        exact q4
  · rw [com_1, show (g 1 + 1).toNat = (g 1).toNat + 1 by omega, hu9]
    have e1 : endTo (comF g acc rank part aft m w k) ((g 1).toNat + 1) = endTo (comF g acc rank part aft m w k) (g 1).toNat + (if decide (mAt (comF g acc rank part aft m w k) (g 1).toNat 5 = 2 ∨ mAt (comF g acc rank part aft m w k) (g 1).toNat 5 = 3) = true then 1 else 0) := rfl
    rw [e1, e5, if_neg (by decide), Int.add_zero]
    exact (endTo_congr fun x hx => by rw [com_o (row_n hrow hx) (by omega) h4 (by omega)]).symm
theorem offL_ind1 {P : (Nat → Int) → Prop} {rec : oSt → Nat → oSt × Int} {j : Nat} {s0 : oSt × Int} (hrec : ∀ s k, rowI s.1 → k < (s.1 1).toNat → mAt s.1 k 5 ≤ 1 → P s.1 → P (rec s k).1.1) (hk : ∀ s k, rowI s.1 → k < (s.1 1).toNat → offKeep k s.1 (rec s k).1.1) (hI : rowI s0.1.1) (h0 : P s0.1.1) : ∀ i, j + 1 + i ≤ (s0.1.1 1).toNat → P (offL rec j s0 i).1.1
  | 0, _ => h0
  | i + 1, hi => by
    have ih := offL_ind1 (j := j) hrec hk hI h0 i (by omega)
    obtain ⟨a, b, -⟩ := offL_keep (j := j) hk hI i (by omega)
    have e1 := b 1 (by omega) (by omega)
    have hn : (offL rec j s0 (i + 1)) = if mAt (offL rec j s0 i).1.1 (j + 1 + i) 5 = 0 ∧ mAt (offL rec j s0 i).1.1 (j + 1 + i) 3 = (j : Int) then ((rec (offL rec j s0 i).1 (j + 1 + i)).1, (offL rec j s0 i).2 + (rec (offL rec j s0 i).1 (j + 1 + i)).2) else offL rec j s0 i := rfl
    rw [hn]
    clear hn
    generalize offL rec j s0 i = S at *
    split
    · rename_i h
      exact hrec S.1 (j + 1 + i) a (by rw [e1]; omega) (by rw [h.1]; decide) ih
    · exact ih
theorem offF_ind1 {P : (Nat → Int) → Prop} (h1 : ∀ g j, rowI g → j < (g 1).toNat → mAt g j 5 ≤ 1 → P g → P (of1 g j)) : ∀ f (s : oSt) j, rowI s.1 → j < (s.1 1).toNat → mAt s.1 j 5 ≤ 1 → P s.1 → P (offF f s j).1.1
  | 0, _, _, _, _, _, h => h
  | f + 1, s, j, hI, hj, h5, h => by
    have e1 : of1 s.1 j 1 = s.1 1 := of1_lo (by omega) (by omega)
    exact offL_ind1 (rec := offF f) (j := j) (s0 := ((of1 s.1 j, of1U s.2), 1)) (fun s k a b d c => offF_ind1 h1 f s k a b d c) (fun s k a b => offF_keep f s k a b) (of1_row hI hj) (h1 _ _ hI hj h5 h) _ (by show _ ≤ (of1 s.1 j 1).toNat; rw [e1]; omega)
theorem law_off {a n k : Nat} {sp : Nat → Nat → Int} {g : Nat → Int} {U : Nat → Nat → Int} (ha : a < 8) (hI : rowI g) (hk : k < (g 1).toNat) (h1 : mAt g k 5 ≤ 1) (h : lawI a n sp g (U 183)) : lawI a n sp (offF 100 (g, U) k).1.1 ((offF 100 (g, U) k).1.2 183) := by
  have h2 := offF_ind1 (P := fun g => lawI a n sp g (U 183)) (fun g j q1 q2 q3 q4 => law_of1 ha q1 q2 q3 q4) 100 (g, U) k hI hk h1 h
  obtain ⟨-, -, q3, -⟩ := offF_V 100 (g, U) (g, U) k rfl
  rw [q3]
  have e : ∀ x, x ≠ 11 → ∀ v : Int, upZ U 183 11 v 183 x = U 183 x := fun x hx v => by simp [upZ, hx]
  obtain ⟨b1, b2, ⟨b3, b4⟩, b5⟩ := h2
  exact ⟨b1, b2, ⟨(e 8 (by omega) _).trans b3, by show upZ U 183 11 _ 183 9 + upZ U 183 11 _ 183 10 = _; rw [e 9 (by omega), e 10 (by omega)]; exact b4⟩, b5⟩
theorem law_start {a : Nat} {sp : Nat → Nat → Int} {g u : Nat → Int} (h1 : g 1 = 0) (h6 : g 6 = 0) (hl : 0 ≤ g (16 + a)) (hu : u 8 = 0 ∧ u 9 = 0 ∧ u 10 = 0) : lawI a 0 sp g u := by
  have e1 : (g 1).toNat = 0 := by omega
  refine ⟨fun j hj => by omega, ?_, ⟨by omega, ?_⟩, fun s hs => absurd hs (Nat.not_lt_zero s)⟩
  · unfold limI heldF
    rw [e1]
    exact hl
  · rw [e1]
    show u 9 + u 10 = 0
    omega
