/-! ===== a job that comes ===== -/
section COM
variable {g : Nat → Int} {acc rank part aft : Int} {n : Nat} {w k : Nat → Int} {x v b : Nat}
theorem newJ_o {j : Nat} {armed : Int} (hx : x < 80) (hv : v < 32) (h : x ≠ j ∨ 12 ≤ v) : mAt (newJ g j acc rank part aft armed) x v = mAt g x v := by
  unfold newJ
  rw [mAt_jput (by omega) hv, if_neg (by omega), mAt_jput (by omega) hv, if_neg (by omega), mAt_jput (by omega) hv, if_neg (by omega), mAt_jput (by omega) hv, if_neg (by omega), mAt_jput (by omega) hv, if_neg (by omega), mAt_jput (by omega) hv, if_neg (by omega), mAt_jput (by omega) hv, if_neg (by omega), mAt_jput (by omega) hv, if_neg (by omega), mAt_jput (by omega) hv, if_neg (by omega), mAt_jput (by omega) hv, if_neg (by omega), mAt_jput (by omega) hv, if_neg (by omega), mAt_jput (by omega) hv, if_neg (by omega), mAt_put (Or.inl (by omega)) hx hv]
theorem newJ_v {j : Nat} {armed : Int} : mAt (newJ g j acc rank part aft armed) j 0 = acc ∧ mAt (newJ g j acc rank part aft armed) j 1 = rank ∧ mAt (newJ g j acc rank part aft armed) j 2 = part ∧ mAt (newJ g j acc rank part aft armed) j 3 = aft ∧ mAt (newJ g j acc rank part aft armed) j 4 = armed ∧ mAt (newJ g j acc rank part aft armed) j 5 = 0 ∧ mAt (newJ g j acc rank part aft armed) j 6 = -1 ∧ mAt (newJ g j acc rank part aft armed) j 7 = -1 ∧ mAt (newJ g j acc rank part aft armed) j 8 = -1 ∧ mAt (newJ g j acc rank part aft armed) j 9 = -1 ∧ mAt (newJ g j acc rank part aft armed) j 10 = 0 ∧ mAt (newJ g j acc rank part aft armed) j 11 = g 0 := by
  unfold newJ
  refine ⟨?_, ?_, ?_, ?_, ?_, ?_, ?_, ?_, ?_, ?_, ?_, ?_⟩ <;> simp (disch := omega) [mAt_jput]
theorem newA_cell {j : Nat} (hv : v < 32) : ∀ i, i ≤ 4 → mAt (newA g j w k i) x v = if x = j ∧ 12 ≤ v ∧ v < 12 + i then w (v - 12) else if x = j ∧ 16 ≤ v ∧ v < 16 + i then k (v - 16) else if x = j ∧ 20 ≤ v ∧ v < 20 + i then -1 else if x = j ∧ 24 ≤ v ∧ v < 24 + i then -1 else mAt g x v
  | 0, _ => by rw [newA, if_neg (by omega), if_neg (by omega), if_neg (by omega), if_neg (by omega)]
  | i + 1, hi => by
    rw [newA, mAt_jput (by omega) hv, mAt_jput (by omega) hv, mAt_jput (by omega) hv, mAt_jput (by omega) hv, newA_cell hv i (by omega)]
    repeat' split
    all_goals first | rfl | (exfalso; omega) | (rw [show v - 12 = i by omega]) | (rw [show v - 16 = i by omega])
theorem newA_hi {j : Nat} (hj : j < 80) (hb : 2656 ≤ b) : ∀ i, i ≤ 4 → newA g j w k i b = g b
  | 0, _ => rfl
  | i + 1, hi => by
    rw [newA, jput_hi hj (by omega) hb, jput_hi hj (by omega) hb, jput_hi hj (by omega) hb, jput_hi hj (by omega) hb, newA_hi hj hb i (by omega)]
theorem newJ_hi {j : Nat} {armed : Int} (hj : j < 80) (hb : 2656 ≤ b) : newJ g j acc rank part aft armed b = g b := by
  unfold newJ
  rw [jput_hi hj (by omega) hb, jput_hi hj (by omega) hb, jput_hi hj (by omega) hb, jput_hi hj (by omega) hb, jput_hi hj (by omega) hb, jput_hi hj (by omega) hb, jput_hi hj (by omega) hb, jput_hi hj (by omega) hb, jput_hi hj (by omega) hb, jput_hi hj (by omega) hb, jput_hi hj (by omega) hb, jput_hi hj (by omega) hb, put_o (by omega)]
theorem newJ_1 {j : Nat} {armed : Int} : newJ g j acc rank part aft armed 1 = g 1 + 1 := by
  unfold newJ
  rw [jput_lo (by omega), jput_lo (by omega), jput_lo (by omega), jput_lo (by omega), jput_lo (by omega), jput_lo (by omega), jput_lo (by omega), jput_lo (by omega), jput_lo (by omega), jput_lo (by omega), jput_lo (by omega), jput_lo (by omega), put_at]
theorem com_o (hx : x < 80) (hv : v < 32) (h4 : n ≤ 4) (h : x ≠ (g 1).toNat) : mAt (comF g acc rank part aft n w k) x v = mAt g x v := by
  unfold comF
  rw [mAt_hapF hx hv, newA_cell hv n h4, if_neg (by omega), if_neg (by omega), if_neg (by omega), if_neg (by omega), newJ_o hx hv (Or.inl h)]
theorem com_v (hj : (g 1).toNat < 80) (hv : v < 12) (h4 : n ≤ 4) : mAt (comF g acc rank part aft n w k) (g 1).toNat v = mAt (newJ g (g 1).toNat acc rank part aft n) (g 1).toNat v := by
  unfold comF
  rw [mAt_hapF hj (by omega), newA_cell (by omega) n h4, if_neg (by omega), if_neg (by omega), if_neg (by omega), if_neg (by omega)]
theorem com_a {a : Nat} (hj : (g 1).toNat < 80) (h4 : n ≤ 4) (ha : a < n) : mAt (comF g acc rank part aft n w k) (g 1).toNat (12 + a) = w a ∧ mAt (comF g acc rank part aft n w k) (g 1).toNat (16 + a) = k a ∧ mAt (comF g acc rank part aft n w k) (g 1).toNat (20 + a) = -1 ∧ mAt (comF g acc rank part aft n w k) (g 1).toNat (24 + a) = -1 := by
  unfold comF
  rw [mAt_hapF hj (by omega), mAt_hapF hj (by omega), mAt_hapF hj (by omega), mAt_hapF hj (by omega), newA_cell (by omega) n h4, newA_cell (by omega) n h4, newA_cell (by omega) n h4, newA_cell (by omega) n h4]
  refine ⟨?_, ?_, ?_, ?_⟩
  · rw [if_pos (by omega), show 12 + a - 12 = a by omega]
  · rw [if_neg (by omega), if_pos (by omega), show 16 + a - 16 = a by omega]
  · rw [if_neg (by omega), if_neg (by omega), if_pos (by omega)]
  · rw [if_neg (by omega), if_neg (by omega), if_neg (by omega), if_pos (by omega)]
theorem com_lo (hb : b < 96) (h1 : b ≠ 1) (h7 : b ≠ 7) : comF g acc rank part aft n w k b = g b := by
  unfold comF
  rw [hapF_lo (by omega) h7, newA_lo hb, newJ_lo hb h1]
theorem com_1 : comF g acc rank part aft n w k 1 = g 1 + 1 := by
  unfold comF
  rw [hapF_lo (by omega) (by omega), newA_lo (by omega), newJ_1]
theorem com_pre7 : newA (newJ g (g 1).toNat acc rank part aft n) (g 1).toNat w k n 7 = g 7 := by rw [newA_lo (by omega), newJ_lo (by omega) (by omega)]
theorem com_hi (hj : (g 1).toNat < 80) (h4 : n ≤ 4) (h7 : 0 ≤ g 7 ∧ g 7 ≤ 60) (hb : (2656 ≤ b ∧ b < 2736) ∨ 2916 ≤ b) : comF g acc rank part aft n w k b = g b := by
  unfold comF
  rcases hb with hb | hb
  · rw [hapF_lo (by omega) (by omega), newA_hi hj (by omega) n h4, newJ_hi hj (by omega)]
  · rw [hapF_hi hb (by rw [com_pre7]; exact h7), newA_hi hj (by omega) n h4, newJ_hi hj (by omega)]
end COM
theorem gRange_newA {g : Nat → Int} {j : Nat} {w k : Nat → Int} (h : gRange g) : ∀ i, (∀ a, a < i → rg (w a) ∧ rg (k a)) → gRange (newA g j w k i)
  | 0, _ => h
  | i + 1, hf => by
    have ih := gRange_newA (j := j) h i fun a ha => hf a (by omega)
    obtain ⟨h1, h2⟩ := hf i (by omega)
    rw [newA]
    exact gRange_jput (gRange_jput (gRange_jput (gRange_jput ih (by assumption)) (by assumption)) ⟨by omega, by omega⟩) ⟨by omega, by omega⟩
theorem com_row {g : Nat → Int} {acc rank part aft : Int} {n : Nat} {w k : Nat → Int} (hI : rowI g) (h1 : g 1 < 80) (h4 : 1 ≤ n ∧ n ≤ 4) (hw : ∀ a, a < n → (1 ≤ w a ∧ w a ≤ 16) ∧ (1 ≤ k a ∧ k a ≤ 200)) (ha : 0 ≤ acc ∧ acc ≤ 7) (hr : 0 ≤ rank ∧ rank ≤ 9) (hp : 1 ≤ part ∧ part ≤ 150) (hf : -1 ≤ aft ∧ aft < g 1) : rowI (comF g acc rank part aft n w k) := by
  obtain ⟨hrow, hcol, hdis, hrun, hsta⟩ := id hI
  obtain ⟨r1, r2, r3, r4, r5, r6, r7, r8, r9, r10, r11, r12, r13, r14⟩ := id hrow
  obtain ⟨m, hm⟩ : ∃ m : Nat, g 1 = m := ⟨(g 1).toNat, by omega⟩
  have hmt : (g 1).toNat = m := by omega
  have lo := fun b (h : b < 96) (h1 : b ≠ 1) (h7 : b ≠ 7) => com_lo (g := g) (acc := acc) (rank := rank) (part := part) (aft := aft) (n := n) (w := w) (k := k) (b := b) h h1 h7
  have e1 : comF g acc rank part aft n w k 1 = g 1 + 1 := com_1
  have e1t : (comF g acc rank part aft n w k 1).toNat = m + 1 := by omega
  have e0 := lo 0 (by omega) (by omega) (by omega)
  have old := fun x v (hx : x < m) (hv : v < 32) => com_o (g := g) (acc := acc) (rank := rank) (part := part) (aft := aft) (n := n) (w := w) (k := k) (x := x) (v := v) (by omega) hv h4.2 (by omega)
  have nv := fun v (hv : v < 12) => com_v (g := g) (acc := acc) (rank := rank) (part := part) (aft := aft) (n := n) (w := w) (k := k) (v := v) (by omega) hv h4.2
  obtain ⟨v0, v1, v2, v3, v4, v5, v6, v7, v8, v9, v10, v11⟩ := newJ_v (g := g) (acc := acc) (rank := rank) (part := part) (aft := aft) (j := (g 1).toNat) (armed := n)
  have na := fun a (h : a < n) => com_a (g := g) (acc := acc) (rank := rank) (part := part) (aft := aft) (n := n) (w := w) (k := k) (a := a) (by omega) h4.2 h
  rw [hmt] at nv na v0 v1 v2 v3 v4 v5 v6 v7 v8 v9 v10 v11
  have hstm : staTo (comF g acc rank part aft n w k) (m + 1) = staTo g m := by
    have : staTo (comF g acc rank part aft n w k) (m + 1) = staTo (comF g acc rank part aft n w k) m + (if decide (0 ≤ mAt (comF g acc rank part aft n w k) m 6) = true then 1 else 0) := rfl
    rw [this, nv 6 (by omega), v6, staTo_congr fun j hj => old j 6 hj (by omega)]
    simp
  have hst6 : staTo g m ≤ m := by
    have := sumTo_rg (f := fun j => if decide (0 ≤ mAt g j 6) = true then (1 : Int) else 0) (c := 1) (n := m) (fun i _ => by (try dsimp only); split <;> omega)
    unfold staTo
    omega
  rw [hmt] at hsta
  have emn : mArms (comF g acc rank part aft n w k) m = n := by
    show (mAt _ m 4).toNat = n
    rw [nv 4 (by omega), v4]
    rfl
  have emo : ∀ x, x < m → mArms (comF g acc rank part aft n w k) x = mArms g x := fun x hx => by
    show (mAt _ x 4).toNat = _
    rw [old x 4 hx (by omega)]
    rfl
  have ho : ∀ c x a, hoC (comF g acc rank part aft n w k) c x a ↔ hoC g c x a := fun c x a => by
    unfold hoC
    rw [e1t, hmt]
    by_cases hx : x < m
    · have h4x := (jo_4 (r12 x (by omega))).2.1
      rw [emo x hx]
      by_cases hax : a < mArms g x
      · have q1 : mHolds (comF g acc rank part aft n w k) x a = mHolds g x a := by unfold mHolds; rw [old x 5 hx (by omega), old x (24 + a) hx (by omega), e0]
        have q2 : mHeldBits (comF g acc rank part aft n w k) x a = mHeldBits g x a := by unfold mHeldBits; rw [old x (20 + a) hx (by omega), old x (12 + a) hx (by omega)]
        rw [q1, q2]
        constructor
        · rintro ⟨_, a2, a3, a4⟩; exact ⟨hx, a2, a3, a4⟩
        · rintro ⟨_, a2, a3, a4⟩; exact ⟨by omega, a2, a3, a4⟩
      · constructor
        · rintro ⟨_, h, _⟩; exact absurd h hax
        · rintro ⟨_, h, _⟩; exact absurd h hax
    · constructor
      · rintro ⟨p1, p2, p3, p4⟩
        have : x = m := by omega
        subst this
        have := (holds_1 p3).1
        rw [nv 5 (by omega), v5] at this
        omega
      · rintro ⟨h, _⟩; exact absurd h hx
  refine ⟨⟨?_, by rw [e0]; exact r2, by rw [e1]; omega, by rw [lo 2 (by omega) (by omega) (by omega)]; exact r4, by rw [lo 3 (by omega) (by omega) (by omega)]; exact r5, by rw [lo 4 (by omega) (by omega) (by omega)]; exact r6, by rw [lo 5 (by omega) (by omega) (by omega)]; exact r7, by rw [lo 6 (by omega) (by omega) (by omega)]; exact r8, ?_, fun a ha => by rw [lo (8 + a) (by omega) (by omega) (by omega)]; exact r10 a ha, fun a ha => by rw [lo (16 + a) (by omega) (by omega) (by omega)]; exact r11 a ha, fun x hx => ?_, fun s hs => ?_, fun x hx h5 => ?_⟩, fun x a hx ha2 => ?_, fun c x a x' a' p q => hdis c x a x' a' ((ho c x a).mp p) ((ho c x' a').mp q), fun x hx h5 => ?_, ?_⟩
  · unfold comF
    have hJ : gRange (newJ g (g 1).toNat acc rank part aft n) := by
      unfold newJ
      exact gRange_jput (gRange_jput (gRange_jput (gRange_jput (gRange_jput (gRange_jput (gRange_jput (gRange_jput (gRange_jput (gRange_jput (gRange_jput (gRange_jput (gRange_put r1 ⟨by omega, by omega⟩) ⟨by omega, by omega⟩) ⟨by omega, by omega⟩) ⟨by omega, by omega⟩) ⟨by omega, by omega⟩) ⟨by omega, by omega⟩) ⟨by omega, by omega⟩) ⟨by omega, by omega⟩) ⟨by omega, by omega⟩) ⟨by omega, by omega⟩) ⟨by omega, by omega⟩) ⟨by omega, by omega⟩) (r1 0)
    have hA : gRange (newA (newJ g (g 1).toNat acc rank part aft n) (g 1).toNat w k n) := gRange_newA hJ n fun a ha => by
      have := hw a ha
      exact ⟨⟨by omega, by omega⟩, ⟨by omega, by omega⟩⟩
    exact gRange_hapF hA (by rw [com_pre7]; exact r9) ⟨by omega, by omega⟩ ⟨by omega, by omega⟩
  · unfold comF
    rw [hapF_7 (by rw [com_pre7]; exact r9)]
    split
    · omega
    · rename_i h
      rw [com_pre7] at *
      omega
  · rw [e1t] at hx
    by_cases c : x = m
    · subst c
      unfold jOk
      rw [emn, e0, nv 0 (by omega), v0, nv 1 (by omega), v1, nv 2 (by omega), v2, nv 3 (by omega), v3, nv 4 (by omega), v4, nv 5 (by omega), v5, nv 6 (by omega), v6, nv 7 (by omega), v7, nv 8 (by omega), v8, nv 9 (by omega), v9, nv 10 (by omega), v10, nv 11 (by omega), v11]
      refine ⟨ha, hr, hp, by omega, by omega, by omega, by omega, by omega, by omega, by omega, by omega, by omega, by omega, by omega, by omega, fun a haa => ?_⟩
      obtain ⟨n1, n2, n3, n4⟩ := na a haa
      have := hw a haa
      unfold aOk
      rw [n1, n2, n3, n4, nv 5 (by omega), v5, nv 6 (by omega), v6, nv 9 (by omega), v9]
      omega
    · exact jOk_eq (r12 x (by omega)) e0 fun v hv => old x v (by omega) hv
  · have h1 := r13 s hs
    have es : ∀ v, v < 6 → mSpan (comF g acc rank part aft n w k) s v = mSpan g s v := fun v hv => lo _ (by omega) (by omega) (by omega)
    unfold spOk at *
    rw [es 0 (by omega), es 1 (by omega), es 2 (by omega), es 3 (by omega), es 4 (by omega), es 5 (by omega), e0, lo 5 (by omega) (by omega) (by omega)]
    exact h1
  · rw [lo 6 (by omega) (by omega) (by omega)]
    omega
  · rw [e1t] at hx
    by_cases c : x = m
    · subst c
      rw [emn] at ha2
      obtain ⟨n1, n2, n3, n4⟩ := na a ha2
      have := hw a ha2
      rw [n1, n3]
      omega
    · rw [emo x (by omega)] at ha2
      have h4x := (jo_4 (r12 x (by omega))).2.1
      rw [old x (20 + a) (by omega) (by omega), old x (12 + a) (by omega) (by omega)]
      exact hcol x a (by omega) ha2
  · rw [e1t] at hx
    by_cases c : x = m
    · subst c
      rw [nv 5 (by omega), v5] at h5
      omega
    · rw [old x 5 (by omega) (by omega)] at h5
      obtain ⟨a, ha2, h⟩ := hrun x (by omega) h5
      have h4x := (jo_4 (r12 x (by omega))).2.1
      exact ⟨a, by rw [emo x (by omega)]; exact ha2, by rw [e0, old x (24 + a) (by omega) (by omega)]; exact h⟩
  · rw [lo 6 (by omega) (by omega) (by omega), e1t, hstm]
    exact hsta
