/-- other promises, ranks, holding back -/
theorem row_near {g g' : Nat → Int} (hI : rowI g) (hr : gRange g') (h7 : 0 ≤ g' 7 ∧ g' 7 ≤ 60) (lo : ∀ b, b < 96 → b ≠ 7 → g' b = g b) (he : ∀ k w, k < (g 1).toNat → w < 28 → w ≠ 1 → w ≠ 8 → w ≠ 9 → w ≠ 10 → mAt g' k w = mAt g k w)
    (hp : ∀ k, k < (g 1).toNat → (0 ≤ mAt g' k 1 ∧ mAt g' k 1 ≤ 9) ∧ (0 ≤ mAt g' k 10 ∧ mAt g' k 10 ≤ 1) ∧ (-1 ≤ mAt g' k 8 ∧ mAt g' k 8 ≤ 1000000) ∧ (-1 ≤ mAt g' k 9 ∧ mAt g' k 9 ≤ g 0 + 20000) ∧ (0 ≤ mAt g' k 9 → mAt g k 5 = 0 ∧ g 0 ≤ mAt g' k 9 ∧ ∀ a, a < mArms g k → 0 ≤ mAt g' k (28 + a) ∧ mAt g' k (28 + a) + mAt g k (12 + a) ≤ 16)) : rowI g' := by
  obtain ⟨hrow, hcol, hdis, hrun, hsta⟩ := id hI
  obtain ⟨r1, r2, r3, r4, r5, r6, r7, r8, r9, r10, r11, r12, r13, r14⟩ := id hrow
  have e0 := lo 0 (by omega) (by omega)
  have e1 := lo 1 (by omega) (by omega)
  have em : ∀ k, k < (g 1).toNat → mArms g' k = mArms g k := fun k hk => by
    show (mAt _ k 4).toNat = _
    rw [he k 4 hk (by omega) (by omega) (by omega) (by omega) (by omega)]
    rfl
  have ho : ∀ c k a, hoC g' c k a ↔ hoC g c k a := fun c k a => by
    by_cases hk : k < (g 1).toNat
    · exact hoC_congr e0 e1 (jo_4 (r12 k hk)).2.1 fun w hw => he k w hk (by omega) (by omega) (by omega) (by omega) (by omega)
    · constructor
      · rintro ⟨h, _⟩; rw [e1] at h; exact absurd h hk
      · rintro ⟨h, _⟩; exact absurd h hk
  have hst : g' 6 = staTo g' (g' 1).toNat := by
    rw [lo 6 (by omega) (by omega), e1, hsta]
    exact (staTo_congr fun j hj => he j 6 hj (by omega) (by omega) (by omega) (by omega) (by omega)).symm
  refine ⟨⟨hr, by rw [e0]; exact r2, by rw [e1]; exact r3, by rw [lo 2 (by omega) (by omega)]; exact r4, by rw [lo 3 (by omega) (by omega)]; exact r5, by rw [lo 4 (by omega) (by omega)]; exact r6, by rw [lo 5 (by omega) (by omega)]; exact r7, by rw [lo 6 (by omega) (by omega)]; exact r8, h7, fun a ha => by rw [lo (8 + a) (by omega) (by omega)]; exact r10 a ha, fun a ha => by rw [lo (16 + a) (by omega) (by omega)]; exact r11 a ha, ?_, ?_, ?_⟩, ?_, ?_, ?_, hst⟩
  · intro k hk
    rw [e1] at hk
    obtain ⟨b0, b1, b2, b3, b4, b5, b6, b7, b8, b9, b10, b11, b12, b13, b14, b15⟩ := r12 k hk
    obtain ⟨p1, p10, p8, p9, p28⟩ := hp k hk
    have h4 := jo_4 (r12 k hk)
    unfold jOk
    rw [em k hk, e0, he k 0 hk (by omega) (by omega) (by omega) (by omega) (by omega), he k 2 hk (by omega) (by omega) (by omega) (by omega) (by omega), he k 3 hk (by omega) (by omega) (by omega) (by omega) (by omega), he k 4 hk (by omega) (by omega) (by omega) (by omega) (by omega), he k 5 hk (by omega) (by omega) (by omega) (by omega) (by omega), he k 6 hk (by omega) (by omega) (by omega) (by omega) (by omega), he k 7 hk (by omega) (by omega) (by omega) (by omega) (by omega), he k 11 hk (by omega) (by omega) (by omega) (by omega) (by omega)]
    refine ⟨b0, p1, b2, b3, b4, b5, b6, b7, p8, p9, p10, b11, b12, b13, fun h => ⟨(p28 h).1, (p28 h).2.1⟩, fun a ha => ?_⟩
    obtain ⟨k1, k2, k3, k4, k5, k6⟩ := b15 a ha
    unfold aOk
    rw [he k (12 + a) hk (by omega) (by omega) (by omega) (by omega) (by omega), he k (16 + a) hk (by omega) (by omega) (by omega) (by omega) (by omega), he k (20 + a) hk (by omega) (by omega) (by omega) (by omega) (by omega), he k (24 + a) hk (by omega) (by omega) (by omega) (by omega) (by omega), he k 5 hk (by omega) (by omega) (by omega) (by omega) (by omega), he k 6 hk (by omega) (by omega) (by omega) (by omega) (by omega)]
    exact ⟨k1, k2, k3, k4, k5, fun h => (p28 h).2.2 a ha⟩
  · intro s hs
    have h1 := r13 s hs
    have es : ∀ w, w < 6 → mSpan g' s w = mSpan g s w := fun w hw => lo _ (by omega) (by omega)
    unfold spOk at *
    rw [es 0 (by omega), es 1 (by omega), es 2 (by omega), es 3 (by omega), es 4 (by omega), es 5 (by omega), e0, lo 5 (by omega) (by omega)]
    exact h1
  · intro k hk hk5
    rw [e1] at hk
    rw [he k 5 hk (by omega) (by omega) (by omega) (by omega) (by omega)] at hk5
    rw [lo 6 (by omega) (by omega)]
    exact r14 k hk hk5
  · intro k a hk ha
    rw [e1] at hk
    rw [em k hk] at ha
    have h4 := jo_4 (r12 k hk)
    rw [he k (20 + a) hk (by omega) (by omega) (by omega) (by omega) (by omega), he k (12 + a) hk (by omega) (by omega) (by omega) (by omega) (by omega)]
    exact hcol k a hk ha
  · intro c k a k' a' h1 h2
    exact hdis c k a k' a' ((ho c k a).mp h1) ((ho c k' a').mp h2)
  · intro k hk hk5
    rw [e1] at hk
    rw [he k 5 hk (by omega) (by omega) (by omega) (by omega) (by omega)] at hk5
    obtain ⟨a, ha, h⟩ := hrun k hk hk5
    have h4 := jo_4 (r12 k hk)
    exact ⟨a, by rw [em k hk]; exact ha, by rw [e0, he k (24 + a) hk (by omega) (by omega) (by omega) (by omega) (by omega)]; exact h⟩
theorem prom_o {g F : Nat → Int} {j n k w : Nat} {t was : Int} (hk : k < 80) (hw : w < 32) (hn : n ≤ 4) (h : k ≠ j ∨ (w ≠ 8 ∧ w ≠ 9 ∧ w < 28)) : mAt (promF g j t n F was) k w = mAt g k w := by
  rw [promF_cell hk hw hn, if_neg (by omega), if_neg (by omega), if_neg (by omega)]
theorem prom_9 {g F : Nat → Int} {j n : Nat} {t was : Int} (hj : j < 80) (hn : n ≤ 4) : mAt (promF g j t n F was) j 9 = t := by
  rw [promF_cell hj (by omega) hn, if_pos ⟨rfl, rfl⟩]
theorem prom_8 {g F : Nat → Int} {j n : Nat} {t was : Int} (hj : j < 80) (hn : n ≤ 4) : mAt (promF g j t n F was) j 8 = if mAt g j 8 < 0 then t else mAt g j 8 := by
  rw [promF_cell hj (by omega) hn, if_neg (by omega), if_neg (by omega)]
  by_cases c : mAt g j 8 < 0
  · rw [if_pos c, if_pos (by omega)]
  · rw [if_neg c, if_neg (by omega)]
theorem prom_28 {g F : Nat → Int} {j n a : Nat} {t was : Int} (hj : j < 80) (hn : n ≤ 4) (ha : a < n) : mAt (promF g j t n F was) j (28 + a) = F a := by
  rw [promF_cell hj (by omega) hn, if_neg (by omega), if_pos (by omega), show 28 + a - 28 = a by omega]
theorem gRange_prA {g F : Nat → Int} {j : Nat} (h : gRange g) : ∀ i, (∀ a, a < i → rg (F a)) → gRange (prA g j F i)
  | 0, _ => h
  | i + 1, hf => gRange_jput (gRange_prA h i fun a ha => hf a (by omega)) (hf i (by omega))
theorem prom_row {g : Nat → Int} {j : Nat} {t was : Int} {f : Nat × (Nat → Int)} (hI : rowI g) (hj : j < (g 1).toNat) (h5 : mAt g j 5 = 0) (ht : g 0 < t ∧ t ≤ g 0 + 20000) (hf : gfitJ g j t = some f) : rowI (promF g j t (mArms g j) f.2 was) := by
  have hrow := hI.1
  have hjo := row_j hrow hj
  have h4 := jo_4 hjo
  have hn := row_n hrow hj
  have hin := fun a ha => fit_in (a := a) hrow hj hf ha
  have r2 := hrow.2.1
  have r9 := hrow.2.2.2.2.2.2.2.2.1
  have h7p : prG g j t (mArms g j) f.2 7 = g 7 := prG_7
  have hG : gRange (prG g j t (mArms g j) f.2) := by
    have h1 : gRange (prA (jput g j 9 t) j f.2 (mArms g j)) := gRange_prA (gRange_jput hrow.1 ⟨by omega, by omega⟩) _ fun a ha => by
      have k1 := hin a ha
      have k2 := (jo_a hjo ha).1
      exact ⟨by omega, by omega⟩
    unfold prG
    split
    · exact gRange_jput h1 ⟨by omega, by omega⟩
    · exact h1
  refine row_near hI ?_ ?_ (fun b hb h7 => promF_lo hb h7) (fun k w hk hw h1 h8 h9 h10 => prom_o (row_n hrow hk) (by omega) h4.2.1 (Or.inr ⟨h8, h9, hw⟩)) (fun k hk => ?_)
  · unfold promF
    split
    · exact hG
    · exact gRange_hapF hG (by rw [h7p]; exact r9) ⟨by omega, by omega⟩ ⟨by omega, by omega⟩
  · unfold promF
    split
    · rw [h7p]; exact r9
    · rw [hapF_7 (by rw [h7p]; exact r9)]
      split
      · omega
      · rename_i h
        rw [h7p] at *
        omega
  · have hk8 := row_n hrow hk
    obtain ⟨b0, b1, b2, b3, b4, b5, b6, b7, b8, b9, b10, b11, b12, b13, b14, b15⟩ := row_j hrow hk
    by_cases e : k = j
    · subst e
      rw [prom_9 hk8 h4.2.1, prom_8 hk8 h4.2.1, prom_o hk8 (by omega) h4.2.1 (w := 1) (by omega), prom_o hk8 (by omega) h4.2.1 (w := 10) (by omega)]
      refine ⟨b1, b10, by split <;> omega, by omega, fun _ => ⟨h5, by omega, fun a ha => ?_⟩⟩
      rw [prom_28 hk8 h4.2.1 ha]
      exact hin a ha
    · rw [prom_o hk8 (by omega) h4.2.1 (w := 9) (Or.inl e), prom_o hk8 (by omega) h4.2.1 (w := 8) (Or.inl e), prom_o hk8 (by omega) h4.2.1 (w := 1) (Or.inl e), prom_o hk8 (by omega) h4.2.1 (w := 10) (Or.inl e)]
      refine ⟨b1, b10, b8, b9, fun h => ⟨(b14 h).1, (b14 h).2, fun a ha => ?_⟩⟩
      have hka := jo_4 (row_j hrow hk)
      rw [prom_o hk8 (by omega) h4.2.1 (w := 28 + a) (Or.inl e)]
      exact (b15 a ha).2.2.2.2.2 h
theorem gRange_clrP {g : Nat → Int} (h : gRange g) : ∀ i, gRange (clrP g i)
  | 0 => h
  | i + 1 => gRange_jput (gRange_clrP h i) ⟨by omega, by omega⟩
theorem p0_lo {g : Nat → Int} {b : Nat} (h : b < 96) : p0G g b = g b := clrP_lo h _
theorem p0_at {g : Nat → Int} {j w : Nat} (hw : w < 32) (h9 : w ≠ 9) : mAt (p0G g) j w = mAt g j w := by
  unfold p0G
  rw [clrP_at hw, if_neg (by omega)]
theorem p0_9 {g : Nat → Int} {j : Nat} (hj : j < (g 1).toNat) : mAt (p0G g) j 9 = -1 := by
  unfold p0G
  rw [clrP_at (by omega), if_pos ⟨hj, rfl⟩]
theorem p0_row {g : Nat → Int} (hI : rowI g) : rowI (p0G g) := by
  have hrow := hI.1
  refine row_near hI (gRange_clrP hrow.1 _) (by rw [p0_lo (by omega)]; exact hrow.2.2.2.2.2.2.2.2.1) (fun b hb h7 => p0_lo hb) (fun k w hk hw h1 h8 h9 h10 => p0_at (by omega) h9) (fun k hk => ?_)
  obtain ⟨b0, b1, b2, b3, b4, b5, b6, b7, b8, b9, b10, b11, b12, b13, b14, b15⟩ := row_j hrow hk
  rw [p0_9 hk, p0_at (by omega) (by omega), p0_at (by omega) (by omega), p0_at (by omega) (by omega)]
  have := hrow.2.1
  exact ⟨b1, b10, b8, by omega, fun h => by omega⟩
/-! the line -/
theorem insF_at {f : Nat → Nat} {k j b : Nat} : insF f k j b = if b < k then f b else if b = k then j else f (b - 1) := rfl
theorem lineG_inj {inl : Nat → Bool} {ah : Nat → Nat → Bool} : ∀ i b c, b < (lineG inl ah i).1 → c < (lineG inl ah i).1 → (lineG inl ah i).2 b = (lineG inl ah i).2 c → b = c
  | 0, b, c, h, _, _ => absurd h (Nat.not_lt_zero b)
  | i + 1, b, c, hb, hc, he => by
    have ih := lineG_inj (inl := inl) (ah := ah) i
    have hle := lineG_le (inl := inl) (ah := ah) i
    have e : lineG inl ah (i + 1) = if inl i = true then ((lineG inl ah i).1 + 1, insF (lineG inl ah i).2 (insK (ah i) (lineG inl ah i).2 (lineG inl ah i).1) i) else lineG inl ah i := rfl
    rw [e] at hb hc he
    by_cases ci : inl i = true
    · rw [if_pos ci] at hb hc he
      have hk := insK_le (p := ah i) (f := (lineG inl ah i).2) (lineG inl ah i).1
      generalize insK (ah i) (lineG inl ah i).2 (lineG inl ah i).1 = k at *
      generalize lineG inl ah i = l at *
      simp only [insF_at] at hb hc he
      have hv := fun b (hb : b < l.1) => (hle.2 b hb).1
      by_cases b1 : b < k <;> by_cases c1 : c < k
      · rw [if_pos b1, if_pos c1] at he
        exact ih b c (by omega) (by omega) he
      · rw [if_pos b1, if_neg c1] at he
        by_cases c2 : c = k
        · rw [if_pos c2] at he
          have := hv b (by omega)
          omega
        · rw [if_neg c2] at he
          have := ih b (c - 1) (by omega) (by omega) he
          omega
      · rw [if_neg b1, if_pos c1] at he
        by_cases b2 : b = k
        · rw [if_pos b2] at he
          have := hv c (by omega)
          omega
        · rw [if_neg b2] at he
          have := ih (b - 1) c (by omega) (by omega) he
          omega
      · rw [if_neg b1, if_neg c1] at he
        by_cases b2 : b = k <;> by_cases c2 : c = k
        · omega
        · rw [if_pos b2, if_neg c2] at he
          have := hv (c - 1) (by omega)
          omega
        · rw [if_neg b2, if_pos c2] at he
          have := hv (b - 1) (by omega)
          omega
        · rw [if_neg b2, if_neg c2] at he
          have := ih (b - 1) (c - 1) (by omega) (by omega) he
          omega
    · rw [if_neg ci] at hb hc he
      exact ih b c hb hc he
theorem lineG_congr {inl inl' : Nat → Bool} {ah ah' : Nat → Nat → Bool} : ∀ i, (∀ j, j < i → inl j = inl' j) → (∀ j x, j < i → x < j → ah j x = ah' j x) → lineG inl ah i = lineG inl' ah' i
  | 0, _, _ => rfl
  | i + 1, h1, h2 => by
    have ih := lineG_congr i (fun j hj => h1 j (by omega)) (fun j x hj hx => h2 j x (by omega) hx)
    have hle := lineG_le (inl := inl') (ah := ah') i
    have e : ∀ inl ah, lineG inl ah (i + 1) = if inl i = true then ((lineG inl ah i).1 + 1, insF (lineG inl ah i).2 (insK (ah i) (lineG inl ah i).2 (lineG inl ah i).1) i) else lineG inl ah i := fun _ _ => rfl
    rw [e, e, ih, h1 i (by omega), insK_congr (p := ah i) (p' := ah' i) _ (fun b hb => h2 i _ (by omega) (hle.2 b hb).1)]
/-! shares -/
theorem share_t {xa xb xc wa wb wc : Int} (ha : 0 < wa) (hb : 0 < wb) (hc : 0 < wc) (h1 : xc * wa < xa * wc) (h2 : xa * wb ≤ xb * wa) : xc * wb < xb * wc := by
  have q1 : xc * wa * wb < xa * wc * wb := Int.mul_lt_mul_of_pos_right h1 hb
  have q2 : xa * wb * wc ≤ xb * wa * wc := Int.mul_le_mul_of_nonneg_right h2 (by omega)
  have q3 : wa * (xc * wb) < wa * (xb * wc) := by
    have e1 : wa * (xc * wb) = xc * wa * wb := by rw [← Int.mul_assoc, Int.mul_comm wa xc]
    have e2 : wa * (xb * wc) = xb * wa * wc := by rw [← Int.mul_assoc, Int.mul_comm wa xb]
    have e3 : xa * wc * wb = xa * wb * wc := by rw [Int.mul_assoc, Int.mul_comm wc wb, ← Int.mul_assoc]
    rw [e1, e2]
    rw [e3] at q1
    exact Int.lt_of_lt_of_le q1 q2
  exact Int.lt_of_mul_lt_mul_left q3 (by omega)
theorem share_t' {xa xb xc wa wb wc : Int} (ha : 0 < wa) (hb : 0 < wb) (hc : 0 < wc) (h1 : xc * wa ≤ xa * wc) (h2 : xa * wb < xb * wa) : xc * wb < xb * wc := by
  have q1 : xc * wa * wb ≤ xa * wc * wb := Int.mul_le_mul_of_nonneg_right h1 (by omega)
  have q2 : xa * wb * wc < xb * wa * wc := Int.mul_lt_mul_of_pos_right h2 hc
  have q3 : wa * (xc * wb) < wa * (xb * wc) := by
    have e1 : wa * (xc * wb) = xc * wa * wb := by rw [← Int.mul_assoc, Int.mul_comm wa xc]
    have e2 : wa * (xb * wc) = xb * wa * wc := by rw [← Int.mul_assoc, Int.mul_comm wa xb]
    have e3 : xa * wc * wb = xa * wb * wc := by rw [Int.mul_assoc, Int.mul_comm wc wb, ← Int.mul_assoc]
    rw [e1, e2]
    rw [e3] at q1
    exact Int.lt_of_le_of_lt q1 q2
  exact Int.lt_of_mul_lt_mul_left q3 (by omega)
def wOk (g : Nat → Int) : Prop := ∀ a, a < 8 → 1 ≤ g (8 + a) ∧ g (8 + a) ≤ 100
theorem less_irr {g u : Nat → Int} {a : Nat} : lessS g u a a = false := by
  unfold lessS
  rw [decide_eq_false_iff_not]
  omega
theorem sumTo_lt {f g : Nat → Int} {z : Nat} : ∀ {n : Nat}, (∀ i, i < n → f i ≤ g i) → z < n → f z < g z → sumTo f n < sumTo g n
  | 0, _, h, _ => absurd h (Nat.not_lt_zero z)
  | n + 1, hh, hz, h => by
    have h1 := hh n (by omega)
    rw [sumTo, sumTo]
    by_cases c : z = n
    · subst c
      have := sumTo_le (f := f) (g := g) (n := z) (fun i hi => hh i (by omega))
      omega
    · have := sumTo_lt (f := f) (g := g) (z := z) (n := n) (fun i hi => hh i (by omega)) (by omega) h
      omega
theorem less_sh {g u : Nat → Int} {a b : Nat} (hw : wOk g) (ha : a < 8) (hb : b < 8) : lessS g u a b = decide (shF g u a < shF g u b) := by
  have wa := hw a ha
  have wb := hw b hb
  cases h : lessS g u a b with
  | true =>
    unfold lessS at h
    rw [decide_eq_true_eq] at h
    symm
    rw [decide_eq_true_eq]
    unfold shF
    refine sumTo_lt (z := a) (fun c hc => ?_) ha ?_
    · try dsimp only
      have wc := hw c hc
      by_cases c1 : lessS g u c a = true
      · rw [if_pos c1, if_pos]
        · exact Int.le_refl _
        · unfold lessS at *
          rw [decide_eq_true_eq] at *
          exact share_t (xa := u a) (xb := u b) (xc := u c) (wa := g (8 + a)) (by omega) (by omega) (by omega) c1 (by omega)
      · rw [if_neg c1]
        split <;> omega
    · try dsimp only
      rw [less_irr, if_neg (by decide), if_pos (by unfold lessS; rw [decide_eq_true_eq]; exact h)]
      omega
  | false =>
    unfold lessS at h
    rw [decide_eq_false_iff_not] at h
    symm
    rw [decide_eq_false_iff_not]
    have : shF g u b ≤ shF g u a := by
      unfold shF
      refine sumTo_le fun c hc => ?_
      try dsimp only
      have wc := hw c hc
      by_cases c1 : lessS g u c b = true
      · rw [if_pos c1, if_pos]
        · exact Int.le_refl _
        · unfold lessS at *
          rw [decide_eq_true_eq] at *
          exact share_t (xa := u b) (xb := u a) (xc := u c) (wa := g (8 + b)) (by omega) (by omega) (by omega) c1 (by omega)
      · rw [if_neg c1]
        split <;> omega
    omega
theorem shF_7 {g u : Nat → Int} {a : Nat} (ha : a < 8) : 0 ≤ shF g u a ∧ shF g u a ≤ 7 := by
  have h1 := shF_rg (g := g) (u := u) (a := a)
  have h2 : shF g u a < sumTo (fun _ => 1) 8 := by
    unfold shF
    refine sumTo_lt (z := a) (fun c hc => by (try dsimp only); split <;> omega) ha ?_
    try dsimp only
    rw [less_irr, if_neg (by decide)]
    omega
  have h3 : sumTo (fun _ => 1) 8 = 8 := by simp [sumTo]
  omega
/-- the class's line is the reference's -/
theorem lin_is {g : Nat → Int} {G U : Nat → Nat → Int} (hg : G 180 = g) (hrow : rowOk g) : linF g (U 183) (g 1).toNat = mLine G U (g 1).toNat := by
  subst hg
  have hw : wOk (G 180) := hrow.2.2.2.2.2.2.2.2.2.1
  unfold linF mLine
  refine lineG_congr _ (fun _ _ => rfl) (fun j x hj hx => ?_)
  have h1 := row_j hrow hj
  have h2 := row_j hrow (j := x) (by omega)
  have a1 := h1.1
  have a2 := h2.1
  have l1 := less_sh (u := U 183) (a := (mAt (G 180) j 0).toNat) (b := (mAt (G 180) x 0).toNat) hw (by omega) (by omega)
  have l2 := less_sh (u := U 183) (a := (mAt (G 180) x 0).toNat) (b := (mAt (G 180) j 0).toNat) hw (by omega) (by omega)
  have s1 := shF_7 (g := G 180) (u := U 183) (a := (mAt (G 180) j 0).toNat) (by omega)
  have s2 := shF_7 (g := G 180) (u := U 183) (a := (mAt (G 180) x 0).toNat) (by omega)
  unfold aheadF
  have eb : decide (byShareF G U (mAt (G 180) j 0).toNat (mAt (G 180) x 0).toNat < 0) = lessS (G 180) (U 183) (mAt (G 180) j 0).toNat (mAt (G 180) x 0).toNat := by
    unfold byShareF lessS
    by_cases c : U 183 (mAt (G 180) j 0).toNat * G 180 (8 + (mAt (G 180) x 0).toNat) < U 183 (mAt (G 180) x 0).toNat * G 180 (8 + (mAt (G 180) j 0).toNat)
    · rw [if_pos (by simpa using c)]; simp [c]
    · rw [if_neg (by simpa using c)]
      split <;> simp [c]
  rw [eb, l1]
  unfold keyF
  generalize shF (G 180) (U 183) (mAt (G 180) j 0).toNat = z1 at *
  generalize shF (G 180) (U 183) (mAt (G 180) x 0).toNat = z2 at *
  by_cases c : mAt (G 180) j 1 = mAt (G 180) x 1
  · rw [if_pos (by simpa using c), c, show decide (j < x) = false by simp; omega]
    simp only [Bool.and_false, Bool.or_false, decide_eq_decide]
    omega
  · rw [if_neg (by simpa using c), decide_eq_decide]
    omega
