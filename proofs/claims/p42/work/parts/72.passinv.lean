/-! ===== the pass: what holds at each turn ===== -/
abbrev pSt4 : Type := (Nat → Int) × (Nat → Nat → Int) × Int × Int × Int
def passOk (g0 : Nat → Int) (U : Nat → Nat → Int) (L : Nat → Nat) (n i : Nat) (s : pSt4) : Prop :=
  rowI s.1 ∧ (∀ b, b < 96 → b ≠ 6 → b ≠ 7 → s.1 b = g0 b) ∧ (0 ≤ s.2.2.1 ∧ s.2.2.1 ≤ i) ∧ (0 ≤ s.2.2.2.1 ∧ s.2.2.2.1 ≤ g0 2) ∧ (-1 ≤ s.2.2.2.2 ∧ s.2.2.2.2 ≤ 80) ∧ (∀ k, i ≤ k → k < n → mAt s.1 (L k) 5 = 0 ∧ mAt s.1 (L k) 9 < 0) ∧ (∀ j, j < (g0 1).toNat → 0 ≤ mAt s.1 j 9 → g0 0 < mAt s.1 j 9) ∧ promTo s.1 (g0 1).toNat = s.2.2.2.1 ∧ (∀ j w, j < (g0 1).toNat → w < 20 → w ≠ 5 → w ≠ 6 → w ≠ 8 → w ≠ 9 → mAt s.1 j w = mAt g0 j w) ∧ (∀ a, a < 8 → s.2.1 183 a = U 183 a) ∧ idleF s.1 ≤ idleF g0 ∧ ∀ acc, heldF g0 acc ≤ heldF s.1 acc
def lineOk (g0 : Nat → Int) (L : Nat → Nat) (n : Nat) : Prop := (∀ k, k < n → L k < (g0 1).toNat) ∧ ∀ b c, b < n → c < n → L b = L c → b = c
theorem promTo_congr {g g' : Nat → Int} {n : Nat} (h : ∀ j, j < n → mAt g' j 9 = mAt g j 9) : promTo g' n = promTo g n := by
  unfold promTo
  exact sumTo_congr fun j hj => by rw [h j hj]
theorem promTo_put {g g' : Nat → Int} {j n : Nat} (hj : j < n) (h0 : mAt g j 9 < 0) (h1 : 0 ≤ mAt g' j 9) (h : ∀ x, x < n → x ≠ j → mAt g' x 9 = mAt g x 9) : promTo g' n = promTo g n + 1 := by
  have hc : promTo g' n = sumTo (fun i => if i = j then (1 : Int) else if decide (0 ≤ mAt g i 9) = true then (1 : Int) else 0) n := by
    unfold promTo
    refine sumTo_congr fun i hi => ?_
    by_cases e : i = j
    · subst e
      rw [if_pos rfl, if_pos (by simpa using h1)]
    · rw [if_neg e, h i hi e]
  rw [hc]
  unfold promTo
  rw [sumTo_upd (f := fun j => if decide (0 ≤ mAt g j 9) = true then (1 : Int) else 0) (z := j) (d := 1) (by (try dsimp only); rw [if_pos rfl, if_neg (by simp; omega)]; rfl) (fun i hi => by (try dsimp only); rw [if_neg hi]), if_pos hj]
theorem left1_rg {l : Int} (h : -1 ≤ l ∧ l ≤ 80) : -1 ≤ left1 l ∧ left1 l ≤ 80 ∧ (l = -1 → left1 l = -1) ∧ (0 < l → left1 l = l - 1) ∧ (0 ≤ l → 0 ≤ left1 l) := by
  unfold left1
  by_cases c : 0 < l
  · rw [if_pos (by simpa using c)]
    omega
  · rw [if_neg (by simpa using c)]
    omega
section PS
variable {bf : Nat → Int} {s : (Nat → Int) × (Nat → Nat → Int) × Int × Int × Int} {j : Nat}
theorem ps_over (h : overF s.1 j = true) : passStep bf s j = s := by
  unfold passStep
  rw [if_pos h]
theorem ps_star {f : Nat × (Nat → Int)} (h : overF s.1 j = false) (hf : gfitJ s.1 j (s.1 0) = some f) : passStep bf s j = (starF s.1 j (mArms s.1 j) f.2, upZ (starU s.2.1 (s.1 0 - mAt s.1 j 11)) 183 12 (starU s.2.1 (s.1 0 - mAt s.1 j 11) 183 12 + (if decide (0 ≤ left1 s.2.2.2.2) = true then 1 else 0)), s.2.2.1 + 1, s.2.2.2.1, left1 s.2.2.2.2) := by
  unfold passStep
  rw [if_neg (by rw [h]; decide), hf]
theorem ps_prom {f : Nat × (Nat → Int)} {t : Int} (h : overF s.1 j = false) (hn : gfitJ s.1 j (s.1 0) = none) (hm : s.2.2.2.1 < s.1 2) (ht : firstF (gfitJ s.1 j) (s.1 0 + 1) 20000 = some t) (hf : gfitJ s.1 j t = some f) : passStep bf s j = (promF s.1 j t (mArms s.1 j) f.2 (bf j), s.2.1, s.2.2.1, s.2.2.2.1 + 1, if decide (0 ≤ left1 s.2.2.2.2) = true then left1 s.2.2.2.2 else s.1 3) := by
  unfold passStep
  rw [if_neg (by rw [h]; decide), hn, if_pos (show decide (s.2.2.2.1 < s.1 2) = true by simpa using hm), ht]
  simp only [hf, Option.getD_some]
theorem ps_none (h : overF s.1 j = false) (hn : gfitJ s.1 j (s.1 0) = none) (ht : s.2.2.2.1 < s.1 2 → firstF (gfitJ s.1 j) (s.1 0 + 1) 20000 = none) : passStep bf s j = (s.1, s.2.1, s.2.2.1, s.2.2.2.1, if decide (0 ≤ left1 s.2.2.2.2) = true then left1 s.2.2.2.2 else s.1 3) := by
  unfold passStep
  rw [if_neg (by rw [h]; decide), hn]
  by_cases c : s.2.2.2.1 < s.1 2
  · rw [if_pos (show decide (s.2.2.2.1 < s.1 2) = true by simpa using c), ht c]
  · rw [if_neg (show ¬ decide (s.2.2.2.1 < s.1 2) = true by simpa using c)]
end PS
section PASS
variable {g0 : Nat → Int} {U : Nat → Nat → Int} {L : Nat → Nat} {n i : Nat} {s : pSt4} {bf : Nat → Int}
theorem ok_skip {l : Int} (h : passOk g0 U L n i s) (hl : -1 ≤ l ∧ l ≤ 80) : passOk g0 U L n (i + 1) (s.1, s.2.1, s.2.2.1, s.2.2.2.1, l) := by
  obtain ⟨a, b, c, d, e, f, k, m, p, q⟩ := h
  exact ⟨a, b, ⟨c.1, by show s.2.2.1 ≤ _; omega⟩, d, hl, fun x h1 h2 => f x (by omega) h2, k, m, p, q⟩
theorem ok_star {f : Nat × (Nat → Int)} {V : Nat → Nat → Int} {l : Int} (hL : lineOk g0 L n) (h : passOk g0 U L n i s) (hi : i < n) (hf : gfitJ s.1 (L i) (s.1 0) = some f) (hl : -1 ≤ l ∧ l ≤ 80) (hV : ∀ a, a < 8 → V 183 a = s.2.1 183 a) : passOk g0 U L n (i + 1) (starF s.1 (L i) (mArms s.1 (L i)) f.2, V, s.2.2.1 + 1, s.2.2.2.1, l) := by
  obtain ⟨a, b, c, d, e, f5, k, m, p, q, id1, he1⟩ := h
  have e1 : s.1 1 = g0 1 := b 1 (by omega) (by omega) (by omega)
  have hj : L i < (s.1 1).toNat := by rw [e1]; exact hL.1 i hi
  obtain ⟨h5, h9⟩ := f5 i (Nat.le_refl _) hi
  have hrow := a.1
  have hjo := row_j hrow hj
  have h4 := jo_4 hjo
  have hn := row_n hrow hj
  have h6 := row_6 a hj (by have := hjo.2.2.2.2.2.2.2.2.2.2.2.2.1 h5; omega)
  have q6 : 0 ≤ s.1 6 ∧ s.1 6 < 80 := ⟨hrow.2.2.2.2.2.2.2.1.1, h6⟩
  have at_ := fun x w (hx : x < (g0 1).toNat) (hw : w < 32) h => star_at (g := s.1) (F := f.2) (j := L i) (n := mArms s.1 (L i)) (k := x) (w := w) hn (row_n hrow (by rw [e1]; exact hx)) hw h4.2.1 q6 h
  have h9s : ∀ x, x < (g0 1).toNat → mAt (starF s.1 (L i) (mArms s.1 (L i)) f.2) x 9 = mAt s.1 x 9 := fun x hx => at_ x 9 hx (by omega) (by omega)
  refine ⟨star_row a hj h5 h9 hf, fun x h1 h2 h3 => by show starF _ _ _ _ x = _; rw [starF_lo h1 h2 h3]; exact b x h1 h2 h3, ⟨by show 0 ≤ s.2.2.1 + 1; omega, by show s.2.2.1 + 1 ≤ _; omega⟩, d, hl, fun x h1 h2 => ?_, fun x hx h => ?_, ?_, fun x w hx h1 h2 h3 h4 h5 => ?_, fun x hx => by show V 183 x = _; rw [hV x hx]; exact q x hx, ?_, fun acc => ?_⟩
  · have hne : L x ≠ L i := fun e => by have := hL.2 x i h2 hi e; omega
    have hx := hL.1 x h2
    show mAt (starF _ _ _ _) _ _ = _ ∧ mAt (starF _ _ _ _) _ _ < _
    rw [at_ _ 5 hx (by omega) (Or.inl hne), at_ _ 9 hx (by omega) (Or.inl hne)]
    exact f5 x (by omega) h2
  · change 0 ≤ mAt (starF _ _ _ _) _ _ at h
    show g0 0 < mAt (starF _ _ _ _) _ _
    rw [h9s x hx] at h ⊢
    exact k x hx h
  · show promTo (starF _ _ _ _) _ = _
    rw [promTo_congr h9s]
    exact m
  · show mAt (starF _ _ _ _) _ _ = _
    rw [at_ x w hx (by omega) (Or.inr ⟨h2, h3, by omega⟩)]
    exact p x w hx h1 h2 h3 h4 h5
  · show idleF (starF _ _ _ _) ≤ _
    rw [star_idle a hj h5 h9 hf]
    have : 0 ≤ colsF s.1 (L i) := by
      unfold colsF
      have := sumTo_rg (f := fun a => mAt s.1 (L i) (12 + a)) (c := 16) (n := mArms s.1 (L i)) (fun a ha => by have := (jo_a hjo ha).1; (try dsimp only); omega)
      exact this.1
    omega
  · show _ ≤ heldF (starF _ _ _ _) acc
    rw [star_held a hj h5 h9 hf]
    have := he1 acc
    have : 0 ≤ colsF s.1 (L i) := by
      unfold colsF
      have := sumTo_rg (f := fun a => mAt s.1 (L i) (12 + a)) (c := 16) (n := mArms s.1 (L i)) (fun a ha => by have := (jo_a hjo ha).1; (try dsimp only); omega)
      exact this.1
    split <;> omega
theorem ok_prom {f : Nat × (Nat → Int)} {t l was : Int} (hL : lineOk g0 L n) (h : passOk g0 U L n i s) (hi : i < n) (hf : gfitJ s.1 (L i) t = some f) (ht : s.1 0 < t ∧ t ≤ s.1 0 + 20000) (hm : s.2.2.2.1 < s.1 2) (hl : -1 ≤ l ∧ l ≤ 80) : passOk g0 U L n (i + 1) (promF s.1 (L i) t (mArms s.1 (L i)) f.2 was, s.2.1, s.2.2.1, s.2.2.2.1 + 1, l) := by
  obtain ⟨a, b, c, d, e, f5, k, m, p, q, id1, he1⟩ := h
  have e1 : s.1 1 = g0 1 := b 1 (by omega) (by omega) (by omega)
  have e0 : s.1 0 = g0 0 := b 0 (by omega) (by omega) (by omega)
  have e2 : s.1 2 = g0 2 := b 2 (by omega) (by omega) (by omega)
  have hj : L i < (s.1 1).toNat := by rw [e1]; exact hL.1 i hi
  obtain ⟨h5, h9⟩ := f5 i (Nat.le_refl _) hi
  have hrow := a.1
  have hjo := row_j hrow hj
  have h4 := jo_4 hjo
  have hn := row_n hrow hj
  have at_ := fun x w (hx : x < (g0 1).toNat) (hw : w < 32) h => prom_o (g := s.1) (F := f.2) (j := L i) (n := mArms s.1 (L i)) (k := x) (w := w) (t := t) (was := was) (row_n hrow (by rw [e1]; exact hx)) hw h4.2.1 h
  have hrow2 := prom_row (was := was) a hj h5 ht hf
  have hr2 := hrow.2.1
  refine ⟨hrow2, fun x h1 h2 h3 => by show promF _ _ _ _ _ _ x = _; rw [promF_lo h1 h3]; exact b x h1 h2 h3, ⟨c.1, by show s.2.2.1 ≤ _; omega⟩, ⟨by show 0 ≤ s.2.2.2.1 + 1; omega, by show s.2.2.2.1 + 1 ≤ _; omega⟩, hl, fun x h1 h2 => ?_, fun x hx h => ?_, ?_, fun x w hx h1 h2 h3 h4 h5 => ?_, q, ?_, fun acc => ?_⟩
  · have hne : L x ≠ L i := fun e => by have := hL.2 x i h2 hi e; omega
    have hx := hL.1 x h2
    show mAt (promF _ _ _ _ _ _) _ _ = _ ∧ mAt (promF _ _ _ _ _ _) _ _ < _
    rw [at_ _ 5 hx (by omega) (Or.inl hne), at_ _ 9 hx (by omega) (Or.inl hne)]
    exact f5 x (by omega) h2
  · change 0 ≤ mAt (promF _ _ _ _ _ _) _ _ at h
    show g0 0 < mAt (promF _ _ _ _ _ _) _ _
    by_cases ex : x = L i
    · subst ex
      rw [prom_9 hn h4.2.1]
      omega
    · rw [at_ x 9 hx (by omega) (Or.inl ex)] at h ⊢
      exact k x hx h
  · show promTo (promF _ _ _ _ _ _) _ = s.2.2.2.1 + 1
    rw [promTo_put (hL.1 i hi) h9 (by rw [prom_9 hn h4.2.1]; omega) (fun x hx hne => at_ x 9 hx (by omega) (Or.inl hne)), m]
  · show mAt (promF _ _ _ _ _ _) _ _ = _
    rw [at_ x w hx (by omega) (by omega)]
    exact p x w hx h1 h2 h3 h4 h5
  · show idleF (promF _ _ _ _ _ _) ≤ _
    rw [same_hold a.2.2.1 hrow2.2.2.1 (fun c x b => prom_ho hrow hj)]
    exact id1
  · show _ ≤ heldF (promF _ _ _ _ _ _) acc
    rw [same_held a hrow2 (fun x hx => prom_0 hrow hj hx) (fun c x b => prom_ho hrow hj)]
    exact he1 acc
/-- a promise's tick -/
theorem first_is {g : Nat → Int} {j : Nat} {t : Int} (h : firstF (gfitJ g j) (g 0 + 1) 20000 = some t) : (g 0 < t ∧ t ≤ g 0 + 20000) ∧ ∃ f, gfitJ g j t = some f ∧ (gfitJ g j t).getD (0, fun _ => -1) = f := by
  obtain ⟨a, b, c, d⟩ := firstF_is _ _ _ h
  cases hg : gfitJ g j t with
  | none => rw [hg] at c; cases c
  | some f => exact ⟨by omega, f, rfl, rfl⟩
theorem step_ok (hL : lineOk g0 L n) (h : passOk g0 U L n i s) (hi : i < n) : passOk g0 U L n (i + 1) (passStep bf s (L i)) := by
  have hlr := left1_rg h.2.2.2.2.1
  have h3 := h.1.1.2.2.2.2.1
  have hlw : -1 ≤ (if decide (0 ≤ left1 s.2.2.2.2) = true then left1 s.2.2.2.2 else s.1 3) ∧ (if decide (0 ≤ left1 s.2.2.2.2) = true then left1 s.2.2.2.2 else s.1 3) ≤ 80 := by split <;> omega
  cases c : overF s.1 (L i) with
  | true =>
    rw [ps_over c]
    exact ok_skip (l := s.2.2.2.2) h h.2.2.2.2.1
  | false =>
    cases hg : gfitJ s.1 (L i) (s.1 0) with
    | some f =>
      rw [ps_star c hg]
      refine ok_star hL h hi hg ⟨hlr.1, hlr.2.1⟩ (fun a ha => ?_)
      unfold starU
      simp [upZ, show ¬ a = 12 by omega, show ¬ a = 13 by omega, show ¬ a = 8 by omega]
    | none =>
      by_cases c2 : s.2.2.2.1 < s.1 2
      · cases hff : firstF (gfitJ s.1 (L i)) (s.1 0 + 1) 20000 with
        | none =>
          rw [ps_none c hg fun _ => hff]
          exact ok_skip h hlw
        | some t =>
          obtain ⟨ht, f, hf, hf2⟩ := first_is hff
          rw [ps_prom c hg c2 hff hf]
          exact ok_prom hL h hi hf ht c2 hlw
      · rw [ps_none c hg fun h => absurd h c2]
        exact ok_skip h hlw
theorem run_ok (hI : rowI g0) (hL : lineOk g0 L n) (h5 : ∀ k, k < n → mAt g0 (L k) 5 = 0) (h9 : ∀ j, j < (g0 1).toNat → mAt g0 j 9 < 0) : ∀ i, i ≤ n → passOk g0 U L n i (passRun bf L (g0, U, 0, 0, -1) i)
  | 0, _ => by
    have h2 := hI.1.2.2.2.1
    refine ⟨hI, fun _ _ _ _ => rfl, ⟨Int.le_refl _, by show (0 : Int) ≤ _; omega⟩, ⟨Int.le_refl _, h2.1⟩, ⟨by show (-1 : Int) ≤ -1; omega, by show (-1 : Int) ≤ 80; omega⟩, fun k _ hk => ⟨h5 k hk, h9 _ (hL.1 k hk)⟩, fun j hj h => ?_, ?_, fun _ _ _ _ _ _ _ _ => rfl, fun _ _ => rfl, Int.le_refl _, fun _ => Int.le_refl _⟩
    · have := h9 j hj
      change 0 ≤ mAt g0 j 9 at h
      omega
    · show promTo g0 _ = 0
      unfold promTo
      exact sumTo_zero fun j hj => by rw [if_neg]; simpa using h9 j hj
  | i + 1, hi => by
    have ih := run_ok hI hL h5 h9 i (by omega)
    rw [passRun]
    by_cases c : (passRun bf L (g0, U, 0, 0, -1) i).2.2.2.2 = 0
    · rw [if_pos (by simpa using c)]
      exact ok_skip (l := (passRun bf L (g0, U, 0, 0, -1) i).2.2.2.2) ih ih.2.2.2.2.1
    · rw [if_neg (by simpa using c)]
      exact step_ok hL ih (by omega)
end PASS
/-! the line of a pass -/
theorem line_ok {g : Nat → Int} {G U : Nat → Nat → Int} (hg : G 180 = g) : lineOk g (mLine G U (g 1).toNat).2 (mLine G U (g 1).toNat).1 ∧ (∀ k, k < (mLine G U (g 1).toNat).1 → inLineF g ((mLine G U (g 1).toNat).2 k) = true) ∧ (mLine G U (g 1).toNat).1 ≤ (g 1).toNat := by
  subst hg
  have hle := lineG_le (inl := inLineF (G 180)) (ah := aheadF G U) (G 180 1).toNat
  exact ⟨⟨fun k hk => (hle.2 k hk).1, fun b c hb hc he => lineG_inj _ b c hb hc he⟩, fun k hk => (hle.2 k hk).2, hle.1⟩
theorem inLine_5 {g : Nat → Int} {j : Nat} (h : inLineF g j = true) : mAt g j 5 = 0 := by
  unfold inLineF at h
  simp only [Bool.and_eq_true, decide_eq_true_eq] at h
  exact h.1.1
/-- the whole pass of the reference, from any row that always holds -/
theorem pass_all {g : Nat → Int} {U : Nat → Nat → Int} {old : Nat → Int} (hI : rowI g) : ∀ i, i ≤ (mLine (rowG (p0G g)) (p0U U) (g 1).toNat).1 → passOk (p0G g) (p0U U) (mLine (rowG (p0G g)) (p0U U) (g 1).toNat).2 (mLine (rowG (p0G g)) (p0U U) (g 1).toNat).1 i (passRun (befF g old (g 1).toNat) (mLine (rowG (p0G g)) (p0U U) (g 1).toNat).2 (p0G g, p0U U, 0, 0, -1) i) := by
  have e1 : p0G g 1 = g 1 := p0_lo (by omega)
  have hl := line_ok (G := rowG (p0G g)) (U := p0U U) (g := p0G g) rfl
  rw [e1] at hl
  exact run_ok (p0_row hI) hl.1 (fun k hk => inLine_5 (hl.2.1 k hk)) (fun j hj => by rw [e1] at hj; rw [p0_9 hj]; omega)
