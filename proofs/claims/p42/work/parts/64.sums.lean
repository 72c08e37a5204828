/-! ===== what a gang finds: free, apart, as many columns as it is wide ===== -/
theorem plSt_free {set : Nat} {many : Int} : ∀ n : Nat, (∀ c : Nat, (n : Int) - (plSt set many n).2.2 ≤ c → c < n → set.testBit c = false) ∧ (0 ≤ (plSt set many n).1 → many ≤ (plSt set many n).2.1 ∧ ∀ c : Nat, (plSt set many n).1 ≤ c → (c : Int) < (plSt set many n).1 + (plSt set many n).2.1 → set.testBit c = false)
  | 0 => ⟨fun c h h2 => absurd h2 (Nat.not_lt_zero c), fun h => by simp [plSt] at h⟩
  | n + 1 => by
    obtain ⟨h1, h2⟩ := plSt_free (set := set) (many := many) n
    have h0 := plSt_rg (set := set) (many := many) n
    rw [plSt, plStep]
    generalize plSt set many n = t at *
    obtain ⟨t1, t2, t3⟩ := t
    simp only at h0 h1 h2 ⊢
    by_cases c1 : (decide ((n : Int) < 16) && !set.testBit n) = true
    · rw [if_pos c1]
      simp only [Bool.and_eq_true, decide_eq_true_eq, Bool.not_eq_true'] at c1
      refine ⟨fun c h3 h4 => ?_, h2⟩
      by_cases e : c = n
      · subst e; exact c1.2
      · have h3' : ((n + 1 : Nat) : Int) - (t3 + 1) ≤ c := h3
        exact h1 c (by omega) (by omega)
    · rw [if_neg c1]
      by_cases c2 : (decide (many ≤ t3) && decide (t3 < t2)) = true
      · rw [if_pos c2]
        simp only [Bool.and_eq_true, decide_eq_true_eq] at c2
        refine ⟨fun c h3 h4 => ?_, fun h3 => ⟨c2.1, fun c h4 h5 => ?_⟩⟩
        · have h3' : ((n + 1 : Nat) : Int) - 0 ≤ c := h3
          omega
        · have h4' : (n : Int) - t3 ≤ c := h4
          have h5' : (c : Int) < (n : Int) - t3 + t3 := h5
          exact h1 c h4' (by omega)
      · rw [if_neg c2]
        refine ⟨fun c h3 h4 => ?_, h2⟩
        have h3' : ((n + 1 : Nat) : Int) - 0 ≤ c := h3
        omega
theorem placeN_free {set : Nat} {many : Int} (h : 0 ≤ placeN set many) {c : Nat} (h1 : placeN set many ≤ c) (h2 : (c : Int) < placeN set many + many) : set.testBit c = false := by
  have := (plSt_free (set := set) (many := many) 17).2 h
  unfold placeN at *
  exact this.2 c h1 (by omega)
theorem gfit_free {n : Nat} {w : Nat → Int} {b : Nat → Nat} (hw : ∀ a, a < n → 0 ≤ w a) {c : Nat} : ∀ k, k ≤ n → ∀ s, gfit n w b k = some s → ∀ a, (plW w n k).testBit a = true → (bitsN (s.2 a).toNat (w a).toNat).testBit c = true → (b a).testBit c = false ∧ ∀ a', (plW w n k).testBit a' = true → (bitsN (s.2 a').toNat (w a').toNat).testBit c = true → a' = a
  | 0, _, s, _, a, h, _ => by simp [plW] at h
  | k + 1, hk, s, h, a, ha, hc => by
    have hf := nxW_free (w := w) (n := n) (k := k) (by omega)
    rw [gfit] at h
    cases hg : gfit n w b k with
    | none => rw [hg] at h; cases h
    | some s0 =>
      rw [hg] at h
      simp only [Option.bind_some] at h
      split at h
      · cases h
      · rename_i hpos
        have ih := gfit_free hw (c := c) k (by omega) s0 hg
        have ho := gfit_own (c := c) k (by omega) s0 hg
        have hp : plW w n (k + 1) = plW w n k ||| 2 ^ nxW w n k := rfl
        have hfree := fun (c : Nat) => placeN_free (set := b (nxW w n k) ||| s0.1) (many := w (nxW w n k)) (by omega) (c := c)
        have hwx := hw _ hf.1
        have hbt := fun y => bitsN_test y (w (nxW w n k)).toNat c
        cases h
        generalize placeN (b (nxW w n k) ||| s0.1) (w (nxW w n k)) = pl at *
        generalize nxW w n k = x at *
        rw [hp, Nat.testBit_or, Bool.or_eq_true, Nat.testBit_two_pow, decide_eq_true_eq] at ha
        have hnew : (bitsN pl.toNat (w x).toNat).testBit c = true → (b x).testBit c = false ∧ s0.1.testBit c = false := by
          intro h3
          rw [hbt] at h3
          simp only [Bool.and_eq_true, decide_eq_true_eq] at h3
          have h4 := hfree c (by omega) (by omega)
          rw [Nat.testBit_or, Bool.or_eq_false_iff] at h4
          exact h4
        have hold : ∀ y, (plW w n k).testBit y = true → y ≠ x := fun y hy e => by rw [e, hf.2] at hy; cases hy
        by_cases e : a = x
        · subst e
          simp only [if_true] at hc
          obtain ⟨n1, n2⟩ := hnew hc
          refine ⟨n1, fun a' ha' hc' => ?_⟩
          rw [hp, Nat.testBit_or, Bool.or_eq_true, Nat.testBit_two_pow, decide_eq_true_eq] at ha'
          rcases ha' with ha' | ha'
          · simp only [hold a' ha', if_false] at hc'
            have := ho.mpr ⟨a', ha', hc'⟩
            rw [n2] at this
            cases this
          · exact ha'.symm
        · simp only [e, if_false] at hc
          have ha2 : (plW w n k).testBit a = true := by
            rcases ha with ha | ha
            · exact ha
            · exact absurd ha.symm e
          obtain ⟨n1, n2⟩ := ih a ha2 hc
          refine ⟨n1, fun a' ha' hc' => ?_⟩
          rw [hp, Nat.testBit_or, Bool.or_eq_true, Nat.testBit_two_pow, decide_eq_true_eq] at ha'
          by_cases e' : a' = x
          · subst e'
            simp only [if_true] at hc'
            have := ho.mpr ⟨a, ha2, hc⟩
            rw [(hnew hc').2] at this
            cases this
          · simp only [e', if_false] at hc'
            rcases ha' with ha' | ha'
            · exact n2 a' ha' hc'
            · exact absurd ha'.symm e'
def cnt16 (m : Nat) : Int := sumTo (fun c => if m.testBit c = true then 1 else 0) 16
theorem sumTo_add {f g h : Nat → Int} : ∀ {n : Nat}, (∀ i, i < n → h i = f i + g i) → sumTo h n = sumTo f n + sumTo g n
  | 0, _ => rfl
  | n + 1, hh => by
    rw [sumTo, sumTo, sumTo, sumTo_add (fun i hi => hh i (by omega)), hh n (by omega)]
    omega
theorem sumTo_le {f g : Nat → Int} : ∀ {n : Nat}, (∀ i, i < n → f i ≤ g i) → sumTo f n ≤ sumTo g n
  | 0, _ => Int.le_refl _
  | n + 1, hh => by
    have := sumTo_le (f := f) (g := g) (n := n) (fun i hi => hh i (by omega))
    have := hh n (by omega)
    rw [sumTo, sumTo]
    omega
theorem sumTo_zero {f : Nat → Int} : ∀ {n : Nat}, (∀ i, i < n → f i = 0) → sumTo f n = 0
  | 0, _ => rfl
  | n + 1, hh => by rw [sumTo, sumTo_zero (fun i hi => hh i (by omega)), hh n (by omega)]; rfl
theorem sumTo_upd {f g : Nat → Int} {z : Nat} {d : Int} (hd : g z = f z + d) (hh : ∀ i, i ≠ z → g i = f i) : ∀ {n : Nat}, sumTo g n = sumTo f n + (if z < n then d else 0)
  | 0 => rfl
  | n + 1 => by
    rw [sumTo, sumTo, sumTo_upd hd hh (n := n)]
    by_cases e : n = z
    · subst e
      rw [hd, if_neg (Nat.lt_irrefl _), if_pos (by omega)]
      omega
    · rw [hh n e]
      by_cases c : z < n
      · rw [if_pos c, if_pos (by omega)]; omega
      · rw [if_neg c, if_neg (by omega)]; omega
theorem cnt16_or {a b : Nat} (h : ∀ c, a.testBit c = true → b.testBit c = true → False) : cnt16 (a ||| b) = cnt16 a + cnt16 b := by
  unfold cnt16
  refine sumTo_add fun c _ => ?_
  try dsimp only
  rw [Nat.testBit_or]
  have := h c
  cases ha : a.testBit c <;> cases hb : b.testBit c <;> simp
  exact this ha hb
theorem cnt_run {f m : Nat} : ∀ n, sumTo (fun c => if (bitsN f m).testBit c = true then 1 else 0) n = if n ≤ f then 0 else if n ≤ f + m then (n : Int) - f else m
  | 0 => rfl
  | n + 1 => by
    rw [sumTo, cnt_run n, bitsN_test]
    simp only [Bool.and_eq_true, decide_eq_true_eq]
    repeat' split
    all_goals omega
theorem cnt16_bits {f m : Nat} (h : f + m ≤ 16) : cnt16 (bitsN f m) = m := by
  unfold cnt16
  rw [cnt_run]
  by_cases c1 : 16 ≤ f
  · rw [if_pos c1]; omega
  · rw [if_neg c1]
    by_cases c2 : 16 ≤ f + m
    · rw [if_pos c2]; omega
    · rw [if_neg c2]
/-- what is found is as wide as the gang -/
theorem gfit_cnt {n : Nat} {w : Nat → Int} {b : Nat → Nat} (hw : ∀ a, a < n → 0 ≤ w a) : ∀ k, k ≤ n → ∀ s, gfit n w b k = some s → cnt16 s.1 = sumTo (fun a => if (plW w n k).testBit a = true then w a else 0) n
  | 0, _, s, h => by
    cases h
    rw [sumTo_zero (fun i _ => by simp [plW])]
    exact sumTo_zero (fun i _ => by simp)
  | k + 1, hk, s, h => by
    have hf := nxW_free (w := w) (n := n) (k := k) (by omega)
    rw [gfit] at h
    cases hg : gfit n w b k with
    | none => rw [hg] at h; cases h
    | some s0 =>
      rw [hg] at h
      simp only [Option.bind_some] at h
      split at h
      · cases h
      · rename_i hpos
        have ih := gfit_cnt hw k (by omega) s0 hg
        have hp : plW w n (k + 1) = plW w n k ||| 2 ^ nxW w n k := rfl
        have hfree := fun (c : Nat) => placeN_free (set := b (nxW w n k) ||| s0.1) (many := w (nxW w n k)) (by omega) (c := c)
        have hwx := hw _ hf.1
        have hpf := placeN_fit (set := b (nxW w n k) ||| s0.1) (many := w (nxW w n k)) hwx (by omega)
        cases h
        generalize placeN (b (nxW w n k) ||| s0.1) (w (nxW w n k)) = pl at *
        generalize nxW w n k = x at *
        show cnt16 (s0.1 ||| bitsN pl.toNat (w x).toNat) = _
        rw [cnt16_or, ih, cnt16_bits (by omega), hp]
        · have hu := sumTo_upd (f := fun a => if (plW w n k).testBit a = true then w a else 0) (g := fun a => if (plW w n k ||| 2 ^ x).testBit a = true then w a else 0) (z := x) (d := w x)
            (by
              try dsimp only
              rw [hf.2, Nat.testBit_or, Nat.testBit_two_pow]
              simp) (fun i hi => by
              try dsimp only
              rw [Nat.testBit_or, Nat.testBit_two_pow]
              simp [show ¬ x = i from fun e => hi e.symm]) (n := n)
          rw [if_pos hf.1] at hu
          rw [hu]
          omega
        · intro c h1 h2
          rw [bitsN_test] at h2
          simp only [Bool.and_eq_true, decide_eq_true_eq] at h2
          have h4 := hfree c (by omega) (by omega)
          rw [Nat.testBit_or, Bool.or_eq_false_iff] at h4
          rw [h4.2] at h1
          cases h1
theorem gfit_all {n : Nat} {w : Nat → Int} {b : Nat → Nat} {s : Nat × (Nat → Int)} (hw : ∀ a, a < n → 0 ≤ w a) (h : gfit n w b n = some s) : cnt16 s.1 = sumTo w n := by
  rw [gfit_cnt hw n (Nat.le_refl _) s h]
  exact sumTo_congr fun i hi => by rw [plW_all hi]; rfl
