/-! ===== whether it fits where arms are as if not there ===== -/
def mvOne (G : Nat → Nat → Int) (j a : Nat) : Bool := match gfitG G (G 180 0) with
  | none => false
  | some s => !decide (elsN G j a s.1 = 0)
theorem elsN_row {G : Nat → Nat → Int} {F : Nat → Int} {j a own : Nat} : elsN (setRow G 189 F) j a own = elsN G j a own := by
  unfold elsN
  rw [busyN_row, setRow_o (by decide)]
theorem elsN_lt {G : Nat → Nat → Int} {j a own : Nat} (h : 0 ≤ mAt (G 180) j (12 + a)) : elsN G j a own < 65536 := by
  unfold elsN
  split
  · omega
  · exact bitsN_lt (by have := placeN_fit (set := busyN G (G 180 0) (mAt (G 180) j 6 + mAt (G 180) j (16 + a)) (mAt (G 180) j 0) ||| own) h; omega)
/-- what was found, as the mask -/
theorem found_mask {G U : Nat → Nat → Int} {F : Nat → Int} {s : Nat × (Nat → Int)} {t : Int} (hg : gangOk G) (hs : gfitG G t = some s) (hF : ∀ a, a < (G 179 9).toNat → F a = s.2 a) (hfit : ∀ a, a < (G 179 9).toNat → 0 ≤ s.2 a ∧ s.2 a + G 187 a ≤ 16) : F_M_foundBits [pR 179] (zM (setRow G 189 F) U) = some (some (pI (Int32.ofInt (s.1 : Int))), zM (setRow G 189 F) U) := by
  obtain ⟨g0, g4, ga⟩ := hg
  have h := M_foundBits (G := setRow G 189 F) (U := U) (n := (G 179 9).toNat) (by rw [setRow_o (by decide)]; omega) (by omega) (fun a ha => by
    rw [setRow_at, setRow_o (by decide), hF a ha]
    have := hfit a ha
    have := (ga a ha).1
    omega)
  have e : orTo (foundN (setRow G 189 F)) (G 179 9).toNat = s.1 := by
    rw [gfit_found hs]
    refine orTo_congr fun a ha => ?_
    unfold foundN
    rw [setRow_at, setRow_o (by decide), hF a ha, cut_at ha]
  rw [e] at h
  exact h
theorem gfit_in {n : Nat} {w : Nat → Int} {b : Nat → Nat} (hw : ∀ a, a < n → 0 ≤ w a) : ∀ k, k ≤ n → ∀ s, gfit n w b k = some s → ∀ a, (plW w n k).testBit a = true → 0 ≤ s.2 a ∧ s.2 a + w a ≤ 16
  | 0, _, s, _, a, h => by simp [plW] at h
  | k + 1, hk, s, h, a, ha => by
    have hf := nxW_free (w := w) (n := n) (k := k) (by omega)
    rw [gfit] at h
    cases hg : gfit n w b k with
    | none => rw [hg] at h; cases h
    | some s0 =>
      rw [hg] at h
      simp only [Option.bind_some] at h
      split at h
      · cases h
      · rename_i hc
        have ih := gfit_in hw k (by omega) s0 hg a
        have hp : plW w n (k + 1) = plW w n k ||| 2 ^ nxW w n k := rfl
        have hpf := placeN_fit (set := b (nxW w n k) ||| s0.1) (many := w (nxW w n k)) (hw _ hf.1) (by omega)
        cases h
        generalize placeN (b (nxW w n k) ||| s0.1) (w (nxW w n k)) = pl at *
        generalize nxW w n k = x at *
        rw [hp, Nat.testBit_or, Bool.or_eq_true, Nat.testBit_two_pow] at ha
        by_cases e : a = x
        · subst e
          simp only [if_true]
          omega
        · simp only [e, if_false]
          rcases ha with ha | ha
          · exact ih ha
          · simp only [decide_eq_true_eq] at ha
            exact absurd ha.symm e
