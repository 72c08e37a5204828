/-! ===== arms that move ===== -/
theorem eRem4 {L : pLo} {σ : pM} {e : eI} {j a : Nat} (he : e L σ = some (Int32.ofInt ((4 * j + a : Nat) : Int), σ)) (ha : a < 4) (hj : j < 1000) : dI (fun x y => x - x / y * y) e (kI 4) L σ = some (Int32.ofInt (a : Int), σ) := by
  have := eRem he (eK (z := 4)) (by omega) (by omega)
  rwa [show ((4 * j + a : Nat) : Int) % 4 = (a : Int) by omega] at this
theorem eDiv4 {L : pLo} {σ : pM} {e : eI} {j a : Nat} (he : e L σ = some (Int32.ofInt ((4 * j + a : Nat) : Int), σ)) (ha : a < 4) (hj : j < 1000) : dI (fun x y => x / y) e (kI 4) L σ = some (Int32.ofInt (j : Int), σ) := by
  have := eDiv he (eK (z := 4)) (by omega) (by omega)
  rwa [show ((4 * j + a : Nat) : Int) / 4 = (j : Int) by omega] at this
def isHo (g : Nat → Int) (j a : Nat) : Bool := decide ((a : Int) < mAt g j 4) && mHolds g j a
theorem M_isHolding {G U : Nat → Nat → Int} {j a : Nat} (hj : j < 80) (ha : a < 4) (hr : gRange (G 180)) : F_M_isHolding [pR 179, pI (Int32.ofInt ((4 * j + a : Nat) : Int))] (zM G U) = some (some (pI (zI (isHo (G 180) j a))), zM G U) := by
  apply wF_to
  unfold F_M_isHolding B_M_isHolding isHo
  apply wBody (Nat.le_of_ble_eq_true rfl)
  have r4 : rg (mAt (G 180) j 4) := hr _
  repeat' first | with_reducible apply wSeq | with_reducible apply wAsI | with_reducible apply wRZ | with_reducible apply wB_e | (intro h; try simp only [Bool.and_eq_true, Bool.or_eq_true, Bool.not_eq_true', Bool.not_eq_false', Bool.and_eq_false_imp, Bool.or_eq_false_iff, decide_eq_true_eq, decide_eq_false_iff_not, Bool.not_true, Bool.not_false, Bool.true_eq_false, Bool.false_eq_true, Bool.not_not] at h) | with_reducible apply wN1 | with_reducible apply wN2 | with_reducible apply wN3 | with_reducible apply wN4 | with_reducible apply wN0 | with_reducible apply wE0 | with_reducible apply wXI | with_reducible apply wXB | ((with_reducible apply eRem4 (j := j) (a := a)); (with_reducible apply eL); rfl; omega; omega) | ((with_reducible apply eDiv4 (j := j) (a := a)); (with_reducible apply eL); rfl; omega; omega) | with_reducible exact eK | ((with_reducible apply eL); rfl) | ((with_reducible apply eLR); rfl) | with_reducible exact eAN | with_reducible apply eDiv | with_reducible apply eRem | with_reducible apply eLt | with_reducible apply eAnd | with_reducible apply eAI | with_reducible apply eAR | with_reducible apply eCI | with_reducible apply eCZ | with_reducible apply wRc | with_reducible exact ckv179 | with_reducible exact M_holdsR (by omega) (by omega) (by assumption) | with_reducible exact M_holds (by omega) (by omega) (by assumption) | with_reducible exact M_a0 (by omega) | with_reducible exact M_a1 (by omega) | with_reducible exact M_a2 (by omega) | with_reducible exact M_a3 (by omega) | with_reducible exact M_a4 (by omega) | with_reducible exact M_a5 (by omega) | with_reducible exact M_a6 (by omega) | with_reducible exact M_a7 (by omega) | with_reducible exact M_a8 (by omega) | with_reducible exact M_a9 (by omega) | with_reducible exact M_a10 (by omega) | with_reducible exact M_a11 (by omega) | with_reducible exact M_b12 (by omega) (by omega) | with_reducible exact M_b16 (by omega) (by omega) | with_reducible exact M_b20 (by omega) (by omega) | with_reducible exact M_b24 (by omega) (by omega) | with_reducible exact M_b28 (by omega) (by omega) | with_reducible exact upR_s | ((with_reducible apply upR_a); (first | decide | omega)) | ((with_reducible apply upR_b); (first | decide | omega)) | exact Nat.le_of_ble_eq_true rfl | with_reducible assumption | with_reducible exact rfl | omega | with_reducible apply wAnd | decide +kernel
  exact ⟨rfl, rfl⟩
/-- where an arm that moves finds columns; 0: nowhere -/
def elsN (G : Nat → Nat → Int) (j a own : Nat) : Nat := if placeN (busyN G (G 180 0) (mAt (G 180) j 6 + mAt (G 180) j (16 + a)) (mAt (G 180) j 0) ||| own) (mAt (G 180) j (12 + a)) < 0 then 0 else bitsN (placeN (busyN G (G 180 0) (mAt (G 180) j 6 + mAt (G 180) j (16 + a)) (mAt (G 180) j 0) ||| own) (mAt (G 180) j (12 + a))).toNat (mAt (G 180) j (12 + a)).toNat
theorem M_elsewhere {G U : Nat → Nat → Int} {j a own : Nat} (hok : mOk G) (hrow : rowOk (G 180)) (hj : j < (G 180 1).toNat) (ha : a < mArms (G 180) j) (ho : own < 65536) : F_M_elsewhere [pR 179, pI (Int32.ofInt ((4 * j + a : Nat) : Int)), pI (Int32.ofInt (own : Int))] (zM G U) = some (some (pI (Int32.ofInt ((elsN G j a own : Nat) : Int))), zM G U) := by
  apply wF_to
  obtain ⟨w1, w2, w3, -, -, -, -, -, -, -, -, w12, w13, -⟩ := id hrow
  obtain ⟨j1, j2, j3, j4, j5, j6, j7, j8, j9, j10, j11, j12, j13, j14, j15, j16⟩ := w12 j hj
  obtain ⟨b1, b2, -⟩ := j16 a ha
  have em : mArms (G 180) j = (mAt (G 180) j 4).toNat := rfl
  have hb := M_busy (U := U) (x := G 180 0) (y := mAt (G 180) j 6 + mAt (G 180) j (16 + a)) (acc := mAt (G 180) j 0) hok ⟨by omega, by omega⟩ ⟨by omega, by omega⟩ ⟨by omega, by omega⟩
  have hbl := busyN_lt (x := G 180 0) (y := mAt (G 180) j 6 + mAt (G 180) j (16 + a)) (acc := mAt (G 180) j 0) hok
  unfold F_M_elsewhere B_M_elsewhere elsN
  generalize busyN G (G 180 0) (mAt (G 180) j 6 + mAt (G 180) j (16 + a)) (mAt (G 180) j 0) = bz at *
  have hol := or_lt hbl ho
  have hp := M_place (σ := zM G U) (set := bz ||| own) (many := mAt (G 180) j (12 + a)) hol ⟨by omega, by omega⟩
  have hpr := placeN_rg (set := bz ||| own) (many := mAt (G 180) j (12 + a))
  have hpf := placeN_fit (set := bz ||| own) (many := mAt (G 180) j (12 + a)) (by omega)
  generalize placeN (bz ||| own) (mAt (G 180) j (12 + a)) = pl at *
  apply wBody (Nat.le_of_ble_eq_true rfl)
  have hbits : 0 ≤ pl → F_M_bits [pI (Int32.ofInt pl), pI (Int32.ofInt (mAt (G 180) j (12 + a)))] (zM G U) = some (some (pI (Int32.ofInt ((bitsN pl.toNat (mAt (G 180) j (12 + a)).toNat : Nat) : Int))), zM G U) := fun h => M_bitsZ (by omega) (by omega)
  by_cases c : pl < 0
  · repeat' first | with_reducible apply wSeq | with_reducible apply wAsI | with_reducible apply wRI | with_reducible apply wB_e | (intro h; try simp only [Bool.and_eq_true, Bool.or_eq_true, Bool.not_eq_true', Bool.not_eq_false', Bool.and_eq_false_imp, Bool.or_eq_false_iff, decide_eq_true_eq, decide_eq_false_iff_not, Bool.not_true, Bool.not_false, Bool.true_eq_false, Bool.false_eq_true, Bool.not_not] at h) | with_reducible apply wN1 | with_reducible apply wN2 | with_reducible apply wN3 | with_reducible apply wN4 | with_reducible apply wN0 | with_reducible apply wE0 | with_reducible apply wXI | with_reducible apply wXB | with_reducible exact hb | with_reducible exact hp | ((with_reducible apply eRem4 (j := j) (a := a)); (with_reducible apply eL); rfl; omega; omega) | ((with_reducible apply eDiv4 (j := j) (a := a)); (with_reducible apply eL); rfl; omega; omega) | with_reducible exact eK | ((with_reducible apply eL); rfl) | ((with_reducible apply eLR); rfl) | with_reducible exact eAN | with_reducible apply eAdd | with_reducible apply eOr | with_reducible apply eDiv | with_reducible apply eRem | with_reducible apply eWJ | with_reducible apply eLt | with_reducible apply eIteI | with_reducible apply eIteJ | with_reducible apply eIte | with_reducible apply eArr2 | with_reducible apply eAI | with_reducible apply eAJ | with_reducible apply eAR | with_reducible apply eCI | with_reducible apply eCZ | with_reducible apply wRc | with_reducible exact ckv179 | with_reducible exact ckv99 | with_reducible apply R_M_g | with_reducible exact N_M_g | with_reducible exact M_knownEndR (by omega) (by omega) | with_reducible exact M_knownEnd (by omega) (by omega) | with_reducible exact M_a0 (by omega) | with_reducible exact M_a1 (by omega) | with_reducible exact M_a2 (by omega) | with_reducible exact M_a3 (by omega) | with_reducible exact M_a4 (by omega) | with_reducible exact M_a5 (by omega) | with_reducible exact M_a6 (by omega) | with_reducible exact M_a7 (by omega) | with_reducible exact M_a8 (by omega) | with_reducible exact M_a9 (by omega) | with_reducible exact M_a10 (by omega) | with_reducible exact M_a11 (by omega) | with_reducible exact M_b12 (by omega) (by omega) | with_reducible exact M_b16 (by omega) (by omega) | with_reducible exact M_b20 (by omega) (by omega) | with_reducible exact M_b24 (by omega) (by omega) | with_reducible exact M_b28 (by omega) (by omega) | with_reducible exact Int.toNat_natCast _ | with_reducible exact tn0 | with_reducible exact tn1 | with_reducible exact tn2 | with_reducible exact tn3 | with_reducible exact tn4 | with_reducible exact tn5 | with_reducible exact tn6 | with_reducible exact tn7 | with_reducible exact tn8 | with_reducible exact tn9 | with_reducible exact tn10 | with_reducible exact tn11 | with_reducible exact tn12 | with_reducible exact tn13 | with_reducible exact tn14 | with_reducible exact tn15 | with_reducible exact tn16 | with_reducible exact tnK0 | with_reducible exact tnK4 | with_reducible exact tnK8 | with_reducible exact tnK12 | with_reducible exact tnK16 | with_reducible exact tnK20 | with_reducible exact tnK24 | with_reducible exact tnK28 | with_reducible exact tnK32 | with_reducible exact tnJA | with_reducible exact tnA | with_reducible exact upR_s | ((with_reducible apply upR_a); (first | decide | omega)) | ((with_reducible apply upR_b); (first | decide | omega)) | exact Nat.le_of_ble_eq_true rfl | with_reducible assumption | with_reducible exact rfl | omega | with_reducible apply wAnd | decide +kernel
    rw [if_pos c, if_pos (decide_eq_true c)]
    exact ⟨rfl, rfl⟩
  · have hbits := hbits (by omega)
    repeat' first | with_reducible apply wSeq | with_reducible apply wAsI | with_reducible apply wRI | with_reducible apply wB_e | (intro h; try simp only [Bool.and_eq_true, Bool.or_eq_true, Bool.not_eq_true', Bool.not_eq_false', Bool.and_eq_false_imp, Bool.or_eq_false_iff, decide_eq_true_eq, decide_eq_false_iff_not, Bool.not_true, Bool.not_false, Bool.true_eq_false, Bool.false_eq_true, Bool.not_not] at h) | with_reducible apply wN1 | with_reducible apply wN2 | with_reducible apply wN3 | with_reducible apply wN4 | with_reducible apply wN0 | with_reducible apply wE0 | with_reducible apply wXI | with_reducible apply wXB | with_reducible exact hb | with_reducible exact hp | with_reducible exact hbits | ((with_reducible apply eRem4 (j := j) (a := a)); (with_reducible apply eL); rfl; omega; omega) | ((with_reducible apply eDiv4 (j := j) (a := a)); (with_reducible apply eL); rfl; omega; omega) | with_reducible exact eK | ((with_reducible apply eL); rfl) | ((with_reducible apply eLR); rfl) | with_reducible exact eAN | with_reducible apply eAdd | with_reducible apply eOr | with_reducible apply eDiv | with_reducible apply eRem | with_reducible apply eWJ | with_reducible apply eLt | with_reducible apply eIteI | with_reducible apply eIteJ | with_reducible apply eIte | with_reducible apply eArr2 | with_reducible apply eAI | with_reducible apply eAJ | with_reducible apply eAR | with_reducible apply eCI | with_reducible apply eCZ | with_reducible apply wRc | with_reducible exact ckv179 | with_reducible exact ckv99 | with_reducible apply R_M_g | with_reducible exact N_M_g | with_reducible exact M_knownEndR (by omega) (by omega) | with_reducible exact M_knownEnd (by omega) (by omega) | with_reducible exact M_a0 (by omega) | with_reducible exact M_a1 (by omega) | with_reducible exact M_a2 (by omega) | with_reducible exact M_a3 (by omega) | with_reducible exact M_a4 (by omega) | with_reducible exact M_a5 (by omega) | with_reducible exact M_a6 (by omega) | with_reducible exact M_a7 (by omega) | with_reducible exact M_a8 (by omega) | with_reducible exact M_a9 (by omega) | with_reducible exact M_a10 (by omega) | with_reducible exact M_a11 (by omega) | with_reducible exact M_b12 (by omega) (by omega) | with_reducible exact M_b16 (by omega) (by omega) | with_reducible exact M_b20 (by omega) (by omega) | with_reducible exact M_b24 (by omega) (by omega) | with_reducible exact M_b28 (by omega) (by omega) | with_reducible exact Int.toNat_natCast _ | with_reducible exact tn0 | with_reducible exact tn1 | with_reducible exact tn2 | with_reducible exact tn3 | with_reducible exact tn4 | with_reducible exact tn5 | with_reducible exact tn6 | with_reducible exact tn7 | with_reducible exact tn8 | with_reducible exact tn9 | with_reducible exact tn10 | with_reducible exact tn11 | with_reducible exact tn12 | with_reducible exact tn13 | with_reducible exact tn14 | with_reducible exact tn15 | with_reducible exact tn16 | with_reducible exact tnK0 | with_reducible exact tnK4 | with_reducible exact tnK8 | with_reducible exact tnK12 | with_reducible exact tnK16 | with_reducible exact tnK20 | with_reducible exact tnK24 | with_reducible exact tnK28 | with_reducible exact tnK32 | with_reducible exact tnJA | with_reducible exact tnA | with_reducible exact upR_s | ((with_reducible apply upR_a); (first | decide | omega)) | ((with_reducible apply upR_b); (first | decide | omega)) | exact Nat.le_of_ble_eq_true rfl | with_reducible assumption | with_reducible exact rfl | omega | with_reducible apply wAnd | decide +kernel
    rw [if_neg c, if_neg (by simpa using c)]
    exact ⟨rfl, rfl⟩
theorem pickW_free {w : Nat → Int} {P : Nat} : ∀ n : Nat, 0 ≤ pickW w P n → P.testBit (pickW w P n).toNat = false
  | 0, h => by simp [pickW] at h
  | n + 1, h => by
    rw [pickW] at h ⊢
    split
    · rename_i h1
      simp only [Bool.and_eq_true, Bool.not_eq_true'] at h1
      simpa using h1.1
    · rename_i h1
      rw [if_neg h1] at h
      exact pickW_free n h
theorem pickW_none {w : Nat → Int} {P : Nat} : ∀ n : Nat, pickW w P n < 0 → ∀ a, a < n → P.testBit a = true
  | 0, _ => fun a h => absurd h (by omega)
  | n + 1, h => by
    rw [pickW] at h
    split at h
    · omega
    · rename_i h1
      intro a ha
      by_cases e : a = n
      · subst e
        cases hb : P.testBit a with
        | true => rfl
        | false => simp [hb, h] at h1
      · exact pickW_none n h a (by omega)
theorem pickW_some {w : Nat → Int} {P n : Nat} (h : cntB P n < n) : 0 ≤ pickW w P n := by
  by_cases c : pickW w P n < 0
  · have := cntB_all n (pickW_none n c)
    omega
  · omega
theorem plW_cnt {w : Nat → Int} {n : Nat} : ∀ k, k ≤ n → cntB (plW w n k) n = k
  | 0, _ => by
    rw [plW]
    have : ∀ m, cntB 0 m = 0 := fun m => by induction m with
      | zero => rfl
      | succ m ih => simp [cntB, ih]
    exact this n
  | k + 1, h => by
    have ih := plW_cnt (w := w) (n := n) k (by omega)
    have h0 := pickW_some (w := w) (P := plW w n k) (n := n) (by omega)
    have hr := pickW_rg (w := w) (P := plW w n k) n
    rw [plW, cntB_put (pickW_free n h0), ih, if_pos (by omega)]
theorem nxW_free {w : Nat → Int} {n k : Nat} (h : k < n) : nxW w n k < n ∧ (plW w n k).testBit (nxW w n k) = false := by
  have ih := plW_cnt (w := w) (n := n) k (by omega)
  have h0 := pickW_some (w := w) (P := plW w n k) (n := n) (by omega)
  have hr := pickW_rg (w := w) (P := plW w n k) n
  refine ⟨?_, pickW_free n h0⟩
  unfold nxW
  omega
theorem plW_all {w : Nat → Int} {n a : Nat} (h : a < n) : (plW w n n).testBit a = true := cntB_full n (plW_cnt n (Nat.le_refl _)) a h
theorem plW_bit {w : Nat → Int} {n a : Nat} : ∀ k, k ≤ n → (plW w n k).testBit a = true → a < n
  | 0, _, h => by simp [plW] at h
  | k + 1, hk, h => by
    rw [plW, Nat.testBit_or, Bool.or_eq_true, Nat.testBit_two_pow] at h
    rcases h with h | h
    · exact plW_bit k (by omega) h
    · have := (nxW_free (w := w) (n := n) (k := k) (by omega)).1
      unfold nxW at this
      simp only [decide_eq_true_eq] at h
      omega
/-- what the fit takes is what is found -/
theorem gfit_own {n : Nat} {w : Nat → Int} {b : Nat → Nat} {c : Nat} : ∀ k, k ≤ n → ∀ s, gfit n w b k = some s → (s.1.testBit c = true ↔ ∃ a, (plW w n k).testBit a = true ∧ (bitsN (s.2 a).toNat (w a).toNat).testBit c = true)
  | 0, _, s, h => by cases h; simp [plW]
  | k + 1, hk, s, h => by
    have hf := nxW_free (w := w) (n := n) (k := k) (by omega)
    rw [gfit] at h
    cases hg : gfit n w b k with
    | none => rw [hg] at h; cases h
    | some s0 =>
      rw [hg] at h
      simp only [Option.bind_some] at h
      split at h
      · cases h
      · have ih := gfit_own (c := c) k (by omega) s0 hg
        have hp : plW w n (k + 1) = plW w n k ||| 2 ^ nxW w n k := rfl
        cases h
        generalize placeN (b (nxW w n k) ||| s0.1) (w (nxW w n k)) = pl at *
        generalize nxW w n k = x at *
        rw [hp]
        simp only [Nat.testBit_or, Bool.or_eq_true, Nat.testBit_two_pow]
        constructor
        · rintro (h1 | h1)
          · obtain ⟨a, h2, h3⟩ := ih.mp h1
            have hax : a ≠ x := fun e => by rw [e, hf.2] at h2; cases h2
            exact ⟨a, Or.inl h2, by rw [if_neg hax]; exact h3⟩
          · exact ⟨x, Or.inr (by simp), by rw [if_pos rfl]; exact h1⟩
        · rintro ⟨a, h2 | h2, h3⟩
          · have hax : a ≠ x := fun e => by rw [e, hf.2] at h2; cases h2
            rw [if_neg hax] at h3
            exact Or.inl (ih.mpr ⟨a, h2, h3⟩)
          · have hax : x = a := by simpa using h2
            subst hax
            rw [if_pos rfl] at h3
            exact Or.inr h3
theorem gfit_found {n : Nat} {w : Nat → Int} {b : Nat → Nat} {s : Nat × (Nat → Int)} (h : gfit n w b n = some s) : s.1 = orTo (fun a => bitsN (s.2 a).toNat (w a).toNat) n := by
  refine Nat.eq_of_testBit_eq fun c => ?_
  have h1 := gfit_own (c := c) n (Nat.le_refl _) s h
  have h2 := orTo_test (f := fun a => bitsN (s.2 a).toNat (w a).toNat) (c := c) (n := n)
  have h3 : s.1.testBit c = true ↔ (orTo (fun a => bitsN (s.2 a).toNat (w a).toNat) n).testBit c = true := by
    rw [h1, h2]
    constructor
    · rintro ⟨a, h4, h5⟩
      exact ⟨a, plW_bit n (Nat.le_refl _) h4, h5⟩
    · rintro ⟨a, ha, h5⟩
      exact ⟨a, plW_all ha, h5⟩
  cases h4 : s.1.testBit c with
  | true => exact (h3.mp h4).symm
  | false =>
    cases h5 : (orTo (fun a => bitsN (s.2 a).toNat (w a).toNat) n).testBit c with
    | true => rw [h3.mpr h5] at h4; cases h4
    | false => rfl
