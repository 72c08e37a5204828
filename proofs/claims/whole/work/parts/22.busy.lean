/-! ===== what is busy ===== -/
theorem M_bitsZ {σ : pM} {f m : Int} (hf : 0 ≤ f ∧ f ≤ 16) (hm : 0 ≤ m ∧ m ≤ 16) : F_M_bits [pI (Int32.ofInt f), pI (Int32.ofInt m)] σ = some (some (pI (Int32.ofInt ((bitsN f.toNat m.toNat : Nat) : Int))), σ) := by
  have h := M_bits (σ := σ) (f := f.toNat) (m := m.toNat) (by omega) (by omega)
  rwa [Int.toNat_of_nonneg hf.1, Int.toNat_of_nonneg hm.1] at h
def mSpanBits (g : Nat → Int) (s : Nat) : Nat := bitsN (mSpan g s 1).toNat (mSpan g s 2 - mSpan g s 1 + 1).toNat
def mSpanOk (g : Nat → Int) (s : Nat) : Prop := 0 ≤ mSpan g s 0 → 0 ≤ mSpan g s 1 ∧ mSpan g s 1 ≤ mSpan g s 2 ∧ mSpan g s 2 ≤ 15
theorem M_spanBits {G U : Nat → Nat → Int} {s : Nat} (hs : s < 12) (h : 0 ≤ mSpan (G 180) s 1 ∧ mSpan (G 180) s 1 ≤ mSpan (G 180) s 2 ∧ mSpan (G 180) s 2 ≤ 15) : F_M_spanBits [pR 179, pI (Int32.ofInt (s : Int))] (zM G U) = some (some (pI (Int32.ofInt ((mSpanBits (G 180) s : Nat) : Int))), zM G U) := by
  have e1 := M_spanAt (G := G) (U := U) (s := s) (w := 1) hs (by omega)
  have e2 := M_spanAt (G := G) (U := U) (s := s) (w := 2) hs (by omega)
  simp only [Int.cast_ofNat_Int] at e1 e2
  unfold mSpanBits
  refine eRI (Nat.le_of_ble_eq_true rfl) ?_
  have e3 := M_bitsZ (σ := zM G U) (f := mSpan (G 180) s 1) (m := mSpan (G 180) s 2 - mSpan (G 180) s 1 + 1) (by omega) (by omega)
  repeat' first | with_reducible exact eK | with_reducible exact eKJ | ((with_reducible apply eL); rfl) | ((with_reducible apply eLJ); rfl) | ((with_reducible apply eLR); rfl) | ((with_reducible apply eLZ); rfl) | with_reducible exact eAN | with_reducible apply eAdd | with_reducible apply eSub | with_reducible apply eMul | with_reducible apply eOr | with_reducible apply eDiv | with_reducible apply eMod | with_reducible apply eWJ | with_reducible apply eMax | with_reducible apply eMin | with_reducible apply eLt | with_reducible apply eGt | with_reducible apply eLe | with_reducible apply eGe | with_reducible apply eEq | with_reducible apply eNe | with_reducible apply eJLt | with_reducible apply eJGt | with_reducible apply eJLe | with_reducible apply eJGe | with_reducible apply eAnd | with_reducible apply eOrB | with_reducible apply eNot | with_reducible apply eIte | with_reducible apply eArr | with_reducible apply eFldR | with_reducible apply eFld | with_reducible apply eAI | with_reducible apply eAJ | with_reducible apply eAR | with_reducible apply eAZ | with_reducible apply eCI | with_reducible apply eCZ | with_reducible exact ckv179 | with_reducible exact ckv99 | with_reducible exact rf_180 | with_reducible exact ln_180 | intro _ | with_reducible exact e1 | with_reducible exact e2 | with_reducible exact e3 | omega | decide +kernel
theorem mSpanBits_lt {g : Nat → Int} {s : Nat} (h : 0 ≤ mSpan g s 1 ∧ mSpan g s 1 ≤ mSpan g s 2 ∧ mSpan g s 2 ≤ 15) : mSpanBits g s < 65536 := bitsN_lt (by omega)
/-- the spans' share -/
def bySpan (g : Nat → Int) (x y acc : Int) (s : Nat) : Nat := if (((decide (0 ≤ mSpan g s 0) && !decide (mSpan g s 5 = acc)) && decide (x < mSpan g s 4)) && decide (mSpan g s 3 < y)) = true then mSpanBits g s else 0
theorem bySpan_lt {g : Nat → Int} {x y acc : Int} {s : Nat} (h : mSpanOk g s) : bySpan g x y acc s < 65536 := by
  unfold bySpan
  split
  · rename_i h1
    simp only [Bool.and_eq_true, decide_eq_true_eq] at h1
    exact mSpanBits_lt (h h1.1.1.1)
  · decide
theorem busy_spans {G U : Nat → Nat → Int} {x y acc : Int} {B : Nat} {c8 c9 : Option pV} (hr : gRange (G 180)) (hok : ∀ s, s < 12 → mSpanOk (G 180) s) (hx : rgJ x) (hy : rgJ y) (ha : rg acc) (hB : B < 65536) : sWh (mI .lt (lI 7) (kI 12)) (sIf (bAnd (bAnd (bAnd (vC 12 F_M_isSpan rZ (aCR (lR 0) (aCI (lI 7) aN))) (mI .ne (vC 12 F_M_spanAt rI (aCR (lR 0) (aCI (lI 7) (aCI (kI 5) aN)))) (lI 5))) (mJ .lt (lJ 1) (wJ (vC 12 F_M_spanAt rI (aCR (lR 0) (aCI (lI 7) (aCI (kI 4) aN))))))) (mJ .gt (lJ 3) (wJ (vC 12 F_M_spanAt rI (aCR (lR 0) (aCI (lI 7) (aCI (kI 3) aN))))))) (sI 6 (bI (fun x y => x ||| y) (lI 6) (vC 12 F_M_spanBits rI (aCR (lR 0) (aCI (lI 7) aN))))) sSkip) (sInc 7 1)
    [some (pR 179), some (pJ (Int64.ofInt x)), none, some (pJ (Int64.ofInt y)), none, some (pI (Int32.ofInt acc)), some (pI (Int32.ofInt (B : Int))), some (pI (Int32.ofInt 0)), c8, c9] (zM G U) = some (.inl ([some (pR 179), some (pJ (Int64.ofInt x)), none, some (pJ (Int64.ofInt y)), none, some (pI (Int32.ofInt acc)), some (pI (Int32.ofInt ((B ||| orTo (bySpan (G 180) x y acc) 12 : Nat) : Int))), some (pI (Int32.ofInt 12)), c8, c9], zM G U)) := by
  have hl := @sWh_iter (mI .lt (lI 7) (kI 12)) (sIf (bAnd (bAnd (bAnd (vC 12 F_M_isSpan rZ (aCR (lR 0) (aCI (lI 7) aN))) (mI .ne (vC 12 F_M_spanAt rI (aCR (lR 0) (aCI (lI 7) (aCI (kI 5) aN)))) (lI 5))) (mJ .lt (lJ 1) (wJ (vC 12 F_M_spanAt rI (aCR (lR 0) (aCI (lI 7) (aCI (kI 4) aN))))))) (mJ .gt (lJ 3) (wJ (vC 12 F_M_spanAt rI (aCR (lR 0) (aCI (lI 7) (aCI (kI 3) aN))))))) (sI 6 (bI (fun x y => x ||| y) (lI 6) (vC 12 F_M_spanBits rI (aCR (lR 0) (aCI (lI 7) aN))))) sSkip) (sInc 7 1) (fun i => ([some (pR 179), some (pJ (Int64.ofInt x)), none, some (pJ (Int64.ofInt y)), none, some (pI (Int32.ofInt acc)), some (pI (Int32.ofInt ((B ||| orTo (bySpan (G 180) x y acc) i : Nat) : Int))), some (pI (Int32.ofInt (i : Int))), c8, c9], zM G U)) 12 (by decide) (fun i hi => ?_) ?_
  · simp only [orTo, Nat.or_zero] at hl
    exact hl
  · refine ⟨?_, ?_⟩
    · show _ = some (true, zM G U)
      rw [← show decide ((i : Int) < 12) = true by simp; omega]
      repeat' first | with_reducible exact eK | with_reducible exact eKJ | ((with_reducible apply eL); rfl) | ((with_reducible apply eLJ); rfl) | ((with_reducible apply eLR); rfl) | ((with_reducible apply eLZ); rfl) | with_reducible exact eAN | with_reducible apply eAdd | with_reducible apply eSub | with_reducible apply eMul | with_reducible apply eOr | with_reducible apply eDiv | with_reducible apply eMod | with_reducible apply eWJ | with_reducible apply eMax | with_reducible apply eMin | with_reducible apply eLt | with_reducible apply eGt | with_reducible apply eLe | with_reducible apply eGe | with_reducible apply eEq | with_reducible apply eNe | with_reducible apply eJLt | with_reducible apply eJGt | with_reducible apply eJLe | with_reducible apply eJGe | with_reducible apply eAnd | with_reducible apply eOrB | with_reducible apply eNot | with_reducible apply eIte | with_reducible apply eArr | with_reducible apply eFldR | with_reducible apply eFld | with_reducible apply eAI | with_reducible apply eAJ | with_reducible apply eAR | with_reducible apply eAZ | with_reducible apply eCI | with_reducible apply eCZ | with_reducible exact ckv179 | with_reducible exact ckv99 | with_reducible exact rf_180 | with_reducible exact ln_180 | intro _ | omega | decide +kernel
    · have i0 := M_isSpan (G := G) (U := U) (s := i) hi hr
      have s3 := M_spanAt (G := G) (U := U) (s := i) (w := 3) hi (by omega)
      have s4 := M_spanAt (G := G) (U := U) (s := i) (w := 4) hi (by omega)
      have s5 := M_spanAt (G := G) (U := U) (s := i) (w := 5) hi (by omega)
      simp only [Int.cast_ofNat_Int] at s3 s4 s5
      have r3 : rg (mSpan (G 180) i 3) := hr _
      have r4 : rg (mSpan (G 180) i 4) := hr _
      have r5 : rg (mSpan (G 180) i 5) := hr _
      have hlt := orTo_lt (f := bySpan (G 180) x y acc) (n := i) (fun k hk => bySpan_lt (hok k (by omega)))
      have hc : (bAnd (bAnd (bAnd (vC 12 F_M_isSpan rZ (aCR (lR 0) (aCI (lI 7) aN))) (mI .ne (vC 12 F_M_spanAt rI (aCR (lR 0) (aCI (lI 7) (aCI (kI 5) aN)))) (lI 5))) (mJ .lt (lJ 1) (wJ (vC 12 F_M_spanAt rI (aCR (lR 0) (aCI (lI 7) (aCI (kI 4) aN))))))) (mJ .gt (lJ 3) (wJ (vC 12 F_M_spanAt rI (aCR (lR 0) (aCI (lI 7) (aCI (kI 3) aN))))))) [some (pR 179), some (pJ (Int64.ofInt x)), none, some (pJ (Int64.ofInt y)), none, some (pI (Int32.ofInt acc)), some (pI (Int32.ofInt ((B ||| orTo (bySpan (G 180) x y acc) i : Nat) : Int))), some (pI (Int32.ofInt (i : Int))), c8, c9] (zM G U) = some ((((decide (0 ≤ mSpan (G 180) i 0) && !decide (mSpan (G 180) i 5 = acc)) && decide (x < mSpan (G 180) i 4)) && decide (mSpan (G 180) i 3 < y)), zM G U) := by
        repeat' first | with_reducible exact eK | with_reducible exact eKJ | ((with_reducible apply eL); rfl) | ((with_reducible apply eLJ); rfl) | ((with_reducible apply eLR); rfl) | ((with_reducible apply eLZ); rfl) | with_reducible exact eAN | with_reducible apply eAdd | with_reducible apply eSub | with_reducible apply eMul | with_reducible apply eOr | with_reducible apply eDiv | with_reducible apply eMod | with_reducible apply eWJ | with_reducible apply eMax | with_reducible apply eMin | with_reducible apply eLt | with_reducible apply eGt | with_reducible apply eLe | with_reducible apply eGe | with_reducible apply eEq | with_reducible apply eNe | with_reducible apply eJLt | with_reducible apply eJGt | with_reducible apply eJLe | with_reducible apply eJGe | with_reducible apply eAnd | with_reducible apply eOrB | with_reducible apply eNot | with_reducible apply eIte | with_reducible apply eArr | with_reducible apply eFldR | with_reducible apply eFld | with_reducible apply eAI | with_reducible apply eAJ | with_reducible apply eAR | with_reducible apply eAZ | with_reducible apply eCI | with_reducible apply eCZ | with_reducible exact ckv179 | with_reducible exact ckv99 | with_reducible exact rf_180 | with_reducible exact ln_180 | intro _ | with_reducible exact i0 | with_reducible exact s3 | with_reducible exact s4 | with_reducible exact s5 | omega | decide +kernel
      have hB2 : B ||| orTo (bySpan (G 180) x y acc) i < 65536 := or_lt hB hlt
      have key : (if (((decide (0 ≤ mSpan (G 180) i 0) && !decide (mSpan (G 180) i 5 = acc)) && decide (x < mSpan (G 180) i 4)) && decide (mSpan (G 180) i 3 < y)) = true then (((B ||| orTo (bySpan (G 180) x y acc) i) ||| mSpanBits (G 180) i : Nat) : Int) else ((B ||| orTo (bySpan (G 180) x y acc) i : Nat) : Int)) = ((B ||| orTo (bySpan (G 180) x y acc) (i + 1) : Nat) : Int) := by
        rw [orTo, ← Nat.or_assoc]
        conv => rhs; rw [bySpan]
        split
        · rfl
        · rw [Nat.or_zero]
      have e1 : ((i + 1 : Nat) : Int) = (i : Int) + 1 := by omega
      rw [← key, e1]
      refine sStep_e (sIf_set hc (fun h1 => ?_) (Nat.le_of_ble_eq_true rfl) rfl) (sInc_n rfl) rfl
      simp only [Bool.and_eq_true, decide_eq_true_eq] at h1
      have s1 := M_spanBits (G := G) (U := U) (s := i) hi (hok i hi h1.1.1.1)
      have l1 := mSpanBits_lt (hok i hi h1.1.1.1)
      repeat' first | with_reducible exact eK | with_reducible exact eKJ | ((with_reducible apply eL); rfl) | ((with_reducible apply eLJ); rfl) | ((with_reducible apply eLR); rfl) | ((with_reducible apply eLZ); rfl) | with_reducible exact eAN | with_reducible apply eAdd | with_reducible apply eSub | with_reducible apply eMul | with_reducible apply eOr | with_reducible apply eDiv | with_reducible apply eMod | with_reducible apply eWJ | with_reducible apply eMax | with_reducible apply eMin | with_reducible apply eLt | with_reducible apply eGt | with_reducible apply eLe | with_reducible apply eGe | with_reducible apply eEq | with_reducible apply eNe | with_reducible apply eJLt | with_reducible apply eJGt | with_reducible apply eJLe | with_reducible apply eJGe | with_reducible apply eAnd | with_reducible apply eOrB | with_reducible apply eNot | with_reducible apply eIte | with_reducible apply eArr | with_reducible apply eFldR | with_reducible apply eFld | with_reducible apply eAI | with_reducible apply eAJ | with_reducible apply eAR | with_reducible apply eAZ | with_reducible apply eCI | with_reducible apply eCZ | with_reducible exact ckv179 | with_reducible exact ckv99 | with_reducible exact rf_180 | with_reducible exact ln_180 | intro _ | with_reducible exact s1 | omega | decide +kernel
  · show _ = some (false, zM G U)
    rw [← show decide ((12 : Int) < 12) = false by decide]
    repeat' first | with_reducible exact eK | with_reducible exact eKJ | ((with_reducible apply eL); rfl) | ((with_reducible apply eLJ); rfl) | ((with_reducible apply eLR); rfl) | ((with_reducible apply eLZ); rfl) | with_reducible exact eAN | with_reducible apply eAdd | with_reducible apply eSub | with_reducible apply eMul | with_reducible apply eOr | with_reducible apply eDiv | with_reducible apply eMod | with_reducible apply eWJ | with_reducible apply eMax | with_reducible apply eMin | with_reducible apply eLt | with_reducible apply eGt | with_reducible apply eLe | with_reducible apply eGe | with_reducible apply eEq | with_reducible apply eNe | with_reducible apply eJLt | with_reducible apply eJGt | with_reducible apply eJLe | with_reducible apply eJGe | with_reducible apply eAnd | with_reducible apply eOrB | with_reducible apply eNot | with_reducible apply eIte | with_reducible apply eArr | with_reducible apply eFldR | with_reducible apply eFld | with_reducible apply eAI | with_reducible apply eAJ | with_reducible apply eAR | with_reducible apply eAZ | with_reducible apply eCI | with_reducible apply eCZ | with_reducible exact ckv179 | with_reducible exact ckv99 | with_reducible exact rf_180 | with_reducible exact ln_180 | intro _ | omega | decide +kernel
/-! the arms' share -/
def mHeldBits (g : Nat → Int) (j a : Nat) : Nat := bitsN (mAt g j (20 + a)).toNat (mAt g j (12 + a)).toNat
def mPromBits (g : Nat → Int) (j a : Nat) : Nat := bitsN (mAt g j (28 + a)).toNat (mAt g j (12 + a)).toNat
def mArmOk (g : Nat → Int) (j a : Nat) : Prop := (0 ≤ mAt g j (12 + a) ∧ mAt g j (12 + a) ≤ 16) ∧ rg (mAt g j 6 + mAt g j (16 + a)) ∧ rg (mAt g j 9 + mAt g j (16 + a)) ∧ (mHolds g j a = true → 0 ≤ mAt g j (20 + a) ∧ mAt g j (20 + a) + mAt g j (12 + a) ≤ 16) ∧ (0 ≤ mAt g j 9 → 0 ≤ mAt g j (28 + a) ∧ mAt g j (28 + a) + mAt g j (12 + a) ≤ 16)
theorem mHeldBits_lt {g : Nat → Int} {j a : Nat} (h : mArmOk g j a) (h1 : mHolds g j a = true) : mHeldBits g j a < 65536 := bitsN_lt (by have := h.1; have := h.2.2.2.1 h1; omega)
theorem mPromBits_lt {g : Nat → Int} {j a : Nat} (h : mArmOk g j a) (h1 : 0 ≤ mAt g j 9) : mPromBits g j a < 65536 := bitsN_lt (by have := h.1; have := h.2.2.2.2 h1; omega)
def cHeld (g : Nat → Int) (x gA gB : Int) (j a : Nat) : Bool := ((mHolds g j a && decide (x < mAt g j 6 + mAt g j (16 + a))) && !decide (4 * (j : Int) + a = gA)) && !decide (4 * (j : Int) + a = gB)
def cProm (g : Nat → Int) (x y sA sB : Int) (j a : Nat) : Bool := (((decide (0 ≤ mAt g j 9) && !decide ((j : Int) = sA)) && !decide ((j : Int) = sB)) && decide (x < mAt g j 9 + mAt g j (16 + a))) && decide (mAt g j 9 < y)
def byArm (g : Nat → Int) (x y gA gB sA sB : Int) (j a : Nat) : Nat := (if cHeld g x gA gB j a = true then mHeldBits g j a else 0) ||| (if cProm g x y sA sB j a = true then mPromBits g j a else 0)
theorem cHeld_holds {g : Nat → Int} {x gA gB : Int} {j a : Nat} (h : cHeld g x gA gB j a = true) : mHolds g j a = true := by
  simp only [cHeld, Bool.and_eq_true] at h
  exact h.1.1.1
theorem cProm_prom {g : Nat → Int} {x y sA sB : Int} {j a : Nat} (h : cProm g x y sA sB j a = true) : 0 ≤ mAt g j 9 := by
  simp only [cProm, Bool.and_eq_true, decide_eq_true_eq] at h
  exact h.1.1.1.1
theorem byArm_lt {g : Nat → Int} {x y gA gB sA sB : Int} {j a : Nat} (h : mArmOk g j a) : byArm g x y gA gB sA sB j a < 65536 := by
  unfold byArm
  refine or_lt ?_ ?_
  · split
    · rename_i h1; exact mHeldBits_lt h (cHeld_holds h1)
    · decide
  · split
    · rename_i h1; exact mPromBits_lt h (cProm_prom h1)
    · decide
theorem M_heldBitsZ {G U : Nat → Nat → Int} {j a : Nat} (hj : j < 80) (ha : a < 4) (h : mArmOk (G 180) j a) (h1 : mHolds (G 180) j a = true) : F_M_heldBits [pR 179, pI (Int32.ofInt (j : Int)), pI (Int32.ofInt (a : Int))] (zM G U) = some (some (pI (Int32.ofInt ((mHeldBits (G 180) j a : Nat) : Int))), zM G U) := by
  obtain ⟨h0, -, -, h3, -⟩ := h
  have h4 := h3 h1
  exact M_heldBits hj ha (Int.toNat_of_nonneg h4.1).symm (Int.toNat_of_nonneg h0.1).symm (by omega) (by omega)
theorem M_promBitsZ {G U : Nat → Nat → Int} {j a : Nat} (hj : j < 80) (ha : a < 4) (h : mArmOk (G 180) j a) (h1 : 0 ≤ mAt (G 180) j 9) : F_M_promisedBits [pR 179, pI (Int32.ofInt (j : Int)), pI (Int32.ofInt (a : Int))] (zM G U) = some (some (pI (Int32.ofInt ((mPromBits (G 180) j a : Nat) : Int))), zM G U) := by
  obtain ⟨h0, -, -, -, h3⟩ := h
  have h4 := h3 h1
  exact M_promisedBits hj ha (Int.toNat_of_nonneg h4.1).symm (Int.toNat_of_nonneg h0.1).symm (by omega) (by omega)
theorem fk_13 : okI 12 13 179 = true := by decide +kernel
theorem fk_14 : okI 12 14 179 = true := by decide +kernel
theorem fk_15 : okI 12 15 179 = true := by decide +kernel
theorem fk_16 : okI 12 16 179 = true := by decide +kernel
abbrev LB (x y acc : Int) (S : Nat) (j p a : Int) : pLo := [some (pR 179), some (pJ (Int64.ofInt x)), none, some (pJ (Int64.ofInt y)), none, some (pI (Int32.ofInt acc)), some (pI (Int32.ofInt (S : Int))), some (pI (Int32.ofInt j)), some (pI (Int32.ofInt p)), some (pI (Int32.ofInt a))]
theorem busy_c1 {G U : Nat → Nat → Int} {x y acc : Int} {S j a : Nat} (hj : j < 80) (ha : a < 4) (hr : gRange (G 180)) (hf : gRange (G 179)) (hok : mArmOk (G 180) j a) (hx : rgJ x) : ((bAnd (bAnd (bAnd (vC 12 F_M_holds rZ (aCR (lR 0) (aCI (lI 7) (aCI (lI 9) aN)))) (mJ .lt (lJ 1) (wJ (vC 12 F_M_knownEnd rI (aCR (lR 0) (aCI (lI 7) (aCI (lI 9) aN))))))) (mI .ne (bI (fun x y => x + y) (bI (fun x y => x * y) (kI 4) (lI 7)) (lI 9)) (gI 12 15 (lR 0)))) (mI .ne (bI (fun x y => x + y) (bI (fun x y => x * y) (kI 4) (lI 7)) (lI 9)) (gI 12 16 (lR 0))))) (LB x y acc S j (mAt (G 180) j 9) a) (zM G U) = some (cHeld (G 180) x (G 179 15) (G 179 16) j a, zM G U) := by
  have i0 := M_holds (G := G) (U := U) hj ha hr
  have i1 := M_knownEnd (G := G) (U := U) hj ha
  have r1 := hok.2.1
  have r15 := hf 15
  have r16 := hf 16
  unfold cHeld
  repeat' first | with_reducible exact eK | with_reducible exact eKJ | ((with_reducible apply eL); rfl) | ((with_reducible apply eLJ); rfl) | ((with_reducible apply eLR); rfl) | ((with_reducible apply eLZ); rfl) | with_reducible exact eAN | with_reducible apply eAdd | with_reducible apply eSub | with_reducible apply eMul | with_reducible apply eOr | with_reducible apply eDiv | with_reducible apply eMod | with_reducible apply eWJ | with_reducible apply eMax | with_reducible apply eMin | with_reducible apply eLt | with_reducible apply eGt | with_reducible apply eLe | with_reducible apply eGe | with_reducible apply eEq | with_reducible apply eNe | with_reducible apply eJLt | with_reducible apply eJGt | with_reducible apply eJLe | with_reducible apply eJGe | with_reducible apply eAnd | with_reducible apply eOrB | with_reducible apply eNot | with_reducible apply eIte | with_reducible apply eArr | with_reducible apply eFldR | with_reducible apply eFld | with_reducible apply eAI | with_reducible apply eAJ | with_reducible apply eAR | with_reducible apply eAZ | with_reducible apply eCI | with_reducible apply eCZ | with_reducible exact ckv179 | with_reducible exact ckv99 | with_reducible exact rf_180 | with_reducible exact ln_180 | intro _ | with_reducible exact i0 | with_reducible exact i1 | with_reducible exact fk_15 | with_reducible exact fk_16 | with_reducible exact r1 | omega | decide +kernel
theorem busy_c2 {G U : Nat → Nat → Int} {x y acc : Int} {S j a : Nat} (hj : j < 80) (ha : a < 4) (hr : gRange (G 180)) (hf : gRange (G 179)) (hok : mArmOk (G 180) j a) (hx : rgJ x) (hy : rgJ y) : ((bAnd (bAnd (bAnd (bAnd (mI .ge (lI 8) (kI 0)) (mI .ne (lI 7) (gI 12 13 (lR 0)))) (mI .ne (lI 7) (gI 12 14 (lR 0)))) (mJ .lt (lJ 1) (wJ (bI (fun x y => x + y) (lI 8) (vC 12 F_M_at rI (aCR (lR 0) (aCI (lI 7) (aCI (bI (fun x y => x + y) (kI 16) (lI 9)) aN)))))))) (mJ .gt (lJ 3) (wJ (lI 8))))) (LB x y acc S j (mAt (G 180) j 9) a) (zM G U) = some (cProm (G 180) x y (G 179 13) (G 179 14) j a, zM G U) := by
  have i1 := M_atL (G := G) (U := U) (j := j) (w := 16) (a := a) hj (by omega)
  simp only [Int.cast_ofNat_Int] at i1
  have r1 := hok.2.2.1
  have r9 := mAt_rg hr j 9
  have r13 := hf 13
  have r14 := hf 14
  unfold cProm
  repeat' first | with_reducible exact eK | with_reducible exact eKJ | ((with_reducible apply eL); rfl) | ((with_reducible apply eLJ); rfl) | ((with_reducible apply eLR); rfl) | ((with_reducible apply eLZ); rfl) | with_reducible exact eAN | with_reducible apply eAdd | with_reducible apply eSub | with_reducible apply eMul | with_reducible apply eOr | with_reducible apply eDiv | with_reducible apply eMod | with_reducible apply eWJ | with_reducible apply eMax | with_reducible apply eMin | with_reducible apply eLt | with_reducible apply eGt | with_reducible apply eLe | with_reducible apply eGe | with_reducible apply eEq | with_reducible apply eNe | with_reducible apply eJLt | with_reducible apply eJGt | with_reducible apply eJLe | with_reducible apply eJGe | with_reducible apply eAnd | with_reducible apply eOrB | with_reducible apply eNot | with_reducible apply eIte | with_reducible apply eArr | with_reducible apply eFldR | with_reducible apply eFld | with_reducible apply eAI | with_reducible apply eAJ | with_reducible apply eAR | with_reducible apply eAZ | with_reducible apply eCI | with_reducible apply eCZ | with_reducible exact ckv179 | with_reducible exact ckv99 | with_reducible exact rf_180 | with_reducible exact ln_180 | intro _ | with_reducible exact i1 | with_reducible exact fk_13 | with_reducible exact fk_14 | with_reducible exact r1 | with_reducible exact r9 | omega | decide +kernel
