/-! ===== the place of an arm ===== -/
theorem shr_fact : ∀ c : Fin 32, ((Int32.ofInt (c.1 : Int) &&& 31).toBitVec.smod 32).toNat = c.1 := by decide +kernel
theorem iI_shr {s c : Nat} (hs : s < 2 ^ 31) (hc : c < 32) : Int32.ofInt (s : Int) >>> (Int32.ofInt (c : Int) &&& 31) = Int32.ofInt ((s >>> c : Nat) : Int) := by
  apply Int32.toBitVec_inj.1
  rw [Int32.toBitVec_shiftRight]
  have h1 := shr_fact ⟨c, hc⟩
  have e : ∀ n : Nat, (Int32.ofInt (n : Int)).toBitVec = BitVec.ofNat 32 n := fun n => BitVec.ofInt_natCast 32 n
  rw [e s, e (s >>> c), BitVec.sshiftRight', h1]
  have hm : (BitVec.ofNat 32 s).msb = false := by
    rw [BitVec.msb_eq_decide]
    simp
    omega
  rw [BitVec.sshiftRight_eq_of_msb_false hm]
  apply BitVec.eq_of_toNat_eq
  have h2 : s >>> c ≤ s := by rw [Nat.shiftRight_eq_div_pow]; exact Nat.div_le_self _ _
  rw [BitVec.toNat_ushiftRight, BitVec.toNat_ofNat, BitVec.toNat_ofNat, Nat.mod_eq_of_lt (by omega), Nat.mod_eq_of_lt (by omega)]
theorem eShr {L : pLo} {σ : pM} {a b : eI} {s c : Nat} (ha : a L σ = some (Int32.ofInt (s : Int), σ)) (hb : b L σ = some (Int32.ofInt (c : Int), σ)) (hs : s < 2 ^ 31) (hc : c < 32) : bI (fun x y => x >>> (y &&& 31)) a b L σ = some (Int32.ofInt ((s >>> c : Nat) : Int), σ) := by
  simp only [bI, ha, hb, Option.bind_some, iI_shr hs hc]
theorem eBand {L : pLo} {σ : pM} {a b : eI} {m n : Nat} (ha : a L σ = some (Int32.ofInt (m : Int), σ)) (hb : b L σ = some (Int32.ofInt (n : Int), σ)) (hm : m < 2 ^ 31) (hn : n < 2 ^ 31) : bI (fun x y => x &&& y) a b L σ = some (Int32.ofInt ((m &&& n : Nat) : Int), σ) := by
  simp only [bI, ha, hb, Option.bind_some, iI_and hm hn]
theorem eBit {L : pLo} {σ : pM} {a b : eI} {s c : Nat} (ha : a L σ = some (Int32.ofInt (s : Int), σ)) (hb : b L σ = some (Int32.ofInt (c : Int), σ)) (hs : s < 2 ^ 31) (hc : c < 32) : mI .eq (bI (fun x y => x &&& y) (bI (fun x y => x >>> (y &&& 31)) a b) (kI 1)) (kI 0) L σ = some (!s.testBit c, σ) := by
  have h2 : s >>> c < 2 ^ 31 := by
    have : s >>> c ≤ s := by rw [Nat.shiftRight_eq_div_pow]; exact Nat.div_le_self _ _
    omega
  have h1 := eBand (b := kI 1) (n := 1) (eShr ha hb hs hc) eK h2 (by decide)
  have h4 : (s >>> c &&& 1) = (s.testBit c).toNat := by
    rw [Nat.testBit, Nat.and_comm]
    rcases Nat.mod_two_eq_zero_or_one (s >>> c) with h | h <;> simp [Nat.and_one_is_mod, Nat.one_and_eq_mod_two, h]
  rw [h4] at h1
  have h5 := eEq (b := kI 0) (y := 0) h1 eK (by cases s.testBit c <;> simp [rg]) (by simp [rg])
  rw [h5]
  cases s.testBit c <;> rfl
def plStep (set : Nat) (many : Int) (c : Nat) (t : Int × Int × Int) : Int × Int × Int := if (decide ((c : Int) < 16) && !set.testBit c) = true then (t.1, t.2.1, t.2.2 + 1) else if (decide (many ≤ t.2.2) && decide (t.2.2 < t.2.1)) = true then ((c : Int) - t.2.2, t.2.2, 0) else (t.1, t.2.1, 0)
def plSt (set : Nat) (many : Int) : Nat → Int × Int × Int
  | 0 => (-1, 17, 0)
  | n + 1 => plStep set many n (plSt set many n)
theorem plSt_rg {set : Nat} {many : Int} : ∀ n : Nat, 0 ≤ (plSt set many n).2.2 ∧ (plSt set many n).2.2 ≤ n ∧ 0 ≤ (plSt set many n).2.1 ∧ (plSt set many n).2.1 ≤ 17 ∧ -1 ≤ (plSt set many n).1 ∧ (plSt set many n).1 ≤ n
  | 0 => by simp [plSt]
  | n + 1 => by
    obtain ⟨h1, h2, h3, h4, h5, h6⟩ := plSt_rg (set := set) (many := many) n
    rw [plSt, plStep]
    split
    · exact ⟨by show 0 ≤ _ + 1; omega, by show _ + 1 ≤ ((n + 1 : Nat) : Int); omega, h3, h4, h5, by show _ ≤ ((n + 1 : Nat) : Int); omega⟩
    · split
      · rename_i hc
        simp only [Bool.and_eq_true, decide_eq_true_eq] at hc
        exact ⟨Int.le_refl _, by show (0 : Int) ≤ ((n + 1 : Nat) : Int); omega, h1, by show (plSt set many n).2.2 ≤ 17; omega, by show -1 ≤ (n : Int) - _; omega, by show (n : Int) - _ ≤ ((n + 1 : Nat) : Int); omega⟩
      · exact ⟨Int.le_refl _, by show (0 : Int) ≤ ((n + 1 : Nat) : Int); omega, h3, h4, h5, by show _ ≤ ((n + 1 : Nat) : Int); omega⟩
def placeN (set : Nat) (many : Int) : Int := (plSt set many 17).1
abbrev LPl (set : Nat) (many : Int) (t : Int × Int × Int) (c : Int) : pLo := [some (pI (Int32.ofInt (set : Int))), some (pI (Int32.ofInt many)), some (pI (Int32.ofInt t.1)), some (pI (Int32.ofInt t.2.1)), some (pI (Int32.ofInt t.2.2)), some (pI (Int32.ofInt c))]
theorem M_place {σ : pM} {set : Nat} {many : Int} (hs : set < 65536) (hm : rg many) : F_M_place [pI (Int32.ofInt (set : Int)), pI (Int32.ofInt many)] σ = some (some (pI (Int32.ofInt (placeN set many))), σ) := by
  have hl := @sWh_iter ((mI .le (lI 5) (kI 16))) ((sIf (bAnd (mI .lt (lI 5) (kI 16)) (mI .eq (bI (fun x y => x &&& y) (bI (fun x y => x >>> (y &&& 31)) (lI 0) (lI 5)) (kI 1)) (kI 0))) (sInc 4 1) (sSeq (sIf (bAnd (mI .ge (lI 4) (lI 1)) (mI .lt (lI 4) (lI 3))) (sSeq (sI 2 (bI (fun x y => x - y) (lI 5) (lI 4))) (sI 3 (lI 4))) sSkip) (sI 4 (kI 0))))) ((sInc 5 1)) (fun i => (LPl set many (plSt set many i) i, σ)) 17 (by decide) (fun i hi => ?_) ?_
  · refine eRet (Nat.le_of_ble_eq_true rfl) (sSeq_n (sI_n eK (Nat.le_of_ble_eq_true rfl)) (sSeq_n (sI_n eK (Nat.le_of_ble_eq_true rfl)) (sSeq_n (sI_n eK (Nat.le_of_ble_eq_true rfl)) (sSeq_n (sSeq_n (sSeq_n (sI_e (L1 := LPl set many (plSt set many 0) 0) eK (Nat.le_of_ble_eq_true rfl) rfl) hl) (sKil_n)) (sRI_n (eL (z := placeN set many) rfl)))))) rfl
  · obtain ⟨h1, h2, h3, h4, h5, h6⟩ := plSt_rg (set := set) (many := many) i
    refine ⟨?_, ?_⟩
    · show _ = some (true, σ)
      rw [← show decide ((i : Int) ≤ 16) = true by simp; omega]
      repeat' first | with_reducible exact eK | with_reducible exact eKJ | ((with_reducible apply eL); rfl) | ((with_reducible apply eLJ); rfl) | ((with_reducible apply eLR); rfl) | ((with_reducible apply eLZ); rfl) | with_reducible exact eAN | with_reducible apply eAdd | with_reducible apply eSub | with_reducible apply eMul | with_reducible apply eOr | with_reducible apply eDiv | with_reducible apply eMod | with_reducible apply eWJ | with_reducible apply eMax | with_reducible apply eMin | with_reducible apply eLt | with_reducible apply eGt | with_reducible apply eLe | with_reducible apply eGe | with_reducible apply eEq | with_reducible apply eNe | with_reducible apply eJLt | with_reducible apply eJGt | with_reducible apply eJLe | with_reducible apply eJGe | with_reducible apply eJAdd | with_reducible apply eJMul | with_reducible apply eAnd | with_reducible apply eOrB | with_reducible apply eNot | with_reducible apply eIte | with_reducible apply eArr | with_reducible apply eFldR | with_reducible apply eFld | with_reducible apply eAI | with_reducible apply eAJ | with_reducible apply eAR | with_reducible apply eAZ | with_reducible apply eCI | with_reducible apply eCZ | with_reducible exact ckv179 | with_reducible exact ckv99 | with_reducible exact rf_180 | with_reducible exact ln_180 | intro _ | omega | decide +kernel
    · have e1 : ((i + 1 : Nat) : Int) = (i : Int) + 1 := by omega
      rw [plSt, e1]
      generalize plSt set many i = t at h1 h2 h3 h4 h5 h6
      have hc : ((bAnd (mI .lt (lI 5) (kI 16)) (mI .eq (bI (fun x y => x &&& y) (bI (fun x y => x >>> (y &&& 31)) (lI 0) (lI 5)) (kI 1)) (kI 0)))) (LPl set many t i) σ = some ((decide ((i : Int) < 16) && !set.testBit i), σ) := by
        refine eAnd ?_ (fun _ => eBit (eL rfl) (eL rfl) (by omega) (by omega))
        repeat' first | with_reducible exact eK | with_reducible exact eKJ | ((with_reducible apply eL); rfl) | ((with_reducible apply eLJ); rfl) | ((with_reducible apply eLR); rfl) | ((with_reducible apply eLZ); rfl) | with_reducible exact eAN | with_reducible apply eAdd | with_reducible apply eSub | with_reducible apply eMul | with_reducible apply eOr | with_reducible apply eDiv | with_reducible apply eMod | with_reducible apply eWJ | with_reducible apply eMax | with_reducible apply eMin | with_reducible apply eLt | with_reducible apply eGt | with_reducible apply eLe | with_reducible apply eGe | with_reducible apply eEq | with_reducible apply eNe | with_reducible apply eJLt | with_reducible apply eJGt | with_reducible apply eJLe | with_reducible apply eJGe | with_reducible apply eJAdd | with_reducible apply eJMul | with_reducible apply eAnd | with_reducible apply eOrB | with_reducible apply eNot | with_reducible apply eIte | with_reducible apply eArr | with_reducible apply eFldR | with_reducible apply eFld | with_reducible apply eAI | with_reducible apply eAJ | with_reducible apply eAR | with_reducible apply eAZ | with_reducible apply eCI | with_reducible apply eCZ | with_reducible exact ckv179 | with_reducible exact ckv99 | with_reducible exact rf_180 | with_reducible exact ln_180 | intro _ | omega | decide +kernel
      have hd : ((bAnd (mI .ge (lI 4) (lI 1)) (mI .lt (lI 4) (lI 3)))) (LPl set many t i) σ = some ((decide (many ≤ t.2.2) && decide (t.2.2 < t.2.1)), σ) := by
        repeat' first | with_reducible exact eK | with_reducible exact eKJ | ((with_reducible apply eL); rfl) | ((with_reducible apply eLJ); rfl) | ((with_reducible apply eLR); rfl) | ((with_reducible apply eLZ); rfl) | with_reducible exact eAN | with_reducible apply eAdd | with_reducible apply eSub | with_reducible apply eMul | with_reducible apply eOr | with_reducible apply eDiv | with_reducible apply eMod | with_reducible apply eWJ | with_reducible apply eMax | with_reducible apply eMin | with_reducible apply eLt | with_reducible apply eGt | with_reducible apply eLe | with_reducible apply eGe | with_reducible apply eEq | with_reducible apply eNe | with_reducible apply eJLt | with_reducible apply eJGt | with_reducible apply eJLe | with_reducible apply eJGe | with_reducible apply eJAdd | with_reducible apply eJMul | with_reducible apply eAnd | with_reducible apply eOrB | with_reducible apply eNot | with_reducible apply eIte | with_reducible apply eArr | with_reducible apply eFldR | with_reducible apply eFld | with_reducible apply eAI | with_reducible apply eAJ | with_reducible apply eAR | with_reducible apply eAZ | with_reducible apply eCI | with_reducible apply eCZ | with_reducible exact ckv179 | with_reducible exact ckv99 | with_reducible exact rf_180 | with_reducible exact ln_180 | intro _ | with_reducible exact hm | omega | decide +kernel
      refine sStep_e (L1 := LPl set many (plStep set many i t) i) (sIf_t hc (fun hp => ?_) (fun hp => ?_)) (sInc_n rfl) rfl
      · rw [plStep, if_pos hp]
        exact sInc_e rfl rfl
      · rw [plStep, if_neg (by rw [hp]; decide)]
        by_cases hq : (decide (many ≤ t.2.2) && decide (t.2.2 < t.2.1)) = true
        · rw [if_pos hq]
          exact sSeq_n (sIf_t hd (fun _ => sSeq_n (sI_n (eSub (eL rfl) (eL rfl)) (Nat.le_of_ble_eq_true rfl)) (sI_n (eL (z := t.2.2) rfl) (Nat.le_of_ble_eq_true rfl))) (fun h => absurd hq (by rw [h]; decide))) (sI_e eK (Nat.le_of_ble_eq_true rfl) rfl)
        · rw [if_neg hq]
          exact sSeq_n (sIf_t hd (fun h => absurd h hq) (fun _ => sSkip_n)) (sI_e eK (Nat.le_of_ble_eq_true rfl) rfl)
  · show _ = some (false, σ)
    rw [← show decide ((17 : Int) ≤ 16) = false by decide]
    repeat' first | with_reducible exact eK | with_reducible exact eKJ | ((with_reducible apply eL); rfl) | ((with_reducible apply eLJ); rfl) | ((with_reducible apply eLR); rfl) | ((with_reducible apply eLZ); rfl) | with_reducible exact eAN | with_reducible apply eAdd | with_reducible apply eSub | with_reducible apply eMul | with_reducible apply eOr | with_reducible apply eDiv | with_reducible apply eMod | with_reducible apply eWJ | with_reducible apply eMax | with_reducible apply eMin | with_reducible apply eLt | with_reducible apply eGt | with_reducible apply eLe | with_reducible apply eGe | with_reducible apply eEq | with_reducible apply eNe | with_reducible apply eJLt | with_reducible apply eJGt | with_reducible apply eJLe | with_reducible apply eJGe | with_reducible apply eJAdd | with_reducible apply eJMul | with_reducible apply eAnd | with_reducible apply eOrB | with_reducible apply eNot | with_reducible apply eIte | with_reducible apply eArr | with_reducible apply eFldR | with_reducible apply eFld | with_reducible apply eAI | with_reducible apply eAJ | with_reducible apply eAR | with_reducible apply eAZ | with_reducible apply eCI | with_reducible apply eCZ | with_reducible exact ckv179 | with_reducible exact ckv99 | with_reducible exact rf_180 | with_reducible exact ln_180 | intro _ | omega | decide +kernel
