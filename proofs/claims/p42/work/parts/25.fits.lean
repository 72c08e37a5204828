/-! ===== whether all arms find their place ===== -/
/-- the widest arm not yet placed, of several the first -/
def pickSt (G : Nat → Nat → Int) (placed : Nat) : Nat → Int
  | 0 => -1
  | i + 1 => if (!placed.testBit i && (decide (pickSt G placed i < 0) || decide (G 187 (pickSt G placed i).toNat < G 187 i))) = true then (i : Int) else pickSt G placed i
theorem pickSt_rg {G : Nat → Nat → Int} {placed : Nat} : ∀ i : Nat, -1 ≤ pickSt G placed i ∧ pickSt G placed i < i
  | 0 => by simp [pickSt]
  | i + 1 => by
    have := pickSt_rg (G := G) (placed := placed) i
    rw [pickSt]
    split <;> omega
abbrev LF (t : Int) (own placed : Nat) (n nx : Int) (a : Int) : pLo := [some (pR 179), some (pI (Int32.ofInt t)), some (pI (Int32.ofInt (own : Int))), some (pI (Int32.ofInt (placed : Int))), some (pI (Int32.ofInt n)), some (pI (Int32.ofInt nx)), some (pI (Int32.ofInt a))]
theorem fits_pick {G U : Nat → Nat → Int} {t k : Int} {own placed n : Nat} (hn : G 179 9 = n) (h4 : n ≤ 4) (hp : placed < 65536) (hw : ∀ a : Nat, a < n → rg (G 187 a)) : sWh (mI .lt (lI 6) (gI 12 9 (lR 0))) (sIf (bAnd (mI .eq (bI (fun x y => x &&& y) (bI (fun x y => x >>> (y &&& 31)) (lI 3) (lI 6)) (kI 1)) (kI 0)) (bOr (mI .lt (lI 5) (kI 0)) (mI .gt (aI 0 (gR 12 10 8 (lR 0)) (lI 6)) (aI 0 (gR 12 10 8 (lR 0)) (lI 5))))) (sI 5 (lI 6)) sSkip) (sInc 6 1) (LF t own placed k (-1) 0) (zM G U) = some (.inl (LF t own placed k (pickSt G placed n) n, zM G U)) := by
  have hl := @sWh_iter ((mI .lt (lI 6) (gI 12 9 (lR 0)))) ((sIf (bAnd (mI .eq (bI (fun x y => x &&& y) (bI (fun x y => x >>> (y &&& 31)) (lI 3) (lI 6)) (kI 1)) (kI 0)) (bOr (mI .lt (lI 5) (kI 0)) (mI .gt (aI 0 (gR 12 10 8 (lR 0)) (lI 6)) (aI 0 (gR 12 10 8 (lR 0)) (lI 5))))) (sI 5 (lI 6)) sSkip)) ((sInc 6 1)) (fun i => (LF t own placed k (pickSt G placed i) i, zM G U)) n (by omega) (fun i hi => ?_) ?_
  · exact hl
  · refine ⟨?_, ?_⟩
    · show _ = some (true, zM G U)
      rw [← show decide ((i : Int) < G 179 9) = true by rw [hn]; simp; omega]
      repeat' first | with_reducible exact eK | with_reducible exact eKJ | ((with_reducible apply eL); rfl) | ((with_reducible apply eLJ); rfl) | ((with_reducible apply eLR); rfl) | ((with_reducible apply eLZ); rfl) | with_reducible exact eAN | with_reducible apply eAdd | with_reducible apply eSub | with_reducible apply eMul | with_reducible apply eOr | with_reducible apply eDiv | with_reducible apply eMod | with_reducible apply eWJ | with_reducible apply eMax | with_reducible apply eMin | with_reducible apply eLt | with_reducible apply eGt | with_reducible apply eLe | with_reducible apply eGe | with_reducible apply eEq | with_reducible apply eNe | with_reducible apply eJLt | with_reducible apply eJGt | with_reducible apply eJLe | with_reducible apply eJGe | with_reducible apply eJAdd | with_reducible apply eJMul | with_reducible apply eAnd | with_reducible apply eOrB | with_reducible apply eNot | with_reducible apply eIte | with_reducible apply eArr | with_reducible apply eFldR | with_reducible apply eFld | with_reducible apply eAI | with_reducible apply eAJ | with_reducible apply eAR | with_reducible apply eAZ | with_reducible apply eCI | with_reducible apply eCZ | with_reducible exact ckv179 | with_reducible exact ckv99 | with_reducible exact rf_180 | with_reducible exact ln_180 | intro _ | with_reducible exact fk_9 | omega | decide +kernel
    · have e1 : ((i + 1 : Nat) : Int) = (i : Int) + 1 := by omega
      have hr := pickSt_rg (G := G) (placed := placed) i
      have w1 : rg (G (179 + 8) (i : Int).toNat) := hw i hi
      rw [pickSt, e1]
      generalize pickSt G placed i = q at hr
      have hc : ((bAnd (mI .eq (bI (fun x y => x &&& y) (bI (fun x y => x >>> (y &&& 31)) (lI 3) (lI 6)) (kI 1)) (kI 0)) (bOr (mI .lt (lI 5) (kI 0)) (mI .gt (aI 0 (gR 12 10 8 (lR 0)) (lI 6)) (aI 0 (gR 12 10 8 (lR 0)) (lI 5)))))) (LF t own placed k q i) (zM G U) = some ((!placed.testBit i && (decide (q < 0) || decide (G 187 q.toNat < G 187 i))), zM G U) := by
        refine eAnd (eBit (eL rfl) (eL rfl) (by omega) (by omega)) (fun _ => eOrB (eLt (eL rfl) eK (by simp [rg]; omega) (by simp [rg])) (fun hq => ?_))
        have hq2 : 0 ≤ q := by simpa using hq
        have w2 : rg (G (179 + 8) q.toNat) := hw q.toNat (by omega)
        rw [show G 187 i = G (179 + 8) (i : Int).toNat from rfl, show G 187 q.toNat = G (179 + 8) q.toNat from rfl]
        repeat' first | with_reducible exact eK | with_reducible exact eKJ | ((with_reducible apply eL); rfl) | ((with_reducible apply eLJ); rfl) | ((with_reducible apply eLR); rfl) | ((with_reducible apply eLZ); rfl) | with_reducible exact eAN | with_reducible apply eAdd | with_reducible apply eSub | with_reducible apply eMul | with_reducible apply eOr | with_reducible apply eDiv | with_reducible apply eMod | with_reducible apply eWJ | with_reducible apply eMax | with_reducible apply eMin | with_reducible apply eLt | with_reducible apply eGt | with_reducible apply eLe | with_reducible apply eGe | with_reducible apply eEq | with_reducible apply eNe | with_reducible apply eJLt | with_reducible apply eJGt | with_reducible apply eJLe | with_reducible apply eJGe | with_reducible apply eJAdd | with_reducible apply eJMul | with_reducible apply eAnd | with_reducible apply eOrB | with_reducible apply eNot | with_reducible apply eIte | with_reducible apply eArr | with_reducible apply eFldR | with_reducible apply eFld | with_reducible apply eAI | with_reducible apply eAJ | with_reducible apply eAR | with_reducible apply eAZ | with_reducible apply eCI | with_reducible apply eCZ | with_reducible exact ckv179 | with_reducible exact ckv99 | with_reducible exact rf_180 | with_reducible exact ln_180 | intro _ | with_reducible exact rf_187 | with_reducible exact ln_187 | with_reducible exact w1 | with_reducible exact w2 | omega | decide +kernel
      refine sStep_e (sIf_set hc (fun _ => eL rfl) (Nat.le_of_ble_eq_true rfl) rfl) (sInc_n rfl) rfl
  · show _ = some (false, zM G U)
    rw [← show decide ((n : Int) < G 179 9) = false by rw [hn]; simp]
    repeat' first | with_reducible exact eK | with_reducible exact eKJ | ((with_reducible apply eL); rfl) | ((with_reducible apply eLJ); rfl) | ((with_reducible apply eLR); rfl) | ((with_reducible apply eLZ); rfl) | with_reducible exact eAN | with_reducible apply eAdd | with_reducible apply eSub | with_reducible apply eMul | with_reducible apply eOr | with_reducible apply eDiv | with_reducible apply eMod | with_reducible apply eWJ | with_reducible apply eMax | with_reducible apply eMin | with_reducible apply eLt | with_reducible apply eGt | with_reducible apply eLe | with_reducible apply eGe | with_reducible apply eEq | with_reducible apply eNe | with_reducible apply eJLt | with_reducible apply eJGt | with_reducible apply eJLe | with_reducible apply eJGe | with_reducible apply eJAdd | with_reducible apply eJMul | with_reducible apply eAnd | with_reducible apply eOrB | with_reducible apply eNot | with_reducible apply eIte | with_reducible apply eArr | with_reducible apply eFldR | with_reducible apply eFld | with_reducible apply eAI | with_reducible apply eAJ | with_reducible apply eAR | with_reducible apply eAZ | with_reducible apply eCI | with_reducible apply eCZ | with_reducible exact ckv179 | with_reducible exact ckv99 | with_reducible exact rf_180 | with_reducible exact ln_180 | intro _ | with_reducible exact fk_9 | omega | decide +kernel
/-! how many are placed -/
def cntB (P : Nat) : Nat → Nat
  | 0 => 0
  | n + 1 => cntB P n + (if P.testBit n = true then 1 else 0)
theorem cntB_le {P : Nat} : ∀ n, cntB P n ≤ n
  | 0 => Nat.le_refl _
  | n + 1 => by
    have := cntB_le (P := P) n
    rw [cntB]
    split <;> omega
theorem cntB_all {P : Nat} : ∀ n, (∀ a, a < n → P.testBit a = true) → cntB P n = n
  | 0, _ => rfl
  | n + 1, h => by rw [cntB, cntB_all n fun a ha => h a (by omega), if_pos (h n (by omega))]
theorem cntB_put {P x : Nat} (hx : P.testBit x = false) : ∀ n, cntB (P ||| 2 ^ x) n = cntB P n + (if x < n then 1 else 0)
  | 0 => by simp [cntB]
  | n + 1 => by
    have h := cntB_put hx n
    rw [cntB, cntB, h, Nat.testBit_or, Nat.testBit_two_pow]
    by_cases e : x = n
    · subst e
      simp [hx]
    · by_cases h2 : x < n
      · simp [e, h2, show x < n + 1 by omega]; omega
      · simp [e, h2, show ¬ x < n + 1 by omega]
theorem pickSt_none {G : Nat → Nat → Int} {P : Nat} : ∀ n : Nat, pickSt G P n < 0 → ∀ a, a < n → P.testBit a = true
  | 0, _ => fun a h => absurd h (by omega)
  | n + 1, h => by
    rw [pickSt] at h
    split at h
    · omega
    · rename_i h1
      intro a ha
      by_cases e : a = n
      · subst e
        cases hb : P.testBit a with
        | true => rfl
        | false => simp [hb, h] at h1
      · exact pickSt_none n h a (by omega)
theorem pickSt_free {G : Nat → Nat → Int} {P : Nat} : ∀ n : Nat, 0 ≤ pickSt G P n → P.testBit (pickSt G P n).toNat = false
  | 0, h => by simp [pickSt] at h
  | n + 1, h => by
    rw [pickSt] at h ⊢
    split
    · rename_i h1
      simp only [Bool.and_eq_true, Bool.not_eq_true'] at h1
      simpa using h1.1
    · rename_i h1
      rw [if_neg h1] at h
      exact pickSt_free n h
theorem pickSt_some {G : Nat → Nat → Int} {P n : Nat} (h : cntB P n < n) : 0 ≤ pickSt G P n := by
  by_cases c : pickSt G P n < 0
  · have := cntB_all n (pickSt_none n c)
    omega
  · omega
/-- the arms in their order: which are placed after k, and the k-th -/
def plK (G : Nat → Nat → Int) (n : Nat) : Nat → Nat
  | 0 => 0
  | k + 1 => plK G n k ||| 2 ^ (pickSt G (plK G n k) n).toNat
def nxK (G : Nat → Nat → Int) (n k : Nat) : Nat := (pickSt G (plK G n k) n).toNat
theorem plK_cnt {G : Nat → Nat → Int} {n : Nat} : ∀ k, k ≤ n → cntB (plK G n k) n = k
  | 0, _ => by
    rw [plK]
    have : ∀ m, cntB 0 m = 0 := fun m => by induction m with
      | zero => rfl
      | succ m ih => simp [cntB, ih]
    exact this n
  | k + 1, h => by
    have ih := plK_cnt (G := G) (n := n) k (by omega)
    have h0 := pickSt_some (G := G) (P := plK G n k) (n := n) (by omega)
    have hr := pickSt_rg (G := G) (placed := plK G n k) n
    rw [plK, cntB_put (pickSt_free n h0), ih, if_pos (by omega)]
theorem nxK_lt {G : Nat → Nat → Int} {n k : Nat} (h : k < n) : nxK G n k < n ∧ 0 ≤ pickSt G (plK G n k) n ∧ ((nxK G n k : Nat) : Int) = pickSt G (plK G n k) n := by
  have ih := plK_cnt (G := G) (n := n) k (by omega)
  have h0 := pickSt_some (G := G) (P := plK G n k) (n := n) (by omega)
  have hr := pickSt_rg (G := G) (placed := plK G n k) n
  unfold nxK
  omega
theorem plK_lt {G : Nat → Nat → Int} {n : Nat} (h4 : n ≤ 4) : ∀ k, k ≤ n → plK G n k < 16
  | 0, _ => by simp [plK]
  | k + 1, h => by
    have h1 := plK_lt (G := G) h4 k (by omega)
    have h2 := (nxK_lt (G := G) (n := n) (k := k) (by omega)).1
    rw [plK]
    exact Nat.or_lt_two_pow (n := 4) h1 (Nat.pow_lt_pow_right (by omega) (show nxK G n k < 4 by omega))
theorem plSt_fit {set : Nat} {many : Int} (hm : 0 ≤ many) : ∀ n : Nat, n ≤ 17 → 0 ≤ (plSt set many n).1 → (plSt set many n).1 + many ≤ 16
  | 0, _, h => by simp [plSt] at h
  | n + 1, hn, h => by
    rw [plSt, plStep] at h ⊢
    split
    · rename_i h1
      rw [if_pos h1] at h
      exact plSt_fit hm n (by omega) h
    · rename_i h1
      rw [if_neg h1] at h
      split
      · rename_i h2
        simp only [Bool.and_eq_true, decide_eq_true_eq] at h2
        show (n : Int) - _ + many ≤ 16
        omega
      · rename_i h2
        rw [if_neg h2] at h
        exact plSt_fit hm n (by omega) h
theorem placeN_rg {set : Nat} {many : Int} : -1 ≤ placeN set many ∧ placeN set many ≤ 17 := by
  have := plSt_rg (set := set) (many := many) 17
  unfold placeN
  omega
theorem placeN_fit {set : Nat} {many : Int} (hm : 0 ≤ many) (h : 0 ≤ placeN set many) : placeN set many + many ≤ 16 := plSt_fit hm 17 (by omega) h
/-! the outer loop -/
def setRow (G : Nat → Nat → Int) (k : Nat) (F : Nat → Int) : Nat → Nat → Int := fun a b => if a = k then F b else G a b
theorem setRow_s {G : Nat → Nat → Int} {k a : Nat} {F : Nat → Int} {c : Int} : upZ (setRow G k F) k a c = setRow G k (fun b => if b = a then c else F b) := by
  funext x b
  unfold upZ setRow
  by_cases h : x = k <;> by_cases h2 : b = a <;> simp [h, h2]
theorem setRow_0 {G : Nat → Nat → Int} {k : Nat} : setRow G k (G k) = G := by
  funext x b
  unfold setRow
  by_cases h : x = k <;> simp [h]
theorem setRow_o {G : Nat → Nat → Int} {k r : Nat} {F : Nat → Int} (h : r ≠ k) : setRow G k F r = G r := by
  funext b
  simp [setRow, h]
def fitSt (G : Nat → Nat → Int) (n : Nat) (t : Int) : Nat → Option (Nat × (Nat → Int))
  | 0 => some (0, G 189)
  | k + 1 => (fitSt G n t k).bind fun s => if placeN (busyN G t (t + G 188 (nxK G n k)) (G 179 8) ||| s.1) (G 187 (nxK G n k)) < 0 then none else some (s.1 ||| bitsN (placeN (busyN G t (t + G 188 (nxK G n k)) (G 179 8) ||| s.1) (G 187 (nxK G n k))).toNat (G 187 (nxK G n k)).toNat, fun b => if b = nxK G n k then placeN (busyN G t (t + G 188 (nxK G n k)) (G 179 8) ||| s.1) (G 187 (nxK G n k)) else s.2 b)
theorem shl_fact : ∀ a : Fin 16, Int32.ofInt 1 <<< (Int32.ofInt (a.1 : Int) &&& 31) = Int32.ofInt ((2 ^ a.1 : Nat) : Int) := by decide +kernel
theorem eShl1 {L : pLo} {σ : pM} {b : eI} {c : Nat} (hb : b L σ = some (Int32.ofInt (c : Int), σ)) (hc : c < 16) : bI (fun x y => x <<< (y &&& 31)) (kI 1) b L σ = some (Int32.ofInt ((2 ^ c : Nat) : Int), σ) := by
  simp only [bI, hb, kI, Option.bind_some, shl_fact ⟨c, hc⟩]
theorem pickSt_row {G : Nat → Nat → Int} {F : Nat → Int} {P : Nat} : ∀ i, pickSt (setRow G 189 F) P i = pickSt G P i
  | 0 => rfl
  | i + 1 => by rw [pickSt, pickSt, pickSt_row i, setRow_o (by decide)]
theorem busyN_row {G : Nat → Nat → Int} {F : Nat → Int} {x y acc : Int} : busyN (setRow G 189 F) x y acc = busyN G x y acc := by
  unfold busyN
  have e : byMore (setRow G 189 F) x = byMore G x := by
    funext k
    unfold byMore
    rw [setRow_o (by decide), setRow_o (by decide)]
  rw [e, setRow_o (by decide), setRow_o (by decide)]
theorem mOk_row {G : Nat → Nat → Int} {F : Nat → Int} (h : mOk G) : mOk (setRow G 189 F) := by
  unfold mOk mMoreOk at h ⊢
  rw [setRow_o (by decide), setRow_o (by decide), setRow_o (by decide), setRow_o (by decide)]
  exact h
theorem fitSt_own {G : Nat → Nat → Int} {n : Nat} {t : Int} (hw : ∀ a : Nat, a < n → 0 ≤ G 187 a ∧ G 187 a ≤ 16) : ∀ k, k ≤ n → ∀ s, fitSt G n t k = some s → s.1 < 65536
  | 0, _, s, h => by cases h; exact Nat.lt_of_sub_eq_succ rfl
  | k + 1, hk, s, h => by
    rw [fitSt] at h
    cases hs : fitSt G n t k with
    | none => rw [hs] at h; cases h
    | some s0 =>
      rw [hs] at h
      simp only [Option.bind_some] at h
      split at h
      · cases h
      · rename_i hp
        cases h
        have h1 := fitSt_own hw k (by omega) s0 hs
        have h2 := (nxK_lt (G := G) (n := n) (k := k) (by omega)).1
        have h3 := hw _ h2
        exact or_lt h1 (bitsN_lt (by have := placeN_fit h3.1 (show 0 ≤ placeN (busyN G t (t + G 188 (nxK G n k)) (G 179 8) ||| s0.1) (G 187 (nxK G n k)) by omega); omega))
theorem fit_step {G U : Nat → Nat → Int} {n k own : Nat} {t : Int} {F : Nat → Int} (hn : G 179 9 = n) (h4 : n ≤ 4) (hk : k < n) (hok : mOk G) (ht : rg t) (hw : ∀ a : Nat, a < n → 0 ≤ G 187 a ∧ G 187 a ≤ 16) (ha : ∀ a : Nat, a < n → 0 ≤ G 188 a ∧ G 188 a ≤ 100000) (ho : own < 65536) (c : Int) (hc : c = placeN (busyN G t (t + G 188 (nxK G n k)) (G 179 8) ||| own) (G 187 (nxK G n k))) :
    (c < 0 → ((sSeq (sI 5 (kI (-1))) (sSeq (sSeq (sSeq (sI 6 (kI 0)) (sWh (mI .lt (lI 6) (gI 12 9 (lR 0))) (sIf (bAnd (mI .eq (bI (fun x y => x &&& y) (bI (fun x y => x >>> (y &&& 31)) (lI 3) (lI 6)) (kI 1)) (kI 0)) (bOr (mI .lt (lI 5) (kI 0)) (mI .gt (aI 0 (gR 12 10 8 (lR 0)) (lI 6)) (aI 0 (gR 12 10 8 (lR 0)) (lI 5))))) (sI 5 (lI 6)) sSkip) (sInc 6 1))) (sKil [6])) (sSeq (sI 6 (vC 99 F_M_place rI (aCI (bI (fun x y => x ||| y) (vC 12 F_M_busy rI (aCR (lR 0) (aCJ (wJ (lI 1)) (aCJ (bJ (fun x y => x + y) (wJ (lI 1)) (wJ (aI 0 (gR 12 11 9 (lR 0)) (lI 5)))) (aCI (gI 12 8 (lR 0)) aN))))) (lI 2)) (aCI (aI 0 (gR 12 10 8 (lR 0)) (lI 5)) aN)))) (sSeq (sIf (mI .lt (lI 6) (kI 0)) (sRZ (kZ false)) sSkip) (sSeq (sAst (gR 12 12 10 (lR 0)) (lI 5) (lI 6)) (sSeq (sI 2 (bI (fun x y => x ||| y) (lI 2) (vC 99 F_M_bits rI (aCI (lI 6) (aCI (aI 0 (gR 12 10 8 (lR 0)) (lI 5)) aN))))) (sI 3 (bI (fun x y => x ||| y) (lI 3) (bI (fun x y => x <<< (y &&& 31)) (kI 1) (lI 5))))))))))) (LF t own (plK G n k) k 0 0 |>.set 5 none |>.set 6 none) (zM (setRow G 189 F) U) = some (.inr (.inr (.inr (some (pI (zI false)), zM (setRow G 189 F) U))))) ∧
    (0 ≤ c → sStep ((sSeq (sI 5 (kI (-1))) (sSeq (sSeq (sSeq (sI 6 (kI 0)) (sWh (mI .lt (lI 6) (gI 12 9 (lR 0))) (sIf (bAnd (mI .eq (bI (fun x y => x &&& y) (bI (fun x y => x >>> (y &&& 31)) (lI 3) (lI 6)) (kI 1)) (kI 0)) (bOr (mI .lt (lI 5) (kI 0)) (mI .gt (aI 0 (gR 12 10 8 (lR 0)) (lI 6)) (aI 0 (gR 12 10 8 (lR 0)) (lI 5))))) (sI 5 (lI 6)) sSkip) (sInc 6 1))) (sKil [6])) (sSeq (sI 6 (vC 99 F_M_place rI (aCI (bI (fun x y => x ||| y) (vC 12 F_M_busy rI (aCR (lR 0) (aCJ (wJ (lI 1)) (aCJ (bJ (fun x y => x + y) (wJ (lI 1)) (wJ (aI 0 (gR 12 11 9 (lR 0)) (lI 5)))) (aCI (gI 12 8 (lR 0)) aN))))) (lI 2)) (aCI (aI 0 (gR 12 10 8 (lR 0)) (lI 5)) aN)))) (sSeq (sIf (mI .lt (lI 6) (kI 0)) (sRZ (kZ false)) sSkip) (sSeq (sAst (gR 12 12 10 (lR 0)) (lI 5) (lI 6)) (sSeq (sI 2 (bI (fun x y => x ||| y) (lI 2) (vC 99 F_M_bits rI (aCI (lI 6) (aCI (aI 0 (gR 12 10 8 (lR 0)) (lI 5)) aN))))) (sI 3 (bI (fun x y => x ||| y) (lI 3) (bI (fun x y => x <<< (y &&& 31)) (kI 1) (lI 5))))))))))) ((sSeq (sKil [5, 6]) (sInc 4 1))) (LF t own (plK G n k) k 0 0 |>.set 5 none |>.set 6 none) (zM (setRow G 189 F) U) = some (LF t (own ||| bitsN c.toNat (G 187 (nxK G n k)).toNat) (plK G n (k + 1)) ((k : Int) + 1) 0 0 |>.set 5 none |>.set 6 none, zM (setRow G 189 (fun b => if b = nxK G n k then c else F b)) U)) := by
  obtain ⟨hx1, hx2, hx3⟩ := nxK_lt (G := G) hk
  have hP := plK_lt (G := G) h4 k (by omega)
  have g8 : setRow G 189 F 179 = G 179 := setRow_o (by decide)
  have g7 : setRow G 189 F 187 = G 187 := setRow_o (by decide)
  have g6 : setRow G 189 F 188 = G 188 := setRow_o (by decide)
  have w0 := hw _ hx1
  have a0 := ha _ hx1
  have pk := fits_pick (G := setRow G 189 F) (U := U) (t := t) (k := (k : Int)) (own := own) (placed := plK G n k) (n := n) (by rw [g8]; exact hn) h4 (by omega) (fun a h => by rw [g7]; have := hw a h; exact ⟨by omega, by omega⟩)
  rw [pickSt_row, ← hx3] at pk
  have racc : rg (G 179 8) := hok.2.1 8
  have b1 := M_busy (U := U) (x := t) (y := t + G 188 (nxK G n k)) (acc := G 179 8) (mOk_row (F := F) hok) ⟨by omega, by omega⟩ ⟨by omega, by omega⟩ racc
  rw [busyN_row] at b1
  have bl := busyN_lt (x := t) (y := t + G 188 (nxK G n k)) (acc := G 179 8) hok
  have p1 := M_place (σ := zM (setRow G 189 F) U) (set := busyN G t (t + G 188 (nxK G n k)) (G 179 8) ||| own) (many := G 187 (nxK G n k)) (or_lt bl ho) ⟨by omega, by omega⟩
  rw [← hc] at p1
  have hcr : -1 ≤ c ∧ c ≤ 17 := by rw [hc]; exact placeN_rg
  have hcf : 0 ≤ c → c + G 187 (nxK G n k) ≤ 16 := by rw [hc]; exact placeN_fit w0.1
  have ew : G 187 (nxK G n k) = setRow G 189 F (179 + 8) ((nxK G n k : Nat) : Int).toNat := by rw [show (179 + 8 : Nat) = 187 from rfl, g7]; rfl
  have ea : G 188 (nxK G n k) = setRow G 189 F (179 + 9) ((nxK G n k : Nat) : Int).toNat := by rw [show (179 + 9 : Nat) = 188 from rfl, g6]; rfl
  have ec : G 179 8 = setRow G 189 F 179 8 := by rw [g8]
  have hbits : 0 ≤ c → F_M_bits [pI (Int32.ofInt c), pI (Int32.ofInt (G 187 (nxK G n k)))] (zM (setRow G 189 (fun b => if b = nxK G n k then c else F b)) U) = some (some (pI (Int32.ofInt ((bitsN c.toNat (G 187 (nxK G n k)).toNat : Nat) : Int))), zM (setRow G 189 (fun b => if b = nxK G n k then c else F b)) U) := fun h0 => M_bitsZ (by omega) (by omega)
  have hpl : plK G n (k + 1) = plK G n k ||| 2 ^ nxK G n k := rfl
  generalize hx : nxK G n k = x at *
  have hwide : ∀ (L : pLo) (F' : Nat → Int), L[0]? = some (some (pR 179)) → L[5]? = some (some (pI (Int32.ofInt (x : Int)))) → aI 0 (gR 12 10 8 (lR 0)) (lI 5) L (zM (setRow G 189 F') U) = some (Int32.ofInt (G 187 x), zM (setRow G 189 F') U) := by
    intro L F' l0 l5
    have := eArr (n := 4) (x := (x : Int)) (G := setRow G 189 F') (U := U) (eFldR (eLR l0) rf_187) (eL l5) ln_187 (by omega) (by omega)
    rwa [show (179 + 8 : Nat) = 187 from rfl, setRow_o (by decide)] at this
  have hasks : ∀ L : pLo, L[0]? = some (some (pR 179)) → L[5]? = some (some (pI (Int32.ofInt (x : Int)))) → aI 0 (gR 12 11 9 (lR 0)) (lI 5) L (zM (setRow G 189 F) U) = some (Int32.ofInt (G 188 x), zM (setRow G 189 F) U) := by
    intro L l0 l5
    have := eArr (n := 4) (x := (x : Int)) (G := setRow G 189 F) (U := U) (eFldR (eLR l0) rf_188) (eL l5) ln_188 (by omega) (by omega)
    rwa [show (179 + 9 : Nat) = 188 from rfl, g6] at this
  have hacc : ∀ L : pLo, L[0]? = some (some (pR 179)) → gI 12 8 (lR 0) L (zM (setRow G 189 F) U) = some (Int32.ofInt (G 179 8), zM (setRow G 189 F) U) := by
    intro L l0
    have := eFld (G := setRow G 189 F) (U := U) (eLR l0) fk_8
    rwa [g8] at this
  have s1 : sI 5 (kI (-1)) (LF t own (plK G n k) k 0 0 |>.set 5 none |>.set 6 none) (zM (setRow G 189 F) U) = some (.inl (LF t own (plK G n k) k (-1) 0 |>.set 6 none, zM (setRow G 189 F) U)) := sI_e eK (Nat.le_of_ble_eq_true rfl) rfl
  have s2 : sSeq (sSeq (sI 6 (kI 0)) (sWh (mI .lt (lI 6) (gI 12 9 (lR 0))) (sIf (bAnd (mI .eq (bI (fun x y => x &&& y) (bI (fun x y => x >>> (y &&& 31)) (lI 3) (lI 6)) (kI 1)) (kI 0)) (bOr (mI .lt (lI 5) (kI 0)) (mI .gt (aI 0 (gR 12 10 8 (lR 0)) (lI 6)) (aI 0 (gR 12 10 8 (lR 0)) (lI 5))))) (sI 5 (lI 6)) sSkip) (sInc 6 1))) (sKil [6]) (LF t own (plK G n k) k (-1) 0 |>.set 6 none) (zM (setRow G 189 F) U) = some (.inl (LF t own (plK G n k) k x 0 |>.set 6 none, zM (setRow G 189 F) U)) :=
    sSeq_n (sSeq_n (sI_e (L1 := LF t own (plK G n k) k (-1) 0) eK (Nat.le_of_ble_eq_true rfl) rfl) pk) (sKil_e rfl)
  have s3 : sI 6 (vC 99 F_M_place rI (aCI (bI (fun x y => x ||| y) (vC 12 F_M_busy rI (aCR (lR 0) (aCJ (wJ (lI 1)) (aCJ (bJ (fun x y => x + y) (wJ (lI 1)) (wJ (aI 0 (gR 12 11 9 (lR 0)) (lI 5)))) (aCI (gI 12 8 (lR 0)) aN))))) (lI 2)) (aCI (aI 0 (gR 12 10 8 (lR 0)) (lI 5)) aN))) (LF t own (plK G n k) k x 0 |>.set 6 none) (zM (setRow G 189 F) U) = some (.inl (LF t own (plK G n k) k x c, zM (setRow G 189 F) U)) := by
    refine sI_e (eCI (eAI (eOr (eCI (eAR (eLR rfl) (eAJ (eWJ (eL rfl) ht) (eAJ (eJAdd (eWJ (eL rfl) ht) (eWJ (hasks _ rfl rfl) ⟨by omega, by omega⟩)) (eAI (hacc _ rfl) eAN)))) ckv179 b1) (eL rfl) (by omega) (by omega)) (eAI (hwide _ F rfl rfl) eAN)) ckv99 p1) (Nat.le_of_ble_eq_true rfl) rfl
  have hcc : mI .lt (lI 6) (kI 0) (LF t own (plK G n k) k x c) (zM (setRow G 189 F) U) = some (decide (c < 0), zM (setRow G 189 F) U) := eLt (eL rfl) eK ⟨by omega, by omega⟩ ⟨by decide, by decide⟩
  constructor
  · intro h0
    rw [show decide (c < 0) = true by simp [h0]] at hcc
    exact sSeq_n s1 (sSeq_n s2 (sSeq_n s3 (sSeq_o (sIf_t hcc (fun _ => sRZ_n rfl) (fun h => by cases h)))))
  · intro h0
    rw [show decide (c < 0) = false by simp; omega] at hcc
    have s5 := sAst_n (L := LF t own (plK G n k) k x c) (G := setRow G 189 F) (U := U) (a := gR 12 12 10 (lR 0)) (i := lI 5) (e := lI 6) (x := (x : Int)) (v := c) (eFldR (eLR rfl) rf_189) (eL rfl) (eL rfl) ln_189 (by omega) (by omega)
    rw [show (179 + 10 : Nat) = 189 from rfl, setRow_s, show (x : Int).toNat = x from rfl] at s5
    have hb := hbits h0
    have hbl : bitsN c.toNat (G 187 x).toNat < 65536 := bitsN_lt (by have := hcf h0; omega)
    refine sStep_e (sSeq_n s1 (sSeq_n s2 (sSeq_n s3 (sSeq_n (sIf_t hcc (fun h => by cases h) (fun _ => sSkip_n)) (sSeq_n s5 (sSeq_n (sI_n (eOr (eL rfl) (eCI (eAI (eL rfl) (eAI (hwide _ _ rfl rfl) eAN)) ckv99 hb) (by omega) (by omega)) (Nat.le_of_ble_eq_true rfl)) (sI_n (eOr (m := plK G n k) (n := 2 ^ x) (eL rfl) (eShl1 (eL rfl) (by omega)) (by omega) (by have : 2 ^ x ≤ 2 ^ 4 := Nat.pow_le_pow_right (by omega) (by omega); omega)) (Nat.le_of_ble_eq_true rfl)))))))) (sSeq_n sKil_n (sInc_n rfl)) ?_
    rw [hpl]
    rfl
/-- whether all arms fit, and where they then lie -/
def fitN (G : Nat → Nat → Int) (t : Int) : Option (Nat × (Nat → Int)) := fitSt G (G 179 9).toNat t (G 179 9).toNat
def gangOk (G : Nat → Nat → Int) : Prop := 0 ≤ G 179 9 ∧ G 179 9 ≤ 4 ∧ ∀ a : Nat, a < (G 179 9).toNat → (0 ≤ G 187 a ∧ G 187 a ≤ 16) ∧ (0 ≤ G 188 a ∧ G 188 a ≤ 100000)
theorem sIt_ret {c : eB} {b u : sC} {N : Nat} {L : pLo} {σ : pM} {r : Option pV × pM} (h1 : c L σ = some (true, σ)) (h2 : b L σ = some (.inr (.inr (.inr r)))) : sIt (N + 1) c b u L σ = some (.inr (.inr (.inr r))) := by
  simp only [sIt, h1, Option.bind_some, if_true, h2]
theorem fits_loop {G U : Nat → Nat → Int} {n : Nat} {t : Int} (hn : G 179 9 = n) (h4 : n ≤ 4) (hok : mOk G) (ht : rg t) (hw : ∀ a : Nat, a < n → 0 ≤ G 187 a ∧ G 187 a ≤ 16) (ha : ∀ a : Nat, a < n → 0 ≤ G 188 a ∧ G 188 a ≤ 100000) : ∀ (m k N : Nat) (s : Nat × (Nat → Int)), k + m = n → m < N → fitSt G n t k = some s →
    (∀ s', fitSt G n t n = some s' → sIt N ((mI .lt (lI 4) (gI 12 9 (lR 0)))) ((sSeq (sI 5 (kI (-1))) (sSeq (sSeq (sSeq (sI 6 (kI 0)) (sWh (mI .lt (lI 6) (gI 12 9 (lR 0))) (sIf (bAnd (mI .eq (bI (fun x y => x &&& y) (bI (fun x y => x >>> (y &&& 31)) (lI 3) (lI 6)) (kI 1)) (kI 0)) (bOr (mI .lt (lI 5) (kI 0)) (mI .gt (aI 0 (gR 12 10 8 (lR 0)) (lI 6)) (aI 0 (gR 12 10 8 (lR 0)) (lI 5))))) (sI 5 (lI 6)) sSkip) (sInc 6 1))) (sKil [6])) (sSeq (sI 6 (vC 99 F_M_place rI (aCI (bI (fun x y => x ||| y) (vC 12 F_M_busy rI (aCR (lR 0) (aCJ (wJ (lI 1)) (aCJ (bJ (fun x y => x + y) (wJ (lI 1)) (wJ (aI 0 (gR 12 11 9 (lR 0)) (lI 5)))) (aCI (gI 12 8 (lR 0)) aN))))) (lI 2)) (aCI (aI 0 (gR 12 10 8 (lR 0)) (lI 5)) aN)))) (sSeq (sIf (mI .lt (lI 6) (kI 0)) (sRZ (kZ false)) sSkip) (sSeq (sAst (gR 12 12 10 (lR 0)) (lI 5) (lI 6)) (sSeq (sI 2 (bI (fun x y => x ||| y) (lI 2) (vC 99 F_M_bits rI (aCI (lI 6) (aCI (aI 0 (gR 12 10 8 (lR 0)) (lI 5)) aN))))) (sI 3 (bI (fun x y => x ||| y) (lI 3) (bI (fun x y => x <<< (y &&& 31)) (kI 1) (lI 5))))))))))) ((sSeq (sKil [5, 6]) (sInc 4 1))) (LF t s.1 (plK G n k) k 0 0 |>.set 5 none |>.set 6 none) (zM (setRow G 189 s.2) U) = some (.inl (LF t s'.1 (plK G n n) n 0 0 |>.set 5 none |>.set 6 none, zM (setRow G 189 s'.2) U))) ∧
    (fitSt G n t n = none → ∃ F, sIt N ((mI .lt (lI 4) (gI 12 9 (lR 0)))) ((sSeq (sI 5 (kI (-1))) (sSeq (sSeq (sSeq (sI 6 (kI 0)) (sWh (mI .lt (lI 6) (gI 12 9 (lR 0))) (sIf (bAnd (mI .eq (bI (fun x y => x &&& y) (bI (fun x y => x >>> (y &&& 31)) (lI 3) (lI 6)) (kI 1)) (kI 0)) (bOr (mI .lt (lI 5) (kI 0)) (mI .gt (aI 0 (gR 12 10 8 (lR 0)) (lI 6)) (aI 0 (gR 12 10 8 (lR 0)) (lI 5))))) (sI 5 (lI 6)) sSkip) (sInc 6 1))) (sKil [6])) (sSeq (sI 6 (vC 99 F_M_place rI (aCI (bI (fun x y => x ||| y) (vC 12 F_M_busy rI (aCR (lR 0) (aCJ (wJ (lI 1)) (aCJ (bJ (fun x y => x + y) (wJ (lI 1)) (wJ (aI 0 (gR 12 11 9 (lR 0)) (lI 5)))) (aCI (gI 12 8 (lR 0)) aN))))) (lI 2)) (aCI (aI 0 (gR 12 10 8 (lR 0)) (lI 5)) aN)))) (sSeq (sIf (mI .lt (lI 6) (kI 0)) (sRZ (kZ false)) sSkip) (sSeq (sAst (gR 12 12 10 (lR 0)) (lI 5) (lI 6)) (sSeq (sI 2 (bI (fun x y => x ||| y) (lI 2) (vC 99 F_M_bits rI (aCI (lI 6) (aCI (aI 0 (gR 12 10 8 (lR 0)) (lI 5)) aN))))) (sI 3 (bI (fun x y => x ||| y) (lI 3) (bI (fun x y => x <<< (y &&& 31)) (kI 1) (lI 5))))))))))) ((sSeq (sKil [5, 6]) (sInc 4 1))) (LF t s.1 (plK G n k) k 0 0 |>.set 5 none |>.set 6 none) (zM (setRow G 189 s.2) U) = some (.inr (.inr (.inr (some (pI (zI false)), zM (setRow G 189 F) U))))) := by
  intro m
  induction m with
  | zero =>
    intro k N s hk hN hs
    obtain ⟨N, rfl⟩ : ∃ N', N = N' + 1 := ⟨N - 1, by omega⟩
    have hkn : k = n := by omega
    subst hkn
    have hc : ((mI .lt (lI 4) (gI 12 9 (lR 0)))) (LF t s.1 (plK G k k) k 0 0 |>.set 5 none |>.set 6 none) (zM (setRow G 189 s.2) U) = some (false, zM (setRow G 189 s.2) U) := by
      have := eFld (L := LF t s.1 (plK G k k) k 0 0 |>.set 5 none |>.set 6 none) (G := setRow G 189 s.2) (U := U) (a := lR 0) (eLR rfl) fk_9
      rw [setRow_o (by decide), hn] at this
      have := eLt (a := lI 4) (x := (k : Int)) (eL rfl) this ⟨by omega, by omega⟩ ⟨by omega, by omega⟩
      rwa [show decide ((k : Int) < k) = false by simp] at this
    refine ⟨fun s' hs' => ?_, fun h => by rw [hs] at h; cases h⟩
    rw [hs] at hs'
    cases hs'
    simp only [sIt, hc, Option.bind_some, Bool.false_eq_true, if_false]
  | succ m ih =>
    intro k N s hk hN hs
    obtain ⟨N, rfl⟩ : ∃ N', N = N' + 1 := ⟨N - 1, by omega⟩
    have hc : ((mI .lt (lI 4) (gI 12 9 (lR 0)))) (LF t s.1 (plK G n k) k 0 0 |>.set 5 none |>.set 6 none) (zM (setRow G 189 s.2) U) = some (true, zM (setRow G 189 s.2) U) := by
      have := eFld (L := LF t s.1 (plK G n k) k 0 0 |>.set 5 none |>.set 6 none) (G := setRow G 189 s.2) (U := U) (a := lR 0) (eLR rfl) fk_9
      rw [setRow_o (by decide), hn] at this
      have := eLt (a := lI 4) (x := (k : Int)) (eL rfl) this ⟨by omega, by omega⟩ ⟨by omega, by omega⟩
      rwa [show decide ((k : Int) < n) = true by simp; omega] at this
    have ho := fitSt_own hw k (by omega) s hs
    have st := fit_step (U := U) (F := s.2) hn h4 (show k < n by omega) hok ht hw ha ho _ rfl
    generalize hcv : placeN (busyN G t (t + G 188 (nxK G n k)) (G 179 8) ||| s.1) (G 187 (nxK G n k)) = c at st
    by_cases h0 : c < 0
    · have hnone : ∀ j, k + 1 ≤ j → fitSt G n t j = none := by
        intro j hj
        induction j with
        | zero => omega
        | succ j ihj =>
          by_cases e : j = k
          · subst e
            rw [fitSt, hs]
            simp only [Option.bind_some, hcv, h0, if_true]
          · rw [fitSt, ihj (by omega)]
            rfl
      refine ⟨fun s' h => ?_, fun _ => ⟨s.2, sIt_ret hc (st.1 h0)⟩⟩
      rw [hnone n (by omega)] at h
      cases h
    · have hs2 : fitSt G n t (k + 1) = some (s.1 ||| bitsN c.toNat (G 187 (nxK G n k)).toNat, fun b => if b = nxK G n k then c else s.2 b) := by
        rw [fitSt, hs]
        simp only [Option.bind_some, hcv, h0, if_false]
      have := ih (k + 1) N _ (by omega) (by omega) hs2
      rw [sIt_go hc (st.2 (by omega))]
      exact this
theorem M_fits {G U : Nat → Nat → Int} {t : Int} (hok : mOk G) (hg : gangOk G) (ht : rg t) :
    (∀ s, fitN G t = some s → F_M_fits [pR 179, pI (Int32.ofInt t)] (zM G U) = some (some (pI (zI true)), zM (setRow G 189 s.2) U)) ∧
    (fitN G t = none → ∃ F, F_M_fits [pR 179, pI (Int32.ofInt t)] (zM G U) = some (some (pI (zI false)), zM (setRow G 189 F) U)) := by
  obtain ⟨h0, h4, ha⟩ := hg
  have hn : G 179 9 = ((G 179 9).toNat : Nat) := (Int.toNat_of_nonneg h0).symm
  obtain ⟨l1, l2⟩ := fits_loop (U := U) hn (by omega) hok ht (fun a h => (ha a h).1) (fun a h => (ha a h).2) (G 179 9).toNat 0 1000000 (0, G 189) (by omega) (by omega) rfl
  simp only [setRow_0] at l1 l2
  constructor
  · intro s hs
    exact eRet (Nat.le_of_ble_eq_true rfl) (sSeq_n (sI_n eK (Nat.le_of_ble_eq_true rfl)) (sSeq_n (sI_n eK (Nat.le_of_ble_eq_true rfl)) (sSeq_n (sSeq_n (sSeq_n (sI_e (L1 := LF t 0 0 0 0 0 |>.set 5 none |>.set 6 none) eK (Nat.le_of_ble_eq_true rfl) rfl) (l1 s hs)) sKil_n) (sRZ_n rfl)))) rfl
  · intro hs
    obtain ⟨F, hF⟩ := l2 hs
    exact ⟨F, eRet (Nat.le_of_ble_eq_true rfl) (sSeq_n (sI_n eK (Nat.le_of_ble_eq_true rfl)) (sSeq_n (sI_n eK (Nat.le_of_ble_eq_true rfl)) (sSeq_o (sSeq_o (sSeq_n (sI_e (L1 := LF t 0 0 0 0 0 |>.set 5 none |>.set 6 none) eK (Nat.le_of_ble_eq_true rfl) rfl) hF))))) rfl⟩
