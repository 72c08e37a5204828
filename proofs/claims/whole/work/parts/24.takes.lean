/-! ===== what the reference places: taking a job's arms ===== -/
theorem sPut_n {L : pLo} {G U : Nat → Nat → Int} {ci j o : Nat} {v : Int} {a : eR} {e : eI} (ha : a L (zM G U) = some (o, zM G U)) (he : e L (zM G U) = some (Int32.ofInt v, zM G U)) (h : okI ci j o = true) : sPut ci j a e L (zM G U) = some (.inl (L, zM (upZ G o j v) U)) := by
  simp only [sPut, ha, he, Option.bind_some, h, if_true, up1_zM]
theorem sAst_n {L : pLo} {G U : Nat → Nat → Int} {o n : Nat} {x v : Int} {a : eR} {i e : eI} (ha : a L (zM G U) = some (o, zM G U)) (hi : i L (zM G U) = some (Int32.ofInt x, zM G U)) (he : e L (zM G U) = some (Int32.ofInt v, zM G U)) (hn : lenOf 0 o = n) (hx : 0 ≤ x ∧ x < n) (h9 : n ≤ 100000) : sAst a i e L (zM G U) = some (.inl (L, zM (upZ G o x.toNat v) U)) := by
  have n1 := iI_ix (a := x) (n := n) (by omega) h9
  have n2 := iI_nat (a := x) (by omega)
  rw [n2] at n1
  simp only [sAst, ha, hi, he, Option.bind_some, hn, n1, n2, if_false, up1_zM]
theorem eIteI {L : pLo} {σ : pM} {p : Bool} {c : eB} {a b : eI} {x y : Int} (hc : c L σ = some (p, σ)) (ha : p = true → a L σ = some (Int32.ofInt x, σ)) (hb : p = false → b L σ = some (Int32.ofInt y, σ)) : cE c a b L σ = some (Int32.ofInt (if p = true then x else y), σ) := by
  cases p with
  | true => simp [cE, hc, ha rfl]
  | false => simp [cE, hc, hb rfl]
def soonerF (v than best : Int) : Int := if (decide (than < v) && (decide (best < 0) || decide (v < best))) = true then v else best
theorem M_sooner {σ : pM} {v t b : Int} (hv : rg v) (ht : rg t) (hb : rg b) : F_M_sooner [pI (Int32.ofInt v), pI (Int32.ofInt t), pI (Int32.ofInt b)] σ = some (some (pI (Int32.ofInt (soonerF v t b))), σ) := by
  unfold soonerF
  refine eRI (Nat.le_of_ble_eq_true rfl) (eIteI ?_ (fun _ => eL rfl) (fun _ => eL rfl))
  repeat' first | with_reducible exact eK | with_reducible exact eKJ | ((with_reducible apply eL); rfl) | ((with_reducible apply eLJ); rfl) | ((with_reducible apply eLR); rfl) | ((with_reducible apply eLZ); rfl) | with_reducible exact eAN | with_reducible apply eAdd | with_reducible apply eSub | with_reducible apply eMul | with_reducible apply eOr | with_reducible apply eDiv | with_reducible apply eMod | with_reducible apply eWJ | with_reducible apply eMax | with_reducible apply eMin | with_reducible apply eLt | with_reducible apply eGt | with_reducible apply eLe | with_reducible apply eGe | with_reducible apply eEq | with_reducible apply eNe | with_reducible apply eJLt | with_reducible apply eJGt | with_reducible apply eJLe | with_reducible apply eJGe | with_reducible apply eAnd | with_reducible apply eOrB | with_reducible apply eNot | with_reducible apply eIte | with_reducible apply eArr | with_reducible apply eFldR | with_reducible apply eFld | with_reducible apply eAI | with_reducible apply eAJ | with_reducible apply eAR | with_reducible apply eAZ | with_reducible apply eCI | with_reducible apply eCZ | with_reducible exact ckv179 | with_reducible exact ckv99 | with_reducible exact rf_180 | with_reducible exact ln_180 | intro _ | with_reducible exact hv | with_reducible exact ht | with_reducible exact hb | omega | decide +kernel
theorem fk_8 : okI 12 8 179 = true := by decide +kernel
theorem fk_9 : okI 12 9 179 = true := by decide +kernel
theorem rf_187 : okR 12 10 179 (179 + 8) = true := by decide +kernel
theorem rf_188 : okR 12 11 179 (179 + 9) = true := by decide +kernel
theorem rf_189 : okR 12 12 179 (179 + 10) = true := by decide +kernel
theorem ln_187 : lenOf 0 (179 + 8) = 4 := by decide +kernel
theorem ln_188 : lenOf 0 (179 + 9) = 4 := by decide +kernel
theorem ln_189 : lenOf 0 (179 + 10) = 4 := by decide +kernel
/-- the memory behind takes, after i arms -/
def tookG (G : Nat → Nat → Int) (j i : Nat) : Nat → Nat → Int := fun k b => if k = 187 ∧ b < i then mAt (G 180) j (12 + b) else if k = 188 ∧ b < i then mAt (G 180) j (16 + b) else if k = 179 ∧ b = 9 then mAt (G 180) j 4 else if k = 179 ∧ b = 8 then mAt (G 180) j 0 else G k b
theorem tookG_0 {G : Nat → Nat → Int} {j : Nat} : upZ (upZ G 179 8 (mAt (G 180) j 0)) 179 9 (mAt (G 180) j 4) = tookG G j 0 := by
  funext k b
  simp [upZ, tookG]
theorem tookG_s {G : Nat → Nat → Int} {j i : Nat} : upZ (upZ (tookG G j i) 187 i (mAt (G 180) j (12 + i))) 188 i (mAt (G 180) j (16 + i)) = tookG G j (i + 1) := by
  funext k b
  unfold upZ tookG
  by_cases h1 : k = 188
  · subst h1
    by_cases h2 : b = i
    · subst h2; simp
    · have : (b < i) = (b < i + 1) := propext (by omega)
      simp [h2, this]
  · by_cases h3 : k = 187
    · subst h3
      by_cases h2 : b = i
      · subst h2; simp
      · have : (b < i) = (b < i + 1) := propext (by omega)
        simp [h2, this]
    · simp [h1, h3]
theorem tookG_180 {G : Nat → Nat → Int} {j i : Nat} : tookG G j i 180 = G 180 := by
  funext b
  simp [tookG]
theorem M_takes {G U : Nat → Nat → Int} {j : Nat} (hj : j < 80) (h4 : mArms (G 180) j ≤ 4) (h0 : 0 ≤ mAt (G 180) j 4) : F_M_takes [pR 179, pI (Int32.ofInt (j : Int))] (zM G U) = some (none, zM (tookG G j (mArms (G 180) j)) U) := by
  have hm : ((mArms (G 180) j : Nat) : Int) = mAt (G 180) j 4 := Int.toNat_of_nonneg h0
  have h9 : ∀ i, tookG G j i 179 9 = mAt (G 180) j 4 := fun i => by simp [tookG]
  have hl := @sWh_iter ((mI .lt (lI 2) (gI 12 9 (lR 0)))) ((sSeq (sAst (gR 12 10 8 (lR 0)) (lI 2) (vC 12 F_M_at rI (aCR (lR 0) (aCI (lI 1) (aCI (bI (fun x y => x + y) (kI 12) (lI 2)) aN))))) (sAst (gR 12 11 9 (lR 0)) (lI 2) (vC 12 F_M_at rI (aCR (lR 0) (aCI (lI 1) (aCI (bI (fun x y => x + y) (kI 16) (lI 2)) aN))))))) ((sInc 2 1)) (fun i => ([some (pR 179), some (pI (Int32.ofInt (j : Int))), some (pI (Int32.ofInt (i : Int)))], zM (tookG G j i) U)) (mArms (G 180) j) (by omega) (fun i hi => ?_) ?_
  · have a0 := M_atN (G := G) (U := U) (j := j) (w := 0) hj (by omega)
    have a4 := M_atN (G := upZ G 179 8 (mAt (G 180) j 0)) (U := U) (j := j) (w := 4) hj (by omega)
    simp only [Int.cast_ofNat_Int] at a0 a4
    have e180 : upZ G 179 8 (mAt (G 180) j 0) 180 = G 180 := by funext b; simp [upZ]
    rw [e180] at a4
    have p1 := sPut_n (L := [some (pR 179), some (pI (Int32.ofInt (j : Int))), none]) (G := G) (U := U) (a := lR 0) (e := vC 12 F_M_at rI (aCR (lR 0) (aCI (lI 1) (aCI (kI 0) aN)))) (v := mAt (G 180) j 0) (eLR rfl) (by repeat' first | with_reducible exact eK | with_reducible exact eKJ | ((with_reducible apply eL); rfl) | ((with_reducible apply eLJ); rfl) | ((with_reducible apply eLR); rfl) | ((with_reducible apply eLZ); rfl) | with_reducible exact eAN | with_reducible apply eAdd | with_reducible apply eSub | with_reducible apply eMul | with_reducible apply eOr | with_reducible apply eDiv | with_reducible apply eMod | with_reducible apply eWJ | with_reducible apply eMax | with_reducible apply eMin | with_reducible apply eLt | with_reducible apply eGt | with_reducible apply eLe | with_reducible apply eGe | with_reducible apply eEq | with_reducible apply eNe | with_reducible apply eJLt | with_reducible apply eJGt | with_reducible apply eJLe | with_reducible apply eJGe | with_reducible apply eAnd | with_reducible apply eOrB | with_reducible apply eNot | with_reducible apply eIte | with_reducible apply eArr | with_reducible apply eFldR | with_reducible apply eFld | with_reducible apply eAI | with_reducible apply eAJ | with_reducible apply eAR | with_reducible apply eAZ | with_reducible apply eCI | with_reducible apply eCZ | with_reducible exact ckv179 | with_reducible exact ckv99 | with_reducible exact rf_180 | with_reducible exact ln_180 | intro _ | with_reducible exact a0 | omega | decide +kernel) fk_8
    have p2 := sPut_n (L := [some (pR 179), some (pI (Int32.ofInt (j : Int))), none]) (G := upZ G 179 8 (mAt (G 180) j 0)) (U := U) (a := lR 0) (e := vC 12 F_M_at rI (aCR (lR 0) (aCI (lI 1) (aCI (kI 4) aN)))) (v := mAt (G 180) j 4) (eLR rfl) (by repeat' first | with_reducible exact eK | with_reducible exact eKJ | ((with_reducible apply eL); rfl) | ((with_reducible apply eLJ); rfl) | ((with_reducible apply eLR); rfl) | ((with_reducible apply eLZ); rfl) | with_reducible exact eAN | with_reducible apply eAdd | with_reducible apply eSub | with_reducible apply eMul | with_reducible apply eOr | with_reducible apply eDiv | with_reducible apply eMod | with_reducible apply eWJ | with_reducible apply eMax | with_reducible apply eMin | with_reducible apply eLt | with_reducible apply eGt | with_reducible apply eLe | with_reducible apply eGe | with_reducible apply eEq | with_reducible apply eNe | with_reducible apply eJLt | with_reducible apply eJGt | with_reducible apply eJLe | with_reducible apply eJGe | with_reducible apply eAnd | with_reducible apply eOrB | with_reducible apply eNot | with_reducible apply eIte | with_reducible apply eArr | with_reducible apply eFldR | with_reducible apply eFld | with_reducible apply eAI | with_reducible apply eAJ | with_reducible apply eAR | with_reducible apply eAZ | with_reducible apply eCI | with_reducible apply eCZ | with_reducible exact ckv179 | with_reducible exact ckv99 | with_reducible exact rf_180 | with_reducible exact ln_180 | intro _ | with_reducible exact a4 | omega | decide +kernel) fk_9
    rw [tookG_0] at p2
    exact eRet (Nat.le_of_ble_eq_true rfl) (sSeq_n (sSeq_n p1 (sSeq_n p2 (sSeq_n (sSeq_n (sI_e eK (Nat.le_of_ble_eq_true rfl) rfl) hl) sKil_n))) rfl) rfl
  · refine ⟨?_, ?_⟩
    · show _ = some (true, zM (tookG G j i) U)
      rw [← show decide ((i : Int) < tookG G j i 179 9) = true by rw [h9]; simp; omega]
      have r := h9 i
      repeat' first | with_reducible exact eK | with_reducible exact eKJ | ((with_reducible apply eL); rfl) | ((with_reducible apply eLJ); rfl) | ((with_reducible apply eLR); rfl) | ((with_reducible apply eLZ); rfl) | with_reducible exact eAN | with_reducible apply eAdd | with_reducible apply eSub | with_reducible apply eMul | with_reducible apply eOr | with_reducible apply eDiv | with_reducible apply eMod | with_reducible apply eWJ | with_reducible apply eMax | with_reducible apply eMin | with_reducible apply eLt | with_reducible apply eGt | with_reducible apply eLe | with_reducible apply eGe | with_reducible apply eEq | with_reducible apply eNe | with_reducible apply eJLt | with_reducible apply eJGt | with_reducible apply eJLe | with_reducible apply eJGe | with_reducible apply eAnd | with_reducible apply eOrB | with_reducible apply eNot | with_reducible apply eIte | with_reducible apply eArr | with_reducible apply eFldR | with_reducible apply eFld | with_reducible apply eAI | with_reducible apply eAJ | with_reducible apply eAR | with_reducible apply eAZ | with_reducible apply eCI | with_reducible apply eCZ | with_reducible exact ckv179 | with_reducible exact ckv99 | with_reducible exact rf_180 | with_reducible exact ln_180 | intro _ | with_reducible exact fk_9 | omega | decide +kernel
    · have a1 := M_atL (G := tookG G j i) (U := U) (j := j) (w := 12) (a := i) hj (by omega)
      have a2 := M_atL (G := upZ (tookG G j i) 187 i (mAt (G 180) j (12 + i))) (U := U) (j := j) (w := 16) (a := i) hj (by omega)
      simp only [Int.cast_ofNat_Int] at a1 a2
      rw [tookG_180] at a1
      rw [show upZ (tookG G j i) 187 i (mAt (G 180) j (12 + i)) 180 = G 180 by rw [← tookG_180 (G := G) (j := j) (i := i)]; funext b; simp [upZ]] at a2
      have e1 : ((i + 1 : Nat) : Int) = (i : Int) + 1 := by omega
      have q1 := sAst_n (L := [some (pR 179), some (pI (Int32.ofInt (j : Int))), some (pI (Int32.ofInt (i : Int)))]) (G := tookG G j i) (U := U) (a := gR 12 10 8 (lR 0)) (i := lI 2) (e := vC 12 F_M_at rI (aCR (lR 0) (aCI (lI 1) (aCI (bI (fun x y => x + y) (kI 12) (lI 2)) aN)))) (x := (i : Int)) (v := mAt (G 180) j (12 + i)) (eFldR (eLR rfl) rf_187) (eL rfl) (by repeat' first | with_reducible exact eK | with_reducible exact eKJ | ((with_reducible apply eL); rfl) | ((with_reducible apply eLJ); rfl) | ((with_reducible apply eLR); rfl) | ((with_reducible apply eLZ); rfl) | with_reducible exact eAN | with_reducible apply eAdd | with_reducible apply eSub | with_reducible apply eMul | with_reducible apply eOr | with_reducible apply eDiv | with_reducible apply eMod | with_reducible apply eWJ | with_reducible apply eMax | with_reducible apply eMin | with_reducible apply eLt | with_reducible apply eGt | with_reducible apply eLe | with_reducible apply eGe | with_reducible apply eEq | with_reducible apply eNe | with_reducible apply eJLt | with_reducible apply eJGt | with_reducible apply eJLe | with_reducible apply eJGe | with_reducible apply eAnd | with_reducible apply eOrB | with_reducible apply eNot | with_reducible apply eIte | with_reducible apply eArr | with_reducible apply eFldR | with_reducible apply eFld | with_reducible apply eAI | with_reducible apply eAJ | with_reducible apply eAR | with_reducible apply eAZ | with_reducible apply eCI | with_reducible apply eCZ | with_reducible exact ckv179 | with_reducible exact ckv99 | with_reducible exact rf_180 | with_reducible exact ln_180 | intro _ | with_reducible exact a1 | omega | decide +kernel) ln_187 (by omega) (by omega)
      have q2 := sAst_n (L := [some (pR 179), some (pI (Int32.ofInt (j : Int))), some (pI (Int32.ofInt (i : Int)))]) (G := upZ (tookG G j i) 187 i (mAt (G 180) j (12 + i))) (U := U) (a := gR 12 11 9 (lR 0)) (i := lI 2) (e := vC 12 F_M_at rI (aCR (lR 0) (aCI (lI 1) (aCI (bI (fun x y => x + y) (kI 16) (lI 2)) aN)))) (x := (i : Int)) (v := mAt (G 180) j (16 + i)) (eFldR (eLR rfl) rf_188) (eL rfl) (by repeat' first | with_reducible exact eK | with_reducible exact eKJ | ((with_reducible apply eL); rfl) | ((with_reducible apply eLJ); rfl) | ((with_reducible apply eLR); rfl) | ((with_reducible apply eLZ); rfl) | with_reducible exact eAN | with_reducible apply eAdd | with_reducible apply eSub | with_reducible apply eMul | with_reducible apply eOr | with_reducible apply eDiv | with_reducible apply eMod | with_reducible apply eWJ | with_reducible apply eMax | with_reducible apply eMin | with_reducible apply eLt | with_reducible apply eGt | with_reducible apply eLe | with_reducible apply eGe | with_reducible apply eEq | with_reducible apply eNe | with_reducible apply eJLt | with_reducible apply eJGt | with_reducible apply eJLe | with_reducible apply eJGe | with_reducible apply eAnd | with_reducible apply eOrB | with_reducible apply eNot | with_reducible apply eIte | with_reducible apply eArr | with_reducible apply eFldR | with_reducible apply eFld | with_reducible apply eAI | with_reducible apply eAJ | with_reducible apply eAR | with_reducible apply eAZ | with_reducible apply eCI | with_reducible apply eCZ | with_reducible exact ckv179 | with_reducible exact ckv99 | with_reducible exact rf_180 | with_reducible exact ln_180 | intro _ | with_reducible exact a2 | omega | decide +kernel) ln_188 (by omega) (by omega)
      rw [show (i : Int).toNat = i from rfl] at q1 q2
      rw [tookG_s] at q2
      rw [e1]
      exact sStep_e (sSeq_n q1 q2) (sInc_n rfl) rfl
  · show _ = some (false, _)
    rw [← show decide (((mArms (G 180) j : Nat) : Int) < tookG G j (mArms (G 180) j) 179 9) = false by rw [h9]; simp; omega]
    have r := h9 (mArms (G 180) j)
    repeat' first | with_reducible exact eK | with_reducible exact eKJ | ((with_reducible apply eL); rfl) | ((with_reducible apply eLJ); rfl) | ((with_reducible apply eLR); rfl) | ((with_reducible apply eLZ); rfl) | with_reducible exact eAN | with_reducible apply eAdd | with_reducible apply eSub | with_reducible apply eMul | with_reducible apply eOr | with_reducible apply eDiv | with_reducible apply eMod | with_reducible apply eWJ | with_reducible apply eMax | with_reducible apply eMin | with_reducible apply eLt | with_reducible apply eGt | with_reducible apply eLe | with_reducible apply eGe | with_reducible apply eEq | with_reducible apply eNe | with_reducible apply eJLt | with_reducible apply eJGt | with_reducible apply eJLe | with_reducible apply eJGe | with_reducible apply eAnd | with_reducible apply eOrB | with_reducible apply eNot | with_reducible apply eIte | with_reducible apply eArr | with_reducible apply eFldR | with_reducible apply eFld | with_reducible apply eAI | with_reducible apply eAJ | with_reducible apply eAR | with_reducible apply eAZ | with_reducible apply eCI | with_reducible apply eCZ | with_reducible exact ckv179 | with_reducible exact ckv99 | with_reducible exact rf_180 | with_reducible exact ln_180 | intro _ | with_reducible exact fk_9 | omega | decide +kernel
