/-! ===== the first state ===== -/
def G0 : Nat → Nat → Int := fun a b => ((σOf cs0).1 a b).toInt
def U0 : Nat → Nat → Int := fun a b => ((σOf cs0).2 a b).toInt
theorem G0_eq : σOf cs0 = zM G0 U0 := zM_of _
def G1 : Nat → Nat → Int := upZ (upZ G0 180 2 1) 180 3 80
def wA (i : Nat) : Nat → Nat → Int := fun a b => if a = 180 ∧ 8 ≤ b ∧ b < 8 + i then 10 else if a = 180 ∧ 16 ≤ b ∧ b < 16 + i then 16 else G1 a b
def wB (i : Nat) : Nat → Nat → Int := fun a b => if a = 180 ∧ 24 ≤ b ∧ b < 24 + 6 * i ∧ (b - 24) % 6 = 0 then -1 else wA 8 a b
def GF : Nat → Nat → Int := layG (wB 12) 180 182 3940
theorem wA_0 : wA 0 = G1 := by
  funext a b
  unfold wA
  rw [if_neg (by omega), if_neg (by omega)]
theorem wA_s (i : Nat) (h : i < 8) : upZ (upZ (wA i) 180 (8 + i) 10) 180 (16 + i) 16 = wA (i + 1) := by
  funext a b
  unfold upZ wA
  by_cases h1 : a = 180
  · subst h1
    simp only [true_and]
    repeat' split
    all_goals first | rfl | omega
  · simp [h1]
theorem wB_0 : wB 0 = wA 8 := by
  funext a b
  unfold wB
  rw [if_neg (by omega)]
theorem wB_s (i : Nat) : upZ (wB i) 180 (24 + i * 6) (-1) = wB (i + 1) := by
  funext a b
  unfold upZ wB
  by_cases h1 : a = 180
  · subst h1
    simp only [true_and]
    repeat' split
    all_goals first | rfl | omega
  · simp [h1]
theorem ln_180 : lenOf 0 180 = 3940 := by decide +kernel
theorem ln_182 : lenOf 0 182 = 3940 := by decide +kernel
theorem rf_180 : okR 12 0 179 180 = true := by decide +kernel
theorem rf_182 : okR 12 2 179 182 = true := by decide +kernel
theorem iI_nat' {j : Nat} (h : j < 2147483648) : (Int32.ofInt (j : Int)).toNatClampNeg = j := iI_nat (a := (j : Int)) (by omega)
theorem ctor_l1 : sWh (mI .lt (lI 1) (kI 8)) (sSeq (sAst (gR 12 0 1 (lR 0)) (bI (fun x y => x + y) (kI 8) (lI 1)) (kI 10)) (sAst (gR 12 0 1 (lR 0)) (bI (fun x y => x + y) (kI 16) (lI 1)) (kI 16))) (sInc 1 1) [some (pR 179), some (pI (Int32.ofInt 0))] (zM G1 U0) = some (.inl ([some (pR 179), some (pI (Int32.ofInt 8))], zM (wA 8) U0)) := by
  have l1 := sWh_iter (c := mI .lt (lI 1) (kI 8)) (b := sSeq (sAst (gR 12 0 1 (lR 0)) (bI (fun x y => x + y) (kI 8) (lI 1)) (kI 10)) (sAst (gR 12 0 1 (lR 0)) (bI (fun x y => x + y) (kI 16) (lI 1)) (kI 16))) (u := sInc 1 1) (fun i => ([some (pR 179), some (pI (Int32.ofInt (i : Int)))], zM (wA i) U0)) 8 (by decide) (fun j hj => ?_) ?_
  · rw [wA_0] at l1
    exact l1
  · have n1 := iI_nat' (j := 8 + j) (by omega)
    have n2 := iI_ix (a := ((8 + j : Nat) : Int)) (n := 3940) (by omega) (by omega)
    have n5 := iI_nat' (j := 16 + j) (by omega)
    have n6 := iI_ix (a := ((16 + j : Nat) : Int)) (n := 3940) (by omega) (by omega)
    have n3 := iI_lt (a := (j : Int)) (b := 8) (by omega) (by omega)
    have n4 : (j : Int) < 8 := by omega
    rw [n1] at n2
    rw [n5] at n6
    have e : Int32.ofInt 8 + Int32.ofInt (j : Int) = Int32.ofInt ((8 + j : Nat) : Int) := by
      rw [iI_add]; rfl
    have e2 : Int32.ofInt 16 + Int32.ofInt (j : Int) = Int32.ofInt ((16 + j : Nat) : Int) := by
      rw [iI_add]; rfl
    refine ⟨?_, ?_⟩
    · simp only [mI, lI, kI, pCb, Option.bind_some, List.getElem?_cons_zero, List.getElem?_cons_succ, n3, n4, decide_true]
    · simp only [sStep, sSeq, sAst, gR, lR, lI, bI, kI, Option.bind_some, List.getElem?_cons_zero, List.getElem?_cons_succ, Nat.reduceAdd, rf_180, if_true, ln_180, e, e2, n1, n2, n5, n6, if_false, up1_zM, wA_s j hj, sInc, pSet1, pClr, List.set, iI_add]
      rfl
  · have n3 := iI_lt (a := (8 : Int)) (b := 8) (by omega) (by omega)
    simp [mI, lI, kI, pCb]
theorem ctor_l2 : sWh (mI .lt (lI 1) (kI 12)) (sAst (gR 12 0 1 (lR 0)) (bI (fun x y => x + y) (kI 24) (bI (fun x y => x * y) (lI 1) (kI 6))) (kI (-1))) (sInc 1 1) [some (pR 179), some (pI (Int32.ofInt 0))] (zM (wA 8) U0) = some (.inl ([some (pR 179), some (pI (Int32.ofInt 12))], zM (wB 12) U0)) := by
  have l2 := sWh_iter (c := mI .lt (lI 1) (kI 12)) (b := sAst (gR 12 0 1 (lR 0)) (bI (fun x y => x + y) (kI 24) (bI (fun x y => x * y) (lI 1) (kI 6))) (kI (-1))) (u := sInc 1 1) (fun i => ([some (pR 179), some (pI (Int32.ofInt (i : Int)))], zM (wB i) U0)) 12 (by decide) (fun j hj => ?_) ?_
  · rw [wB_0] at l2
    exact l2
  · have n1 := iI_nat' (j := 24 + j * 6) (by omega)
    have n2 := iI_ix (a := ((24 + j * 6 : Nat) : Int)) (n := 3940) (by omega) (by omega)
    have n3 := iI_lt (a := (j : Int)) (b := 12) (by omega) (by omega)
    have n4 : (j : Int) < 12 := by omega
    rw [n1] at n2
    have e : Int32.ofInt 24 + Int32.ofInt (j : Int) * Int32.ofInt 6 = Int32.ofInt ((24 + j * 6 : Nat) : Int) := by
      rw [iI_mul, iI_add]; rfl
    refine ⟨?_, ?_⟩
    · simp only [mI, lI, kI, pCb, Option.bind_some, List.getElem?_cons_zero, List.getElem?_cons_succ, n3, n4, decide_true]
    · simp only [sStep, sAst, gR, lR, lI, bI, kI, Option.bind_some, List.getElem?_cons_zero, List.getElem?_cons_succ, Nat.reduceAdd, rf_180, if_true, ln_180, e, n1, n2, if_false, up1_zM, wB_s, sInc, pSet1, pClr, List.set, iI_add]
      rfl
  · simp [mI, lI, kI, pCb]
theorem sSeq_n {c1 c2 : sC} {L L1 : pLo} {σ σ1 : pM} {o : Option pO} (h1 : c1 L σ = some (.inl (L1, σ1))) (h2 : c2 L1 σ1 = o) : sSeq c1 c2 L σ = o := by
  rw [← h2]
  simp [sSeq, h1]
theorem sSeq_o {c1 c2 : sC} {L : pLo} {σ : pM} {o : pLo × pM ⊕ (pLo × pM ⊕ Option pV × pM)} (h1 : c1 L σ = some (.inr o)) : sSeq c1 c2 L σ = some (.inr o) := by
  simp [sSeq, h1]
theorem ctor_a2 : sAst (gR 12 0 1 (lR 0)) (kI 2) (kI 1) [some (pR 179), none] (zM G0 U0) = some (.inl ([some (pR 179), none], zM (upZ G0 180 2 1) U0)) := by
  have n2 : (Int32.ofInt 2).toNatClampNeg = 2 := by decide
  have m2 : ¬ (Int32.ofInt 2 < 0) := by decide
  simp only [sAst, gR, lR, kI, Option.bind_some, List.getElem?_cons_zero, Nat.reduceAdd, rf_180, if_true, ln_180, n2, m2, false_or, up1_zM, show ¬ (3940 : Nat) ≤ 2 by decide, if_false]
theorem ctor_a3 : sAst (gR 12 0 1 (lR 0)) (kI 3) (kI 80) [some (pR 179), none] (zM (upZ G0 180 2 1) U0) = some (.inl ([some (pR 179), none], zM G1 U0)) := by
  have n2 : (Int32.ofInt 3).toNatClampNeg = 3 := by decide
  have m2 : ¬ (Int32.ofInt 3 < 0) := by decide
  simp only [sAst, gR, lR, kI, Option.bind_some, List.getElem?_cons_zero, Nat.reduceAdd, rf_180, if_true, ln_180, n2, m2, false_or, up1_zM, show ¬ (3940 : Nat) ≤ 3 by decide, if_false, G1]
theorem ctor_i {σ : pM} : sI 1 (kI 0) [some (pR 179), none] σ = some (.inl ([some (pR 179), some (pI (Int32.ofInt 0))], σ)) := by
  simp [sI, kI, pSet1, pClr]
theorem ctor_k {x : Int32} {σ : pM} : sKil [1] [some (pR 179), some (pI x)] σ = some (.inl ([some (pR 179), none], σ)) := by
  simp [sKil, kil]
theorem ctor_v : sVd (vC 99 F_M_lays rN (aCR (gR 12 0 1 (lR 0)) (aCR (gR 12 2 3 (lR 0)) aN))) [some (pR 179), none] (zM (wB 12) U0) = some (.inl ([some (pR 179), none], zM GF U0)) := by
  have hck : ckV 99 [pR 180, pR 182] = true := by simp [ckV]
  have ha : aCR (gR 12 0 1 (lR 0)) (aCR (gR 12 2 3 (lR 0)) aN) [some (pR 179), none] (zM (wB 12) U0) = some ([pR 180, pR 182], zM (wB 12) U0) := by
    simp only [aCR, aN, gR, lR, Option.bind_some, List.getElem?_cons_zero, Nat.reduceAdd, rf_180, rf_182, if_true]
  simp only [sVd, vC, ha, hck, if_true, Option.bind_some, F_M_lays_eq (k := 180) (k2 := 182) (wB 12) U0 (by decide) ln_180 ln_182, Option.map_some, rN, GF]
theorem ctor_eq : B_M_ctor [some (pR 179), none] (σOf cs0) = some (oR none (zM GF U0)) := by
  rw [G0_eq]
  unfold B_M_ctor
  exact sSeq_n (sSeq_n ctor_a2 (sSeq_n ctor_a3 (sSeq_n (sSeq_n (sSeq_n ctor_i ctor_l1) ctor_k) (sSeq_n (sSeq_n (sSeq_n ctor_i ctor_l2) ctor_k) ctor_v)))) rfl
