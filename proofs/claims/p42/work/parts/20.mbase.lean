/-! ===== the reference's small methods ===== -/
theorem iZ_zI' (b : Bool) : iZ (zI b) = some b := zI_iZ b
theorem ckV_99 (As : List pV) : (ckV 99 As = true) = True := by simp [ckV]
theorem ckV_cons (ci o : Nat) (As : List pV) : (ckV ci (pR o :: As) = true) = (ci = 99 ∨ clsOf o = ci) := by
  by_cases h : ci = 99 <;> simp [ckV, h]
theorem le_refl' (n : Nat) : (n ≤ n) = True := by simp
abbrev iL (z : Int) : Int64 := Int64.ofInt z
theorem iL_toInt {z : Int} (h : -9223372036854775808 ≤ z ∧ z < 9223372036854775808) : (Int64.ofInt z).toInt = z := by
  rw [show (Int64.ofInt z).toInt = z.bmod (2 ^ 64) from Int64.toInt_ofInt]
  exact Int.bmod_eq_of_le (by omega) (by omega)
theorem iL_le {a b : Int} (ha : -9223372036854775808 ≤ a ∧ a < 9223372036854775808) (hb : -9223372036854775808 ≤ b ∧ b < 9223372036854775808) : (Int64.ofInt a ≤ Int64.ofInt b) = (a ≤ b) := by
  rw [Int64.le_iff_toInt_le, iL_toInt ha, iL_toInt hb]
theorem iL_lt {a b : Int} (ha : -9223372036854775808 ≤ a ∧ a < 9223372036854775808) (hb : -9223372036854775808 ≤ b ∧ b < 9223372036854775808) : (Int64.ofInt a < Int64.ofInt b) = (a < b) := by
  rw [Int64.lt_iff_toInt_lt, iL_toInt ha, iL_toInt hb]
theorem iI_64 {a : Int} (h : -2147483648 ≤ a ∧ a < 2147483648) : (Int32.ofInt a).toInt64 = Int64.ofInt a := by
  rw [← Int64.toInt_inj, Int32.toInt_toInt64, iI_toInt h, iL_toInt (by omega)]
theorem M_in {σ : pM} {v a b : Int} (hv : -9223372036854775808 ≤ v ∧ v < 9223372036854775808) (ha : -9223372036854775808 ≤ a ∧ a < 9223372036854775808) (hb : -9223372036854775808 ≤ b ∧ b < 9223372036854775808) : F_M_in [pJ (Int64.ofInt v), pJ (Int64.ofInt a), pJ (Int64.ofInt b)] σ = some (some (pI (zI (decide (a ≤ v ∧ v ≤ b)))), σ) := by
  have h1 := iL_le ha hv
  have h2 := iL_le hv hb
  by_cases c1 : a ≤ v
  · simp [F_M_in, B_M_in, pBody, pL0, pEnt, List.replicate, List.cons_append, List.nil_append, narK, Option.isSome_some, eq_self, le_refl', Nat.reduceLeDiff, Nat.sub_self, Option.bind_some, Option.map_some, List.getElem?_cons_zero, List.getElem?_cons_succ, List.length_cons, List.length_nil, Nat.reduceAdd, Nat.reduceSub, Nat.reduceLeDiff, Nat.reduceLT, if_true, if_false, lI, lJ, lR, kI, kJ, bI, bJ, uI, wJ, aN, aCI, aCJ, aCR, vC, rI, rJ, rR, rN, rZ, iZ_zI', ckV_99, ckV_cons, zM1, zM2, up1_zM, up2_zM, iI_add, iI_sub, iI_mul, cE, mI, mJ, pCb, pCj, bAnd, bOr, bNot, sRI, sRZ, sRJ, sRR, sRV, h1, h2, c1]
  · simp [F_M_in, B_M_in, pBody, pL0, pEnt, List.replicate, List.cons_append, List.nil_append, narK, Option.isSome_some, eq_self, le_refl', Nat.reduceLeDiff, Nat.sub_self, Option.bind_some, Option.map_some, List.getElem?_cons_zero, List.getElem?_cons_succ, List.length_cons, List.length_nil, Nat.reduceAdd, Nat.reduceSub, Nat.reduceLeDiff, Nat.reduceLT, if_true, if_false, lI, lJ, lR, kI, kJ, bI, bJ, uI, wJ, aN, aCI, aCJ, aCR, vC, rI, rJ, rR, rN, rZ, iZ_zI', ckV_99, ckV_cons, zM1, zM2, up1_zM, up2_zM, iI_add, iI_sub, iI_mul, cE, mI, mJ, pCb, pCj, bAnd, bOr, bNot, sRI, sRZ, sRJ, sRR, sRV, h1, h2, c1]
theorem M_isAccount {σ : pM} {v : Int} (hv : -2147483648 ≤ v ∧ v < 2147483648) : F_M_isAccount [pI (Int32.ofInt v)] σ = some (some (pI (zI (decide (0 ≤ v ∧ v ≤ 7)))), σ) := by
  have h := M_in (σ := σ) (v := v) (a := 0) (b := 7) (by omega) (by omega) (by omega)
  simp -implicitDefEqProofs only [F_M_isAccount, B_M_isAccount, pBody, pL0, pEnt, List.replicate, List.cons_append, List.nil_append, narK, Option.isSome_some, eq_self, le_refl', Nat.reduceLeDiff, Nat.sub_self, Option.bind_some, Option.map_some, List.getElem?_cons_zero, List.getElem?_cons_succ, List.length_cons, List.length_nil, Nat.reduceAdd, Nat.reduceSub, Nat.reduceLeDiff, Nat.reduceLT, if_true, if_false, lI, lJ, lR, kI, kJ, bI, bJ, uI, wJ, aN, aCI, aCJ, aCR, vC, rI, rJ, rR, rN, rZ, iZ_zI', ckV_99, ckV_cons, zM1, zM2, up1_zM, up2_zM, iI_add, iI_sub, iI_mul, cE, mI, mJ, pCb, pCj, bAnd, bOr, bNot, sRI, sRZ, sRJ, sRR, sRV, iI_64 hv, h]
theorem M_at {G U : Nat → Nat → Int} {j w : Int} (h : 0 ≤ 96 + j * 32 + w ∧ 96 + j * 32 + w < 3940) : F_M_at [pR 179, pI (Int32.ofInt j), pI (Int32.ofInt w)] (zM G U) = some (some (pI (Int32.ofInt (G 180 (96 + j * 32 + w).toNat))), zM G U) := by
  have n1 := iI_ix (a := 96 + j * 32 + w) (n := 3940) (by omega) (by omega)
  have n2 := iI_nat (a := 96 + j * 32 + w) (by omega)
  rw [n2] at n1
  simp -implicitDefEqProofs only [F_M_at, B_M_at, pBody, pL0, pEnt, List.replicate, List.cons_append, List.nil_append, narK, Option.isSome_some, eq_self, le_refl', Nat.reduceLeDiff, Nat.sub_self, Option.bind_some, Option.map_some, List.getElem?_cons_zero, List.getElem?_cons_succ, List.length_cons, List.length_nil, Nat.reduceAdd, Nat.reduceSub, Nat.reduceLeDiff, Nat.reduceLT, if_true, if_false, lI, lJ, lR, kI, kJ, bI, bJ, uI, wJ, aN, aCI, aCJ, aCR, vC, rI, rJ, rR, rN, rZ, iZ_zI', ckV_99, ckV_cons, zM1, zM2, up1_zM, up2_zM, iI_add, iI_sub, iI_mul, cE, mI, mJ, pCb, pCj, bAnd, bOr, bNot, sRI, sRZ, sRJ, sRR, sRV, aI, gR, rf_180, ln_180, n1, n2]
theorem M_at0 {G U : Nat → Nat → Int} {j w : Nat} (h : 96 + j * 32 + w < 3940) : F_M_at [pR 179, pI (Int32.ofInt (j : Int)), pI (Int32.ofInt (w : Int))] (zM G U) = some (some (pI (Int32.ofInt (G 180 (96 + j * 32 + w)))), zM G U) := by
  have := M_at (G := G) (U := U) (j := j) (w := w) (by omega)
  rwa [show ((96 : Int) + j * 32 + w).toNat = 96 + j * 32 + w by omega] at this
theorem M_sets {G U : Nat → Nat → Int} {j w v : Int} (h : 0 ≤ 96 + j * 32 + w ∧ 96 + j * 32 + w < 3940) : F_M_sets [pR 179, pI (Int32.ofInt j), pI (Int32.ofInt w), pI (Int32.ofInt v)] (zM G U) = some (none, zM (upZ G 180 (96 + j * 32 + w).toNat v) U) := by
  have n1 := iI_ix (a := 96 + j * 32 + w) (n := 3940) (by omega) (by omega)
  have n2 := iI_nat (a := 96 + j * 32 + w) (by omega)
  rw [n2] at n1
  simp -implicitDefEqProofs only [F_M_sets, B_M_sets, pBody, pL0, pEnt, List.replicate, List.cons_append, List.nil_append, narK, Option.isSome_some, eq_self, le_refl', Nat.reduceLeDiff, Nat.sub_self, sSeq, sAst, Option.bind_some, Option.map_some, List.getElem?_cons_zero, List.getElem?_cons_succ, List.length_cons, List.length_nil, Nat.reduceAdd, Nat.reduceSub, Nat.reduceLeDiff, Nat.reduceLT, if_true, if_false, lI, lJ, lR, kI, kJ, bI, bJ, uI, wJ, aN, aCI, aCJ, aCR, vC, rI, rJ, rR, rN, rZ, iZ_zI', ckV_99, ckV_cons, zM1, zM2, up1_zM, up2_zM, iI_add, iI_sub, iI_mul, cE, mI, mJ, pCb, pCj, bAnd, bOr, bNot, sRI, sRZ, sRJ, sRR, sRV, aI, gR, rf_180, ln_180, n1, n2]
theorem gM {G U : Nat → Nat → Int} {i : Int} {k : Nat} {L : pLo} (hL : L[k]? = some (some (pR 179))) {f : eI} (hf : f L (zM G U) = some (Int32.ofInt i, zM G U)) (h : 0 ≤ i ∧ i < 3940) : aI 0 (gR 12 0 1 (lR k)) f L (zM G U) = some (Int32.ofInt (G 180 i.toNat), zM G U) := by
  have n1 := iI_ix (a := i) (n := 3940) (by omega) (by omega)
  have n2 := iI_nat (a := i) (by omega)
  rw [n2] at n1
  simp only [aI, gR, lR, hL, Option.bind_some, Option.map_some, List.getElem?_cons_zero, List.getElem?_cons_succ, List.length_cons, List.length_nil, Nat.reduceAdd, Nat.reduceSub, Nat.reduceLeDiff, Nat.reduceLT, if_true, if_false, lI, lJ, lR, kI, kJ, bI, bJ, uI, wJ, aN, aCI, aCJ, aCR, vC, rI, rJ, rR, rN, rZ, iZ_zI', ckV_99, ckV_cons, zM1, zM2, up1_zM, up2_zM, iI_add, iI_sub, iI_mul, rf_180, ln_180, hf, n1, n2]
theorem cl_179 : clsOf 179 = 12 := by decide +kernel
theorem M_isJob {G U : Nat → Nat → Int} {j : Int} (hj : -2147483648 ≤ j ∧ j < 2147483648) (hm : -2147483647 ≤ G 180 1 ∧ G 180 1 < 2147483648) : F_M_isJob [pR 179, pI (Int32.ofInt j)] (zM G U) = some (some (pI (zI (decide (0 ≤ j ∧ j ≤ G 180 1 - 1)))), zM G U) := by
  have h := M_in (σ := zM G U) (v := j) (a := 0) (b := G 180 1 - 1) (by omega) (by omega) (by omega)
  have g1 := gM (G := G) (U := U) (i := 1) (k := 0) (L := [some (pR 179), some (pI (Int32.ofInt j))]) rfl (f := kI 1) rfl (by omega)
  simp -implicitDefEqProofs only [F_M_isJob, B_M_isJob, pBody, pL0, pEnt, List.replicate, List.cons_append, List.nil_append, narK, Option.isSome_some, eq_self, le_refl', Nat.reduceLeDiff, Nat.sub_self, g1, Option.bind_some, Option.map_some, List.getElem?_cons_zero, List.getElem?_cons_succ, List.length_cons, List.length_nil, Nat.reduceAdd, Nat.reduceSub, Nat.reduceLeDiff, Nat.reduceLT, if_true, if_false, lI, lJ, lR, kI, kJ, bI, bJ, uI, wJ, aN, aCI, aCJ, aCR, vC, rI, rJ, rR, rN, rZ, iZ_zI', ckV_99, ckV_cons, zM1, zM2, up1_zM, up2_zM, iI_add, iI_sub, iI_mul, cE, mI, mJ, pCb, pCj, bAnd, bOr, bNot, sRI, sRZ, sRJ, sRR, sRV, iI_64 hj, iI_64 (a := G 180 1 - 1) (by omega), h, show (1 : Int).toNat = 1 from rfl]
theorem M_told {σ : pM} {v : Int} (hv : -2147483648 ≤ v ∧ v < 2147483648) : F_M_told [pI (Int32.ofInt v)] σ = some (some (pI (Int32.ofInt (if v < 0 then -2 else v))), σ) := by
  have h := iI_lt (a := v) (b := 0) hv (by omega)
  by_cases c : v < 0 <;> simp -implicitDefEqProofs only [F_M_told, B_M_told, pBody, pL0, pEnt, List.replicate, List.cons_append, List.nil_append, narK, Option.isSome_some, eq_self, le_refl', Nat.reduceLeDiff, Nat.sub_self, Option.bind_some, Option.map_some, List.getElem?_cons_zero, List.getElem?_cons_succ, List.length_cons, List.length_nil, Nat.reduceAdd, Nat.reduceSub, Nat.reduceLeDiff, Nat.reduceLT, if_true, if_false, lI, lJ, lR, kI, kJ, bI, bJ, uI, wJ, aN, aCI, aCJ, aCR, vC, rI, rJ, rR, rN, rZ, iZ_zI', ckV_99, ckV_cons, zM1, zM2, up1_zM, up2_zM, iI_add, iI_sub, iI_mul, cE, mI, mJ, pCb, pCj, bAnd, bOr, bNot, sRI, sRZ, sRJ, sRR, sRV, h, c, decide_true, decide_false, Bool.false_eq_true]
theorem M_isWaiting {G U : Nat → Nat → Int} {j : Int} (hj : 0 ≤ j ∧ j < 80) (hr : ∀ b, -2147483648 ≤ G 180 b ∧ G 180 b < 2147483648) : F_M_isWaiting [pR 179, pI (Int32.ofInt j)] (zM G U) = some (some (pI (zI (decide (G 180 (96 + j * 32 + 5).toNat = 0)))), zM G U) := by
  have h := M_at (G := G) (U := U) (j := j) (w := 5) (by omega)
  have h2 := iI_eq (a := G 180 (96 + j * 32 + 5).toNat) (b := 0) (hr _) (by omega)
  simp -implicitDefEqProofs only [F_M_isWaiting, B_M_isWaiting, pBody, pL0, pEnt, List.replicate, List.cons_append, List.nil_append, narK, Option.isSome_some, eq_self, le_refl', Nat.reduceLeDiff, Nat.sub_self, Option.bind_some, Option.map_some, List.getElem?_cons_zero, List.getElem?_cons_succ, List.length_cons, List.length_nil, Nat.reduceAdd, Nat.reduceSub, Nat.reduceLeDiff, Nat.reduceLT, if_true, if_false, lI, lJ, lR, kI, kJ, bI, bJ, uI, wJ, aN, aCI, aCJ, aCR, vC, rI, rJ, rR, rN, rZ, iZ_zI', ckV_99, ckV_cons, zM1, zM2, up1_zM, up2_zM, iI_add, iI_sub, iI_mul, cE, mI, mJ, pCb, pCj, bAnd, bOr, bNot, sRI, sRZ, sRJ, sRR, sRV, cl_179, or_true, h, h2]
theorem iI_div {a b : Int} (ha : 0 ≤ a ∧ a < 2147483648) (hb : 0 < b ∧ b < 2147483648) : Int32.ofInt a / Int32.ofInt b = Int32.ofInt (a / b) := by
  have h1 : 0 ≤ a / b := Int.ediv_nonneg ha.1 (by omega)
  have h2 : a / b ≤ a := Int.ediv_le_self _ ha.1
  rw [← Int32.toInt_inj, Int32.toInt_div, iI_toInt (by omega), iI_toInt (by omega), iI_toInt (by omega), Int.tdiv_eq_ediv_of_nonneg ha.1]
  exact Int.bmod_eq_of_le (by omega) (by omega)
theorem iI_mod {a b : Int} (ha : 0 ≤ a ∧ a < 2147483648) (hb : 0 < b ∧ b < 2147483648) : Int32.ofInt a % Int32.ofInt b = Int32.ofInt (a % b) := by
  have h1 : 0 ≤ a % b := Int.emod_nonneg _ (by omega)
  have h2 : a % b < b := Int.emod_lt_of_pos _ (by omega)
  rw [← Int32.toInt_inj, Int32.toInt_mod, iI_toInt (by omega), iI_toInt (by omega), iI_toInt (by omega), Int.tmod_eq_emod_of_nonneg ha.1]
theorem iI_max {a b : Int} (ha : -2147483648 ≤ a ∧ a < 2147483648) (hb : -2147483648 ≤ b ∧ b < 2147483648) : (if Int32.ofInt a < Int32.ofInt b then Int32.ofInt b else Int32.ofInt a) = Int32.ofInt (max a b) := by
  have := iI_lt ha hb
  by_cases c : a < b
  · rw [if_pos (by rw [this]; exact c), Int.max_eq_right (by omega)]
  · rw [if_neg (by rw [this]; exact c), Int.max_eq_left (by omega)]
theorem iI_min {a b : Int} (ha : -2147483648 ≤ a ∧ a < 2147483648) (hb : -2147483648 ≤ b ∧ b < 2147483648) : (if Int32.ofInt b < Int32.ofInt a then Int32.ofInt b else Int32.ofInt a) = Int32.ofInt (min a b) := by
  have := iI_lt hb ha
  by_cases c : b < a
  · rw [if_pos (by rw [this]; exact c), Int.min_eq_right (by omega)]
  · rw [if_neg (by rw [this]; exact c), Int.min_eq_left (by omega)]
/-- the reference's cell of a job -/
def mAt (g : Nat → Int) (j w : Nat) : Int := g (96 + j * 32 + w)
theorem M_atN {G U : Nat → Nat → Int} {j w : Nat} (hj : j < 80) (hw : w < 32) : F_M_at [pR 179, pI (Int32.ofInt (j : Int)), pI (Int32.ofInt (w : Int))] (zM G U) = some (some (pI (Int32.ofInt (mAt (G 180) j w))), zM G U) := M_at0 (by omega)
theorem M_atL {G U : Nat → Nat → Int} {j w a : Nat} (hj : j < 80) (hw : w + a < 32) : F_M_at [pR 179, pI (Int32.ofInt (j : Int)), pI (Int32.ofInt ((w : Int) + (a : Int)))] (zM G U) = some (some (pI (Int32.ofInt (mAt (G 180) j (w + a)))), zM G U) := by
  rw [← Int.natCast_add]
  exact M_atN hj hw
def gRange (g : Nat → Int) : Prop := ∀ b, -2147483648 ≤ g b ∧ g b < 2147483648
theorem mAt_rg {g : Nat → Int} (h : gRange g) (j w : Nat) : -2147483648 ≤ mAt g j w ∧ mAt g j w < 2147483648 := h _
def mHolds (g : Nat → Int) (j a : Nat) : Bool := decide (mAt g j 5 = 1) && decide (g 0 < mAt g j (24 + a))
theorem M_holds {G U : Nat → Nat → Int} {j a : Nat} (hj : j < 80) (ha : a < 4) (hr : gRange (G 180)) : F_M_holds [pR 179, pI (Int32.ofInt (j : Int)), pI (Int32.ofInt (a : Int))] (zM G U) = some (some (pI (zI (mHolds (G 180) j a))), zM G U) := by
  have h := M_atN (G := G) (U := U) (j := j) (w := 5) hj (by omega)
  have h2 := M_atL (G := G) (U := U) (j := j) (w := 24) (a := a) hj (by omega)
  have e1 := iI_eq (a := mAt (G 180) j 5) (b := 1) (mAt_rg hr _ _) (by omega)
  have e2 := iI_lt (a := G 180 0) (b := mAt (G 180) j (24 + a)) (hr _) (mAt_rg hr _ _)
  have g1 := gM (G := G) (U := U) (i := 0) (k := 0) (L := [some (pR 179), some (pI (Int32.ofInt (j : Int))), some (pI (Int32.ofInt (a : Int)))]) rfl (f := kI 0) rfl (by omega)
  simp only [Int.cast_ofNat_Int] at h h2
  by_cases c : mAt (G 180) j 5 = 1
  · by_cases c2 : G 180 0 < mAt (G 180) j (24 + a)
    · simp -implicitDefEqProofs only [F_M_holds, B_M_holds, pBody, pL0, pEnt, List.replicate, List.cons_append, List.nil_append, narK, Option.isSome_some, eq_self, le_refl', Nat.reduceLeDiff, Nat.sub_self, Option.bind_some, Option.map_some, List.getElem?_cons_zero, List.getElem?_cons_succ, List.length_cons, List.length_nil, Nat.reduceAdd, Nat.reduceSub, Nat.reduceLeDiff, Nat.reduceLT, if_true, if_false, lI, lJ, lR, kI, kJ, bI, bJ, uI, wJ, aN, aCI, aCJ, aCR, vC, rI, rJ, rR, rN, rZ, iZ_zI', ckV_99, ckV_cons, zM1, zM2, up1_zM, up2_zM, iI_add, iI_sub, iI_mul, cE, mI, mJ, pCb, pCj, bAnd, bOr, bNot, sRI, sRZ, sRJ, sRR, sRV, cl_179, or_true, h, h2, e1, e2, g1, c, c2, decide_true, mHolds, Bool.true_and, show (0 : Int).toNat = 0 from rfl]
    · simp -implicitDefEqProofs only [F_M_holds, B_M_holds, pBody, pL0, pEnt, List.replicate, List.cons_append, List.nil_append, narK, Option.isSome_some, eq_self, le_refl', Nat.reduceLeDiff, Nat.sub_self, Option.bind_some, Option.map_some, List.getElem?_cons_zero, List.getElem?_cons_succ, List.length_cons, List.length_nil, Nat.reduceAdd, Nat.reduceSub, Nat.reduceLeDiff, Nat.reduceLT, if_true, if_false, lI, lJ, lR, kI, kJ, bI, bJ, uI, wJ, aN, aCI, aCJ, aCR, vC, rI, rJ, rR, rN, rZ, iZ_zI', ckV_99, ckV_cons, zM1, zM2, up1_zM, up2_zM, iI_add, iI_sub, iI_mul, cE, mI, mJ, pCb, pCj, bAnd, bOr, bNot, sRI, sRZ, sRJ, sRR, sRV, cl_179, or_true, h, h2, e1, e2, g1, c, c2, decide_true, decide_false, mHolds, Bool.true_and, show (0 : Int).toNat = 0 from rfl]
  · simp -implicitDefEqProofs only [F_M_holds, B_M_holds, pBody, pL0, pEnt, List.replicate, List.cons_append, List.nil_append, narK, Option.isSome_some, eq_self, le_refl', Nat.reduceLeDiff, Nat.sub_self, Option.bind_some, Option.map_some, List.getElem?_cons_zero, List.getElem?_cons_succ, List.length_cons, List.length_nil, Nat.reduceAdd, Nat.reduceSub, Nat.reduceLeDiff, Nat.reduceLT, if_true, if_false, lI, lJ, lR, kI, kJ, bI, bJ, uI, wJ, aN, aCI, aCJ, aCR, vC, rI, rJ, rR, rN, rZ, iZ_zI', ckV_99, ckV_cons, zM1, zM2, up1_zM, up2_zM, iI_add, iI_sub, iI_mul, cE, mI, mJ, pCb, pCj, bAnd, bOr, bNot, sRI, sRZ, sRJ, sRR, sRV, cl_179, or_true, h, h2, e1, e2, g1, c, decide_false, mHolds, Bool.false_and, Bool.false_eq_true]
theorem M_knownEnd {G U : Nat → Nat → Int} {j a : Nat} (hj : j < 80) (ha : a < 4) : F_M_knownEnd [pR 179, pI (Int32.ofInt (j : Int)), pI (Int32.ofInt (a : Int))] (zM G U) = some (some (pI (Int32.ofInt (mAt (G 180) j 6 + mAt (G 180) j (16 + a)))), zM G U) := by
  have h := M_atN (G := G) (U := U) (j := j) (w := 6) hj (by omega)
  have h2 := M_atL (G := G) (U := U) (j := j) (w := 16) (a := a) hj (by omega)
  simp only [Int.cast_ofNat_Int] at h h2
  simp -implicitDefEqProofs only [F_M_knownEnd, B_M_knownEnd, pBody, pL0, pEnt, List.replicate, List.cons_append, List.nil_append, narK, Option.isSome_some, eq_self, le_refl', Nat.reduceLeDiff, Nat.sub_self, Option.bind_some, Option.map_some, List.getElem?_cons_zero, List.getElem?_cons_succ, List.length_cons, List.length_nil, Nat.reduceAdd, Nat.reduceSub, Nat.reduceLeDiff, Nat.reduceLT, if_true, if_false, lI, lJ, lR, kI, kJ, bI, bJ, uI, wJ, aN, aCI, aCJ, aCR, vC, rI, rJ, rR, rN, rZ, iZ_zI', ckV_99, ckV_cons, zM1, zM2, up1_zM, up2_zM, iI_add, iI_sub, iI_mul, cE, mI, mJ, pCb, pCj, bAnd, bOr, bNot, sRI, sRZ, sRJ, sRR, sRV, cl_179, or_true, h, h2]
theorem M_lasts {G U : Nat → Nat → Int} {j a : Nat} (hj : j < 80) (ha : a < 4) (h1 : 0 ≤ mAt (G 180) j (16 + a) ∧ mAt (G 180) j (16 + a) ≤ 1000000) (h3 : 0 ≤ mAt (G 180) j 2 ∧ mAt (G 180) j 2 ≤ 1000) : F_M_lasts [pR 179, pI (Int32.ofInt (j : Int)), pI (Int32.ofInt (a : Int))] (zM G U) = some (some (pI (Int32.ofInt (max 1 (mAt (G 180) j (16 + a) * mAt (G 180) j 2 / 100)))), zM G U) := by
  have h := M_atN (G := G) (U := U) (j := j) (w := 2) hj (by omega)
  have h2 := M_atL (G := G) (U := U) (j := j) (w := 16) (a := a) hj (by omega)
  have p0 : 0 ≤ mAt (G 180) j (16 + a) * mAt (G 180) j 2 := Int.mul_nonneg h1.1 h3.1
  have p1 : mAt (G 180) j (16 + a) * mAt (G 180) j 2 ≤ 1000000 * 1000 := Int.mul_le_mul h1.2 h3.2 h3.1 (by omega)
  have d := iI_div (a := mAt (G 180) j (16 + a) * mAt (G 180) j 2) (b := 100) (by omega) (by omega)
  have mx := iI_max (a := 1) (b := mAt (G 180) j (16 + a) * mAt (G 180) j 2 / 100) (by omega) (by omega)
  have nz : ¬ (Int32.ofInt 100 = 0) := by decide
  simp only [Int.cast_ofNat_Int] at h h2
  simp -implicitDefEqProofs only [F_M_lasts, B_M_lasts, pBody, pL0, pEnt, List.replicate, List.cons_append, List.nil_append, narK, Option.isSome_some, eq_self, le_refl', Nat.reduceLeDiff, Nat.sub_self, Option.bind_some, Option.map_some, List.getElem?_cons_zero, List.getElem?_cons_succ, List.length_cons, List.length_nil, Nat.reduceAdd, Nat.reduceSub, Nat.reduceLeDiff, Nat.reduceLT, if_true, if_false, lI, lJ, lR, kI, kJ, bI, bJ, uI, wJ, aN, aCI, aCJ, aCR, vC, rI, rJ, rR, rN, rZ, iZ_zI', ckV_99, ckV_cons, zM1, zM2, up1_zM, up2_zM, iI_add, iI_sub, iI_mul, cE, mI, mJ, pCb, pCj, bAnd, bOr, bNot, sRI, sRZ, sRJ, sRR, sRV, xMax, dI, cl_179, or_true, h, h2, nz, d, mx]
/-! masks: ints that are naturals -/
theorem iI_or {a b : Nat} (ha : a < 2 ^ 31) (hb : b < 2 ^ 31) : Int32.ofInt (a : Int) ||| Int32.ofInt (b : Int) = Int32.ofInt ((a ||| b : Nat) : Int) := by
  apply Int32.toBitVec_inj.1
  rw [Int32.toBitVec_or]
  show BitVec.ofInt 32 (a : Int) ||| BitVec.ofInt 32 (b : Int) = BitVec.ofInt 32 ((a ||| b : Nat) : Int)
  rw [BitVec.ofInt_natCast, BitVec.ofInt_natCast, BitVec.ofInt_natCast, BitVec.ofNat_or]
theorem iI_and {a b : Nat} (ha : a < 2 ^ 31) (hb : b < 2 ^ 31) : Int32.ofInt (a : Int) &&& Int32.ofInt (b : Int) = Int32.ofInt ((a &&& b : Nat) : Int) := by
  apply Int32.toBitVec_inj.1
  rw [Int32.toBitVec_and]
  show BitVec.ofInt 32 (a : Int) &&& BitVec.ofInt 32 (b : Int) = BitVec.ofInt 32 ((a &&& b : Nat) : Int)
  rw [BitVec.ofInt_natCast, BitVec.ofInt_natCast, BitVec.ofInt_natCast, BitVec.ofNat_and]
/-- a run of columns -/
def bitsN (first many : Nat) : Nat := (2 ^ many - 1) * 2 ^ first
theorem bits_fact : ∀ f : Fin 17, ∀ m : Fin 17, ((Int32.ofInt 1 <<< (Int32.ofInt (m.1 : Int) &&& 31)) - Int32.ofInt 1) <<< (Int32.ofInt (f.1 : Int) &&& 31) = Int32.ofInt ((bitsN f.1 m.1 : Nat) : Int) := by decide +kernel
theorem M_bits {σ : pM} {f m : Nat} (hf : f ≤ 16) (hm : m ≤ 16) : F_M_bits [pI (Int32.ofInt (f : Int)), pI (Int32.ofInt (m : Int))] σ = some (some (pI (Int32.ofInt ((bitsN f m : Nat) : Int))), σ) := by
  have h := bits_fact ⟨f, by omega⟩ ⟨m, by omega⟩
  simp -implicitDefEqProofs only [F_M_bits, B_M_bits, pBody, pL0, pEnt, List.replicate, List.cons_append, List.nil_append, narK, Option.isSome_some, eq_self, le_refl', Nat.reduceLeDiff, Nat.sub_self, cE, mI, mJ, pCb, pCj, bAnd, bOr, bNot, sRI, sRZ, sRJ, sRR, sRV, Option.bind_some, List.getElem?_cons_zero, List.getElem?_cons_succ, List.length_cons, List.length_nil, Nat.reduceAdd, Nat.reduceSub, Nat.reduceLeDiff, if_true, lI, kI, bI, h]
theorem bitsN_lt {f m : Nat} (h : f + m ≤ 16) : bitsN f m < 65536 := by
  have h1 : bitsN f m < 2 ^ m * 2 ^ f := by
    have : 0 < 2 ^ m := Nat.pow_pos (by omega)
    exact Nat.mul_lt_mul_of_pos_right (by omega) (Nat.pow_pos (by omega))
  rw [← Nat.pow_add] at h1
  exact Nat.lt_of_lt_of_le h1 (Nat.pow_le_pow_right (by omega) (show m + f ≤ 16 by omega))
theorem bitsN_test (f m c : Nat) : (bitsN f m).testBit c = (decide (f ≤ c) && decide (c < f + m)) := by
  unfold bitsN
  rw [← Nat.shiftLeft_eq, Nat.testBit_shiftLeft, Nat.testBit_two_pow_sub_one]
  by_cases h : f ≤ c
  · by_cases h2 : c < f + m
    · simp [h, h2]; omega
    · simp [h, h2]; omega
  · simp [h]
theorem or_lt {a b : Nat} (ha : a < 65536) (hb : b < 65536) : a ||| b < 65536 := Nat.or_lt_two_pow (n := 16) ha hb
