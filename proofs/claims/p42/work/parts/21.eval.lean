/-! ===== evaluation, led by the text ===== -/
abbrev rg (z : Int) : Prop := -2147483648 ≤ z ∧ z < 2147483648
section EVS
variable {L : pLo} {σ τ : pM} {x y z : Int} {p q : Bool}
theorem eK : kI z L σ = some (Int32.ofInt z, σ) := rfl
theorem eKJ : kJ z L σ = some (Int64.ofInt z, σ) := rfl
theorem eL {k : Nat} (h : L[k]? = some (some (pI (Int32.ofInt z)))) : lI k L σ = some (Int32.ofInt z, σ) := by simp [lI, h]
theorem eLJ {k : Nat} (h : L[k]? = some (some (pJ (Int64.ofInt z)))) : lJ k L σ = some (Int64.ofInt z, σ) := by simp [lJ, h]
theorem eLR {k o : Nat} (h : L[k]? = some (some (pR o))) : lR k L σ = some (o, σ) := by simp [lR, h]
theorem eLZ {k : Nat} (h : L[k]? = some (some (pI (zI p)))) : lZ k L σ = some (p, σ) := by simp [lZ, h, zI_iZ]
theorem eAdd {a b : eI} (ha : a L σ = some (Int32.ofInt x, σ)) (hb : b L σ = some (Int32.ofInt y, σ)) : bI (fun x y => x + y) a b L σ = some (Int32.ofInt (x + y), σ) := by
  simp only [bI, ha, hb, Option.bind_some, iI_add]
theorem eSub {a b : eI} (ha : a L σ = some (Int32.ofInt x, σ)) (hb : b L σ = some (Int32.ofInt y, σ)) : bI (fun x y => x - y) a b L σ = some (Int32.ofInt (x - y), σ) := by
  simp only [bI, ha, hb, Option.bind_some, iI_sub]
theorem eMul {a b : eI} (ha : a L σ = some (Int32.ofInt x, σ)) (hb : b L σ = some (Int32.ofInt y, σ)) : bI (fun x y => x * y) a b L σ = some (Int32.ofInt (x * y), σ) := by
  simp only [bI, ha, hb, Option.bind_some, iI_mul]
theorem eOr {a b : eI} {m n : Nat} (ha : a L σ = some (Int32.ofInt (m : Int), σ)) (hb : b L σ = some (Int32.ofInt (n : Int), σ)) (hm : m < 2 ^ 31) (hn : n < 2 ^ 31) : bI (fun x y => x ||| y) a b L σ = some (Int32.ofInt ((m ||| n : Nat) : Int), σ) := by
  simp only [bI, ha, hb, Option.bind_some, iI_or hm hn]
theorem eDiv {a b : eI} (ha : a L σ = some (Int32.ofInt x, σ)) (hb : b L σ = some (Int32.ofInt y, σ)) (hx : 0 ≤ x ∧ x < 2147483648) (hy : 0 < y ∧ y < 2147483648) : dI (fun x y => x / y) a b L σ = some (Int32.ofInt (x / y), σ) := by
  have : ¬ (Int32.ofInt y = 0) := by
    have := iI_eq (a := y) (b := 0) (by omega) (by omega)
    intro h
    have h2 : y = 0 := by rw [← this]; exact h
    omega
  simp only [dI, ha, hb, Option.bind_some, this, if_false, iI_div hx hy]
theorem eMod {a b : eI} (ha : a L σ = some (Int32.ofInt x, σ)) (hb : b L σ = some (Int32.ofInt y, σ)) (hx : 0 ≤ x ∧ x < 2147483648) (hy : 0 < y ∧ y < 2147483648) : dI (fun x y => x % y) a b L σ = some (Int32.ofInt (x % y), σ) := by
  have : ¬ (Int32.ofInt y = 0) := by
    have := iI_eq (a := y) (b := 0) (by omega) (by omega)
    intro h
    have h2 : y = 0 := by rw [← this]; exact h
    omega
  simp only [dI, ha, hb, Option.bind_some, this, if_false, iI_mod hx hy]
theorem eWJ {a : eI} (ha : a L σ = some (Int32.ofInt x, σ)) (hx : rg x) : wJ a L σ = some (Int64.ofInt x, σ) := by
  simp only [wJ, ha, Option.bind_some, iI_64 hx]
theorem eMax {a b : eI} (ha : a L σ = some (Int32.ofInt x, σ)) (hb : b L σ = some (Int32.ofInt y, σ)) (hx : rg x) (hy : rg y) : xMax a b L σ = some (Int32.ofInt (max x y), σ) := by
  simp only [xMax, bI, ha, hb, Option.bind_some, iI_max hx hy]
theorem eMin {a b : eI} (ha : a L σ = some (Int32.ofInt x, σ)) (hb : b L σ = some (Int32.ofInt y, σ)) (hx : rg x) (hy : rg y) : xMin a b L σ = some (Int32.ofInt (min x y), σ) := by
  simp only [xMin, bI, ha, hb, Option.bind_some, iI_min hx hy]
theorem eLt {a b : eI} (ha : a L σ = some (Int32.ofInt x, σ)) (hb : b L σ = some (Int32.ofInt y, σ)) (hx : rg x) (hy : rg y) : mI .lt a b L σ = some (decide (x < y), σ) := by
  simp only [mI, ha, hb, Option.bind_some, pCb, iI_lt hx hy]
theorem eGt {a b : eI} (ha : a L σ = some (Int32.ofInt x, σ)) (hb : b L σ = some (Int32.ofInt y, σ)) (hx : rg x) (hy : rg y) : mI .gt a b L σ = some (decide (y < x), σ) := by
  simp only [mI, ha, hb, Option.bind_some, pCb, iI_lt hy hx]
theorem eLe {a b : eI} (ha : a L σ = some (Int32.ofInt x, σ)) (hb : b L σ = some (Int32.ofInt y, σ)) (hx : rg x) (hy : rg y) : mI .le a b L σ = some (decide (x ≤ y), σ) := by
  simp only [mI, ha, hb, Option.bind_some, pCb, iI_le hx hy]
theorem eGe {a b : eI} (ha : a L σ = some (Int32.ofInt x, σ)) (hb : b L σ = some (Int32.ofInt y, σ)) (hx : rg x) (hy : rg y) : mI .ge a b L σ = some (decide (y ≤ x), σ) := by
  simp only [mI, ha, hb, Option.bind_some, pCb, iI_le hy hx]
theorem eEq {a b : eI} (ha : a L σ = some (Int32.ofInt x, σ)) (hb : b L σ = some (Int32.ofInt y, σ)) (hx : rg x) (hy : rg y) : mI .eq a b L σ = some (decide (x = y), σ) := by
  simp only [mI, ha, hb, Option.bind_some, pCb, iI_eq hx hy]
theorem eNe {a b : eI} (ha : a L σ = some (Int32.ofInt x, σ)) (hb : b L σ = some (Int32.ofInt y, σ)) (hx : rg x) (hy : rg y) : mI .ne a b L σ = some (!decide (x = y), σ) := by
  simp only [mI, ha, hb, Option.bind_some, pCb, iI_eq hx hy]
abbrev rgJ (z : Int) : Prop := -9223372036854775808 ≤ z ∧ z < 9223372036854775808
theorem eJLt {a b : eJ} (ha : a L σ = some (Int64.ofInt x, σ)) (hb : b L σ = some (Int64.ofInt y, σ)) (hx : rgJ x) (hy : rgJ y) : mJ .lt a b L σ = some (decide (x < y), σ) := by
  simp only [mJ, ha, hb, Option.bind_some, pCj, iL_lt hx hy]
theorem eJGt {a b : eJ} (ha : a L σ = some (Int64.ofInt x, σ)) (hb : b L σ = some (Int64.ofInt y, σ)) (hx : rgJ x) (hy : rgJ y) : mJ .gt a b L σ = some (decide (y < x), σ) := by
  simp only [mJ, ha, hb, Option.bind_some, pCj, iL_lt hy hx]
theorem eJLe {a b : eJ} (ha : a L σ = some (Int64.ofInt x, σ)) (hb : b L σ = some (Int64.ofInt y, σ)) (hx : rgJ x) (hy : rgJ y) : mJ .le a b L σ = some (decide (x ≤ y), σ) := by
  simp only [mJ, ha, hb, Option.bind_some, pCj, iL_le hx hy]
theorem eJGe {a b : eJ} (ha : a L σ = some (Int64.ofInt x, σ)) (hb : b L σ = some (Int64.ofInt y, σ)) (hx : rgJ x) (hy : rgJ y) : mJ .ge a b L σ = some (decide (y ≤ x), σ) := by
  simp only [mJ, ha, hb, Option.bind_some, pCj, iL_le hy hx]
theorem eAnd {a b : eB} (ha : a L σ = some (p, σ)) (hb : p = true → b L σ = some (q, σ)) : bAnd a b L σ = some (p && q, σ) := by
  cases p with
  | false => simp [bAnd, ha]
  | true => simp [bAnd, ha, hb rfl]
theorem eOrB {a b : eB} (ha : a L σ = some (p, σ)) (hb : p = false → b L σ = some (q, σ)) : bOr a b L σ = some (p || q, σ) := by
  cases p with
  | true => simp [bOr, ha]
  | false => simp [bOr, ha, hb rfl]
theorem eNot {a : eB} (ha : a L σ = some (p, σ)) : bNot a L σ = some (!p, σ) := by simp [bNot, ha]
theorem eIte {α : Type} {c : eB} {a b : pLo → pM → Option (α × pM)} {u v : α} (hc : c L σ = some (p, σ)) (ha : p = true → a L σ = some (u, σ)) (hb : p = false → b L σ = some (v, σ)) : cE c a b L σ = some (if p = true then u else v, σ) := by
  cases p with
  | true => simp [cE, hc, ha rfl]
  | false => simp [cE, hc, hb rfl]
theorem eArr {a : eR} {i : eI} {G U : Nat → Nat → Int} {o n : Nat} (ha : a L (zM G U) = some (o, zM G U)) (hi : i L (zM G U) = some (Int32.ofInt x, zM G U)) (hn : lenOf 0 o = n) (hx : 0 ≤ x ∧ x < n) (h9 : n ≤ 100000) : aI 0 a i L (zM G U) = some (Int32.ofInt (G o x.toNat), zM G U) := by
  have n1 := iI_ix (a := x) (n := n) (by omega) h9
  have n2 := iI_nat (a := x) (by omega)
  rw [n2] at n1
  simp only [aI, ha, hi, Option.bind_some, hn, n1, n2, if_false, zM1]
theorem eFldR {a : eR} {ci j d o : Nat} (ha : a L σ = some (o, σ)) (h : okR ci j o (o + d) = true) : gR ci j d a L σ = some (o + d, σ) := by
  simp only [gR, ha, Option.bind_some, h, if_true]
theorem eFld {a : eR} {ci j o : Nat} {G U : Nat → Nat → Int} (ha : a L (zM G U) = some (o, zM G U)) (h : okI ci j o = true) : gI ci j a L (zM G U) = some (Int32.ofInt (G o j), zM G U) := by
  simp only [gI, ha, Option.bind_some, h, if_true, zM1]
theorem eAN : aN L σ = some ([], σ) := rfl
theorem eAI {e : eI} {r : eA} {As : List pV} (he : e L σ = some (Int32.ofInt x, σ)) (hr : r L σ = some (As, σ)) : aCI e r L σ = some (pI (Int32.ofInt x) :: As, σ) := by simp only [aCI, he, hr, Option.bind_some]
theorem eAJ {e : eJ} {r : eA} {As : List pV} (he : e L σ = some (Int64.ofInt x, σ)) (hr : r L σ = some (As, σ)) : aCJ e r L σ = some (pJ (Int64.ofInt x) :: As, σ) := by simp only [aCJ, he, hr, Option.bind_some]
theorem eAR {e : eR} {r : eA} {As : List pV} {o : Nat} (he : e L σ = some (o, σ)) (hr : r L σ = some (As, σ)) : aCR e r L σ = some (pR o :: As, σ) := by simp only [aCR, he, hr, Option.bind_some]
theorem eAZ {e : eB} {r : eA} {As : List pV} (he : e L σ = some (p, σ)) (hr : r L σ = some (As, σ)) : aCZ e r L σ = some (pI (zI p) :: As, σ) := by simp only [aCZ, he, hr, Option.bind_some]
theorem eCI {ci : Nat} {F : pF} {r : eA} {As : List pV} (ha : r L σ = some (As, σ)) (hc : ckV ci As = true) (hF : F As σ = some (some (pI (Int32.ofInt x)), σ)) : vC ci F rI r L σ = some (Int32.ofInt x, σ) := by
  simp only [vC, ha, Option.bind_some, hc, if_true, hF, rI, Option.map_some]
theorem eCZ {ci : Nat} {F : pF} {r : eA} {As : List pV} (ha : r L σ = some (As, σ)) (hc : ckV ci As = true) (hF : F As σ = some (some (pI (zI p)), σ)) : vC ci F rZ r L σ = some (p, σ) := by
  simp only [vC, ha, Option.bind_some, hc, if_true, hF, rZ, zI_iZ, Option.map_some]
theorem eRI {n : Nat} {e : eI} {As : List pV} (hn : (pEnt As).length ≤ n) (h : e (pL0 As n) σ = some (Int32.ofInt x, σ)) : pBody 1 n (sRI e) As σ = some (some (pI (Int32.ofInt x)), σ) := by
  simp only [pBody, hn, if_true, sRI, h, Option.bind_some, narK]
theorem eRZ {n : Nat} {e : eB} {As : List pV} (hn : (pEnt As).length ≤ n) (h : e (pL0 As n) σ = some (p, σ)) : pBody 2 n (sRZ e) As σ = some (some (pI (zI p)), σ) := by
  simp only [pBody, hn, if_true, sRZ, h, Option.bind_some, narK, zI_iZ, Option.isSome_some]
end EVS
theorem ckv179 {As : List pV} : ckV 12 (pR 179 :: As) = true := by simp [ckV, cl_179]
theorem ckv99 {As : List pV} : ckV 99 As = true := rfl
theorem M_heldBits {G U : Nat → Nat → Int} {j a f m : Nat} (hj : j < 80) (ha : a < 4) (hf : mAt (G 180) j (20 + a) = f) (hm : mAt (G 180) j (12 + a) = m) (h1 : f ≤ 16) (h2 : m ≤ 16) : F_M_heldBits [pR 179, pI (Int32.ofInt (j : Int)), pI (Int32.ofInt (a : Int))] (zM G U) = some (some (pI (Int32.ofInt ((bitsN f m : Nat) : Int))), zM G U) := by
  have e1 := M_atL (G := G) (U := U) (j := j) (w := 20) (a := a) hj (by omega)
  have e2 := M_atL (G := G) (U := U) (j := j) (w := 12) (a := a) hj (by omega)
  rw [hf] at e1
  rw [hm] at e2
  simp only [Int.cast_ofNat_Int] at e1 e2
  refine eRI (Nat.le_of_ble_eq_true rfl) ?_
  repeat' first | with_reducible exact eK | with_reducible exact eKJ | ((with_reducible apply eL); rfl) | ((with_reducible apply eLJ); rfl) | ((with_reducible apply eLR); rfl) | ((with_reducible apply eLZ); rfl) | with_reducible exact eAN | with_reducible apply eAdd | with_reducible apply eSub | with_reducible apply eMul | with_reducible apply eOr | with_reducible apply eDiv | with_reducible apply eMod | with_reducible apply eWJ | with_reducible apply eMax | with_reducible apply eMin | with_reducible apply eLt | with_reducible apply eGt | with_reducible apply eLe | with_reducible apply eGe | with_reducible apply eEq | with_reducible apply eNe | with_reducible apply eJLt | with_reducible apply eJGt | with_reducible apply eJLe | with_reducible apply eJGe | with_reducible apply eJAdd | with_reducible apply eJMul | with_reducible apply eAnd | with_reducible apply eOrB | with_reducible apply eNot | with_reducible apply eIte | with_reducible apply eArr | with_reducible apply eFldR | with_reducible apply eFld | with_reducible apply eAI | with_reducible apply eAJ | with_reducible apply eAR | with_reducible apply eAZ | with_reducible apply eCI | with_reducible apply eCZ | with_reducible exact ckv179 | with_reducible exact ckv99 | with_reducible exact rf_180 | with_reducible exact ln_180 | intro _ | with_reducible exact e1 | with_reducible exact e2 | with_reducible exact M_bits h1 h2 | omega | decide +kernel
theorem M_promisedBits {G U : Nat → Nat → Int} {j a f m : Nat} (hj : j < 80) (ha : a < 4) (hf : mAt (G 180) j (28 + a) = f) (hm : mAt (G 180) j (12 + a) = m) (h1 : f ≤ 16) (h2 : m ≤ 16) : F_M_promisedBits [pR 179, pI (Int32.ofInt (j : Int)), pI (Int32.ofInt (a : Int))] (zM G U) = some (some (pI (Int32.ofInt ((bitsN f m : Nat) : Int))), zM G U) := by
  have e1 := M_atL (G := G) (U := U) (j := j) (w := 28) (a := a) hj (by omega)
  have e2 := M_atL (G := G) (U := U) (j := j) (w := 12) (a := a) hj (by omega)
  rw [hf] at e1
  rw [hm] at e2
  simp only [Int.cast_ofNat_Int] at e1 e2
  refine eRI (Nat.le_of_ble_eq_true rfl) ?_
  repeat' first | with_reducible exact eK | with_reducible exact eKJ | ((with_reducible apply eL); rfl) | ((with_reducible apply eLJ); rfl) | ((with_reducible apply eLR); rfl) | ((with_reducible apply eLZ); rfl) | with_reducible exact eAN | with_reducible apply eAdd | with_reducible apply eSub | with_reducible apply eMul | with_reducible apply eOr | with_reducible apply eDiv | with_reducible apply eMod | with_reducible apply eWJ | with_reducible apply eMax | with_reducible apply eMin | with_reducible apply eLt | with_reducible apply eGt | with_reducible apply eLe | with_reducible apply eGe | with_reducible apply eEq | with_reducible apply eNe | with_reducible apply eJLt | with_reducible apply eJGt | with_reducible apply eJLe | with_reducible apply eJGe | with_reducible apply eJAdd | with_reducible apply eJMul | with_reducible apply eAnd | with_reducible apply eOrB | with_reducible apply eNot | with_reducible apply eIte | with_reducible apply eArr | with_reducible apply eFldR | with_reducible apply eFld | with_reducible apply eAI | with_reducible apply eAJ | with_reducible apply eAR | with_reducible apply eAZ | with_reducible apply eCI | with_reducible apply eCZ | with_reducible exact ckv179 | with_reducible exact ckv99 | with_reducible exact rf_180 | with_reducible exact ln_180 | intro _ | with_reducible exact e1 | with_reducible exact e2 | with_reducible exact M_bits h1 h2 | omega | decide +kernel
def mSpan (g : Nat → Int) (s w : Nat) : Int := g (24 + s * 6 + w)
theorem M_spanAt {G U : Nat → Nat → Int} {s w : Nat} (hs : s < 12) (hw : w < 6) : F_M_spanAt [pR 179, pI (Int32.ofInt (s : Int)), pI (Int32.ofInt (w : Int))] (zM G U) = some (some (pI (Int32.ofInt (mSpan (G 180) s w))), zM G U) := by
  rw [mSpan, ← show ((24 : Int) + s * 6 + w).toNat = 24 + s * 6 + w by omega]
  refine eRI (Nat.le_of_ble_eq_true rfl) ?_
  repeat' first | with_reducible exact eK | with_reducible exact eKJ | ((with_reducible apply eL); rfl) | ((with_reducible apply eLJ); rfl) | ((with_reducible apply eLR); rfl) | ((with_reducible apply eLZ); rfl) | with_reducible exact eAN | with_reducible apply eAdd | with_reducible apply eSub | with_reducible apply eMul | with_reducible apply eOr | with_reducible apply eDiv | with_reducible apply eMod | with_reducible apply eWJ | with_reducible apply eMax | with_reducible apply eMin | with_reducible apply eLt | with_reducible apply eGt | with_reducible apply eLe | with_reducible apply eGe | with_reducible apply eEq | with_reducible apply eNe | with_reducible apply eJLt | with_reducible apply eJGt | with_reducible apply eJLe | with_reducible apply eJGe | with_reducible apply eJAdd | with_reducible apply eJMul | with_reducible apply eAnd | with_reducible apply eOrB | with_reducible apply eNot | with_reducible apply eIte | with_reducible apply eArr | with_reducible apply eFldR | with_reducible apply eFld | with_reducible apply eAI | with_reducible apply eAJ | with_reducible apply eAR | with_reducible apply eAZ | with_reducible apply eCI | with_reducible apply eCZ | with_reducible exact ckv179 | with_reducible exact ckv99 | with_reducible exact rf_180 | with_reducible exact ln_180 | intro _ | omega | decide +kernel
theorem M_isSpan {G U : Nat → Nat → Int} {s : Nat} (hs : s < 12) (hr : gRange (G 180)) : F_M_isSpan [pR 179, pI (Int32.ofInt (s : Int))] (zM G U) = some (some (pI (zI (decide (0 ≤ mSpan (G 180) s 0)))), zM G U) := by
  have r0 : rg (mSpan (G 180) s 0) := hr _
  have e1 := M_spanAt (G := G) (U := U) (s := s) (w := 0) hs (by omega)
  simp only [Int.cast_ofNat_Int] at e1
  refine eRZ (Nat.le_of_ble_eq_true rfl) ?_
  repeat' first | with_reducible exact eK | with_reducible exact eKJ | ((with_reducible apply eL); rfl) | ((with_reducible apply eLJ); rfl) | ((with_reducible apply eLR); rfl) | ((with_reducible apply eLZ); rfl) | with_reducible exact eAN | with_reducible apply eAdd | with_reducible apply eSub | with_reducible apply eMul | with_reducible apply eOr | with_reducible apply eDiv | with_reducible apply eMod | with_reducible apply eWJ | with_reducible apply eMax | with_reducible apply eMin | with_reducible apply eLt | with_reducible apply eGt | with_reducible apply eLe | with_reducible apply eGe | with_reducible apply eEq | with_reducible apply eNe | with_reducible apply eJLt | with_reducible apply eJGt | with_reducible apply eJLe | with_reducible apply eJGe | with_reducible apply eJAdd | with_reducible apply eJMul | with_reducible apply eAnd | with_reducible apply eOrB | with_reducible apply eNot | with_reducible apply eIte | with_reducible apply eArr | with_reducible apply eFldR | with_reducible apply eFld | with_reducible apply eAI | with_reducible apply eAJ | with_reducible apply eAR | with_reducible apply eAZ | with_reducible apply eCI | with_reducible apply eCZ | with_reducible exact ckv179 | with_reducible exact ckv99 | with_reducible exact rf_180 | with_reducible exact ln_180 | intro _ | with_reducible exact e1 | with_reducible exact r0 | omega | decide +kernel
theorem eJMul {L : pLo} {σ : pM} {x y : Int} {a b : eJ} (ha : a L σ = some (Int64.ofInt x, σ)) (hb : b L σ = some (Int64.ofInt y, σ)) : bJ (fun x y => x * y) a b L σ = some (Int64.ofInt (x * y), σ) := by
  simp only [bJ, ha, hb, Option.bind_some, ← Int64.ofInt_mul]
theorem eJAdd {L : pLo} {σ : pM} {x y : Int} {a b : eJ} (ha : a L σ = some (Int64.ofInt x, σ)) (hb : b L σ = some (Int64.ofInt y, σ)) : bJ (fun x y => x + y) a b L σ = some (Int64.ofInt (x + y), σ) := by
  simp only [bJ, ha, hb, Option.bind_some, ← Int64.ofInt_add]
/-! statements -/
section EST
variable {L : pLo} {σ τ : pM} {x y z : Int} {p q : Bool}
theorem sI_n {k : Nat} {e : eI} (he : e L σ = some (Int32.ofInt x, τ)) (hk : k < L.length) : sI k e L σ = some (.inl (pSet1 L k (pI (Int32.ofInt x)), τ)) := by
  simp only [sI, hk, if_true, he, Option.bind_some]
theorem sZ_n {k : Nat} {e : eB} (he : e L σ = some (p, τ)) (hk : k < L.length) : sZ k e L σ = some (.inl (pSet1 L k (pI (zI p)), τ)) := by
  simp only [sZ, hk, if_true, he, Option.bind_some]
theorem sInc_n {k : Nat} {d : Int} (h : L[k]? = some (some (pI (Int32.ofInt z)))) : sInc k d L σ = some (.inl (pSet1 L k (pI (Int32.ofInt (z + d))), σ)) := by
  simp only [sInc, h, iI_add]
theorem sKil_n {ks : List Nat} : sKil ks L σ = some (.inl (ks.foldl kil L, σ)) := rfl
theorem sSkip_n : sSkip L σ = some (.inl (L, σ)) := rfl
theorem sRI_n {e : eI} (he : e L σ = some (Int32.ofInt x, τ)) : sRI e L σ = some (.inr (.inr (.inr (some (pI (Int32.ofInt x)), τ)))) := by
  simp only [sRI, he, Option.bind_some]
theorem sRZ_n {e : eB} (he : e L σ = some (p, τ)) : sRZ e L σ = some (.inr (.inr (.inr (some (pI (zI p)), τ)))) := by
  simp only [sRZ, he, Option.bind_some]
theorem sIf_n {c : eB} {s1 s2 : sC} (hc : c L σ = some (p, τ)) : sIf c s1 s2 L σ = if p = true then s1 L τ else s2 L τ := by
  simp only [sIf, hc, Option.bind_some]
theorem sIf_t {c : eB} {s1 s2 : sC} {o : Option pO} (hc : c L σ = some (p, τ)) (h1 : p = true → s1 L τ = o) (h2 : p = false → s2 L τ = o) : sIf c s1 s2 L σ = o := by
  rw [sIf_n hc]
  cases p with
  | true => exact h1 rfl
  | false => exact h2 rfl
/-- an if that sets a local or leaves it -/
theorem sIf_set {c : eB} {k : Nat} {e : eI} (hc : c L σ = some (p, σ)) (he : p = true → e L σ = some (Int32.ofInt x, σ)) (hk : k < L.length) (hy : pSet1 L k (pI (Int32.ofInt y)) = L) : sIf c (sI k e) sSkip L σ = some (.inl (pSet1 L k (pI (Int32.ofInt (if p = true then x else y))), σ)) := by
  rw [sIf_n hc]
  cases p with
  | true => simpa using sI_n (he rfl) hk
  | false => simp only [Bool.false_eq_true, if_false, hy, sSkip]
theorem sStep_n {b u : sC} {L1 : pLo} {r : pLo × pM} (h1 : b L σ = some (.inl (L1, τ))) (h2 : u L1 τ = some (.inl r)) : sStep b u L σ = some r := by
  simp only [sStep, h1, h2, Option.bind_some]
theorem sStep_e {b u : sC} {L1 : pLo} {r r' : pLo × pM} (h1 : b L σ = some (.inl (L1, τ))) (h2 : u L1 τ = some (.inl r')) (h3 : r' = r) : sStep b u L σ = some r := h3 ▸ sStep_n h1 h2
theorem sStep_c {b u : sC} {L1 : pLo} {r : pLo × pM} (h1 : b L σ = some (.inr (.inr (.inl (L1, τ))))) (h2 : u L1 τ = some (.inl r)) : sStep b u L σ = some r := by
  simp only [sStep, h1, h2, Option.bind_some]
/-- a body that returns -/
theorem eRet {rk n : Nat} {body : sC} {As : List pV} {r : Option pV × pM} (hn : (pEnt As).length ≤ n) (h : body (pL0 As n) σ = some (.inr (.inr (.inr r)))) (hr : narK rk r.1 = true) : pBody rk n body As σ = some r := by
  simp only [pBody, hn, if_true, h, hr]
end EST
/-- a fold over 0 .. n - 1 -/
def orTo (f : Nat → Nat) : Nat → Nat
  | 0 => 0
  | n + 1 => orTo f n ||| f n
theorem orTo_lt {f : Nat → Nat} : ∀ {n : Nat}, (∀ i, i < n → f i < 65536) → orTo f n < 65536
  | 0, _ => by simp [orTo]
  | n + 1, h => or_lt (orTo_lt fun i hi => h i (by omega)) (h n (by omega))
theorem orTo_test {f : Nat → Nat} {c : Nat} : ∀ {n : Nat}, (orTo f n).testBit c = true ↔ ∃ i, i < n ∧ (f i).testBit c = true
  | 0 => by simp [orTo]
  | n + 1 => by
    rw [orTo, Nat.testBit_or, Bool.or_eq_true, orTo_test]
    constructor
    · rintro (⟨i, h1, h2⟩ | h)
      · exact ⟨i, by omega, h2⟩
      · exact ⟨n, by omega, h⟩
    · rintro ⟨i, h1, h2⟩
      by_cases e : i = n
      · subst e; exact Or.inr h2
      · exact Or.inl ⟨i, by omega, h2⟩
