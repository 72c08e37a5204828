/-! ===== meanings: expressions, conditions, statements as partial functions of locals and memory ===== -/
abbrev eI : Type := pLo → pM → Option (Int32 × pM)
abbrev eJ : Type := pLo → pM → Option (Int64 × pM)
abbrev eR : Type := pLo → pM → Option (Nat × pM)
abbrev eB : Type := pLo → pM → Option (Bool × pM)
abbrev eA : Type := pLo → pM → Option (List pV × pM)
abbrev pF : Type := List pV → pM → Option (Option pV × pM)
/-- how a statement ends: normally, by break, by continue, by return -/
abbrev pO : Type := (pLo × pM) ⊕ ((pLo × pM) ⊕ ((pLo × pM) ⊕ (Option pV × pM)))
abbrev sC : Type := pLo → pM → Option pO
abbrev oN (L : pLo) (σ : pM) : pO := .inl (L, σ)
abbrev oB (L : pLo) (σ : pM) : pO := .inr (.inl (L, σ))
abbrev oC (L : pLo) (σ : pM) : pO := .inr (.inr (.inl (L, σ)))
abbrev oR (r : Option pV) (σ : pM) : pO := .inr (.inr (.inr (r, σ)))
def zI (b : Bool) : Int32 := if b then 1 else 0
def iZ (x : Int32) : Option Bool := if x = 0 then some false else if x = 1 then some true else none
theorem iZ_zI {x : Int32} {b : Bool} (h : iZ x = some b) : x = zI b := by
  unfold iZ at h
  split at h
  · cases h; assumption
  · split at h
    · cases h; assumption
    · cases h
theorem zI_iZ (b : Bool) : iZ (zI b) = some b := by cases b <;> decide
def kI (z : Int) : eI := fun _ σ => some (Int32.ofInt z, σ)
def kJ (z : Int) : eJ := fun _ σ => some (Int64.ofInt z, σ)
def lI (k : Nat) : eI := fun L σ => match L[k]? with
  | some (some (.inl x)) => some (x, σ)
  | _ => none
def lJ (k : Nat) : eJ := fun L σ => match L[k]? with
  | some (some (.inr (.inl x))) => some (x, σ)
  | _ => none
def lR (k : Nat) : eR := fun L σ => match L[k]? with
  | some (some (.inr (.inr x))) => some (x, σ)
  | _ => none
def lZ (k : Nat) : eB := fun L σ => match L[k]? with
  | some (some (.inl x)) => (iZ x).map fun b => (b, σ)
  | _ => none
def bI (f : Int32 → Int32 → Int32) (a b : eI) : eI := fun L σ => (a L σ).bind fun p => (b L p.2).bind fun q => some (f p.1 q.1, q.2)
def dI (f : Int32 → Int32 → Int32) (a b : eI) : eI := fun L σ => (a L σ).bind fun p => (b L p.2).bind fun q => if q.1 = 0 then none else some (f p.1 q.1, q.2)
def uI (f : Int32 → Int32) (a : eI) : eI := fun L σ => (a L σ).bind fun p => some (f p.1, p.2)
def bJ (f : Int64 → Int64 → Int64) (a b : eJ) : eJ := fun L σ => (a L σ).bind fun p => (b L p.2).bind fun q => some (f p.1 q.1, q.2)
def dJ (f : Int64 → Int64 → Int64) (a b : eJ) : eJ := fun L σ => (a L σ).bind fun p => (b L p.2).bind fun q => if q.1 = 0 then none else some (f p.1 q.1, q.2)
def wJ (a : eI) : eJ := fun L σ => (a L σ).bind fun p => some (p.1.toInt64, p.2)
def nJ (a : eJ) : eI := fun L σ => (a L σ).bind fun p => some (p.1.toInt32, p.2)
def gI (ci j : Nat) (e : eR) : eI := fun L σ => (e L σ).bind fun p => if okI ci j p.1 = true then some (p.2.1 p.1 j, p.2) else none
def gZ (ci j : Nat) (e : eR) : eB := fun L σ => (e L σ).bind fun p => if okI ci j p.1 = true then (iZ (p.2.1 p.1 j)).map fun b => (b, p.2) else none
def gR (ci j d : Nat) (e : eR) : eR := fun L σ => (e L σ).bind fun p => if okR ci j p.1 (p.1 + d) = true then some (p.1 + d, p.2) else none
def aI (t : Nat) (a : eR) (i : eI) : eI := fun L σ => (a L σ).bind fun p => (i L p.2).bind fun q => if q.1 < 0 ∨ lenOf t p.1 ≤ q.1.toNatClampNeg then none else some (q.2.1 p.1 q.1.toNatClampNeg, q.2)
def aJ (a : eR) (i : eI) : eJ := fun L σ => (a L σ).bind fun p => (i L p.2).bind fun q => if q.1 < 0 ∨ lenOf 2 p.1 ≤ q.1.toNatClampNeg then none else some (q.2.2 p.1 q.1.toNatClampNeg, q.2)
def nA (t : Nat) (a : eR) : eI := fun L σ => (a L σ).bind fun p => if lenOf t p.1 = 0 then none else some (Int32.ofNat (lenOf t p.1), p.2)
def cE {α : Type} (c : eB) (a b : pLo → pM → Option (α × pM)) : pLo → pM → Option (α × pM) := fun L σ => (c L σ).bind fun p => if p.1 = true then a L p.2 else b L p.2
def pCb : ClassFile.Cond → Int32 → Int32 → Bool
  | .eq, x, y => decide (x = y)
  | .ne, x, y => !decide (x = y)
  | .lt, x, y => decide (x < y)
  | .ge, x, y => decide (y ≤ x)
  | .gt, x, y => decide (y < x)
  | .le, x, y => decide (x ≤ y)
def pCj : ClassFile.Cond → Int64 → Int64 → Bool
  | .eq, x, y => decide (x = y)
  | .ne, x, y => !decide (x = y)
  | .lt, x, y => decide (x < y)
  | .ge, x, y => decide (y ≤ x)
  | .gt, x, y => decide (y < x)
  | .le, x, y => decide (x ≤ y)
def pNeg : ClassFile.Cond → ClassFile.Cond
  | .eq => .ne | .ne => .eq | .lt => .ge | .ge => .lt | .gt => .le | .le => .gt
def kZ (b : Bool) : eB := fun _ σ => some (b, σ)
def mI (c : ClassFile.Cond) (a b : eI) : eB := fun L σ => (a L σ).bind fun p => (b L p.2).bind fun q => some (pCb c p.1 q.1, q.2)
def mJ (c : ClassFile.Cond) (a b : eJ) : eB := fun L σ => (a L σ).bind fun p => (b L p.2).bind fun q => some (pCj c p.1 q.1, q.2)
def bAnd (a b : eB) : eB := fun L σ => (a L σ).bind fun p => if p.1 = true then b L p.2 else some (false, p.2)
def bOr (a b : eB) : eB := fun L σ => (a L σ).bind fun p => if p.1 = true then some (true, p.2) else b L p.2
def bNot (a : eB) : eB := fun L σ => (a L σ).bind fun p => some (!p.1, p.2)
def vOr (a b : eB) : eB := fun L σ => (a L σ).bind fun p => (b L p.2).bind fun q => some (p.1 || q.1, q.2)
def aN : eA := fun _ σ => some ([], σ)
def aCI (e : eI) (r : eA) : eA := fun L σ => (e L σ).bind fun p => (r L p.2).bind fun q => some (pI p.1 :: q.1, q.2)
def aCJ (e : eJ) (r : eA) : eA := fun L σ => (e L σ).bind fun p => (r L p.2).bind fun q => some (pJ p.1 :: q.1, q.2)
def aCR (e : eR) (r : eA) : eA := fun L σ => (e L σ).bind fun p => (r L p.2).bind fun q => some (pR p.1 :: q.1, q.2)
def aCZ (e : eB) (r : eA) : eA := fun L σ => (e L σ).bind fun p => (r L p.2).bind fun q => some (pI (zI p.1) :: q.1, q.2)
/-- a call: the receiver's class is looked at (99: a static method) -/
def ckV (ci : Nat) (As : List pV) : Bool := if ci = 99 then true else match As with
  | .inr (.inr o) :: _ => decide (clsOf o = ci)
  | _ => false
def vC {α : Type} (ci : Nat) (F : pF) (f : Option pV → Option α) (args : eA) : pLo → pM → Option (α × pM) := fun L σ => (args L σ).bind fun p => if ckV ci p.1 = true then (F p.1 p.2).bind fun r => (f r.1).map fun x => (x, r.2) else none
def rI : Option pV → Option Int32
  | some (.inl x) => some x
  | _ => none
def rJ : Option pV → Option Int64
  | some (.inr (.inl x)) => some x
  | _ => none
def rR : Option pV → Option Nat
  | some (.inr (.inr x)) => some x
  | _ => none
def rZ : Option pV → Option Bool
  | some (.inl x) => iZ x
  | _ => none
def rN : Option pV → Option Unit
  | none => some ()
  | _ => none
def xMax (a b : eI) : eI := bI (fun x y => if x < y then y else x) a b
def xMin (a b : eI) : eI := bI (fun x y => if y < x then y else x) a b
-- statements
def sSkip : sC := fun L σ => some (oN L σ)
def sSeq (c1 c2 : sC) : sC := fun L σ => (c1 L σ).bind fun o => match o with
  | .inl (L1, σ1) => c2 L1 σ1
  | o => some o
def sI (k : Nat) (e : eI) : sC := fun L σ => if k < L.length then (e L σ).bind fun p => some (oN (pSet1 L k (pI p.1)) p.2) else none
def sZ (k : Nat) (e : eB) : sC := fun L σ => if k < L.length then (e L σ).bind fun p => some (oN (pSet1 L k (pI (zI p.1))) p.2) else none
def sR (k : Nat) (e : eR) : sC := fun L σ => if k < L.length then (e L σ).bind fun p => some (oN (pSet1 L k (pR p.1)) p.2) else none
def sJ (k : Nat) (e : eJ) : sC := fun L σ => if k + 1 < L.length then (e L σ).bind fun p => some (oN (pSet2 L k (pJ p.1)) p.2) else none
def sInc (k : Nat) (z : Int) : sC := fun L σ => match L[k]? with
  | some (some (.inl x)) => some (oN (pSet1 L k (pI (x + Int32.ofInt z))) σ)
  | _ => none
def sIf (c : eB) (c1 c2 : sC) : sC := fun L σ => (c L σ).bind fun p => if p.1 = true then c1 L p.2 else c2 L p.2
def sIt : Nat → eB → sC → sC → sC
  | 0, _, _, _ => fun _ _ => none
  | n + 1, c, b, u => fun L σ => (c L σ).bind fun p => if p.1 = true then (b L p.2).bind fun o => (match o with
      | .inl (L1, σ1) => (u L1 σ1).bind fun o2 => (match o2 with
        | .inl (L2, σ2) => sIt n c b u L2 σ2
        | _ => none)
      | .inr (.inl (L1, σ1)) => some (oN L1 σ1)
      | .inr (.inr (.inl (L1, σ1))) => (u L1 σ1).bind fun o2 => (match o2 with
        | .inl (L2, σ2) => sIt n c b u L2 σ2
        | _ => none)
      | .inr (.inr (.inr r)) => some (.inr (.inr (.inr r)))) else some (oN L p.2)
def sWh (c : eB) (b u : sC) : sC := sIt 1000000 c b u
def sBrk : sC := fun L σ => some (oB L σ)
def sCnt : sC := fun L σ => some (oC L σ)
def sRI (e : eI) : sC := fun L σ => (e L σ).bind fun p => some (oR (some (pI p.1)) p.2)
def sRZ (e : eB) : sC := fun L σ => (e L σ).bind fun p => some (oR (some (pI (zI p.1))) p.2)
def sRJ (e : eJ) : sC := fun L σ => (e L σ).bind fun p => some (oR (some (pJ p.1)) p.2)
def sRR (e : eR) : sC := fun L σ => (e L σ).bind fun p => some (oR (some (pR p.1)) p.2)
def sRV : sC := fun _ σ => some (oR none σ)
/-- a scope's end: its locals are no longer known -/
def kil (L : pLo) (k : Nat) : pLo := L.set k none
def sKil (ks : List Nat) : sC := fun L σ => some (oN (ks.foldl kil L) σ)
def sPut (ci j : Nat) (a : eR) (e : eI) : sC := fun L σ => (a L σ).bind fun p => (e L p.2).bind fun q => if okI ci j p.1 = true then some (oN L (up1 q.2 p.1 j q.1)) else none
def sMod (ci j : Nat) (f : Int32 → Int32 → Int32) (a : eR) (e : eI) : sC := fun L σ => (a L σ).bind fun p => if okI ci j p.1 = true then (e L p.2).bind fun q => some (oN L (up1 q.2 p.1 j (f (p.2.1 p.1 j) q.1))) else none
def sAst (a : eR) (i e : eI) : sC := fun L σ => (a L σ).bind fun p => (i L p.2).bind fun q => (e L q.2).bind fun r => if q.1 < 0 ∨ lenOf 0 p.1 ≤ q.1.toNatClampNeg then none else some (oN L (up1 r.2 p.1 q.1.toNatClampNeg r.1))
def sBst (a : eR) (i e : eI) : sC := fun L σ => (a L σ).bind fun p => (i L p.2).bind fun q => (e L q.2).bind fun r => if q.1 < 0 ∨ lenOf 1 p.1 ≤ q.1.toNatClampNeg then none else some (oN L (up1 r.2 p.1 q.1.toNatClampNeg r.1.toInt8.toInt32))
def sLst (a : eR) (i : eI) (e : eJ) : sC := fun L σ => (a L σ).bind fun p => (i L p.2).bind fun q => (e L q.2).bind fun r => if q.1 < 0 ∨ lenOf 2 p.1 ≤ q.1.toNatClampNeg then none else some (oN L (up2 r.2 p.1 q.1.toNatClampNeg r.1))
def sAmd (f : Int32 → Int32 → Int32) (a : eR) (i e : eI) : sC := fun L σ => (a L σ).bind fun p => (i L p.2).bind fun q => if q.1 < 0 ∨ lenOf 0 p.1 ≤ q.1.toNatClampNeg then none else (e L q.2).bind fun r => some (oN L (up1 r.2 p.1 q.1.toNatClampNeg (f (q.2.1 p.1 q.1.toNatClampNeg) r.1)))
def sLmd (f : Int64 → Int64 → Int64) (a : eR) (i : eI) (e : eJ) : sC := fun L σ => (a L σ).bind fun p => (i L p.2).bind fun q => if q.1 < 0 ∨ lenOf 2 p.1 ≤ q.1.toNatClampNeg then none else (e L q.2).bind fun r => some (oN L (up2 r.2 p.1 q.1.toNatClampNeg (f (q.2.2 p.1 q.1.toNatClampNeg) r.1)))
def sLdv (a : eR) (i : eI) (e : eJ) : sC := fun L σ => (a L σ).bind fun p => (i L p.2).bind fun q => if q.1 < 0 ∨ lenOf 2 p.1 ≤ q.1.toNatClampNeg then none else (e L q.2).bind fun r => if r.1 = 0 then none else some (oN L (up2 r.2 p.1 q.1.toNatClampNeg (q.2.2 p.1 q.1.toNatClampNeg / r.1)))
def sVd (e : pLo → pM → Option (Unit × pM)) : sC := fun L σ => (e L σ).bind fun p => some (oN L p.2)
def sPop (e : eI) : sC := fun L σ => (e L σ).bind fun p => some (oN L p.2)
def sCpI (a : eR) (i : eI) (b : eR) (j k : eI) : sC := fun L σ => (a L σ).bind fun p => (i L p.2).bind fun q => (b L q.2).bind fun r => (j L r.2).bind fun u => (k L u.2).bind fun v =>
  if ¬ q.1 < 0 ∧ ¬ u.1 < 0 ∧ ¬ v.1 < 0 ∧ 0 < lenOf 0 p.1 ∧ 0 < lenOf 0 r.1 ∧ q.1.toNatClampNeg + v.1.toNatClampNeg ≤ lenOf 0 p.1 ∧ u.1.toNatClampNeg + v.1.toNatClampNeg ≤ lenOf 0 r.1 then some (oN L (cp1 v.2 p.1 r.1 q.1.toNatClampNeg u.1.toNatClampNeg v.1.toNatClampNeg)) else none
def sCpJ (a : eR) (i : eI) (b : eR) (j k : eI) : sC := fun L σ => (a L σ).bind fun p => (i L p.2).bind fun q => (b L q.2).bind fun r => (j L r.2).bind fun u => (k L u.2).bind fun v =>
  if ¬ q.1 < 0 ∧ ¬ u.1 < 0 ∧ ¬ v.1 < 0 ∧ 0 < lenOf 2 p.1 ∧ 0 < lenOf 2 r.1 ∧ q.1.toNatClampNeg + v.1.toNatClampNeg ≤ lenOf 2 p.1 ∧ u.1.toNatClampNeg + v.1.toNatClampNeg ≤ lenOf 2 r.1 then some (oN L (cp2 v.2 p.1 r.1 q.1.toNatClampNeg u.1.toNatClampNeg v.1.toNatClampNeg)) else none
/-- a switch on lo, lo + 1 ..: no case falls into the next; the last of cs is for what is left -/
def sSw (e : eI) (lo : Int) (cs : List sC) (dflt : sC) : sC := fun L σ => (e L σ).bind fun p => (if p.1.toInt < lo then dflt else (cs[(p.1.toInt - lo).toNat]?).getD dflt) L p.2
def narK (rk : Nat) (r : Option pV) : Bool := match rk, r with
  | 0, none => true
  | 1, some (.inl _) => true
  | 2, some (.inl x) => (iZ x).isSome
  | 3, some (.inr (.inl _)) => true
  | 4, some (.inr (.inr _)) => true
  | _, _ => false
/-- a method: what it answers, and the memory behind it -/
def pBody (rk n : Nat) (body : sC) : pF := fun As σ => if (pEnt As).length ≤ n then (match body (pL0 As n) σ with
  | some (.inr (.inr (.inr r))) => if narK rk r.1 = true then some r else none
  | _ => none) else none

/-! ===== the plain machine does what is meant ===== -/
section XS
variable {own : String} {cc : ByteArray} {scr : Option (Nat × Nat × (Nat → Int32))} {Rn : MethodName → List pV → pM → Option pV → pM → Prop} {RT : Option pV → pM → Prop} {G : Nat → pSt → Prop}
def XI (G : Nat → pSt → Prop) (n pc pc' : Nat) (e : eI) : Prop := ∀ (L : pLo) (S : List pV) (σ : pM) (v : Int32) (σ' : pM), psz S ≤ n → e L σ = some (v, σ') → G pc' (L, pI v :: S, σ') → G pc (L, S, σ)
def XJ (G : Nat → pSt → Prop) (n pc pc' : Nat) (e : eJ) : Prop := ∀ (L : pLo) (S : List pV) (σ : pM) (v : Int64) (σ' : pM), psz S ≤ n → e L σ = some (v, σ') → G pc' (L, pJ v :: S, σ') → G pc (L, S, σ)
def XR (G : Nat → pSt → Prop) (n pc pc' : Nat) (e : eR) : Prop := ∀ (L : pLo) (S : List pV) (σ : pM) (v : Nat) (σ' : pM), psz S ≤ n → e L σ = some (v, σ') → G pc' (L, pR v :: S, σ') → G pc (L, S, σ)
def XZ (G : Nat → pSt → Prop) (n pc pc' : Nat) (e : eB) : Prop := ∀ (L : pLo) (S : List pV) (σ : pM) (v : Bool) (σ' : pM), psz S ≤ n → e L σ = some (v, σ') → G pc' (L, pI (zI v) :: S, σ') → G pc (L, S, σ)
/-- a condition: it goes on at pt, or at pf -/
def XB (G : Nat → pSt → Prop) (n pc pt pf : Nat) (e : eB) : Prop := ∀ (L : pLo) (S : List pV) (σ : pM) (v : Bool) (σ' : pM), psz S ≤ n → e L σ = some (v, σ') → G (if v = true then pt else pf) (L, S, σ') → G pc (L, S, σ)
def XA (G : Nat → pSt → Prop) (k n pc pc' : Nat) (e : eA) : Prop := ∀ (L : pLo) (S : List pV) (σ : pM) (As : List pV) (σ' : pM), psz S ≤ n → e L σ = some (As, σ') → As.length = k ∧ (G pc' (L, As.reverse ++ S, σ') → G pc (L, S, σ))
def pArr (G : Nat → pSt → Prop) (RT : Option pV → pM → Prop) (pN pB pC : Nat) : pO → Prop
  | .inl (L, σ) => G pN (L, [], σ)
  | .inr (.inl (L, σ)) => G pB (L, [], σ)
  | .inr (.inr (.inl (L, σ))) => G pC (L, [], σ)
  | .inr (.inr (.inr (r, σ))) => RT r σ
def SX (G : Nat → pSt → Prop) (RT : Option pV → pM → Prop) (pc pN pB pC : Nat) (c : sC) : Prop := ∀ (L : pLo) (σ : pM) (o : pO), c L σ = some o → pArr G RT pN pB pC o → G pc (L, [], σ)
def pOK (Rn : MethodName → List pV → pM → Option pV → pM → Prop) (y : MethodName) (F : pF) : Prop := ∀ (As : List pV) (σ : pM) (r : Option pV) (σ' : pM), F As σ = some (r, σ') → Rn y As σ r σ'
theorem bd {α β : Type} {x : Option α} {f : α → Option β} {b : β} (h : x.bind f = some b) : ∃ a, x = some a ∧ f a = some b := Option.bind_eq_some_iff.mp h
theorem psz_c1 (x : Int32) (S : List pV) {n : Nat} (h : psz S ≤ n) : psz (pI x :: S) ≤ n + 1 := by simp [psz, pcat] at *; omega
theorem psz_c2 (x : Int64) (S : List pV) {n : Nat} (h : psz S ≤ n) : psz (pJ x :: S) ≤ n + 2 := by simp [psz, pcat] at *; omega
theorem psz_c3 (x : Nat) (S : List pV) {n : Nat} (h : psz S ≤ n) : psz (pR x :: S) ≤ n + 1 := by simp [psz, pcat] at *; omega
-- constants, locals
theorem xk1 (hG : pRules own cc scr Rn RT G) {n pc : Nat} {z : Int} (hd : decode cc pc = .ok (.iconst z, 1)) : XI G n pc (pc + 1) (kI z) := by
  intro L S σ v σ' _ he hg; cases he; exact hG.1 _ _ _ _ _ _ hd ⟨rfl, hg⟩
theorem xk2 (hG : pRules own cc scr Rn RT G) {n pc : Nat} {z : Int} (hd : decode cc pc = .ok (.bipush z, 2)) (hz : (Int8.ofInt z).toInt32 = Int32.ofInt z) : XI G n pc (pc + 2) (kI z) := by
  intro L S σ v σ' _ he hg; cases he; exact hG.1 _ _ _ _ _ _ hd ⟨rfl, by rw [hz]; exact hg⟩
theorem xk3 (hG : pRules own cc scr Rn RT G) {n pc : Nat} {z : Int} (hd : decode cc pc = .ok (.sipush z, 3)) (hz : (Int16.ofInt z).toInt32 = Int32.ofInt z) : XI G n pc (pc + 3) (kI z) := by
  intro L S σ v σ' _ he hg; cases he; exact hG.1 _ _ _ _ _ _ hd ⟨rfl, by rw [hz]; exact hg⟩
theorem xk4 (hG : pRules own cc scr Rn RT G) {n pc idx : Nat} {z : Int} (hd : decode cc pc = .ok (.ldc idx, 2)) (hw : Cond.constant own idx (Int32.ofInt z) ∈ tb) : XI G n pc (pc + 2) (kI z) := by
  intro L S σ v σ' _ he hg; cases he; exact hG.1 _ _ _ _ _ _ hd ⟨rfl, _, hw, hg⟩
theorem xk5 (hG : pRules own cc scr Rn RT G) {n pc idx : Nat} {z : Int} (hd : decode cc pc = .ok (.ldc_w idx, 3)) (hw : Cond.constant own idx (Int32.ofInt z) ∈ tb) : XI G n pc (pc + 3) (kI z) := by
  intro L S σ v σ' _ he hg; cases he; exact hG.1 _ _ _ _ _ _ hd ⟨rfl, _, hw, hg⟩
theorem xj1 (hG : pRules own cc scr Rn RT G) {n pc : Nat} {k : Fin 2} {z : Int} (hd : decode cc pc = .ok (.lconst k, 1)) (hz : Int64.ofNat (k : Nat) = Int64.ofInt z) : XJ G n pc (pc + 1) (kJ z) := by
  intro L S σ v σ' _ he hg; cases he; exact hG.1 _ _ _ _ _ _ hd ⟨rfl, by rw [hz]; exact hg⟩
theorem xj2 (hG : pRules own cc scr Rn RT G) {n pc idx : Nat} {z : Int} (hd : decode cc pc = .ok (.ldc2_w idx, 3)) (hw : Cond.constantLong own idx (Int64.ofInt z) ∈ tb) : XJ G n pc (pc + 3) (kJ z) := by
  intro L S σ v σ' _ he hg; cases he; exact hG.1 _ _ _ _ _ _ hd ⟨rfl, _, hw, hg⟩
theorem lI_spec {k : Nat} {L : pLo} {σ σ' : pM} {v : Int32} (h : lI k L σ = some (v, σ')) : L[k]? = some (some (pI v)) ∧ σ' = σ := by
  unfold lI at h; split at h
  · rename_i e; cases h; exact ⟨e, rfl⟩
  · cases h
theorem lJ_spec {k : Nat} {L : pLo} {σ σ' : pM} {v : Int64} (h : lJ k L σ = some (v, σ')) : L[k]? = some (some (pJ v)) ∧ σ' = σ := by
  unfold lJ at h; split at h
  · rename_i e; cases h; exact ⟨e, rfl⟩
  · cases h
theorem lR_spec {k : Nat} {L : pLo} {σ σ' : pM} {v : Nat} (h : lR k L σ = some (v, σ')) : L[k]? = some (some (pR v)) ∧ σ' = σ := by
  unfold lR at h; split at h
  · rename_i e; cases h; exact ⟨e, rfl⟩
  · cases h
theorem lZ_spec {k : Nat} {L : pLo} {σ σ' : pM} {v : Bool} (h : lZ k L σ = some (v, σ')) : L[k]? = some (some (pI (zI v))) ∧ σ' = σ := by
  unfold lZ at h; split at h
  · rename_i x e
    cases hx : iZ x with
    | none => rw [hx] at h; cases h
    | some b => rw [hx] at h; cases h; rw [e, iZ_zI hx]; exact ⟨rfl, rfl⟩
  · cases h
theorem xlIn (hG : pRules own cc scr Rn RT G) {n pc i : Nat} {k : Fin 4} (hd : decode cc pc = .ok (.iload_n k, 1)) (hi : (k : Nat) = i) : XI G n pc (pc + 1) (lI i) := by
  intro L S σ v σ' _ he hg; subst hi; obtain ⟨h1, rfl⟩ := lI_spec he; exact hG.1 _ _ _ _ _ _ hd ⟨rfl, _, h1, hg⟩
theorem xlI (hG : pRules own cc scr Rn RT G) {n pc i : Nat} (hd : decode cc pc = .ok (.iload i, 2)) : XI G n pc (pc + 2) (lI i) := by
  intro L S σ v σ' _ he hg; obtain ⟨h1, rfl⟩ := lI_spec he; exact hG.1 _ _ _ _ _ _ hd ⟨rfl, _, h1, hg⟩
theorem xlJn (hG : pRules own cc scr Rn RT G) {n pc i : Nat} {k : Fin 4} (hd : decode cc pc = .ok (.lload_n k, 1)) (hi : (k : Nat) = i) : XJ G n pc (pc + 1) (lJ i) := by
  intro L S σ v σ' _ he hg; subst hi; obtain ⟨h1, rfl⟩ := lJ_spec he; exact hG.1 _ _ _ _ _ _ hd ⟨rfl, _, h1, hg⟩
theorem xlJ (hG : pRules own cc scr Rn RT G) {n pc i : Nat} (hd : decode cc pc = .ok (.lload i, 2)) : XJ G n pc (pc + 2) (lJ i) := by
  intro L S σ v σ' _ he hg; obtain ⟨h1, rfl⟩ := lJ_spec he; exact hG.1 _ _ _ _ _ _ hd ⟨rfl, _, h1, hg⟩
theorem xlRn (hG : pRules own cc scr Rn RT G) {n pc i : Nat} {k : Fin 4} (hd : decode cc pc = .ok (.aload_n k, 1)) (hi : (k : Nat) = i) : XR G n pc (pc + 1) (lR i) := by
  intro L S σ v σ' _ he hg; subst hi; obtain ⟨h1, rfl⟩ := lR_spec he; exact hG.1 _ _ _ _ _ _ hd ⟨rfl, _, h1, hg⟩
theorem xlR (hG : pRules own cc scr Rn RT G) {n pc i : Nat} (hd : decode cc pc = .ok (.aload i, 2)) : XR G n pc (pc + 2) (lR i) := by
  intro L S σ v σ' _ he hg; obtain ⟨h1, rfl⟩ := lR_spec he; exact hG.1 _ _ _ _ _ _ hd ⟨rfl, _, h1, hg⟩
theorem xlZn (hG : pRules own cc scr Rn RT G) {n pc i : Nat} {k : Fin 4} (hd : decode cc pc = .ok (.iload_n k, 1)) (hi : (k : Nat) = i) : XZ G n pc (pc + 1) (lZ i) := by
  intro L S σ v σ' _ he hg; subst hi; obtain ⟨h1, rfl⟩ := lZ_spec he; exact hG.1 _ _ _ _ _ _ hd ⟨rfl, _, h1, hg⟩
theorem xlZ (hG : pRules own cc scr Rn RT G) {n pc i : Nat} (hd : decode cc pc = .ok (.iload i, 2)) : XZ G n pc (pc + 2) (lZ i) := by
  intro L S σ v σ' _ he hg; obtain ⟨h1, rfl⟩ := lZ_spec he; exact hG.1 _ _ _ _ _ _ hd ⟨rfl, _, h1, hg⟩
theorem x_iadd (hG : pRules own cc scr Rn RT G) {n pc p1 p2 : Nat} {a b : eI} (ha : XI G n pc p1 a) (hb : XI G (n + 1) p1 p2 b) (hd : decode cc p2 = .ok (.iadd, 1)) : XI G n pc (p2 + 1) (bI (fun x y => x + y) a b) := by
  intro L S σ v σ' hn he hg; obtain ⟨⟨x, σ1⟩, h1, he⟩ := bd he; obtain ⟨⟨y, σ2⟩, h2, he⟩ := bd he; cases he
  exact ha L S σ x σ1 hn h1 (hb L _ σ1 y _ (psz_c1 x S hn) h2 (hG.1 _ _ _ _ _ _ hd ⟨rfl, _, _, _, rfl, hg⟩))
theorem x_isub (hG : pRules own cc scr Rn RT G) {n pc p1 p2 : Nat} {a b : eI} (ha : XI G n pc p1 a) (hb : XI G (n + 1) p1 p2 b) (hd : decode cc p2 = .ok (.isub, 1)) : XI G n pc (p2 + 1) (bI (fun x y => x - y) a b) := by
  intro L S σ v σ' hn he hg; obtain ⟨⟨x, σ1⟩, h1, he⟩ := bd he; obtain ⟨⟨y, σ2⟩, h2, he⟩ := bd he; cases he
  exact ha L S σ x σ1 hn h1 (hb L _ σ1 y _ (psz_c1 x S hn) h2 (hG.1 _ _ _ _ _ _ hd ⟨rfl, _, _, _, rfl, hg⟩))
theorem x_imul (hG : pRules own cc scr Rn RT G) {n pc p1 p2 : Nat} {a b : eI} (ha : XI G n pc p1 a) (hb : XI G (n + 1) p1 p2 b) (hd : decode cc p2 = .ok (.imul, 1)) : XI G n pc (p2 + 1) (bI (fun x y => x * y) a b) := by
  intro L S σ v σ' hn he hg; obtain ⟨⟨x, σ1⟩, h1, he⟩ := bd he; obtain ⟨⟨y, σ2⟩, h2, he⟩ := bd he; cases he
  exact ha L S σ x σ1 hn h1 (hb L _ σ1 y _ (psz_c1 x S hn) h2 (hG.1 _ _ _ _ _ _ hd ⟨rfl, _, _, _, rfl, hg⟩))
theorem x_iand (hG : pRules own cc scr Rn RT G) {n pc p1 p2 : Nat} {a b : eI} (ha : XI G n pc p1 a) (hb : XI G (n + 1) p1 p2 b) (hd : decode cc p2 = .ok (.iand, 1)) : XI G n pc (p2 + 1) (bI (fun x y => x &&& y) a b) := by
  intro L S σ v σ' hn he hg; obtain ⟨⟨x, σ1⟩, h1, he⟩ := bd he; obtain ⟨⟨y, σ2⟩, h2, he⟩ := bd he; cases he
  exact ha L S σ x σ1 hn h1 (hb L _ σ1 y _ (psz_c1 x S hn) h2 (hG.1 _ _ _ _ _ _ hd ⟨rfl, _, _, _, rfl, hg⟩))
theorem x_ior (hG : pRules own cc scr Rn RT G) {n pc p1 p2 : Nat} {a b : eI} (ha : XI G n pc p1 a) (hb : XI G (n + 1) p1 p2 b) (hd : decode cc p2 = .ok (.ior, 1)) : XI G n pc (p2 + 1) (bI (fun x y => x ||| y) a b) := by
  intro L S σ v σ' hn he hg; obtain ⟨⟨x, σ1⟩, h1, he⟩ := bd he; obtain ⟨⟨y, σ2⟩, h2, he⟩ := bd he; cases he
  exact ha L S σ x σ1 hn h1 (hb L _ σ1 y _ (psz_c1 x S hn) h2 (hG.1 _ _ _ _ _ _ hd ⟨rfl, _, _, _, rfl, hg⟩))
theorem x_ixor (hG : pRules own cc scr Rn RT G) {n pc p1 p2 : Nat} {a b : eI} (ha : XI G n pc p1 a) (hb : XI G (n + 1) p1 p2 b) (hd : decode cc p2 = .ok (.ixor, 1)) : XI G n pc (p2 + 1) (bI (fun x y => x ^^^ y) a b) := by
  intro L S σ v σ' hn he hg; obtain ⟨⟨x, σ1⟩, h1, he⟩ := bd he; obtain ⟨⟨y, σ2⟩, h2, he⟩ := bd he; cases he
  exact ha L S σ x σ1 hn h1 (hb L _ σ1 y _ (psz_c1 x S hn) h2 (hG.1 _ _ _ _ _ _ hd ⟨rfl, _, _, _, rfl, hg⟩))
theorem x_ishl (hG : pRules own cc scr Rn RT G) {n pc p1 p2 : Nat} {a b : eI} (ha : XI G n pc p1 a) (hb : XI G (n + 1) p1 p2 b) (hd : decode cc p2 = .ok (.ishl, 1)) : XI G n pc (p2 + 1) (bI (fun x y => x <<< (y &&& 31)) a b) := by
  intro L S σ v σ' hn he hg; obtain ⟨⟨x, σ1⟩, h1, he⟩ := bd he; obtain ⟨⟨y, σ2⟩, h2, he⟩ := bd he; cases he
  exact ha L S σ x σ1 hn h1 (hb L _ σ1 y _ (psz_c1 x S hn) h2 (hG.1 _ _ _ _ _ _ hd ⟨rfl, _, _, _, rfl, hg⟩))
theorem x_ishr (hG : pRules own cc scr Rn RT G) {n pc p1 p2 : Nat} {a b : eI} (ha : XI G n pc p1 a) (hb : XI G (n + 1) p1 p2 b) (hd : decode cc p2 = .ok (.ishr, 1)) : XI G n pc (p2 + 1) (bI (fun x y => x >>> (y &&& 31)) a b) := by
  intro L S σ v σ' hn he hg; obtain ⟨⟨x, σ1⟩, h1, he⟩ := bd he; obtain ⟨⟨y, σ2⟩, h2, he⟩ := bd he; cases he
  exact ha L S σ x σ1 hn h1 (hb L _ σ1 y _ (psz_c1 x S hn) h2 (hG.1 _ _ _ _ _ _ hd ⟨rfl, _, _, _, rfl, hg⟩))
theorem x_iushr (hG : pRules own cc scr Rn RT G) {n pc p1 p2 : Nat} {a b : eI} (ha : XI G n pc p1 a) (hb : XI G (n + 1) p1 p2 b) (hd : decode cc p2 = .ok (.iushr, 1)) : XI G n pc (p2 + 1) (bI (fun x y => (x.toUInt32 >>> (y.toUInt32 &&& Int32.toUInt32 31)).toInt32) a b) := by
  intro L S σ v σ' hn he hg; obtain ⟨⟨x, σ1⟩, h1, he⟩ := bd he; obtain ⟨⟨y, σ2⟩, h2, he⟩ := bd he; cases he
  exact ha L S σ x σ1 hn h1 (hb L _ σ1 y _ (psz_c1 x S hn) h2 (hG.1 _ _ _ _ _ _ hd ⟨rfl, _, _, _, rfl, hg⟩))
theorem x_idiv (hG : pRules own cc scr Rn RT G) {n pc p1 p2 : Nat} {a b : eI} (ha : XI G n pc p1 a) (hb : XI G (n + 1) p1 p2 b) (hd : decode cc p2 = .ok (.idiv, 1)) : XI G n pc (p2 + 1) (dI (fun x y => x / y) a b) := by
  intro L S σ v σ' hn he hg; obtain ⟨⟨x, σ1⟩, h1, he⟩ := bd he; obtain ⟨⟨y, σ2⟩, h2, he⟩ := bd he
  by_cases h0 : y = 0
  · rw [if_pos h0] at he; cases he
  · rw [if_neg h0] at he; cases he
    exact ha L S σ x σ1 hn h1 (hb L _ σ1 y _ (psz_c1 x S hn) h2 (hG.1 _ _ _ _ _ _ hd ⟨rfl, _, _, _, rfl, h0, hg⟩))
theorem x_irem (hG : pRules own cc scr Rn RT G) {n pc p1 p2 : Nat} {a b : eI} (ha : XI G n pc p1 a) (hb : XI G (n + 1) p1 p2 b) (hd : decode cc p2 = .ok (.irem, 1)) : XI G n pc (p2 + 1) (dI (fun x y => x - x / y * y) a b) := by
  intro L S σ v σ' hn he hg; obtain ⟨⟨x, σ1⟩, h1, he⟩ := bd he; obtain ⟨⟨y, σ2⟩, h2, he⟩ := bd he
  by_cases h0 : y = 0
  · rw [if_pos h0] at he; cases he
  · rw [if_neg h0] at he; cases he
    exact ha L S σ x σ1 hn h1 (hb L _ σ1 y _ (psz_c1 x S hn) h2 (hG.1 _ _ _ _ _ _ hd ⟨rfl, _, _, _, rfl, h0, hg⟩))
theorem x_ladd (hG : pRules own cc scr Rn RT G) {n pc p1 p2 : Nat} {a b : eJ} (ha : XJ G n pc p1 a) (hb : XJ G (n + 2) p1 p2 b) (hd : decode cc p2 = .ok (.ladd, 1)) : XJ G n pc (p2 + 1) (bJ (fun x y => x + y) a b) := by
  intro L S σ v σ' hn he hg; obtain ⟨⟨x, σ1⟩, h1, he⟩ := bd he; obtain ⟨⟨y, σ2⟩, h2, he⟩ := bd he; cases he
  exact ha L S σ x σ1 hn h1 (hb L _ σ1 y _ (psz_c2 x S hn) h2 (hG.1 _ _ _ _ _ _ hd ⟨rfl, _, _, _, rfl, hg⟩))
theorem x_lsub (hG : pRules own cc scr Rn RT G) {n pc p1 p2 : Nat} {a b : eJ} (ha : XJ G n pc p1 a) (hb : XJ G (n + 2) p1 p2 b) (hd : decode cc p2 = .ok (.lsub, 1)) : XJ G n pc (p2 + 1) (bJ (fun x y => x - y) a b) := by
  intro L S σ v σ' hn he hg; obtain ⟨⟨x, σ1⟩, h1, he⟩ := bd he; obtain ⟨⟨y, σ2⟩, h2, he⟩ := bd he; cases he
  exact ha L S σ x σ1 hn h1 (hb L _ σ1 y _ (psz_c2 x S hn) h2 (hG.1 _ _ _ _ _ _ hd ⟨rfl, _, _, _, rfl, hg⟩))
theorem x_lmul (hG : pRules own cc scr Rn RT G) {n pc p1 p2 : Nat} {a b : eJ} (ha : XJ G n pc p1 a) (hb : XJ G (n + 2) p1 p2 b) (hd : decode cc p2 = .ok (.lmul, 1)) : XJ G n pc (p2 + 1) (bJ (fun x y => x * y) a b) := by
  intro L S σ v σ' hn he hg; obtain ⟨⟨x, σ1⟩, h1, he⟩ := bd he; obtain ⟨⟨y, σ2⟩, h2, he⟩ := bd he; cases he
  exact ha L S σ x σ1 hn h1 (hb L _ σ1 y _ (psz_c2 x S hn) h2 (hG.1 _ _ _ _ _ _ hd ⟨rfl, _, _, _, rfl, hg⟩))
theorem x_ineg (hG : pRules own cc scr Rn RT G) {n pc p1 : Nat} {a : eI} (ha : XI G n pc p1 a) (hd : decode cc p1 = .ok (.ineg, 1)) : XI G n pc (p1 + 1) (uI (fun x => -x) a) := by
  intro L S σ v σ' hn he hg; obtain ⟨⟨x, σ1⟩, h1, he⟩ := bd he; cases he
  exact ha L S σ x _ hn h1 (hG.1 _ _ _ _ _ _ hd ⟨rfl, _, _, rfl, hg⟩)
theorem x_i2b (hG : pRules own cc scr Rn RT G) {n pc p1 : Nat} {a : eI} (ha : XI G n pc p1 a) (hd : decode cc p1 = .ok (.i2b, 1)) : XI G n pc (p1 + 1) (uI (fun x => x.toInt8.toInt32) a) := by
  intro L S σ v σ' hn he hg; obtain ⟨⟨x, σ1⟩, h1, he⟩ := bd he; cases he
  exact ha L S σ x _ hn h1 (hG.1 _ _ _ _ _ _ hd ⟨rfl, _, _, rfl, hg⟩)
theorem x_i2l (hG : pRules own cc scr Rn RT G) {n pc p1 : Nat} {a : eI} (ha : XI G n pc p1 a) (hd : decode cc p1 = .ok (.i2l, 1)) : XJ G n pc (p1 + 1) (wJ a) := by
  intro L S σ v σ' hn he hg; obtain ⟨⟨x, σ1⟩, h1, he⟩ := bd he; cases he
  exact ha L S σ x _ hn h1 (hG.1 _ _ _ _ _ _ hd ⟨rfl, _, _, rfl, hg⟩)
theorem x_l2i (hG : pRules own cc scr Rn RT G) {n pc p1 : Nat} {a : eJ} (ha : XJ G n pc p1 a) (hd : decode cc p1 = .ok (.l2i, 1)) : XI G n pc (p1 + 1) (nJ a) := by
  intro L S σ v σ' hn he hg; obtain ⟨⟨x, σ1⟩, h1, he⟩ := bd he; cases he
  exact ha L S σ x _ hn h1 (hG.1 _ _ _ _ _ _ hd ⟨rfl, _, _, rfl, hg⟩)
theorem xgI (hG : pRules own cc scr Rn RT G) {n pc p1 idx ci j : Nat} {a : eR} (ha : XR G n pc p1 a) (hd : decode cc p1 = .ok (.getfield idx, 3)) (hf : FL own idx ci j) : XI G n pc (p1 + 3) (gI ci j a) := by
  intro L S σ v σ' hn he hg; obtain ⟨⟨x, σ1⟩, h1, he⟩ := bd he
  by_cases h0 : okI ci j x = true
  · rw [if_pos h0] at he; cases he
    exact ha L S σ x _ hn h1 (hG.1 _ _ _ _ _ _ hd ⟨rfl, ci, j, x, S, rfl, hf, Or.inl ⟨h0, hg⟩⟩)
  · rw [if_neg h0] at he; cases he
theorem xgZ (hG : pRules own cc scr Rn RT G) {n pc p1 idx ci j : Nat} {a : eR} (ha : XR G n pc p1 a) (hd : decode cc p1 = .ok (.getfield idx, 3)) (hf : FL own idx ci j) : XZ G n pc (p1 + 3) (gZ ci j a) := by
  intro L S σ v σ' hn he hg; obtain ⟨⟨x, σ1⟩, h1, he⟩ := bd he
  by_cases h0 : okI ci j x = true
  · rw [if_pos h0] at he
    cases hz : iZ (σ1.1 x j) with
    | none => rw [hz] at he; cases he
    | some b => 
      rw [hz] at he; cases he
      rw [← iZ_zI hz] at hg
      exact ha L S σ x _ hn h1 (hG.1 _ _ _ _ _ _ hd ⟨rfl, ci, j, x, S, rfl, hf, Or.inl ⟨h0, hg⟩⟩)
  · rw [if_neg h0] at he; cases he
theorem xgR (hG : pRules own cc scr Rn RT G) {n pc p1 idx ci j d : Nat} {a : eR} (ha : XR G n pc p1 a) (hd : decode cc p1 = .ok (.getfield idx, 3)) (hf : FL own idx ci j) : XR G n pc (p1 + 3) (gR ci j d a) := by
  intro L S σ v σ' hn he hg; obtain ⟨⟨x, σ1⟩, h1, he⟩ := bd he
  by_cases h0 : okR ci j x (x + d) = true
  · rw [if_pos h0] at he; cases he
    exact ha L S σ x _ hn h1 (hG.1 _ _ _ _ _ _ hd ⟨rfl, ci, j, x, S, rfl, hf, Or.inr ⟨_, h0, hg⟩⟩)
  · rw [if_neg h0] at he; cases he
theorem xaI (hG : pRules own cc scr Rn RT G) {n pc p1 p2 : Nat} {a : eR} {b : eI} (ha : XR G n pc p1 a) (hb : XI G (n + 1) p1 p2 b) (hd : decode cc p2 = .ok (.iaload, 1)) : XI G n pc (p2 + 1) (aI 0 a b) := by
  intro L S σ v σ' hn he hg; obtain ⟨⟨x, σ1⟩, h1, he⟩ := bd he; obtain ⟨⟨y, σ2⟩, h2, he⟩ := bd he
  by_cases h0 : y < 0 ∨ lenOf 0 x ≤ y.toNatClampNeg
  · rw [if_pos h0] at he; cases he
  · rw [if_neg h0] at he; cases he
    exact ha L S σ x σ1 hn h1 (hb L _ σ1 y _ (psz_c3 x S hn) h2 (hG.1 _ _ _ _ _ _ hd ⟨rfl, x, y, S, rfl, Or.inl ⟨h0, hg⟩⟩))
theorem xaB (hG : pRules own cc scr Rn RT G) {n pc p1 p2 : Nat} {a : eR} {b : eI} (ha : XR G n pc p1 a) (hb : XI G (n + 1) p1 p2 b) (hd : decode cc p2 = .ok (.baload, 1)) : XI G n pc (p2 + 1) (aI 1 a b) := by
  intro L S σ v σ' hn he hg; obtain ⟨⟨x, σ1⟩, h1, he⟩ := bd he; obtain ⟨⟨y, σ2⟩, h2, he⟩ := bd he
  by_cases h0 : y < 0 ∨ lenOf 1 x ≤ y.toNatClampNeg
  · rw [if_pos h0] at he; cases he
  · rw [if_neg h0] at he; cases he
    exact ha L S σ x σ1 hn h1 (hb L _ σ1 y _ (psz_c3 x S hn) h2 (hG.1 _ _ _ _ _ _ hd ⟨rfl, x, y, S, rfl, h0, hg⟩))
theorem xaJ (hG : pRules own cc scr Rn RT G) {n pc p1 p2 : Nat} {a : eR} {b : eI} (ha : XR G n pc p1 a) (hb : XI G (n + 1) p1 p2 b) (hd : decode cc p2 = .ok (.laload, 1)) : XJ G n pc (p2 + 1) (aJ a b) := by
  intro L S σ v σ' hn he hg; obtain ⟨⟨x, σ1⟩, h1, he⟩ := bd he; obtain ⟨⟨y, σ2⟩, h2, he⟩ := bd he
  by_cases h0 : y < 0 ∨ lenOf 2 x ≤ y.toNatClampNeg
  · rw [if_pos h0] at he; cases he
  · rw [if_neg h0] at he; cases he
    exact ha L S σ x σ1 hn h1 (hb L _ σ1 y _ (psz_c3 x S hn) h2 (hG.1 _ _ _ _ _ _ hd ⟨rfl, x, y, S, rfl, h0, hg⟩))
theorem xnA (hG : pRules own cc scr Rn RT G) {n pc p1 t : Nat} {a : eR} (ha : XR G n pc p1 a) (hd : decode cc p1 = .ok (.arraylength, 1)) : XI G n pc (p1 + 1) (nA t a) := by
  intro L S σ v σ' hn he hg; obtain ⟨⟨x, σ1⟩, h1, he⟩ := bd he
  by_cases h0 : lenOf t x = 0
  · rw [if_pos h0] at he; cases he
  · rw [if_neg h0] at he; cases he
    exact ha L S σ x _ hn h1 (hG.1 _ _ _ _ _ _ hd ⟨rfl, x, S, rfl, Or.inl ⟨t, _, rfl, by omega, hg⟩⟩)
theorem xcI (hG : pRules own cc scr Rn RT G) {n pc pt pf p2 pe : Nat} {off : Int} {c : eB} {a b : eI} (hc : XB G n pc pt pf c) (ha : XI G n pt p2 a) (hd : decode cc p2 = .ok (.goto off, 3)) (ht : pTg p2 off pe) (hb : XI G n pf pe b) : XI G n pc pe (cE c a b) := by
  intro L S σ v σ' hn he hg; obtain ⟨⟨x, σ1⟩, h1, he⟩ := bd he
  refine hc L S σ x σ1 hn h1 ?_
  cases x with
  | true => exact ha L S σ1 v σ' hn he (hG.1 _ _ _ _ _ _ hd ⟨rfl, pe, ht, hg⟩)
  | false => exact hb L S σ1 v σ' hn he hg
theorem xcJ (hG : pRules own cc scr Rn RT G) {n pc pt pf p2 pe : Nat} {off : Int} {c : eB} {a b : eJ} (hc : XB G n pc pt pf c) (ha : XJ G n pt p2 a) (hd : decode cc p2 = .ok (.goto off, 3)) (ht : pTg p2 off pe) (hb : XJ G n pf pe b) : XJ G n pc pe (cE c a b) := by
  intro L S σ v σ' hn he hg; obtain ⟨⟨x, σ1⟩, h1, he⟩ := bd he
  refine hc L S σ x σ1 hn h1 ?_
  cases x with
  | true => exact ha L S σ1 v σ' hn he (hG.1 _ _ _ _ _ _ hd ⟨rfl, pe, ht, hg⟩)
  | false => exact hb L S σ1 v σ' hn he hg
theorem xcR (hG : pRules own cc scr Rn RT G) {n pc pt pf p2 pe : Nat} {off : Int} {c : eB} {a b : eR} (hc : XB G n pc pt pf c) (ha : XR G n pt p2 a) (hd : decode cc p2 = .ok (.goto off, 3)) (ht : pTg p2 off pe) (hb : XR G n pf pe b) : XR G n pc pe (cE c a b) := by
  intro L S σ v σ' hn he hg; obtain ⟨⟨x, σ1⟩, h1, he⟩ := bd he
  refine hc L S σ x σ1 hn h1 ?_
  cases x with
  | true => exact ha L S σ1 v σ' hn he (hG.1 _ _ _ _ _ _ hd ⟨rfl, pe, ht, hg⟩)
  | false => exact hb L S σ1 v σ' hn he hg
theorem xcZ (hG : pRules own cc scr Rn RT G) {n pc pt pf p2 pe : Nat} {off : Int} {c : eB} {a b : eB} (hc : XB G n pc pt pf c) (ha : XZ G n pt p2 a) (hd : decode cc p2 = .ok (.goto off, 3)) (ht : pTg p2 off pe) (hb : XZ G n pf pe b) : XZ G n pc pe (cE c a b) := by
  intro L S σ v σ' hn he hg; obtain ⟨⟨x, σ1⟩, h1, he⟩ := bd he
  refine hc L S σ x σ1 hn h1 ?_
  cases x with
  | true => exact ha L S σ1 v σ' hn he (hG.1 _ _ _ _ _ _ hd ⟨rfl, pe, ht, hg⟩)
  | false => exact hb L S σ1 v σ' hn he hg
theorem xz1 (hG : pRules own cc scr Rn RT G) {n pc pt pf : Nat} {off : Int} {c : eB} (hc : XB G n pc pt pf c) (h1 : decode cc pt = .ok (.iconst 1, 1)) (hd : decode cc (pt + 1) = .ok (.goto off, 3)) (ht : pTg (pt + 1) off (pf + 1)) (h0 : decode cc pf = .ok (.iconst 0, 1)) : XZ G n pc (pf + 1) c := by
  intro L S σ v σ' hn he hg
  refine hc L S σ v σ' hn he ?_
  cases v with
  | true => exact hG.1 _ _ _ _ _ _ h1 ⟨rfl, hG.1 _ _ _ _ _ _ hd ⟨rfl, _, ht, hg⟩⟩
  | false => exact hG.1 _ _ _ _ _ _ h0 ⟨rfl, hg⟩
/-- `true`, `false` as a value -/
theorem xzk (hG : pRules own cc scr Rn RT G) {n pc : Nat} {z : Int} {b : Bool} (hd : decode cc pc = .ok (.iconst z, 1)) (hz : Int32.ofInt z = zI b) : XZ G n pc (pc + 1) (kZ b) := by
  intro L S σ v σ' _ he hg; cases he; exact hG.1 _ _ _ _ _ _ hd ⟨rfl, by rw [hz]; exact hg⟩
theorem xzOr (hG : pRules own cc scr Rn RT G) {n pc p1 p2 : Nat} {a b : eB} (ha : XZ G n pc p1 a) (hb : XZ G (n + 1) p1 p2 b) (hd : decode cc p2 = .ok (.ior, 1)) : XZ G n pc (p2 + 1) (vOr a b) := by
  intro L S σ v σ' hn he hg; obtain ⟨⟨x, σ1⟩, h1, he⟩ := bd he; obtain ⟨⟨y, σ2⟩, h2, he⟩ := bd he; cases he
  refine ha L S σ x σ1 hn h1 (hb L _ σ1 y _ (psz_c1 _ S hn) h2 (hG.1 _ _ _ _ _ _ hd ⟨rfl, _, _, _, rfl, ?_⟩))
  have : zI x ||| zI y = zI (x || y) := by cases x <;> cases y <;> decide
  rw [this]; exact hg
-- conditions
theorem xbE (hG : pRules own cc scr Rn RT G) {n pc p1 t : Nat} {off : Int} {e : eB} (he : XZ G n pc p1 e) (hd : decode cc p1 = .ok (.ifCond .eq off, 3)) (ht : pTg p1 off t) : XB G n pc (p1 + 3) t e := by
  intro L S σ v σ' hn h1 hg
  refine he L S σ v σ' hn h1 (hG.1 _ _ _ _ _ _ hd ⟨rfl, t, _, S, ht, rfl, fun q => ?_, fun q => ?_⟩)
  · cases v with
    | true => exact absurd (show zI true = 0 from q) (by decide)
    | false => exact hg
  · cases v with
    | true => exact hg
    | false => exact absurd rfl q
theorem xbN (hG : pRules own cc scr Rn RT G) {n pc p1 t : Nat} {off : Int} {e : eB} (he : XZ G n pc p1 e) (hd : decode cc p1 = .ok (.ifCond .ne off, 3)) (ht : pTg p1 off t) : XB G n pc t (p1 + 3) e := by
  intro L S σ v σ' hn h1 hg
  refine he L S σ v σ' hn h1 (hG.1 _ _ _ _ _ _ hd ⟨rfl, t, _, S, ht, rfl, fun q => ?_, fun q => ?_⟩)
  · cases v with
    | true => exact hg
    | false => exact absurd rfl q
  · cases v with
    | true => exact absurd (show ¬ zI true = 0 by decide) q
    | false => exact hg
theorem pCb_iff (c : ClassFile.Cond) (x y : Int32) : pCb c x y = true ↔ pCc c x y := by cases c <;> simp [pCb, pCc]
theorem pCb_neg (c : ClassFile.Cond) (x y : Int32) : pCb (pNeg c) x y = !pCb c x y := by
  cases c <;> simp [pCb, pNeg, Int32.not_lt, Int32.not_le] <;> (try rw [← decide_not]; congr 1; exact propext (by first | exact Int32.not_lt.symm | exact Int32.not_le.symm))
theorem xbP (hG : pRules own cc scr Rn RT G) {n pc p1 p2 t : Nat} {off : Int} {c : ClassFile.Cond} {a b : eI} (ha : XI G n pc p1 a) (hb : XI G (n + 1) p1 p2 b) (hd : decode cc p2 = .ok (.if_icmp c off, 3)) (ht : pTg p2 off t) : XB G n pc t (p2 + 3) (mI c a b) := by
  intro L S σ v σ' hn he hg; obtain ⟨⟨x, σ1⟩, h1, he⟩ := bd he; obtain ⟨⟨y, σ2⟩, h2, he⟩ := bd he; cases he
  refine ha L S σ x σ1 hn h1 (hb L _ σ1 y _ (psz_c1 x S hn) h2 (hG.1 _ _ _ _ _ _ hd ⟨rfl, t, x, y, S, ht, rfl, fun q => ?_, fun q => ?_⟩))
  · rwa [if_pos ((pCb_iff c x y).mpr q)] at hg
  · rwa [if_neg (fun z => q ((pCb_iff c x y).mp z))] at hg
theorem xbQ (hG : pRules own cc scr Rn RT G) {n pc p1 p2 t : Nat} {off : Int} {c : ClassFile.Cond} {a b : eI} (ha : XI G n pc p1 a) (hb : XI G (n + 1) p1 p2 b) (hd : decode cc p2 = .ok (.if_icmp c off, 3)) (ht : pTg p2 off t) : XB G n pc (p2 + 3) t (mI (pNeg c) a b) := by
  intro L S σ v σ' hn he hg; obtain ⟨⟨x, σ1⟩, h1, he⟩ := bd he; obtain ⟨⟨y, σ2⟩, h2, he⟩ := bd he; cases he
  refine ha L S σ x σ1 hn h1 (hb L _ σ1 y _ (psz_c1 x S hn) h2 (hG.1 _ _ _ _ _ _ hd ⟨rfl, t, x, y, S, ht, rfl, fun q => ?_, fun q => ?_⟩))
  · rw [pCb_neg, (pCb_iff c x y).mpr q] at hg; exact hg
  · have : pCb c x y = false := by cases h : pCb c x y with | true => exact absurd ((pCb_iff c x y).mp h) q | false => rfl
    rw [pCb_neg, this] at hg; exact hg
theorem xbP0 (hG : pRules own cc scr Rn RT G) {n pc p1 t : Nat} {off : Int} {c : ClassFile.Cond} {a : eI} (ha : XI G n pc p1 a) (hd : decode cc p1 = .ok (.ifCond c off, 3)) (ht : pTg p1 off t) : XB G n pc t (p1 + 3) (mI c a (kI 0)) := by
  intro L S σ v σ' hn he hg; obtain ⟨⟨x, σ1⟩, h1, he⟩ := bd he; cases he
  refine ha L S σ x _ hn h1 (hG.1 _ _ _ _ _ _ hd ⟨rfl, t, x, S, ht, rfl, fun q => ?_, fun q => ?_⟩)
  · change G (if pCb c x 0 = true then _ else _) _ at hg
    rwa [if_pos ((pCb_iff c x _).mpr q)] at hg
  · change G (if pCb c x 0 = true then _ else _) _ at hg
    rwa [if_neg (fun z => q ((pCb_iff c x _).mp z))] at hg
theorem xbQ0 (hG : pRules own cc scr Rn RT G) {n pc p1 t : Nat} {off : Int} {c : ClassFile.Cond} {a : eI} (ha : XI G n pc p1 a) (hd : decode cc p1 = .ok (.ifCond c off, 3)) (ht : pTg p1 off t) : XB G n pc (p1 + 3) t (mI (pNeg c) a (kI 0)) := by
  intro L S σ v σ' hn he hg; obtain ⟨⟨x, σ1⟩, h1, he⟩ := bd he; cases he
  refine ha L S σ x _ hn h1 (hG.1 _ _ _ _ _ _ hd ⟨rfl, t, x, S, ht, rfl, fun q => ?_, fun q => ?_⟩)
  · have q2 := (pCb_iff c x 0).mpr q
    rw [show Int32.ofInt 0 = 0 from rfl, pCb_neg, q2] at hg; exact hg
  · have : pCb c x 0 = false := by cases h : pCb c x 0 with | true => exact absurd ((pCb_iff c x 0).mp h) q | false => rfl
    rw [show Int32.ofInt 0 = 0 from rfl, pCb_neg, this] at hg; exact hg
theorem lcmp_iff (c : ClassFile.Cond) (x y : Int64) : pCb c (lg_cmp x y) 0 = pCj c x y := by
  unfold lg_cmp
  obtain h | h | h : x < y ∨ x = y ∨ y < x := by
    rcases Int.lt_trichotomy x.toInt y.toInt with h | h | h
    · exact Or.inl (Int64.lt_iff_toInt_lt.mpr h)
    · exact Or.inr (Or.inl (Int64.toInt_inj.mp h))
    · exact Or.inr (Or.inr (Int64.lt_iff_toInt_lt.mpr h))
  · have h1 : ¬ x > y := fun q => Int64.lt_irrefl (Int64.lt_trans h q)
    have h2 : ¬ x = y := fun q => Int64.ne_of_lt h q
    have h3 : ¬ y ≤ x := Int64.not_le.mpr h
    have h4 : x ≤ y := Int64.le_of_lt h
    rw [if_neg h1, if_neg h2]
    cases c <;> simp [pCb, pCj, h, h2, h3, h4, Int64.not_lt.mpr h4] <;> decide
  · subst h
    have h1 : ¬ x > x := Int64.lt_irrefl
    rw [if_neg h1, if_pos rfl]
    cases c <;> simp [pCb, pCj, Int64.lt_irrefl, Int64.le_refl] <;> decide
  · have h1 : ¬ x < y := fun q => Int64.lt_irrefl (Int64.lt_trans h q)
    have h2 : ¬ x = y := fun q => Int64.ne_of_lt h q.symm
    have h3 : ¬ x ≤ y := Int64.not_le.mpr h
    have h4 : y ≤ x := Int64.le_of_lt h
    rw [if_pos h]
    cases c <;> simp [pCb, pCj, h, h1, h2, h3, h4] <;> decide
theorem xbJP (hG : pRules own cc scr Rn RT G) {n pc p1 p2 t : Nat} {off : Int} {c : ClassFile.Cond} {a b : eJ} (ha : XJ G n pc p1 a) (hb : XJ G (n + 2) p1 p2 b) (hd0 : decode cc p2 = .ok (.lcmp, 1)) (hd : decode cc (p2 + 1) = .ok (.ifCond c off, 3)) (ht : pTg (p2 + 1) off t) : XB G n pc t (p2 + 4) (mJ c a b) := by
  intro L S σ v σ' hn he hg; obtain ⟨⟨x, σ1⟩, h1, he⟩ := bd he; obtain ⟨⟨y, σ2⟩, h2, he⟩ := bd he; cases he
  refine ha L S σ x σ1 hn h1 (hb L _ σ1 y _ (psz_c2 x S hn) h2 (hG.1 _ _ _ _ _ _ hd0 ⟨rfl, _, _, _, rfl, hG.1 _ _ _ _ _ _ hd ⟨rfl, t, _, S, ht, rfl, fun q => ?_, fun q => ?_⟩⟩))
  · have q2 := (pCb_iff c _ 0).mpr q
    rw [lcmp_iff] at q2; rwa [if_pos q2] at hg
  · rwa [if_neg (fun z => q ((pCb_iff c _ 0).mp (by rw [lcmp_iff]; exact z)))] at hg
theorem pCj_neg (c : ClassFile.Cond) (x y : Int64) : pCj (pNeg c) x y = !pCj c x y := by
  rw [← lcmp_iff, ← lcmp_iff, pCb_neg]
theorem xbJQ (hG : pRules own cc scr Rn RT G) {n pc p1 p2 t : Nat} {off : Int} {c : ClassFile.Cond} {a b : eJ} (ha : XJ G n pc p1 a) (hb : XJ G (n + 2) p1 p2 b) (hd0 : decode cc p2 = .ok (.lcmp, 1)) (hd : decode cc (p2 + 1) = .ok (.ifCond c off, 3)) (ht : pTg (p2 + 1) off t) : XB G n pc (p2 + 4) t (mJ (pNeg c) a b) := by
  intro L S σ v σ' hn he hg; obtain ⟨⟨x, σ1⟩, h1, he⟩ := bd he; obtain ⟨⟨y, σ2⟩, h2, he⟩ := bd he; cases he
  refine ha L S σ x σ1 hn h1 (hb L _ σ1 y _ (psz_c2 x S hn) h2 (hG.1 _ _ _ _ _ _ hd0 ⟨rfl, _, _, _, rfl, hG.1 _ _ _ _ _ _ hd ⟨rfl, t, _, S, ht, rfl, fun q => ?_, fun q => ?_⟩⟩))
  · have q2 := (pCb_iff c _ 0).mpr q
    rw [lcmp_iff] at q2; rw [pCj_neg, q2] at hg; exact hg
  · have : pCj c x y = false := by cases h : pCj c x y with | true => exact absurd ((pCb_iff c _ 0).mp (by rw [lcmp_iff]; exact h)) q | false => rfl
    rw [pCj_neg, this] at hg; exact hg
theorem xbAnd {n pc p1 pt pf : Nat} {a b : eB} (ha : XB G n pc p1 pf a) (hb : XB G n p1 pt pf b) : XB G n pc pt pf (bAnd a b) := by
  intro L S σ v σ' hn he hg; obtain ⟨⟨x, σ1⟩, h1, he⟩ := bd he
  refine ha L S σ x σ1 hn h1 ?_
  cases x with
  | true => exact hb L S σ1 v σ' hn he hg
  | false => cases he; exact hg
theorem xbOr {n pc p1 pt pf : Nat} {a b : eB} (ha : XB G n pc pt p1 a) (hb : XB G n p1 pt pf b) : XB G n pc pt pf (bOr a b) := by
  intro L S σ v σ' hn he hg; obtain ⟨⟨x, σ1⟩, h1, he⟩ := bd he
  refine ha L S σ x σ1 hn h1 ?_
  cases x with
  | true => cases he; exact hg
  | false => exact hb L S σ1 v σ' hn he hg
theorem xbNot {n pc pt pf : Nat} {a : eB} (ha : XB G n pc pf pt a) : XB G n pc pt pf (bNot a) := by
  intro L S σ v σ' hn he hg; obtain ⟨⟨x, σ1⟩, h1, he⟩ := bd he; cases he
  refine ha L S σ x _ hn h1 ?_
  cases x <;> exact hg
theorem xbGT (hG : pRules own cc scr Rn RT G) {n pc pt pf t : Nat} {off : Int} {a : eB} (ha : XB G n pc pt pf a) (hd : decode cc pt = .ok (.goto off, 3)) (ht : pTg pt off t) : XB G n pc t pf a := by
  intro L S σ v σ' hn he hg
  refine ha L S σ v σ' hn he ?_
  cases v with
  | true => exact hG.1 _ _ _ _ _ _ hd ⟨rfl, t, ht, hg⟩
  | false => exact hg
theorem xbGF (hG : pRules own cc scr Rn RT G) {n pc pt pf t : Nat} {off : Int} {a : eB} (ha : XB G n pc pt pf a) (hd : decode cc pf = .ok (.goto off, 3)) (ht : pTg pf off t) : XB G n pc pt t a := by
  intro L S σ v σ' hn he hg
  refine ha L S σ v σ' hn he ?_
  cases v with
  | true => exact hg
  | false => exact hG.1 _ _ _ _ _ _ hd ⟨rfl, t, ht, hg⟩
/-- `while (true)` -/
theorem xbT {n pc pf : Nat} : XB G n pc pc pf (kZ true) := by
  intro L S σ v σ' hn he hg; cases he; exact hg
-- arguments
theorem xaN {n pc : Nat} : XA G 0 n pc pc aN := by
  intro L S σ As σ' hn he; cases he; exact ⟨rfl, fun h => h⟩
theorem xaCI {k n pc p1 p2 : Nat} {a : eI} {r : eA} (ha : XI G n pc p1 a) (hr : XA G k (n + 1) p1 p2 r) : XA G (k + 1) n pc p2 (aCI a r) := by
  intro L S σ As σ' hn he; obtain ⟨⟨x, σ1⟩, h1, he⟩ := bd he; obtain ⟨⟨Bs, σ2⟩, h2, he⟩ := bd he; cases he
  obtain ⟨g1, g2⟩ := hr L _ σ1 Bs _ (psz_c1 _ S hn) h2
  refine ⟨by simp [g1], fun hg => ha L S σ x σ1 hn h1 (g2 ?_)⟩
  simpa using hg
theorem xaCJ {k n pc p1 p2 : Nat} {a : eJ} {r : eA} (ha : XJ G n pc p1 a) (hr : XA G k (n + 2) p1 p2 r) : XA G (k + 1) n pc p2 (aCJ a r) := by
  intro L S σ As σ' hn he; obtain ⟨⟨x, σ1⟩, h1, he⟩ := bd he; obtain ⟨⟨Bs, σ2⟩, h2, he⟩ := bd he; cases he
  obtain ⟨g1, g2⟩ := hr L _ σ1 Bs _ (psz_c2 _ S hn) h2
  refine ⟨by simp [g1], fun hg => ha L S σ x σ1 hn h1 (g2 ?_)⟩
  simpa using hg
theorem xaCR {k n pc p1 p2 : Nat} {a : eR} {r : eA} (ha : XR G n pc p1 a) (hr : XA G k (n + 1) p1 p2 r) : XA G (k + 1) n pc p2 (aCR a r) := by
  intro L S σ As σ' hn he; obtain ⟨⟨x, σ1⟩, h1, he⟩ := bd he; obtain ⟨⟨Bs, σ2⟩, h2, he⟩ := bd he; cases he
  obtain ⟨g1, g2⟩ := hr L _ σ1 Bs _ (psz_c3 _ S hn) h2
  refine ⟨by simp [g1], fun hg => ha L S σ x σ1 hn h1 (g2 ?_)⟩
  simpa using hg
theorem xaCZ {k n pc p1 p2 : Nat} {a : eB} {r : eA} (ha : XZ G n pc p1 a) (hr : XA G k (n + 1) p1 p2 r) : XA G (k + 1) n pc p2 (aCZ a r) := by
  intro L S σ As σ' hn he; obtain ⟨⟨x, σ1⟩, h1, he⟩ := bd he; obtain ⟨⟨Bs, σ2⟩, h2, he⟩ := bd he; cases he
  obtain ⟨g1, g2⟩ := hr L _ σ1 Bs _ (psz_c1 _ S hn) h2
  refine ⟨by simp [g1], fun hg => ha L S σ x σ1 hn h1 (g2 ?_)⟩
  simpa using hg
theorem vC_spec {α : Type} {ci : Nat} {F : pF} {f : Option pV → Option α} {args : eA} {L : pLo} {σ σ' : pM} {v : α} (h : vC ci F f args L σ = some (v, σ')) : ∃ (As : List pV) (σ1 : pM) (r : Option pV), args L σ = some (As, σ1) ∧ ckV ci As = true ∧ F As σ1 = some (r, σ') ∧ f r = some v := by
  obtain ⟨⟨As, σ1⟩, h1, h⟩ := bd h
  by_cases h0 : ckV ci As = true
  · rw [if_pos h0] at h
    obtain ⟨⟨r, σ2⟩, h2, h⟩ := bd h
    cases hf : f r with
    | none => rw [hf] at h; cases h
    | some x => rw [hf] at h; cases h; exact ⟨As, σ1, r, h1, h0, h2, hf⟩
  · rw [if_neg h0] at h; cases h
theorem ckV_spec {ci : Nat} (hci : ci < 99) {As : List pV} (h : ckV ci As = true) : ∃ (o : Nat) (Bs : List pV), As = pR o :: Bs ∧ clsOf o = ci := by
  unfold ckV at h
  rw [if_neg (by omega)] at h
  split at h
  · rename_i o Bs; exact ⟨o, Bs, rfl, by simpa using h⟩
  · cases h
theorem xcV (hG : pRules own cc scr Rn RT G) {α : Type} {k n pc p1 idx ci : Nat} {y : MethodName} {F : pF} {f : Option pV → Option α} {args : eA} (ha : XA G (k + 1) n pc p1 args) (hd : decode cc p1 = .ok (.invokevirtual idx, 3)) (hl : CLV own idx y k ci) (hok : pOK Rn y F) (hn8 : n ≤ 8)
    {L : pLo} {S : List pV} {σ σ' : pM} {v : α} (hn : psz S ≤ n) (h : vC ci F f args L σ = some (v, σ')) (hg : ∀ r : Option pV, f r = some v → G (p1 + 3) (L, r.toList ++ S, σ')) : G pc (L, S, σ) := by
  obtain ⟨As, σ1, r, h1, h2, h3, h4⟩ := vC_spec h
  obtain ⟨o, Bs, rfl, h5⟩ := ckV_spec hl.2.2.2.2.2.1 h2
  obtain ⟨g1, g2⟩ := ha L S σ _ σ1 hn h1
  refine g2 (hG.1 _ _ _ _ _ _ hd ⟨rfl, y, k, ci, o, Bs, S, r, σ', hl, by simp, by simpa using g1, h5, by omega, hok _ _ _ _ h3, hg r h4⟩)
theorem xcS (hG : pRules own cc scr Rn RT G) {α : Type} {k n pc p1 idx : Nat} {y : MethodName} {F : pF} {f : Option pV → Option α} {args : eA} (ha : XA G k n pc p1 args) (hd : decode cc p1 = .ok (.invokestatic idx, 3)) (hl : CLS own idx y k ∨ CLN own idx y k) (hok : pOK Rn y F) (hn8 : n ≤ 8)
    {L : pLo} {S : List pV} {σ σ' : pM} {v : α} (hn : psz S ≤ n) (h : vC 99 F f args L σ = some (v, σ')) (hg : ∀ r : Option pV, f r = some v → G (p1 + 3) (L, r.toList ++ S, σ')) : G pc (L, S, σ) := by
  obtain ⟨As, σ1, r, h1, h2, h3, h4⟩ := vC_spec h
  obtain ⟨g1, g2⟩ := ha L S σ _ σ1 hn h1
  exact g2 (hG.1 _ _ _ _ _ _ hd ⟨rfl, Or.inl ⟨y, k, As, S, r, σ', hl, rfl, g1, by omega, hok _ _ _ _ h3, hg r h4⟩⟩)
theorem rI_spec {r : Option pV} {v : Int32} (h : rI r = some v) : r = some (pI v) := by
  unfold rI at h; split at h
  · cases h; rfl
  · cases h
theorem rJ_spec {r : Option pV} {v : Int64} (h : rJ r = some v) : r = some (pJ v) := by
  unfold rJ at h; split at h
  · cases h; rfl
  · cases h
theorem rR_spec {r : Option pV} {v : Nat} (h : rR r = some v) : r = some (pR v) := by
  unfold rR at h; split at h
  · cases h; rfl
  · cases h
theorem rZ_spec {r : Option pV} {v : Bool} (h : rZ r = some v) : r = some (pI (zI v)) := by
  unfold rZ at h; split at h
  · rw [iZ_zI h]
  · cases h
theorem rN_spec {r : Option pV} {v : Unit} (h : rN r = some v) : r = none := by
  unfold rN at h; split at h
  · rfl
  · cases h
theorem xvI (hG : pRules own cc scr Rn RT G) {k n pc p1 idx ci : Nat} {y : MethodName} {F : pF} {args : eA} (ha : XA G (k + 1) n pc p1 args) (hd : decode cc p1 = .ok (.invokevirtual idx, 3)) (hl : CLV own idx y k ci) (hok : pOK Rn y F) (hn8 : n ≤ 8) : XI G n pc (p1 + 3) (vC ci F rI args) := by
  intro L S σ v σ' hn he hg; exact xcV hG ha hd hl hok hn8 hn he (fun r h => by rw [rI_spec h]; exact hg)
theorem xsI (hG : pRules own cc scr Rn RT G) {k n pc p1 idx : Nat} {y : MethodName} {F : pF} {args : eA} (ha : XA G k n pc p1 args) (hd : decode cc p1 = .ok (.invokestatic idx, 3)) (hl : CLS own idx y k ∨ CLN own idx y k) (hok : pOK Rn y F) (hn8 : n ≤ 8) : XI G n pc (p1 + 3) (vC 99 F rI args) := by
  intro L S σ v σ' hn he hg; exact xcS hG ha hd hl hok hn8 hn he (fun r h => by rw [rI_spec h]; exact hg)
theorem xvJ (hG : pRules own cc scr Rn RT G) {k n pc p1 idx ci : Nat} {y : MethodName} {F : pF} {args : eA} (ha : XA G (k + 1) n pc p1 args) (hd : decode cc p1 = .ok (.invokevirtual idx, 3)) (hl : CLV own idx y k ci) (hok : pOK Rn y F) (hn8 : n ≤ 8) : XJ G n pc (p1 + 3) (vC ci F rJ args) := by
  intro L S σ v σ' hn he hg; exact xcV hG ha hd hl hok hn8 hn he (fun r h => by rw [rJ_spec h]; exact hg)
theorem xsJ (hG : pRules own cc scr Rn RT G) {k n pc p1 idx : Nat} {y : MethodName} {F : pF} {args : eA} (ha : XA G k n pc p1 args) (hd : decode cc p1 = .ok (.invokestatic idx, 3)) (hl : CLS own idx y k ∨ CLN own idx y k) (hok : pOK Rn y F) (hn8 : n ≤ 8) : XJ G n pc (p1 + 3) (vC 99 F rJ args) := by
  intro L S σ v σ' hn he hg; exact xcS hG ha hd hl hok hn8 hn he (fun r h => by rw [rJ_spec h]; exact hg)
theorem xvR (hG : pRules own cc scr Rn RT G) {k n pc p1 idx ci : Nat} {y : MethodName} {F : pF} {args : eA} (ha : XA G (k + 1) n pc p1 args) (hd : decode cc p1 = .ok (.invokevirtual idx, 3)) (hl : CLV own idx y k ci) (hok : pOK Rn y F) (hn8 : n ≤ 8) : XR G n pc (p1 + 3) (vC ci F rR args) := by
  intro L S σ v σ' hn he hg; exact xcV hG ha hd hl hok hn8 hn he (fun r h => by rw [rR_spec h]; exact hg)
theorem xsR (hG : pRules own cc scr Rn RT G) {k n pc p1 idx : Nat} {y : MethodName} {F : pF} {args : eA} (ha : XA G k n pc p1 args) (hd : decode cc p1 = .ok (.invokestatic idx, 3)) (hl : CLS own idx y k ∨ CLN own idx y k) (hok : pOK Rn y F) (hn8 : n ≤ 8) : XR G n pc (p1 + 3) (vC 99 F rR args) := by
  intro L S σ v σ' hn he hg; exact xcS hG ha hd hl hok hn8 hn he (fun r h => by rw [rR_spec h]; exact hg)
theorem xvZ (hG : pRules own cc scr Rn RT G) {k n pc p1 idx ci : Nat} {y : MethodName} {F : pF} {args : eA} (ha : XA G (k + 1) n pc p1 args) (hd : decode cc p1 = .ok (.invokevirtual idx, 3)) (hl : CLV own idx y k ci) (hok : pOK Rn y F) (hn8 : n ≤ 8) : XZ G n pc (p1 + 3) (vC ci F rZ args) := by
  intro L S σ v σ' hn he hg; exact xcV hG ha hd hl hok hn8 hn he (fun r h => by rw [rZ_spec h]; exact hg)
theorem xsZ (hG : pRules own cc scr Rn RT G) {k n pc p1 idx : Nat} {y : MethodName} {F : pF} {args : eA} (ha : XA G k n pc p1 args) (hd : decode cc p1 = .ok (.invokestatic idx, 3)) (hl : CLS own idx y k ∨ CLN own idx y k) (hok : pOK Rn y F) (hn8 : n ≤ 8) : XZ G n pc (p1 + 3) (vC 99 F rZ args) := by
  intro L S σ v σ' hn he hg; exact xcS hG ha hd hl hok hn8 hn he (fun r h => by rw [rZ_spec h]; exact hg)
theorem xxMax (hG : pRules own cc scr Rn RT G) {n pc p1 p2 idx : Nat} {a b : eI} (ha : XI G n pc p1 a) (hb : XI G (n + 1) p1 p2 b) (hd : decode cc p2 = .ok (.invokestatic idx, 3)) (hl : Cond.methodLink own idx Lib.Math.max.name ∈ tb) (hn8 : n ≤ 8) : XI G n pc (p2 + 3) (xMax a b) := by
  intro L S σ v σ' hn he hg; obtain ⟨⟨x, σ1⟩, h1, he⟩ := bd he; obtain ⟨⟨y, σ2⟩, h2, he⟩ := bd he; cases he
  exact ha L S σ x σ1 hn h1 (hb L _ σ1 y _ (psz_c1 x S hn) h2 (hG.1 _ _ _ _ _ _ hd ⟨rfl, Or.inr (Or.inl ⟨x, y, S, hl, rfl, by omega, hg⟩)⟩))
theorem xxMin (hG : pRules own cc scr Rn RT G) {n pc p1 p2 idx : Nat} {a b : eI} (ha : XI G n pc p1 a) (hb : XI G (n + 1) p1 p2 b) (hd : decode cc p2 = .ok (.invokestatic idx, 3)) (hl : Cond.methodLink own idx Lib.Math.min.name ∈ tb) (hn8 : n ≤ 8) : XI G n pc (p2 + 3) (xMin a b) := by
  intro L S σ v σ' hn he hg; obtain ⟨⟨x, σ1⟩, h1, he⟩ := bd he; obtain ⟨⟨y, σ2⟩, h2, he⟩ := bd he; cases he
  exact ha L S σ x σ1 hn h1 (hb L _ σ1 y _ (psz_c1 x S hn) h2 (hG.1 _ _ _ _ _ _ hd ⟨rfl, Or.inr (Or.inr (Or.inl ⟨x, y, S, hl, rfl, by omega, hg⟩))⟩))
-- statements
theorem sxSkip {p pB pC : Nat} : SX G RT p p pB pC sSkip := by
  intro L σ o he ha; cases he; exact ha
theorem sxSeq {pc p1 pN pB pC : Nat} {c1 c2 : sC} (h1 : SX G RT pc p1 pB pC c1) (h2 : SX G RT p1 pN pB pC c2) : SX G RT pc pN pB pC (sSeq c1 c2) := by
  intro L σ o he ha; obtain ⟨o1, g1, he⟩ := bd he
  refine h1 L σ o1 g1 ?_
  rcases o1 with ⟨L1, σ1⟩ | ⟨L1, σ1⟩ | ⟨L1, σ1⟩ | ⟨r, σ1⟩
  · exact h2 L1 σ1 o he ha
  · cases he; exact ha
  · cases he; exact ha
  · cases he; exact ha
theorem sxGo (hG : pRules own cc scr Rn RT G) {pc p1 t pB pC : Nat} {off : Int} {c : sC} (h : SX G RT pc p1 pB pC c) (hd : decode cc p1 = .ok (.goto off, 3)) (ht : pTg p1 off t) : SX G RT pc t pB pC c := by
  intro L σ o he ha
  refine h L σ o he ?_
  rcases o with ⟨L1, σ1⟩ | ⟨L1, σ1⟩ | ⟨L1, σ1⟩ | ⟨r, σ1⟩
  · exact hG.1 _ _ _ _ _ _ hd ⟨rfl, t, ht, ha⟩
  · exact ha
  · exact ha
  · exact ha
/-- an empty road that is a jump -/
theorem sxJmp (hG : pRules own cc scr Rn RT G) {pc t pN pB pC : Nat} {off : Int} {c : sC} (hd : decode cc pc = .ok (.goto off, 3)) (ht : pTg pc off t) (h : SX G RT t pN pB pC c) : SX G RT pc pN pB pC c := by
  intro L σ o he ha
  exact hG.1 _ _ _ _ _ _ hd ⟨rfl, t, ht, h L σ o he ha⟩
theorem sxBrk {p pN pC : Nat} : SX G RT p pN p pC sBrk := by
  intro L σ o he ha; cases he; exact ha
theorem sxCnt {p pN pB : Nat} : SX G RT p pN pB p sCnt := by
  intro L σ o he ha; cases he; exact ha
theorem kil_foldl_len (ks : List Nat) : ∀ L : pLo, (ks.foldl kil L).length = L.length := by
  induction ks with
  | nil => intro L; rfl
  | cons k t ih => intro L; rw [List.foldl_cons, ih]; simp [kil]
theorem kil_foldl (ks : List Nat) : ∀ (L : pLo) (k : Nat) (v : pV), (ks.foldl kil L)[k]? = some (some v) → L[k]? = some (some v) := by
  induction ks with
  | nil => intro L k v h; exact h
  | cons j t ih =>
    intro L k v h
    have := ih _ k v h
    unfold kil at this
    rw [List.getElem?_set] at this
    split at this
    · split at this <;> simp at this
    · exact this
theorem sxKil (hG : pRules own cc scr Rn RT G) {p pB pC : Nat} {ks : List Nat} : SX G RT p p pB pC (sKil ks) := by
  intro L σ o he ha; cases he
  exact hG.2 _ _ _ _ _ (kil_foldl_len ks L) (kil_foldl ks L) ha
theorem sxIf {pc pt pf pN pB pC : Nat} {c : eB} {c1 c2 : sC} (hc : XB G 0 pc pt pf c) (h1 : SX G RT pt pN pB pC c1) (h2 : SX G RT pf pN pB pC c2) : SX G RT pc pN pB pC (sIf c c1 c2) := by
  intro L σ o he ha; obtain ⟨⟨x, σ1⟩, g1, he⟩ := bd he
  refine hc L [] σ x σ1 (Nat.zero_le _) g1 ?_
  cases x with
  | true => exact h1 L σ1 o he ha
  | false => exact h2 L σ1 o he ha
theorem sxIt {ph pt pN ps pB pC : Nat} {c : eB} {b u : sC} (hc : XB G 0 ph pt pN c) (hb : SX G RT pt ps pN ps b) (hu : SX G RT ps ph 0 0 u) : ∀ n, SX G RT ph pN pB pC (sIt n c b u)
  | 0 => by intro L σ o he; cases he
  | n + 1 => by
    intro L σ o he ha
    obtain ⟨⟨x, σ1⟩, g1, he⟩ := bd he
    refine hc L [] σ x σ1 (Nat.zero_le _) g1 ?_
    cases x with
    | false => cases he; exact ha
    | true =>
      rw [if_pos rfl] at he
      obtain ⟨o1, g2, he⟩ := bd he
      refine hb L σ1 o1 g2 ?_
      rcases o1 with ⟨L1, σ2⟩ | ⟨L1, σ2⟩ | ⟨L1, σ2⟩ | ⟨r, σ2⟩
      · obtain ⟨o2, g3, he⟩ := bd he
        rcases o2 with ⟨L2, σ3⟩ | o2
        · exact hu L1 σ2 _ g3 (sxIt hc hb hu n L2 σ3 o he ha)
        · cases he
      · cases he; exact ha
      · obtain ⟨o2, g3, he⟩ := bd he
        rcases o2 with ⟨L2, σ3⟩ | o2
        · exact hu L1 σ2 _ g3 (sxIt hc hb hu n L2 σ3 o he ha)
        · cases he
      · cases he; exact ha
theorem sxWh {ph pt pN ps pB pC : Nat} {c : eB} {b u : sC} (hc : XB G 0 ph pt pN c) (hb : SX G RT pt ps pN ps b) (hu : SX G RT ps ph 0 0 u) : SX G RT ph pN pB pC (sWh c b u) := sxIt hc hb hu _
theorem sxIn (hG : pRules own cc scr Rn RT G) {pc p1 k pB pC : Nat} {e : eI} (ha : XI G 0 pc p1 e) {i : Fin 4} (hd : decode cc p1 = .ok (.istore_n i, 1)) (hk : (i : Nat) = k) : SX G RT pc (p1 + 1) pB pC (sI k e) := by
  intro L σ o he hg; subst hk; unfold sI at he
  split at he
  · rename_i hlt
    obtain ⟨⟨x, σ1⟩, g1, he⟩ := bd he; cases he
    exact ha L [] σ x _ (Nat.zero_le _) g1 (hG.1 _ _ _ _ _ _ hd ⟨rfl, _, _, rfl, hlt, hg⟩)
  · cases he
theorem sxI (hG : pRules own cc scr Rn RT G) {pc p1 k pB pC : Nat} {e : eI} (ha : XI G 0 pc p1 e) (hd : decode cc p1 = .ok (.istore k, 2)) : SX G RT pc (p1 + 2) pB pC (sI k e) := by
  intro L σ o he hg; unfold sI at he
  split at he
  · rename_i hlt
    obtain ⟨⟨x, σ1⟩, g1, he⟩ := bd he; cases he
    exact ha L [] σ x _ (Nat.zero_le _) g1 (hG.1 _ _ _ _ _ _ hd ⟨rfl, _, _, rfl, hlt, hg⟩)
  · cases he
theorem sxZn (hG : pRules own cc scr Rn RT G) {pc p1 k pB pC : Nat} {e : eB} (ha : XZ G 0 pc p1 e) {i : Fin 4} (hd : decode cc p1 = .ok (.istore_n i, 1)) (hk : (i : Nat) = k) : SX G RT pc (p1 + 1) pB pC (sZ k e) := by
  intro L σ o he hg; subst hk; unfold sZ at he
  split at he
  · rename_i hlt
    obtain ⟨⟨x, σ1⟩, g1, he⟩ := bd he; cases he
    exact ha L [] σ x _ (Nat.zero_le _) g1 (hG.1 _ _ _ _ _ _ hd ⟨rfl, _, _, rfl, hlt, hg⟩)
  · cases he
theorem sxZ (hG : pRules own cc scr Rn RT G) {pc p1 k pB pC : Nat} {e : eB} (ha : XZ G 0 pc p1 e) (hd : decode cc p1 = .ok (.istore k, 2)) : SX G RT pc (p1 + 2) pB pC (sZ k e) := by
  intro L σ o he hg; unfold sZ at he
  split at he
  · rename_i hlt
    obtain ⟨⟨x, σ1⟩, g1, he⟩ := bd he; cases he
    exact ha L [] σ x _ (Nat.zero_le _) g1 (hG.1 _ _ _ _ _ _ hd ⟨rfl, _, _, rfl, hlt, hg⟩)
  · cases he
theorem sxRn (hG : pRules own cc scr Rn RT G) {pc p1 k pB pC : Nat} {e : eR} (ha : XR G 0 pc p1 e) {i : Fin 4} (hd : decode cc p1 = .ok (.astore_n i, 1)) (hk : (i : Nat) = k) : SX G RT pc (p1 + 1) pB pC (sR k e) := by
  intro L σ o he hg; subst hk; unfold sR at he
  split at he
  · rename_i hlt
    obtain ⟨⟨x, σ1⟩, g1, he⟩ := bd he; cases he
    exact ha L [] σ x _ (Nat.zero_le _) g1 (hG.1 _ _ _ _ _ _ hd ⟨rfl, _, _, rfl, hlt, hg⟩)
  · cases he
theorem sxR (hG : pRules own cc scr Rn RT G) {pc p1 k pB pC : Nat} {e : eR} (ha : XR G 0 pc p1 e) (hd : decode cc p1 = .ok (.astore k, 2)) : SX G RT pc (p1 + 2) pB pC (sR k e) := by
  intro L σ o he hg; unfold sR at he
  split at he
  · rename_i hlt
    obtain ⟨⟨x, σ1⟩, g1, he⟩ := bd he; cases he
    exact ha L [] σ x _ (Nat.zero_le _) g1 (hG.1 _ _ _ _ _ _ hd ⟨rfl, _, _, rfl, hlt, hg⟩)
  · cases he
theorem sxJn (hG : pRules own cc scr Rn RT G) {pc p1 k pB pC : Nat} {e : eJ} (ha : XJ G 0 pc p1 e) {i : Fin 4} (hd : decode cc p1 = .ok (.lstore_n i, 1)) (hk : (i : Nat) = k) : SX G RT pc (p1 + 1) pB pC (sJ k e) := by
  intro L σ o he hg; subst hk; unfold sJ at he
  split at he
  · rename_i hlt
    obtain ⟨⟨x, σ1⟩, g1, he⟩ := bd he; cases he
    exact ha L [] σ x _ (Nat.zero_le _) g1 (hG.1 _ _ _ _ _ _ hd ⟨rfl, _, _, rfl, hlt, hg⟩)
  · cases he
theorem sxJ (hG : pRules own cc scr Rn RT G) {pc p1 k pB pC : Nat} {e : eJ} (ha : XJ G 0 pc p1 e) (hd : decode cc p1 = .ok (.lstore k, 2)) : SX G RT pc (p1 + 2) pB pC (sJ k e) := by
  intro L σ o he hg; unfold sJ at he
  split at he
  · rename_i hlt
    obtain ⟨⟨x, σ1⟩, g1, he⟩ := bd he; cases he
    exact ha L [] σ x _ (Nat.zero_le _) g1 (hG.1 _ _ _ _ _ _ hd ⟨rfl, _, _, rfl, hlt, hg⟩)
  · cases he
theorem sxInc (hG : pRules own cc scr Rn RT G) {pc k pB pC : Nat} {z : Int} (hd : decode cc pc = .ok (.iinc k z, 3)) : SX G RT pc (pc + 3) pB pC (sInc k z) := by
  intro L σ o he hg; unfold sInc at he; split at he
  · rename_i x e; cases he; exact hG.1 _ _ _ _ _ _ hd ⟨rfl, x, e, hg⟩
  · cases he
theorem sxRI (hG : pRules own cc scr Rn RT G) {pc p1 pN pB pC : Nat} {e : eI} (ha : XI G 0 pc p1 e) (hd : decode cc p1 = .ok (.ireturn, 1)) : SX G RT pc pN pB pC (sRI e) := by
  intro L σ o he hg; obtain ⟨⟨x, σ1⟩, g1, he⟩ := bd he; cases he
  exact ha L [] σ x _ (Nat.zero_le _) g1 (hG.1 _ _ _ _ _ _ hd ⟨rfl, x, rfl, hg⟩)
theorem sxRZ (hG : pRules own cc scr Rn RT G) {pc p1 pN pB pC : Nat} {e : eB} (ha : XZ G 0 pc p1 e) (hd : decode cc p1 = .ok (.ireturn, 1)) : SX G RT pc pN pB pC (sRZ e) := by
  intro L σ o he hg; obtain ⟨⟨x, σ1⟩, g1, he⟩ := bd he; cases he
  exact ha L [] σ x _ (Nat.zero_le _) g1 (hG.1 _ _ _ _ _ _ hd ⟨rfl, _, rfl, hg⟩)
theorem sxRJ (hG : pRules own cc scr Rn RT G) {pc p1 pN pB pC : Nat} {e : eJ} (ha : XJ G 0 pc p1 e) (hd : decode cc p1 = .ok (.lreturn, 1)) : SX G RT pc pN pB pC (sRJ e) := by
  intro L σ o he hg; obtain ⟨⟨x, σ1⟩, g1, he⟩ := bd he; cases he
  exact ha L [] σ x _ (Nat.zero_le _) g1 (hG.1 _ _ _ _ _ _ hd ⟨rfl, x, rfl, hg⟩)
theorem sxRR (hG : pRules own cc scr Rn RT G) {pc p1 pN pB pC : Nat} {e : eR} (ha : XR G 0 pc p1 e) (hd : decode cc p1 = .ok (.areturn, 1)) : SX G RT pc pN pB pC (sRR e) := by
  intro L σ o he hg; obtain ⟨⟨x, σ1⟩, g1, he⟩ := bd he; cases he
  exact ha L [] σ x _ (Nat.zero_le _) g1 (hG.1 _ _ _ _ _ _ hd ⟨rfl, x, rfl, hg⟩)
theorem sxRV (hG : pRules own cc scr Rn RT G) {pc pN pB pC : Nat} (hd : decode cc pc = .ok (.return_, 1)) : SX G RT pc pN pB pC sRV := by
  intro L σ o he hg; cases he; exact hG.1 _ _ _ _ _ _ hd ⟨rfl, rfl, hg⟩
theorem sxPut (hG : pRules own cc scr Rn RT G) {pc p1 p2 pB pC idx ci j : Nat} {a : eR} {e : eI} (ha : XR G 0 pc p1 a) (he : XI G 1 p1 p2 e) (hd : decode cc p2 = .ok (.putfield idx, 3)) (hf : FP own idx ci j) : SX G RT pc (p2 + 3) pB pC (sPut ci j a e) := by
  intro L σ o h hg; obtain ⟨⟨x, σ1⟩, g1, h⟩ := bd h; obtain ⟨⟨y, σ2⟩, g2, h⟩ := bd h
  by_cases h0 : okI ci j x = true
  · rw [if_pos h0] at h; cases h
    exact ha L [] σ x _ (Nat.zero_le _) g1 (he L _ σ1 y σ2 (psz_c3 x [] (Nat.zero_le 0)) g2 (hG.1 _ _ _ _ _ _ hd ⟨rfl, ci, j, x, y, [], rfl, hf, h0, hg⟩))
  · rw [if_neg h0] at h; cases h

theorem sxMod_iadd (hG : pRules own cc scr Rn RT G) {pc p1 p2 pB pC idx idx2 ci j : Nat} {a : eR} {e : eI} (ha : XR G 0 pc p1 a) (hd1 : decode cc p1 = .ok (.dup, 1)) (hd2 : decode cc (p1 + 1) = .ok (.getfield idx, 3)) (hfl : FL own idx ci j) (he : XI G 2 (p1 + 4) p2 e) (hd3 : decode cc p2 = .ok (.iadd, 1)) (hd : decode cc (p2 + 1) = .ok (.putfield idx2, 3)) (hf : FP own idx2 ci j) : SX G RT pc (p2 + 4) pB pC (sMod ci j (fun x y => x + y) a e) := by
  intro L σ o h hg; obtain ⟨⟨x, σ1⟩, g1, h⟩ := bd h
  by_cases h0 : okI ci j x = true
  · rw [if_pos h0] at h; obtain ⟨⟨y, σ2⟩, g2, h⟩ := bd h; cases h
    refine ha L [] σ x σ1 (Nat.zero_le _) g1 (hG.1 _ _ _ _ _ _ hd1 ⟨rfl, pR x, [], rfl, rfl, hG.1 _ _ _ _ _ _ hd2 ⟨rfl, ci, j, x, [pR x], rfl, hfl, Or.inl ⟨h0, ?_⟩⟩⟩)
    exact he L _ σ1 y σ2 (by simp [psz, pcat]) g2 (hG.1 _ _ _ _ _ _ hd3 ⟨rfl, _, _, _, rfl, hG.1 _ _ _ _ _ _ hd ⟨rfl, ci, j, x, _, [], rfl, hf, h0, hg⟩⟩)
  · rw [if_neg h0] at h; cases h
theorem sxMod_isub (hG : pRules own cc scr Rn RT G) {pc p1 p2 pB pC idx idx2 ci j : Nat} {a : eR} {e : eI} (ha : XR G 0 pc p1 a) (hd1 : decode cc p1 = .ok (.dup, 1)) (hd2 : decode cc (p1 + 1) = .ok (.getfield idx, 3)) (hfl : FL own idx ci j) (he : XI G 2 (p1 + 4) p2 e) (hd3 : decode cc p2 = .ok (.isub, 1)) (hd : decode cc (p2 + 1) = .ok (.putfield idx2, 3)) (hf : FP own idx2 ci j) : SX G RT pc (p2 + 4) pB pC (sMod ci j (fun x y => x - y) a e) := by
  intro L σ o h hg; obtain ⟨⟨x, σ1⟩, g1, h⟩ := bd h
  by_cases h0 : okI ci j x = true
  · rw [if_pos h0] at h; obtain ⟨⟨y, σ2⟩, g2, h⟩ := bd h; cases h
    refine ha L [] σ x σ1 (Nat.zero_le _) g1 (hG.1 _ _ _ _ _ _ hd1 ⟨rfl, pR x, [], rfl, rfl, hG.1 _ _ _ _ _ _ hd2 ⟨rfl, ci, j, x, [pR x], rfl, hfl, Or.inl ⟨h0, ?_⟩⟩⟩)
    exact he L _ σ1 y σ2 (by simp [psz, pcat]) g2 (hG.1 _ _ _ _ _ _ hd3 ⟨rfl, _, _, _, rfl, hG.1 _ _ _ _ _ _ hd ⟨rfl, ci, j, x, _, [], rfl, hf, h0, hg⟩⟩)
  · rw [if_neg h0] at h; cases h
theorem sxMod_ior (hG : pRules own cc scr Rn RT G) {pc p1 p2 pB pC idx idx2 ci j : Nat} {a : eR} {e : eI} (ha : XR G 0 pc p1 a) (hd1 : decode cc p1 = .ok (.dup, 1)) (hd2 : decode cc (p1 + 1) = .ok (.getfield idx, 3)) (hfl : FL own idx ci j) (he : XI G 2 (p1 + 4) p2 e) (hd3 : decode cc p2 = .ok (.ior, 1)) (hd : decode cc (p2 + 1) = .ok (.putfield idx2, 3)) (hf : FP own idx2 ci j) : SX G RT pc (p2 + 4) pB pC (sMod ci j (fun x y => x ||| y) a e) := by
  intro L σ o h hg; obtain ⟨⟨x, σ1⟩, g1, h⟩ := bd h
  by_cases h0 : okI ci j x = true
  · rw [if_pos h0] at h; obtain ⟨⟨y, σ2⟩, g2, h⟩ := bd h; cases h
    refine ha L [] σ x σ1 (Nat.zero_le _) g1 (hG.1 _ _ _ _ _ _ hd1 ⟨rfl, pR x, [], rfl, rfl, hG.1 _ _ _ _ _ _ hd2 ⟨rfl, ci, j, x, [pR x], rfl, hfl, Or.inl ⟨h0, ?_⟩⟩⟩)
    exact he L _ σ1 y σ2 (by simp [psz, pcat]) g2 (hG.1 _ _ _ _ _ _ hd3 ⟨rfl, _, _, _, rfl, hG.1 _ _ _ _ _ _ hd ⟨rfl, ci, j, x, _, [], rfl, hf, h0, hg⟩⟩)
  · rw [if_neg h0] at h; cases h
theorem sxMod_iand (hG : pRules own cc scr Rn RT G) {pc p1 p2 pB pC idx idx2 ci j : Nat} {a : eR} {e : eI} (ha : XR G 0 pc p1 a) (hd1 : decode cc p1 = .ok (.dup, 1)) (hd2 : decode cc (p1 + 1) = .ok (.getfield idx, 3)) (hfl : FL own idx ci j) (he : XI G 2 (p1 + 4) p2 e) (hd3 : decode cc p2 = .ok (.iand, 1)) (hd : decode cc (p2 + 1) = .ok (.putfield idx2, 3)) (hf : FP own idx2 ci j) : SX G RT pc (p2 + 4) pB pC (sMod ci j (fun x y => x &&& y) a e) := by
  intro L σ o h hg; obtain ⟨⟨x, σ1⟩, g1, h⟩ := bd h
  by_cases h0 : okI ci j x = true
  · rw [if_pos h0] at h; obtain ⟨⟨y, σ2⟩, g2, h⟩ := bd h; cases h
    refine ha L [] σ x σ1 (Nat.zero_le _) g1 (hG.1 _ _ _ _ _ _ hd1 ⟨rfl, pR x, [], rfl, rfl, hG.1 _ _ _ _ _ _ hd2 ⟨rfl, ci, j, x, [pR x], rfl, hfl, Or.inl ⟨h0, ?_⟩⟩⟩)
    exact he L _ σ1 y σ2 (by simp [psz, pcat]) g2 (hG.1 _ _ _ _ _ _ hd3 ⟨rfl, _, _, _, rfl, hG.1 _ _ _ _ _ _ hd ⟨rfl, ci, j, x, _, [], rfl, hf, h0, hg⟩⟩)
  · rw [if_neg h0] at h; cases h
theorem sxAst (hG : pRules own cc scr Rn RT G) {pc p1 p2 p3 pB pC : Nat} {a : eR} {i : eI} {e : eI} (ha : XR G 0 pc p1 a) (hi : XI G 1 p1 p2 i) (he : XI G 2 p2 p3 e) (hd : decode cc p3 = .ok (.iastore, 1)) : SX G RT pc (p3 + 1) pB pC (sAst a i e) := by
  intro L σ o h hg; obtain ⟨⟨x, σ1⟩, g1, h⟩ := bd h; obtain ⟨⟨y, σ2⟩, g2, h⟩ := bd h; obtain ⟨⟨z, σ3⟩, g3, h⟩ := bd h
  by_cases h0 : y < 0 ∨ lenOf 0 x ≤ y.toNatClampNeg
  · rw [if_pos h0] at h; cases h
  · rw [if_neg h0] at h; cases h
    exact ha L [] σ x σ1 (Nat.zero_le _) g1 (hi L _ σ1 y σ2 (psz_c3 x [] (Nat.zero_le 0)) g2 (he L _ σ2 z σ3 (by simp [psz, pcat]) g3 (hG.1 _ _ _ _ _ _ hd ⟨rfl, x, y, z, [], rfl, h0, hg⟩)))
theorem sxBst (hG : pRules own cc scr Rn RT G) {pc p1 p2 p3 pB pC : Nat} {a : eR} {i : eI} {e : eI} (ha : XR G 0 pc p1 a) (hi : XI G 1 p1 p2 i) (he : XI G 2 p2 p3 e) (hd : decode cc p3 = .ok (.bastore, 1)) : SX G RT pc (p3 + 1) pB pC (sBst a i e) := by
  intro L σ o h hg; obtain ⟨⟨x, σ1⟩, g1, h⟩ := bd h; obtain ⟨⟨y, σ2⟩, g2, h⟩ := bd h; obtain ⟨⟨z, σ3⟩, g3, h⟩ := bd h
  by_cases h0 : y < 0 ∨ lenOf 1 x ≤ y.toNatClampNeg
  · rw [if_pos h0] at h; cases h
  · rw [if_neg h0] at h; cases h
    exact ha L [] σ x σ1 (Nat.zero_le _) g1 (hi L _ σ1 y σ2 (psz_c3 x [] (Nat.zero_le 0)) g2 (he L _ σ2 z σ3 (by simp [psz, pcat]) g3 (hG.1 _ _ _ _ _ _ hd ⟨rfl, x, y, z, [], rfl, h0, hg⟩)))
theorem sxLst (hG : pRules own cc scr Rn RT G) {pc p1 p2 p3 pB pC : Nat} {a : eR} {i : eI} {e : eJ} (ha : XR G 0 pc p1 a) (hi : XI G 1 p1 p2 i) (he : XJ G 2 p2 p3 e) (hd : decode cc p3 = .ok (.lastore, 1)) : SX G RT pc (p3 + 1) pB pC (sLst a i e) := by
  intro L σ o h hg; obtain ⟨⟨x, σ1⟩, g1, h⟩ := bd h; obtain ⟨⟨y, σ2⟩, g2, h⟩ := bd h; obtain ⟨⟨z, σ3⟩, g3, h⟩ := bd h
  by_cases h0 : y < 0 ∨ lenOf 2 x ≤ y.toNatClampNeg
  · rw [if_pos h0] at h; cases h
  · rw [if_neg h0] at h; cases h
    exact ha L [] σ x σ1 (Nat.zero_le _) g1 (hi L _ σ1 y σ2 (psz_c3 x [] (Nat.zero_le 0)) g2 (he L _ σ2 z σ3 (by simp [psz, pcat]) g3 (hG.1 _ _ _ _ _ _ hd ⟨rfl, x, y, z, [], rfl, h0, hg⟩)))
theorem sxAmd_iadd (hG : pRules own cc scr Rn RT G) {pc p1 p2 p3 pB pC : Nat} {a : eR} {i e : eI} (ha : XR G 0 pc p1 a) (hi : XI G 1 p1 p2 i) (hd1 : decode cc p2 = .ok (.dup2, 1)) (hd2 : decode cc (p2 + 1) = .ok (.iaload, 1)) (he : XI G 3 (p2 + 2) p3 e) (hd3 : decode cc p3 = .ok (.iadd, 1)) (hd : decode cc (p3 + 1) = .ok (.iastore, 1)) : SX G RT pc (p3 + 2) pB pC (sAmd (fun x y => x + y) a i e) := by
  intro L σ o h hg; obtain ⟨⟨x, σ1⟩, g1, h⟩ := bd h; obtain ⟨⟨y, σ2⟩, g2, h⟩ := bd h
  by_cases h0 : y < 0 ∨ lenOf 0 x ≤ y.toNatClampNeg
  · rw [if_pos h0] at h; cases h
  · rw [if_neg h0] at h; obtain ⟨⟨z, σ3⟩, g3, h⟩ := bd h; cases h
    refine ha L [] σ x σ1 (Nat.zero_le _) g1 (hi L _ σ1 y σ2 (psz_c3 x [] (Nat.zero_le 0)) g2 (hG.1 _ _ _ _ _ _ hd1 ⟨rfl, pI y, pR x, [], rfl, rfl, rfl, hG.1 _ _ _ _ _ _ hd2 ⟨rfl, x, y, [pI y, pR x], rfl, Or.inl ⟨h0, ?_⟩⟩⟩))
    exact he L _ σ2 z σ3 (by simp [psz, pcat]) g3 (hG.1 _ _ _ _ _ _ hd3 ⟨rfl, _, _, _, rfl, hG.1 _ _ _ _ _ _ hd ⟨rfl, x, y, _, [], rfl, h0, hg⟩⟩)
theorem sxAmd_isub (hG : pRules own cc scr Rn RT G) {pc p1 p2 p3 pB pC : Nat} {a : eR} {i e : eI} (ha : XR G 0 pc p1 a) (hi : XI G 1 p1 p2 i) (hd1 : decode cc p2 = .ok (.dup2, 1)) (hd2 : decode cc (p2 + 1) = .ok (.iaload, 1)) (he : XI G 3 (p2 + 2) p3 e) (hd3 : decode cc p3 = .ok (.isub, 1)) (hd : decode cc (p3 + 1) = .ok (.iastore, 1)) : SX G RT pc (p3 + 2) pB pC (sAmd (fun x y => x - y) a i e) := by
  intro L σ o h hg; obtain ⟨⟨x, σ1⟩, g1, h⟩ := bd h; obtain ⟨⟨y, σ2⟩, g2, h⟩ := bd h
  by_cases h0 : y < 0 ∨ lenOf 0 x ≤ y.toNatClampNeg
  · rw [if_pos h0] at h; cases h
  · rw [if_neg h0] at h; obtain ⟨⟨z, σ3⟩, g3, h⟩ := bd h; cases h
    refine ha L [] σ x σ1 (Nat.zero_le _) g1 (hi L _ σ1 y σ2 (psz_c3 x [] (Nat.zero_le 0)) g2 (hG.1 _ _ _ _ _ _ hd1 ⟨rfl, pI y, pR x, [], rfl, rfl, rfl, hG.1 _ _ _ _ _ _ hd2 ⟨rfl, x, y, [pI y, pR x], rfl, Or.inl ⟨h0, ?_⟩⟩⟩))
    exact he L _ σ2 z σ3 (by simp [psz, pcat]) g3 (hG.1 _ _ _ _ _ _ hd3 ⟨rfl, _, _, _, rfl, hG.1 _ _ _ _ _ _ hd ⟨rfl, x, y, _, [], rfl, h0, hg⟩⟩)
theorem sxAmd_ior (hG : pRules own cc scr Rn RT G) {pc p1 p2 p3 pB pC : Nat} {a : eR} {i e : eI} (ha : XR G 0 pc p1 a) (hi : XI G 1 p1 p2 i) (hd1 : decode cc p2 = .ok (.dup2, 1)) (hd2 : decode cc (p2 + 1) = .ok (.iaload, 1)) (he : XI G 3 (p2 + 2) p3 e) (hd3 : decode cc p3 = .ok (.ior, 1)) (hd : decode cc (p3 + 1) = .ok (.iastore, 1)) : SX G RT pc (p3 + 2) pB pC (sAmd (fun x y => x ||| y) a i e) := by
  intro L σ o h hg; obtain ⟨⟨x, σ1⟩, g1, h⟩ := bd h; obtain ⟨⟨y, σ2⟩, g2, h⟩ := bd h
  by_cases h0 : y < 0 ∨ lenOf 0 x ≤ y.toNatClampNeg
  · rw [if_pos h0] at h; cases h
  · rw [if_neg h0] at h; obtain ⟨⟨z, σ3⟩, g3, h⟩ := bd h; cases h
    refine ha L [] σ x σ1 (Nat.zero_le _) g1 (hi L _ σ1 y σ2 (psz_c3 x [] (Nat.zero_le 0)) g2 (hG.1 _ _ _ _ _ _ hd1 ⟨rfl, pI y, pR x, [], rfl, rfl, rfl, hG.1 _ _ _ _ _ _ hd2 ⟨rfl, x, y, [pI y, pR x], rfl, Or.inl ⟨h0, ?_⟩⟩⟩))
    exact he L _ σ2 z σ3 (by simp [psz, pcat]) g3 (hG.1 _ _ _ _ _ _ hd3 ⟨rfl, _, _, _, rfl, hG.1 _ _ _ _ _ _ hd ⟨rfl, x, y, _, [], rfl, h0, hg⟩⟩)
theorem sxLmd_ladd (hG : pRules own cc scr Rn RT G) {pc p1 p2 p3 pB pC : Nat} {a : eR} {i : eI} {e : eJ} (ha : XR G 0 pc p1 a) (hi : XI G 1 p1 p2 i) (hd1 : decode cc p2 = .ok (.dup2, 1)) (hd2 : decode cc (p2 + 1) = .ok (.laload, 1)) (he : XJ G 4 (p2 + 2) p3 e) (hd3 : decode cc p3 = .ok (.ladd, 1)) (hd : decode cc (p3 + 1) = .ok (.lastore, 1)) : SX G RT pc (p3 + 2) pB pC (sLmd (fun x y => x + y) a i e) := by
  intro L σ o h hg; obtain ⟨⟨x, σ1⟩, g1, h⟩ := bd h; obtain ⟨⟨y, σ2⟩, g2, h⟩ := bd h
  by_cases h0 : y < 0 ∨ lenOf 2 x ≤ y.toNatClampNeg
  · rw [if_pos h0] at h; cases h
  · rw [if_neg h0] at h; obtain ⟨⟨z, σ3⟩, g3, h⟩ := bd h; cases h
    refine ha L [] σ x σ1 (Nat.zero_le _) g1 (hi L _ σ1 y σ2 (psz_c3 x [] (Nat.zero_le 0)) g2 (hG.1 _ _ _ _ _ _ hd1 ⟨rfl, pI y, pR x, [], rfl, rfl, rfl, hG.1 _ _ _ _ _ _ hd2 ⟨rfl, x, y, [pI y, pR x], rfl, h0, ?_⟩⟩))
    exact he L _ σ2 z σ3 (by simp [psz, pcat]) g3 (hG.1 _ _ _ _ _ _ hd3 ⟨rfl, _, _, _, rfl, hG.1 _ _ _ _ _ _ hd ⟨rfl, x, y, _, [], rfl, h0, hg⟩⟩)
theorem sxLmd_lsub (hG : pRules own cc scr Rn RT G) {pc p1 p2 p3 pB pC : Nat} {a : eR} {i : eI} {e : eJ} (ha : XR G 0 pc p1 a) (hi : XI G 1 p1 p2 i) (hd1 : decode cc p2 = .ok (.dup2, 1)) (hd2 : decode cc (p2 + 1) = .ok (.laload, 1)) (he : XJ G 4 (p2 + 2) p3 e) (hd3 : decode cc p3 = .ok (.lsub, 1)) (hd : decode cc (p3 + 1) = .ok (.lastore, 1)) : SX G RT pc (p3 + 2) pB pC (sLmd (fun x y => x - y) a i e) := by
  intro L σ o h hg; obtain ⟨⟨x, σ1⟩, g1, h⟩ := bd h; obtain ⟨⟨y, σ2⟩, g2, h⟩ := bd h
  by_cases h0 : y < 0 ∨ lenOf 2 x ≤ y.toNatClampNeg
  · rw [if_pos h0] at h; cases h
  · rw [if_neg h0] at h; obtain ⟨⟨z, σ3⟩, g3, h⟩ := bd h; cases h
    refine ha L [] σ x σ1 (Nat.zero_le _) g1 (hi L _ σ1 y σ2 (psz_c3 x [] (Nat.zero_le 0)) g2 (hG.1 _ _ _ _ _ _ hd1 ⟨rfl, pI y, pR x, [], rfl, rfl, rfl, hG.1 _ _ _ _ _ _ hd2 ⟨rfl, x, y, [pI y, pR x], rfl, h0, ?_⟩⟩))
    exact he L _ σ2 z σ3 (by simp [psz, pcat]) g3 (hG.1 _ _ _ _ _ _ hd3 ⟨rfl, _, _, _, rfl, hG.1 _ _ _ _ _ _ hd ⟨rfl, x, y, _, [], rfl, h0, hg⟩⟩)
theorem sxLdv (hG : pRules own cc scr Rn RT G) {pc p1 p2 p3 pB pC : Nat} {a : eR} {i : eI} {e : eJ} (ha : XR G 0 pc p1 a) (hi : XI G 1 p1 p2 i) (hd1 : decode cc p2 = .ok (.dup2, 1)) (hd2 : decode cc (p2 + 1) = .ok (.laload, 1)) (he : XJ G 4 (p2 + 2) p3 e) (hd3 : decode cc p3 = .ok (.ldiv, 1)) (hd : decode cc (p3 + 1) = .ok (.lastore, 1)) : SX G RT pc (p3 + 2) pB pC (sLdv a i e) := by
  intro L σ o h hg; obtain ⟨⟨x, σ1⟩, g1, h⟩ := bd h; obtain ⟨⟨y, σ2⟩, g2, h⟩ := bd h
  by_cases h0 : y < 0 ∨ lenOf 2 x ≤ y.toNatClampNeg
  · rw [if_pos h0] at h; cases h
  · rw [if_neg h0] at h; obtain ⟨⟨z, σ3⟩, g3, h⟩ := bd h
    by_cases hz : z = 0
    · rw [if_pos hz] at h; cases h
    · rw [if_neg hz] at h; cases h
      refine ha L [] σ x σ1 (Nat.zero_le _) g1 (hi L _ σ1 y σ2 (psz_c3 x [] (Nat.zero_le 0)) g2 (hG.1 _ _ _ _ _ _ hd1 ⟨rfl, pI y, pR x, [], rfl, rfl, rfl, hG.1 _ _ _ _ _ _ hd2 ⟨rfl, x, y, [pI y, pR x], rfl, h0, ?_⟩⟩))
      exact he L _ σ2 z σ3 (by simp [psz, pcat]) g3 (hG.1 _ _ _ _ _ _ hd3 ⟨rfl, _, _, _, rfl, hz, hG.1 _ _ _ _ _ _ hd ⟨rfl, x, y, _, [], rfl, h0, hg⟩⟩)
theorem sxV (hG : pRules own cc scr Rn RT G) {k pc p1 pB pC idx ci : Nat} {y : MethodName} {F : pF} {args : eA} (ha : XA G (k + 1) 0 pc p1 args) (hd : decode cc p1 = .ok (.invokevirtual idx, 3)) (hl : CLV own idx y k ci) (hok : pOK Rn y F) : SX G RT pc (p1 + 3) pB pC (sVd (vC ci F rN args)) := by
  intro L σ o he hg; obtain ⟨⟨x, σ1⟩, g1, he⟩ := bd he; cases he
  exact xcV hG ha hd hl hok (Nat.zero_le _) (Nat.zero_le _) g1 (fun r h => by rw [rN_spec h]; exact hg)
theorem sxS (hG : pRules own cc scr Rn RT G) {k pc p1 pB pC idx : Nat} {y : MethodName} {F : pF} {args : eA} (ha : XA G k 0 pc p1 args) (hd : decode cc p1 = .ok (.invokestatic idx, 3)) (hl : CLS own idx y k ∨ CLN own idx y k) (hok : pOK Rn y F) : SX G RT pc (p1 + 3) pB pC (sVd (vC 99 F rN args)) := by
  intro L σ o he hg; obtain ⟨⟨x, σ1⟩, g1, he⟩ := bd he; cases he
  exact xcS hG ha hd hl hok (Nat.zero_le _) (Nat.zero_le _) g1 (fun r h => by rw [rN_spec h]; exact hg)
theorem sxPop (hG : pRules own cc scr Rn RT G) {pc p1 pB pC : Nat} {e : eI} (ha : XI G 0 pc p1 e) (hd : decode cc p1 = .ok (.pop, 1)) : SX G RT pc (p1 + 1) pB pC (sPop e) := by
  intro L σ o he hg; obtain ⟨⟨x, σ1⟩, g1, he⟩ := bd he; cases he
  exact ha L [] σ x _ (Nat.zero_le _) g1 (hG.1 _ _ _ _ _ _ hd ⟨rfl, _, _, rfl, rfl, hg⟩)
theorem sxCpI (hG : pRules own cc scr Rn RT G) {pc p1 p2 p3 p4 p5 pB pC idx : Nat} {a b : eR} {i j k : eI} (ha : XR G 0 pc p1 a) (hi : XI G 1 p1 p2 i) (hb : XR G 2 p2 p3 b) (hj : XI G 3 p3 p4 j) (hk : XI G 4 p4 p5 k) (hd : decode cc p5 = .ok (.invokestatic idx, 3)) (hl : Cond.methodLink own idx arraycopyName ∈ tb) : SX G RT pc (p5 + 3) pB pC (sCpI a i b j k) := by
  intro L σ o h hg; obtain ⟨⟨x, σ1⟩, g1, h⟩ := bd h; obtain ⟨⟨y, σ2⟩, g2, h⟩ := bd h; obtain ⟨⟨z, σ3⟩, g3, h⟩ := bd h; obtain ⟨⟨u, σ4⟩, g4, h⟩ := bd h; obtain ⟨⟨v, σ5⟩, g5, h⟩ := bd h
  dsimp only at h
  split at h
  · rename_i hh; cases h
    obtain ⟨e1, e2, e3, e4, e5, e6, e7⟩ := hh
    exact ha L [] σ x σ1 (Nat.zero_le _) g1 (hi L _ σ1 y σ2 (by simp [psz, pcat]) g2 (hb L _ σ2 z σ3 (by simp [psz, pcat]) g3 (hj L _ σ3 u σ4 (by simp [psz, pcat]) g4 (hk L _ σ4 v σ5 (by simp [psz, pcat]) g5 (hG.1 _ _ _ _ _ _ hd ⟨rfl, Or.inr (Or.inr (Or.inr (Or.inl ⟨x, z, y, u, v, [], hl, rfl, Nat.zero_le _, e1, e2, e3, Or.inl ⟨e4, e5, e6, e7, hg⟩⟩)))⟩)))))
  · cases h
theorem sxCpJ (hG : pRules own cc scr Rn RT G) {pc p1 p2 p3 p4 p5 pB pC idx : Nat} {a b : eR} {i j k : eI} (ha : XR G 0 pc p1 a) (hi : XI G 1 p1 p2 i) (hb : XR G 2 p2 p3 b) (hj : XI G 3 p3 p4 j) (hk : XI G 4 p4 p5 k) (hd : decode cc p5 = .ok (.invokestatic idx, 3)) (hl : Cond.methodLink own idx arraycopyName ∈ tb) : SX G RT pc (p5 + 3) pB pC (sCpJ a i b j k) := by
  intro L σ o h hg; obtain ⟨⟨x, σ1⟩, g1, h⟩ := bd h; obtain ⟨⟨y, σ2⟩, g2, h⟩ := bd h; obtain ⟨⟨z, σ3⟩, g3, h⟩ := bd h; obtain ⟨⟨u, σ4⟩, g4, h⟩ := bd h; obtain ⟨⟨v, σ5⟩, g5, h⟩ := bd h
  dsimp only at h
  split at h
  · rename_i hh; cases h
    obtain ⟨e1, e2, e3, e4, e5, e6, e7⟩ := hh
    exact ha L [] σ x σ1 (Nat.zero_le _) g1 (hi L _ σ1 y σ2 (by simp [psz, pcat]) g2 (hb L _ σ2 z σ3 (by simp [psz, pcat]) g3 (hj L _ σ3 u σ4 (by simp [psz, pcat]) g4 (hk L _ σ4 v σ5 (by simp [psz, pcat]) g5 (hG.1 _ _ _ _ _ _ hd ⟨rfl, Or.inr (Or.inr (Or.inr (Or.inl ⟨x, z, y, u, v, [], hl, rfl, Nat.zero_le _, e1, e2, e3, Or.inr ⟨e4, e5, e6, e7, hg⟩⟩)))⟩)))))
  · cases h
theorem sxSw (hG : pRules own cc scr Rn RT G) {pc p1 pN pB pC pd len : Nat} {dflt lo hi : Int} {offs : Array Int} {e : eI} {cs : List sC} {c0 : sC} {ts : List Nat} (ha : XI G 0 pc p1 e) (hd : decode cc p1 = .ok (.tableswitch dflt lo hi offs, len)) (hpd : pTg p1 dflt pd) (hn : cs.length = ts.length) (hhi : hi = lo + (cs.length : Int) - 1) (ho : offs.toList.map (fun q => ((p1 : Int) + q)) = ts.map (fun (t : Nat) => (t : Int)))
    (h0 : SX G RT pd pN pN pC c0) (h : ∀ (k : Nat) (c : sC) (t : Nat), cs[k]? = some c → ts[k]? = some t → SX G RT t pN pN pC c) (hB : pB = pN) : SX G RT pc pN pB pC (sSw e lo cs c0) := by
  intro L σ o he hg; obtain ⟨⟨x, σ1⟩, g1, he⟩ := bd he
  subst hB
  refine ha L [] σ x σ1 (Nat.zero_le _) g1 (hG.1 _ _ _ _ _ _ hd ⟨x, [], rfl, ?_⟩)
  dsimp only at he
  by_cases hlo : x.toInt < lo
  · rw [if_pos hlo] at he
    exact Or.inl ⟨pd, Or.inl hlo, hpd, h0 L σ1 o he hg⟩
  · rw [if_neg hlo] at he
    cases hc : cs[(x.toInt - lo).toNat]? with
    | none =>
      rw [hc] at he
      have hl := List.getElem?_eq_none_iff.mp hc
      exact Or.inl ⟨pd, Or.inr (by omega), hpd, h0 L σ1 o he hg⟩
    | some cK =>
      rw [hc] at he
      have hl := (List.getElem?_eq_some_iff.mp hc).1
      obtain ⟨t, ht⟩ : ∃ t, ts[(x.toInt - lo).toNat]? = some t := ⟨_, List.getElem?_eq_getElem (by omega)⟩
      have h2 : (offs.toList.map (fun q => ((p1 : Int) + q)))[(x.toInt - lo).toNat]? = some (t : Int) := by rw [ho, List.getElem?_map, ht]; rfl
      rw [List.getElem?_map, Array.getElem?_toList] at h2
      cases h3 : offs[(x.toInt - lo).toNat]? with
      | none => rw [h3] at h2; cases h2
      | some off =>
        rw [h3] at h2
        exact Or.inr ⟨t, off, hlo, by omega, rfl, Option.some.inj h2, h _ cK t hc ht L σ1 o he hg⟩
end XS
theorem narK_spec {rk : Nat} {r : Option pV} {ret : Option FieldType} (h : narK rk r = true) (hr : (rk = 0 ∧ ret = none) ∨ (rk = 1 ∧ ret = some .int) ∨ (rk = 2 ∧ ret = some .boolean) ∨ (rk = 3 ∧ ret = some .long) ∨ (rk = 4 ∧ ∃ C, ret = some (.object C))) : pNar ret r := by
  rcases hr with ⟨rfl, h1⟩ | ⟨rfl, h1⟩ | ⟨rfl, h1⟩ | ⟨rfl, h1⟩ | ⟨rfl, h1⟩ <;> rcases r with _ | x | x | x <;> simp [narK] at h
  · exact h1
  · exact Or.inl h1
  · refine Or.inr ⟨h1, ?_⟩
    unfold iZ at h
    split at h
    · exact Or.inl ‹_›
    · split at h
      · exact Or.inr ‹_›
      · cases h
  · exact h1
  · exact h1
/-- a method's meaning is its contract -/
theorem pOK_intro {l : Launch} {E : pEnv} (hE : pOkE E) (d : Nat) {y : MethodName} {own : String} {bytes : ByteArray} {n rk : Nat} {ret : Option FieldType} {body : sC}
    (hcode : Cond.code y bytes n ret ∈ tb) (hown : y.cls = own) (hpl : plainName y.cls = true) (hmx : n ≤ 20) (hr : (rk = 0 ∧ ret = none) ∨ (rk = 1 ∧ ret = some .int) ∨ (rk = 2 ∧ ret = some .boolean) ∨ (rk = 3 ∧ ret = some .long) ∨ (rk = 4 ∧ ∃ C, ret = some (.object C)))
    (h : ∀ (G : Nat → pSt → Prop) (RT : Option pV → pM → Prop), pRules own bytes none (pRun l E d) RT G → ∃ pN pB pC : Nat, SX G RT 0 pN pB pC body) : pOK (pRun l E (d + 1)) y (pBody rk n body) := by
  intro As σ r σ' he
  unfold pBody at he
  split at he
  · rename_i hlen
    split at he
    · rename_i r2 hb
      split at he
      · rename_i hn
        cases he
        refine pRun_intro hE hcode hown hpl hmx hlen (narK_spec hn hr) fun G hG => ?_
        obtain ⟨pN, pB, pC, hs⟩ := h G _ hG
        exact hs _ _ _ hb ⟨rfl, rfl⟩
      · cases he
    · cases he
  · cases he
theorem pOK.mono {l : Launch} {E : pEnv} {d d2 : Nat} {y : MethodName} {F : pF} (h : pOK (pRun l E d) y F) (hd : d ≤ d2) : pOK (pRun l E d2) y F := fun As σ r σ' he => (h As σ r σ' he).mono hd
