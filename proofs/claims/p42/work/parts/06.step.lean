/-! ===== one instruction of the plain machine, and what of the tables it stands on ===== -/
/-- the tables' words that a method may hand on -/
def tb : List Cond := lw_tbl.filter goodWord
theorem tb_of {w : Cond} (h : w ∈ lw_tbl) (g : goodWord w = true) : w ∈ tb := List.mem_filter.mpr ⟨h, g⟩
theorem tb_at {w : Cond} (i : Nat) (h : lw_tbl[i]? = some w) (g : goodWord w = true) : w ∈ tb := tb_of (List.mem_of_getElem? h) g
/-- links to private members of a nest mate: they are carried by themselves -/
def isNest : Cond → Bool
  | .methodLinkNest .. => true
  | _ => false
def nw : List Cond := lw_tbl.filter isNest
theorem nw_at {w : Cond} (i : Nat) (h : lw_tbl[i]? = some w) (g : isNest w = true) : w ∈ nw := List.mem_filter.mpr ⟨List.mem_of_getElem? h, g⟩
def pNw (U : State) : Prop := ∀ w ∈ nw, va_Nw w U
theorem pNw.warm {s U : State} (hW : s.WarmedH U.vm) (h : pNw s) : pNw U := by
  intro w hw
  have h1 := h w hw
  have h2 := (List.mem_filter.mp hw).2
  cases w with
  | methodLinkNest a i x h => exact va_Nw.warmM hW h1
  | _ => simp [isNest] at h2
theorem pNw.same {s U : State} (hv : s.vm = U.vm) (h : pNw s) : pNw U := by
  intro w hw
  have h1 := h w hw
  have h2 := (List.mem_filter.mp hw).2
  cases w with
  | methodLinkNest a i x h => exact va_Nw.same rfl hv h1
  | _ => simp [isNest] at h2
def CK (ci : Nat) (C : String) (T : u_T) (N : Nat) (ty0 : Nat → FieldType) : Prop := classes[ci]? = some (C, T, N) ∧ (∀ w ∈ u_ws C T N, w ∈ tb) ∧ (∀ k, k < N → parseFieldDescriptor (T k).2.2.1 = some (ty0 k)) ∧ (∀ a, a < N → ∀ b, b < N → a ≠ b → (T a).2.1 ≠ (T b).2.1)
/-- a field that is read -/
def FL (own : String) (idx ci k : Nat) : Prop := ∃ (C : String) (T : u_T) (N : Nat) (ty0 : Nat → FieldType), CK ci C T N ty0 ∧ k < N ∧ Cond.fieldLink own idx (T k).1 (T k).2.1 (T k).2.2.1 ∈ tb
/-- an int field that is written -/
def FP (own : String) (idx ci k : Nat) : Prop := ∃ (C : String) (T : u_T) (N : Nat) (ty0 : Nat → FieldType), CK ci C T N ty0 ∧ k < N ∧ Cond.fieldLink own idx (T k).1 (T k).2.1 (T k).2.2.1 ∈ tb ∧ ty0 k = .int ∧ (T k).2.2.2 = false
def YK (y : MethodName) (n : Nat) : Prop := y.cls ≠ "java/lang/invoke/MethodHandle" ∧ y.cls ≠ "java/lang/invoke/VarHandle" ∧ (parseMethodDescriptor y.desc).map (fun d => d.parameters.length) = some n
/-- an instance method that is called: its class has the number ci -/
def CLV (own : String) (idx : Nat) (y : MethodName) (n ci : Nat) : Prop := Cond.methodLink own idx y ∈ tb ∧ Cond.instanceMethod y ∈ tb ∧ Cond.selects y.cls y y ∈ tb ∧ Cond.initialized y.cls ∈ tb ∧ YK y n ∧ ci < 99 ∧ ∃ (T : u_T) (N : Nat), classes[ci]? = some (y.cls, T, N)
def CLS (own : String) (idx : Nat) (y : MethodName) (n : Nat) : Prop := Cond.methodLink own idx y ∈ tb ∧ Cond.static y ∈ tb ∧ Cond.initialized y.cls ∈ tb ∧ YK y n
def CLN (own : String) (idx : Nat) (y : MethodName) (n : Nat) : Prop := ∃ host : String, Cond.methodLinkNest own idx y host ∈ nw ∧ Cond.static y ∈ tb ∧ Cond.initialized y.cls ∈ tb ∧ YK y n
def pTg (pc : Nat) (off : Int) (t : Nat) : Prop := (pc : Int) + off = (t : Int)
def pCc : ClassFile.Cond → Int32 → Int32 → Prop
  | .eq, x, y => x = y
  | .ne, x, y => ¬ x = y
  | .lt, x, y => x < y
  | .ge, x, y => y ≤ x
  | .gt, x, y => y < x
  | .le, x, y => x ≤ y
/-- the law's cell -/
def cellV (k : Nat) (xs : Nat → Int32) (x : Int32) : Int32 := if x < Int32.ofNat k then xs x.toNatClampNeg &&& 16777215 else x * 9151
def pStep (own : String) (scr : Option (Nat × Nat × (Nat → Int32))) (Rn : MethodName → List pV → pM → Option pV → pM → Prop) (RT : Option pV → pM → Prop) (i : Instr) (n pc : Nat) (L : pLo) (S : List pV) (σ : pM) (G : Nat → pSt → Prop) : Prop := match i with
  | .iconst k => n = 1 ∧ G (pc + 1) (L, pI (Int32.ofInt k) :: S, σ)
  | .bipush k => n = 2 ∧ G (pc + 2) (L, pI (Int8.ofInt k).toInt32 :: S, σ)
  | .sipush k => n = 3 ∧ G (pc + 3) (L, pI (Int16.ofInt k).toInt32 :: S, σ)
  | .ldc idx => n = 2 ∧ ∃ v : Int32, Cond.constant own idx v ∈ tb ∧ G (pc + 2) (L, pI v :: S, σ)
  | .ldc_w idx => n = 3 ∧ ∃ v : Int32, Cond.constant own idx v ∈ tb ∧ G (pc + 3) (L, pI v :: S, σ)
  | .lconst k => n = 1 ∧ G (pc + 1) (L, pJ (Int64.ofNat (k : Nat)) :: S, σ)
  | .ldc2_w idx => n = 3 ∧ ∃ v : Int64, Cond.constantLong own idx v ∈ tb ∧ G (pc + 3) (L, pJ v :: S, σ)
  | .iload_n k => n = 1 ∧ ∃ x : Int32, L[(k : Nat)]? = some (some (pI x)) ∧ G (pc + 1) (L, pI x :: S, σ)
  | .iload k => n = 2 ∧ ∃ x : Int32, L[k]? = some (some (pI x)) ∧ G (pc + 2) (L, pI x :: S, σ)
  | .lload_n k => n = 1 ∧ ∃ x : Int64, L[(k : Nat)]? = some (some (pJ x)) ∧ G (pc + 1) (L, pJ x :: S, σ)
  | .lload k => n = 2 ∧ ∃ x : Int64, L[k]? = some (some (pJ x)) ∧ G (pc + 2) (L, pJ x :: S, σ)
  | .aload_n k => n = 1 ∧ ∃ x : Nat, L[(k : Nat)]? = some (some (pR x)) ∧ G (pc + 1) (L, pR x :: S, σ)
  | .aload k => n = 2 ∧ ∃ x : Nat, L[k]? = some (some (pR x)) ∧ G (pc + 2) (L, pR x :: S, σ)
  | .istore_n k => n = 1 ∧ ∃ (x : Int32) (S' : List pV), S = pI x :: S' ∧ (k : Nat) < L.length ∧ G (pc + 1) (pSet1 L k (pI x), S', σ)
  | .istore k => n = 2 ∧ ∃ (x : Int32) (S' : List pV), S = pI x :: S' ∧ k < L.length ∧ G (pc + 2) (pSet1 L k (pI x), S', σ)
  | .lstore_n k => n = 1 ∧ ∃ (x : Int64) (S' : List pV), S = pJ x :: S' ∧ (k : Nat) + 1 < L.length ∧ G (pc + 1) (pSet2 L k (pJ x), S', σ)
  | .lstore k => n = 2 ∧ ∃ (x : Int64) (S' : List pV), S = pJ x :: S' ∧ k + 1 < L.length ∧ G (pc + 2) (pSet2 L k (pJ x), S', σ)
  | .astore_n k => n = 1 ∧ ∃ (x : Nat) (S' : List pV), S = pR x :: S' ∧ (k : Nat) < L.length ∧ G (pc + 1) (pSet1 L k (pR x), S', σ)
  | .astore k => n = 2 ∧ ∃ (x : Nat) (S' : List pV), S = pR x :: S' ∧ k < L.length ∧ G (pc + 2) (pSet1 L k (pR x), S', σ)
  | .iinc k z => n = 3 ∧ ∃ x : Int32, L[k]? = some (some (pI x)) ∧ G (pc + 3) (pSet1 L k (pI (x + Int32.ofInt z)), S, σ)
  | .iadd => n = 1 ∧ ∃ (x y : Int32) (S' : List pV), S = pI y :: pI x :: S' ∧ G (pc + 1) (L, pI (x + y) :: S', σ)
  | .isub => n = 1 ∧ ∃ (x y : Int32) (S' : List pV), S = pI y :: pI x :: S' ∧ G (pc + 1) (L, pI (x - y) :: S', σ)
  | .imul => n = 1 ∧ ∃ (x y : Int32) (S' : List pV), S = pI y :: pI x :: S' ∧ G (pc + 1) (L, pI (x * y) :: S', σ)
  | .iand => n = 1 ∧ ∃ (x y : Int32) (S' : List pV), S = pI y :: pI x :: S' ∧ G (pc + 1) (L, pI (x &&& y) :: S', σ)
  | .ior => n = 1 ∧ ∃ (x y : Int32) (S' : List pV), S = pI y :: pI x :: S' ∧ G (pc + 1) (L, pI (x ||| y) :: S', σ)
  | .ixor => n = 1 ∧ ∃ (x y : Int32) (S' : List pV), S = pI y :: pI x :: S' ∧ G (pc + 1) (L, pI (x ^^^ y) :: S', σ)
  | .ishl => n = 1 ∧ ∃ (x y : Int32) (S' : List pV), S = pI y :: pI x :: S' ∧ G (pc + 1) (L, pI (x <<< (y &&& 31)) :: S', σ)
  | .ishr => n = 1 ∧ ∃ (x y : Int32) (S' : List pV), S = pI y :: pI x :: S' ∧ G (pc + 1) (L, pI (x >>> (y &&& 31)) :: S', σ)
  | .iushr => n = 1 ∧ ∃ (x y : Int32) (S' : List pV), S = pI y :: pI x :: S' ∧ G (pc + 1) (L, pI (x.toUInt32 >>> (y.toUInt32 &&& Int32.toUInt32 31)).toInt32 :: S', σ)
  | .idiv => n = 1 ∧ ∃ (x y : Int32) (S' : List pV), S = pI y :: pI x :: S' ∧ ¬ y = 0 ∧ G (pc + 1) (L, pI (x / y) :: S', σ)
  | .irem => n = 1 ∧ ∃ (x y : Int32) (S' : List pV), S = pI y :: pI x :: S' ∧ ¬ y = 0 ∧ G (pc + 1) (L, pI (x - x / y * y) :: S', σ)
  | .ineg => n = 1 ∧ ∃ (x : Int32) (S' : List pV), S = pI x :: S' ∧ G (pc + 1) (L, pI (-x) :: S', σ)
  | .i2b => n = 1 ∧ ∃ (x : Int32) (S' : List pV), S = pI x :: S' ∧ G (pc + 1) (L, pI x.toInt8.toInt32 :: S', σ)
  | .i2l => n = 1 ∧ ∃ (x : Int32) (S' : List pV), S = pI x :: S' ∧ G (pc + 1) (L, pJ x.toInt64 :: S', σ)
  | .l2i => n = 1 ∧ ∃ (x : Int64) (S' : List pV), S = pJ x :: S' ∧ G (pc + 1) (L, pI x.toInt32 :: S', σ)
  | .ladd => n = 1 ∧ ∃ (x y : Int64) (S' : List pV), S = pJ y :: pJ x :: S' ∧ G (pc + 1) (L, pJ (x + y) :: S', σ)
  | .lsub => n = 1 ∧ ∃ (x y : Int64) (S' : List pV), S = pJ y :: pJ x :: S' ∧ G (pc + 1) (L, pJ (x - y) :: S', σ)
  | .lmul => n = 1 ∧ ∃ (x y : Int64) (S' : List pV), S = pJ y :: pJ x :: S' ∧ G (pc + 1) (L, pJ (x * y) :: S', σ)
  | .ldiv => n = 1 ∧ ∃ (x y : Int64) (S' : List pV), S = pJ y :: pJ x :: S' ∧ ¬ y = 0 ∧ G (pc + 1) (L, pJ (x / y) :: S', σ)
  | .lcmp => n = 1 ∧ ∃ (x y : Int64) (S' : List pV), S = pJ y :: pJ x :: S' ∧ G (pc + 1) (L, pI (lg_cmp x y) :: S', σ)
  | .dup => n = 1 ∧ ∃ (v : pV) (S' : List pV), S = v :: S' ∧ pcat v = 1 ∧ G (pc + 1) (L, v :: v :: S', σ)
  | .dup2 => n = 1 ∧ ∃ (v w : pV) (S' : List pV), S = v :: w :: S' ∧ pcat v = 1 ∧ pcat w = 1 ∧ G (pc + 1) (L, v :: w :: v :: w :: S', σ)
  | .pop => n = 1 ∧ ∃ (v : pV) (S' : List pV), S = v :: S' ∧ pcat v = 1 ∧ G (pc + 1) (L, S', σ)
  | .goto off => n = 3 ∧ ∃ t : Nat, pTg pc off t ∧ G t (L, S, σ)
  | .ifCond c off => n = 3 ∧ ∃ (t : Nat) (x : Int32) (S' : List pV), pTg pc off t ∧ S = pI x :: S' ∧ (pCc c x 0 → G t (L, S', σ)) ∧ (¬ pCc c x 0 → G (pc + 3) (L, S', σ))
  | .if_icmp c off => n = 3 ∧ ∃ (t : Nat) (x y : Int32) (S' : List pV), pTg pc off t ∧ S = pI y :: pI x :: S' ∧ (pCc c x y → G t (L, S', σ)) ∧ (¬ pCc c x y → G (pc + 3) (L, S', σ))
  | .tableswitch dflt lo hi offs => ∃ (x : Int32) (S' : List pV), S = pI x :: S' ∧ ((∃ t : Nat, (x.toInt < lo ∨ hi < x.toInt) ∧ pTg pc dflt t ∧ G t (L, S', σ)) ∨ (∃ (t : Nat) (off : Int), ¬ x.toInt < lo ∧ ¬ hi < x.toInt ∧ offs[(x.toInt - lo).toNat]? = some off ∧ pTg pc off t ∧ G t (L, S', σ)))
  | .getfield idx => n = 3 ∧ ∃ (ci j o : Nat) (S' : List pV), S = pR o :: S' ∧ FL own idx ci j ∧ ((okI ci j o = true ∧ G (pc + 3) (L, pI (σ.1 o j) :: S', σ)) ∨ ∃ d : Nat, okR ci j o d = true ∧ G (pc + 3) (L, pR d :: S', σ))
  | .putfield idx => n = 3 ∧ ∃ (ci j o : Nat) (x : Int32) (S' : List pV), S = pI x :: pR o :: S' ∧ FP own idx ci j ∧ okI ci j o = true ∧ G (pc + 3) (L, S', up1 σ o j x)
  | .arraylength => n = 1 ∧ ∃ (a : Nat) (S' : List pV), S = pR a :: S' ∧ ((∃ (t k : Nat), lenOf t a = k ∧ 0 < k ∧ G (pc + 1) (L, pI (Int32.ofNat k) :: S', σ)) ∨ ∃ (k : Nat) (xs : Nat → Int32), scr = some (a, k, xs) ∧ G (pc + 1) (L, pI (Int32.ofNat k) :: S', σ))
  | .iaload => n = 1 ∧ ∃ (a : Nat) (x : Int32) (S' : List pV), S = pI x :: pR a :: S' ∧ ((¬ (x < 0 ∨ lenOf 0 a ≤ x.toNatClampNeg) ∧ G (pc + 1) (L, pI (σ.1 a x.toNatClampNeg) :: S', σ)) ∨ ∃ (k : Nat) (xs : Nat → Int32), scr = some (a, k, xs) ∧ ¬ (x < 0 ∨ k ≤ x.toNatClampNeg) ∧ G (pc + 1) (L, pI (xs x.toNatClampNeg) :: S', σ))
  | .baload => n = 1 ∧ ∃ (a : Nat) (x : Int32) (S' : List pV), S = pI x :: pR a :: S' ∧ ¬ (x < 0 ∨ lenOf 1 a ≤ x.toNatClampNeg) ∧ G (pc + 1) (L, pI (σ.1 a x.toNatClampNeg) :: S', σ)
  | .laload => n = 1 ∧ ∃ (a : Nat) (x : Int32) (S' : List pV), S = pI x :: pR a :: S' ∧ ¬ (x < 0 ∨ lenOf 2 a ≤ x.toNatClampNeg) ∧ G (pc + 1) (L, pJ (σ.2 a x.toNatClampNeg) :: S', σ)
  | .iastore => n = 1 ∧ ∃ (a : Nat) (x v : Int32) (S' : List pV), S = pI v :: pI x :: pR a :: S' ∧ ¬ (x < 0 ∨ lenOf 0 a ≤ x.toNatClampNeg) ∧ G (pc + 1) (L, S', up1 σ a x.toNatClampNeg v)
  | .bastore => n = 1 ∧ ∃ (a : Nat) (x v : Int32) (S' : List pV), S = pI v :: pI x :: pR a :: S' ∧ ¬ (x < 0 ∨ lenOf 1 a ≤ x.toNatClampNeg) ∧ G (pc + 1) (L, S', up1 σ a x.toNatClampNeg v.toInt8.toInt32)
  | .lastore => n = 1 ∧ ∃ (a : Nat) (x : Int32) (v : Int64) (S' : List pV), S = pJ v :: pI x :: pR a :: S' ∧ ¬ (x < 0 ∨ lenOf 2 a ≤ x.toNatClampNeg) ∧ G (pc + 1) (L, S', up2 σ a x.toNatClampNeg v)
  | .invokevirtual idx => n = 3 ∧ ∃ (y : MethodName) (k ci o : Nat) (As rest : List pV) (r : Option pV) (σ' : pM), CLV own idx y k ci ∧ S = As.reverse ++ pR o :: rest ∧ As.length = k ∧ clsOf o = ci ∧ psz rest ≤ 8 ∧ Rn y (pR o :: As) σ r σ' ∧ G (pc + 3) (L, r.toList ++ rest, σ')
  | .invokestatic idx => n = 3 ∧ ((∃ (y : MethodName) (k : Nat) (As rest : List pV) (r : Option pV) (σ' : pM), (CLS own idx y k ∨ CLN own idx y k) ∧ S = As.reverse ++ rest ∧ As.length = k ∧ psz rest ≤ 8 ∧ Rn y As σ r σ' ∧ G (pc + 3) (L, r.toList ++ rest, σ'))
    ∨ (∃ (x y : Int32) (S' : List pV), Cond.methodLink own idx Lib.Math.max.name ∈ tb ∧ S = pI y :: pI x :: S' ∧ psz S' ≤ 8 ∧ G (pc + 3) (L, pI (if x < y then y else x) :: S', σ))
    ∨ (∃ (x y : Int32) (S' : List pV), Cond.methodLink own idx Lib.Math.min.name ∈ tb ∧ S = pI y :: pI x :: S' ∧ psz S' ≤ 8 ∧ G (pc + 3) (L, pI (if y < x then y else x) :: S', σ))
    ∨ (∃ (a b : Nat) (sp dp k : Int32) (S' : List pV), Cond.methodLink own idx arraycopyName ∈ tb ∧ S = pI k :: pI dp :: pR b :: pI sp :: pR a :: S' ∧ psz S' ≤ 8 ∧ ¬ sp < 0 ∧ ¬ dp < 0 ∧ ¬ k < 0 ∧ ((0 < lenOf 0 a ∧ 0 < lenOf 0 b ∧ sp.toNatClampNeg + k.toNatClampNeg ≤ lenOf 0 a ∧ dp.toNatClampNeg + k.toNatClampNeg ≤ lenOf 0 b ∧ G (pc + 3) (L, S', cp1 σ a b sp.toNatClampNeg dp.toNatClampNeg k.toNatClampNeg)) ∨ (0 < lenOf 2 a ∧ 0 < lenOf 2 b ∧ sp.toNatClampNeg + k.toNatClampNeg ≤ lenOf 2 a ∧ dp.toNatClampNeg + k.toNatClampNeg ≤ lenOf 2 b ∧ G (pc + 3) (L, S', cp2 σ a b sp.toNatClampNeg dp.toNatClampNeg k.toNatClampNeg))))
    ∨ (∃ (a k : Nat) (xs : Nat → Int32) (x : Int32) (S' : List pV), Cond.methodLink own idx yL_cell ∈ tb ∧ S = pI x :: pR a :: S' ∧ psz S' ≤ 8 ∧ scr = some (a, k, xs) ∧ ¬ x < 0 ∧ G (pc + 3) (L, pI (cellV k xs x) :: S', σ)))
  | .ireturn => n = 1 ∧ ∃ x : Int32, S = [pI x] ∧ RT (some (pI x)) σ
  | .lreturn => n = 1 ∧ ∃ x : Int64, S = [pJ x] ∧ RT (some (pJ x)) σ
  | .areturn => n = 1 ∧ ∃ x : Nat, S = [pR x] ∧ RT (some (pR x)) σ
  | .return_ => n = 1 ∧ S = [] ∧ RT none σ
  | _ => False
/-- what a set of places must be closed under to be a method's run -/
def pRules (own : String) (cc : ByteArray) (scr : Option (Nat × Nat × (Nat → Int32))) (Rn : MethodName → List pV → pM → Option pV → pM → Prop) (RT : Option pV → pM → Prop) (G : Nat → pSt → Prop) : Prop :=
  (∀ (pc : Nat) (i : Instr) (n : Nat) (L : pLo) (S : List pV) (σ : pM), decode cc pc = .ok (i, n) → pStep own scr Rn RT i n pc L S σ G → G pc (L, S, σ)) ∧
  ∀ (pc : Nat) (L L' : pLo) (S : List pV) (σ : pM), L'.length = L.length → (∀ (k : Nat) (v : pV), L'[k]? = some (some v) → L[k]? = some (some v)) → G pc (L', S, σ) → G pc (L, S, σ)
