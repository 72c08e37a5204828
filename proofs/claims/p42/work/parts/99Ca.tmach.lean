/-! ===== THE TEXT MACHINE: the library's methods on a builder and its bytes; what lies beside stays as it is ===== -/
/-- addresses of the labels; classes; what lies beside; a text that stands: its length, its bytes -/
abbrev tEnv : Type := (Nat → Nat) × cEnv × va_W × Nat × (Nat → Int32)
/-- a cell: an array of bytes, or a builder's four fields -/
abbrev tC : Type := (Nat × (Nat → Int32)) ⊕ List pV
def tEn (E : tEnv) : tC → va_E
  | .inl a => .inl (E.2.1.2.2.1.2.1, a.1, .inl a.2)
  | .inr fs => .inr (13, fs.map (pv E.1))
def tWl (E : tEnv) : Nat → List tC → va_W
  | _, [] => []
  | k, e :: t => (E.1 k, tEn E e) :: tWl E (k + 1) t
theorem tWl_get (E : tEnv) : ∀ (l : List tC) (j k : Nat), (tWl E j l)[k]? = l[k]?.map (fun e => (E.1 (j + k), tEn E e))
  | [], j, k => by simp [tWl]
  | e :: t, j, 0 => by simp [tWl]
  | e :: t, j, k + 1 => by
    rw [tWl, List.getElem?_cons_succ, List.getElem?_cons_succ, tWl_get E t (j + 1) k]
    congr 1; funext o; rw [show j + 1 + k = j + (k + 1) by omega]
theorem tWl_len (E : tEnv) : ∀ (l : List tC) (j : Nat), (tWl E j l).length = l.length
  | [], j => rfl
  | e :: t, j => by rw [tWl, List.length_cons, List.length_cons, tWl_len E t]
theorem tWl_set (E : tEnv) (cs : List tC) (k : Nat) (e : tC) : (tWl E 0 cs).set k (E.1 k, tEn E e) = tWl E 0 (cs.set k e) := by
  refine List.ext_getElem? fun i => ?_
  rw [List.getElem?_set, tWl_get, tWl_get, List.getElem?_set, tWl_len]
  by_cases hi : k = i
  · subst hi
    rw [if_pos rfl, if_pos rfl]
    split <;> simp
  · rw [if_neg hi, if_neg hi]
theorem tWl_app (E : tEnv) (e : tC) : ∀ (cs : List tC) (j : Nat), tWl E j (cs ++ [e]) = tWl E j cs ++ [(E.1 (j + cs.length), tEn E e)]
  | [], j => rfl
  | c :: t, j => by
    rw [List.cons_append, tWl, tWl_app E e t (j + 1), tWl, List.cons_append, List.length_cons, show j + 1 + t.length = j + (t.length + 1) by omega]
def tW (E : tEnv) (cs : List tC) : va_W := E.2.2.1 ++ tWl E 0 cs
theorem tW_at {E : tEnv} {cs : List tC} {k : Nat} {e : tC} (h : cs[k]? = some e) : (tW E cs)[E.2.2.1.length + k]? = some (E.1 k, tEn E e) := by
  unfold tW
  rw [List.getElem?_append_right (Nat.le_add_right _ _), Nat.add_sub_cancel_left, tWl_get, h]
  simp
theorem tW_set (E : tEnv) (cs : List tC) (k : Nat) (e : tC) : (tW E cs).set (E.2.2.1.length + k) (E.1 k, tEn E e) = tW E (cs.set k e) := by
  unfold tW
  rw [List.set_append_right _ _ (Nat.le_add_right _ _), Nat.add_sub_cancel_left, tWl_set]
theorem tW_app (E : tEnv) (e : tC) (cs : List tC) : tW E (cs ++ [e]) = tW E cs ++ [(E.1 cs.length, tEn E e)] := by
  unfold tW
  rw [tWl_app, Nat.zero_add, List.append_assoc]
abbrev tA (E : tEnv) : Nat → Prop := cFree E.2.1
def tHp (E : tEnv) (cs : List tC) (H : Heap) : Prop := va_P E.2.1.2.1 classes (tW E cs) H ∧ va_D (tA E) (tW E cs) ∧ E.2.1.1 ≤ H.size
/-- private methods of the class above the builder's -/
def tPriv : List MethodName := [yJ5_ensureCapacityInternal_d00df, yJ5_newCapacity_0f7a4, yJ5_putStringAt_47b60, yJ5_inflateIfNeededFor_a7421]
def tPv (U : State) : Prop := ∀ y ∈ tPriv, (Cond.privateMethod y).before #[] U = true
theorem tPv_moved {u U : State} (hvm : u.vm.Alike U.vm) (h : tPv u) : tPv U := fun y hy => va_tabs (c := Cond.privateMethod y) rfl (rfl : (u.setVm U.vm).vm = U.vm) (by rw [Cond.privateMethod_setVm hvm]; exact h y hy)
/-- the formatter: some reference, or none -/
def tFm (A : Nat → Prop) (U : State) (H : Heap) : Prop := ∃ v : Value, v.isRef = true ∧ va_Z "jdk/internal/util/Preconditions" "SIOOBE_FORMATTER" "Ljava/util/function/BiFunction;" v A U H
theorem tFm_moved {A : Nat → Prop} {u U : State} {H : Heap} (hvm : u.vm.Alike U.vm) (h : tFm A u H) : tFm A U H := by
  obtain ⟨v, h1, h2⟩ := h
  exact ⟨v, h1, va_Z.moved hvm h2⟩
theorem tFm_kept {A : Nat → Prop} {U : State} {H H1 : Heap} (h : tFm A U H) (hq : ∀ a : Nat, a < H.size → ¬ A a → H1[a]? = H[a]?) : tFm A U H1 := by
  obtain ⟨v, h1, h2⟩ := h
  exact ⟨v, h1, va_Z.kept h2 hq⟩
/-- what stands and is not written: tables, statics, the text -/
def tFx (E : tEnv) (U : State) (H : Heap) : Prop := tPv U ∧ cSt E.2.1 U H ∧ (va_Z "java/lang/Integer" "DigitOnes" "[B" (.ref (E.1 52)) (tA E) U H ∧ va_T .byte (E.1 52) 100 (fun j => .int (sb_b (48 + j % 10))) (tA E) U H) ∧ (va_Z "java/lang/Integer" "DigitTens" "[B" (.ref (E.1 53)) (tA E) U H ∧ va_T .byte (E.1 53) 100 (fun j => .int (sb_b (48 + j / 10))) (tA E) U H) ∧ tFm (tA E) U H ∧ va_O "java/lang/String" (E.1 50) (tA E) U H ∧ va_OF "java/lang/String" "coder" "B" (.int 0) (E.1 50) (tA E) U H ∧ va_OF "java/lang/String" "value" "[B" (.ref (E.1 51)) (E.1 50) (tA E) U H ∧ va_T .byte (E.1 51) E.2.2.2.1 (fun j => .int (E.2.2.2.2 j)) (tA E) U H
theorem tFx_moved {E : tEnv} {u U : State} {H : Heap} (hvm : u.vm.Alike U.vm) (h : tFx E u H) : tFx E U H := by
  obtain ⟨h1, h2, ⟨h3, h4⟩, ⟨h5, h6⟩, h7, h8, h9, h10, h11⟩ := h
  exact ⟨tPv_moved hvm h1, cSt_moved hvm h2, ⟨va_Z.moved hvm h3, va_T.moved hvm h4⟩, ⟨va_Z.moved hvm h5, va_T.moved hvm h6⟩, tFm_moved hvm h7, va_O.moved hvm h8, va_OF.moved hvm h9, va_OF.moved hvm h10, va_T.moved hvm h11⟩
theorem tFx_kept {E : tEnv} {U : State} {H H1 : Heap} (h : tFx E U H) (hq : ∀ a : Nat, a < H.size → ¬ tA E a → H1[a]? = H[a]?) : tFx E U H1 := by
  obtain ⟨h1, h2, ⟨h3, h4⟩, ⟨h5, h6⟩, h7, h8, h9, h10, h11⟩ := h
  exact ⟨h1, va_Z.kept h2 hq, ⟨va_Z.kept h3 hq, h4.kept hq⟩, ⟨va_Z.kept h5 hq, h6.kept hq⟩, tFm_kept h7 hq, h8.kept hq, h9.kept hq, h10.kept hq, h11.kept hq⟩
/-- a method's kind: 0 it writes nothing, 1 it writes, 2 it may make one array before it writes -/
def tMc (ak : Nat) : Nat := if ak = 2 then 1 else 0
def tMs (ak : Nat) : Nat := if ak = 2 then 100 else 0
def tQpre (E : tEnv) (ak : Nat) (As : List pV) (cs : List tC) : Array Value → State → Prop := va_Pc (As.map (pv E.1)) (fun U => tHp E cs U.heap ∧ va_K E.2.1.2.1 classes E.2.1.2.2.2 U ∧ pNw U ∧ tFx E U U.heap ∧ (ak = 2 → E.1 2 = U.heap.size))
def tQpost (E : tEnv) (ak : Nat) (r : Option pV) (cs : List tC) : Array Value → State → Outcome → State → Prop := fun _ st oc t => oc = .returned (r.map (pv E.1)) ∧ tHp E cs t.heap ∧ va_F (tA E) st t ∧ (ak = 0 → t.heap.size = st.heap.size)
def tmRun (l : Launch) (E : tEnv) (d : Nat) (ak : Nat) (y : MethodName) (As : List pV) (cs : List tC) (r : Option pV) (cs' : List tC) : Prop :=
  ∃ (bytes : ByteArray) (maxL : Nat) (ret : Option FieldType) (d' : Nat), Cond.code y bytes maxL ret ∈ tb ∧ maxL ≤ 20 ∧ d' ≤ d ∧ Met l y (Cond.code y bytes maxL ret :: tb) (cRm d' (tMc ak) (tMs ak)) (tQpre E ak As cs) (tQpost E ak r cs') (tMc ak) (tMs ak) (tA E)
theorem tmRun.mono {l : Launch} {E : tEnv} {d d2 : Nat} {ak : Nat} {y : MethodName} {As : List pV} {cs cs' : List tC} {r : Option pV} (h : tmRun l E d ak y As cs r cs') (hd : d ≤ d2) : tmRun l E d2 ak y As cs r cs' := by
  obtain ⟨b, m, ret, d', h1, h2, h3, h4⟩ := h
  exact ⟨b, m, ret, d', h1, h2, Nat.le_trans h3 hd, h4⟩
theorem tQpre_blind (E : tEnv) (ak : Nat) (As : List pV) (cs : List tC) : FrameBlind (tQpre E ak As cs) := by
  intro a U g mk q
  obtain ⟨q0, q1, q2, q3, q4, q5⟩ := q
  exact ⟨q0, q1, va_K.moved (u := U) (U := U.calling g mk a) (Vm.Alike.refl U.vm) q2, pNw.same (s := U) (U := U.calling g mk a) rfl q3, tFx_moved (u := U) (U := U.calling g mk a) (Vm.Alike.refl U.vm) q4, q5⟩
/-- a method of the builder's classes that is called on the builder: what an object of class C selects -/
def TV (own : String) (idx : Nat) (y : MethodName) (n : Nat) (C : String) : Prop := Cond.methodLink own idx y ∈ tb ∧ Cond.instanceMethod y ∈ tb ∧ (Cond.selects C y y ∈ tb ∨ (y ∈ tPriv ∧ ∃ x0 y0 : MethodName, Cond.selects C x0 y0 ∈ tb ∧ y0.cls = y.cls)) ∧ Cond.initialized y.cls ∈ tb ∧ YK y n
/-- one called by super -/
def TU (own : String) (idx : Nat) (y : MethodName) (n : Nat) : Prop := Cond.methodLink own idx y ∈ tb ∧ Cond.sameMethod y.cls y.cls y.name y.desc ∈ tb ∧ Cond.superclass own y.cls ∈ tb ∧ Cond.instanceMethod y ∈ tb ∧ Cond.initialized y.cls ∈ tb ∧ y.name ≠ "<init>" ∧ (parseMethodDescriptor y.desc).map (fun d => d.parameters.length) = some n
def tmStep (own : String) (ak : Nat) (wl : Nat) (sb : Nat → Int32) (Rn : Nat → MethodName → List pV → List tC → Option pV → List tC → Prop) (RT : Option pV → List tC → Prop) (i : Instr) (n pc : Nat) (L : pLo) (S : List pV) (b : Bool) (cs : List tC) (G : Nat → pLo → List pV → Bool → List tC → Prop) : Prop := match i with
  | .iconst k => n = 1 ∧ G (pc + 1) L (pI (Int32.ofInt k) :: S) b cs
  | .bipush k => n = 2 ∧ G (pc + 2) L (pI (Int8.ofInt k).toInt32 :: S) b cs
  | .sipush k => n = 3 ∧ G (pc + 3) L (pI (Int16.ofInt k).toInt32 :: S) b cs
  | .ldc idx => n = 2 ∧ ∃ v : Int32, Cond.constant own idx v ∈ tb ∧ G (pc + 2) L (pI v :: S) b cs
  | .iload_n k => n = 1 ∧ ∃ x : Int32, L[(k : Nat)]? = some (some (pI x)) ∧ G (pc + 1) L (pI x :: S) b cs
  | .iload k => n = 2 ∧ ∃ x : Int32, L[k]? = some (some (pI x)) ∧ G (pc + 2) L (pI x :: S) b cs
  | .aload_n k => n = 1 ∧ ∃ x : Nat, L[(k : Nat)]? = some (some (pR x)) ∧ G (pc + 1) L (pR x :: S) b cs
  | .aload k => n = 2 ∧ ∃ x : Nat, L[k]? = some (some (pR x)) ∧ G (pc + 2) L (pR x :: S) b cs
  | .astore k => n = 2 ∧ ∃ (x : Nat) (S' : List pV), S = pR x :: S' ∧ k < L.length ∧ G (pc + 2) (pSet1 L k (pR x)) S' b cs
  | .istore_n k => n = 1 ∧ ∃ (x : Int32) (S' : List pV), S = pI x :: S' ∧ (k : Nat) < L.length ∧ G (pc + 1) (pSet1 L k (pI x)) S' b cs
  | .istore k => n = 2 ∧ ∃ (x : Int32) (S' : List pV), S = pI x :: S' ∧ k < L.length ∧ G (pc + 2) (pSet1 L k (pI x)) S' b cs
  | .astore_n k => n = 1 ∧ ∃ (x : Nat) (S' : List pV), S = pR x :: S' ∧ (k : Nat) < L.length ∧ G (pc + 1) (pSet1 L k (pR x)) S' b cs
  | .iinc k z => n = 3 ∧ ∃ x : Int32, L[k]? = some (some (pI x)) ∧ G (pc + 3) (pSet1 L k (pI (x + Int32.ofInt z))) S b cs
  | .iadd => n = 1 ∧ ∃ (x y : Int32) (S' : List pV), S = pI y :: pI x :: S' ∧ G (pc + 1) L (pI (x + y) :: S') b cs
  | .isub => n = 1 ∧ ∃ (x y : Int32) (S' : List pV), S = pI y :: pI x :: S' ∧ G (pc + 1) L (pI (x - y) :: S') b cs
  | .imul => n = 1 ∧ ∃ (x y : Int32) (S' : List pV), S = pI y :: pI x :: S' ∧ G (pc + 1) L (pI (x * y) :: S') b cs
  | .iand => n = 1 ∧ ∃ (x y : Int32) (S' : List pV), S = pI y :: pI x :: S' ∧ G (pc + 1) L (pI (x &&& y) :: S') b cs
  | .ishl => n = 1 ∧ ∃ (x y : Int32) (S' : List pV), S = pI y :: pI x :: S' ∧ G (pc + 1) L (pI (x <<< (y &&& 31)) :: S') b cs
  | .ishr => n = 1 ∧ ∃ (x y : Int32) (S' : List pV), S = pI y :: pI x :: S' ∧ G (pc + 1) L (pI (x >>> (y &&& 31)) :: S') b cs
  | .idiv => n = 1 ∧ ∃ (x y : Int32) (S' : List pV), S = pI y :: pI x :: S' ∧ ¬ y = 0 ∧ G (pc + 1) L (pI (x / y) :: S') b cs
  | .ineg => n = 1 ∧ ∃ (x : Int32) (S' : List pV), S = pI x :: S' ∧ G (pc + 1) L (pI (-x) :: S') b cs
  | .i2b => n = 1 ∧ ∃ (x : Int32) (S' : List pV), S = pI x :: S' ∧ G (pc + 1) L (pI x.toInt8.toInt32 :: S') b cs
  | .i2c => n = 1 ∧ ∃ (x : Int32) (S' : List pV), S = pI x :: S' ∧ G (pc + 1) L (pI (x.toUInt32 % 65536).toInt32 :: S') b cs
  | .dup => n = 1 ∧ ∃ (v : pV) (S' : List pV), S = v :: S' ∧ pcat v = 1 ∧ G (pc + 1) L (v :: v :: S') b cs
  | .dup_x1 => n = 1 ∧ ∃ (v w : pV) (S' : List pV), S = v :: w :: S' ∧ pcat v = 1 ∧ pcat w = 1 ∧ G (pc + 1) L (v :: w :: v :: S') b cs
  | .pop => n = 1 ∧ ∃ (v : pV) (S' : List pV), S = v :: S' ∧ pcat v = 1 ∧ G (pc + 1) L S' b cs
  | .goto off => n = 3 ∧ ∃ t : Nat, pTg pc off t ∧ G t L S b cs
  | .ifCond c off => n = 3 ∧ ∃ (t : Nat) (x : Int32) (S' : List pV), pTg pc off t ∧ S = pI x :: S' ∧ (pCc c x 0 → G t L S' b cs) ∧ (¬ pCc c x 0 → G (pc + 3) L S' b cs)
  | .if_icmp c off => n = 3 ∧ ∃ (t : Nat) (x y : Int32) (S' : List pV), pTg pc off t ∧ S = pI y :: pI x :: S' ∧ (pCc c x y → G t L S' b cs) ∧ (¬ pCc c x y → G (pc + 3) L S' b cs)
  | .ifnonnull off => n = 3 ∧ ∃ (t x : Nat) (S' : List pV), pTg pc off t ∧ S = pR x :: S' ∧ G t L S' b cs
  | .getfield idx => n = 3 ∧ ((∃ (j o : Nat) (v : pV) (fs S' : List pV), S = pR o :: S' ∧ FL own idx 13 j ∧ cs[o]? = some (.inr fs) ∧ fs[j]? = some v ∧ G (pc + 3) L (v :: S') b cs)
    ∨ (∃ S' : List pV, S = pR 50 :: S' ∧ Cond.fieldLink own idx "java/lang/String" "coder" "B" ∈ tb ∧ G (pc + 3) L (pI 0 :: S') b cs)
    ∨ (∃ S' : List pV, S = pR 50 :: S' ∧ Cond.fieldLink own idx "java/lang/String" "value" "[B" ∈ tb ∧ G (pc + 3) L (pR 51 :: S') b cs))
  | .putfield idx => n = 3 ∧ ∃ (j o : Nat) (v : pV) (fs S' : List pV) (C : String) (T : u_T) (N : Nat) (ty0 : Nat → FieldType), S = v :: pR o :: S' ∧ CK 13 C T N ty0 ∧ j < N ∧ Cond.fieldLink own idx (T j).1 (T j).2.1 (T j).2.2.1 ∈ tb ∧ cs[o]? = some (.inr fs) ∧ j < fs.length ∧ cFits (ty0 j) v = true ∧ (T j).2.2.2 = false ∧ G (pc + 3) L S' true (cs.set o (.inr (fs.set j v)))
  | .getstatic idx => n = 3 ∧ ((Cond.fieldLink own idx "java/lang/String" "COMPACT_STRINGS" "Z" ∈ tb ∧ G (pc + 3) L (pI 1 :: S) b cs)
    ∨ (Cond.fieldLink own idx "java/lang/Integer" "DigitOnes" "[B" ∈ tb ∧ G (pc + 3) L (pR 52 :: S) b cs)
    ∨ (Cond.fieldLink own idx "java/lang/Integer" "DigitTens" "[B" ∈ tb ∧ G (pc + 3) L (pR 53 :: S) b cs)
    ∨ False)
  | .arraylength => n = 1 ∧ ((∃ (a N : Nat) (f : Nat → Int32) (S' : List pV), S = pR a :: S' ∧ cs[a]? = some (.inl (N, f)) ∧ G (pc + 1) L (pI (Int32.ofNat N) :: S') b cs) ∨ (∃ S' : List pV, S = pR 51 :: S' ∧ G (pc + 1) L (pI (Int32.ofNat wl) :: S') b cs))
  | .baload => n = 1 ∧ ((∃ (a N : Nat) (f : Nat → Int32) (x : Int32) (S' : List pV), S = pI x :: pR a :: S' ∧ cs[a]? = some (.inl (N, f)) ∧ vp_in x N ∧ G (pc + 1) L (pI (f x.toNatClampNeg) :: S') b cs)
    ∨ (∃ (x : Int32) (S' : List pV), S = pI x :: pR 52 :: S' ∧ vp_in x 100 ∧ G (pc + 1) L (pI (sb_b (48 + x.toNatClampNeg % 10)) :: S') b cs)
    ∨ (∃ (x : Int32) (S' : List pV), S = pI x :: pR 53 :: S' ∧ vp_in x 100 ∧ G (pc + 1) L (pI (sb_b (48 + x.toNatClampNeg / 10)) :: S') b cs)
    ∨ (∃ (x : Int32) (S' : List pV), S = pI x :: pR 51 :: S' ∧ vp_in x wl ∧ G (pc + 1) L (pI (sb x.toNatClampNeg) :: S') b cs))
  | .bastore => n = 1 ∧ ∃ (a N : Nat) (f : Nat → Int32) (x v : Int32) (S' : List pV), S = pI v :: pI x :: pR a :: S' ∧ cs[a]? = some (.inl (N, f)) ∧ vp_in x N ∧ G (pc + 1) L S' true (cs.set a (.inl (N, upd f x.toNatClampNeg v.toInt8.toInt32)))
  | .newarray at0 => n = 2 ∧ at0 = .byte ∧ ∃ (N : Nat) (S' : List pV), S = pI (Int32.ofNat N) :: S' ∧ N ≤ 100 ∧ ak = 2 ∧ b = false ∧ cs.length = 2 ∧ G (pc + 2) L (pR 2 :: S') true (cs ++ [.inl (N, fun _ => 0)])
  | .invokevirtual idx => n = 3 ∧ ∃ (ac : Nat) (C : String) (y : MethodName) (k o : Nat) (As rest : List pV) (r : Option pV) (cs' : List tC), TV own idx y k C ∧ S = As.reverse ++ pR o :: rest ∧ As.length = k ∧ psz rest ≤ 8 ∧ ((C = RJ4 ∧ ∃ fs, cs[o]? = some (.inr fs)) ∨ (C = "java/lang/String" ∧ o = 50)) ∧ Rn ac y (pR o :: As) cs r cs' ∧ (ac = 2 → ak = 2 ∧ b = false) ∧ G (pc + 3) L (r.toList ++ rest) (b || ac != 0) cs'
  | .invokespecial idx => n = 3 ∧ ∃ (ac : Nat) (y : MethodName) (k o : Nat) (As rest : List pV) (r : Option pV) (cs' : List tC), TU own idx y k ∧ S = As.reverse ++ pR o :: rest ∧ As.length = k ∧ psz rest ≤ 8 ∧ (∃ fs, cs[o]? = some (.inr fs)) ∧ Rn ac y (pR o :: As) cs r cs' ∧ (ac = 2 → ak = 2 ∧ b = false) ∧ G (pc + 3) L (r.toList ++ rest) (b || ac != 0) cs'
  | .invokestatic idx => n = 3 ∧ ((∃ (ac : Nat) (y : MethodName) (k : Nat) (As rest : List pV) (r : Option pV) (cs' : List tC), CLS own idx y k ∧ S = As.reverse ++ rest ∧ As.length = k ∧ psz rest ≤ 8 ∧ Rn ac y As cs r cs' ∧ (ac = 2 → ak = 2 ∧ b = false) ∧ G (pc + 3) L (r.toList ++ rest) (b || ac != 0) cs')
    ∨ (∃ (x y : Int32) (S' : List pV), Cond.methodLink own idx Lib.Math.max.name ∈ tb ∧ S = pI y :: pI x :: S' ∧ psz S' ≤ 8 ∧ G (pc + 3) L (pI (if x < y then y else x) :: S') b cs)
    ∨ (∃ (x y : Int32) (S' : List pV), Cond.methodLink own idx Lib.Math.min.name ∈ tb ∧ S = pI y :: pI x :: S' ∧ psz S' ≤ 8 ∧ G (pc + 3) L (pI (if y < x then y else x) :: S') b cs)
    ∨ (∃ (a a2 N N2 : Nat) (f g : Nat → Int32) (sp dp k : Int32) (S' : List pV), Cond.methodLink own idx arraycopyName ∈ tb ∧ S = pI k :: pI dp :: pR a2 :: pI sp :: pR a :: S' ∧ psz S' ≤ 8 ∧ ¬ sp < 0 ∧ ¬ dp < 0 ∧ ¬ k < 0 ∧ cs[a]? = some (.inl (N, f)) ∧ cs[a2]? = some (.inl (N2, g)) ∧ sp.toNatClampNeg + k.toNatClampNeg ≤ N ∧ dp.toNatClampNeg + k.toNatClampNeg ≤ N2 ∧ sb_Fit f ∧ G (pc + 3) L S' true (cs.set a2 (.inl (N2, va_cpy f g sp.toNatClampNeg dp.toNatClampNeg k.toNatClampNeg))))
    ∨ (∃ (a2 N2 : Nat) (g : Nat → Int32) (sp dp k : Int32) (S' : List pV), Cond.methodLink own idx arraycopyName ∈ tb ∧ S = pI k :: pI dp :: pR a2 :: pI sp :: pR 51 :: S' ∧ psz S' ≤ 8 ∧ ¬ sp < 0 ∧ ¬ dp < 0 ∧ ¬ k < 0 ∧ cs[a2]? = some (.inl (N2, g)) ∧ sp.toNatClampNeg + k.toNatClampNeg ≤ wl ∧ dp.toNatClampNeg + k.toNatClampNeg ≤ N2 ∧ sb_Fit sb ∧ G (pc + 3) L S' true (cs.set a2 (.inl (N2, va_cpy sb g sp.toNatClampNeg dp.toNatClampNeg k.toNatClampNeg)))))
  | .ireturn => n = 1 ∧ ∃ x : Int32, S = [pI x] ∧ (ak = 0 → b = false) ∧ RT (some (pI x)) cs
  | .areturn => n = 1 ∧ ∃ x : Nat, S = [pR x] ∧ (ak = 0 → b = false) ∧ RT (some (pR x)) cs
  | .return_ => n = 1 ∧ S = [] ∧ (ak = 0 → b = false) ∧ RT none cs
  | _ => False
def tmRules (own : String) (cc : ByteArray) (ak : Nat) (wl : Nat) (sb : Nat → Int32) (Rn : Nat → MethodName → List pV → List tC → Option pV → List tC → Prop) (RT : Option pV → List tC → Prop) (G : Nat → pLo → List pV → Bool → List tC → Prop) : Prop :=
  ∀ (pc : Nat) (i : Instr) (n : Nat) (L : pLo) (S : List pV) (b : Bool) (cs : List tC), decode cc pc = .ok (i, n) → tmStep own ak wl sb Rn RT i n pc L S b cs G → G pc L S b cs
