/-! ===== THE MAKING MACHINE: constructors; cells come one behind the other, at the addresses from b0 on ===== -/
abbrev cEt : Type := (Nat × Nat × (Nat → Int32)) ⊕ (Nat × List (Option pV))
abbrev cM : Type := List cEt
/-- the surroundings: the first address, classes, the three array classes, the known array types -/
abbrev cEnv : Type := Nat × va_G × (ClassId × ClassId × ClassId) × List (ClassId × FieldType)
def cad (b0 : Nat) : Nat → Nat := fun k => b0 + k
def cv (b0 : Nat) : Option pV → Value
  | none => .null
  | some v => pv (cad b0) v
def cEn (E : cEnv) : cEt → va_E
  | .inl (0, n, f) => .inl (E.2.2.1.1, n, .inl f)
  | .inl (1, n, f) => .inl (E.2.2.1.2.1, n, .inl f)
  | .inl (_, n, _) => .inl (E.2.2.1.2.2, n, .inr (.inl fun _ => 0))
  | .inr (ci, fs) => .inr (ci, fs.map (cv E.1))
def cWl (E : cEnv) : Nat → cM → va_W
  | _, [] => []
  | k, e :: t => (E.1 + k, cEn E e) :: cWl E (k + 1) t
theorem cWl_get (E : cEnv) : ∀ (l : cM) (j k : Nat), (cWl E j l)[k]? = l[k]?.map (fun e => (E.1 + (j + k), cEn E e))
  | [], j, k => by simp [cWl]
  | e :: t, j, 0 => by simp [cWl]
  | e :: t, j, k + 1 => by
    rw [cWl, List.getElem?_cons_succ, List.getElem?_cons_succ, cWl_get E t (j + 1) k]
    congr 1; funext o; rw [show j + 1 + k = j + (k + 1) by omega]
theorem cWl_len (E : cEnv) : ∀ (l : cM) (j : Nat), (cWl E j l).length = l.length
  | [], j => rfl
  | e :: t, j => by rw [cWl, List.length_cons, List.length_cons, cWl_len E t]
theorem cWl_at {E : cEnv} {cs : cM} {k : Nat} {e : cEt} (h : cs[k]? = some e) : (cWl E 0 cs)[k]? = some (E.1 + k, cEn E e) := by
  rw [cWl_get, h]; simp
theorem cWl_set (E : cEnv) (cs : cM) (k : Nat) (e : cEt) : (cWl E 0 cs).set k (E.1 + k, cEn E e) = cWl E 0 (cs.set k e) := by
  refine List.ext_getElem? fun i => ?_
  rw [List.getElem?_set, cWl_get, cWl_get, List.getElem?_set, cWl_len]
  by_cases hi : k = i
  · subst hi
    rw [if_pos rfl, if_pos rfl]
    split <;> simp
  · rw [if_neg hi, if_neg hi]
theorem cWl_app (E : cEnv) (e : cEt) : ∀ (cs : cM) (j : Nat), cWl E j (cs ++ [e]) = cWl E j cs ++ [(E.1 + (j + cs.length), cEn E e)]
  | [], j => rfl
  | c :: t, j => by
    rw [List.cons_append, cWl, cWl_app E e t (j + 1), cWl, List.cons_append, List.length_cons, show j + 1 + t.length = j + (t.length + 1) by omega]
def cFree (E : cEnv) : Nat → Prop := fun q => E.1 ≤ q
theorem cWl_D (E : cEnv) (cs : cM) : va_D (cFree E) (cWl E 0 cs) := by
  have key : ∀ (k : Nat) (q : Nat × va_E), (cWl E 0 cs)[k]? = some q → q.1 = E.1 + k := by
    intro k q h
    rw [cWl_get] at h
    cases hc : cs[k]? with
    | none => rw [hc] at h; cases h
    | some e => rw [hc] at h; cases h; simp
  refine ⟨fun i j p q hi hj hpq => ?_, fun k q h => ?_⟩
  · have h1 := key i p hi
    have h2 := key j q hj
    omega
  · show E.1 ≤ q.1
    rw [key k q h]; omega
/-- how many slots -/
def cSz1 : cEt → Nat
  | .inl (_, n, _) => n
  | .inr (_, fs) => fs.length
def cSz (cs : cM) : Nat := (cs.map cSz1).sum
theorem cSz_app (cs : cM) (e : cEt) : cSz (cs ++ [e]) = cSz cs + cSz1 e := by simp [cSz]
theorem cSz_set : ∀ (cs : cM) (k : Nat) (e0 e : cEt), cs[k]? = some e0 → cSz1 e = cSz1 e0 → cSz (cs.set k e) = cSz cs
  | [], k, e0, e, h, _ => by simp at h
  | c :: t, 0, e0, e, h, hs => by simp at h; subst h; simp [cSz, hs]
  | c :: t, k + 1, e0, e, h, hs => by
    have := cSz_set t k e0 e (by simpa using h) hs
    simp [cSz] at this ⊢; exact this
def cHp (E : cEnv) (cs : cM) (H : Heap) : Prop := va_P E.2.1 classes (cWl E 0 cs) H ∧ H.size = E.1 + cs.length
def cOkE (E : cEnv) : Prop := E.2.2.2[0]? = some (E.2.2.1.1, .int) ∧ E.2.2.2[1]? = some (E.2.2.1.2.1, .byte) ∧ E.2.2.2[2]? = some (E.2.2.1.2.2, .long)
/-- the static that a StringBuilder's constructor reads -/
def cSt (E : cEnv) (U : State) (H : Heap) : Prop := va_Z "java/lang/String" "COMPACT_STRINGS" "Z" (.int 1) (cFree E) U H
def cPc (E : cEnv) (As : List pV) (cs : cM) : Array Value → State → Prop := va_Pc (As.map (pv (cad E.1))) (fun U => cHp E cs U.heap ∧ va_K E.2.1 classes E.2.2.2 U ∧ pNw U ∧ cSt E U U.heap)
def cQc (E : cEnv) (cs : cM) : Array Value → State → Outcome → State → Prop := fun _ st oc t => oc = .returned none ∧ cHp E cs t.heap ∧ va_F (cFree E) st t
abbrev cRm (d mc ms : Nat) : Room := { frames := d, cells := mc, slots := ms, locals := 40 * d }
def cRun (l : Launch) (E : cEnv) (d mc ms : Nat) (y : MethodName) (As : List pV) (cs cs' : cM) : Prop :=
  cs'.length = cs.length + mc ∧ cSz cs' = cSz cs + ms ∧ ∃ (bytes : ByteArray) (maxL d' : Nat), Cond.code y bytes maxL none ∈ tb ∧ maxL ≤ 20 ∧ d' ≤ d ∧ Met l y (Cond.code y bytes maxL none :: tb) (cRm d' mc ms) (cPc E As cs) (cQc E cs') mc ms (cFree E)
theorem cRun.mono {l : Launch} {E : cEnv} {d d2 mc ms : Nat} {y : MethodName} {As : List pV} {cs cs' : cM} (h : cRun l E d mc ms y As cs cs') (hd : d ≤ d2) : cRun l E d2 mc ms y As cs cs' := by
  obtain ⟨h1, h2, b, m, d', h3, h4, h5, h6⟩ := h
  exact ⟨h1, h2, b, m, d', h3, h4, Nat.le_trans h5 hd, h6⟩
theorem cPc_blind (E : cEnv) (As : List pV) (cs : cM) : FrameBlind (cPc E As cs) := by
  intro a U g mk q
  obtain ⟨q0, q1, q2, q3, q4⟩ := q
  exact ⟨q0, q1, va_K.moved (u := U) (U := U.calling g mk a) (Vm.Alike.refl U.vm) q2, pNw.same (s := U) (U := U.calling g mk a) rfl q3, va_Z.moved (u := U) (U := U.calling g mk a) (Vm.Alike.refl U.vm) q4⟩
theorem cSt_moved {E : cEnv} {u U : State} {H : Heap} (hvm : u.vm.Alike U.vm) (h : cSt E u H) : cSt E U H := va_Z.moved hvm h
def cDef : FieldType → Option pV
  | .int => some (pI 0)
  | .boolean => some (pI 0)
  | .byte => some (pI 0)
  | _ => none
/-- which value may lie in a field of a type -/
def cFits : FieldType → pV → Bool
  | .int, .inl _ => true
  | .boolean, .inl x => x == 0 || x == 1
  | .byte, .inl x => x == 0
  | .object _, .inr (.inr _) => true
  | .array _, .inr (.inr _) => true
  | _, _ => false
def cStep (own : String) (ini : Bool) (lc lz : Nat) (Rn : MethodName → List pV → cM → cM → Prop) (RT : cM → Prop) (i : Instr) (n pc : Nat) (L : pLo) (S : List pV) (cs : cM) (G : Nat → pLo → List pV → cM → Prop) : Prop := match i with
  | .iconst k => n = 1 ∧ G (pc + 1) L (pI (Int32.ofInt k) :: S) cs
  | .bipush k => n = 2 ∧ G (pc + 2) L (pI (Int8.ofInt k).toInt32 :: S) cs
  | .sipush k => n = 3 ∧ G (pc + 3) L (pI (Int16.ofInt k).toInt32 :: S) cs
  | .iload_n k => n = 1 ∧ ∃ x : Int32, L[(k : Nat)]? = some (some (pI x)) ∧ G (pc + 1) L (pI x :: S) cs
  | .aload_n k => n = 1 ∧ ∃ x : Nat, L[(k : Nat)]? = some (some (pR x)) ∧ G (pc + 1) L (pR x :: S) cs
  | .istore_n k => n = 1 ∧ ∃ (x : Int32) (S' : List pV), S = pI x :: S' ∧ (k : Nat) < L.length ∧ G (pc + 1) (pSet1 L k (pI x)) S' cs
  | .astore_n k => n = 1 ∧ ∃ (x : Nat) (S' : List pV), S = pR x :: S' ∧ (k : Nat) < L.length ∧ G (pc + 1) (pSet1 L k (pR x)) S' cs
  | .iinc k z => n = 3 ∧ ∃ x : Int32, L[k]? = some (some (pI x)) ∧ G (pc + 3) (pSet1 L k (pI (x + Int32.ofInt z))) S cs
  | .goto off => n = 3 ∧ ∃ t : Nat, pTg pc off t ∧ G t L S cs
  | .ifCond .eq off => n = 3 ∧ ∃ (t : Nat) (x : Int32) (S' : List pV), pTg pc off t ∧ S = pI x :: S' ∧ (x = 0 → G t L S' cs) ∧ (¬ x = 0 → G (pc + 3) L S' cs)
  | .if_icmp .ge off => n = 3 ∧ ∃ (t : Nat) (x y : Int32) (S' : List pV), pTg pc off t ∧ S = pI y :: pI x :: S' ∧ (y ≤ x → G t L S' cs) ∧ (¬ y ≤ x → G (pc + 3) L S' cs)
  | .dup => n = 1 ∧ ∃ (v : pV) (S' : List pV), S = v :: S' ∧ pcat v = 1 ∧ G (pc + 1) L (v :: v :: S') cs
  | .new idx => n = 3 ∧ ∃ (ci : Nat) (C : String) (T : u_T) (N : Nat) (ty0 : Nat → FieldType), CK ci C T N ty0 ∧ Cond.classLink own idx C ∈ tb ∧ Cond.instantiable C N ∈ tb ∧ Cond.initialized C ∈ tb ∧ (∀ j, j < N → defaultValue (ty0 j) = cv 0 (cDef (ty0 j))) ∧ cs.length + 1 ≤ lc ∧ cSz cs + N ≤ lz ∧ G (pc + 3) L (pR cs.length :: S) (cs ++ [.inr (ci, (List.range N).map fun j => cDef (ty0 j))])
  | .newarray at0 => n = 2 ∧ ∃ (N : Nat) (tag : Nat) (S' : List pV), S = pI (Int32.ofNat N) :: S' ∧ N ≤ 65536 ∧ ((at0 = .int ∧ tag = 0) ∨ (at0 = .byte ∧ tag = 1) ∨ (at0 = .long ∧ tag = 2)) ∧ cs.length + 1 ≤ lc ∧ cSz cs + N ≤ lz ∧ G (pc + 2) L (pR cs.length :: S') (cs ++ [.inl (tag, N, fun _ => 0)])
  | .putfield idx => n = 3 ∧ ∃ (ci j o : Nat) (v : pV) (fs : List (Option pV)) (C : String) (T : u_T) (N : Nat) (ty0 : Nat → FieldType) (S' : List pV), S = v :: pR o :: S' ∧ CK ci C T N ty0 ∧ j < N ∧ Cond.fieldLink own idx (T j).1 (T j).2.1 (T j).2.2.1 ∈ tb ∧ cs[o]? = some (.inr (ci, fs)) ∧ j < fs.length ∧ cFits (ty0 j) v = true ∧ ((T j).2.2.2 = false ∨ ((T j).1 = own ∧ ini = true)) ∧ G (pc + 3) L S' (cs.set o (.inr (ci, fs.set j (some v))))
  | .getfield idx => n = 3 ∧ ∃ (ci j o : Nat) (v : pV) (fs : List (Option pV)) (S' : List pV), S = pR o :: S' ∧ FL own idx ci j ∧ cs[o]? = some (.inr (ci, fs)) ∧ fs[j]? = some (some v) ∧ G (pc + 3) L (v :: S') cs
  | .getstatic idx => n = 3 ∧ Cond.fieldLink own idx "java/lang/String" "COMPACT_STRINGS" "Z" ∈ tb ∧ G (pc + 3) L (pI 1 :: S) cs
  | .arraylength => n = 1 ∧ ∃ (a tag N : Nat) (f : Nat → Int32) (S' : List pV), S = pR a :: S' ∧ cs[a]? = some (.inl (tag, N, f)) ∧ G (pc + 1) L (pI (Int32.ofNat N) :: S') cs
  | .iastore => n = 1 ∧ ∃ (a N : Nat) (f : Nat → Int32) (x v : Int32) (S' : List pV), S = pI v :: pI x :: pR a :: S' ∧ cs[a]? = some (.inl (0, N, f)) ∧ vp_in x N ∧ G (pc + 1) L S' (cs.set a (.inl (0, N, upd f x.toNatClampNeg v)))
  | .invokespecial idx => n = 3 ∧ ((∃ (o : Nat) (S' : List pV), Cond.methodLink own idx Lib.objectInit ∈ tb ∧ S = pR o :: S' ∧ psz S' ≤ 8 ∧ G (pc + 3) L S' cs)
    ∨ ∃ (y : MethodName) (k o mc ms : Nat) (As rest : List pV) (cs' : cM), ((Cond.methodLink own idx y ∈ tb) ∨ ∃ host : String, Cond.methodLinkNest own idx y host ∈ nw) ∧ Cond.instanceMethod y ∈ tb ∧ Cond.initialized y.cls ∈ tb ∧ YK y k ∧ y.name = "<init>" ∧ S = As.reverse ++ pR o :: rest ∧ As.length = k ∧ psz rest ≤ 8 ∧ Rn y (pR o :: As) cs cs' ∧ cs'.length ≤ lc ∧ cSz cs' ≤ lz ∧ G (pc + 3) L rest cs')
  | .invokestatic idx => n = 3 ∧ ∃ (y : MethodName) (k : Nat) (As rest : List pV) (cs' : cM), CLS own idx y k ∧ S = As.reverse ++ rest ∧ As.length = k ∧ psz rest ≤ 8 ∧ Rn y As cs cs' ∧ cs'.length ≤ lc ∧ cSz cs' ≤ lz ∧ G (pc + 3) L rest cs'
  | .return_ => n = 1 ∧ S = [] ∧ RT cs
  | _ => False
def cRules (own : String) (cc : ByteArray) (ini : Bool) (lc lz : Nat) (Rn : MethodName → List pV → cM → cM → Prop) (RT : cM → Prop) (G : Nat → pLo → List pV → cM → Prop) : Prop :=
  ∀ (pc : Nat) (i : Instr) (n : Nat) (L : pLo) (S : List pV) (cs : cM), decode cc pc = .ok (i, n) → cStep own ini lc lz Rn RT i n pc L S cs G → G pc L S cs
theorem cDef_shift (b0 : Nat) (t : FieldType) : cv b0 (cDef t) = cv 0 (cDef t) := by cases t <;> rfl
theorem lk_obj : Cond.instanceMethod Lib.objectInit ∈ tb ∧ Cond.code Lib.objectInit ⟨#[0xb1]⟩ 1 none ∈ tb := by
  refine ⟨tb_of ?_ rfl, tb_of ?_ rfl⟩ <;> decide +kernel
theorem lk_arr : Cond.arrayClass .int ∈ tb ∧ Cond.arrayClass .byte ∈ tb ∧ Cond.arrayClass .long ∈ tb := by
  refine ⟨tb_of ?_ rfl, tb_of ?_ rfl, tb_of ?_ rfl⟩ <;> decide +kernel
theorem cFits_ok {ty : FieldType} {v : pV} (ad : Nat → Nat) (h : cFits ty v = true) : narrow ty (pv ad v) = pv ad v ∧ fits ty (pv ad v) = true := by
  rcases v with x | x | x <;> cases ty <;> simp [cFits] at h
  · subst h; exact ⟨rfl, rfl⟩
  · exact ⟨rfl, rfl⟩
  · rcases h with rfl | rfl <;> exact ⟨rfl, rfl⟩
  · exact ⟨rfl, rfl⟩
  · exact ⟨rfl, rfl⟩
theorem c_arrs {s : State} {E : cEnv} {cA : ClassId} {t0 : Nat} {c0 : ClassId} {ty : FieldType} (hK : va_K E.2.1 classes E.2.2.2 s) (h : E.2.2.2[t0]? = some (c0, ty)) (hty : ty = .int ∨ ty = .byte ∨ ty = .long) (hf : s.vm.findClass ("[" ++ ty.toString) = some cA) : cA = c0 := by
  have h1 := (hK.2 t0 _ h).2
  rcases hty with rfl | rfl | rfl
  · exact Option.some.inj (hf.symm.trans h1)
  · exact Option.some.inj (hf.symm.trans h1)
  · exact Option.some.inj (hf.symm.trans h1)
theorem cHp_new {E : cEnv} {cs : cM} {H H1 : Heap} {e0 : cEt} (hP : va_P E.2.1 classes (cWl E 0 cs) H) (hz : H.size = E.1 + cs.length) (hz1 : H1.size = H.size + 1) (ho : ∀ q, q < H.size → H1[q]? = H[q]?) (hn : va_at E.2.1 classes (E.1 + cs.length, cEn E e0) H1) : cHp E (cs ++ [e0]) H1 := by
  refine ⟨?_, by rw [hz1, hz, List.length_append]; rfl⟩
  rw [cWl_app, Nat.zero_add]
  refine va_P.app (hP.kept fun k q hk => ho q.1 ((hP k q hk).lt)) fun k q hk => ?_
  have hk1 : k < 1 := (List.getElem?_eq_some_iff.mp hk).1
  rw [show k = 0 by omega] at hk
  cases hk
  exact hn
section MK
variable {p : Program} {l : Launch} {e : Env} {R : Room} {s : State} {m : MethodId} {args : Array Value} {below : List Frame} {meth : Method} {c : Code} {Q : State → Prop} {E : cEnv} {cc : ByteArray} {nL d n0 z0 : Nat} {own : String}
def cG (p : Program) (l : Launch) (e : Env) (R : Room) (s : State) (m : MethodId) (args : Array Value) (below : List Frame) (meth : Method) (c : Code) (Q : State → Prop) (E : cEnv) (H0 : Heap) (nL n0 z0 : Nat) (pc : Nat) (L : pLo) (S : List pV) (cs : cM) : Prop :=
  L.length = nL → ∀ (ls : Array Slot) (H : Heap) (locs : List Loc) (cells slots : Nat), cells + n0 = cs.length → slots + z0 = cSz cs → lv_has ls nL (pll (cad E.1) 0 L) → cHp E cs H → va_S (cFree E) H0 H locs → W p l e R s m args below meth c H locs cells slots Q (F0 m pc ls (S.map (pv (cad E.1))))
def cCx (p : Program) (R : Room) (s : State) (m : MethodId) (args : Array Value) (meth : Method) (c : Code) (E : cEnv) (H0 : Heap) (own : String) (cc : ByteArray) (nL d : Nat) (ini : Bool) : Prop :=
  p.tables.exec = Jvm.exec ∧ c.code = cc ∧ c.maxLocals = nL ∧ s.vm.findClass own = some m.cls ∧ (∀ w ∈ tb, w.before args s = true) ∧ va_K E.2.1 classes E.2.2.2 s ∧ cOkE E ∧ d + 1 ≤ R.frames ∧ 40 * (d + 1) ≤ R.locals ∧ meth.locks = false ∧ pNw s ∧ (H0 = s.heap ∧ cSt E s s.heap) ∧ (ini = true → meth.name = "<init>")
theorem c_call {H : Heap} {locs : List Loc} {pc cells slots mc ms : Nat} {ls : Array Slot} {st0 rest : List Value} {a : Array Value} {cs' : cM} {H0 : Heap}
    (hr : va_Run p l e R s m args below meth c H locs cells slots mc ms (F0 m pc ls st0) rest (cQc E cs' a) (cFree E)) (hS : va_S (cFree E) H0 H locs)
    (kk : ∀ (H1 : Heap) (locs1 : List Loc), cHp E cs' H1 → va_S (cFree E) H0 H1 locs1 → W p l e R s m args below meth c H1 locs1 (cells + mc) (slots + ms) Q (F0 m (pc + 3) ls rest)) : W p l e R s m args below meth c H locs cells slots Q (F0 m pc ls st0) := by
  intro T hT X
  obtain ⟨v, st₀, t, T', L, h0, X', hL, e1, e2, ⟨hv, hb, hz, hk⟩, st⟩ := hr T hT X
  cases hv
  rw [h0] at hz hk
  obtain ⟨t2, a1, b1⟩ := kk T'.heap (locs ++ L) (by rw [e1]; exact hb)
    ⟨Nat.le_trans hS.1 (by rw [e1]; exact hz), fun q h1 h2 => by rw [e1, hk q (Nat.lt_of_lt_of_le h1 hS.1) h2]; exact hS.2.1 q h1 h2, fun q hq => by
      rcases List.mem_append.mp hq with h | h
      · exact hS.2.2 q h
      · exact hL q h⟩ T' rfl X'
  exact ⟨t2, st t2 a1, b1⟩
set_option maxHeartbeats 4000000 in
set_option maxRecDepth 100000 in
theorem cG_sound {RT : cM → Prop} {H0 : Heap} {ini : Bool} (C : cCx p R s m args meth c E H0 own cc nL d ini)
    (hret : ∀ (pc : Nat) (L : pLo) (cs : cM), decode cc pc = .ok (.return_, 1) → RT cs → cG p l e R s m args below meth c Q E H0 nL n0 z0 pc L [] cs) :
    cRules own cc ini (n0 + R.cells) (z0 + R.slots) (fun y As cs cs' => ∃ mc ms, cRun l E d mc ms y As cs cs') RT (cG p l e R s m args below meth c Q E H0 nL n0 z0) := by
  obtain ⟨hx, hb, hml, hown, hts, hK, ⟨hT0, hT1, hT2⟩, hfr, hlo, hlocks, hnw, ⟨rfl, hst⟩, hin⟩ := C
  intro pc i n L S cs hdg h hlen ls H locs cells slots hcn hsn hl hH hS
  have hP := hH.1
  have hHz := hH.2
  have hD := cWl_D E cs
  have hfree : ∀ a : Nat, a < s.heap.size → ¬ cFree E a → H[a]? = s.heap[a]? := fun a h1 h2 => hS.2.1 a h1 h2
  cases i with
  | iconst k =>
    obtain ⟨rfl, hg⟩ := h
    exact lv_iconst hx hb hdg rfl (hg hlen ls H locs _ _ hcn hsn hl hH hS)
  | bipush k =>
    obtain ⟨rfl, hg⟩ := h
    exact lv_bipush hx hb hdg rfl (hg hlen ls H locs _ _ hcn hsn hl hH hS)
  | sipush k =>
    obtain ⟨rfl, hg⟩ := h
    exact lv_sipush hx hb hdg rfl (hg hlen ls H locs _ _ hcn hsn hl hH hS)
  | iload_n k =>
    obtain ⟨rfl, x, hk, hg⟩ := h
    exact lv_iload_n hx hb hdg rfl (pll_at hl hk) (hg hlen ls H locs _ _ hcn hsn hl hH hS)
  | aload_n k =>
    obtain ⟨rfl, x, hk, hg⟩ := h
    exact lv_aload_n hx hb hdg rfl (pll_at hl hk) (hg hlen ls H locs _ _ hcn hsn hl hH hS)
  | istore_n k =>
    obtain ⟨rfl, x, S', rfl, hk, hg⟩ := h
    exact lv_istore_n hx hb hdg rfl hl (by omega) rfl (fun ls' hl' => hg (by rw [pSet1_len]; exact hlen) ls' H locs _ _ hcn hsn (pSet1_ll (cad E.1) L k nL _ ls' rfl hl') hH hS)
  | astore_n k =>
    obtain ⟨rfl, x, S', rfl, hk, hg⟩ := h
    exact lv_astore_n hx hb hdg rfl hl (by omega) rfl (fun ls' hl' => hg (by rw [pSet1_len]; exact hlen) ls' H locs _ _ hcn hsn (pSet1_ll (cad E.1) L k nL _ ls' rfl hl') hH hS)
  | iinc k z =>
    obtain ⟨rfl, x, hk, hg⟩ := h
    have hkn : k < nL := by rw [← hlen]; exact (List.getElem?_eq_some_iff.mp hk).1
    obtain ⟨k', hk'⟩ := List.getElem?_of_mem ((mem_pll (cad E.1) L 0 (k, pv (cad E.1) (pI x))).mpr ⟨k, pI x, hk, by simp⟩)
    exact lv_iinc hx hb hdg hl hk' rfl hkn rfl (fun ls' hl' => hg (by rw [pSet1_len]; exact hlen) ls' H locs _ _ hcn hsn (pSet1_ll (cad E.1) L k nL _ ls' rfl hl') hH hS)
  | goto off =>
    obtain ⟨rfl, t, ht, hg⟩ := h
    exact lv_goto hx hb hdg ht (hg hlen ls H locs _ _ hcn hsn hl hH hS)
  | ifCond cc0 off =>
    cases cc0 with
    | eq =>
      obtain ⟨rfl, t, x, S', ht, rfl, hg1, hg2⟩ := h
      exact lv_if_eq hx hb hdg ht (fun q => hg1 q hlen ls H locs _ _ hcn hsn hl hH hS) (fun q => hg2 q hlen ls H locs _ _ hcn hsn hl hH hS)
    | _ => exact False.elim h
  | if_icmp cc0 off =>
    cases cc0 with
    | ge =>
      obtain ⟨rfl, t, x, y, S', ht, rfl, hg1, hg2⟩ := h
      exact lv_icmp_ge hx hb hdg ht (fun q => hg1 q hlen ls H locs _ _ hcn hsn hl hH hS) (fun q => hg2 q hlen ls H locs _ _ hcn hsn hl hH hS)
    | _ => exact False.elim h
  | dup =>
    obtain ⟨rfl, v, S', rfl, hv, hg⟩ := h
    exact lv_dup hx hb hdg (by rw [pcat_pv]; exact hv) (hg hlen ls H locs _ _ hcn hsn hl hH hS)
  | new idx =>
    obtain ⟨rfl, ci, CN, T, N, ty0, hck, w1, w2, w3, hdf, hb1, hb2, hg⟩ := h
    have hKn := hK.1 ci _ hck.1
    refine W.newcK hx hb hown (hts _ w1) (hts _ w2) (hts _ w3) rfl hdg (by omega) (by omega) hKn.2.1 hH.2 fun H1 kC hkC e1 z1 o1 => ?_
    refine hg hlen ls H1 locs _ _ (by rw [List.length_append]; show cells + 1 + n0 = cs.length + 1; omega) (by rw [cSz_app]; show slots + N + z0 = cSz cs + ((List.range N).map fun j => cDef (ty0 j)).length; simp; omega) hl (cHp_new hP hH.2 (by rw [z1, hH.2]) (fun q hq => o1 q (by omega)) ?_) ⟨by rw [z1]; exact Nat.le_trans hS.1 (by omega), fun q h1 h2 => (o1 q (by rw [← hH.2]; exact Nat.lt_of_lt_of_le h1 hS.1)).trans (hS.2.1 q h1 h2), hS.2.2⟩
    refine ⟨_, hck.1, (u_born ty0 hts hck.2.1 hKn hkC e1 hck.2.2.1).to fun j hj => ?_⟩
    rw [hdf j hj, ← cDef_shift E.1]
    simp [vp_V, hj]
  | newarray at0 =>
    obtain ⟨rfl, N, tag, S', rfl, hN, hat, hb1, hb2, hg⟩ := h
    rcases hat with ⟨rfl, rfl⟩ | ⟨rfl, rfl⟩ | ⟨rfl, rfl⟩
    · refine va_newaK (atype := .int) (N := N) hx hb (hts _ lk_arr.1) rfl hdg rfl (nI_pos (by omega)) (nI_clamp (by omega)) (by show N * _ ≤ _; first | (have : componentBytes (newarray.typeOf .int) ≤ 8 := by decide); exact Nat.le_trans (Nat.mul_le_mul_left N this) (by omega)) (by omega) (by omega) hH.2 (fun H1 cA0 q1 q2 q3 q4 q5 => ?_)
      have hc := c_arrs hK hT0 (by first | exact Or.inl rfl | exact Or.inr (Or.inl rfl) | exact Or.inr (Or.inr rfl)) q5
      subst hc
      refine hg hlen ls H1 locs _ _ (by rw [List.length_append]; show cells + 1 + n0 = cs.length + 1; omega) (by rw [cSz_app]; show slots + N + z0 = cSz cs + N; omega) hl (cHp_new hP hH.2 (by rw [q2, hH.2]) (fun q hq => q3 q (by omega)) ?_) ⟨by rw [q2]; exact Nat.le_trans hS.1 (by omega), fun q h1 h2 => (q3 q (by rw [← hH.2]; exact Nat.lt_of_lt_of_le h1 hS.1)).trans (hS.2.1 q h1 h2), hS.2.2⟩
      show H1[E.1 + cs.length]? = some (vp_cell _ _)
      rw [vp_cell_i]
      exact q1
    · refine va_newaK (atype := .byte) (N := N) hx hb (hts _ lk_arr.2.1) rfl hdg rfl (nI_pos (by omega)) (nI_clamp (by omega)) (by show N * _ ≤ _; first | (have : componentBytes (newarray.typeOf .byte) ≤ 8 := by decide); exact Nat.le_trans (Nat.mul_le_mul_left N this) (by omega)) (by omega) (by omega) hH.2 (fun H1 cA0 q1 q2 q3 q4 q5 => ?_)
      have hc := c_arrs hK hT1 (by first | exact Or.inl rfl | exact Or.inr (Or.inl rfl) | exact Or.inr (Or.inr rfl)) q5
      subst hc
      refine hg hlen ls H1 locs _ _ (by rw [List.length_append]; show cells + 1 + n0 = cs.length + 1; omega) (by rw [cSz_app]; show slots + N + z0 = cSz cs + N; omega) hl (cHp_new hP hH.2 (by rw [q2, hH.2]) (fun q hq => q3 q (by omega)) ?_) ⟨by rw [q2]; exact Nat.le_trans hS.1 (by omega), fun q h1 h2 => (q3 q (by rw [← hH.2]; exact Nat.lt_of_lt_of_le h1 hS.1)).trans (hS.2.1 q h1 h2), hS.2.2⟩
      show H1[E.1 + cs.length]? = some (vp_cell _ _)
      rw [vp_cell_i]
      exact q1
    · refine va_newaK (atype := .long) (N := N) hx hb (hts _ lk_arr.2.2) rfl hdg rfl (nI_pos (by omega)) (nI_clamp (by omega)) (by show N * _ ≤ _; first | (have : componentBytes (newarray.typeOf .long) ≤ 8 := by decide); exact Nat.le_trans (Nat.mul_le_mul_left N this) (by omega)) (by omega) (by omega) hH.2 (fun H1 cA0 q1 q2 q3 q4 q5 => ?_)
      have hc := c_arrs hK hT2 (by first | exact Or.inl rfl | exact Or.inr (Or.inl rfl) | exact Or.inr (Or.inr rfl)) q5
      subst hc
      refine hg hlen ls H1 locs _ _ (by rw [List.length_append]; show cells + 1 + n0 = cs.length + 1; omega) (by rw [cSz_app]; show slots + N + z0 = cSz cs + N; omega) hl (cHp_new hP hH.2 (by rw [q2, hH.2]) (fun q hq => q3 q (by omega)) ?_) ⟨by rw [q2]; exact Nat.le_trans hS.1 (by omega), fun q h1 h2 => (q3 q (by rw [← hH.2]; exact Nat.lt_of_lt_of_le h1 hS.1)).trans (hS.2.1 q h1 h2), hS.2.2⟩
      show H1[E.1 + cs.length]? = some (vp_cell _ _)
      rw [vp_cell_l]
      exact q1
  | putfield idx =>
    obtain ⟨rfl, ci, j, o, v, fs, CN, T, N, ty0, S', rfl, hck, hj, hw, ho, hjl, hft, hfin, hg⟩ := h
    obtain ⟨f1, f2⟩ := cFits_ok (cad E.1) hft
    have hset : ∀ (H1 : Heap) (locs1 : List Loc), va_P E.2.1 classes ((cWl E 0 cs).set o (E.1 + o, .inr (ci, (fs.map (cv E.1)).set j (pv (cad E.1) v)))) H1 → va_S (cFree E) s.heap H1 locs1 → H1.size = H.size → W p l e R s m args below meth c H1 locs1 cells slots Q (F0 m (pc + 3) ls (S'.map (pv (cad E.1)))) := by
      intro H1 locs1 hP1 hS1 hz1
      refine hg hlen ls H1 locs1 _ _ (by rw [List.length_set]; exact hcn) (by rw [cSz_set cs o _ _ ho (by simp [cSz1])]; exact hsn) hl ⟨?_, by rw [hz1, hH.2, List.length_set]⟩ hS1
      rw [← cWl_set]
      show va_P E.2.1 classes ((cWl E 0 cs).set o (E.1 + o, .inr (ci, (fs.set j (some v)).map (cv E.1)))) H1
      rw [List.map_set]
      exact hP1
    have hap := va_apart (own := own) hts hck.2.1 ty0 hck.2.2.1 hck.2.2.2 hK hck.1
    have hat := cWl_at (E := E) ho
    obtain ⟨r, h1, cell, q1, q2, q3, q4⟩ := hP o _ hat
    have hr : r = (CN, T, N) := Option.some.inj (h1.symm.trans hck.1)
    subst hr
    obtain ⟨hSl, hfc, kC, hkC, hkind⟩ := hK.1 ci _ hck.1
    obtain ⟨cf, kf, fi, f, hi, hsl⟩ := hSl j hj
    have hstat := (u_facts hfc hkC (u_lays hts hck.2.1 hj) hi).1
    have hlay := hts _ (hck.2.1 _ (u_in_lay hj))
    unfold u_lay at hlay
    have hlm : j < (fs.map (cv E.1)).length := by rw [List.length_map]; exact hjl
    have fin : ∀ H1 : Heap, H1[E.1 + o]? = some (cell.setSlot f.slot (pv (cad E.1) v)) → H1.size = H.size → (∀ q, q ≠ E.1 + o → H1[q]? = H[q]?) → W p l e R s m args below meth c H1 (locs ++ [⟨E.1 + o, f.slot⟩]) cells slots Q (F0 m (pc + 3) ls (S'.map (pv (cad E.1)))) := by
      intro H1 e1 e2 e3
      rw [hsl] at e1
      exact hset H1 _ (hP.set hD hat ⟨_, hck.1, t_OB.to (V := updV (vp_V (fs.map (cv E.1))) j (pv (cad E.1) v)) ⟨_, e1, q2, q3, t_set q4 hap hj _⟩ (fun k _ => vp_updV_set hlm _ k)⟩ e3) (hS.put e2 e3 (hD.2 o _ hat)) e2
    by_cases hf : (T j).2.2.2 = true
    · rw [if_pos hf] at hlay
      have hfin2 := hfin.resolve_left (by rw [hf]; decide)
      have hdecl : (T j).1 = own := hfin2.1
      have hcf : m.cls = cf := by
        obtain ⟨_, _, c', _, _, _, -, -, hf', -, -, -, hown2, -⟩ := Cond.laysFinal_spec hlay
        have e1 : c' = cf := by have := hi.symm.trans hf'; simp at this; exact this.1.symm
        rw [hdecl] at hown2
        rw [← e1]; exact Option.some.inj (hown.symm.trans hown2)
      have h6 := u_fits hfc hkC hkind (Or.inr hlay) hi (hck.2.2.1 j hj) f1 f2
      exact W.putFinK hx hb hown (hts _ hw) hi hstat hcf (hin hfin2.2) (by rw [q2]; exact h6) q1 q3 (by rw [hsl]; exact k2_hasslot (q4 j hj)) rfl rfl hdg fin
    · rw [if_neg hf] at hlay
      have h6 := u_store hfc hkC hkind hlay hi (hck.2.2.1 j hj) f1 f2
      exact W.putK hx hb (f := f) ⟨hown, hts _ hw, ⟨_, _, _, hi⟩, hstat⟩ (by rw [q2]; exact h6) q1 q3 (by rw [hsl]; exact k2_hasslot (q4 j hj)) rfl rfl hdg fin
  | getfield idx =>
    obtain ⟨rfl, ci, j, o, v, fs, S', rfl, ⟨CN, T, N, ty0, hck, hj, hw⟩, ho, hv, hg⟩ := h
    exact va_get (v := pv (cad E.1) v) hx hb hts hck.2.1 hown hK hP o (cWl_at ho) hck.1 j hj (hts _ hw) (fun _ z => z) (by rw [List.getElem?_map, hv]; rfl) hdg (hg hlen ls H locs _ _ hcn hsn hl hH hS)
  | getstatic idx =>
    obtain ⟨rfl, hw, hg⟩ := h
    exact va_gets hx hb hst hS hown (hts _ hw) (fun _ z => z) hdg (hg hlen ls H locs _ _ hcn hsn hl hH hS)
  | arraylength =>
    obtain ⟨rfl, a, tag, N, f, S', rfl, ha, hg⟩ := h
    have hat := cWl_at (E := E) ha
    match tag, hat with
    | 0, hat => exact va_alen (x := (N, .inl f)) hx hb hK hP a 0 hat hT0 rfl hdg (hg hlen ls H locs _ _ hcn hsn hl hH hS)
    | 1, hat => exact va_alen (x := (N, .inl f)) hx hb hK hP a 1 hat hT1 rfl hdg (hg hlen ls H locs _ _ hcn hsn hl hH hS)
    | t + 2, hat => exact va_alen (x := (N, .inr (.inl fun _ => 0))) hx hb hK hP a 2 hat hT2 rfl hdg (hg hlen ls H locs _ _ hcn hsn hl hH hS)
  | iastore =>
    obtain ⟨rfl, a, N, f, x, v, S', rfl, ha, hi, hg⟩ := h
    have hat := cWl_at (E := E) ha
    refine W.iast hx hb (hP a _ hat) ((hK.2 0 _ hT0).1 N (fun j => .int (f j))) (fun q => by cases q) (by show ¬ (x < 0 ∨ (arrV _ _ _).slots.size ≤ _); rw [arrV_size]; exact hi) rfl rfl hdg fun H1 e1 z oq => ?_
    refine hg hlen ls H1 _ _ _ (by rw [List.length_set]; exact hcn) (by rw [cSz_set cs a _ _ ha (by simp [cSz1])]; exact hsn) hl ⟨?_, by rw [z, hH.2, List.length_set]⟩ (hS.put z oq (hD.2 a _ hat))
    rw [← cWl_set]
    refine hP.set hD hat ?_ oq
    show H1[E.1 + a]? = some (vp_cell _ _)
    rw [e1, vp_cell_i, vp_cell_i, arrV_store]
    congr 2
    funext q
    by_cases hq : q = x.toNatClampNeg
    · subst hq; simp [updV, upd]; try rfl
    · simp [updV, upd, hq]
  | invokespecial idx =>
    obtain ⟨rfl, hg | hg⟩ := h
    · obtain ⟨o, S', hw, rfl, hsz, hg⟩ := hg
      refine W.objInit hx hb hown (hts _ hw) (hts _ lk_obj.1) (hts _ lk_obj.2) rfl (by rw [hml]; exact hl.1) rfl hdg (by omega) (by show 2 * 0 + _ + 12 ≤ _; rw [psz_map]; omega) ?_
      exact W.eq (g2 := F0 m (pc + 3) ls (S'.map (pv (cad E.1)))) rfl (hg hlen ls H locs _ _ hcn hsn hl hH hS)
    · obtain ⟨y, k, o, mc0, ms0, As, rest, cs', hlk, w2, w3, hy, hyn, rfl, hk, hsz, ⟨mc, ms, hl1, hl2, bytes, maxL, d', hcw, hmx, hdd, hM⟩, b1, b2, hg⟩ := hg
      have hG2 : GoodIn tb (Cond.code y bytes maxL none :: tb) := tbl_goodIn fun w hw => (List.mem_cons.mp hw).elim (fun z => z ▸ hcw) id
      have hpre : PreS s H (cPc E (pR o :: As) cs) (.ref (cad E.1 o) :: As.map (pv (cad E.1))) := ⟨cPc_blind E _ cs, fun U hU hW => ⟨rfl, by rw [hU]; exact hH, va_K.moved hW.alike hK, hnw.warm hW, by rw [hU]; exact va_Z.moved hW.alike (va_Z.kept hst hfree)⟩⟩
      have hst0 : List.map (pv (cad E.1)) (As.reverse ++ pR o :: rest) = (As.map (pv (cad E.1))).reverse ++ .ref (cad E.1 o) :: rest.map (pv (cad E.1)) := by simp [pv]
      refine W.eq (g2 := F0 m pc ls ((As.map (pv (cad E.1))).reverse ++ .ref (cad E.1 o) :: rest.map (pv (cad E.1)))) (by show F0 m pc ls (List.map (pv (cad E.1)) (As.reverse ++ pR o :: rest)) = _; rw [hst0]) ?_
      have hrun : va_Run p l e R s m args below meth c H locs cells slots mc ms (F0 m pc ls ((As.map (pv (cad E.1))).reverse ++ .ref (cad E.1 o) :: rest.map (pv (cad E.1)))) (rest.map (pv (cad E.1))) (cQc E cs' (Value.ref (cad E.1 o) :: As.map (pv (cad E.1))).toArray) (cFree E) := by
        rcases hlk with w1 | ⟨host, w1⟩
        · exact va_runI (As := As.map (pv (cad E.1))) (rest := rest.map (pv (cad E.1))) ⟨hx, hb, hml, hown, hts⟩ hM ⟨callB_of k hts hG2 rfl rfl rfl (hts _ w3) (hts _ w1) hy ⟨by show d' + 1 ≤ _; omega, by show 8 + (maxL + 11) + 40 * d' ≤ _; omega⟩, hyn, hts _ w2⟩ hpre rfl (by rw [List.length_map]; exact hk) hl.1 rfl (lv_room (by rw [psz_map]; exact hsz)) hdg ⟨by omega, by omega⟩
        · exact va_runIN (As := As.map (pv (cad E.1))) (rest := rest.map (pv (cad E.1))) ⟨hx, hb, hml, hown, hts⟩ hM ⟨va_cnB k hts hG2 rfl rfl rfl (hnw _ w1) (hts _ w3) hy ⟨by show d' + 1 ≤ _; omega, by show 8 + (maxL + 11) + 40 * d' ≤ _; omega⟩, hyn, hts _ w2⟩ hpre rfl (by rw [List.length_map]; exact hk) hl.1 rfl (lv_room (by rw [psz_map]; exact hsz)) hdg ⟨by omega, by omega⟩
      exact c_call hrun hS (fun H1 locs1 hH1 hS1 => hg hlen ls H1 locs1 _ _ (by omega) (by omega) hl hH1 hS1)
  | invokestatic idx =>
    obtain ⟨rfl, y, k, As, rest, cs', ⟨w1, w2, w3, hy⟩, rfl, hk, hsz, ⟨mc, ms, hl1, hl2, bytes, maxL, d', hcw, hmx, hdd, hM⟩, b1, b2, hg⟩ := h
    have hG2 : GoodIn tb (Cond.code y bytes maxL none :: tb) := tbl_goodIn fun w hw => (List.mem_cons.mp hw).elim (fun z => z ▸ hcw) id
    have hpre : PreS s H (cPc E As cs) (As.map (pv (cad E.1))) := ⟨cPc_blind E _ cs, fun U hU hW => ⟨rfl, by rw [hU]; exact hH, va_K.moved hW.alike hK, hnw.warm hW, by rw [hU]; exact va_Z.moved hW.alike (va_Z.kept hst hfree)⟩⟩
    have hst0 : List.map (pv (cad E.1)) (As.reverse ++ rest) = (As.map (pv (cad E.1))).reverse ++ rest.map (pv (cad E.1)) := by simp
    refine W.eq (g2 := F0 m pc ls ((As.map (pv (cad E.1))).reverse ++ rest.map (pv (cad E.1)))) (by show F0 m pc ls (List.map (pv (cad E.1)) (As.reverse ++ rest)) = _; rw [hst0]) ?_
    exact c_call (va_runS (As := As.map (pv (cad E.1))) (rest := rest.map (pv (cad E.1))) ⟨hx, hb, hml, hown, hts⟩ hM ⟨callB_of k hts hG2 rfl rfl rfl (hts _ w3) (hts _ w1) hy ⟨by show d' + 1 ≤ _; omega, by show 8 + (maxL + 11) + 40 * d' ≤ _; omega⟩, hts _ w2⟩ hpre rfl (by rw [List.length_map]; exact hk) hl.1 rfl (lv_room (by rw [psz_map]; exact hsz)) hdg ⟨by omega, by omega⟩) hS (fun H1 locs1 hH1 hS1 => hg hlen ls H1 locs1 _ _ (by omega) (by omega) hl hH1 hS1)
  | return_ =>
    obtain ⟨rfl, rfl, hg⟩ := h
    exact hret pc L cs hdg hg hlen ls H locs _ _ hcn hsn hl hH hS
  | _ => exact False.elim h
end MK
set_option maxHeartbeats 1000000 in
theorem cRun_intro {l : Launch} {E : cEnv} (hE : cOkE E) {d mc ms : Nat} {y : MethodName} {own : String} {bytes : ByteArray} {maxL : Nat} {As : List pV} {cs cs' : cM} (ini : Bool)
    (hcode : Cond.code y bytes maxL none ∈ tb) (hown : y.cls = own) (hpl : plainName y.cls = true) (hmx : maxL ≤ 20) (hlen : (pEnt As).length ≤ maxL) (hini : ini = true → y.name = "<init>") (hlc : cs'.length = cs.length + mc) (hlz : cSz cs' = cSz cs + ms)
    (h : ∀ G : Nat → pLo → List pV → cM → Prop, cRules own bytes ini cs'.length (cSz cs') (fun y As cs cs' => ∃ mc ms, cRun l E d mc ms y As cs cs') (fun τ => τ = cs') G → G 0 (pL0 As maxL) [] cs) : cRun l E (d + 1) mc ms y As cs cs' := by
  refine ⟨hlc, hlz, bytes, maxL, d + 1, hcode, hmx, Nat.le_refl _, Met.ofW (cc := bytes) (maxL := maxL) (ret := none) hpl rfl ?_⟩
  intro p e s m args below meth c s₁ B hml hv
  obtain ⟨rfl, hH, hK, hnw, hst⟩ := hv
  have hts : ∀ w ∈ tb, w.before (As.map (pv (cad E.1))).toArray s = true := fun w hw => atoms_spec (ws := Cond.code y bytes maxL none :: tb) B.pre w (List.mem_cons_of_mem _ hw)
  have hr := B.returns
  have hx := B.exec
  have hb := B.bytes
  have hlocks := B.notSynchronized
  have C : cCx p (headSpec (Cond.code y bytes maxL none :: tb) (cRm (d + 1) mc ms)).room s m (As.map (pv (cad E.1))).toArray meth c E s.heap own bytes maxL d ini :=
    ⟨hx, hb, hml, by rw [← hown]; exact findClass_of_methodNamed B.named, hts, hK, hE, Nat.le_refl _, Nat.le_refl _, hlocks, hnw, ⟨rfl, hst⟩, fun z => (name_of_methodNamed B.named B.method).1.trans (hini z)⟩
  have hR := cG_sound (l := l) (e := e) (below := below) (Q := MQ below (cQc E cs') (As.map (pv (cad E.1))).toArray s mc ms (cFree E)) (RT := fun τ => τ = cs') (n0 := cs.length) (z0 := cSz cs) C
    (by
      intro pc L τ hd hv hlen2 ls H locs cells slots h1 h2 hl hH1 hS
      subst hv
      have e1 : cells = mc := by omega
      have e2 : slots = ms := by omega
      subst e1; subst e2
      exact W.vret hx hb hr (fun t ht _ => ⟨rfl, by rw [ht]; exact hH1, hS.F ht⟩) hS.2.2 hd hlocks)
  rw [show cs.length + (headSpec (Cond.code y bytes maxL none :: tb) (cRm (d + 1) mc ms)).room.cells = cs'.length from hlc.symm, show cSz cs + (headSpec (Cond.code y bytes maxL none :: tb) (cRm (d + 1) mc ms)).room.slots = cSz cs' from hlz.symm] at hR
  have hg := h _ hR
  rw [lg_entry_eq]
  have hent := lv_entry (As.map (pv (cad E.1))) (n := maxL) (by rw [pEnt_len]; exact hlen)
  refine hg (by simp only [pL0, List.length_append, List.length_replicate]; omega) _ s.heap [] 0 0 (by omega) (by omega) ?_ hH va_S.rf
  show lv_has _ maxL (pll (cad E.1) 0 (pL0 As maxL))
  rw [pL0, pll_ent]
  exact hent
