/-! ===== the plain machine's step is the machine's ===== -/
theorem tbl_good : ∀ w ∈ tb, goodWord w = true := fun w h => (List.mem_filter.mp h).2
theorem tbl_goodIn {ws : List Cond} (h : ∀ w ∈ ws, w ∈ tb) : GoodIn tb ws := fun w hw => ⟨h w hw, good_of_word (tbl_good w (h w hw))⟩
abbrev pRm (d : Nat) : Room := { frames := d, cells := 0, slots := 0, locals := 60 * d }
/-- the world: the cells of the labels, and what is beside -/
def pHp (E : pEnv) (σ : pM) (H : Heap) : Prop := ∃ w : va_W, E.2.2.2.2.1 w ∧ va_P E.2.1 classes (pW E w σ) H ∧ va_D E.2.2.2.2.2 (pW E w σ)
def pPc (E : pEnv) (As : List pV) (σ : pM) : Array Value → State → Prop := va_Pc (As.map (pv E.1)) (fun U => pHp E σ U.heap ∧ va_K E.2.1 classes E.2.2.2.1 U ∧ pNw U)
def pQc (E : pEnv) (r : Option pV) (σ : pM) : Array Value → State → Outcome → State → Prop := fun _ st oc t => oc = .returned (r.map (pv E.1)) ∧ pHp E σ t.heap ∧ va_F E.2.2.2.2.2 st t
/-- a method's run at depth d -/
def pRun (l : Launch) (E : pEnv) (d : Nat) (y : MethodName) (As : List pV) (σ : pM) (r : Option pV) (σ' : pM) : Prop :=
  ∃ (bytes : ByteArray) (maxL : Nat) (ret : Option FieldType) (d' : Nat), Cond.code y bytes maxL ret ∈ tb ∧ maxL ≤ 40 ∧ d' ≤ d ∧ Met l y (Cond.code y bytes maxL ret :: tb) (pRm d') (pPc E As σ) (pQc E r σ') 0 0 E.2.2.2.2.2
theorem pRun.mono {l : Launch} {E : pEnv} {d d2 : Nat} {y : MethodName} {As : List pV} {σ σ' : pM} {r : Option pV} (h : pRun l E d y As σ r σ') (hd : d ≤ d2) : pRun l E d2 y As σ r σ' := by
  obtain ⟨b, m, t, d', h1, h2, h3, h4⟩ := h
  exact ⟨b, m, t, d', h1, h2, Nat.le_trans h3 hd, h4⟩
/-- what is asked of the surroundings -/
def pOkE (E : pEnv) : Prop := E.2.2.2.1[0]? = some (E.2.2.1.1, .int) ∧ E.2.2.2.1[1]? = some (E.2.2.1.2.1, .byte) ∧ E.2.2.2.1[2]? = some (E.2.2.1.2.2, .long)
theorem pPc_blind (E : pEnv) (As : List pV) (σ : pM) : FrameBlind (pPc E As σ) := by
  intro a U g mk q
  obtain ⟨q0, q1, q2, q3⟩ := q
  exact ⟨q0, q1, va_K.moved (u := U) (U := U.calling g mk a) (Vm.Alike.refl U.vm) q2, pNw.same (s := U) (U := U.calling g mk a) rfl q3⟩

theorem pfs_set {ad : Nat → Nat} {f f' : Nat → Int32} {fs : List (Option Nat)} {j : Nat} {x : Int32} (h : fs[j]? = some none) (h1 : f' j = x) (h2 : ∀ i, i ≠ j → f' i = f i) : (pfs ad f 0 fs).set j (.int x) = pfs ad f' 0 fs := by
  refine List.ext_getElem? fun i => ?_
  have hl : j < fs.length := (List.getElem?_eq_some_iff.mp h).1
  rw [List.getElem?_set, pfs_get, pfs_get]
  by_cases hi : j = i
  · subst hi
    rw [if_pos rfl, if_pos (by rw [pfs_len]; exact hl), h]
    simp [h1]
  · rw [if_neg hi]
    congr 1
    funext o
    cases o with
    | none => simp [h2 i (fun z => hi z.symm)]
    | some d => rfl
theorem pSet1_len (L : pLo) (i : Nat) (v : pV) : (pSet1 L i v).length = L.length := by
  unfold pSet1 pClr
  cases i with
  | zero => simp
  | succ i => simp only [List.length_set]; split <;> simp
theorem pSet2_len (L : pLo) (i : Nat) (v : pV) : (pSet2 L i v).length = L.length := by
  unfold pSet2 pClr
  cases i with
  | zero => simp
  | succ i => simp only [List.length_set]; split <;> simp
theorem up1_upd (σ : pM) (a k : Nat) (x : Int32) : (up1 σ a k x).1 a = upd (σ.1 a) k x := by
  funext b; simp [up1, upd]
theorem up2_upd (σ : pM) (a k : Nat) (x : Int64) : (up2 σ a k x).2 a = vp_updL (σ.2 a) k x := by
  funext b; simp [up2, vp_updL]
theorem cp1_cpy (σ : pM) (a b sp dp n : Nat) : (cp1 σ a b sp dp n).1 b = va_cpy (σ.1 a) (σ.1 b) sp dp n := by
  funext k; simp [cp1, va_cpy]
theorem cp2_cpy (σ : pM) (a b sp dp n : Nat) : (cp2 σ a b sp dp n).2 b = va_cpy (σ.2 a) (σ.2 b) sp dp n := by
  funext k; simp [cp2, va_cpy]
theorem lenOf_in {t a : Nat} {x : Int32} (h : ¬ (x < 0 ∨ lenOf t a ≤ x.toNatClampNeg)) : kd[a]? = some (.inl (t, lenOf t a)) ∧ vp_in x (lenOf t a) := ⟨lenOf_spec rfl (by omega), h⟩
theorem lk_max : Cond.static Lib.Math.max.name ∈ tb ∧ Cond.initialized "java/lang/Math" ∈ tb ∧ Cond.code Lib.Math.max.name Lib.Math.max.code 2 (some .int) ∈ tb := by decide +kernel
theorem lk_min : Cond.static Lib.Math.min.name ∈ tb ∧ Cond.initialized "java/lang/Math" ∈ tb ∧ Cond.code Lib.Math.min.name Lib.Math.min.code 2 (some .int) ∈ tb := by decide +kernel
theorem lk_cpy : Cond.native arraycopyName ∈ tb ∧ Cond.static arraycopyName ∈ tb ∧ Cond.initialized "java/lang/System" ∈ tb := by decide +kernel
section PS
variable {p : Program} {l : Launch} {e : Env} {R : Room} {s : State} {m : MethodId} {args : Array Value} {below : List Frame} {meth : Method} {c : Code} {Q : State → Prop} {E : pEnv} {cc : ByteArray} {nL d cells slots : Nat} {own : String}
theorem p_call {H : Heap} {locs : List Loc} {pc : Nat} {ls : Array Slot} {st0 rest : List Value} {a : Array Value} {r : Option pV} {σ' : pM} {H0 : Heap}
    (hr : va_Run p l e R s m args below meth c H locs cells slots 0 0 (F0 m pc ls st0) rest (pQc E r σ' a) E.2.2.2.2.2) (hS : va_S E.2.2.2.2.2 H0 H locs)
    (kk : ∀ (H1 : Heap) (locs1 : List Loc), pHp E σ' H1 → va_S E.2.2.2.2.2 H0 H1 locs1 → W p l e R s m args below meth c H1 locs1 cells slots Q (F0 m (pc + 3) ls ((r.map (pv E.1)).toList ++ rest))) : W p l e R s m args below meth c H locs cells slots Q (F0 m pc ls st0) := by
  intro T hT X
  obtain ⟨v, st₀, t, T', L, h0, X', hL, e1, e2, ⟨hv, hb, hz, hk⟩, st⟩ := hr T hT X
  cases hv
  rw [h0] at hz hk
  obtain ⟨t2, a1, b1⟩ := kk T'.heap (locs ++ L) (by rw [e1]; exact hb)
    ⟨Nat.le_trans hS.1 (by rw [e1]; exact hz), fun q h1 h2 => by rw [e1, hk q (Nat.lt_of_lt_of_le h1 hS.1) h2]; exact hS.2.1 q h1 h2, fun q hq => by
      rcases List.mem_append.mp hq with h | h
      · exact hS.2.2 q h
      · exact hL q h⟩ T' rfl X'
  exact ⟨t2, st t2 a1, b1⟩
/-- a place of the method: with these locals, this stack, this memory, the machine comes to its goal -/
def pG (p : Program) (l : Launch) (e : Env) (R : Room) (s : State) (m : MethodId) (args : Array Value) (below : List Frame) (meth : Method) (c : Code) (Q : State → Prop) (E : pEnv) (H0 : Heap) (nL cells slots : Nat) (pc : Nat) (st : pSt) : Prop :=
  st.1.length = nL → ∀ (ls : Array Slot) (H : Heap) (locs : List Loc), lv_has ls nL (pll E.1 0 st.1) → pHp E st.2.2 H → va_S E.2.2.2.2.2 H0 H locs → W p l e R s m args below meth c H locs cells slots Q (F0 m pc ls (st.2.1.map (pv E.1)))
/-- what holds throughout a method -/
def pCx (p : Program) (R : Room) (s : State) (m : MethodId) (args : Array Value) (meth : Method) (c : Code) (E : pEnv) (H0 : Heap) (own : String) (cc : ByteArray) (nL d cells slots : Nat) (scr : Option (Nat × Nat × (Nat → Int32))) : Prop :=
  p.tables.exec = Jvm.exec ∧ c.code = cc ∧ c.maxLocals = nL ∧ s.vm.findClass own = some m.cls ∧ (∀ w ∈ tb, w.before args s = true) ∧ va_K E.2.1 classes E.2.2.2.1 s ∧ pOkE E ∧ d + 1 ≤ R.frames ∧ 60 * (d + 1) ≤ R.locals ∧ cells ≤ R.cells ∧ slots ≤ R.slots ∧ meth.locks = false ∧ pNw s ∧
  ∀ (a k : Nat) (xs : Nat → Int32), scr = some (a, k, xs) → va_X (E.1 a) k xs s H0 ∧ E.1 a < H0.size ∧ ¬ E.2.2.2.2.2 (E.1 a)

set_option maxHeartbeats 4000000 in
set_option maxRecDepth 100000 in
theorem pG_sound {scr : Option (Nat × Nat × (Nat → Int32))} {RT : Option pV → pM → Prop} {H0 : Heap} (C : pCx p R s m args meth c E H0 own cc nL d cells slots scr)
    (hri : ∀ (pc : Nat) (L : pLo) (σ : pM) (v : pV), (decode cc pc = .ok (.ireturn, 1) ∧ (∃ x : Int32, v = pI x) ∨ decode cc pc = .ok (.lreturn, 1) ∧ (∃ x : Int64, v = pJ x) ∨ decode cc pc = .ok (.areturn, 1) ∧ (∃ x : Nat, v = pR x)) → RT (some v) σ → pG p l e R s m args below meth c Q E H0 nL cells slots pc (L, [v], σ))
    (hrv : ∀ (pc : Nat) (L : pLo) (σ : pM), decode cc pc = .ok (.return_, 1) → RT none σ → pG p l e R s m args below meth c Q E H0 nL cells slots pc (L, [], σ)) :
    pRules own cc scr (pRun l E d) RT (pG p l e R s m args below meth c Q E H0 nL cells slots) := by
  obtain ⟨hx, hb, hml, hown, hts, hK, ⟨hT0, hT1, hT2⟩, hfr, hlo, hce, hsl, hlocks, hnw, hscr⟩ := C
  refine ⟨?_, fun pc L L' S σ h0 hw hg hlen ls H locs hl hH hS => hg (h0.trans hlen) ls H locs (pll_weak hl hw) hH hS⟩
  intro pc i n L S σ hdg h hlen ls H locs hl hH hS
  obtain ⟨w, hwok, hP, hD⟩ := id hH
  dsimp only at hlen hl
  have hml' : c.maxLocals = ls.size := hml.trans hl.1.symm
  cases i with
  | iconst k =>
    obtain ⟨rfl, hg⟩ := h
    exact lv_iconst hx hb hdg rfl (hg hlen ls H locs hl hH hS)
  | bipush k =>
    obtain ⟨rfl, hg⟩ := h
    exact lv_bipush hx hb hdg rfl (hg hlen ls H locs hl hH hS)
  | sipush k =>
    obtain ⟨rfl, hg⟩ := h
    exact lv_sipush hx hb hdg rfl (hg hlen ls H locs hl hH hS)
  | ldc idx =>
    obtain ⟨rfl, v, hw, hg⟩ := h
    exact lv_ldc hx hb hown (hts _ hw) hdg (hg hlen ls H locs hl hH hS)
  | ldc_w idx =>
    obtain ⟨rfl, v, hw, hg⟩ := h
    exact lv_ldcw hx hb hown (hts _ hw) hdg (hg hlen ls H locs hl hH hS)
  | lconst k =>
    obtain ⟨rfl, hg⟩ := h
    exact lv_lconst hx hb hdg rfl (hg hlen ls H locs hl hH hS)
  | ldc2_w idx =>
    obtain ⟨rfl, v, hw, hg⟩ := h
    exact lv_ldc2 hx hb hown (hts _ hw) hdg (hg hlen ls H locs hl hH hS)
  | iload_n k =>
    obtain ⟨rfl, x, hk, hg⟩ := h
    exact lv_iload_n hx hb hdg rfl (pll_at hl hk) (hg hlen ls H locs hl hH hS)
  | lload_n k =>
    obtain ⟨rfl, x, hk, hg⟩ := h
    exact lv_lload_n hx hb hdg rfl (pll_at hl hk) (hg hlen ls H locs hl hH hS)
  | aload_n k =>
    obtain ⟨rfl, x, hk, hg⟩ := h
    exact lv_aload_n hx hb hdg rfl (pll_at hl hk) (hg hlen ls H locs hl hH hS)
  | iload k =>
    obtain ⟨rfl, x, hk, hg⟩ := h
    exact lv_iload hx hb hdg (pll_at hl hk) (hg hlen ls H locs hl hH hS)
  | lload k =>
    obtain ⟨rfl, x, hk, hg⟩ := h
    exact lv_lload hx hb hdg (pll_at hl hk) (hg hlen ls H locs hl hH hS)
  | aload k =>
    obtain ⟨rfl, x, hk, hg⟩ := h
    exact lv_aload hx hb hdg (pll_at hl hk) (hg hlen ls H locs hl hH hS)
  | istore_n k =>
    obtain ⟨rfl, x, S', rfl, hk, hg⟩ := h
    exact lv_istore_n hx hb hdg rfl hl (by omega) rfl (fun ls' hl' => hg (by rw [pSet1_len]; exact hlen) ls' H locs (pSet1_ll E.1 L k nL _ ls' rfl hl') hH hS)
  | istore k =>
    obtain ⟨rfl, x, S', rfl, hk, hg⟩ := h
    exact lv_istore hx hb hdg hl (by omega) rfl (fun ls' hl' => hg (by rw [pSet1_len]; exact hlen) ls' H locs (pSet1_ll E.1 L k nL _ ls' rfl hl') hH hS)
  | astore_n k =>
    obtain ⟨rfl, x, S', rfl, hk, hg⟩ := h
    exact lv_astore_n hx hb hdg rfl hl (by omega) rfl (fun ls' hl' => hg (by rw [pSet1_len]; exact hlen) ls' H locs (pSet1_ll E.1 L k nL _ ls' rfl hl') hH hS)
  | astore k =>
    obtain ⟨rfl, x, S', rfl, hk, hg⟩ := h
    exact lv_astore hx hb hdg hl (by omega) rfl (fun ls' hl' => hg (by rw [pSet1_len]; exact hlen) ls' H locs (pSet1_ll E.1 L k nL _ ls' rfl hl') hH hS)
  | lstore_n k =>
    obtain ⟨rfl, x, S', rfl, hk, hg⟩ := h
    exact lv_lstore_n hx hb hdg rfl hl (by omega) rfl (fun ls' hl' => hg (by rw [pSet2_len]; exact hlen) ls' H locs (pSet2_ll E.1 L k nL _ ls' hl') hH hS)
  | lstore k =>
    obtain ⟨rfl, x, S', rfl, hk, hg⟩ := h
    exact lv_lstore hx hb hdg hl (by omega) rfl (fun ls' hl' => hg (by rw [pSet2_len]; exact hlen) ls' H locs (pSet2_ll E.1 L k nL _ ls' hl') hH hS)
  | iinc k z =>
    obtain ⟨rfl, x, hk, hg⟩ := h
    have hkn : k < nL := by rw [← hlen]; exact (List.getElem?_eq_some_iff.mp hk).1
    obtain ⟨k', hk'⟩ := List.getElem?_of_mem ((mem_pll E.1 L 0 (k, pv E.1 (pI x))).mpr ⟨k, pI x, hk, by simp⟩)
    exact lv_iinc hx hb hdg hl hk' rfl hkn rfl (fun ls' hl' => hg (by rw [pSet1_len]; exact hlen) ls' H locs (pSet1_ll E.1 L k nL _ ls' rfl hl') hH hS)
  | iadd =>
    obtain ⟨rfl, x, y, S', rfl, hg⟩ := h
    exact lv_iadd hx hb hdg (hg hlen ls H locs hl hH hS)
  | isub =>
    obtain ⟨rfl, x, y, S', rfl, hg⟩ := h
    exact lv_isub hx hb hdg (hg hlen ls H locs hl hH hS)
  | imul =>
    obtain ⟨rfl, x, y, S', rfl, hg⟩ := h
    exact lv_imul hx hb hdg (hg hlen ls H locs hl hH hS)
  | iand =>
    obtain ⟨rfl, x, y, S', rfl, hg⟩ := h
    exact lv_iand hx hb hdg (hg hlen ls H locs hl hH hS)
  | ior =>
    obtain ⟨rfl, x, y, S', rfl, hg⟩ := h
    exact lv_ior hx hb hdg (hg hlen ls H locs hl hH hS)
  | ixor =>
    obtain ⟨rfl, x, y, S', rfl, hg⟩ := h
    exact lv_ixor hx hb hdg (hg hlen ls H locs hl hH hS)
  | ishl =>
    obtain ⟨rfl, x, y, S', rfl, hg⟩ := h
    exact lv_ishl hx hb hdg (hg hlen ls H locs hl hH hS)
  | ishr =>
    obtain ⟨rfl, x, y, S', rfl, hg⟩ := h
    exact lv_ishr hx hb hdg (hg hlen ls H locs hl hH hS)
  | ladd =>
    obtain ⟨rfl, x, y, S', rfl, hg⟩ := h
    exact lv_ladd hx hb hdg (hg hlen ls H locs hl hH hS)
  | lsub =>
    obtain ⟨rfl, x, y, S', rfl, hg⟩ := h
    exact lv_lsub hx hb hdg (hg hlen ls H locs hl hH hS)
  | lmul =>
    obtain ⟨rfl, x, y, S', rfl, hg⟩ := h
    exact lv_lmul hx hb hdg (hg hlen ls H locs hl hH hS)
  | iushr =>
    obtain ⟨rfl, x, y, S', rfl, hg⟩ := h
    exact lv_iushr hx hb hdg rfl (hg hlen ls H locs hl hH hS)
  | lcmp =>
    obtain ⟨rfl, x, y, S', rfl, hg⟩ := h
    exact W.lcmp hx hb hdg (hg hlen ls H locs hl hH hS)
  | idiv =>
    obtain ⟨rfl, x, y, S', rfl, hne, hg⟩ := h
    exact lv_idiv hx hb hdg hne (hg hlen ls H locs hl hH hS)
  | irem =>
    obtain ⟨rfl, x, y, S', rfl, hne, hg⟩ := h
    exact lv_irem hx hb hdg hne (hg hlen ls H locs hl hH hS)
  | ldiv =>
    obtain ⟨rfl, x, y, S', rfl, hne, hg⟩ := h
    exact lv_ldiv hx hb hdg hne (hg hlen ls H locs hl hH hS)
  | ineg =>
    obtain ⟨rfl, x, S', rfl, hg⟩ := h
    exact lv_ineg hx hb hdg (hg hlen ls H locs hl hH hS)
  | i2b =>
    obtain ⟨rfl, x, S', rfl, hg⟩ := h
    exact lv_i2b hx hb hdg rfl (hg hlen ls H locs hl hH hS)
  | i2l =>
    obtain ⟨rfl, x, S', rfl, hg⟩ := h
    exact lv_i2l hx hb hdg rfl (hg hlen ls H locs hl hH hS)
  | l2i =>
    obtain ⟨rfl, x, S', rfl, hg⟩ := h
    exact lv_l2i hx hb hdg rfl (hg hlen ls H locs hl hH hS)
  | dup =>
    obtain ⟨rfl, v, S', rfl, hv, hg⟩ := h
    exact lv_dup hx hb hdg (by rw [pcat_pv]; exact hv) (hg hlen ls H locs hl hH hS)
  | dup2 =>
    obtain ⟨rfl, v, w, S', rfl, hv, hw, hg⟩ := h
    exact lv_dup2_11 hx hb hdg (by rw [pcat_pv]; exact hv) (by rw [pcat_pv]; exact hw) (hg hlen ls H locs hl hH hS)
  | pop =>
    obtain ⟨rfl, v, S', rfl, hv, hg⟩ := h
    exact lv_pop hx hb hdg (by rw [pcat_pv]; exact hv) (hg hlen ls H locs hl hH hS)
  | goto off =>
    obtain ⟨rfl, t, ht, hg⟩ := h
    exact lv_goto hx hb hdg ht (hg hlen ls H locs hl hH hS)
  | ifCond cc0 off =>
    obtain ⟨rfl, t, x, S', ht, rfl, hg1, hg2⟩ := h
    cases cc0 with
    | eq => exact lv_if_eq hx hb hdg ht (fun q => hg1 q hlen ls H locs hl hH hS) (fun q => hg2 q hlen ls H locs hl hH hS)
    | ne => exact lv_if_ne hx hb hdg ht (fun q => hg1 q hlen ls H locs hl hH hS) (fun q => hg2 (fun z => z q) hlen ls H locs hl hH hS)
    | lt => exact lv_if_lt hx hb hdg ht (fun q => hg1 q hlen ls H locs hl hH hS) (fun q => hg2 q hlen ls H locs hl hH hS)
    | ge => exact lv_if_ge hx hb hdg ht (fun q => hg1 q hlen ls H locs hl hH hS) (fun q => hg2 q hlen ls H locs hl hH hS)
    | gt => exact lv_if_gt hx hb hdg ht (fun q => hg1 q hlen ls H locs hl hH hS) (fun q => hg2 q hlen ls H locs hl hH hS)
    | le => exact lv_if_le hx hb hdg ht (fun q => hg1 q hlen ls H locs hl hH hS) (fun q => hg2 q hlen ls H locs hl hH hS)
  | if_icmp cc0 off =>
    obtain ⟨rfl, t, x, y, S', ht, rfl, hg1, hg2⟩ := h
    cases cc0 with
    | eq => exact lv_icmp_eq hx hb hdg ht (fun q => hg1 q hlen ls H locs hl hH hS) (fun q => hg2 q hlen ls H locs hl hH hS)
    | ne => exact lv_icmp_ne hx hb hdg ht (fun q => hg1 q hlen ls H locs hl hH hS) (fun q => hg2 (fun z => z q) hlen ls H locs hl hH hS)
    | lt => exact lv_icmp_lt hx hb hdg ht (fun q => hg1 q hlen ls H locs hl hH hS) (fun q => hg2 q hlen ls H locs hl hH hS)
    | ge => exact lv_icmp_ge hx hb hdg ht (fun q => hg1 q hlen ls H locs hl hH hS) (fun q => hg2 q hlen ls H locs hl hH hS)
    | gt => exact lv_icmp_gt hx hb hdg ht (fun q => hg1 q hlen ls H locs hl hH hS) (fun q => hg2 q hlen ls H locs hl hH hS)
    | le => exact lv_icmp_le hx hb hdg ht (fun q => hg1 q hlen ls H locs hl hH hS) (fun q => hg2 q hlen ls H locs hl hH hS)
  | tableswitch dflt lo hi offs =>
    obtain ⟨x, S', rfl, hg | hg⟩ := h
    · obtain ⟨t, h1, ht, hg⟩ := hg
      exact lv_tableOut hx hb hdg h1 ht (hg hlen ls H locs hl hH hS)
    · obtain ⟨t, off, h1, h2, h3, ht, hg⟩ := hg
      exact lv_tableIn hx hb hdg h1 h2 h3 ht (hg hlen ls H locs hl hH hS)
  | getfield idx =>
    obtain ⟨rfl, ci, j, o, S', rfl, ⟨CN, T, N, ty0, hck, hj, hw⟩, hg | hg⟩ := h
    · obtain ⟨h1, hg⟩ := hg
      obtain ⟨fs, h2, h3⟩ := okI_spec h1
      exact va_get (v := .int (σ.1 o j)) hx hb hts hck.2.1 hown hK hP o (pW_get h2) hck.1 j hj (hts _ hw) (fun _ z => z) (by rw [pfs_get, h3]; simp) hdg (hg hlen ls H locs hl hH hS)
    · obtain ⟨dd, h1, hg⟩ := hg
      obtain ⟨fs, h2, h3⟩ := okR_spec h1
      exact va_get (v := .ref (E.1 dd)) hx hb hts hck.2.1 hown hK hP o (pW_get h2) hck.1 j hj (hts _ hw) (fun _ z => z) (by rw [pfs_get, h3]; simp) hdg (hg hlen ls H locs hl hH hS)
  | putfield idx =>
    obtain ⟨rfl, ci, j, o, x, S', rfl, ⟨CN, T, N, ty0, hck, hj, hw, hty, hfin⟩, h1, hg⟩ := h
    obtain ⟨fs, h2, h3⟩ := okI_spec h1
    have hjl : j < fs.length := (List.getElem?_eq_some_iff.mp h3).1
    refine va_put (v := .int x) (ty := .int) hx hb hts hck.2.1 ty0 hck.2.2.1 hck.2.2.2 hown hK hP hD hS o (pW_get h2) hck.1 j hj (hts _ hw) (fun _ z => z) hfin (by rw [hck.2.2.1 j hj, hty]) rfl rfl (by rw [pfs_len]; exact hjl) hdg (fun H1 locs1 hP1 hD1 hS1 => hg hlen ls H1 locs1 hl ?_ hS1)
    refine ⟨w, hwok, ?_⟩
    rw [← pW_set (w := w) (σ := σ) (σ' := up1 σ o j x) h2 ?_ ?_ ?_]
    · exact ⟨hP1, hD1⟩
    · show (Sum.inr (ci, pfs E.1 ((up1 σ o j x).1 o) 0 fs) : va_E) = Sum.inr (ci, (pfs E.1 (σ.1 o) 0 fs).set j (.int x))
      rw [pfs_set (f' := (up1 σ o j x).1 o) h3 (by simp [up1]) (fun i hi => by simp [up1, hi])]
    · intro a ha; funext b; simp [up1, ha]
    · intro a ha; rfl
  | arraylength =>
    obtain ⟨rfl, a, S', rfl, hg | hg⟩ := h
    · obtain ⟨t, k, h1, h2, hg⟩ := hg
      have h3 := lenOf_spec h1 h2
      match t, h3 with
      | 0, h3 => exact va_alen (x := (k, .inl (σ.1 a))) hx hb hK hP a 0 (pW_get h3) hT0 rfl hdg (hg hlen ls H locs hl hH hS)
      | 1, h3 => exact va_alen (x := (k, .inl (σ.1 a))) hx hb hK hP a 1 (pW_get h3) hT1 rfl hdg (hg hlen ls H locs hl hH hS)
      | t + 2, h3 => exact va_alen (x := (k, .inr (.inl (σ.2 a)))) hx hb hK hP a 2 (pW_get h3) hT2 rfl hdg (hg hlen ls H locs hl hH hS)
    · obtain ⟨k, xs, h1, hg⟩ := hg
      obtain ⟨g1, g2, g3⟩ := hscr a k xs h1
      exact va_slen hx hb g1 g2 g3 hS hdg (hg hlen ls H locs hl hH hS)
  | iaload =>
    obtain ⟨rfl, a, x, S', rfl, hg | hg⟩ := h
    · obtain ⟨h1, hg⟩ := hg
      obtain ⟨h2, h3⟩ := lenOf_in h1
      exact va_iald hx hb hK hP a 0 (pW_get h2) hT0 h3 hdg (hg hlen ls H locs hl hH hS)
    · obtain ⟨k, xs, h1, h2, hg⟩ := hg
      obtain ⟨g1, g2, g3⟩ := hscr a k xs h1
      exact va_sld hx hb g1 g2 g3 hS h2 hdg (hg hlen ls H locs hl hH hS)
  | baload =>
    obtain ⟨rfl, a, x, S', rfl, h1, hg⟩ := h
    obtain ⟨h2, h3⟩ := lenOf_in h1
    exact va_bald hx hb hK hP a 1 (pW_get h2) hT1 h3 hdg (hg hlen ls H locs hl hH hS)
  | laload =>
    obtain ⟨rfl, a, x, S', rfl, h1, hg⟩ := h
    obtain ⟨h2, h3⟩ := lenOf_in h1
    exact va_lald hx hb hK hP a 2 (pW_get h2) hT2 h3 hdg (hg hlen ls H locs hl hH hS)
  | iastore =>
    obtain ⟨rfl, a, x, v, S', rfl, h1, hg⟩ := h
    obtain ⟨h2, h3⟩ := lenOf_in h1
    refine va_iast hx hb hK hP hD hS a 0 (pW_get h2) hT0 h3 hdg (fun H1 locs1 hP1 hD1 hS1 => hg hlen ls H1 locs1 hl ?_ hS1)
    refine ⟨w, hwok, ?_⟩
    rw [← pW_set (w := w) (σ := σ) (σ' := up1 σ a x.toNatClampNeg v) h2 ?_ ?_ ?_]
    · exact ⟨hP1, hD1⟩
    · show (Sum.inl (_, _, Sum.inl ((up1 σ a x.toNatClampNeg v).1 a)) : va_E) = _
      rw [up1_upd]
    · intro b hb2; funext b; simp [up1, hb2]
    · intro b hb2; rfl
  | bastore =>
    obtain ⟨rfl, a, x, v, S', rfl, h1, hg⟩ := h
    obtain ⟨h2, h3⟩ := lenOf_in h1
    refine va_bast hx hb hK hP hD hS a 1 (pW_get h2) hT1 h3 hdg (fun H1 locs1 hP1 hD1 hS1 => hg hlen ls H1 locs1 hl ?_ hS1)
    refine ⟨w, hwok, ?_⟩
    rw [← pW_set (w := w) (σ := σ) (σ' := up1 σ a x.toNatClampNeg v.toInt8.toInt32) h2 ?_ ?_ ?_]
    · exact ⟨hP1, hD1⟩
    · show (Sum.inl (_, _, Sum.inl ((up1 σ a x.toNatClampNeg v.toInt8.toInt32).1 a)) : va_E) = _
      rw [up1_upd, vp_nar_byte]
    · intro b hb2; funext b; simp [up1, hb2]
    · intro b hb2; rfl
  | lastore =>
    obtain ⟨rfl, a, x, v, S', rfl, h1, hg⟩ := h
    obtain ⟨h2, h3⟩ := lenOf_in h1
    refine va_last hx hb hK hP hD hS a 2 (pW_get h2) hT2 h3 hdg (fun H1 locs1 hP1 hD1 hS1 => hg hlen ls H1 locs1 hl ?_ hS1)
    refine ⟨w, hwok, ?_⟩
    rw [← pW_set (w := w) (σ := σ) (σ' := up2 σ a x.toNatClampNeg v) h2 ?_ ?_ ?_]
    · exact ⟨hP1, hD1⟩
    · show (Sum.inl (_, _, Sum.inr (Sum.inl ((up2 σ a x.toNatClampNeg v).2 a))) : va_E) = _
      rw [up2_upd]
    · intro b hb2; rfl
    · intro b hb2; funext b; simp [up2, hb2]
  | invokevirtual idx =>
    obtain ⟨rfl, y, k, ci, o, As, rest, r, σ', ⟨w1, w2, w3, w4, hy, hci, T, N, hcl⟩, rfl, hk, hcls, hsz, ⟨bytes, maxL, ret, d', hcw, hmx, hdd, hM⟩, hg⟩ := h
    obtain ⟨fs, ho⟩ := clsOf_spec hcls hci
    have hcall : CallW R s args own y.cls idx y bytes maxL ret (Cond.code y bytes maxL ret :: tb) (pRm d') 0 0 k :=
      ⟨callB_of k hts (tbl_goodIn fun w hw => (List.mem_cons.mp hw).elim (fun z => z ▸ hcw) id) rfl rfl rfl (hts _ w4) (hts _ w1) hy ⟨by show d' + 1 ≤ _; omega, by show 8 + (maxL + 11) + 60 * d' ≤ _; omega⟩, hts _ w2, hts _ w3⟩
    refine p_call (va_runV (As := As.map (pv E.1)) (rest := rest.map (pv E.1)) (b := E.1 o) ⟨hx, hb, hml, hown, hts⟩ hM hcall ⟨pPc_blind E _ σ, va_recv hK hP (ci := ci) (q0 := o) hcl (pW_get ho), fun U hU hW => ⟨by simp [pv], by rw [hU]; exact hH, va_K.moved hW.alike hK, hnw.warm hW⟩⟩ rfl (by rw [List.length_map]; exact hk) hl.1 (by simp [pv]) (lv_room (by rw [psz_map]; exact hsz)) hdg ⟨hce, hsl⟩) hS (fun H1 locs1 hH1 hS1 => ?_)
    have := hg hlen ls H1 locs1 hl hH1 hS1
    rw [List.map_append] at this
    cases r <;> exact this
  | invokestatic idx =>
    obtain ⟨rfl, hg | hg | hg | hg⟩ := h
    · obtain ⟨y, k, As, rest, r, σ', hc2, rfl, hk, hsz, ⟨bytes, maxL, ret, d', hcw, hmx, hdd, hM⟩, hg⟩ := hg
      have hG2 : GoodIn tb (Cond.code y bytes maxL ret :: tb) := tbl_goodIn fun w hw => (List.mem_cons.mp hw).elim (fun z => z ▸ hcw) id
      have hpre : PreS s H (pPc E As σ) (As.map (pv E.1)) := ⟨pPc_blind E _ σ, fun U hU hW => ⟨rfl, by rw [hU]; exact hH, va_K.moved hW.alike hK, hnw.warm hW⟩⟩
      have hrun : va_Run p l e R s m args below meth c H locs cells slots 0 0 (F0 m pc ls ((As.map (pv E.1)).reverse ++ rest.map (pv E.1))) (rest.map (pv E.1)) (pQc E r σ' (As.map (pv E.1)).toArray) E.2.2.2.2.2 := by
        rcases hc2 with ⟨w1, w2, w3, hy⟩ | ⟨host, w1, w2, w3, hy⟩
        · exact va_runS (As := As.map (pv E.1)) (rest := rest.map (pv E.1)) ⟨hx, hb, hml, hown, hts⟩ hM ⟨callB_of k hts hG2 rfl rfl rfl (hts _ w3) (hts _ w1) hy ⟨by show d' + 1 ≤ _; omega, by show 8 + (maxL + 11) + 60 * d' ≤ _; omega⟩, hts _ w2⟩ hpre rfl (by rw [List.length_map]; exact hk) hl.1 rfl (lv_room (by rw [psz_map]; exact hsz)) hdg ⟨hce, hsl⟩
        · exact va_runSN (As := As.map (pv E.1)) (rest := rest.map (pv E.1)) ⟨hx, hb, hml, hown, hts⟩ hM ⟨va_cnB k hts hG2 rfl rfl rfl (hnw _ w1) (hts _ w3) hy ⟨by show d' + 1 ≤ _; omega, by show 8 + (maxL + 11) + 60 * d' ≤ _; omega⟩, hts _ w2, trivial⟩ hpre rfl (by rw [List.length_map]; exact hk) hl.1 rfl (lv_room (by rw [psz_map]; exact hsz)) hdg ⟨hce, hsl⟩
      have hst : List.map (pv E.1) (As.reverse ++ rest) = (As.map (pv E.1)).reverse ++ rest.map (pv E.1) := by simp
      refine W.eq (g2 := F0 m pc ls ((As.map (pv E.1)).reverse ++ rest.map (pv E.1))) (by show F0 m pc ls (List.map (pv E.1) (As.reverse ++ rest)) = _; rw [hst]) ?_
      refine p_call hrun hS (fun H1 locs1 hH1 hS1 => ?_)
      have := hg hlen ls H1 locs1 hl hH1 hS1
      rw [List.map_append] at this
      cases r <;> exact this
    · obtain ⟨x, y, S', hw, rfl, hsz, hg⟩ := hg
      exact va_mmax hx hb hml' hown (hts _ hw) (hts _ lk_max.1) (hts _ lk_max.2.1) (hts _ lk_max.2.2) (by omega) (by rw [psz_map]; omega) hce hsl hdg (hg hlen ls H locs hl hH hS)
    · obtain ⟨x, y, S', hw, rfl, hsz, hg⟩ := hg
      exact va_mmin hx hb hml' hown (hts _ hw) (hts _ lk_min.1) (hts _ lk_min.2.1) (hts _ lk_min.2.2) (by omega) (by rw [psz_map]; omega) hce hsl hdg (hg hlen ls H locs hl hH hS)
    · obtain ⟨a, b, sp, dp, k, S', hw, rfl, hsz, h1, h2, h3, hg | hg⟩ := hg
      · obtain ⟨l1, l2, h4, h5, hg⟩ := hg
        have ha := lenOf_spec rfl l1
        have hb2 := lenOf_spec rfl l2
        refine va_copyi hx hb hml' hown (hts _ hw) (hts _ lk_cpy.1) (hts _ lk_cpy.2.1) (hts _ lk_cpy.2.2) hK hP hD hS a b 0 0 (pW_get ha) (pW_get hb2) hT0 hT0 rfl h1 h2 h3 h4 h5 (fun i _ => rfl) (by omega) (by rw [psz_map]; have : nativeFrameWords "java/lang/System" "arraycopy" 5 = 7 := (by decide +kernel); omega) hdg (fun H1 locs1 hP1 hD1 hS1 => hg hlen ls H1 locs1 hl ?_ hS1)
        refine ⟨w, hwok, ?_⟩
        rw [← pW_set (w := w) (σ := σ) (σ' := cp1 σ a b sp.toNatClampNeg dp.toNatClampNeg k.toNatClampNeg) hb2 ?_ ?_ ?_]
        · exact ⟨hP1, hD1⟩
        · show (Sum.inl (_, _, Sum.inl ((cp1 σ a b sp.toNatClampNeg dp.toNatClampNeg k.toNatClampNeg).1 b)) : va_E) = _
          rw [cp1_cpy]
        · intro z hz; funext w; simp [cp1, hz]
        · intro z hz; rfl
      · obtain ⟨l1, l2, h4, h5, hg⟩ := hg
        have ha := lenOf_spec rfl l1
        have hb2 := lenOf_spec rfl l2
        refine va_copyl hx hb hml' hown (hts _ hw) (hts _ lk_cpy.1) (hts _ lk_cpy.2.1) (hts _ lk_cpy.2.2) hK hP hD hS a b 2 2 (pW_get ha) (pW_get hb2) hT2 hT2 rfl h1 h2 h3 h4 h5 (fun i _ => rfl) (by omega) (by rw [psz_map]; have : nativeFrameWords "java/lang/System" "arraycopy" 5 = 7 := (by decide +kernel); omega) hdg (fun H1 locs1 hP1 hD1 hS1 => hg hlen ls H1 locs1 hl ?_ hS1)
        refine ⟨w, hwok, ?_⟩
        rw [← pW_set (w := w) (σ := σ) (σ' := cp2 σ a b sp.toNatClampNeg dp.toNatClampNeg k.toNatClampNeg) hb2 ?_ ?_ ?_]
        · exact ⟨hP1, hD1⟩
        · show (Sum.inl (_, _, Sum.inr (Sum.inl ((cp2 σ a b sp.toNatClampNeg dp.toNatClampNeg k.toNatClampNeg).2 b))) : va_E) = _
          rw [cp2_cpy]
        · intro z hz; rfl
        · intro z hz; funext w; simp [cp2, hz]
  | ireturn =>
    obtain ⟨rfl, x, rfl, hg⟩ := h
    exact hri pc L σ _ (Or.inl ⟨hdg, x, rfl⟩) hg hlen ls H locs hl hH hS
  | lreturn =>
    obtain ⟨rfl, x, rfl, hg⟩ := h
    exact hri pc L σ _ (Or.inr (Or.inl ⟨hdg, x, rfl⟩)) hg hlen ls H locs hl hH hS
  | areturn =>
    obtain ⟨rfl, x, rfl, hg⟩ := h
    exact hri pc L σ _ (Or.inr (Or.inr ⟨hdg, x, rfl⟩)) hg hlen ls H locs hl hH hS
  | return_ =>
    obtain ⟨rfl, rfl, hg⟩ := h
    exact hrv pc L σ hdg hg hlen ls H locs hl hH hS
  | _ => exact False.elim h
end PS
