/-! ===== the plain machine's step is the machine's ===== -/
theorem tbl_good : ∀ w ∈ tb, goodWord w = true := fun w h => (List.mem_filter.mp h).2
theorem tbl_goodIn {ws : List Cond} (h : ∀ w ∈ ws, w ∈ tb) : GoodIn tb ws := fun w hw => ⟨h w hw, good_of_word (tbl_good w (h w hw))⟩
abbrev pRm (d : Nat) : Room := { frames := d, cells := 0, slots := 0, locals := 40 * d }
/-- what stands in locals and on the stack is no ghost -/
def RV (ad : Nat → Nat) : pV → Prop
  | .inr (.inr k) => rl ad k
  | _ => True
def RS (ad : Nat → Nat) : List pV → Prop
  | [] => True
  | .inr (.inr k) :: t => rl ad k ∧ RS ad t
  | .inr (.inl _) :: t => RS ad t
  | .inl _ :: t => RS ad t
theorem RS_cons {ad : Nat → Nat} {v : pV} {t : List pV} : RS ad (v :: t) ↔ RV ad v ∧ RS ad t := by
  rcases v with x | x | x
  · exact ⟨fun h => ⟨trivial, h⟩, fun h => h.2⟩
  · exact ⟨fun h => ⟨trivial, h⟩, fun h => h.2⟩
  · exact Iff.rfl
theorem RS_all {ad : Nat → Nat} : ∀ {S : List pV}, RS ad S ↔ ∀ v ∈ S, RV ad v
  | [] => ⟨fun _ v h => absurd h (List.not_mem_nil), fun _ => trivial⟩
  | v :: t => by
    rw [RS_cons, RS_all (S := t)]
    simp
theorem RS_app {ad : Nat → Nat} {A B : List pV} : RS ad (A ++ B) ↔ RS ad A ∧ RS ad B := by
  simp only [RS_all, List.mem_append]
  exact ⟨fun h => ⟨fun v hv => h v (Or.inl hv), fun v hv => h v (Or.inr hv)⟩, fun h v hv => hv.elim (h.1 v) (h.2 v)⟩
theorem RS_rev {ad : Nat → Nat} {A : List pV} : RS ad A.reverse ↔ RS ad A := by
  simp only [RS_all, List.mem_reverse]
def RLo (ad : Nat → Nat) (L : pLo) : Prop := ∀ (j : Nat) (v : pV), L[j]? = some (some v) → RV ad v
theorem RLo.weak {ad : Nat → Nat} {L L' : pLo} (h : RLo ad L) (hw : ∀ (k : Nat) (v : pV), L'[k]? = some (some v) → L[k]? = some (some v)) : RLo ad L' := fun j v hj => h j v (hw j v hj)
theorem RLo.set1 {ad : Nat → Nat} {L : pLo} {i : Nat} {v : pV} (h : RLo ad L) (hv : RV ad v) : RLo ad (pSet1 L i v) := by
  intro j w hj
  unfold pSet1 at hj
  rw [List.getElem?_set] at hj
  split at hj
  · split at hj
    · simp at hj; subst hj; exact hv
    · simp at hj
  · exact h j w (pClr_get L i j w hj).1
theorem RLo.set2 {ad : Nat → Nat} {L : pLo} {i : Nat} {v : pV} (h : RLo ad L) (hv : RV ad v) : RLo ad (pSet2 L i v) := by
  intro j w hj
  unfold pSet2 at hj
  rw [List.getElem?_set] at hj
  split at hj
  · split at hj <;> simp at hj
  · rw [List.getElem?_set] at hj
    split at hj
    · split at hj
      · simp at hj; subst hj; exact hv
      · simp at hj
    · exact h j w (pClr_get L i j w hj).1
abbrev pRl (ad : Nat → Nat) (L : pLo) (S : List pV) : Prop := RLo ad L ∧ RS ad S
/-- the fixed table leads from what is no ghost to what is none -/
def kdCl (k : Nat) : Bool := match kd[k]? with
  | some (.inr (_, fs)) => fs.all fun o => match o with
    | none => true
    | some d => decide (d < 179 ∨ 200 ≤ d)
  | _ => true
theorem kd_closed : ∀ k, k < 179 → kdCl k = true := by decide +kernel
def kdRow (k : Nat) : Bool := match kd[k]? with
  | some (.inr _) => false
  | _ => true
theorem kd_rows : ∀ k, k < 200 → 196 ≤ k → kdRow k = true := by decide +kernel
theorem rl_field {ad : Nat → Nat} {k c j d : Nat} {fs : List (Option Nat)} (h : rl ad k) (h1 : kd[k]? = some (.inr (c, fs))) (h2 : fs[j]? = some (some d)) : rl ad d := by
  have hl : k < 200 := by rw [← kd_len]; exact (List.getElem?_eq_some_iff.mp h1).1
  have hk : k < 179 := by
    rcases h with h | h | h
    · exact h
    · omega
    · have h3 := (List.mem_filter.mp h).1
      have h4 : 196 ≤ k := by simp at h3; omega
      have := kd_rows k hl h4
      unfold kdRow at this
      rw [h1] at this
      cases this
  have h5 := kd_closed k hk
  unfold kdCl at h5
  rw [h1] at h5
  have h6 := List.all_eq_true.mp h5 (some d) (List.mem_of_getElem? h2)
  have h7 : d < 179 ∨ 200 ≤ d := by simpa using h6
  rcases h7 with h | h
  · exact Or.inl h
  · exact Or.inr (Or.inl h)
/-- the world: the cells of the labels, and what is beside -/
def pHp (E : pEnv) (σ : pM) (H : Heap) : Prop := ∃ w : va_W, E.2.2.2.2.1 w ∧ va_P E.2.1 classes (pW E w σ) H ∧ va_D E.2.2.2.2.2 (pW E w σ)
theorem pHp_kept {E : pEnv} {σ : pM} {H H' : Heap} (h : pHp E σ H) (hk : ∀ q, q < H.size → H'[q]? = H[q]?) : pHp E σ H' := by
  obtain ⟨w, hw, hP, hD⟩ := h
  exact ⟨w, hw, hP.kept (fun k q hq => hk _ ((hP k q hq).lt)), hD⟩
theorem pHp_ghost {E : pEnv} {σ σ' : pM} {H : Heap} (h1 : ∀ k, rl E.1 k → k < 200 → σ'.1 k = σ.1 k) (h2 : ∀ k, rl E.1 k → k < 200 → σ'.2 k = σ.2 k) (h : pHp E σ H) : pHp E σ' H := by
  obtain ⟨w, hw, hP, hD⟩ := h
  exact ⟨w, hw, by rw [pW_ghost h1 h2]; exact hP, by rw [pW_ghost h1 h2]; exact hD⟩
def pPc (E : pEnv) (As : List pV) (σ : pM) : Array Value → State → Prop := va_Pc (As.map (pv E.1)) (fun U => pHp E σ U.heap ∧ va_K E.2.1 classes E.2.2.2.1 U ∧ pNw U ∧ RS E.1 As)
def pQc (E : pEnv) (r : Option pV) (σ : pM) : Array Value → State → Outcome → State → Prop := fun _ st oc t => oc = .returned (r.map (pv E.1)) ∧ pHp E σ t.heap ∧ va_F E.2.2.2.2.2 st t ∧ RS E.1 r.toList
/-- a method's run at depth d -/
def pRun (l : Launch) (E : pEnv) (d : Nat) (y : MethodName) (As : List pV) (σ : pM) (r : Option pV) (σ' : pM) : Prop :=
  ∃ (bytes : ByteArray) (maxL : Nat) (ret : Option FieldType) (d' : Nat), Cond.code y bytes maxL ret ∈ tb ∧ maxL ≤ 20 ∧ d' ≤ d ∧ Met l y (Cond.code y bytes maxL ret :: tb) (pRm d') (pPc E As σ) (pQc E r σ') 0 0 E.2.2.2.2.2
theorem pRun.mono {l : Launch} {E : pEnv} {d d2 : Nat} {y : MethodName} {As : List pV} {σ σ' : pM} {r : Option pV} (h : pRun l E d y As σ r σ') (hd : d ≤ d2) : pRun l E d2 y As σ r σ' := by
  obtain ⟨b, m, t, d', h1, h2, h3, h4⟩ := h
  exact ⟨b, m, t, d', h1, h2, Nat.le_trans h3 hd, h4⟩
/-- what is asked of the surroundings -/
def pOkE (E : pEnv) : Prop := E.2.2.2.1[0]? = some (E.2.2.1.1, .int) ∧ E.2.2.2.1[1]? = some (E.2.2.1.2.1, .byte) ∧ E.2.2.2.1[2]? = some (E.2.2.1.2.2, .long)
theorem pPc_blind (E : pEnv) (As : List pV) (σ : pM) : FrameBlind (pPc E As σ) := by
  intro a U g mk q
  obtain ⟨q0, q1, q2, q3, q4⟩ := q
  exact ⟨q0, q1, va_K.moved (u := U) (U := U.calling g mk a) (Vm.Alike.refl U.vm) q2, pNw.same (s := U) (U := U.calling g mk a) rfl q3, q4⟩

theorem pfs_set {ad : Nat → Nat} {f f' : Nat → Int32} {fs : List (Option Nat)} {j : Nat} {x : Int32} (h : fs[j]? = some none) (h1 : f' j = x) (h2 : ∀ i, i ≠ j → f' i = f i) : (pfs ad f 0 fs).set j (.int x) = pfs ad f' 0 fs := by
  refine List.ext_getElem? fun i => ?_
  have hl : j < fs.length := (List.getElem?_eq_some_iff.mp h).1
  rw [List.getElem?_set, pfs_get, pfs_get]
  by_cases hi : j = i
  · subst hi
    rw [if_pos rfl, if_pos (by rw [pfs_len]; exact hl), h]
    simp [h1]
  · rw [if_neg hi]
    congr 1
    funext o
    cases o with
    | none => simp [h2 i (fun z => hi z.symm)]
    | some d => rfl
theorem pSet1_len (L : pLo) (i : Nat) (v : pV) : (pSet1 L i v).length = L.length := by
  unfold pSet1 pClr
  cases i with
  | zero => simp
  | succ i => simp only [List.length_set]; split <;> simp
theorem pSet2_len (L : pLo) (i : Nat) (v : pV) : (pSet2 L i v).length = L.length := by
  unfold pSet2 pClr
  cases i with
  | zero => simp
  | succ i => simp only [List.length_set]; split <;> simp
theorem up1_upd (σ : pM) (a k : Nat) (x : Int32) : (up1 σ a k x).1 a = upd (σ.1 a) k x := by
  funext b; simp [up1, upd]
theorem up2_upd (σ : pM) (a k : Nat) (x : Int64) : (up2 σ a k x).2 a = vp_updL (σ.2 a) k x := by
  funext b; simp [up2, vp_updL]
theorem cp1_cpy (σ : pM) (a b sp dp n : Nat) : (cp1 σ a b sp dp n).1 b = va_cpy (σ.1 a) (σ.1 b) sp dp n := by
  funext k; simp [cp1, va_cpy]
theorem cp2_cpy (σ : pM) (a b sp dp n : Nat) : (cp2 σ a b sp dp n).2 b = va_cpy (σ.2 a) (σ.2 b) sp dp n := by
  funext k; simp [cp2, va_cpy]
theorem lenOf_in {t a : Nat} {x : Int32} (h : ¬ (x < 0 ∨ lenOf t a ≤ x.toNatClampNeg)) : kd[a]? = some (.inl (t, lenOf t a)) ∧ vp_in x (lenOf t a) := ⟨lenOf_spec rfl (by omega), h⟩
theorem lk_max : Cond.static Lib.Math.max.name ∈ tb ∧ Cond.initialized "java/lang/Math" ∈ tb ∧ Cond.code Lib.Math.max.name Lib.Math.max.code 2 (some .int) ∈ tb := by decide +kernel
theorem lk_min : Cond.static Lib.Math.min.name ∈ tb ∧ Cond.initialized "java/lang/Math" ∈ tb ∧ Cond.code Lib.Math.min.name Lib.Math.min.code 2 (some .int) ∈ tb := by decide +kernel
theorem lk_cpy : Cond.native arraycopyName ∈ tb ∧ Cond.static arraycopyName ∈ tb ∧ Cond.initialized "java/lang/System" ∈ tb := by decide +kernel
/-- the law's method 'cell' -/
theorem cell_ws : Cond.initialized RL ∈ tb ∧ Cond.static yL_cell ∈ tb := by decide +kernel
theorem cell_yk : YK yL_cell 2 := ⟨by decide, by decide, by decide +kernel⟩
theorem cell_code : Cond.code yL_cell cL_cell 2 (some .int) ∈ tb := by decide +kernel
theorem cell_cst : Cond.constant RL 7 (16777215 : Int32) ∈ tb := by decide +kernel
theorem cell_good : GoodIn tb (Cond.code yL_cell cL_cell 2 (some .int) :: tb) := tbl_goodIn fun w hw => (List.mem_cons.mp hw).elim (fun z => z ▸ cell_code) id
def cellP (b k : Nat) (xs : Nat → Int32) (x : Int32) : Array Value → State → Prop := va_Pc [.ref b, .int x] (fun U => va_X b k xs U U.heap)
theorem cellP_blind (b k : Nat) (xs : Nat → Int32) (x : Int32) : FrameBlind (cellP b k xs x) := by
  intro a U g mk q
  exact ⟨q.1, va_X.moved (u := U) (U := U.calling g mk a) (Vm.Alike.refl U.vm) q.2⟩
theorem cell_met {l : Launch} {b k : Nat} {xs : Nat → Int32} {x : Int32} (hx0 : ¬ x < 0) : Met l yL_cell (Cond.code yL_cell cL_cell 2 (some .int) :: tb) (pRm 0) (cellP b k xs x) (fun _ st oc t => oc = .returned (some (.int (cellV k xs x))) ∧ va_F (fun _ => False) st t) 0 0 (fun _ => False) := by
  refine Met.ofW (cc := cL_cell) (maxL := 2) (ret := some .int) (by decide +kernel) rfl ?_
  intro p e s m args below meth c s₁ B hml hv
  obtain ⟨rfl, hX⟩ := hv
  have hts : ∀ w ∈ tb, w.before [Value.ref b, Value.int x].toArray s = true := fun w hw => atoms_spec (ws := Cond.code yL_cell cL_cell 2 (some .int) :: tb) B.pre w (List.mem_cons_of_mem _ hw)
  have hr := B.returns
  have hx := B.exec
  have hb := B.bytes
  have hlocks := B.notSynchronized
  have hown : s.vm.findClass RL = some m.cls := findClass_of_methodNamed B.named
  have hbl : b < s.heap.size := (Array.getElem?_eq_some_iff.mp hX.choose_spec.1).1
  have hS : va_S (fun _ => False) s.heap s.heap [] := va_S.rf
  have hl := lv_entry [Value.ref b, Value.int x] (n := 2) (Nat.le_of_ble_eq_true rfl)
  rw [lg_entry_eq]
  generalize (lg_sl [Value.ref b, Value.int x] ++ List.replicate (2 - (lg_sl [Value.ref b, Value.int x]).length) Slot.unset).toArray = ls at hl ⊢
  have hl : lv_has ls 2 [(0, .ref b), (1, .int x)] := hl
  have hend : ∀ (pc : Nat) (v : Int32), v = cellV k xs x → W p l e (headSpec (Cond.code yL_cell cL_cell 2 (some .int) :: tb) (pRm 0)).room s m [Value.ref b, Value.int x].toArray below meth c s.heap [] 0 0 (MQ below (fun _ st oc t => oc = .returned (some (.int (cellV k xs x))) ∧ va_F (fun _ => False) st t) [Value.ref b, Value.int x].toArray s 0 0 (fun _ => False)) (F0 m 20 ls [.int v]) := fun pc v hv => by
    subst hv
    exact W.iret hx hb hr (fun t ht _ => ⟨rfl, hS.F ht⟩) hS.2.2 dL_cell_20 hlocks
  refine lv_iload_n hx hb dL_cell_0 rfl (lv_at hl 1 rfl) ?_
  refine lv_aload_n hx hb dL_cell_1 rfl (lv_at hl 0 rfl) ?_
  refine va_slen hx hb hX hbl (fun z => z) hS dL_cell_2 ?_
  refine lv_icmp_ge hx hb dL_cell_3 (show ((3 : Nat) : Int) + 12 = ((15 : Nat) : Int) from rfl) (fun h => ?_) (fun h => ?_)
  · refine lv_iload_n hx hb dL_cell_15 rfl (lv_at hl 1 rfl) ?_
    refine lv_sipush hx hb dL_cell_16 rfl ?_
    refine lv_imul hx hb dL_cell_19 ?_
    refine hend 20 _ ?_
    unfold cellV
    rw [if_neg (fun z => absurd (Int32.lt_iff_toInt_lt.mp z) (by have := Int32.le_iff_toInt_le.mp h; omega))]
    rfl
  · have hlt : x < Int32.ofNat k := by rw [Int32.lt_iff_toInt_lt]; rw [Int32.le_iff_toInt_le] at h; omega
    have hk : x.toNatClampNeg < k := by
      have hb : (Int32.ofNat k).toInt ≤ (k : Int) := by rw [show (Int32.ofNat k).toInt = (k : Int).bmod (2 ^ 32) from Int32.toInt_ofNat']; unfold Int.bmod; (try dsimp only); split <;> omega
      have h3 := Int32.lt_iff_toInt_lt.mp hlt
      have h4 : ¬ x.toInt < 0 := fun z => hx0 (Int32.lt_iff_toInt_lt.mpr z)
      rw [Int32.toNatClampNeg]
      omega
    refine lv_aload_n hx hb dL_cell_6 rfl (lv_at hl 0 rfl) ?_
    refine lv_iload_n hx hb dL_cell_7 rfl (lv_at hl 1 rfl) ?_
    refine va_sld hx hb hX hbl (fun z => z) hS (fun z => z.elim hx0 (fun z => absurd hk (Nat.not_lt.mpr z))) dL_cell_8 ?_
    refine lv_ldc hx hb hown (hts _ cell_cst) dL_cell_9 ?_
    refine lv_iand hx hb dL_cell_11 ?_
    refine lv_goto hx hb dL_cell_12 (show ((12 : Nat) : Int) + 8 = ((20 : Nat) : Int) from rfl) ?_
    refine hend 20 _ ?_
    unfold cellV
    rw [if_pos hlt]
section PS
variable {p : Program} {l : Launch} {e : Env} {R : Room} {s : State} {m : MethodId} {args : Array Value} {below : List Frame} {meth : Method} {c : Code} {Q : State → Prop} {E : pEnv} {cc : ByteArray} {nL d cells slots : Nat} {own : String}
theorem p_call {H : Heap} {locs : List Loc} {pc : Nat} {ls : Array Slot} {st0 rest : List Value} {a : Array Value} {r : Option pV} {σ' : pM} {H0 : Heap}
    (hr : va_Run p l e R s m args below meth c H locs cells slots 0 0 (F0 m pc ls st0) rest (pQc E r σ' a) E.2.2.2.2.2) (hS : va_S E.2.2.2.2.2 H0 H locs)
    (kk : ∀ (H1 : Heap) (locs1 : List Loc), RS E.1 r.toList → pHp E σ' H1 → va_S E.2.2.2.2.2 H0 H1 locs1 → W p l e R s m args below meth c H1 locs1 cells slots Q (F0 m (pc + 3) ls ((r.map (pv E.1)).toList ++ rest))) : W p l e R s m args below meth c H locs cells slots Q (F0 m pc ls st0) := by
  intro T hT X
  obtain ⟨v, st₀, t, T', L, h0, X', hL, e1, e2, ⟨hv, hb, ⟨hz, hk⟩, hrr⟩, st⟩ := hr T hT X
  cases hv
  rw [h0] at hz hk
  obtain ⟨t2, a1, b1⟩ := kk T'.heap (locs ++ L) hrr (by rw [e1]; exact hb)
    ⟨Nat.le_trans hS.1 (by rw [e1]; exact hz), fun q h1 h2 => by rw [e1, hk q (Nat.lt_of_lt_of_le h1 hS.1) h2]; exact hS.2.1 q h1 h2, fun q hq => by
      rcases List.mem_append.mp hq with h | h
      · exact hS.2.2 q h
      · exact hL q h⟩ T' rfl X'
  exact ⟨t2, st t2 a1, b1⟩
/-- a place of the method: with these locals, this stack, this memory, the machine comes to its goal -/
def pG (p : Program) (l : Launch) (e : Env) (R : Room) (s : State) (m : MethodId) (args : Array Value) (below : List Frame) (meth : Method) (c : Code) (Q : State → Prop) (E : pEnv) (H0 : Heap) (nL cells slots : Nat) (pc : Nat) (st : pSt) : Prop :=
  st.1.length = nL → pRl E.1 st.1 st.2.1 → ∀ (ls : Array Slot) (H : Heap) (locs : List Loc), lv_has ls nL (pll E.1 0 st.1) → pHp E st.2.2 H → va_S E.2.2.2.2.2 H0 H locs → W p l e R s m args below meth c H locs cells slots Q (F0 m pc ls (st.2.1.map (pv E.1)))
/-- what holds throughout a method -/
def pCx (p : Program) (R : Room) (s : State) (m : MethodId) (args : Array Value) (meth : Method) (c : Code) (E : pEnv) (H0 : Heap) (own : String) (cc : ByteArray) (nL d cells slots : Nat) (scr : Option (Nat × Nat × (Nat → Int32))) : Prop :=
  p.tables.exec = Jvm.exec ∧ c.code = cc ∧ c.maxLocals = nL ∧ s.vm.findClass own = some m.cls ∧ (∀ w ∈ tb, w.before args s = true) ∧ va_K E.2.1 classes E.2.2.2.1 s ∧ pOkE E ∧ d + 1 ≤ R.frames ∧ 40 * (d + 1) ≤ R.locals ∧ cells ≤ R.cells ∧ slots ≤ R.slots ∧ meth.locks = false ∧ pNw s ∧
  ∀ (a k : Nat) (xs : Nat → Int32), scr = some (a, k, xs) → va_X (E.1 a) k xs s H0 ∧ E.1 a < H0.size ∧ ¬ E.2.2.2.2.2 (E.1 a)

set_option maxHeartbeats 4000000 in
set_option maxRecDepth 100000 in
theorem pG_sound {scr : Option (Nat × Nat × (Nat → Int32))} {RT : Option pV → pM → Prop} {H0 : Heap} (C : pCx p R s m args meth c E H0 own cc nL d cells slots scr)
    (hri : ∀ (pc : Nat) (L : pLo) (σ : pM) (v : pV), (decode cc pc = .ok (.ireturn, 1) ∧ (∃ x : Int32, v = pI x) ∨ decode cc pc = .ok (.lreturn, 1) ∧ (∃ x : Int64, v = pJ x) ∨ decode cc pc = .ok (.areturn, 1) ∧ (∃ x : Nat, v = pR x)) → RT (some v) σ → pG p l e R s m args below meth c Q E H0 nL cells slots pc (L, [v], σ))
    (hrv : ∀ (pc : Nat) (L : pLo) (σ : pM), decode cc pc = .ok (.return_, 1) → RT none σ → pG p l e R s m args below meth c Q E H0 nL cells slots pc (L, [], σ)) :
    pRules own cc scr (pRun l E d) RT (pG p l e R s m args below meth c Q E H0 nL cells slots) := by
  obtain ⟨hx, hb, hml, hown, hts, hK, ⟨hT0, hT1, hT2⟩, hfr, hlo, hce, hsl, hlocks, hnw, hscr⟩ := C
  refine ⟨?_, fun pc L L' S σ h0 hw hg hlen hR ls H locs hl hH hS => hg (h0.trans hlen) ⟨hR.1.weak hw, hR.2⟩ ls H locs (pll_weak hl hw) hH hS⟩
  intro pc i n L S σ hdg h hlen hR ls H locs hl hH hS
  obtain ⟨w, hwok, hP, hD⟩ := id hH
  dsimp only at hlen hl hR
  have hml' : c.maxLocals = ls.size := hml.trans hl.1.symm
  cases i with
  | iconst k =>
    obtain ⟨rfl, hg⟩ := h
    exact lv_iconst hx hb hdg rfl (hg hlen hR ls H locs hl hH hS)
  | bipush k =>
    obtain ⟨rfl, hg⟩ := h
    exact lv_bipush hx hb hdg rfl (hg hlen hR ls H locs hl hH hS)
  | sipush k =>
    obtain ⟨rfl, hg⟩ := h
    exact lv_sipush hx hb hdg rfl (hg hlen hR ls H locs hl hH hS)
  | ldc idx =>
    obtain ⟨rfl, v, hw, hg⟩ := h
    exact lv_ldc hx hb hown (hts _ hw) hdg (hg hlen hR ls H locs hl hH hS)
  | ldc_w idx =>
    obtain ⟨rfl, v, hw, hg⟩ := h
    exact lv_ldcw hx hb hown (hts _ hw) hdg (hg hlen hR ls H locs hl hH hS)
  | lconst k =>
    obtain ⟨rfl, hg⟩ := h
    exact lv_lconst hx hb hdg rfl (hg hlen hR ls H locs hl hH hS)
  | ldc2_w idx =>
    obtain ⟨rfl, v, hw, hg⟩ := h
    exact lv_ldc2 hx hb hown (hts _ hw) hdg (hg hlen hR ls H locs hl hH hS)
  | iload_n k =>
    obtain ⟨rfl, x, hk, hg⟩ := h
    exact lv_iload_n hx hb hdg rfl (pll_at hl hk) (hg hlen hR ls H locs hl hH hS)
  | lload_n k =>
    obtain ⟨rfl, x, hk, hg⟩ := h
    exact lv_lload_n hx hb hdg rfl (pll_at hl hk) (hg hlen hR ls H locs hl hH hS)
  | aload_n k =>
    obtain ⟨rfl, x, hk, hg⟩ := h
    exact lv_aload_n hx hb hdg rfl (pll_at hl hk) (hg hlen ⟨hR.1, hR.1 _ _ hk, hR.2⟩ ls H locs hl hH hS)
  | iload k =>
    obtain ⟨rfl, x, hk, hg⟩ := h
    exact lv_iload hx hb hdg (pll_at hl hk) (hg hlen hR ls H locs hl hH hS)
  | lload k =>
    obtain ⟨rfl, x, hk, hg⟩ := h
    exact lv_lload hx hb hdg (pll_at hl hk) (hg hlen hR ls H locs hl hH hS)
  | aload k =>
    obtain ⟨rfl, x, hk, hg⟩ := h
    exact lv_aload hx hb hdg (pll_at hl hk) (hg hlen ⟨hR.1, hR.1 _ _ hk, hR.2⟩ ls H locs hl hH hS)
  | istore_n k =>
    obtain ⟨rfl, x, S', rfl, hk, hg⟩ := h
    exact lv_istore_n hx hb hdg rfl hl (by omega) rfl (fun ls' hl' => hg (by rw [pSet1_len]; exact hlen) ⟨hR.1.set1 trivial, hR.2⟩ ls' H locs (pSet1_ll E.1 L k nL _ ls' rfl hl') hH hS)
  | istore k =>
    obtain ⟨rfl, x, S', rfl, hk, hg⟩ := h
    exact lv_istore hx hb hdg hl (by omega) rfl (fun ls' hl' => hg (by rw [pSet1_len]; exact hlen) ⟨hR.1.set1 trivial, hR.2⟩ ls' H locs (pSet1_ll E.1 L k nL _ ls' rfl hl') hH hS)
  | astore_n k =>
    obtain ⟨rfl, x, S', rfl, hk, hg⟩ := h
    exact lv_astore_n hx hb hdg rfl hl (by omega) rfl (fun ls' hl' => hg (by rw [pSet1_len]; exact hlen) ⟨hR.1.set1 hR.2.1, hR.2.2⟩ ls' H locs (pSet1_ll E.1 L k nL _ ls' rfl hl') hH hS)
  | astore k =>
    obtain ⟨rfl, x, S', rfl, hk, hg⟩ := h
    exact lv_astore hx hb hdg hl (by omega) rfl (fun ls' hl' => hg (by rw [pSet1_len]; exact hlen) ⟨hR.1.set1 hR.2.1, hR.2.2⟩ ls' H locs (pSet1_ll E.1 L k nL _ ls' rfl hl') hH hS)
  | lstore_n k =>
    obtain ⟨rfl, x, S', rfl, hk, hg⟩ := h
    exact lv_lstore_n hx hb hdg rfl hl (by omega) rfl (fun ls' hl' => hg (by rw [pSet2_len]; exact hlen) ⟨hR.1.set2 trivial, hR.2⟩ ls' H locs (pSet2_ll E.1 L k nL _ ls' hl') hH hS)
  | lstore k =>
    obtain ⟨rfl, x, S', rfl, hk, hg⟩ := h
    exact lv_lstore hx hb hdg hl (by omega) rfl (fun ls' hl' => hg (by rw [pSet2_len]; exact hlen) ⟨hR.1.set2 trivial, hR.2⟩ ls' H locs (pSet2_ll E.1 L k nL _ ls' hl') hH hS)
  | iinc k z =>
    obtain ⟨rfl, x, hk, hg⟩ := h
    have hkn : k < nL := by rw [← hlen]; exact (List.getElem?_eq_some_iff.mp hk).1
    obtain ⟨k', hk'⟩ := List.getElem?_of_mem ((mem_pll E.1 L 0 (k, pv E.1 (pI x))).mpr ⟨k, pI x, hk, by simp⟩)
    exact lv_iinc hx hb hdg hl hk' rfl hkn rfl (fun ls' hl' => hg (by rw [pSet1_len]; exact hlen) ⟨hR.1.set1 trivial, hR.2⟩ ls' H locs (pSet1_ll E.1 L k nL _ ls' rfl hl') hH hS)
  | iadd =>
    obtain ⟨rfl, x, y, S', rfl, hg⟩ := h
    exact lv_iadd hx hb hdg (hg hlen hR ls H locs hl hH hS)
  | isub =>
    obtain ⟨rfl, x, y, S', rfl, hg⟩ := h
    exact lv_isub hx hb hdg (hg hlen hR ls H locs hl hH hS)
  | imul =>
    obtain ⟨rfl, x, y, S', rfl, hg⟩ := h
    exact lv_imul hx hb hdg (hg hlen hR ls H locs hl hH hS)
  | iand =>
    obtain ⟨rfl, x, y, S', rfl, hg⟩ := h
    exact lv_iand hx hb hdg (hg hlen hR ls H locs hl hH hS)
  | ior =>
    obtain ⟨rfl, x, y, S', rfl, hg⟩ := h
    exact lv_ior hx hb hdg (hg hlen hR ls H locs hl hH hS)
  | ixor =>
    obtain ⟨rfl, x, y, S', rfl, hg⟩ := h
    exact lv_ixor hx hb hdg (hg hlen hR ls H locs hl hH hS)
  | ishl =>
    obtain ⟨rfl, x, y, S', rfl, hg⟩ := h
    exact lv_ishl hx hb hdg (hg hlen hR ls H locs hl hH hS)
  | ishr =>
    obtain ⟨rfl, x, y, S', rfl, hg⟩ := h
    exact lv_ishr hx hb hdg (hg hlen hR ls H locs hl hH hS)
  | ladd =>
    obtain ⟨rfl, x, y, S', rfl, hg⟩ := h
    exact lv_ladd hx hb hdg (hg hlen hR ls H locs hl hH hS)
  | lsub =>
    obtain ⟨rfl, x, y, S', rfl, hg⟩ := h
    exact lv_lsub hx hb hdg (hg hlen hR ls H locs hl hH hS)
  | lmul =>
    obtain ⟨rfl, x, y, S', rfl, hg⟩ := h
    exact lv_lmul hx hb hdg (hg hlen hR ls H locs hl hH hS)
  | iushr =>
    obtain ⟨rfl, x, y, S', rfl, hg⟩ := h
    exact lv_iushr hx hb hdg rfl (hg hlen hR ls H locs hl hH hS)
  | lcmp =>
    obtain ⟨rfl, x, y, S', rfl, hg⟩ := h
    exact W.lcmp hx hb hdg (hg hlen hR ls H locs hl hH hS)
  | idiv =>
    obtain ⟨rfl, x, y, S', rfl, hne, hg⟩ := h
    exact lv_idiv hx hb hdg hne (hg hlen hR ls H locs hl hH hS)
  | irem =>
    obtain ⟨rfl, x, y, S', rfl, hne, hg⟩ := h
    exact lv_irem hx hb hdg hne (hg hlen hR ls H locs hl hH hS)
  | ldiv =>
    obtain ⟨rfl, x, y, S', rfl, hne, hg⟩ := h
    exact lv_ldiv hx hb hdg hne (hg hlen hR ls H locs hl hH hS)
  | ineg =>
    obtain ⟨rfl, x, S', rfl, hg⟩ := h
    exact lv_ineg hx hb hdg (hg hlen hR ls H locs hl hH hS)
  | i2b =>
    obtain ⟨rfl, x, S', rfl, hg⟩ := h
    exact lv_i2b hx hb hdg rfl (hg hlen hR ls H locs hl hH hS)
  | i2l =>
    obtain ⟨rfl, x, S', rfl, hg⟩ := h
    exact lv_i2l hx hb hdg rfl (hg hlen hR ls H locs hl hH hS)
  | l2i =>
    obtain ⟨rfl, x, S', rfl, hg⟩ := h
    exact lv_l2i hx hb hdg rfl (hg hlen hR ls H locs hl hH hS)
  | dup =>
    obtain ⟨rfl, v, S', rfl, hv, hg⟩ := h
    exact lv_dup hx hb hdg (by rw [pcat_pv]; exact hv) (hg hlen ⟨hR.1, RS_cons.mpr ⟨(RS_cons.mp hR.2).1, hR.2⟩⟩ ls H locs hl hH hS)
  | dup2 =>
    obtain ⟨rfl, v, w, S', rfl, hv, hw, hg⟩ := h
    exact lv_dup2_11 hx hb hdg (by rw [pcat_pv]; exact hv) (by rw [pcat_pv]; exact hw) (hg hlen ⟨hR.1, RS_cons.mpr ⟨(RS_cons.mp hR.2).1, RS_cons.mpr ⟨(RS_cons.mp (RS_cons.mp hR.2).2).1, hR.2⟩⟩⟩ ls H locs hl hH hS)
  | pop =>
    obtain ⟨rfl, v, S', rfl, hv, hg⟩ := h
    exact lv_pop hx hb hdg (by rw [pcat_pv]; exact hv) (hg hlen ⟨hR.1, (RS_cons.mp hR.2).2⟩ ls H locs hl hH hS)
  | goto off =>
    obtain ⟨rfl, t, ht, hg⟩ := h
    exact lv_goto hx hb hdg ht (hg hlen hR ls H locs hl hH hS)
  | ifCond cc0 off =>
    obtain ⟨rfl, t, x, S', ht, rfl, hg1, hg2⟩ := h
    cases cc0 with
    | eq => exact lv_if_eq hx hb hdg ht (fun q => hg1 q hlen hR ls H locs hl hH hS) (fun q => hg2 q hlen hR ls H locs hl hH hS)
    | ne => exact lv_if_ne hx hb hdg ht (fun q => hg1 q hlen hR ls H locs hl hH hS) (fun q => hg2 (fun z => z q) hlen hR ls H locs hl hH hS)
    | lt => exact lv_if_lt hx hb hdg ht (fun q => hg1 q hlen hR ls H locs hl hH hS) (fun q => hg2 q hlen hR ls H locs hl hH hS)
    | ge => exact lv_if_ge hx hb hdg ht (fun q => hg1 q hlen hR ls H locs hl hH hS) (fun q => hg2 q hlen hR ls H locs hl hH hS)
    | gt => exact lv_if_gt hx hb hdg ht (fun q => hg1 q hlen hR ls H locs hl hH hS) (fun q => hg2 q hlen hR ls H locs hl hH hS)
    | le => exact lv_if_le hx hb hdg ht (fun q => hg1 q hlen hR ls H locs hl hH hS) (fun q => hg2 q hlen hR ls H locs hl hH hS)
  | if_icmp cc0 off =>
    obtain ⟨rfl, t, x, y, S', ht, rfl, hg1, hg2⟩ := h
    cases cc0 with
    | eq => exact lv_icmp_eq hx hb hdg ht (fun q => hg1 q hlen hR ls H locs hl hH hS) (fun q => hg2 q hlen hR ls H locs hl hH hS)
    | ne => exact lv_icmp_ne hx hb hdg ht (fun q => hg1 q hlen hR ls H locs hl hH hS) (fun q => hg2 (fun z => z q) hlen hR ls H locs hl hH hS)
    | lt => exact lv_icmp_lt hx hb hdg ht (fun q => hg1 q hlen hR ls H locs hl hH hS) (fun q => hg2 q hlen hR ls H locs hl hH hS)
    | ge => exact lv_icmp_ge hx hb hdg ht (fun q => hg1 q hlen hR ls H locs hl hH hS) (fun q => hg2 q hlen hR ls H locs hl hH hS)
    | gt => exact lv_icmp_gt hx hb hdg ht (fun q => hg1 q hlen hR ls H locs hl hH hS) (fun q => hg2 q hlen hR ls H locs hl hH hS)
    | le => exact lv_icmp_le hx hb hdg ht (fun q => hg1 q hlen hR ls H locs hl hH hS) (fun q => hg2 q hlen hR ls H locs hl hH hS)
  | tableswitch dflt lo hi offs =>
    obtain ⟨x, S', rfl, hg | hg⟩ := h
    · obtain ⟨t, h1, ht, hg⟩ := hg
      exact lv_tableOut hx hb hdg h1 ht (hg hlen hR ls H locs hl hH hS)
    · obtain ⟨t, off, h1, h2, h3, ht, hg⟩ := hg
      exact lv_tableIn hx hb hdg h1 h2 h3 ht (hg hlen hR ls H locs hl hH hS)
  | getfield idx =>
    obtain ⟨rfl, ci, j, o, S', rfl, ⟨CN, T, N, ty0, hck, hj, hw⟩, hg | hg⟩ := h
    · obtain ⟨h1, hg⟩ := hg
      obtain ⟨fs, h2, h3⟩ := okI_spec h1
      obtain ⟨ii, hii⟩ := rls_at hR.2.1 h2
      exact va_get (v := .int (σ.1 o j)) hx hb hts hck.2.1 hown hK hP ii (pW_get hii h2) hck.1 j hj (hts _ hw) (fun _ z => z) (by rw [pfs_get, h3]; simp) hdg (hg hlen ⟨hR.1, hR.2.2⟩ ls H locs hl hH hS)
    · obtain ⟨dd, h1, hg⟩ := hg
      obtain ⟨fs, h2, h3⟩ := okR_spec h1
      obtain ⟨ii, hii⟩ := rls_at hR.2.1 h2
      exact va_get (v := .ref (E.1 dd)) hx hb hts hck.2.1 hown hK hP ii (pW_get hii h2) hck.1 j hj (hts _ hw) (fun _ z => z) (by rw [pfs_get, h3]; simp) hdg (hg hlen ⟨hR.1, rl_field hR.2.1 h2 h3, hR.2.2⟩ ls H locs hl hH hS)
  | putfield idx =>
    obtain ⟨rfl, ci, j, o, x, S', rfl, ⟨CN, T, N, ty0, hck, hj, hw, hty, hfin⟩, h1, hg⟩ := h
    obtain ⟨fs, h2, h3⟩ := okI_spec h1
    obtain ⟨ii, hii⟩ := rls_at hR.2.1 h2
    have hjl : j < fs.length := (List.getElem?_eq_some_iff.mp h3).1
    refine va_put (v := .int x) (ty := .int) hx hb hts hck.2.1 ty0 hck.2.2.1 hck.2.2.2 hown hK hP hD hS ii (pW_get hii h2) hck.1 j hj (hts _ hw) (fun _ z => z) hfin (by rw [hck.2.2.1 j hj, hty]) rfl rfl (by rw [pfs_len]; exact hjl) hdg (fun H1 locs1 hP1 hD1 hS1 => hg hlen ⟨hR.1, hR.2.2⟩ ls H1 locs1 hl ?_ hS1)
    refine ⟨w, hwok, ?_⟩
    rw [← pW_set (w := w) (σ := σ) (σ' := up1 σ o j x) hii h2 ?_ ?_ ?_]
    · exact ⟨hP1, hD1⟩
    · show (Sum.inr (ci, pfs E.1 ((up1 σ o j x).1 o) 0 fs) : va_E) = Sum.inr (ci, (pfs E.1 (σ.1 o) 0 fs).set j (.int x))
      rw [pfs_set (f' := (up1 σ o j x).1 o) h3 (by simp [up1]) (fun i hi => by simp [up1, hi])]
    · intro a ha; funext b; simp [up1, ha]
    · intro a ha; rfl
  | arraylength =>
    obtain ⟨rfl, a, S', rfl, hg | hg⟩ := h
    · obtain ⟨t, k, h1, h2, hg⟩ := hg
      have h3 := lenOf_spec h1 h2
      obtain ⟨ii, hii⟩ := rls_at hR.2.1 h3
      match t, h3 with
      | 0, h3 => exact va_alen (x := (k, .inl (σ.1 a))) hx hb hK hP ii 0 (pW_get hii h3) hT0 rfl hdg (hg hlen ⟨hR.1, hR.2.2⟩ ls H locs hl hH hS)
      | 1, h3 => exact va_alen (x := (k, .inl (σ.1 a))) hx hb hK hP ii 1 (pW_get hii h3) hT1 rfl hdg (hg hlen ⟨hR.1, hR.2.2⟩ ls H locs hl hH hS)
      | t + 2, h3 => exact va_alen (x := (k, .inr (.inl (σ.2 a)))) hx hb hK hP ii 2 (pW_get hii h3) hT2 rfl hdg (hg hlen ⟨hR.1, hR.2.2⟩ ls H locs hl hH hS)
    · obtain ⟨k, xs, h1, hg⟩ := hg
      obtain ⟨g1, g2, g3⟩ := hscr a k xs h1
      exact va_slen hx hb g1 g2 g3 hS hdg (hg hlen ⟨hR.1, hR.2.2⟩ ls H locs hl hH hS)
  | iaload =>
    obtain ⟨rfl, a, x, S', rfl, hg | hg⟩ := h
    · obtain ⟨h1, hg⟩ := hg
      obtain ⟨h2, h3⟩ := lenOf_in h1
      obtain ⟨ii, hii⟩ := rls_at hR.2.1 h2
      exact va_iald hx hb hK hP ii 0 (pW_get hii h2) hT0 h3 hdg (hg hlen ⟨hR.1, hR.2.2⟩ ls H locs hl hH hS)
    · obtain ⟨k, xs, h1, h2, hg⟩ := hg
      obtain ⟨g1, g2, g3⟩ := hscr a k xs h1
      exact va_sld hx hb g1 g2 g3 hS h2 hdg (hg hlen ⟨hR.1, hR.2.2⟩ ls H locs hl hH hS)
  | baload =>
    obtain ⟨rfl, a, x, S', rfl, h1, hg⟩ := h
    obtain ⟨h2, h3⟩ := lenOf_in h1
    obtain ⟨ii, hii⟩ := rls_at hR.2.1 h2
    exact va_bald hx hb hK hP ii 1 (pW_get hii h2) hT1 h3 hdg (hg hlen ⟨hR.1, hR.2.2⟩ ls H locs hl hH hS)
  | laload =>
    obtain ⟨rfl, a, x, S', rfl, h1, hg⟩ := h
    obtain ⟨h2, h3⟩ := lenOf_in h1
    obtain ⟨ii, hii⟩ := rls_at hR.2.1 h2
    exact va_lald hx hb hK hP ii 2 (pW_get hii h2) hT2 h3 hdg (hg hlen ⟨hR.1, hR.2.2⟩ ls H locs hl hH hS)
  | iastore =>
    obtain ⟨rfl, a, x, v, S', rfl, h1, hg⟩ := h
    obtain ⟨h2, h3⟩ := lenOf_in h1
    obtain ⟨ii, hii⟩ := rls_at hR.2.1 h2
    refine va_iast hx hb hK hP hD hS ii 0 (pW_get hii h2) hT0 h3 hdg (fun H1 locs1 hP1 hD1 hS1 => hg hlen ⟨hR.1, hR.2.2⟩ ls H1 locs1 hl ?_ hS1)
    refine ⟨w, hwok, ?_⟩
    rw [← pW_set (w := w) (σ := σ) (σ' := up1 σ a x.toNatClampNeg v) hii h2 ?_ ?_ ?_]
    · exact ⟨hP1, hD1⟩
    · show (Sum.inl (_, _, Sum.inl ((up1 σ a x.toNatClampNeg v).1 a)) : va_E) = _
      rw [up1_upd]
    · intro b hb2; funext b; simp [up1, hb2]
    · intro b hb2; rfl
  | bastore =>
    obtain ⟨rfl, a, x, v, S', rfl, h1, hg⟩ := h
    obtain ⟨h2, h3⟩ := lenOf_in h1
    obtain ⟨ii, hii⟩ := rls_at hR.2.1 h2
    refine va_bast hx hb hK hP hD hS ii 1 (pW_get hii h2) hT1 h3 hdg (fun H1 locs1 hP1 hD1 hS1 => hg hlen ⟨hR.1, hR.2.2⟩ ls H1 locs1 hl ?_ hS1)
    refine ⟨w, hwok, ?_⟩
    rw [← pW_set (w := w) (σ := σ) (σ' := up1 σ a x.toNatClampNeg v.toInt8.toInt32) hii h2 ?_ ?_ ?_]
    · exact ⟨hP1, hD1⟩
    · show (Sum.inl (_, _, Sum.inl ((up1 σ a x.toNatClampNeg v.toInt8.toInt32).1 a)) : va_E) = _
      rw [up1_upd, vp_nar_byte]
    · intro b hb2; funext b; simp [up1, hb2]
    · intro b hb2; rfl
  | lastore =>
    obtain ⟨rfl, a, x, v, S', rfl, h1, hg⟩ := h
    obtain ⟨h2, h3⟩ := lenOf_in h1
    obtain ⟨ii, hii⟩ := rls_at hR.2.1 h2
    refine va_last hx hb hK hP hD hS ii 2 (pW_get hii h2) hT2 h3 hdg (fun H1 locs1 hP1 hD1 hS1 => hg hlen ⟨hR.1, hR.2.2⟩ ls H1 locs1 hl ?_ hS1)
    refine ⟨w, hwok, ?_⟩
    rw [← pW_set (w := w) (σ := σ) (σ' := up2 σ a x.toNatClampNeg v) hii h2 ?_ ?_ ?_]
    · exact ⟨hP1, hD1⟩
    · show (Sum.inl (_, _, Sum.inr (Sum.inl ((up2 σ a x.toNatClampNeg v).2 a))) : va_E) = _
      rw [up2_upd]
    · intro b hb2; rfl
    · intro b hb2; funext b; simp [up2, hb2]
  | invokevirtual idx =>
    obtain ⟨rfl, y, k, ci, o, As, rest, r, σ', ⟨w1, w2, w3, w4, hy, hci, T, N, hcl⟩, rfl, hk, hcls, hsz, ⟨bytes, maxL, ret, d', hcw, hmx, hdd, hM⟩, hg⟩ := h
    obtain ⟨fs, ho⟩ := clsOf_spec hcls hci
    obtain ⟨hRa, hRo, hRr⟩ : RS E.1 As.reverse ∧ rl E.1 o ∧ RS E.1 rest := ⟨(RS_app.mp hR.2).1, (RS_app.mp hR.2).2.1, (RS_app.mp hR.2).2.2⟩
    obtain ⟨ii, hii⟩ := rls_at hRo ho
    have hcall : CallW R s args own y.cls idx y bytes maxL ret (Cond.code y bytes maxL ret :: tb) (pRm d') 0 0 k :=
      ⟨callB_of k hts (tbl_goodIn fun w hw => (List.mem_cons.mp hw).elim (fun z => z ▸ hcw) id) rfl rfl rfl (hts _ w4) (hts _ w1) hy ⟨by show d' + 1 ≤ _; omega, by show 8 + (maxL + 11) + 40 * d' ≤ _; omega⟩, hts _ w2, hts _ w3⟩
    refine p_call (va_runV (As := As.map (pv E.1)) (rest := rest.map (pv E.1)) (b := E.1 o) ⟨hx, hb, hml, hown, hts⟩ hM hcall ⟨pPc_blind E _ σ, va_recv hK hP (ci := ci) (q0 := ii) hcl (pW_get hii ho), fun U hU hW => ⟨by simp [pv], by rw [hU]; exact hH, va_K.moved hW.alike hK, hnw.warm hW, RS_cons.mpr ⟨hRo, RS_rev.mp hRa⟩⟩⟩ rfl (by rw [List.length_map]; exact hk) hl.1 (by simp [pv]) (lv_room (by rw [psz_map]; exact hsz)) hdg ⟨hce, hsl⟩) hS (fun H1 locs1 hRR hH1 hS1 => ?_)
    have := hg hlen ⟨hR.1, RS_app.mpr ⟨hRR, hRr⟩⟩ ls H1 locs1 hl hH1 hS1
    rw [List.map_append] at this
    cases r <;> exact this
  | invokestatic idx =>
    obtain ⟨rfl, hg | hg | hg | hg | hg⟩ := h
    · obtain ⟨y, k, As, rest, r, σ', hc2, rfl, hk, hsz, ⟨bytes, maxL, ret, d', hcw, hmx, hdd, hM⟩, hg⟩ := hg
      have hRa := (RS_app.mp hR.2).1
      have hRr := (RS_app.mp hR.2).2
      have hG2 : GoodIn tb (Cond.code y bytes maxL ret :: tb) := tbl_goodIn fun w hw => (List.mem_cons.mp hw).elim (fun z => z ▸ hcw) id
      have hpre : PreS s H (pPc E As σ) (As.map (pv E.1)) := ⟨pPc_blind E _ σ, fun U hU hW => ⟨rfl, by rw [hU]; exact hH, va_K.moved hW.alike hK, hnw.warm hW, RS_rev.mp hRa⟩⟩
      have hrun : va_Run p l e R s m args below meth c H locs cells slots 0 0 (F0 m pc ls ((As.map (pv E.1)).reverse ++ rest.map (pv E.1))) (rest.map (pv E.1)) (pQc E r σ' (As.map (pv E.1)).toArray) E.2.2.2.2.2 := by
        rcases hc2 with ⟨w1, w2, w3, hy⟩ | ⟨host, w1, w2, w3, hy⟩
        · exact va_runS (As := As.map (pv E.1)) (rest := rest.map (pv E.1)) ⟨hx, hb, hml, hown, hts⟩ hM ⟨callB_of k hts hG2 rfl rfl rfl (hts _ w3) (hts _ w1) hy ⟨by show d' + 1 ≤ _; omega, by show 8 + (maxL + 11) + 40 * d' ≤ _; omega⟩, hts _ w2⟩ hpre rfl (by rw [List.length_map]; exact hk) hl.1 rfl (lv_room (by rw [psz_map]; exact hsz)) hdg ⟨hce, hsl⟩
        · exact va_runSN (As := As.map (pv E.1)) (rest := rest.map (pv E.1)) ⟨hx, hb, hml, hown, hts⟩ hM ⟨va_cnB k hts hG2 rfl rfl rfl (hnw _ w1) (hts _ w3) hy ⟨by show d' + 1 ≤ _; omega, by show 8 + (maxL + 11) + 40 * d' ≤ _; omega⟩, hts _ w2, trivial⟩ hpre rfl (by rw [List.length_map]; exact hk) hl.1 rfl (lv_room (by rw [psz_map]; exact hsz)) hdg ⟨hce, hsl⟩
      have hst : List.map (pv E.1) (As.reverse ++ rest) = (As.map (pv E.1)).reverse ++ rest.map (pv E.1) := by simp
      refine W.eq (g2 := F0 m pc ls ((As.map (pv E.1)).reverse ++ rest.map (pv E.1))) (by show F0 m pc ls (List.map (pv E.1) (As.reverse ++ rest)) = _; rw [hst]) ?_
      refine p_call hrun hS (fun H1 locs1 hRR hH1 hS1 => ?_)
      have := hg hlen ⟨hR.1, RS_app.mpr ⟨hRR, hRr⟩⟩ ls H1 locs1 hl hH1 hS1
      rw [List.map_append] at this
      cases r <;> exact this
    · obtain ⟨x, y, S', hw, rfl, hsz, hg⟩ := hg
      exact va_mmax hx hb hml' hown (hts _ hw) (hts _ lk_max.1) (hts _ lk_max.2.1) (hts _ lk_max.2.2) (by omega) (by rw [psz_map]; omega) hce hsl hdg (hg hlen hR ls H locs hl hH hS)
    · obtain ⟨x, y, S', hw, rfl, hsz, hg⟩ := hg
      exact va_mmin hx hb hml' hown (hts _ hw) (hts _ lk_min.1) (hts _ lk_min.2.1) (hts _ lk_min.2.2) (by omega) (by rw [psz_map]; omega) hce hsl hdg (hg hlen hR ls H locs hl hH hS)
    · obtain ⟨a, b, sp, dp, k, S', hw, rfl, hsz, h1, h2, h3, hg | hg⟩ := hg
      · obtain ⟨l1, l2, h4, h5, hg⟩ := hg
        have ha := lenOf_spec rfl l1
        have hb2 := lenOf_spec rfl l2
        obtain ⟨ia, hia⟩ := rls_at hR.2.2.1 ha
        obtain ⟨ib, hib⟩ := rls_at hR.2.1 hb2
        refine va_copyi hx hb hml' hown (hts _ hw) (hts _ lk_cpy.1) (hts _ lk_cpy.2.1) (hts _ lk_cpy.2.2) hK hP hD hS ia ib 0 0 (pW_get hia ha) (pW_get hib hb2) hT0 hT0 rfl h1 h2 h3 h4 h5 (fun i _ => rfl) (by omega) (by rw [psz_map]; have : nativeFrameWords "java/lang/System" "arraycopy" 5 = 7 := (by decide +kernel); omega) hdg (fun H1 locs1 hP1 hD1 hS1 => hg hlen ⟨hR.1, hR.2.2.2⟩ ls H1 locs1 hl ?_ hS1)
        refine ⟨w, hwok, ?_⟩
        rw [← pW_set (w := w) (σ := σ) (σ' := cp1 σ a b sp.toNatClampNeg dp.toNatClampNeg k.toNatClampNeg) hib hb2 ?_ ?_ ?_]
        · exact ⟨hP1, hD1⟩
        · show (Sum.inl (_, _, Sum.inl ((cp1 σ a b sp.toNatClampNeg dp.toNatClampNeg k.toNatClampNeg).1 b)) : va_E) = _
          rw [cp1_cpy]
        · intro z hz; funext w; simp [cp1, hz]
        · intro z hz; rfl
      · obtain ⟨l1, l2, h4, h5, hg⟩ := hg
        have ha := lenOf_spec rfl l1
        have hb2 := lenOf_spec rfl l2
        obtain ⟨ia, hia⟩ := rls_at hR.2.2.1 ha
        obtain ⟨ib, hib⟩ := rls_at hR.2.1 hb2
        refine va_copyl hx hb hml' hown (hts _ hw) (hts _ lk_cpy.1) (hts _ lk_cpy.2.1) (hts _ lk_cpy.2.2) hK hP hD hS ia ib 2 2 (pW_get hia ha) (pW_get hib hb2) hT2 hT2 rfl h1 h2 h3 h4 h5 (fun i _ => rfl) (by omega) (by rw [psz_map]; have : nativeFrameWords "java/lang/System" "arraycopy" 5 = 7 := (by decide +kernel); omega) hdg (fun H1 locs1 hP1 hD1 hS1 => hg hlen ⟨hR.1, hR.2.2.2⟩ ls H1 locs1 hl ?_ hS1)
        refine ⟨w, hwok, ?_⟩
        rw [← pW_set (w := w) (σ := σ) (σ' := cp2 σ a b sp.toNatClampNeg dp.toNatClampNeg k.toNatClampNeg) hib hb2 ?_ ?_ ?_]
        · exact ⟨hP1, hD1⟩
        · show (Sum.inl (_, _, Sum.inr (Sum.inl ((cp2 σ a b sp.toNatClampNeg dp.toNatClampNeg k.toNatClampNeg).2 b))) : va_E) = _
          rw [cp2_cpy]
        · intro z hz; rfl
        · intro z hz; funext w; simp [cp2, hz]
    · obtain ⟨a, k, xs, x, S', hw, rfl, hsz, hsc, hx0, hg⟩ := hg
      obtain ⟨g1, g2, g3⟩ := hscr a k xs hsc
      have hX : va_X (E.1 a) k xs s H := g1.kept (hS.2.1 _ g2 g3)
      have hst : List.map (pv E.1) (pI x :: pR a :: S') = [Value.ref (E.1 a), .int x].reverse ++ S'.map (pv E.1) := by simp [pv]
      refine W.eq (g2 := F0 m pc ls ([Value.ref (E.1 a), .int x].reverse ++ S'.map (pv E.1))) (by show F0 m pc ls (List.map (pv E.1) (pI x :: pR a :: S')) = _; rw [hst]) ?_
      have hrun := va_runS (l := l) (e := e) (below := below) (meth := meth) (H := H) (locs := locs) (cells := cells) (slots := slots) (g := F0 m pc ls ([Value.ref (E.1 a), .int x].reverse ++ S'.map (pv E.1))) (As := [Value.ref (E.1 a), .int x]) (rest := S'.map (pv E.1)) ⟨hx, hb, hml, hown, hts⟩ (cell_met (l := l) (b := E.1 a) (k := k) (xs := xs) (x := x) hx0) ⟨callB_of 2 hts cell_good rfl rfl rfl (hts _ cell_ws.1) (hts _ hw) cell_yk ⟨by show 0 + 1 ≤ _; omega, by show 8 + (2 + 11) + 40 * 0 ≤ _; omega⟩, hts _ cell_ws.2⟩ ⟨cellP_blind _ _ _ _, fun U hU hW => ⟨rfl, by show va_X (E.1 a) k xs U U.heap; rw [hU]; exact va_X.moved hW.alike hX⟩⟩ rfl rfl hl.1 rfl (lv_room (by rw [psz_map]; exact hsz)) hdg ⟨hce, hsl⟩
      intro T hT X
      obtain ⟨v, st₀, t, T', L2, h0, X', hL, e1, e2, ⟨hv, hz, hk2⟩, st⟩ := hrun T hT X
      cases hv
      rw [h0] at hz hk2
      obtain ⟨t2, a1, b1⟩ := hg hlen ⟨hR.1, hR.2.2⟩ ls T'.heap (locs ++ L2) hl (by rw [e1]; exact pHp_kept hH (fun q hq => hk2 q hq (fun z => z))) ⟨Nat.le_trans hS.1 (by rw [e1]; exact hz), fun q h1 h2 => by rw [e1, hk2 q (Nat.lt_of_lt_of_le h1 hS.1) (fun z => z)]; exact hS.2.1 q h1 h2, fun q hq => by
          rcases List.mem_append.mp hq with h | h
          · exact hS.2.2 q h
          · exact (hL q h).elim⟩ T' rfl X'
      exact ⟨t2, st t2 a1, b1⟩
  | ireturn =>
    obtain ⟨rfl, x, rfl, hg⟩ := h
    exact hri pc L σ _ (Or.inl ⟨hdg, x, rfl⟩) hg hlen hR ls H locs hl hH hS
  | lreturn =>
    obtain ⟨rfl, x, rfl, hg⟩ := h
    exact hri pc L σ _ (Or.inr (Or.inl ⟨hdg, x, rfl⟩)) hg hlen hR ls H locs hl hH hS
  | areturn =>
    obtain ⟨rfl, x, rfl, hg⟩ := h
    exact hri pc L σ _ (Or.inr (Or.inr ⟨hdg, x, rfl⟩)) hg hlen hR ls H locs hl hH hS
  | return_ =>
    obtain ⟨rfl, rfl, hg⟩ := h
    exact hrv pc L σ hdg hg hlen hR ls H locs hl hH hS
  | _ => exact False.elim h
end PS
