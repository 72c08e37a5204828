/-! ===== the text machine is the JVM's ===== -/
theorem tm_sel {C : String} {x0 y0 y : MethodName} {s : State} {args : Array Value} (h0 : (Cond.selects C x0 y0).before args s = true) (hc : y0.cls = y.cls) (hy : y.cls ≠ "java/lang/invoke/MethodHandle" ∧ y.cls ≠ "java/lang/invoke/VarHandle") (hpriv : (Cond.privateMethod y).before args s = true) (hinst : (Cond.instanceMethod y).before args s = true) : (Cond.selects C y y).before args s = true := by
  obtain ⟨cC, -, my0, hfC, -, hn0, -, kP, hkP, hkI⟩ := Cond.selects_spec h0
  obtain ⟨my, meth, hn, hm, -, -⟩ := Cond.instanceMethod_spec hinst
  have hf : s.methodFound? y.cls y.name y.desc = some my := State.methodFound?_of_named hn hy
  have e1 : my.cls = my0.cls := by
    have h1 := findClass_of_methodNamed hn
    have h2 := findClass_of_methodNamed hn0
    rw [hc] at h2
    exact Option.some.inj (h1.symm.trans h2)
  have hs : selectMethod {} s.vm cC my = .method my := selectMethod_private hm (Cond.privateMethod_at hpriv my meth hn hm)
  simp only [Cond.before, Cond.holds, Cond.value, hfC, hf, hn, hs, e1, hkP]
  simpa using hkI
theorem tPriv_ok : ∀ y ∈ tPriv, y.cls ≠ "java/lang/invoke/MethodHandle" ∧ y.cls ≠ "java/lang/invoke/VarHandle" := by decide +kernel
theorem va_D_snoc {A : Nat → Prop} {ws : va_W} {x : Nat × va_E} (h : va_D A ws) (h1 : ∀ (k : Nat) (q : Nat × va_E), ws[k]? = some q → q.1 ≠ x.1) (h2 : A x.1) : va_D A (ws ++ [x]) := by
  have key : ∀ (k : Nat) (q : Nat × va_E), (ws ++ [x])[k]? = some q → ws[k]? = some q ∨ (k = ws.length ∧ q = x) := by
    intro k q hk
    rcases Nat.lt_trichotomy k ws.length with g | g | g
    · rw [List.getElem?_append_left g] at hk
      exact Or.inl hk
    · subst g
      rw [List.getElem?_append_right (Nat.le_refl _), Nat.sub_self] at hk
      exact Or.inr ⟨rfl, (Option.some.inj hk).symm⟩
    · rw [List.getElem?_eq_none (by simp; omega)] at hk
      cases hk
  refine ⟨fun i j p q hi hj hpq => ?_, fun k q hk => ?_⟩
  · rcases key i p hi with a | ⟨a1, a2⟩
    · rcases key j q hj with b | ⟨b1, b2⟩
      · exact h.1 i j p q a b hpq
      · exact absurd (hpq.trans (by rw [b2])) (h1 i p a)
    · rcases key j q hj with b | ⟨b1, b2⟩
      · exact absurd (hpq.symm.trans (by rw [a2])) (h1 j q b)
      · rw [a1, b1]
  · rcases key k q hk with a | ⟨a1, a2⟩
    · exact h.2 k q a
    · rw [a2]; exact h2
def tCt (n : Nat) (b : Bool) : Nat := if b then n else 0
section TM
variable {p : Program} {l : Launch} {e : Env} {R : Room} {s : State} {m : MethodId} {args : Array Value} {below : List Frame} {meth : Method} {c : Code} {Q : State → Prop} {E : tEnv} {cc : ByteArray} {nL d ak : Nat} {own : String}
def tmG (p : Program) (l : Launch) (e : Env) (R : Room) (s : State) (m : MethodId) (args : Array Value) (below : List Frame) (meth : Method) (c : Code) (Q : State → Prop) (E : tEnv) (ak : Nat) (H0 : Heap) (nL : Nat) (pc : Nat) (L : pLo) (S : List pV) (b : Bool) (cs : List tC) : Prop :=
  L.length = nL → ∀ (ls : Array Slot) (H : Heap) (locs : List Loc), lv_has ls nL (pll E.1 0 L) → tHp E cs H → (b = false → H.size = H0.size) → va_S (tA E) H0 H locs → W p l e R s m args below meth c H locs (tCt (tMc ak) b) (tCt (tMs ak) b) Q (F0 m pc ls (S.map (pv E.1)))
def tmCx (p : Program) (R : Room) (s : State) (m : MethodId) (args : Array Value) (meth : Method) (c : Code) (E : tEnv) (H0 : Heap) (own : String) (cc : ByteArray) (nL d ak : Nat) : Prop :=
  p.tables.exec = Jvm.exec ∧ c.code = cc ∧ c.maxLocals = nL ∧ s.vm.findClass own = some m.cls ∧ (∀ w ∈ tb, w.before args s = true) ∧ va_K E.2.1.2.1 classes E.2.1.2.2.2 s ∧ E.2.1.2.2.2[1]? = some (E.2.1.2.2.1.2.1, .byte) ∧ d + 1 ≤ R.frames ∧ 40 * (d + 1) ≤ R.locals ∧ tMc ak ≤ R.cells ∧ tMs ak ≤ R.slots ∧ meth.locks = false ∧ pNw s ∧ (H0 = s.heap ∧ tFx E s s.heap) ∧ (ak = 2 → E.1 2 = s.heap.size) ∧ E.2.1.1 ≤ s.heap.size
theorem tCt_le {n : Nat} {b b' : Bool} (h : b = true → b' = true) : tCt n b ≤ tCt n b' := by
  cases b <;> cases b' <;> simp_all [tCt]
theorem tm_call {H H0 : Heap} {locs : List Loc} {pc ac : Nat} {ls : Array Slot} {st0 rest : List Value} {a : Array Value} {cs' : List tC} {r : Option pV} {b : Bool}
    (hr : va_Run p l e R s m args below meth c H locs (tCt (tMc ak) b) (tCt (tMs ak) b) (tMc ac) (tMs ac) (F0 m pc ls st0) rest (tQpost E ac r cs' a) (tA E)) (hS : va_S (tA E) H0 H locs) (hz : b = false → H.size = H0.size) (hac : ac = 2 → ak = 2 ∧ b = false)
    (kk : ∀ (H1 : Heap) (locs1 : List Loc), tHp E cs' H1 → ((b || ac != 0) = false → H1.size = H0.size) → va_S (tA E) H0 H1 locs1 → W p l e R s m args below meth c H1 locs1 (tCt (tMc ak) (b || ac != 0)) (tCt (tMs ak) (b || ac != 0)) Q (F0 m (pc + 3) ls ((r.map (pv E.1)).toList ++ rest))) : W p l e R s m args below meth c H locs (tCt (tMc ak) b) (tCt (tMs ak) b) Q (F0 m pc ls st0) := by
  intro T hT X
  obtain ⟨v, st₀, t, T', L, h0, X', hL, e1, e2, ⟨hv, hb, ⟨hsz, hk⟩, hsm⟩, st⟩ := hr T hT X
  cases hv
  rw [h0] at hsz hk hsm
  have hW := kk T'.heap (locs ++ L) (by rw [e1]; exact hb) (fun hf => by
      have h1 : b = false := by cases b <;> simp_all
      have h2 : ac = 0 := by cases b <;> simp_all
      rw [e1, hsm h2]; exact hz h1)
    ⟨Nat.le_trans hS.1 (by rw [e1]; exact hsz), fun q h1 h2 => by rw [e1, hk q (Nat.lt_of_lt_of_le h1 hS.1) h2]; exact hS.2.1 q h1 h2, fun q hq => by
      rcases List.mem_append.mp hq with h | h
      · exact hS.2.2 q h
      · exact hL q h⟩
  have ec : tCt (tMc ak) b + tMc ac ≤ tCt (tMc ak) (b || ac != 0) ∧ tCt (tMs ak) b + tMs ac ≤ tCt (tMs ak) (b || ac != 0) := by
    by_cases h2 : ac = 2
    · obtain ⟨h3, h4⟩ := hac h2
      subst h2; subst h3; subst h4
      exact ⟨Nat.le_refl _, Nat.le_refl _⟩
    · have e1 : tMc ac = 0 := if_neg h2
      have e2 : tMs ac = 0 := if_neg h2
      rw [e1, e2]
      exact ⟨tCt_le (fun h => by rw [h]; rfl), tCt_le (fun h => by rw [h]; rfl)⟩
  obtain ⟨t2, a1, b1⟩ := W.widen ec.1 ec.2 hW T' rfl X'
  exact ⟨t2, st t2 a1, b1⟩
theorem tm_write {H0 H1 : Heap} {pc : Nat} {L : pLo} {S : List pV} {b : Bool} {cs : List tC} {ls : Array Slot} {locs : List Loc} (hg : tmG p l e R s m args below meth c Q E ak H0 nL pc L S true cs) (hlen : L.length = nL) (hl : lv_has ls nL (pll E.1 0 L)) (hH : tHp E cs H1) (hS : va_S (tA E) H0 H1 locs) : W p l e R s m args below meth c H1 locs (tCt (tMc ak) b) (tCt (tMs ak) b) Q (F0 m pc ls (S.map (pv E.1))) :=
  W.widen (tCt_le fun _ => rfl) (tCt_le fun _ => rfl) (hg hlen ls H1 locs hl hH (fun h => by cases h) hS)
theorem map_ret {ad : Nat → Nat} {r : Option pV} {rest : List pV} : (r.toList ++ rest).map (pv ad) = (r.map (pv ad)).toList ++ rest.map (pv ad) := by cases r <;> simp
set_option maxHeartbeats 4000000 in
set_option maxRecDepth 100000 in
theorem tmG_sound {RT : Option pV → List tC → Prop} {H0 : Heap} (C : tmCx p R s m args meth c E H0 own cc nL d ak)
    (hretI : ∀ (pc : Nat) (L : pLo) (b : Bool) (cs : List tC) (x : Int32), decode cc pc = .ok (.ireturn, 1) → (ak = 0 → b = false) → RT (some (pI x)) cs → tmG p l e R s m args below meth c Q E ak H0 nL pc L [pI x] b cs)
    (hretA : ∀ (pc : Nat) (L : pLo) (b : Bool) (cs : List tC) (x : Nat), decode cc pc = .ok (.areturn, 1) → (ak = 0 → b = false) → RT (some (pR x)) cs → tmG p l e R s m args below meth c Q E ak H0 nL pc L [pR x] b cs)
    (hretV : ∀ (pc : Nat) (L : pLo) (b : Bool) (cs : List tC), decode cc pc = .ok (.return_, 1) → (ak = 0 → b = false) → RT none cs → tmG p l e R s m args below meth c Q E ak H0 nL pc L [] b cs) :
    tmRules own cc ak E.2.2.2.1 E.2.2.2.2 (tmRun l E d) RT (tmG p l e R s m args below meth c Q E ak H0 nL) := by
  obtain ⟨hx, hb, hml, hown, hts, hK, hT1, hfr, hlo, hrc, hrs, hlocks, hnw, ⟨rfl, hfx⟩, had, hbase⟩ := C
  intro pc i n L S b cs hdg h hlen ls H locs hl hH hz hS
  obtain ⟨hP, hD, hbz⟩ := id hH
  obtain ⟨fPv, fCS, ⟨fO1, fO2⟩, ⟨fT1, fT2⟩, fFm, fS1, fS2, fS3, fS4⟩ := id hfx
  have hfree : ∀ a : Nat, a < s.heap.size → ¬ tA E a → H[a]? = s.heap[a]? := fun a h1 h2 => hS.2.1 a h1 h2
  have hml' : c.maxLocals = ls.size := hml.trans hl.1.symm
  have hpre : ∀ {ac : Nat}, (ac = 2 → ak = 2 ∧ b = false) → ∀ U : State, U.heap = H → s.WarmedH U.vm → tHp E cs U.heap ∧ va_K E.2.1.2.1 classes E.2.1.2.2.2 U ∧ pNw U ∧ tFx E U U.heap ∧ (ac = 2 → E.1 2 = U.heap.size) := fun hac U hU hW => ⟨by rw [hU]; exact hH, va_K.moved hW.alike hK, hnw.warm hW, by rw [hU]; exact tFx_moved hW.alike (tFx_kept hfx hfree), fun h2 => by rw [hU, hz (hac h2).2]; exact had (hac h2).1⟩
  have hroom : ∀ {ac : Nat}, (ac = 2 → ak = 2 ∧ b = false) → tCt (tMc ak) b + tMc ac ≤ R.cells ∧ tCt (tMs ak) b + tMs ac ≤ R.slots := fun {ac} hac => by
    by_cases h2 : ac = 2
    · obtain ⟨h3, h4⟩ := hac h2
      subst h2; subst h3; subst h4
      exact ⟨by show 0 + _ ≤ _; omega, by show 0 + _ ≤ _; omega⟩
    · have e1 : tMc ac = 0 := if_neg h2
      have e2 : tMs ac = 0 := if_neg h2
      have e3 : tCt (tMc ak) b ≤ tMc ak := by cases b <;> simp [tCt]
      have e4 : tCt (tMs ak) b ≤ tMs ak := by cases b <;> simp [tCt]
      omega
  cases i with
  | iconst k =>
    obtain ⟨rfl, hg⟩ := h
    exact lv_iconst hx hb hdg rfl (hg hlen ls H locs hl hH hz hS)
  | bipush k =>
    obtain ⟨rfl, hg⟩ := h
    exact lv_bipush hx hb hdg rfl (hg hlen ls H locs hl hH hz hS)
  | sipush k =>
    obtain ⟨rfl, hg⟩ := h
    exact lv_sipush hx hb hdg rfl (hg hlen ls H locs hl hH hz hS)
  | ldc idx =>
    obtain ⟨rfl, v, hw, hg⟩ := h
    exact lv_ldc hx hb hown (hts _ hw) hdg (hg hlen ls H locs hl hH hz hS)
  | iload_n k =>
    obtain ⟨rfl, x, hk, hg⟩ := h
    exact lv_iload_n hx hb hdg rfl (pll_at hl hk) (hg hlen ls H locs hl hH hz hS)
  | iload k =>
    obtain ⟨rfl, x, hk, hg⟩ := h
    exact lv_iload hx hb hdg (pll_at hl hk) (hg hlen ls H locs hl hH hz hS)
  | aload_n k =>
    obtain ⟨rfl, x, hk, hg⟩ := h
    exact lv_aload_n hx hb hdg rfl (pll_at hl hk) (hg hlen ls H locs hl hH hz hS)
  | aload k =>
    obtain ⟨rfl, x, hk, hg⟩ := h
    exact lv_aload hx hb hdg (pll_at hl hk) (hg hlen ls H locs hl hH hz hS)
  | astore k =>
    obtain ⟨rfl, x, S', rfl, hk, hg⟩ := h
    exact lv_astore hx hb hdg hl (by omega) rfl (fun ls' hl' => hg (by rw [pSet1_len]; exact hlen) ls' H locs (pSet1_ll E.1 L k nL _ ls' rfl hl') hH hz hS)
  | istore_n k =>
    obtain ⟨rfl, x, S', rfl, hk, hg⟩ := h
    exact lv_istore_n hx hb hdg rfl hl (by omega) rfl (fun ls' hl' => hg (by rw [pSet1_len]; exact hlen) ls' H locs (pSet1_ll E.1 L k nL _ ls' rfl hl') hH hz hS)
  | istore k =>
    obtain ⟨rfl, x, S', rfl, hk, hg⟩ := h
    exact lv_istore hx hb hdg hl (by omega) rfl (fun ls' hl' => hg (by rw [pSet1_len]; exact hlen) ls' H locs (pSet1_ll E.1 L k nL _ ls' rfl hl') hH hz hS)
  | astore_n k =>
    obtain ⟨rfl, x, S', rfl, hk, hg⟩ := h
    exact lv_astore_n hx hb hdg rfl hl (by omega) rfl (fun ls' hl' => hg (by rw [pSet1_len]; exact hlen) ls' H locs (pSet1_ll E.1 L k nL _ ls' rfl hl') hH hz hS)
  | iinc k z =>
    obtain ⟨rfl, x, hk, hg⟩ := h
    have hkn : k < nL := by rw [← hlen]; exact (List.getElem?_eq_some_iff.mp hk).1
    obtain ⟨k', hk'⟩ := List.getElem?_of_mem ((mem_pll E.1 L 0 (k, pv E.1 (pI x))).mpr ⟨k, pI x, hk, by simp⟩)
    exact lv_iinc hx hb hdg hl hk' rfl hkn rfl (fun ls' hl' => hg (by rw [pSet1_len]; exact hlen) ls' H locs (pSet1_ll E.1 L k nL _ ls' rfl hl') hH hz hS)
  | iadd =>
    obtain ⟨rfl, x, y, S', rfl, hg⟩ := h
    exact lv_iadd hx hb hdg (hg hlen ls H locs hl hH hz hS)
  | isub =>
    obtain ⟨rfl, x, y, S', rfl, hg⟩ := h
    exact lv_isub hx hb hdg (hg hlen ls H locs hl hH hz hS)
  | imul =>
    obtain ⟨rfl, x, y, S', rfl, hg⟩ := h
    exact lv_imul hx hb hdg (hg hlen ls H locs hl hH hz hS)
  | iand =>
    obtain ⟨rfl, x, y, S', rfl, hg⟩ := h
    exact lv_iand hx hb hdg (hg hlen ls H locs hl hH hz hS)
  | ishl =>
    obtain ⟨rfl, x, y, S', rfl, hg⟩ := h
    exact lv_ishl hx hb hdg (hg hlen ls H locs hl hH hz hS)
  | ishr =>
    obtain ⟨rfl, x, y, S', rfl, hg⟩ := h
    exact lv_ishr hx hb hdg (hg hlen ls H locs hl hH hz hS)
  | idiv =>
    obtain ⟨rfl, x, y, S', rfl, h1, hg⟩ := h
    exact lv_idiv hx hb hdg h1 (hg hlen ls H locs hl hH hz hS)
  | ineg =>
    obtain ⟨rfl, x, S', rfl, hg⟩ := h
    exact lv_ineg hx hb hdg (hg hlen ls H locs hl hH hz hS)
  | i2b =>
    obtain ⟨rfl, x, S', rfl, hg⟩ := h
    exact lv_i2b hx hb hdg rfl (hg hlen ls H locs hl hH hz hS)
  | i2c =>
    obtain ⟨rfl, x, S', rfl, hg⟩ := h
    exact lv_i2c hx hb hdg rfl (hg hlen ls H locs hl hH hz hS)
  | dup =>
    obtain ⟨rfl, v, S', rfl, hv, hg⟩ := h
    exact lv_dup hx hb hdg (by rw [pcat_pv]; exact hv) (hg hlen ls H locs hl hH hz hS)
  | dup_x1 =>
    obtain ⟨rfl, v, w, S', rfl, hv, hw, hg⟩ := h
    exact lv_dup_x1 hx hb hdg (by rw [pcat_pv]; exact hv) (by rw [pcat_pv]; exact hw) (hg hlen ls H locs hl hH hz hS)
  | pop =>
    obtain ⟨rfl, v, S', rfl, hv, hg⟩ := h
    exact lv_pop hx hb hdg (by rw [pcat_pv]; exact hv) (hg hlen ls H locs hl hH hz hS)
  | goto off =>
    obtain ⟨rfl, t, ht, hg⟩ := h
    exact lv_goto hx hb hdg ht (hg hlen ls H locs hl hH hz hS)
  | ifCond cc0 off =>
    obtain ⟨rfl, t, x, S', ht, rfl, hg1, hg2⟩ := h
    cases cc0 with
    | eq => exact lv_if_eq hx hb hdg ht (fun q => hg1 q hlen ls H locs hl hH hz hS) (fun q => hg2 q hlen ls H locs hl hH hz hS)
    | ne => exact lv_if_ne hx hb hdg ht (fun q => hg1 q hlen ls H locs hl hH hz hS) (fun q => hg2 (fun z => z q) hlen ls H locs hl hH hz hS)
    | lt => exact lv_if_lt hx hb hdg ht (fun q => hg1 q hlen ls H locs hl hH hz hS) (fun q => hg2 q hlen ls H locs hl hH hz hS)
    | ge => exact lv_if_ge hx hb hdg ht (fun q => hg1 q hlen ls H locs hl hH hz hS) (fun q => hg2 q hlen ls H locs hl hH hz hS)
    | gt => exact lv_if_gt hx hb hdg ht (fun q => hg1 q hlen ls H locs hl hH hz hS) (fun q => hg2 q hlen ls H locs hl hH hz hS)
    | le => exact lv_if_le hx hb hdg ht (fun q => hg1 q hlen ls H locs hl hH hz hS) (fun q => hg2 q hlen ls H locs hl hH hz hS)
  | if_icmp cc0 off =>
    obtain ⟨rfl, t, x, y, S', ht, rfl, hg1, hg2⟩ := h
    cases cc0 with
    | eq => exact lv_icmp_eq hx hb hdg ht (fun q => hg1 q hlen ls H locs hl hH hz hS) (fun q => hg2 q hlen ls H locs hl hH hz hS)
    | ne => exact lv_icmp_ne hx hb hdg ht (fun q => hg1 q hlen ls H locs hl hH hz hS) (fun q => hg2 (fun z => z q) hlen ls H locs hl hH hz hS)
    | lt => exact lv_icmp_lt hx hb hdg ht (fun q => hg1 q hlen ls H locs hl hH hz hS) (fun q => hg2 q hlen ls H locs hl hH hz hS)
    | ge => exact lv_icmp_ge hx hb hdg ht (fun q => hg1 q hlen ls H locs hl hH hz hS) (fun q => hg2 q hlen ls H locs hl hH hz hS)
    | gt => exact lv_icmp_gt hx hb hdg ht (fun q => hg1 q hlen ls H locs hl hH hz hS) (fun q => hg2 q hlen ls H locs hl hH hz hS)
    | le => exact lv_icmp_le hx hb hdg ht (fun q => hg1 q hlen ls H locs hl hH hz hS) (fun q => hg2 q hlen ls H locs hl hH hz hS)
  | ifnonnull off =>
    obtain ⟨rfl, t, x, S', ht, rfl, hg⟩ := h
    exact lv_ifnonnull hx hb hdg ht (hg hlen ls H locs hl hH hz hS)
  | getfield idx =>
    obtain ⟨rfl, hg | hg | hg⟩ := h
    · obtain ⟨j, o, v, fs, S', rfl, ⟨CN, T, N, ty0, hck, hj, hw⟩, ho, hv, hg⟩ := hg
      exact va_get (v := pv E.1 v) hx hb hts hck.2.1 hown hK hP (E.2.2.1.length + o) (tW_at ho) hck.1 j hj (hts _ hw) (fun _ z => z) (by rw [List.getElem?_map, hv]; rfl) hdg (hg hlen ls H locs hl hH hz hS)
    · obtain ⟨S', rfl, hw, hg⟩ := hg
      exact va_getX (N := 1) (i := 0) (ad := fun _ => E.1 50) (v := fun _ => .int 0) hx hb (fun _ _ => fS2) (by omega) hS hown (hts _ hw) (fun _ z => z) hdg (hg hlen ls H locs hl hH hz hS)
    · obtain ⟨S', rfl, hw, hg⟩ := hg
      exact va_getX (N := 1) (i := 0) (ad := fun _ => E.1 50) (v := fun _ => .ref (E.1 51)) hx hb (fun _ _ => fS3) (by omega) hS hown (hts _ hw) (fun _ z => z) hdg (hg hlen ls H locs hl hH hz hS)
  | putfield idx =>
    obtain ⟨rfl, j, o, v, fs, S', CN, T, N, ty0, rfl, hck, hj, hw, ho, hjl, hft, hfin, hg⟩ := h
    obtain ⟨f1, f2⟩ := cFits_ok E.1 hft
    refine va_put (v := pv E.1 v) (ty := ty0 j) hx hb hts hck.2.1 ty0 hck.2.2.1 hck.2.2.2 hown hK hP hD hS (E.2.2.1.length + o) (tW_at ho) hck.1 j hj (hts _ hw) (fun _ z => z) hfin (hck.2.2.1 j hj) f1 f2 (by rw [List.length_map]; exact hjl) hdg (fun H1 locs1 hP1 hD1 hS1 => tm_write hg hlen hl ?_ hS1)
    have e0 : (tW E cs).set (E.2.2.1.length + o) (E.1 o, .inr (13, (fs.map (pv E.1)).set j (pv E.1 v))) = tW E (cs.set o (.inr (fs.set j v))) := by
      rw [← tW_set]
      show _ = (tW E cs).set (E.2.2.1.length + o) (E.1 o, .inr (13, (fs.set j v).map (pv E.1)))
      rw [List.map_set]
    rw [e0] at hP1 hD1
    exact ⟨hP1, hD1, Nat.le_trans hbase hS1.1⟩
  | getstatic idx =>
    obtain ⟨rfl, hg | hg | hg | hg⟩ := h
    · exact va_gets hx hb fCS hS hown (hts _ hg.1) (fun _ z => z) hdg (hg.2 hlen ls H locs hl hH hz hS)
    · exact va_gets hx hb fO1 hS hown (hts _ hg.1) (fun _ z => z) hdg (hg.2 hlen ls H locs hl hH hz hS)
    · exact va_gets hx hb fT1 hS hown (hts _ hg.1) (fun _ z => z) hdg (hg.2 hlen ls H locs hl hH hz hS)
    · exact hg.elim
  | arraylength =>
    obtain ⟨rfl, hg | hg⟩ := h
    · obtain ⟨a, N, f, S', rfl, ha, hg⟩ := hg
      exact va_alen (x := (N, .inl f)) hx hb hK hP (E.2.2.1.length + a) 1 (tW_at ha) hT1 rfl hdg (hg hlen ls H locs hl hH hz hS)
    · obtain ⟨S', rfl, hg⟩ := hg
      exact va_tlen hx hb fS4 hS rfl hdg (hg hlen ls H locs hl hH hz hS)
  | baload =>
    obtain ⟨rfl, hg | hg | hg | hg⟩ := h
    · obtain ⟨a, N, f, x, S', rfl, ha, hi, hg⟩ := hg
      exact va_bald hx hb hK hP (E.2.2.1.length + a) 1 (tW_at ha) hT1 hi hdg (hg hlen ls H locs hl hH hz hS)
    · obtain ⟨x, S', rfl, hi, hg⟩ := hg
      exact va_tb hx hb fO2 hS hi rfl hdg (hg hlen ls H locs hl hH hz hS)
    · obtain ⟨x, S', rfl, hi, hg⟩ := hg
      exact va_tb hx hb fT2 hS hi rfl hdg (hg hlen ls H locs hl hH hz hS)
    · obtain ⟨x, S', rfl, hi, hg⟩ := hg
      exact va_tb hx hb fS4 hS hi rfl hdg (hg hlen ls H locs hl hH hz hS)
  | bastore =>
    obtain ⟨rfl, a, N, f, x, v, S', rfl, ha, hi, hg⟩ := h
    refine va_bast hx hb hK hP hD hS (E.2.2.1.length + a) 1 (tW_at ha) hT1 hi hdg (fun H1 locs1 hP1 hD1 hS1 => tm_write hg hlen hl ?_ hS1)
    rw [vp_nar_byte] at hP1 hD1
    have e0 : (tW E cs).set (E.2.2.1.length + a) (E.1 a, .inl (E.2.1.2.2.1.2.1, N, .inl (upd f x.toNatClampNeg v.toInt8.toInt32))) = tW E (cs.set a (.inl (N, upd f x.toNatClampNeg v.toInt8.toInt32))) := (tW_set E cs a (.inl (N, upd f x.toNatClampNeg v.toInt8.toInt32)))
    rw [e0] at hP1 hD1
    exact ⟨hP1, hD1, Nat.le_trans hbase hS1.1⟩
  | newarray at0 =>
    obtain ⟨rfl, rfl, N, S', rfl, hN, h2, rfl, hcl, hg⟩ := h
    subst h2
    refine va_newaK (atype := .byte) (N := N) hx hb (hts _ lk_arr.2.1) rfl hdg rfl (nI_pos (by omega)) (nI_clamp (by omega)) (by show N * _ ≤ _; first | (have : componentBytes (newarray.typeOf .byte) ≤ 8 := by decide); exact Nat.le_trans (Nat.mul_le_mul_left N this) (by omega)) (by show 0 + 1 ≤ _; exact hrc) (by show 0 + N ≤ _; exact Nat.le_trans (by omega) (show 100 ≤ R.slots from hrs)) rfl (fun H1 cA0 q1 q2 q3 q4 q5 => ?_)
    have hc : cA0 = E.2.1.2.2.1.2.1 := Option.some.inj (q5.symm.trans (hK.2 1 _ hT1).2)
    subst hc
    have hsz := hz rfl
    have h2a := had rfl
    refine W.widen (k := 1) (n := 100) (by show 0 + 1 ≤ 1; omega) (by show 0 + N ≤ 100; omega) ?_
    have hHp : tHp E (cs ++ [.inl (N, fun _ => 0)]) H1 := by
      refine ⟨?_, ?_, by rw [q2]; omega⟩
      · rw [tW_app, hcl, h2a]
        refine va_P.app (hP.kept fun k q hk => q3 q.1 ((hP k q hk).lt)) fun k q hk => ?_
        have hk1 : k < 1 := (List.getElem?_eq_some_iff.mp hk).1
        rw [show k = 0 by omega] at hk
        cases hk
        show H1[s.heap.size]? = some (vp_cell _ _)
        rw [← hsz]
        show H1[H.size]? = some (vp_cell _ (N, .inl fun _ => 0))
        rw [vp_cell_i]
        exact q1
      · rw [tW_app, hcl, h2a]
        exact va_D_snoc hD (fun k q hk => by
          have := (hP k q hk).lt
          show q.1 ≠ s.heap.size
          omega) (by show E.2.1.1 ≤ s.heap.size; exact hbase)
    have hw := hg hlen ls H1 locs hl hHp (fun hf => by cases hf) ⟨by rw [q2]; exact Nat.le_trans hS.1 (by omega), fun q h1 h2 => (q3 q (by rw [hsz]; exact h1)).trans (hS.2.1 q h1 h2), hS.2.2⟩
    have e3 : (pR 2 :: S').map (pv E.1) = Value.ref H.size :: S'.map (pv E.1) := by
      show Value.ref (E.1 2) :: _ = _
      rw [h2a, hsz]
    rw [e3] at hw
    exact hw
  | invokevirtual idx =>
    obtain ⟨rfl, ac, CN, y, k, o, As, rest, r, cs', ⟨w1, w2, w3, w4, hy⟩, rfl, hk, hsz, hrc2, ⟨bytes, maxL, ret, d', hcw, hmx, hdd, hM⟩, hac, hg⟩ := h
    have hrecv : ∃ cell : Cell, H[E.1 o]? = some cell ∧ cell.vm.isStatics = false ∧ s.vm.findClass CN = some cell.cls := by
      rcases hrc2 with ⟨rfl, fs, ho⟩ | ⟨rfl, rfl⟩
      · exact va_recv hK hP (ci := 13) (q := (RJ4, TJ4, 4)) rfl (tW_at ho)
      · obtain ⟨cell, g1, g2, g3, -⟩ := fS1.kept hS.2.1
        exact ⟨cell, g1, g2, g3⟩
    have hsel : (Cond.selects CN y y).before args s = true := by
      rcases w3 with w3 | ⟨hp, x0, y0, w3, hc⟩
      · exact hts _ w3
      · exact tm_sel (hts _ w3) hc (tPriv_ok y hp) (va_tabs (c := Cond.privateMethod y) rfl rfl (fPv y hp)) (hts _ w2)
    obtain ⟨r1, r2⟩ := hroom hac
    have hcall : CallW R s args own CN idx y bytes maxL ret (Cond.code y bytes maxL ret :: tb) (cRm d' (tMc ac) (tMs ac)) (tMc ac) (tMs ac) k :=
      ⟨callB_of k hts (tbl_goodIn fun w hw => (List.mem_cons.mp hw).elim (fun z => z ▸ hcw) id) rfl rfl rfl (hts _ w4) (hts _ w1) hy ⟨by show d' + 1 ≤ _; omega, by show 8 + (maxL + 11) + 40 * d' ≤ _; omega⟩, hts _ w2, hsel⟩
    have hst0 : List.map (pv E.1) (As.reverse ++ pR o :: rest) = (As.map (pv E.1)).reverse ++ .ref (E.1 o) :: rest.map (pv E.1) := by simp [pv]
    refine W.eq (g2 := F0 m pc ls ((As.map (pv E.1)).reverse ++ .ref (E.1 o) :: rest.map (pv E.1))) (by show F0 m pc ls (List.map (pv E.1) (As.reverse ++ pR o :: rest)) = _; rw [hst0]) ?_
    refine tm_call (r := r) (va_runV (As := As.map (pv E.1)) (rest := rest.map (pv E.1)) ⟨hx, hb, hml, hown, hts⟩ hM hcall ⟨tQpre_blind E ac _ cs, hrecv, fun U hU hW => ⟨by simp [pv], hpre hac U hU hW⟩⟩ rfl (by rw [List.length_map]; exact hk) hl.1 rfl (lv_room (by rw [psz_map]; exact hsz)) hdg ⟨r1, r2⟩) hS hz hac (fun H1 locs1 hH1 hz1 hS1 => ?_)
    rw [← map_ret]
    exact hg hlen ls H1 locs1 hl hH1 hz1 hS1
  | invokespecial idx =>
    obtain ⟨rfl, ac, y, k, o, As, rest, r, cs', ⟨w1, w2, w3, w4, w5, hyn, hyp⟩, rfl, hk, hsz, ⟨fs, ho⟩, ⟨bytes, maxL, ret, d', hcw, hmx, hdd, hM⟩, hac, hg⟩ := h
    obtain ⟨r1, r2⟩ := hroom hac
    have hst0 : List.map (pv E.1) (As.reverse ++ pR o :: rest) = (As.map (pv E.1)).reverse ++ .ref (E.1 o) :: rest.map (pv E.1) := by simp [pv]
    refine W.eq (g2 := F0 m pc ls ((As.map (pv E.1)).reverse ++ .ref (E.1 o) :: rest.map (pv E.1))) (by show F0 m pc ls (List.map (pv E.1) (As.reverse ++ pR o :: rest)) = _; rw [hst0]) ?_
    have hcs : va_CS R s args own idx y bytes maxL ret (Cond.code y bytes maxL ret :: tb) (cRm d' (tMc ac) (tMs ac)) (tMc ac) (tMs ac) k := va_cwSU (Ts := tb) (ws' := tb) k hts (tbl_goodIn fun w hw => by
      unfold va_wsSU at hw
      rcases List.mem_append.mp hw with h1 | h1
      · simp only [List.mem_cons, List.not_mem_nil, or_false] at h1
        rcases h1 with rfl | rfl | rfl | rfl | rfl
        · exact w1
        · exact w2
        · exact w3
        · exact w4
        · exact w5
      · exact (List.mem_cons.mp h1).elim (fun z => z ▸ hcw) id) rfl rfl rfl ⟨hyn, hyp⟩ ⟨by show d' + 1 ≤ _; omega, by show 8 + (maxL + 11) + 40 * d' ≤ _; omega⟩
    refine tm_call (r := r) (va_runSU (As := As.map (pv E.1)) (rest := rest.map (pv E.1)) (hK.1 13 (RJ4, TJ4, 4) rfl).2 ⟨hx, hb, hml, hown, hts⟩ hM hcs ⟨tQpre_blind E ac _ cs, va_recv hK hP (ci := 13) (q := (RJ4, TJ4, 4)) rfl (tW_at ho), fun U hU hW => ⟨by simp [pv], hpre hac U hU hW⟩⟩ rfl (by rw [List.length_map]; exact hk) hl.1 rfl (lv_room (by rw [psz_map]; exact hsz)) hdg ⟨r1, r2⟩) hS hz hac (fun H1 locs1 hH1 hz1 hS1 => ?_)
    rw [← map_ret]
    exact hg hlen ls H1 locs1 hl hH1 hz1 hS1
  | invokestatic idx =>
    obtain ⟨rfl, hg | hg | hg | hg | hg⟩ := h
    · obtain ⟨ac, y, k, As, rest, r, cs', ⟨w1, w2, w3, hy⟩, rfl, hk, hsz, ⟨bytes, maxL, ret, d', hcw, hmx, hdd, hM⟩, hac, hg⟩ := hg
      obtain ⟨r1, r2⟩ := hroom hac
      have hst0 : List.map (pv E.1) (As.reverse ++ rest) = (As.map (pv E.1)).reverse ++ rest.map (pv E.1) := by simp
      refine W.eq (g2 := F0 m pc ls ((As.map (pv E.1)).reverse ++ rest.map (pv E.1))) (by show F0 m pc ls (List.map (pv E.1) (As.reverse ++ rest)) = _; rw [hst0]) ?_
      refine tm_call (r := r) (va_runS (As := As.map (pv E.1)) (rest := rest.map (pv E.1)) ⟨hx, hb, hml, hown, hts⟩ hM ⟨callB_of k hts (tbl_goodIn fun w hw => (List.mem_cons.mp hw).elim (fun z => z ▸ hcw) id) rfl rfl rfl (hts _ w3) (hts _ w1) hy ⟨by show d' + 1 ≤ _; omega, by show 8 + (maxL + 11) + 40 * d' ≤ _; omega⟩, hts _ w2⟩ ⟨tQpre_blind E ac _ cs, fun U hU hW => ⟨rfl, hpre hac U hU hW⟩⟩ rfl (by rw [List.length_map]; exact hk) hl.1 rfl (lv_room (by rw [psz_map]; exact hsz)) hdg ⟨r1, r2⟩) hS hz hac (fun H1 locs1 hH1 hz1 hS1 => ?_)
      rw [← map_ret]
      exact hg hlen ls H1 locs1 hl hH1 hz1 hS1
    · obtain ⟨x, y, S', hw, rfl, hsz, hg⟩ := hg
      obtain ⟨r1, r2⟩ := hroom (ac := 0) (fun h => by cases h)
      exact va_mmax hx hb hml' hown (hts _ hw) (hts _ lk_max.1) (hts _ lk_max.2.1) (hts _ lk_max.2.2) (by omega) (by rw [psz_map]; omega) (Nat.le_trans (Nat.le_add_right _ _) r1) (Nat.le_trans (Nat.le_add_right _ _) r2) hdg (hg hlen ls H locs hl hH hz hS)
    · obtain ⟨x, y, S', hw, rfl, hsz, hg⟩ := hg
      obtain ⟨r1, r2⟩ := hroom (ac := 0) (fun h => by cases h)
      exact va_mmin hx hb hml' hown (hts _ hw) (hts _ lk_min.1) (hts _ lk_min.2.1) (hts _ lk_min.2.2) (by omega) (by rw [psz_map]; omega) (Nat.le_trans (Nat.le_add_right _ _) r1) (Nat.le_trans (Nat.le_add_right _ _) r2) hdg (hg hlen ls H locs hl hH hz hS)
    · obtain ⟨a, a2, N, N2, f, g, sp, dp, k, S', hw, rfl, hsz, h1, h2, h3, ha, ha2, h4, h5, hf, hg⟩ := hg
      refine va_copyi hx hb hml' hown (hts _ hw) (hts _ lk_cpy.1) (hts _ lk_cpy.2.1) (hts _ lk_cpy.2.2) hK hP hD hS (E.2.2.1.length + a) (E.2.2.1.length + a2) 1 1 (tW_at ha) (tW_at ha2) hT1 hT1 rfl h1 h2 h3 h4 h5 (fun i _ => hf _) (by omega) (by rw [psz_map]; have : nativeFrameWords "java/lang/System" "arraycopy" 5 = 7 := (by decide +kernel); omega) hdg (fun H1 locs1 hP1 hD1 hS1 => tm_write hg hlen hl ?_ hS1)
      have e0 := tW_set E cs a2 (.inl (N2, va_cpy f g sp.toNatClampNeg dp.toNatClampNeg k.toNatClampNeg))
      exact ⟨by rw [← e0]; exact hP1, by rw [← e0]; exact hD1, Nat.le_trans hbase hS1.1⟩
    · obtain ⟨a2, N2, g, sp, dp, k, S', hw, rfl, hsz, h1, h2, h3, ha2, h4, h5, hf, hg⟩ := hg
      refine vk_copyt hx hb hml' hown (hts _ hw) (hts _ lk_cpy.1) (hts _ lk_cpy.2.1) (hts _ lk_cpy.2.2) hK hP hD hS (f := E.2.2.2.2) fS4 (E.2.2.1.length + a2) 1 (tW_at ha2) hT1 h1 h2 h3 h4 h5 (fun i _ => hf _) (by omega) (by rw [psz_map]; have : nativeFrameWords "java/lang/System" "arraycopy" 5 = 7 := (by decide +kernel); omega) hdg (fun H1 locs1 hP1 hD1 hS1 => tm_write hg hlen hl ?_ hS1)
      have e0 := tW_set E cs a2 (.inl (N2, va_cpy E.2.2.2.2 g sp.toNatClampNeg dp.toNatClampNeg k.toNatClampNeg))
      exact ⟨by rw [← e0]; exact hP1, by rw [← e0]; exact hD1, Nat.le_trans hbase hS1.1⟩
  | ireturn =>
    obtain ⟨rfl, x, rfl, h0, hg⟩ := h
    exact hretI pc L b cs x hdg h0 hg hlen ls H locs hl hH hz hS
  | areturn =>
    obtain ⟨rfl, x, rfl, h0, hg⟩ := h
    exact hretA pc L b cs x hdg h0 hg hlen ls H locs hl hH hz hS
  | return_ =>
    obtain ⟨rfl, rfl, h0, hg⟩ := h
    exact hretV pc L b cs hdg h0 hg hlen ls H locs hl hH hz hS
  | _ => exact False.elim h
end TM
