/-! ===== String(StringBuilder), toString; a builder's calls from a frame ===== -/
section RA
variable {p : Program} {l : Launch} {e : Env} {R : Room} {s : State} {m : MethodId} {args : Array Value} {below : List Frame} {meth : Method} {c : Code} {Q : State → Prop} {cc : ByteArray} {nL cells slots : Nat} {own : String} {H : Heap} {locs : List Loc}
theorem run_after {mc ms pc : Nat} {rv : Option Value} {A : Nat → Prop} {Φ : Heap → Prop} {Qa : State → Outcome → State → Prop} {ls : Array Slot} {st0 rest : List Value} (hr : va_Run p l e R s m args below meth c H locs cells slots mc ms (F0 m pc ls st0) rest Qa A) (hQ : ∀ st v t, st.heap = H → Qa st (.returned v) t → v = rv ∧ Φ t.heap ∧ va_F A st t)
    (kk : ∀ (H1 : Heap) (locs1 : List Loc), Φ H1 → H.size ≤ H1.size → (∀ q : Nat, q < H.size → ¬ A q → H1[q]? = H[q]?) → (∀ q ∈ locs1, q ∈ locs ∨ A q.base) → W p l e R s m args below meth c H1 locs1 (cells + mc) (slots + ms) Q (F0 m (pc + 3) ls (rv.toList ++ rest))) : W p l e R s m args below meth c H locs cells slots Q (F0 m pc ls st0) := by
  intro T hT X
  obtain ⟨v, st₀, t, T', L2, h0, X', hL, e1, e2, hq, st⟩ := hr T hT X
  obtain ⟨rfl, hb2, hz, hk2⟩ := hQ _ _ _ h0 hq
  rw [h0] at hz hk2
  obtain ⟨t2, a1, b1⟩ := kk T'.heap (locs ++ L2) (by rw [e1]; exact hb2) (by rw [e1]; exact hz) (fun q h1 h2 => by rw [e1]; exact hk2 q h1 h2) (fun q hq => by
      rcases List.mem_append.mp hq with h | h
      · exact Or.inl h
      · exact Or.inr (hL q h)) T' rfl X'
  exact ⟨t2, st t2 a1, b1⟩
theorem run_any {mc ms pc : Nat} {A : Nat → Prop} {Φ : Value → Heap → Prop} {Qa : State → Outcome → State → Prop} {ls : Array Slot} {st0 rest : List Value} (hr : va_Run p l e R s m args below meth c H locs cells slots mc ms (F0 m pc ls st0) rest Qa A) (hQ : ∀ st v t, st.heap = H → Qa st (.returned v) t → ∃ rv, v = some rv ∧ Φ rv t.heap ∧ va_F A st t)
    (kk : ∀ (rv : Value) (H1 : Heap) (locs1 : List Loc), Φ rv H1 → H.size ≤ H1.size → (∀ q : Nat, q < H.size → ¬ A q → H1[q]? = H[q]?) → (∀ q ∈ locs1, q ∈ locs ∨ A q.base) → W p l e R s m args below meth c H1 locs1 (cells + mc) (slots + ms) Q (F0 m (pc + 3) ls (rv :: rest))) : W p l e R s m args below meth c H locs cells slots Q (F0 m pc ls st0) := by
  intro T hT X
  obtain ⟨v, st₀, t, T', L2, h0, X', hL, e1, e2, hq, st⟩ := hr T hT X
  obtain ⟨rv, rfl, hb2, hz, hk2⟩ := hQ _ _ _ h0 hq
  rw [h0] at hz hk2
  obtain ⟨t2, a1, b1⟩ := kk rv T'.heap (locs ++ L2) (by rw [e1]; exact hb2) (by rw [e1]; exact hz) (fun q h1 h2 => by rw [e1]; exact hk2 q h1 h2) (fun q hq => by
      rcases List.mem_append.mp hq with h | h
      · exact Or.inl h
      · exact Or.inr (hL q h)) T' rfl X'
  exact ⟨t2, st t2 a1, b1⟩
end RA
theorem i2_blind (E : cEnv) (q : xA) (as a v n m : Nat) (ml : Int32) (f : Nat → Int32) (av : List Value) : FrameBlind (va_Pc av (i2Pre E q as a v n m ml f)) := by
  intro a0 U g mk h
  obtain ⟨q0, q1, q2, q3, q4⟩ := h
  exact ⟨q0, q1, va_K.moved (u := U) (U := U.calling g mk a0) (Vm.Alike.refl U.vm) q2, pNw.same (s := U) (U := U.calling g mk a0) rfl q3, xFx_any (u := U) (U := U.calling g mk a0) (Vm.Alike.refl U.vm) (fun _ _ h => vk_R.same (u := U) (U := U.calling g mk a0) rfl h) q4⟩
theorem met_init1 {l : Launch} {E : cEnv} (hE : cOkE E) {q : xA} {as a v n m : Nat} {ml : Int32} {f : Nat → Int32} {t : Nat → Nat} (hnm : n < m) (hm : m ≤ 65536) (hn : n ≤ 100) (hL : sb_Lat t n f) (hf : sb_Fit f) : Met l yJ0_init_81219 (Cond.code yJ0_init_81219 cJ0_init_81219 2 none :: tb) (cRm 6 1 100) (va_Pc [.ref as, .ref a] (i2Pre E q as a v n m ml f)) (i2Post E as n t) 1 100 (cFree E) := by
  refine Met.ofW (cc := cJ0_init_81219) (maxL := 2) (ret := none) (by decide +kernel) rfl ?_
  intro p e s m0 args below meth c s₁ B hml hv
  obtain ⟨rfl, ⟨hP, hD, hb0⟩, hK, hnw, hfx⟩ := hv
  have hts : ∀ w ∈ tb, w.before ([.ref as, .ref a] : List Value).toArray s = true := fun w hw => atoms_spec (ws := Cond.code yJ0_init_81219 cJ0_init_81219 2 none :: tb) B.pre w (List.mem_cons_of_mem _ hw)
  have hr := B.returns
  have hx := B.exec
  have hb := B.bytes
  have hlocks := B.notSynchronized
  have hown : s.vm.findClass RJ0 = some m0.cls := findClass_of_methodNamed B.named
  rw [lg_entry_eq]
  have hent := lv_entry ([.ref as, .ref a] : List Value) (n := 2) (Nat.le_of_ble_eq_true rfl)
  generalize (lg_sl ([.ref as, .ref a] : List Value) ++ List.replicate (2 - (lg_sl ([.ref as, .ref a] : List Value)).length) Slot.unset).toArray = ls at hent ⊢
  have hl : lv_has ls 2 [(0, .ref as), (1, .ref a)] := lv_sub hent [0, 1] rfl
  refine lv_aload_n hx hb dJ0_init_81219_0 rfl (lv_at hl 0 rfl) ?_
  refine lv_aload_n hx hb dJ0_init_81219_1 rfl (lv_at hl 1 rfl) ?_
  refine lv_null hx hb dJ0_init_81219_2 ?_
  refine W.eq (g2 := F0 m0 3 ls (([.ref a, .null] : List Value).reverse ++ .ref as :: [])) rfl ?_
  have hrun := va_runI (R := (headSpec (Cond.code yJ0_init_81219 cJ0_init_81219 2 none :: tb) (cRm 6 1 100)).room) (l := l) (e := e) (below := below) (meth := meth) (b := as) (As := [.ref a, .null]) (rest := []) (H := s.heap) (locs := []) (cells := 0) (slots := 0) (g := F0 m0 3 ls (([.ref a, .null] : List Value).reverse ++ .ref as :: [])) ⟨hx, hb, hml, hown, hts⟩ (met_init2 (l := l) (q := q) (as := as) (a := a) (v := v) (ml := ml) hE hnm hm hn hL hf) ⟨callB_of 2 hts (tbl_goodIn fun w hw => (List.mem_cons.mp hw).elim (fun z => z ▸ jq_yJ0_init_db425) id) rfl rfl rfl (hts _ je_sini) (hts _ je_489) jy_yJ0_init_db425 ⟨Nat.le_of_ble_eq_true rfl, Nat.le_of_ble_eq_true rfl⟩, rfl, hts _ je_489i⟩ ⟨i2_blind E q as a v n m ml f _, fun U hU hW => ⟨rfl, by rw [hU]; exact ⟨hP, hD, hb0⟩, va_K.moved hW.alike hK, hnw.warm hW, by rw [hU]; exact xFx_warm hW hfx⟩⟩ rfl rfl hl.1 rfl (lv_room (by decide)) dJ0_init_81219_3 ⟨Nat.le_refl _, Nat.le_refl _⟩
  refine run_after (Φ := sW E as n t) (rv := none) hrun (fun st v t h0 hq => ⟨by have := hq.1; injection this, hq.2.1, hq.2.2⟩) (fun H1 locs1 hH1 hz1 hk1 hl1 => ?_)
  have hS1 : va_S (cFree E) s.heap H1 locs1 := va_S.rf.after hz1 hk1 hl1
  exact W.widen (Nat.le_of_ble_eq_true rfl) (Nat.le_of_ble_eq_true rfl) (W.vret (Qc := i2Post E as n t) hx hb hr (fun u hu _ => ⟨rfl, by rw [hu]; exact hH1, hS1.F hu⟩) hS1.2.2 dJ0_init_81219_6 hlocks)
/-- a builder stands at a: its m bytes hold the text p -/
def bHp (E : cEnv) (a m : Nat) (p : (Nat → Nat) × Nat) (H : Heap) : Prop := ∃ (v : Nat) (ml : Int32) (f : Nat → Int32), va_P E.2.1 classes [(a, bEn v ml p.2), (v, yEn E m f)] H ∧ va_D (cFree E) [(a, bEn v ml p.2), (v, yEn E m f)] ∧ E.1 ≤ H.size ∧ sb_Lat p.1 p.2 f ∧ sb_Fit f
def bPre (E : cEnv) (q : xA) (a m : Nat) (p : (Nat → Nat) × Nat) (U : State) : Prop := bHp E a m p U.heap ∧ va_K E.2.1 classes E.2.2.2 U ∧ pNw U ∧ xFx E q U U.heap
theorem b_blind (E : cEnv) (q : xA) (a m : Nat) (p : (Nat → Nat) × Nat) (av : List Value) : FrameBlind (va_Pc av (bPre E q a m p)) := by
  intro a0 U g mk h
  obtain ⟨q0, q1, q2, q3, q4⟩ := h
  exact ⟨q0, q1, va_K.moved (u := U) (U := U.calling g mk a0) (Vm.Alike.refl U.vm) q2, pNw.same (s := U) (U := U.calling g mk a0) rfl q3, xFx_any (u := U) (U := U.calling g mk a0) (Vm.Alike.refl U.vm) (fun _ _ h => vk_R.same (u := U) (U := U.calling g mk a0) rfl h) q4⟩
def tsPost (E : cEnv) (p : (Nat → Nat) × Nat) : Array Value → State → Outcome → State → Prop := fun _ st oc u => ∃ as : Nat, oc = .returned (some (.ref as)) ∧ sW E as p.2 p.1 u.heap ∧ va_F (cFree E) st u
set_option maxHeartbeats 1000000 in
theorem met_toStr {l : Launch} {E : cEnv} (hE : cOkE E) {q : xA} {a m : Nat} {tx : (Nat → Nat) × Nat} (hnm : tx.2 < m) (hm : m ≤ 65536) (hn : tx.2 ≤ 100) : Met l yJ4_toString_0e30d (Cond.code yJ4_toString_0e30d cJ4_toString_0e30d 1 (some (.object "java/lang/String")) :: tb) (cRm 7 2 104) (va_Pc [.ref a] (bPre E q a m tx)) (tsPost E tx) 2 104 (cFree E) := by
  refine Met.ofW (cc := cJ4_toString_0e30d) (maxL := 1) (ret := some (.object "java/lang/String")) (by decide +kernel) rfl ?_
  intro p e s m0 args below meth c s₁ B hml hv
  obtain ⟨rfl, ⟨v, ml, f, hP, hD, hb0, hL, hf⟩, hK, hnw, hfx⟩ := hv
  have hts : ∀ w ∈ tb, w.before ([.ref a] : List Value).toArray s = true := fun w hw => atoms_spec (ws := Cond.code yJ4_toString_0e30d cJ4_toString_0e30d 1 (some (.object "java/lang/String")) :: tb) B.pre w (List.mem_cons_of_mem _ hw)
  have hr := B.returns
  have hx := B.exec
  have hb := B.bytes
  have hlocks := B.notSynchronized
  have hown : s.vm.findClass RJ4 = some m0.cls := findClass_of_methodNamed B.named
  rw [lg_entry_eq]
  have hent := lv_entry ([.ref a] : List Value) (n := 1) (Nat.le_of_ble_eq_true rfl)
  generalize (lg_sl ([.ref a] : List Value) ++ List.replicate (1 - (lg_sl ([.ref a] : List Value)).length) Slot.unset).toArray = ls at hent ⊢
  have hl : lv_has ls 1 [(0, .ref a)] := lv_sub hent [0] rfl
  refine va_new hx hb hts ck14.2.1 tyJ0 tyJ0_ok hown (hts _ je_18) (hts _ je_sin) (hts _ je_sini) hK hP hD va_S.rf (fun q0 h => Nat.le_trans hb0 h) ck14.1 (fs := [.null, .int 0, .int 0, .int 0]) (fun j hj => ?_) (Nat.le_of_ble_eq_true rfl) (Nat.le_of_ble_eq_true rfl) dJ4_toString_0e30d_0 (fun as H1 hP1 hD1 hS1 => ?_)
  · match j, hj with
    | 0, _ => rfl
    | 1, _ => rfl
    | 2, _ => rfl
    | 3, _ => rfl
  refine lv_dup hx hb dJ4_toString_0e30d_3 rfl ?_
  refine lv_aload_n hx hb dJ4_toString_0e30d_4 rfl (lv_at hl 0 rfl) ?_
  have hpre : i2Pre E q as a v tx.2 m ml f { s with heap := H1 } := ⟨⟨hP1.sub [2, 0, 1] rfl, hD1.sub [2, 0, 1] rfl rfl, Nat.le_trans hb0 hS1.1⟩, va_K.moved (u := s) (U := { s with heap := H1 }) (Vm.Alike.refl s.vm) hK, pNw.same (s := s) (U := { s with heap := H1 }) rfl hnw, xFx_any (u := s) (U := { s with heap := H1 }) (Vm.Alike.refl s.vm) (fun _ _ h => vk_R.same (u := s) (U := { s with heap := H1 }) rfl h) (xFx_kept hfx hS1.2.1)⟩
  obtain ⟨⟨hPa, hDa, hba⟩, -, -, hfx1⟩ := hpre
  refine W.eq (g2 := F0 m0 5 ls (([.ref a] : List Value).reverse ++ .ref as :: [.ref as])) rfl ?_
  have hrun := va_runI (R := (headSpec (Cond.code yJ4_toString_0e30d cJ4_toString_0e30d 1 (some (.object "java/lang/String")) :: tb) (cRm 7 2 104)).room) (l := l) (e := e) (below := below) (meth := meth) (b := as) (As := [.ref a]) (rest := [.ref as]) (H := H1) (locs := []) (cells := 0 + 1) (slots := 0 + 4) (g := F0 m0 5 ls (([.ref a] : List Value).reverse ++ .ref as :: [.ref as])) ⟨hx, hb, hml, hown, hts⟩ (met_init1 (l := l) (q := q) (as := as) (a := a) (v := v) (ml := ml) hE hnm hm hn hL hf) ⟨callB_of 1 hts (tbl_goodIn fun w hw => (List.mem_cons.mp hw).elim (fun z => z ▸ jq_yJ0_init_81219) id) rfl rfl rfl (hts _ je_sini) (hts _ je_137) jy_yJ0_init_81219 ⟨Nat.le_of_ble_eq_true rfl, Nat.le_of_ble_eq_true rfl⟩, rfl, hts _ je_137i⟩ ⟨i2_blind E q as a v tx.2 m ml f _, fun U hU hW => ⟨rfl, by rw [hU]; exact ⟨hPa, hDa, hba⟩, va_K.moved hW.alike hK, hnw.warm hW, by rw [hU]; exact xFx_warm hW (xFx_kept hfx hS1.2.1)⟩⟩ rfl rfl hl.1 rfl (lv_room (Nat.le_of_ble_eq_true rfl)) dJ4_toString_0e30d_5 ⟨Nat.le_of_ble_eq_true rfl, Nat.le_of_ble_eq_true rfl⟩
  refine run_after (Φ := sW E as tx.2 tx.1) (rv := none) hrun (fun st v t h0 hq => ⟨by have := hq.1; injection this, hq.2.1, hq.2.2⟩) (fun H2 locs2 hH2 hz2 hk2 hl2 => ?_)
  have hS2 : va_S (cFree E) s.heap H2 locs2 := hS1.after hz2 hk2 hl2
  exact W.widen (Nat.le_of_ble_eq_true rfl) (Nat.le_of_ble_eq_true rfl) (W.aret (Qc := tsPost E tx) hx hb hr (rt := .object "java/lang/String") (Or.inl ⟨_, rfl⟩) (Or.inr ⟨_, rfl⟩) (fun u hu _ => ⟨as, rfl, by rw [hu]; exact hH2, hS2.F hu⟩) hS2.2.2 dJ4_toString_0e30d_8 hlocks)
