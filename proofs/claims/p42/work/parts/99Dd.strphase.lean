/-! ===== one text: from a new builder to its String ===== -/
abbrev Tx : Type := (Nat → Nat) × Nat
def txD (p : Tx) (w : Nat) : Tx := (sb_cat p.1 p.2 (sb_dec w), p.2 + sb_dg w)
def txS (p t : Tx) : Tx := (sb_cat p.1 p.2 t.1, p.2 + t.2)
/-- a String that was made stands -/
theorem sStr_of {E : cEnv} {U : State} {args : Array Value} {H : Heap} {as n : Nat} {t : Nat → Nat} (hts : ∀ w ∈ tb, w.before args U = true) (hE : cOkE E) (hK : va_K E.2.1 classes E.2.2.2 U) (h : sW E as n t H) : ∃ v2 : Nat, as < H.size ∧ v2 < H.size ∧ E.1 ≤ as ∧ E.1 ≤ v2 ∧ ∀ A : Nat → Prop, ¬ A as → ¬ A v2 → sStr as v2 n t A U H := by
  obtain ⟨v2, g, hP, hD, hL, hf⟩ := h
  have a0 := hP 0 _ rfl
  have a1 : H[v2]? = some (vp_cell E.2.2.1.2.1 (n, .inl g)) := hP 1 _ rfl
  obtain ⟨r, h1, cell, q1, q2, q3, q4⟩ := a0
  have hr : r = (RJ0, TJ0, 4) := Option.some.inj (h1.symm.trans ck14.1)
  subst hr
  obtain ⟨hSl, hfc, kC, hkC, hkind⟩ := hK.1 14 _ ck14.1
  have hv : cell.vm ≠ .unknown := by rw [q3]; exact fun z => by cases z
  refine ⟨v2, (Array.getElem?_eq_some_iff.mp q1).1, (Array.getElem?_eq_some_iff.mp a1).1, hD.2 0 _ rfl, hD.2 1 _ rfl, fun A n1 n2 => ⟨⟨cell, q1, by rw [q3]; rfl, by rw [q2]; exact hfc, n1⟩, ?_, ?_, ?_⟩⟩
  · obtain ⟨cf, kf, fi, f, hi, hsl⟩ := hSl 1 (by decide)
    exact ⟨cf, kf, fi, f, cell, hi, (u_facts hfc hkC (u_lays hts ck14.2.1 (k := 1) (by decide)) hi).1, q1, hv, by rw [hsl]; exact q4 1 (by decide), n1⟩
  · obtain ⟨cf, kf, fi, f, hi, hsl⟩ := hSl 0 (by decide)
    exact ⟨cf, kf, fi, f, cell, hi, (u_facts hfc hkC (u_lays hts ck14.2.1 (k := 0) (by decide)) hi).1, q1, hv, by rw [hsl]; exact q4 0 (by decide), n1⟩
  · have hvm : (vp_cell E.2.2.1.2.1 (n, .inl g)).vm = .none := rfl
    refine ⟨_, a1, (hK.2 1 _ hE.2.1).1 n _, (by rw [hvm]; exact fun z => (by cases z)), ?_, ?_, fun j hj => ?_, n2⟩
    · rw [vp_cell_i, arrV_size]
      exact Nat.le_refl _
    · rw [vp_cell_i, arrV_size]
    · rw [vp_cell_i, arrV_read _ _ hj, (hL j hj).2]
/-- within one text: what was before the builder is as it was -/
def aPh (E0 E : cEnv) (s : State) (Hst H : Heap) (locs : List Loc) (a m : Nat) (p : Tx) : Prop := va_S (cFree E0) s.heap H locs ∧ va_S (cFree E) Hst H [] ∧ bHp E a m p H
section PH
variable {p : Program} {l : Launch} {e : Env} {R : Room} {s : State} {m : MethodId} {args : Array Value} {below : List Frame} {meth : Method} {c : Code} {Q : State → Prop} {cc : ByteArray} {nL cells slots : Nat} {own : String} {H Hst : Heap} {locs : List Loc} {E0 E : cEnv} {q : xA}
/-- the frame's own facts -/
def aCx (p : Program) (s : State) (m : MethodId) (args : Array Value) (c : Code) (E : cEnv) (own : String) (cc : ByteArray) (nL : Nat) : Prop := p.tables.exec = Jvm.exec ∧ c.code = cc ∧ c.maxLocals = nL ∧ s.vm.findClass own = some m.cls ∧ (∀ w ∈ tb, w.before args s = true) ∧ va_K E.2.1 classes E.2.2.2 s ∧ pNw s ∧ cOkE E
theorem s_appI {a pc w k : Nat} {tx : Tx} {ls : Array Slot} {rest : List Value} (C : aCx p s m args c E own cc nL) (hE0 : E0.1 ≤ E.1) (hfx : xFx E q s Hst) (h : aPh E0 E s Hst H locs a k tx) (hsz1 : ls.size = nL) (hd : decode cc pc = .ok (.invokevirtual 30, 3)) (hown : own = RL) (hk : k ≤ 65536) (hn : tx.2 + sb_dg w ≤ k) (hw : w < 1000000) (hsz : (rest.map fun v => v.category).sum ≤ 8) (hdR : 7 ≤ R.frames) (hlR : 279 ≤ R.locals) (hc : cells ≤ R.cells) (hs : slots ≤ R.slots)
    (kk : ∀ (H1 : Heap) (locs1 : List Loc), aPh E0 E s Hst H1 locs1 a k (txD tx w) → W p l e R s m args below meth c H1 locs1 cells slots Q (F0 m (pc + 3) ls (.ref a :: rest))) : W p l e R s m args below meth c H locs cells slots Q (F0 m pc ls (.int (nI w) :: .ref a :: rest)) := by
  subst hown
  obtain ⟨hx, hb, hml, hown, hts, hK, hnw, hE⟩ := C
  obtain ⟨hS, hPh, v, ml, f, hP, hD, hb0, hL, hf⟩ := h
  have hfxH := xFx_kept hfx hPh.2.1
  have hok : tOk (xE E q [] a v 0 (q.2.1 0) (q.2.2 0) 1 (fun _ => xB 0)) := hE.2.1
  obtain ⟨A, hrun, hL2, hf2⟩ := tm_appendI (l := l) hok (c := pI ml) hk hn hL hf hw
  have hH : tHp (xE E q [] a v 0 (q.2.1 0) (q.2.2 0) 1 (fun _ => xB 0)) (tB 0 (pI ml) (pI (nI tx.2)) [.inl (k, f)]) H := ⟨hP, hD, hb0⟩
  refine W.eq (g2 := F0 m pc ls ((([pI (nI w)] : List pV).map (pv (xE E q [] a v 0 (q.2.1 0) (q.2.2 0) 1 (fun _ => xB 0)).1)).reverse ++ .ref ((xE E q [] a v 0 (q.2.1 0) (q.2.2 0) 1 (fun _ => xB 0)).1 0) :: rest)) rfl ?_
  exact tq_V hx hb hml hown hts hK hnw (xE_fx hfxH (hfxH.2.2.2.2.2 0 (by decide)).2) hH (fun h => by cases h) hsz1 hd jc_L_30 (Or.inl ⟨rfl, _, rfl⟩) rfl hsz hrun hdR hlR hc hs (fun H1 locs1 hH1 hz1 hk1 hl1 => kk H1 locs1 ⟨hS.after hz1 (fun q0 g1 g2 => hk1 q0 g1 fun z => g2 (Nat.le_trans hE0 z)) (fun q0 hq => (hl1 q0 hq).imp id fun z => Nat.le_trans hE0 z), hPh.after hz1 hk1 (fun q0 hq => by cases hq), v, ml, A, hH1.1, hH1.2.1, hH1.2.2, hL2, hf2⟩)
theorem s_appS {a pc k sa sv : Nat} {tx t : Tx} {ls : Array Slot} {rest : List Value} (C : aCx p s m args c E own cc nL) (hE0 : E0.1 ≤ E.1) (hfx : xFx E q s Hst) (h : aPh E0 E s Hst H locs a k tx) (hstr : sStr sa sv t.2 t.1 (cFree E) s Hst) (hsz1 : ls.size = nL) (hd : decode cc pc = .ok (.invokevirtual 36, 3)) (hown : own = RL) (hk : k ≤ 65536) (hn : tx.2 + t.2 ≤ k) (ht : t.2 ≤ 46) (ht2 : ∀ j, j < t.2 → t.1 j < 256) (hsz : (rest.map fun v => v.category).sum ≤ 8) (hdR : 7 ≤ R.frames) (hlR : 279 ≤ R.locals) (hc : cells ≤ R.cells) (hs : slots ≤ R.slots)
    (kk : ∀ (H1 : Heap) (locs1 : List Loc), aPh E0 E s Hst H1 locs1 a k (txS tx t) → W p l e R s m args below meth c H1 locs1 cells slots Q (F0 m (pc + 3) ls (.ref a :: rest))) : W p l e R s m args below meth c H locs cells slots Q (F0 m pc ls (.ref sa :: .ref a :: rest)) := by
  subst hown
  obtain ⟨hx, hb, hml, hown, hts, hK, hnw, hE⟩ := C
  obtain ⟨hS, hPh, v, ml, f, hP, hD, hb0, hL, hf⟩ := h
  have hfxH := xFx_kept hfx hPh.2.1
  have hok : tOk (xE E q [] a v 0 sa sv t.2 t.1) := hE.2.1
  obtain ⟨A, hrun, hL2, hf2⟩ := tm_appendS (l := l) hok (c := pI ml) (s := t.1) hk (show t.2 ≤ 46 from ht) (show tx.2 + t.2 ≤ k from hn) hL hf (fun j hj => ⟨ht2 j hj, rfl⟩) (fun j => sb_fitB _)
  have hH : tHp (xE E q [] a v 0 sa sv t.2 t.1) (tB 0 (pI ml) (pI (nI tx.2)) [.inl (k, f)]) H := ⟨hP, hD, hb0⟩
  refine W.eq (g2 := F0 m pc ls ((([pR 50] : List pV).map (pv (xE E q [] a v 0 sa sv t.2 t.1).1)).reverse ++ .ref ((xE E q [] a v 0 sa sv t.2 t.1).1 0) :: rest)) rfl ?_
  exact tq_V hx hb hml hown hts hK hnw (xE_fx hfxH (hstr.kept hPh.2.1)) hH (fun h => by cases h) hsz1 hd jc_L_36 (Or.inl ⟨rfl, _, rfl⟩) rfl hsz hrun hdR hlR hc hs (fun H1 locs1 hH1 hz1 hk1 hl1 => kk H1 locs1 ⟨hS.after hz1 (fun q0 g1 g2 => hk1 q0 g1 fun z => g2 (Nat.le_trans hE0 z)) (fun q0 hq => (hl1 q0 hq).imp id fun z => Nat.le_trans hE0 z), hPh.after hz1 hk1 (fun q0 hq => by cases hq), v, ml, A, hH1.1, hH1.2.1, hH1.2.2, hL2, hf2⟩)
theorem s_toStr {a pc k : Nat} {tx : Tx} {ls : Array Slot} {rest : List Value} (C : aCx p s m args c E own cc nL) (hE0 : E0.1 ≤ E.1) (hfx : xFx E q s Hst) (h : aPh E0 E s Hst H locs a k tx) (hsz1 : ls.size = nL) (hd : decode cc pc = .ok (.invokevirtual 39, 3)) (hown : own = RL) (hk : k ≤ 65536) (hn : tx.2 < k) (ht : tx.2 ≤ 100) (hsz : (rest.map fun v => v.category).sum ≤ 8) (hdR : 8 ≤ R.frames) (hlR : 319 ≤ R.locals) (hc : cells + 2 ≤ R.cells) (hs : slots + 104 ≤ R.slots)
    (kk : ∀ (as : Nat) (H1 : Heap) (locs1 : List Loc), sW E as tx.2 tx.1 H1 → va_S (cFree E0) s.heap H1 locs1 → va_S (cFree E) Hst H1 [] → W p l e R s m args below meth c H1 locs1 (cells + 2) (slots + 104) Q (F0 m (pc + 3) ls (.ref as :: rest))) : W p l e R s m args below meth c H locs cells slots Q (F0 m pc ls (.ref a :: rest)) := by
  subst hown
  obtain ⟨hx, hb, hml, hown, hts, hK, hnw, hE⟩ := C
  obtain ⟨hS, hPh, hB⟩ := h
  have hfxH := xFx_kept hfx hPh.2.1
  obtain ⟨w1, w2, w3, w4, hy⟩ := jc_L_39
  have hsel : (Cond.selects RJ4 yJ4_toString_0e30d yJ4_toString_0e30d).before args s = true := by
    rcases w3 with w3 | ⟨hp, x0, y0, w3, hc⟩
    · exact hts _ w3
    · exact absurd hp (by decide)
  obtain ⟨v, ml, f, hP, hD, hb0, hL, hf⟩ := id hB
  have hrun := va_runV (R := R) (l := l) (e := e) (below := below) (meth := meth) (b := a) (C := RJ4) (As := []) (rest := rest) (H := H) (locs := locs) (cells := cells) (slots := slots) (g := F0 m pc ls (.ref a :: rest)) ⟨hx, hb, hml, hown, hts⟩ (met_toStr (l := l) (q := q) (a := a) hE hn hk ht) ⟨callB_of 0 hts (tbl_goodIn fun w hw => (List.mem_cons.mp hw).elim (fun z => z ▸ jq_yJ4_toString_0e30d) id) rfl rfl rfl (hts _ w4) (hts _ w1) hy ⟨hdR, by show 8 + (1 + 11) + 40 * 7 ≤ _; omega⟩, hts _ w2, hsel⟩ ⟨b_blind E q a k tx _, va_recv hK hP (ci := 13) (q := (RJ4, TJ4, 4)) (q0 := 0) rfl rfl, fun U hU hW => ⟨rfl, by rw [hU]; exact hB, va_K.moved hW.alike hK, hnw.warm hW, by rw [hU]; exact xFx_warm hW hfxH⟩⟩ rfl rfl hsz1 rfl (lv_room hsz) hd ⟨hc, hs⟩
  refine run_any (Φ := fun rv H1 => ∃ as, rv = .ref as ∧ sW E as tx.2 tx.1 H1) hrun (fun st v t h0 hq => by
    obtain ⟨as, h1, h2, h3⟩ := hq
    injection h1 with h1
    exact ⟨_, h1, ⟨as, rfl, h2⟩, h3⟩) (fun rv H1 locs1 hΦ hz1 hk1 hl1 => ?_)
  obtain ⟨as, rfl, hsw⟩ := hΦ
  exact kk as H1 locs1 hsw (hS.after hz1 (fun q0 g1 g2 => hk1 q0 g1 fun z => g2 (Nat.le_trans hE0 z)) (fun q0 hq => (hl1 q0 hq).imp id fun z => Nat.le_trans hE0 z)) (hPh.after hz1 hk1 (fun q0 hq => by cases hq))
theorem s_new {pc : Nat} {ls : Array Slot} {rest : List Value} (C : aCx p s m args c E own cc nL) (hE0 : E0.1 ≤ E.1) (hEs : E.1 = H.size) (hst : cSt E s H) (hS : va_S (cFree E0) s.heap H locs) (hsz1 : ls.size = nL) (hd : decode cc pc = .ok (.new 27, 3)) (hd2 : decode cc (pc + 3) = .ok (.dup, 1)) (hd3 : decode cc (pc + 3 + 1) = .ok (.invokespecial 29, 3)) (hown : own = RL) (hsz : (rest.map fun v => v.category).sum + 1 ≤ 8) (hdR : 3 ≤ R.frames) (hlR : 119 ≤ R.locals) (hc : cells + 2 ≤ R.cells) (hs : slots + 20 ≤ R.slots)
    (kk : ∀ (H1 : Heap) (locs1 : List Loc), aPh E0 E s H H1 locs1 E.1 16 (fun _ => 0, 0) → W p l e R s m args below meth c H1 locs1 (cells + 2) (slots + 20) Q (F0 m (pc + 7) ls (.ref E.1 :: rest))) : W p l e R s m args below meth c H locs cells slots Q (F0 m pc ls rest) := by
  subst hown
  obtain ⟨hx, hb, hml, hown, hts, hK, hnw, hE⟩ := C
  have hKn := hK.1 13 _ ck13.1
  refine W.newcK hx hb hown (hts _ je_27) (hts _ je_bin) (hts _ je_bini) rfl hd (by omega) (by omega) hKn.2.1 (show H.size = E.1 from hEs.symm) fun H1 kC hkC e1 z1 o1 => ?_
  have hP0 : va_P E.2.1 classes (cWl E 0 []) H := fun k q hk => by simp [cWl] at hk
  have hH1 : cHp E ([] ++ [.inr (13, [none, some (pI 0), some (pI 0), some (pI 0)])]) H1 := cHp_new hP0 (by rw [hEs]; rfl) (by rw [z1, hEs]) (fun q hq => o1 q (by omega)) (by
    refine ⟨_, ck13.1, (u_born tyJ4 hts ck13.2.1 hKn hkC e1 ck13.2.2.1).to fun j hj => ?_⟩
    match j, hj with
    | 0, _ => rfl
    | 1, _ => rfl
    | 2, _ => rfl
    | 3, _ => rfl)
  refine lv_dup hx hb hd2 rfl ?_
  obtain ⟨-, -, bytes, maxL, d', hcw, hmx, hdd, hM⟩ := mk_SB (l := l) hE []
  have hst1 : cSt E s H1 := va_Z.kept hst (fun a h1 h2 => o1 a (by omega))
  refine W.eq (g2 := F0 m (pc + 3 + 1) ls (([] : List Value).reverse ++ .ref E.1 :: .ref E.1 :: rest)) rfl ?_
  have hrun := va_runI (R := R) (l := l) (e := e) (below := below) (meth := meth) (b := E.1) (As := []) (rest := .ref E.1 :: rest) (H := H1) (locs := locs) (cells := cells + 1) (slots := slots + 4) (g := F0 m (pc + 3 + 1) ls (([] : List Value).reverse ++ .ref E.1 :: .ref E.1 :: rest)) ⟨hx, hb, hml, hown, hts⟩ hM ⟨callB_of 0 hts (tbl_goodIn fun w hw => (List.mem_cons.mp hw).elim (fun z => z ▸ hcw) id) rfl rfl rfl (hts _ je_bini) (hts _ je_29) jy_yJ4_init_da8c8 ⟨by show d' + 1 ≤ _; omega, by show 8 + (maxL + 11) + 40 * d' ≤ _; omega⟩, rfl, hts _ je_29i⟩ ⟨cPc_blind E _ _, fun U hU hW => ⟨rfl, by rw [hU]; exact hH1, va_K.moved hW.alike hK, hnw.warm hW, by rw [hU]; exact cSt_moved hW.alike hst1⟩⟩ rfl rfl hsz1 rfl (lv_room (by rw [List.map_cons, List.sum_cons]; show 1 + _ ≤ 8; omega)) hd3 ⟨by omega, by omega⟩
  refine run_after (Φ := cHp E ([] ++ blk_SB 0)) (rv := none) hrun (fun st v t h0 hq => ⟨by have := hq.1; injection this, hq.2.1, hq.2.2⟩) (fun H2 locs2 hH2 hz2 hk2 hl2 => ?_)
  have hz : H.size ≤ H1.size := by omega
  have ho : ∀ q0, q0 < H.size → H1[q0]? = H[q0]? := fun q0 h => o1 q0 (by omega)
  have hk3 : ∀ q0, q0 < H.size → ¬ cFree E q0 → H2[q0]? = H[q0]? := fun q0 g1 g2 => (hk2 q0 (by omega) g2).trans (ho q0 g1)
  refine kk H2 locs2 ⟨hS.after (by omega) (fun q0 g1 g2 => hk3 q0 g1 fun z => g2 (Nat.le_trans hE0 z)) (fun q0 hq => (hl2 q0 hq).imp id fun z => Nat.le_trans hE0 z), ⟨by omega, hk3, fun q0 hq => by cases hq⟩, E.1 + 1, 0, fun _ => 0, hH2.1, cWl_D E (blk_SB 0), by rw [hH2.2]; omega, fun j hj => absurd hj (Nat.not_lt_zero j), sb_fit0⟩
end PH
