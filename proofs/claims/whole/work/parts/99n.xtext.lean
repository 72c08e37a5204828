/-! ===== contracts with the builder ===== -/
def xPre (E : cEnv) (b : Nat) (q : xA) (As : List pV) (σ : pM) : Array Value → State → Prop := va_Pc (As.map (pv (E2 E b).1)) (fun U => pHp (E2 E b) σ U.heap ∧ va_K E.2.1 classes E.2.2.2 U ∧ pNw U ∧ xFx E q U U.heap)
def xRun (l : Launch) (E : cEnv) (b : Nat) (q : xA) (d mc ms : Nat) (y : MethodName) (As : List pV) (σ : pM) (P : va_W → Prop) (r : Option pV) : Prop :=
  ∃ (bytes : ByteArray) (maxL : Nat) (ret : Option FieldType), Cond.code y bytes maxL ret ∈ tb ∧ maxL ≤ 40 ∧ Met l y (Cond.code y bytes maxL ret :: tb) (cRm d mc ms) (xPre E b q As σ) (pQc (EP E b P) r σ) mc ms (cFree E)
theorem xPre_blind (E : cEnv) (b : Nat) (q : xA) (As : List pV) (σ : pM) : FrameBlind (xPre E b q As σ) := by
  intro a U g mk h
  obtain ⟨q0, q1, q2, q3, q4⟩ := h
  exact ⟨q0, q1, va_K.moved (u := U) (U := U.calling g mk a) (Vm.Alike.refl U.vm) q2, pNw.same (s := U) (U := U.calling g mk a) rfl q3, xFx_any (u := U) (U := U.calling g mk a) (Vm.Alike.refl U.vm) (fun _ _ h => vk_R.same (u := U) (U := U.calling g mk a) rfl h) q4⟩
theorem xFx_warm {E : cEnv} {q : xA} {s U : State} {H : Heap} (hW : s.WarmedH U.vm) (h : xFx E q s H) : xFx E q U H := xFx_any hW.alike (fun _ _ h => vk_R.warm hW h) h
section XT
variable {p : Program} {l : Launch} {e : Env} {R : Room} {s : State} {m : MethodId} {args : Array Value} {below : List Frame} {meth : Method} {c : Code} {Q : State → Prop} {cc : ByteArray} {nL d cells slots : Nat} {own : String}
theorem pG_callX {E : cEnv} {b dT mc ms k ci o idx pc : Nat} {q : xA} {y : MethodName} {As rest : List pV} {r : Option pV} {L : pLo} {σ : pM} {P : va_W → Prop} {scr : Option (Nat × Nat × (Nat → Int32))} (C : pCx p R s m args meth c (E2 E b) s.heap own cc nL d cells slots scr) (hfx : xFx E q s s.heap) (hd : decode cc pc = .ok (.invokevirtual idx, 3)) (hl0 : CLV own idx y k ci) (hcls : clsOf o = ci) (hk : As.length = k) (hsz : psz rest ≤ 8) (hr : xRun l E b q dT mc ms y (pR o :: As) σ P r) (hd1 : dT + 1 ≤ R.frames) (hd2 : 8 + 51 + 60 * dT ≤ R.locals) (hc : cells + mc ≤ R.cells) (hs : slots + ms ≤ R.slots)
    (hg : pG p l e R s m args below meth c Q (EP E b P) s.heap nL (cells + mc) (slots + ms) (pc + 3) (L, r.toList ++ rest, σ)) : pG p l e R s m args below meth c Q (E2 E b) s.heap nL cells slots pc (L, As.reverse ++ pR o :: rest, σ) := by
  obtain ⟨hx, hb, hml, hown, hts, hK, -, -, -, -, -, -, hnw, -⟩ := C
  obtain ⟨w1, w2, w3, w4, hy, hci, T, N, hcl⟩ := hl0
  obtain ⟨fs, ho⟩ := clsOf_spec hcls hci
  obtain ⟨bytes, maxL, ret, hcw, hmx, hM⟩ := hr
  intro hlen ls H locs hl hH hS
  obtain ⟨w, hwok, hP, hD⟩ := id hH
  have hcall : CallW R s args own y.cls idx y bytes maxL ret (Cond.code y bytes maxL ret :: tb) (cRm dT mc ms) mc ms k :=
    ⟨callB_of k hts (tbl_goodIn fun w hw => (List.mem_cons.mp hw).elim (fun z => z ▸ hcw) id) rfl rfl rfl (hts _ w4) (hts _ w1) hy ⟨by show dT + 1 ≤ _; omega, by show 8 + (maxL + 11) + 60 * dT ≤ _; omega⟩, hts _ w2, hts _ w3⟩
  have hrun := va_runV (l := l) (e := e) (below := below) (meth := meth) (As := As.map (pv (E2 E b).1)) (rest := rest.map (pv (E2 E b).1)) (b := (E2 E b).1 o) (H := H) (locs := locs) (cells := cells) (slots := slots) (g := F0 m pc ls (List.map (pv (E2 E b).1) (As.reverse ++ pR o :: rest))) ⟨hx, hb, hml, hown, hts⟩ hM hcall ⟨xPre_blind E b q _ σ, va_recv hK hP (ci := ci) (q0 := o) hcl (pW_get ho), fun U hU hW => ⟨by simp [pv], by rw [hU]; exact hH, va_K.moved hW.alike hK, hnw.warm hW, by rw [hU]; exact xFx_warm hW (xFx_kept hfx (fun a h1 h2 => hS.2.1 a h1 h2))⟩⟩ rfl (by rw [List.length_map]; exact hk) hl.1 (by simp [pv]) (lv_room (by rw [psz_map]; exact hsz)) hd ⟨hc, hs⟩
  intro T0 hT X
  obtain ⟨v, st₀, t, T', L2, h0, X', hL, e1, e2, ⟨hv, hb2, hz, hk2⟩, st⟩ := hrun T0 hT X
  cases hv
  rw [h0] at hz hk2
  have hgo := hg hlen ls T'.heap (locs ++ L2) hl (by rw [e1]; exact hb2) ⟨Nat.le_trans hS.1 (by rw [e1]; exact hz), fun q h1 h2 => by rw [e1, hk2 q (Nat.lt_of_lt_of_le h1 hS.1) h2]; exact hS.2.1 q h1 h2, fun q hq => by
      rcases List.mem_append.mp hq with h | h
      · exact hS.2.2 q h
      · exact hL q h⟩
  rw [map_ret] at hgo
  obtain ⟨t2, a1, b1⟩ := hgo T' rfl X'
  exact ⟨t2, st t2 a1, b1⟩
end XT
theorem jq_tell : Cond.code yX6_tell cX6_tell 4 none ∈ tb := tb_at 829 (by decide +kernel) rfl
set_option maxHeartbeats 1000000 in
theorem tell_run {l : Launch} {E : cEnv} (hE : cOkE E) {b : Nat} {q : xA} {σ : pM} {j x0 x1 na : Nat} {st : Int32} {wf kf : Nat → Nat} {Tf : Nat → Tx} {TE : Tx} (hj : j < 80) (h0 : σ.1 8 j = nI x0) (r0 : x0 ≤ 7) (h1 : σ.1 9 j = nI x1) (r1 : x1 ≤ 9) (h2 : σ.1 12 j = nI na) (r2 : na ≤ 4) (h3 : σ.1 16 j = st) (hw : ∀ a, a < na → σ.1 21 (j * 4 + a) = nI (wf a) ∧ wf a < 100) (hk : ∀ a, a < na → σ.1 22 (j * 4 + a) = nI (kf a) ∧ kf a < 1000)
    (hT0 : Tf 0 = tCh (tNm (tSt3 (tNm (tSt3 (tNm (fun _ => 0, 0) j) 0) x0) 1) x1) 32) (hT : ∀ a, a < na → Tf (a + 1) = tNm (tCh (tNm (if a = 0 then Tf a else tCh (Tf a) 44) (wf a)) 120) (kf a)) (hTb : ∀ a, a ≤ na → (Tf a).2 ≤ 9 + 7 * a) (hTE : (st = -1 ∧ TE = Tf na) ∨ ∃ x6 : Nat, x6 < 1000000 ∧ st = nI x6 ∧ TE = tNm (tSt3 (Tf na) 2) x6) : xRun l E b q 7 25 2500 yX6_tell [pR 1, pI (nI j), pR 900] σ (TBp E TE) none := by
  refine ⟨cX6_tell, 4, none, jq_tell, by decide, Met.ofW (cc := cX6_tell) (maxL := 4) (ret := none) (by decide +kernel) rfl ?_⟩
  intro p e s m args below meth c s₁ B hml hv
  obtain ⟨rfl, hH, hK, hnw, hfx⟩ := hv
  have hts : ∀ w ∈ tb, w.before ([pR 1, pI (nI j), pR 900].map (pv (E2 E b).1)).toArray s = true := fun w hw => atoms_spec (ws := Cond.code yX6_tell cX6_tell 4 none :: tb) B.pre w (List.mem_cons_of_mem _ hw)
  have hr := B.returns
  have hx := B.exec
  have hb := B.bytes
  have hlocks := B.notSynchronized
  have C : pCx p (headSpec (Cond.code yX6_tell cX6_tell 4 none :: tb) (cRm 7 25 2500)).room s m ([pR 1, pI (nI j), pR 900].map (pv (E2 E b).1)).toArray meth c (E2 E b) s.heap RX6 cX6_tell 4 6 0 0 none :=
    ⟨hx, hb, hml, findClass_of_methodNamed B.named, hts, hK, hE, Nat.le_refl _, Nat.le_refl _, Nat.zero_le _, Nat.zero_le _, hlocks, hnw, fun a k xs z => by cases z⟩
  have hg := tell_G (l := l) (e := e) (below := below) (Q := MQ below (pQc (EP E b (TBp E TE)) none σ) ([pR 1, pI (nI j), pR 900].map (pv (E2 E b).1)).toArray s 25 2500 (cFree E)) C hfx (Nat.le_refl _) (by decide) (Nat.le_refl _) (Nat.le_refl _) hj h0 r0 h1 r1 h2 r2 h3 hw hk hT0 hT hTb hTE (fun L hlen ls H locs hl hH1 hS => W.vret hx hb hr (fun t ht _ => ⟨rfl, by rw [ht]; exact hH1, hS.F ht⟩) hS.2.2 dX6_tell_155 hlocks)
  rw [lg_entry_eq]
  have hent := lv_entry ([pR 1, pI (nI j), pR 900].map (pv (E2 E b).1)) (n := 4) (by rw [pEnt_len]; exact Nat.le_of_ble_eq_true rfl)
  refine hg rfl _ s.heap [] ?_ hH va_S.rf
  show lv_has _ 4 (pll (E2 E b).1 0 (pL0 [pR 1, pI (nI j), pR 900] 4))
  rw [pL0, pll_ent]
  exact hent
