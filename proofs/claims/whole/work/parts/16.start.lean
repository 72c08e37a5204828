/-! ===== from the law's entry to the pure statement ===== -/
/-- static things that no one writes: what a text is made with -/
def tSt (E : cEnv) (U : State) (H : Heap) : Prop := cSt E U H
def tPc (E : cEnv) (b : Nat) (As : List pV) (σ : pM) : Array Value → State → Prop := va_Pc (As.map (pv (E2 E b).1)) (fun U => pHp (E2 E b) σ U.heap ∧ va_K E.2.1 classes E.2.2.2 U ∧ pNw U ∧ tSt E U U.heap)
/-- a run that may make cells -/
def tRun (l : Launch) (E : cEnv) (b d mc ms : Nat) (y : MethodName) (As : List pV) (σ : pM) (r : Option pV) (σ' : pM) : Prop :=
  ∃ (bytes : ByteArray) (maxL : Nat) (ret : Option FieldType), Cond.code y bytes maxL ret ∈ tb ∧ maxL ≤ 40 ∧ Met l y (Cond.code y bytes maxL ret :: tb) (cRm d mc ms) (tPc E b As σ) (pQc (E2 E b) r σ') mc ms (cFree E)
theorem tSt_moved {E : cEnv} {u U : State} {H : Heap} (hvm : u.vm.Alike U.vm) (h : tSt E u H) : tSt E U H := cSt_moved hvm h
theorem tSt_kept {E : cEnv} {U : State} {H H1 : Heap} (h : tSt E U H) (hq : ∀ a : Nat, a < H.size → ¬ cFree E a → H1[a]? = H[a]?) : tSt E U H1 := va_Z.kept h hq
theorem tPc_blind (E : cEnv) (b : Nat) (As : List pV) (σ : pM) : FrameBlind (tPc E b As σ) := by
  intro a U g mk q
  obtain ⟨q0, q1, q2, q3, q4⟩ := q
  exact ⟨q0, q1, va_K.moved (u := U) (U := U.calling g mk a) (Vm.Alike.refl U.vm) q2, pNw.same (s := U) (U := U.calling g mk a) rfl q3, tSt_moved (u := U) (U := U.calling g mk a) (Vm.Alike.refl U.vm) q4⟩
section ST
variable {p : Program} {l : Launch} {e : Env} {R : Room} {s : State} {m : MethodId} {args : Array Value} {below : List Frame} {meth : Method} {c : Code} {Q : State → Prop} {cc : ByteArray} {nL d cells slots : Nat} {own : String}
theorem pG_widen {E : pEnv} {H0 : Heap} {pc c2 s2 : Nat} {st : pSt} (h1 : cells ≤ c2) (h2 : slots ≤ s2) (h : pG p l e R s m args below meth c Q E H0 nL c2 s2 pc st) : pG p l e R s m args below meth c Q E H0 nL cells slots pc st :=
  fun hlen ls H locs hl hH hS => W.widen (k := c2) (n := s2) h1 h2 (h hlen ls H locs hl hH hS)
theorem pG_callA {E : cEnv} {b dT mc ms k ci o idx pc : Nat} {y : MethodName} {As rest : List pV} {r : Option pV} {L : pLo} {σ σ' : pM} {scr : Option (Nat × Nat × (Nat → Int32))} (C : pCx p R s m args meth c (E2 E b) s.heap own cc nL d cells slots scr) (hst : tSt E s s.heap) (hd : decode cc pc = .ok (.invokevirtual idx, 3)) (hl0 : CLV own idx y k ci) (hcls : clsOf o = ci) (hk : As.length = k) (hsz : psz rest ≤ 8) (hr : tRun l E b dT mc ms y (pR o :: As) σ r σ') (hd1 : dT + 1 ≤ R.frames) (hd2 : 8 + 51 + 60 * dT ≤ R.locals) (hc : cells + mc ≤ R.cells) (hs : slots + ms ≤ R.slots)
    (hg : pG p l e R s m args below meth c Q (E2 E b) s.heap nL (cells + mc) (slots + ms) (pc + 3) (L, r.toList ++ rest, σ')) : pG p l e R s m args below meth c Q (E2 E b) s.heap nL cells slots pc (L, As.reverse ++ pR o :: rest, σ) := by
  obtain ⟨hx, hb, hml, hown, hts, hK, -, -, -, -, -, -, hnw, -⟩ := C
  obtain ⟨w1, w2, w3, w4, hy, hci, T, N, hcl⟩ := hl0
  obtain ⟨fs, ho⟩ := clsOf_spec hcls hci
  obtain ⟨bytes, maxL, ret, hcw, hmx, hM⟩ := hr
  intro hlen ls H locs hl hH hS
  obtain ⟨w, hwok, hP, hD⟩ := id hH
  have hcall : CallW R s args own y.cls idx y bytes maxL ret (Cond.code y bytes maxL ret :: tb) (cRm dT mc ms) mc ms k :=
    ⟨callB_of k hts (tbl_goodIn fun w hw => (List.mem_cons.mp hw).elim (fun z => z ▸ hcw) id) rfl rfl rfl (hts _ w4) (hts _ w1) hy ⟨by show dT + 1 ≤ _; omega, by show 8 + (maxL + 11) + 60 * dT ≤ _; omega⟩, hts _ w2, hts _ w3⟩
  have hrun := va_runV (l := l) (e := e) (below := below) (meth := meth) (As := As.map (pv (E2 E b).1)) (rest := rest.map (pv (E2 E b).1)) (b := (E2 E b).1 o) (H := H) (locs := locs) (cells := cells) (slots := slots) (g := F0 m pc ls (List.map (pv (E2 E b).1) (As.reverse ++ pR o :: rest))) ⟨hx, hb, hml, hown, hts⟩ hM hcall ⟨tPc_blind E b _ σ, va_recv hK hP (ci := ci) (q0 := o) hcl (pW_get ho), fun U hU hW => ⟨by simp [pv], by rw [hU]; exact hH, va_K.moved hW.alike hK, hnw.warm hW, by rw [hU]; exact tSt_moved hW.alike (tSt_kept hst (fun a h1 h2 => hS.2.1 a h1 h2))⟩⟩ rfl (by rw [List.length_map]; exact hk) hl.1 (by simp [pv]) (lv_room (by rw [psz_map]; exact hsz)) hd ⟨hc, hs⟩
  intro T0 hT X
  obtain ⟨v, st₀, t, T', L2, h0, X', hL, e1, e2, ⟨hv, hb2, hz, hk2⟩, st⟩ := hrun T0 hT X
  cases hv
  rw [h0] at hz hk2
  have hgo := hg hlen ls T'.heap (locs ++ L2) hl (by rw [e1]; exact hb2) ⟨Nat.le_trans hS.1 (by rw [e1]; exact hz), fun q h1 h2 => by rw [e1, hk2 q (Nat.lt_of_lt_of_le h1 hS.1) h2]; exact hS.2.1 q h1 h2, fun q hq => by
      rcases List.mem_append.mp hq with h | h
      · exact hS.2.2 q h
      · exact hL q h⟩
  rw [List.map_append] at hgo
  have hgo2 : W p l e R s m args below meth c T'.heap (locs ++ L2) (cells + mc) (slots + ms) Q (F0 m (pc + 3) ls ((r.map (pv (E2 E b).1)).toList ++ rest.map (pv (E2 E b).1))) := by cases r <;> exact hgo
  obtain ⟨t2, a1, b1⟩ := hgo2 T' rfl X'
  exact ⟨t2, st t2 a1, b1⟩
end ST
