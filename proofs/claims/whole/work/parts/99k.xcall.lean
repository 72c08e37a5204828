/-! ===== a text in the program's own run ===== -/
/-- what lies beside: the builder holds the text p -/
def TBp (E : cEnv) (p : Tx) (w : va_W) : Prop := ∃ (v m : Nat) (ml : Int32) (f : Nat → Int32), w = [(E.1 + 179, .inr (13, [.ref v, .int 0, .int ml, .int (nI p.2)])), (v, .inl (E.2.2.1.2.1, m, .inl f))] ∧ p.2 ≤ m ∧ m ≤ 65536 ∧ sb_Fit f ∧ sb_Lat p.1 p.2 f
def E3 (E : cEnv) (b : Nat) (p : Tx) : pEnv := ((E2 E b).1, E.2.1, E.2.2.1, E.2.2.2, TBp E p, cFree E)
/-- where the tables, the formatter, the constant texts and their bytes lie -/
abbrev xA : Type := (Nat × Nat × Nat) × (Nat → Nat) × (Nat → Nat)
def xTx (i : Nat) : String := if i = 0 then ":a" else if i = 1 then " \x72" else " @"
def xIx (i : Nat) : Nat := if i = 0 then 195 else if i = 1 then 200 else 205
def xB (i j : Nat) : Nat := if i = 0 then (if j = 0 then 58 else 97) else if i = 1 then (if j = 0 then 32 else 114) else (if j = 0 then 32 else 64)
def xFx (E : cEnv) (q : xA) (U : State) (H : Heap) : Prop := tPv U ∧ cSt E U H ∧ (va_Z "java/lang/Integer" "DigitOnes" "[B" (.ref q.1.1) (cFree E) U H ∧ va_T .byte q.1.1 100 (fun j => .int (sb_b (48 + j % 10))) (cFree E) U H) ∧ (va_Z "java/lang/Integer" "DigitTens" "[B" (.ref q.1.2.1) (cFree E) U H ∧ va_T .byte q.1.2.1 100 (fun j => .int (sb_b (48 + j / 10))) (cFree E) U H) ∧ tFm (cFree E) U H ∧ ∀ i, i < 3 → vk_R RX6 (xIx i) (xTx i) (q.2.1 i) U ∧ va_O "java/lang/String" (q.2.1 i) (cFree E) U H ∧ va_OF "java/lang/String" "coder" "B" (.int 0) (q.2.1 i) (cFree E) U H ∧ va_OF "java/lang/String" "value" "[B" (.ref (q.2.2 i)) (q.2.1 i) (cFree E) U H ∧ va_T .byte (q.2.2 i) 2 (fun j => .int (sb_b (xB i j))) (cFree E) U H
theorem xFx_kept {E : cEnv} {q : xA} {U : State} {H H1 : Heap} (h : xFx E q U H) (hq : ∀ a : Nat, a < H.size → ¬ cFree E a → H1[a]? = H[a]?) : xFx E q U H1 := by
  obtain ⟨h1, h2, ⟨h3, h4⟩, ⟨h5, h6⟩, h7, h8⟩ := h
  refine ⟨h1, va_Z.kept h2 hq, ⟨va_Z.kept h3 hq, h4.kept hq⟩, ⟨va_Z.kept h5 hq, h6.kept hq⟩, tFm_kept h7 hq, fun i hi => ?_⟩
  obtain ⟨g0, g1, g2, g3, g4⟩ := h8 i hi
  exact ⟨g0, g1.kept hq, g2.kept hq, g3.kept hq, g4.kept hq⟩
theorem xFx_any {E : cEnv} {q : xA} {u U : State} {H : Heap} (hvm : u.vm.Alike U.vm) (hR : ∀ i, i < 3 → vk_R RX6 (xIx i) (xTx i) (q.2.1 i) u → vk_R RX6 (xIx i) (xTx i) (q.2.1 i) U) (h : xFx E q u H) : xFx E q U H := by
  obtain ⟨h1, h2, ⟨h3, h4⟩, ⟨h5, h6⟩, h7, h8⟩ := h
  refine ⟨tPv_moved hvm h1, cSt_moved hvm h2, ⟨va_Z.moved hvm h3, va_T.moved hvm h4⟩, ⟨va_Z.moved hvm h5, va_T.moved hvm h6⟩, tFm_moved hvm h7, fun i hi => ?_⟩
  obtain ⟨g0, g1, g2, g3, g4⟩ := h8 i hi
  exact ⟨hR i hi g0, va_O.moved hvm g1, va_OF.moved hvm g2, va_OF.moved hvm g3, va_T.moved hvm g4⟩
/-- the surroundings of a library's method called on the builder -/
def xE (E : cEnv) (b : Nat) (q : xA) (i : Nat) (σ : pM) (v h : Nat) : tEnv := (fun k => if k = 0 then E.1 + 179 else if k = 1 then v else if k = 2 then h else if k = 50 then q.2.1 i else if k = 51 then q.2.2 i else if k = 52 then q.1.1 else if k = 53 then q.1.2.1 else q.1.2.2, E, pWl (E2 E b) σ 0 kd, 2, fun j => sb_b (xB i j))
theorem xE_fx {E : cEnv} {b i v h : Nat} {q : xA} {σ : pM} {U : State} {H : Heap} (hi : i < 3) (hx : xFx E q U H) : tFx (xE E b q i σ v h) U H := by
  obtain ⟨h1, h2, h3, h5, h7, h8⟩ := hx
  obtain ⟨g0, g1, g2, g3, g4⟩ := h8 i hi
  exact ⟨h1, h2, h3, h5, h7, g1, g2, g3, g4⟩
theorem pE_env {E E' : pEnv} (h1 : E'.1 = E.1) (h2 : E'.2.2.1 = E.2.2.1) (σ : pM) (k : Nat) : ∀ q : pK, pE E' σ k q = pE E σ k q
  | .inl (0, n) => by simp [pE, h2]
  | .inl (1, n) => by simp [pE, h2]
  | .inl (t + 2, n) => by simp [pE, h2]
  | .inr (ci, fs) => by simp [pE, h1]
theorem pWl_env {E E' : pEnv} (h1 : E'.1 = E.1) (h2 : E'.2.2.1 = E.2.2.1) (σ : pM) : ∀ (l : List pK) (j : Nat), pWl E' σ j l = pWl E σ j l
  | [], j => rfl
  | q :: t, j => by rw [pWl, pWl, pWl_env h1 h2 σ t, pE_env h1 h2, h1]
theorem x_back {E : cEnv} {b i v h k M : Nat} {q : xA} {σ : pM} {tl : List tC} {A : Nat → Int32} {ml : Int32} {p : Tx} {H : Heap} (hH : tHp (xE E b q i σ v h) (tB k (pI ml) (pI (nI p.2)) tl) H) (ht : tl[k]? = some (.inl (M, A))) (h1 : p.2 ≤ M) (h2 : M ≤ 65536) (hL : sb_Lat p.1 p.2 A) (hf : sb_Fit A) : pHp (E3 E b p) σ H := by
  obtain ⟨hP, hD, -⟩ := hH
  obtain ⟨X, hX⟩ : ∃ X, X = pWl (E2 E b) σ 0 kd := ⟨_, rfl⟩
  have hw1 : tW (xE E b q i σ v h) (tB k (pI ml) (pI (nI p.2)) tl) = X ++ tWl (xE E b q i σ v h) 0 (tB k (pI ml) (pI (nI p.2)) tl) := by rw [hX]; rfl
  obtain ⟨a, ha⟩ : ∃ a, a = (xE E b q i σ v h).1 (k + 1) := ⟨_, rfl⟩
  have hw2 : pW (E3 E b p) [(E.1 + 179, .inr (13, [.ref a, .int 0, .int ml, .int (nI p.2)])), (a, .inl (E.2.2.1.2.1, M, .inl A))] σ = X ++ [(E.1 + 179, .inr (13, [.ref a, .int 0, .int ml, .int (nI p.2)])), (a, .inl (E.2.2.1.2.1, M, .inl A))] := by
    rw [hX]
    unfold pW
    rw [pWl_env (E := E2 E b) (E' := E3 E b p) rfl rfl]
  have key : ∀ (j : Nat) (r : Nat × va_E), (pW (E3 E b p) [(E.1 + 179, .inr (13, [.ref a, .int 0, .int ml, .int (nI p.2)])), (a, .inl (E.2.2.1.2.1, M, .inl A))] σ)[j]? = some r → (tW (xE E b q i σ v h) (tB k (pI ml) (pI (nI p.2)) tl))[if j ≤ X.length then j else X.length + 1 + k]? = some r ∧ j ≤ X.length + 1 := by
    intro j r hj
    rw [hw2] at hj
    rw [hw1]
    rcases Nat.lt_trichotomy j X.length with g | g | g
    · rw [if_pos (by omega), List.getElem?_append_left g]
      rw [List.getElem?_append_left g] at hj
      exact ⟨hj, by omega⟩
    · rw [if_pos (by omega), List.getElem?_append_right (by omega), show j - X.length = 0 by omega]
      rw [List.getElem?_append_right (by omega), show j - X.length = 0 by omega] at hj
      rw [← hj, tWl_get, ha]
      exact ⟨rfl, by omega⟩
    · rw [if_neg (by omega), List.getElem?_append_right (by omega), show X.length + 1 + k - X.length = k + 1 by omega]
      rw [List.getElem?_append_right (by omega)] at hj
      by_cases g2 : j = X.length + 1
      · rw [show j - X.length = 1 by omega] at hj
        rw [← hj, tWl_get, List.getElem?_cons_succ, ht, ha]
        refine ⟨?_, by omega⟩
        simp [tEn, xE]
      · rw [List.getElem?_eq_none (by simp; omega)] at hj
        cases hj
  refine ⟨_, ⟨a, M, ml, A, rfl, h1, h2, hf, hL⟩, fun j r hj => hP _ r (key j r hj).1, fun j1 j2 r1 r2 hj1 hj2 he => ?_, fun j r hj => hD.2 _ r (key j r hj).1⟩
  obtain ⟨k1, k2⟩ := key j1 r1 hj1
  obtain ⟨k3, k4⟩ := key j2 r2 hj2
  have hh := hD.1 _ _ r1 r2 k1 k3 he
  split at hh <;> split at hh <;> omega
section XC
variable {p0 : Program} {l : Launch} {e : Env} {R : Room} {s : State} {m : MethodId} {args : Array Value} {below : List Frame} {meth : Method} {c : Code} {Q : State → Prop} {cc : ByteArray} {nL d cells slots : Nat} {own : String}
/-- the program's surroundings, whatever the builder is known to hold -/
def EP (E : cEnv) (b : Nat) (P : va_W → Prop) : pEnv := ((E2 E b).1, E.2.1, E.2.2.1, E.2.2.2, P, cFree E)
/-- a call on the builder, before it P holds of it, behind it it holds the text p' -/
def xSrc (l : Launch) (E : cEnv) (b : Nat) (q : xA) (i : Nat) (σ : pM) (ak : Nat) (y : MethodName) (As : List pV) (r : Option pV) (P : va_W → Prop) (p' : Tx) : Prop := ∀ w, P w → ∃ (v n m0 : Nat) (ml : Int32) (f : Nat → Int32), w = [(E.1 + 179, .inr (13, [.ref v, .int 0, .int ml, .int (nI n)])), (v, .inl (E.2.2.1.2.1, m0, .inl f))] ∧ ∀ h, tOk (xE E b q i σ v h) → ∃ (k' : Nat) (tl : List tC) (M : Nat) (A : Nat → Int32) (ml' : Int32), tmRun l (xE E b q i σ v h) 6 ak y (pR 0 :: As) (tB 0 (pI ml) (pI (nI n)) [.inl (m0, f)]) r (tB k' (pI ml') (pI (nI p'.2)) tl) ∧ tl[k']? = some (.inl (M, A)) ∧ p'.2 ≤ M ∧ M ≤ 65536 ∧ sb_Lat p'.1 p'.2 A ∧ sb_Fit A
theorem x_callW {E : cEnv} {b i k pc idx ak : Nat} {q : xA} {σ : pM} {P : va_W → Prop} {p' : Tx} {H : Heap} {locs : List Loc} {ls : Array Slot} {y : MethodName} {As : List pV} {r : Option pV} {Vr : Option Value} {Vs rest : List Value} {scr : Option (Nat × Nat × (Nat → Int32))} (C : pCx p0 R s m args meth c (E2 E b) s.heap own cc nL d cells slots scr) (hfx : xFx E q s s.heap) (hi : i < 3) (hH : pHp (EP E b P) σ H) (hS : va_S (cFree E) s.heap H locs) (hl1 : ls.size = nL) (hd : decode cc pc = .ok (.invokevirtual idx, 3)) (hv : TV own idx y k RJ4) (hk : As.length = k) (hsz : (rest.map fun v => v.category).sum ≤ 8) (hVs : ∀ v h, As.map (pv (xE E b q i σ v h).1) = Vs) (hVr : ∀ v h, r.map (pv (xE E b q i σ v h).1) = Vr)
    (hsrc : xSrc l E b q i σ ak y As r P p') (hdR : 7 ≤ R.frames) (hlR : 419 ≤ R.locals) (hc : cells + tMc ak ≤ R.cells) (hs : slots + tMs ak ≤ R.slots)
    (kk : ∀ (H1 : Heap) (locs1 : List Loc), pHp (E3 E b p') σ H1 → va_S (cFree E) s.heap H1 locs1 → W p0 l e R s m args below meth c H1 locs1 (cells + tMc ak) (slots + tMs ak) Q (F0 m (pc + 3) ls (Vr.toList ++ rest))) : W p0 l e R s m args below meth c H locs cells slots Q (F0 m pc ls (Vs.reverse ++ .ref (E.1 + 179) :: rest)) := by
  obtain ⟨hx, hb, hml, hown, hts, hK, hE, -, -, -, -, -, hnw, -⟩ := C
  obtain ⟨w, hPw, hP, hD⟩ := id hH
  obtain ⟨v, n, m0, ml, f, rfl, hgood⟩ := hsrc w hPw
  obtain ⟨k', tl, M, A, ml', hrun, ht, hM1, hM2, hLA, hfA⟩ := hgood H.size hE.2.1
  obtain ⟨bytes, maxL, ret, d', hcw, hmx, hdd, hM⟩ := hrun
  obtain ⟨w1, w2, w3, w4, hy⟩ := hv
  have hW : pW (EP E b P) [(E.1 + 179, .inr (13, [.ref v, .int 0, .int ml, .int (nI n)])), (v, .inl (E.2.2.1.2.1, m0, .inl f))] σ = tW (xE E b q i σ v H.size) (tB 0 (pI ml) (pI (nI n)) [.inl (m0, f)]) := by
    unfold pW
    rw [pWl_env (E := E2 E b) (E' := EP E b P) rfl rfl]
    rfl
  rw [hW] at hP hD
  have hat : (tW (xE E b q i σ v H.size) (tB 0 (pI ml) (pI (nI n)) [.inl (m0, f)]))[(xE E b q i σ v H.size).2.2.1.length + 0]? = some (E.1 + 179, .inr (13, [.ref v, .int 0, .int ml, .int (nI n)])) := tW_at (E := xE E b q i σ v H.size) (cs := tB 0 (pI ml) (pI (nI n)) [.inl (m0, f)]) (k := 0) rfl
  have hrecv := va_recv hK hP (ci := 13) (q := (RJ4, TJ4, 4)) rfl hat
  have hbz : E.1 ≤ H.size := by
    have h1 := (hP _ _ hat).lt
    have h2 : E.1 + 179 < H.size := h1
    omega
  have hfree : ∀ a : Nat, a < s.heap.size → ¬ cFree E a → H[a]? = s.heap[a]? := fun a h1 h2 => hS.2.1 a h1 h2
  have htH : tHp (xE E b q i σ v H.size) (tB 0 (pI ml) (pI (nI n)) [.inl (m0, f)]) H := ⟨hP, hD, hbz⟩
  have hsel : (Cond.selects RJ4 y y).before args s = true := by
    rcases w3 with w3 | ⟨hp, x0, y0, w3, hc⟩
    · exact hts _ w3
    · exact tm_sel (hts _ w3) hc (tPriv_ok y hp) (va_tabs (c := Cond.privateMethod y) rfl rfl (hfx.1 y hp)) (hts _ w2)
  have hcall : CallW R s args own RJ4 idx y bytes maxL ret (Cond.code y bytes maxL ret :: tb) (cRm d' (tMc ak) (tMs ak)) (tMc ak) (tMs ak) k :=
    ⟨callB_of k hts (tbl_goodIn fun w hw => (List.mem_cons.mp hw).elim (fun z => z ▸ hcw) id) rfl rfl rfl (hts _ w4) (hts _ w1) hy ⟨by show d' + 1 ≤ _; omega, by show 8 + (maxL + 11) + 60 * d' ≤ _; omega⟩, hts _ w2, hsel⟩
  have hvs := hVs v H.size
  have hrunV := va_runV (l := l) (e := e) (below := below) (meth := meth) (As := Vs) (rest := rest) (b := E.1 + 179) (H := H) (locs := locs) (cells := cells) (slots := slots) (g := F0 m pc ls (Vs.reverse ++ .ref (E.1 + 179) :: rest)) ⟨hx, hb, hml, hown, hts⟩ hM hcall ⟨tQpre_blind _ ak _ _, hrecv, fun U hU hW2 => ⟨by rw [← hvs]; rfl, by rw [hU]; exact htH, va_K.moved hW2.alike hK, hnw.warm hW2, by rw [hU]; exact tFx_moved hW2.alike (xE_fx hi (xFx_kept hfx hfree)), fun _ => by rw [hU]; rfl⟩⟩ rfl (by rw [← hvs, List.length_map]; exact hk) hl1 rfl (lv_room hsz) hd ⟨hc, hs⟩
  intro T0 hT X
  obtain ⟨rv, st₀, t, T', L2, h0, X', hL2, e1, e2, ⟨hr, hH1, ⟨hz, hk2⟩, -⟩, st⟩ := hrunV T0 hT X
  have hrv : rv = Vr := by
    rw [hVr] at hr
    injection hr
  subst hrv
  rw [h0] at hz hk2
  obtain ⟨t2, a1, b1⟩ := kk T'.heap (locs ++ L2) (by rw [e1]; exact x_back hH1 ht hM1 hM2 hLA hfA) ⟨Nat.le_trans hS.1 (by rw [e1]; exact hz), fun q h1 h2 => by rw [e1, hk2 q (Nat.lt_of_lt_of_le h1 hS.1) h2]; exact hS.2.1 q h1 h2, fun q hq => by
      rcases List.mem_append.mp hq with h | h
      · exact hS.2.2 q h
      · exact hL2 q h⟩ T' rfl X'
  exact ⟨t2, st t2 a1, b1⟩
end XC
