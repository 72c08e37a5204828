/-! ===== a library's method called from any frame ===== -/
section TQ
variable {p : Program} {l : Launch} {e : Env} {R : Room} {s : State} {m : MethodId} {args : Array Value} {below : List Frame} {meth : Method} {c : Code} {Q : State → Prop} {cc : ByteArray} {nL cells slots : Nat} {own : String} {H : Heap} {locs : List Loc}
theorem t_after {E : tEnv} {ak mc ms pc : Nat} {r : Option pV} {cs' : List tC} {a : Array Value} {ls : Array Slot} {st0 rest : List Value} (hr : va_Run p l e R s m args below meth c H locs cells slots mc ms (F0 m pc ls st0) rest (tQpost E ak r cs' a) (tA E))
    (kk : ∀ (H1 : Heap) (locs1 : List Loc), tHp E cs' H1 → H.size ≤ H1.size → (∀ q : Nat, q < H.size → ¬ tA E q → H1[q]? = H[q]?) → (∀ q ∈ locs1, q ∈ locs ∨ tA E q.base) → W p l e R s m args below meth c H1 locs1 (cells + mc) (slots + ms) Q (F0 m (pc + 3) ls ((r.map (pv E.1)).toList ++ rest))) : W p l e R s m args below meth c H locs cells slots Q (F0 m pc ls st0) := by
  intro T hT X
  obtain ⟨v, st₀, t, T', L2, h0, X', hL, e1, e2, ⟨hv, hb2, ⟨hz, hk2⟩, -⟩, st⟩ := hr T hT X
  cases hv
  rw [h0] at hz hk2
  obtain ⟨t2, a1, b1⟩ := kk T'.heap (locs ++ L2) (by rw [e1]; exact hb2) (by rw [e1]; exact hz) (fun q h1 h2 => by rw [e1]; exact hk2 q h1 h2) (fun q hq => by
      rcases List.mem_append.mp hq with h | h
      · exact Or.inl h
      · exact Or.inr (hL q h)) T' rfl X'
  exact ⟨t2, st t2 a1, b1⟩
/-- a call by an object's class -/
theorem tq_V {E : tEnv} {d ak k o idx pc : Nat} {C : String} {y : MethodName} {cs cs' : List tC} {As : List pV} {r : Option pV} {ls : Array Slot} {rest : List Value} (hx : p.tables.exec = Jvm.exec) (hb : c.code = cc) (hml : c.maxLocals = nL) (hown : s.vm.findClass own = some m.cls) (hts : ∀ w ∈ tb, w.before args s = true) (hK : va_K E.2.1.2.1 classes E.2.1.2.2.2 s) (hnw : pNw s) (hfx : tFx E s H) (hH : tHp E cs H) (hal : ak = 2 → E.1 2 = H.size) (hsz1 : ls.size = nL)
    (hd : decode cc pc = .ok (.invokevirtual idx, 3)) (hv : TV own idx y k C) (hrc : (C = RJ4 ∧ ∃ fs, cs[o]? = some (.inr fs)) ∨ (C = "java/lang/String" ∧ o = 50)) (hk : As.length = k) (hsz : (rest.map fun v => v.category).sum ≤ 8) (hrun : tmRun l E d ak y (pR o :: As) cs r cs') (hdR : d + 1 ≤ R.frames) (hlR : 39 + 40 * d ≤ R.locals) (hc : cells + tMc ak ≤ R.cells) (hs : slots + tMs ak ≤ R.slots)
    (kk : ∀ (H1 : Heap) (locs1 : List Loc), tHp E cs' H1 → H.size ≤ H1.size → (∀ q : Nat, q < H.size → ¬ tA E q → H1[q]? = H[q]?) → (∀ q ∈ locs1, q ∈ locs ∨ tA E q.base) → W p l e R s m args below meth c H1 locs1 (cells + tMc ak) (slots + tMs ak) Q (F0 m (pc + 3) ls ((r.map (pv E.1)).toList ++ rest))) : W p l e R s m args below meth c H locs cells slots Q (F0 m pc ls ((As.map (pv E.1)).reverse ++ .ref (E.1 o) :: rest)) := by
  obtain ⟨bytes, maxL, ret, d', hcw, hmx, hdd, hM⟩ := hrun
  obtain ⟨w1, w2, w3, w4, hy⟩ := hv
  have hrecv : ∃ cell : Cell, H[E.1 o]? = some cell ∧ cell.vm.isStatics = false ∧ s.vm.findClass C = some cell.cls := by
    rcases hrc with ⟨rfl, fs, ho⟩ | ⟨rfl, rfl⟩
    · exact va_recv hK hH.1 (ci := 13) (q := (RJ4, TJ4, 4)) rfl (tW_at ho)
    · obtain ⟨cell, g1, g2, g3, -⟩ := hfx.2.2.2.2.2.1
      exact ⟨cell, g1, g2, g3⟩
  have hsel : (Cond.selects C y y).before args s = true := by
    rcases w3 with w3 | ⟨hp, x0, y0, w3, hc⟩
    · exact hts _ w3
    · exact tm_sel (hts _ w3) hc (tPriv_ok y hp) (va_tabs (c := Cond.privateMethod y) rfl rfl (hfx.1 y hp)) (hts _ w2)
  refine t_after (va_runV (As := As.map (pv E.1)) (rest := rest) ⟨hx, hb, hml, hown, hts⟩ hM ⟨callB_of k hts (tbl_goodIn fun w hw => (List.mem_cons.mp hw).elim (fun z => z ▸ hcw) id) rfl rfl rfl (hts _ w4) (hts _ w1) hy ⟨by show d' + 1 ≤ _; omega, by show 8 + (maxL + 11) + 40 * d' ≤ _; omega⟩, hts _ w2, hsel⟩ ⟨tQpre_blind E ak _ cs, hrecv, fun U hU hW => ⟨rfl, by rw [hU]; exact hH, va_K.moved hW.alike hK, hnw.warm hW, by rw [hU]; exact tFx_moved hW.alike hfx, fun h => by rw [hU]; exact hal h⟩⟩ rfl (by rw [List.length_map]; exact hk) hsz1 rfl (lv_room hsz) hd ⟨hc, hs⟩) kk
/-- String's constructor asks AbstractStringBuilder.length: StringBuilder's own answers -/
theorem tq_len {E : tEnv} {o pc n : Nat} {v k c0 : pV} {cs : List tC} {tl : List tC} {ls : Array Slot} {rest : List Value} (hx : p.tables.exec = Jvm.exec) (hb : c.code = cc) (hml : c.maxLocals = nL) (hown : s.vm.findClass RJ0 = some m.cls) (hts : ∀ w ∈ tb, w.before args s = true) (hK : va_K E.2.1.2.1 classes E.2.1.2.2.2 s) (hnw : pNw s) (hfx : tFx E s H) (hH : tHp E cs H) (hE : tOk E) (hsz1 : ls.size = nL)
    (hd : decode cc pc = .ok (.invokevirtual 549, 3)) (hcs : cs = .inr [v, k, c0, pI (nI n)] :: tl) (ho : o = 0) (hsz : (rest.map fun v => v.category).sum ≤ 8) (hdR : 3 ≤ R.frames) (hlR : 119 ≤ R.locals) (hc : cells ≤ R.cells) (hs : slots ≤ R.slots)
    (kk : ∀ (H1 : Heap) (locs1 : List Loc), tHp E cs H1 → H.size ≤ H1.size → (∀ q : Nat, q < H.size → ¬ tA E q → H1[q]? = H[q]?) → (∀ q ∈ locs1, q ∈ locs ∨ tA E q.base) → W p l e R s m args below meth c H1 locs1 cells slots Q (F0 m (pc + 3) ls (.int (nI n) :: rest))) : W p l e R s m args below meth c H locs cells slots Q (F0 m pc ls (.ref (E.1 o) :: rest)) := by
  subst ho
  subst hcs
  obtain ⟨bytes, maxL, ret, d', hcw, hmx, hdd, hM⟩ := tm_length (l := l) hE (v := v) (k := k) (c := c0) (n := n) (tl := tl)
  refine t_after (va_runU (As := []) (rest := rest) (x := yJ5_length_8abf5) (owner := RJ5) (C := RJ4) ⟨hx, hb, hml, hown, hts⟩ hM (va_cwO 0 hts (tbl_goodIn fun w hw => by
      unfold va_wsO at hw
      rcases List.mem_append.mp hw with h1 | h1
      · simp only [List.mem_cons, List.not_mem_nil, or_false] at h1
        rcases h1 with rfl | rfl | rfl | rfl | rfl | rfl
        · exact jl_1
        · exact jl_2
        · exact jl_3
        · exact jl_4
        · exact jl_5
        · exact je_bini
      · exact (List.mem_cons.mp h1).elim (fun z => z ▸ hcw) id) rfl rfl rfl jq_yJ5_length_8abf5 ⟨by decide, by decide, by decide +kernel⟩ ⟨by show d' + 1 ≤ _; omega, by show 8 + (maxL + 11) + 40 * d' ≤ _; omega⟩) ⟨tQpre_blind E 0 _ _, va_recv hK hH.1 (ci := 13) (q := (RJ4, TJ4, 4)) rfl (tW_at (e := .inr [v, k, c0, pI (nI n)]) (k := 0) rfl), fun U hU hW => ⟨rfl, by rw [hU]; exact hH, va_K.moved hW.alike hK, hnw.warm hW, by rw [hU]; exact tFx_moved hW.alike hfx, fun h => by cases h⟩⟩ rfl rfl hsz1 rfl (lv_room hsz) hd ⟨hc, hs⟩) kk
/-- a static call -/
theorem tq_S {E : tEnv} {d ak k idx pc : Nat} {y : MethodName} {cs cs' : List tC} {As : List pV} {r : Option pV} {ls : Array Slot} {rest : List Value} (hx : p.tables.exec = Jvm.exec) (hb : c.code = cc) (hml : c.maxLocals = nL) (hown : s.vm.findClass own = some m.cls) (hts : ∀ w ∈ tb, w.before args s = true) (hK : va_K E.2.1.2.1 classes E.2.1.2.2.2 s) (hnw : pNw s) (hfx : tFx E s H) (hH : tHp E cs H) (hal : ak = 2 → E.1 2 = H.size) (hsz1 : ls.size = nL)
    (hd : decode cc pc = .ok (.invokestatic idx, 3)) (hv : CLS own idx y k) (hk : As.length = k) (hsz : (rest.map fun v => v.category).sum ≤ 8) (hrun : tmRun l E d ak y As cs r cs') (hdR : d + 1 ≤ R.frames) (hlR : 39 + 40 * d ≤ R.locals) (hc : cells + tMc ak ≤ R.cells) (hs : slots + tMs ak ≤ R.slots)
    (kk : ∀ (H1 : Heap) (locs1 : List Loc), tHp E cs' H1 → H.size ≤ H1.size → (∀ q : Nat, q < H.size → ¬ tA E q → H1[q]? = H[q]?) → (∀ q ∈ locs1, q ∈ locs ∨ tA E q.base) → W p l e R s m args below meth c H1 locs1 (cells + tMc ak) (slots + tMs ak) Q (F0 m (pc + 3) ls ((r.map (pv E.1)).toList ++ rest))) : W p l e R s m args below meth c H locs cells slots Q (F0 m pc ls ((As.map (pv E.1)).reverse ++ rest)) := by
  obtain ⟨bytes, maxL, ret, d', hcw, hmx, hdd, hM⟩ := hrun
  obtain ⟨w1, w2, w3, hy⟩ := hv
  refine t_after (va_runS (As := As.map (pv E.1)) (rest := rest) ⟨hx, hb, hml, hown, hts⟩ hM ⟨callB_of k hts (tbl_goodIn fun w hw => (List.mem_cons.mp hw).elim (fun z => z ▸ hcw) id) rfl rfl rfl (hts _ w3) (hts _ w1) hy ⟨by show d' + 1 ≤ _; omega, by show 8 + (maxL + 11) + 40 * d' ≤ _; omega⟩, hts _ w2⟩ ⟨tQpre_blind E ak _ cs, fun U hU hW => ⟨rfl, by rw [hU]; exact hH, va_K.moved hW.alike hK, hnw.warm hW, by rw [hU]; exact tFx_moved hW.alike hfx, fun h => by rw [hU]; exact hal h⟩⟩ rfl (by rw [List.length_map]; exact hk) hsz1 rfl (lv_room hsz) hd ⟨hc, hs⟩) kk
end TQ
/-! ===== what a text's calls need: tables, statics, the two constant texts ===== -/
/-- where the tables, the constant texts and their bytes lie -/
abbrev xA : Type := (Nat × Nat) × (Nat → Nat) × (Nat → Nat)
def xTx (i : Nat) : String := if i = 0 then "x" else ","
def xIx (i : Nat) : Nat := if i = 0 then 34 else 43
def xB (i : Nat) : Nat := if i = 0 then 120 else 44
/-- a String that stands: its bytes are the letters of t -/
def sStr (a v n : Nat) (t : Nat → Nat) (A : Nat → Prop) (U : State) (H : Heap) : Prop := va_O "java/lang/String" a A U H ∧ va_OF "java/lang/String" "coder" "B" (.int 0) a A U H ∧ va_OF "java/lang/String" "value" "[B" (.ref v) a A U H ∧ va_T .byte v n (fun j => .int (sb_b (t j))) A U H
theorem sStr.moved {a v n : Nat} {t : Nat → Nat} {A : Nat → Prop} {u U : State} {H : Heap} (hvm : u.vm.Alike U.vm) (h : sStr a v n t A u H) : sStr a v n t A U H := ⟨va_O.moved hvm h.1, va_OF.moved hvm h.2.1, va_OF.moved hvm h.2.2.1, va_T.moved hvm h.2.2.2⟩
theorem sStr.kept {a v n : Nat} {t : Nat → Nat} {A : Nat → Prop} {U : State} {H H1 : Heap} (h : sStr a v n t A U H) (hq : ∀ a : Nat, a < H.size → ¬ A a → H1[a]? = H[a]?) : sStr a v n t A U H1 := ⟨h.1.kept hq, h.2.1.kept hq, h.2.2.1.kept hq, h.2.2.2.kept hq⟩
def xFx (E : cEnv) (q : xA) (U : State) (H : Heap) : Prop := tPv U ∧ cSt E U H ∧ (va_Z "java/lang/Integer" "DigitOnes" "[B" (.ref q.1.1) (cFree E) U H ∧ va_T .byte q.1.1 100 (fun j => .int (sb_b (48 + j % 10))) (cFree E) U H) ∧ (va_Z "java/lang/Integer" "DigitTens" "[B" (.ref q.1.2) (cFree E) U H ∧ va_T .byte q.1.2 100 (fun j => .int (sb_b (48 + j / 10))) (cFree E) U H) ∧ tFm (cFree E) U H ∧ ∀ i, i < 2 → vk_R RL (xIx i) (xTx i) (q.2.1 i) U ∧ sStr (q.2.1 i) (q.2.2 i) 1 (fun _ => xB i) (cFree E) U H
theorem xFx_kept {E : cEnv} {q : xA} {U : State} {H H1 : Heap} (h : xFx E q U H) (hq : ∀ a : Nat, a < H.size → ¬ cFree E a → H1[a]? = H[a]?) : xFx E q U H1 := by
  obtain ⟨h1, h2, ⟨h3, h4⟩, ⟨h5, h6⟩, h7, h8⟩ := h
  refine ⟨h1, va_Z.kept h2 hq, ⟨va_Z.kept h3 hq, h4.kept hq⟩, ⟨va_Z.kept h5 hq, h6.kept hq⟩, tFm_kept h7 hq, fun i hi => ?_⟩
  obtain ⟨g0, g1⟩ := h8 i hi
  exact ⟨g0, g1.kept hq⟩
theorem xFx_any {E : cEnv} {q : xA} {u U : State} {H : Heap} (hvm : u.vm.Alike U.vm) (hR : ∀ i, i < 2 → vk_R RL (xIx i) (xTx i) (q.2.1 i) u → vk_R RL (xIx i) (xTx i) (q.2.1 i) U) (h : xFx E q u H) : xFx E q U H := by
  obtain ⟨h1, h2, ⟨h3, h4⟩, ⟨h5, h6⟩, h7, h8⟩ := h
  refine ⟨tPv_moved hvm h1, cSt_moved hvm h2, ⟨va_Z.moved hvm h3, va_T.moved hvm h4⟩, ⟨va_Z.moved hvm h5, va_T.moved hvm h6⟩, tFm_moved hvm h7, fun i hi => ?_⟩
  obtain ⟨g0, g1⟩ := h8 i hi
  exact ⟨hR i hi g0, g1.moved hvm⟩
theorem xFx_warm {E : cEnv} {q : xA} {s U : State} {H : Heap} (hW : s.WarmedH U.vm) (h : xFx E q s H) : xFx E q U H := xFx_any hW.alike (fun _ _ h => vk_R.warm hW h) h
section MONO
variable {A B : Nat → Prop} {U : State} {H : Heap}
theorem va_Z.mono (hAB : ∀ a, B a → A a) {C n d : String} {v : Value} (h : va_Z C n d v A U H) : va_Z C n d v B U H := by
  obtain ⟨cf, kf, fi, f, a, cell, h1, h2, h3, h4, h5, h6, h7, h8⟩ := h
  exact ⟨cf, kf, fi, f, a, cell, h1, h2, h3, h4, h5, h6, h7, fun z => h8 (hAB a z)⟩
theorem va_T.mono (hAB : ∀ a, B a → A a) {ty : FieldType} {t N : Nat} {f : Nat → Value} (h : va_T ty t N f A U H) : va_T ty t N f B U H := by
  obtain ⟨cell, h1, h2, h3, h4, h5, h6, h7⟩ := h
  exact ⟨cell, h1, h2, h3, h4, h5, h6, fun z => h7 (hAB t z)⟩
theorem sStr.mono (hAB : ∀ a, B a → A a) {a v n : Nat} {t : Nat → Nat} (h : sStr a v n t A U H) : sStr a v n t B U H := by
  obtain ⟨⟨c1, g1, g2, g3, g4⟩, ⟨cf, k, i, f, cell, h1, h2, h3, h4, h5, h6⟩, ⟨cf2, k2, i2, f2, cell2, i1, i2', i3, i4, i5, i6⟩, h9⟩ := h
  exact ⟨⟨c1, g1, g2, g3, fun z => g4 (hAB a z)⟩, ⟨cf, k, i, f, cell, h1, h2, h3, h4, h5, fun z => h6 (hAB a z)⟩, ⟨cf2, k2, i2, f2, cell2, i1, i2', i3, i4, i5, fun z => i6 (hAB a z)⟩, va_T.mono hAB h9⟩
end MONO
theorem xFx_up {E E' : cEnv} {q : xA} {U : State} {H : Heap} (hE : E.1 ≤ E'.1) (h : xFx E q U H) : xFx E' q U H := by
  have hAB : ∀ a, cFree E' a → cFree E a := fun a h => Nat.le_trans hE h
  obtain ⟨h1, h2, ⟨h3, h4⟩, ⟨h5, h6⟩, ⟨v, h7, h8⟩, h9⟩ := h
  refine ⟨h1, va_Z.mono hAB h2, ⟨va_Z.mono hAB h3, va_T.mono hAB h4⟩, ⟨va_Z.mono hAB h5, va_T.mono hAB h6⟩, ⟨v, h7, va_Z.mono hAB h8⟩, fun i hi => ?_⟩
  obtain ⟨g0, g1⟩ := h9 i hi
  exact ⟨g0, sStr.mono hAB g1⟩
/-- the surroundings of a library's method: a builder, its bytes, a new array; a String's text that stands -/
def xE (E : cEnv) (q : xA) (ws : va_W) (a v h sa sv n : Nat) (t : Nat → Nat) : tEnv := (fun k => if k = 0 then a else if k = 1 then v else if k = 2 then h else if k = 50 then sa else if k = 51 then sv else if k = 52 then q.1.1 else q.1.2, E, ws, n, fun j => sb_b (t j))
theorem xE_fx {E : cEnv} {q : xA} {ws : va_W} {a v h sa sv n : Nat} {t : Nat → Nat} {U : State} {H : Heap} (hx : xFx E q U H) (hs : sStr sa sv n t (cFree E) U H) : tFx (xE E q ws a v h sa sv n t) U H := by
  obtain ⟨h1, h2, h3, h5, h7, -⟩ := hx
  obtain ⟨g1, g2, g3, g4⟩ := hs
  exact ⟨h1, h2, h3, h5, h7, g1, g2, g3, g4⟩
