/-! ===== the builder's calls in the program's own run ===== -/
theorem src_good {l : Launch} {E : cEnv} {b i : Nat} {q : xA} {σ : pM} {y : MethodName} {As : List pV} {p p' : Tx} (h : ∀ (v h m0 : Nat) (ml : Int32) (f : Nat → Int32), tOk (xE E b q i σ v h) → p.2 ≤ m0 → m0 ≤ 65536 → sb_Lat p.1 p.2 f → sb_Fit f → tGood l (xE E b q i σ v h) 6 y (pR 0 :: As) (pI ml) (tB 0 (pI ml) (pI (nI p.2)) [.inl (m0, f)]) p'.1 p'.2) : xSrc l E b q i σ 2 y As (some (pR 0)) (TBp E p) p' := by
  rintro w ⟨v, m0, ml, f, rfl, h1, h2, h3, h4⟩
  refine ⟨v, p.2, m0, ml, f, rfl, fun hh hok => ?_⟩
  obtain ⟨k, tl, M, A, g1, g2⟩ := h v hh m0 ml f hok h1 h2 h4 h3
  exact ⟨k, tl, M, A, ml, g1, g2⟩
theorem src_int {l : Launch} {E : cEnv} {b i w : Nat} {q : xA} {σ : pM} {p : Tx} (hn : p.2 + sb_dg w ≤ 46) (hw : w < 1000000) : xSrc l E b q i σ 2 yJ4_append_bf812 [pI (nI w)] (some (pR 0)) (TBp E p) (tNm p w) :=
  src_good fun v h m0 ml f hok h1 h2 h3 h4 => tm_appendI hok h1 h2 hn h3 h4 hw
theorem src_chr {l : Launch} {E : cEnv} {b i c : Nat} {q : xA} {σ : pM} {p : Tx} (hn : p.2 ≤ 45) (hc : c < 256) : xSrc l E b q i σ 2 yJ4_append_cf468 [pI (nI c)] (some (pR 0)) (TBp E p) (tCh p c) :=
  src_good fun v h m0 ml f hok h1 h2 h3 h4 => tm_appendC hok h1 h2 hn h3 h4 hc
def tSt3 (p : Tx) (i : Nat) : Tx := (sb_cat p.1 p.2 (xB i), p.2 + 2)
theorem xB_lt (i j : Nat) : xB i j < 256 := by
  unfold xB
  repeat' split
  all_goals omega
theorem src_str {l : Launch} {E : cEnv} {b i : Nat} {q : xA} {σ : pM} {p : Tx} (hn : p.2 ≤ 44) : xSrc l E b q i σ 2 yJ4_append_15ec4 [pR 50] (some (pR 0)) (TBp E p) (tSt3 p i) :=
  src_good fun v h m0 ml f hok h1 h2 h3 h4 => tm_appendS (E := xE E b q i σ v h) (s := xB i) hok h1 h2 (by show p.2 + 2 ≤ 46; omega) h3 h4 (fun j hj => ⟨xB_lt i j, rfl⟩) (fun j => sb_fitB _)
theorem src_len0 {l : Launch} {E : cEnv} {b i : Nat} {q : xA} {σ : pM} : xSrc l E b q i σ 2 yJ4_setLength_d00df [pI (nI 0)] none (SBP E) (fun _ => 0, 0) := by
  rintro w ⟨v, n, m, ml, f, rfl, h1, h2, h3⟩
  exact ⟨v, n, m, ml, f, rfl, fun h hok => ⟨0, [.inl (m, f)], m, f, if n = 0 then ml else 1, tm_setLength hok (by omega) h2, rfl, Nat.zero_le _, h2, fun j hj => absurd hj (Nat.not_lt_zero j), h3⟩⟩
theorem src_len {l : Launch} {E : cEnv} {b i : Nat} {q : xA} {σ : pM} {p : Tx} : xSrc l E b q i σ 0 yJ4_length_8abf5 [] (some (pI (nI p.2))) (TBp E p) p := by
  rintro w ⟨v, m0, ml, f, rfl, h1, h2, h3, h4⟩
  exact ⟨v, p.2, m0, ml, f, rfl, fun h hok => ⟨0, [.inl (m0, f)], m0, f, ml, (tm_length hok).mono (by decide), rfl, h1, h2, h4, h3⟩⟩
theorem src_at {l : Launch} {E : cEnv} {b i j : Nat} {q : xA} {σ : pM} {p : Tx} (hj : j < p.2) : xSrc l E b q i σ 0 yJ4_charAt_5068e [pI (nI j)] (some (pI (nI (p.1 j)))) (TBp E p) p := by
  rintro w ⟨v, m0, ml, f, rfl, h1, h2, h3, h4⟩
  exact ⟨v, p.2, m0, ml, f, rfl, fun h hok => ⟨0, [.inl (m0, f)], m0, f, ml, (tm_charAt (k := 0) (tl := [.inl (m0, f)]) hok rfl h1 h2 h4 hj).mono (by decide), rfl, h1, h2, h4, h3⟩⟩
section XR
variable {p0 : Program} {l : Launch} {e : Env} {R : Room} {s : State} {m : MethodId} {args : Array Value} {below : List Frame} {meth : Method} {c : Code} {Q : State → Prop} {cc : ByteArray} {nL d cells slots : Nat} {own : String}
/-- a call whose arguments are numbers -/
theorem x_call {E : cEnv} {b k pc idx ak : Nat} {q : xA} {σ : pM} {P : va_W → Prop} {p' : Tx} {y : MethodName} {xs : List Int32} {r : Option pV} {r2 : Option pV} {rest : List pV} {L : pLo} {scr : Option (Nat × Nat × (Nat → Int32))} (C : pCx p0 R s m args meth c (E2 E b) s.heap own cc nL d cells slots scr) (hfx : xFx E q s s.heap) (hd : decode cc pc = .ok (.invokevirtual idx, 3)) (hv : TV own idx y k RJ4) (hk : xs.length = k) (hsz : psz rest ≤ 8) (hr : (r = none ∧ r2 = none) ∨ (r = some (pR 0) ∧ r2 = some (pR 900)) ∨ ∃ x, r = some (pI x) ∧ r2 = some (pI x))
    (hsrc : xSrc l E b q 0 σ ak y (xs.map pI) r P p') (hdR : 7 ≤ R.frames) (hlR : 419 ≤ R.locals) (hc : cells + tMc ak ≤ R.cells) (hs : slots + tMs ak ≤ R.slots)
    (hg : pG p0 l e R s m args below meth c Q (E3 E b p') s.heap nL (cells + tMc ak) (slots + tMs ak) (pc + 3) (L, r2.toList ++ rest, σ)) : pG p0 l e R s m args below meth c Q (EP E b P) s.heap nL cells slots pc (L, (xs.map pI).reverse ++ pR 900 :: rest, σ) := by
  intro hlen ls H locs hl hH hS
  have hrr : ∀ v h, r.map (pv (xE E b q 0 σ v h).1) = r2.map (pv (E2 E b).1) := fun v h => by
    rcases hr with ⟨rfl, rfl⟩ | ⟨rfl, rfl⟩ | ⟨x, rfl, rfl⟩
    · rfl
    · rfl
    · rfl
  have h0 := x_callW (l := l) (e := e) (below := below) (Q := Q) (As := xs.map pI) (Vs := (xs.map pI).map (pv (E2 E b).1)) (rest := rest.map (pv (E2 E b).1)) C hfx (by omega) hH hS hl.1 hd hv (by rw [List.length_map]; exact hk) (by rw [psz_map]; exact hsz) (fun v h => by rw [List.map_map, List.map_map]; rfl) hrr hsrc hdR hlR hc hs (fun H1 locs1 hH1 hS1 => by
    have h1 := hg hlen ls H1 locs1 hl hH1 hS1
    rw [map_ret] at h1
    exact h1)
  have e0 : ((xs.map pI).reverse ++ pR 900 :: rest).map (pv (E2 E b).1) = ((xs.map pI).map (pv (E2 E b).1)).reverse ++ .ref (E.1 + 179) :: rest.map (pv (E2 E b).1) := by simp [pv, E2, posR]
  show W p0 l e R s m args below meth c H locs cells slots Q (F0 m pc ls (((xs.map pI).reverse ++ pR 900 :: rest).map (pv (E2 E b).1)))
  rw [e0]
  exact h0
/-- a constant text is added -/
theorem x_str {E : cEnv} {b pc i : Nat} {idx : Nat} {q : xA} {σ : pM} {p : Tx} {rest : List pV} {L : pLo} {scr : Option (Nat × Nat × (Nat → Int32))} (C : pCx p0 R s m args meth c (E2 E b) s.heap RX6 cc nL d cells slots scr) (hfx : xFx E q s s.heap) (hi : i < 3) (hd0 : decode cc pc = .ok (.ldc (xIx i), 2)) (hd : decode cc (pc + 2) = .ok (.invokevirtual idx, 3)) (hv : TV RX6 idx yJ4_append_15ec4 1 RJ4) (hsz : psz rest ≤ 8) (hn : p.2 ≤ 44) (hdR : 7 ≤ R.frames) (hlR : 419 ≤ R.locals) (hc : cells + 1 ≤ R.cells) (hs : slots + 100 ≤ R.slots)
    (hg : pG p0 l e R s m args below meth c Q (E3 E b (tSt3 p i)) s.heap nL (cells + 1) (slots + 100) (pc + 5) (L, pR 900 :: rest, σ)) : pG p0 l e R s m args below meth c Q (E3 E b p) s.heap nL cells slots pc (L, pR 900 :: rest, σ) := by
  intro hlen ls H locs hl hH hS
  have h0 := x_callW (l := l) (e := e) (below := below) (Q := Q) (As := [pR 50]) (Vs := [.ref (q.2.1 i)]) (Vr := some (.ref (E.1 + 179))) (rest := rest.map (pv (E2 E b).1)) (P := TBp E p) C hfx hi hH hS hl.1 hd hv rfl (by rw [psz_map]; exact hsz) (fun v h => rfl) (fun v h => rfl) (src_str hn) hdR hlR hc hs (fun H1 locs1 hH1 hS1 => hg hlen ls H1 locs1 hl hH1 hS1)
  exact va_ldcS C.1 C.2.1 C.2.2.2.1 (hfx.2.2.2.2.2 i hi).1 hd0 h0
end XR
