/-! ===== tell(o, arms(v)) in a frame of the law ===== -/
def kdFd (k : Nat) : Bool := match kd[k]? with
  | some (.inr (_, fs)) => fs.all fun o => match o with
    | some d => decide (d < 179) || d == 900
    | none => true
  | _ => true
theorem kd_fd : ∀ k, k < 179 → kdFd k = true := by decide +kernel
/-- what of the addresses the world reads -/
def adSame (a a' : Nat → Nat) : Prop := ∀ k, k < 200 ∨ k = 900 ∨ (10196 ≤ k ∧ k < 10200) → a' k = a k
theorem pW_ad {E E' : pEnv} (h : adSame E.1 E'.1) (h2 : E'.2.2.1 = E.2.2.1) (w : va_W) (σ : pM) : pW E' w σ = pW E w σ := by
  have hx : xsOf E'.1 = xsOf E.1 := by
    unfold xsOf
    refine List.filter_congr fun k hk => ?_
    rw [h (10000 + k) (Or.inr (Or.inr (by simp at hk; omega)))]
  unfold pW rls
  rw [hx]
  congr 1
  refine List.map_congr_left fun k hk => ?_
  have hk2 : k < 179 ∨ (196 ≤ k ∧ k < 200) := by
    rcases List.mem_append.mp hk with g | g
    · exact Or.inl (List.mem_range.mp g)
    · have h2 := (List.mem_filter.mp g).1
      simp at h2
      omega
  rw [h k (Or.inl (by omega))]
  congr 1
  unfold kdd
  cases hq : kd[k]? with
  | none => simp [pE, h2]
  | some q =>
    rcases q with ⟨t, n⟩ | ⟨ci, fs⟩
    · match t with
      | 0 => simp [pE, h2]
      | 1 => simp [pE, h2]
      | t + 2 => simp [pE, h2]
    · have h3 : k < 179 := by
        rcases hk2 with g | g
        · exact g
        · have := kd_rows k (by omega) g.1
          unfold kdRow at this
          rw [hq] at this
          cases this
      have h4 := kd_fd k h3
      unfold kdFd at h4
      rw [hq] at h4
      show (Sum.inr (ci, pfs E'.1 (σ.1 k) 0 fs) : va_E) = Sum.inr (ci, pfs E.1 (σ.1 k) 0 fs)
      congr 2
      refine List.ext_getElem? fun j => ?_
      rw [pfs_get, pfs_get]
      cases hj : fs[j]? with
      | none => rfl
      | some o =>
        cases o with
        | none => rfl
        | some d =>
          have h5 := List.all_eq_true.mp h4 (some d) (List.mem_of_getElem? hj)
          have h6 : d < 179 ∨ d = 900 := by simpa using h5
          simp only [Option.map_some]
          rw [h d (by omega)]
theorem pHp_ad {E E' : pEnv} {σ : pM} {H : Heap} (h : adSame E.1 E'.1) (h1 : E'.2.1 = E.2.1) (h2 : E'.2.2.1 = E.2.2.1) (h3 : ∀ w, E.2.2.2.2.1 w → E'.2.2.2.2.1 w) (h4 : ∀ a, E.2.2.2.2.2 a → a < H.size → E'.2.2.2.2.2 a) (hH : pHp E σ H) : pHp E' σ H := by
  obtain ⟨w, hw, hP, hD⟩ := hH
  refine ⟨w, h3 w hw, by rw [h1, pW_ad h h2]; exact hP, by rw [pW_ad h h2]; exact ⟨hD.1, fun k q hk => h4 _ (hD.2 k q hk) ((hP k q hk).lt)⟩⟩
/-- the surroundings with a String at label 6000 -/
def ES (E : pEnv) (as sv : Nat) : pEnv := (fun k => if k = 6000 then as else E.1 k, E.2.1, E.2.2.1, E.2.2.2.1, E.2.2.2.2.1, fun a => E.2.2.2.2.2 a ∧ a ≠ as ∧ a ≠ sv)
theorem ES_ad (E : pEnv) (as sv : Nat) : adSame E.1 (ES E as sv).1 := fun k hk => if_neg (by omega)
theorem exPost_blind : True := trivial
theorem tl_blind (E : pEnv) (q : xA) (b sv : Nat) (tx : Tx) (As : List pV) (σ : pM) : FrameBlind (tlPre E q b sv tx As σ) := by
  intro a0 U g mk h
  obtain ⟨q0, q1, q2, q3, q4, q5, q6, q7⟩ := h
  exact ⟨q0, q1, va_K.moved (u := U) (U := U.calling g mk a0) (Vm.Alike.refl U.vm) q2, pNw.same (s := U) (U := U.calling g mk a0) rfl q3, xFx_any (u := U) (U := U.calling g mk a0) (Vm.Alike.refl U.vm) (fun _ _ h => vk_R.same (u := U) (U := U.calling g mk a0) rfl h) q4, sStr.moved (u := U) (U := U.calling g mk a0) (Vm.Alike.refl U.vm) q5, q6, q7⟩
section AT
variable {p : Program} {l : Launch} {e : Env} {R : Room} {s : State} {m : MethodId} {args : Array Value} {below : List Frame} {meth : Method} {c : Code} {Q : State → Prop} {cc : ByteArray} {nL d cells slots : Nat} {scr : Option (Nat × Nat × (Nat → Int32))}
theorem run_any2 {H : Heap} {locs : List Loc} {mc ms pc : Nat} {A B : Nat → Prop} {Φ : Value → Heap → Prop} {Qa : State → Outcome → State → Prop} {ls : Array Slot} {st0 rest : List Value} (hr : va_Run p l e R s m args below meth c H locs cells slots mc ms (F0 m pc ls st0) rest Qa A) (hQ : ∀ st v t, st.heap = H → Qa st (.returned v) t → ∃ rv, v = some rv ∧ Φ rv t.heap ∧ va_F B st t)
    (kk : ∀ (rv : Value) (H1 : Heap) (locs1 : List Loc), Φ rv H1 → H.size ≤ H1.size → (∀ q : Nat, q < H.size → ¬ B q → H1[q]? = H[q]?) → (∀ q ∈ locs1, q ∈ locs ∨ A q.base) → W p l e R s m args below meth c H1 locs1 (cells + mc) (slots + ms) Q (F0 m (pc + 3) ls (rv :: rest))) : W p l e R s m args below meth c H locs cells slots Q (F0 m pc ls st0) := by
  intro T hT X
  obtain ⟨v, st₀, t, T', L2, h0, X', hL, e1, e2, hq, st⟩ := hr T hT X
  obtain ⟨rv, rfl, hb2, hz, hk2⟩ := hQ _ _ _ h0 hq
  rw [h0] at hz hk2
  obtain ⟨t2, a1, b1⟩ := kk rv T'.heap (locs ++ L2) (by rw [e1]; exact hb2) (by rw [e1]; exact hz) (fun q h1 h2 => by rw [e1]; exact hk2 q h1 h2) (fun q hq => by
      rcases List.mem_append.mp hq with h | h
      · exact Or.inl h
      · exact Or.inr (hL q h)) T' rfl X'
  exact ⟨t2, st t2 a1, b1⟩
set_option maxHeartbeats 2000000 in
theorem pG_at {E : pEnv} {q : xA} {b n pc v : Nat} {G U : Nat → Nat → Int} {rest : List pV} {L : pLo} {H0 : Heap} (C : pCx p R s m args meth c E H0 RL cc nL d cells slots scr) (hH0 : H0 = s.heap) (hfx : xFx (tCE b E) q s s.heap) (hA : ∀ a, E.2.2.2.2.2 a ↔ b ≤ a) (hb0 : b ≤ s.heap.size) (hg : allI n G U) (h0 : G 168 0 = 0) (hv : v < 2 ^ 25) (hd1 : decode cc pc = .ok (.invokestatic 110, 3)) (hd2 : decode cc (pc + 3) = .ok (.invokestatic 116, 3)) (hsz : psz rest ≤ 7) (hdR : 9 ≤ R.frames) (hlR : 341 ≤ R.locals) (hc : cells + 12 ≤ R.cells) (hs : slots + 372 ≤ R.slots)
    (kk : ∀ G', tlF n G U (aT3 v) (aT3 v).2 G' → pG p l e R s m args below meth c Q E H0 nL (cells + 12) (slots + 372) (pc + 6) (L, pI 1 :: rest, zM G' U)) : pG p l e R s m args below meth c Q E H0 nL cells slots pc (L, pI (nI v) :: pR 0 :: rest, zM G U) := by
  subst hH0
  obtain ⟨hx, hb, hml, hown, hts, hK, hE, hfr, hlo, hce, hsl, hlocks, hnw, hscr⟩ := C
  intro hlen hR ls H locs hl hH hS
  dsimp only at hlen hl hR hH
  have hbH : b ≤ H.size := Nat.le_trans hb0 hS.1
  have hfree : ∀ a : Nat, a < s.heap.size → ¬ cFree (tCE b E) a → H[a]? = s.heap[a]? := fun a h1 h2 => hS.2.1 a h1 fun z => h2 ((hA a).mp z)
  have hfxH : xFx (tCE b E) q s H := xFx_kept hfx hfree
  obtain ⟨w1, w2, w3, hy⟩ := cs_L_110
  have hcE : cOkE (tCE b E) := hE
  refine W.eq (g2 := F0 m pc ls (([.int (nI v)] : List Value).reverse ++ (.ref (E.1 0) :: rest.map (pv E.1)))) rfl ?_
  have hcat : ((Value.ref (E.1 0) :: rest.map (pv E.1)).map fun v => v.category).sum ≤ 8 := by
    rw [List.map_cons, List.sum_cons, psz_map]
    show 1 + _ ≤ 8
    omega
  have hrunA := va_runS (R := R) (l := l) (e := e) (below := below) (meth := meth) (As := [.int (nI v)]) (rest := .ref (E.1 0) :: rest.map (pv E.1)) (H := H) (locs := locs) (cells := cells) (slots := slots) (g := F0 m pc ls (([.int (nI v)] : List Value).reverse ++ (.ref (E.1 0) :: rest.map (pv E.1)))) ⟨hx, hb, hml, hown, hts⟩ (met_arms (l := l) (q := q) hcE hv) ⟨callB_of 1 hts (tbl_goodIn fun w hw => (List.mem_cons.mp hw).elim (fun z => z ▸ jq_arms) id) rfl rfl rfl (hts _ w3) (hts _ w1) hy ⟨hdR, by show 8 + (2 + 11) + 320 ≤ _; omega⟩, hts _ w2⟩ ⟨a_blind _ q _, fun U hU hW => ⟨rfl, by rw [hU]; exact hbH, va_K.moved hW.alike hK, hnw.warm hW, by rw [hU]; exact xFx_warm hW hfxH⟩⟩ rfl rfl hl.1 rfl (lv_room hcat) hd1 ⟨hc, hs⟩
  refine run_any2 (B := fun a => H.size ≤ a) (Φ := fun rv H1 => ∃ as base, rv = .ref as ∧ H.size ≤ base ∧ sW (base, (tCE b E).2) as (aT3 v).2 (aT3 v).1 H1) hrunA (fun st v0 t h1 hq => ?_) (fun rv H1 locs1 hΦ hz1 hk1 hl1 => ?_)
  · obtain ⟨as, base, g1, g2, g3, g4⟩ := hq
    injection g1 with g1
    rw [h1] at g2
    exact ⟨_, g1, ⟨as, base, rfl, g2, g3⟩, by rw [h1] at g4; exact g4⟩
  obtain ⟨as, base, rfl, hba, hsw⟩ := hΦ
  obtain ⟨sv, a1, a2, a3, a4, a5⟩ := sStr_of (E := (base, (tCE b E).2)) hts hcE hK hsw
  have hk1' : ∀ q0 : Nat, q0 < H.size → H1[q0]? = H[q0]? := fun q0 g => hk1 q0 g (fun z => by have : H.size ≤ q0 := z; omega)
  have ha3 : base ≤ as := a3
  have ha4 : base ≤ sv := a4
  have hS1 : va_S E.2.2.2.2.2 s.heap H1 locs1 := hS.after hz1 (fun q0 g _ => hk1' q0 g) (fun q0 hq => (hl1 q0 hq).imp id fun z => (hA _).mpr z)
  have hH1 : pHp (ES E as sv) (zM G U) H1 := pHp_kept (pHp_ad (ES_ad E as sv) rfl rfl (fun _ z => z) (fun a ha hlt => ⟨ha, by omega, by omega⟩) hH) hk1'
  have hstr : sStr as sv (aT3 v).2 (aT3 v).1 (ES E as sv).2.2.2.2.2 s H1 := a5 _ (fun z => z.2.1 rfl) (fun z => z.2.2 rfl)
  obtain ⟨x1, x2, x3, hy2⟩ := cs_L_116
  have hfxH1 : xFx (tCE b E) q s H1 := xFx_kept hfx fun a h1 h2 => hS1.2.1 a h1 fun z => h2 ((hA a).mp z)
  have hES : pOkE (ES E as sv) := hE
  refine W.eq (g2 := F0 m (pc + 3) ls (([.ref (E.1 0), .ref as] : List Value).reverse ++ rest.map (pv E.1))) rfl ?_
  have hpre0 : [pR 0, pR 6000].map (pv (ES E as sv).1) = [.ref (E.1 0), .ref as] := rfl
  have hrunT := va_runS (R := R) (l := l) (e := e) (below := below) (meth := meth) (As := [.ref (E.1 0), .ref as]) (rest := rest.map (pv E.1)) (H := H1) (locs := locs1) (cells := cells + 12) (slots := slots + 372) (g := F0 m (pc + 3) ls (([.ref (E.1 0), .ref as] : List Value).reverse ++ rest.map (pv E.1))) ⟨hx, hb, hml, hown, hts⟩ (met_tell (l := l) hES (q := q) (b := b) (sv := sv) hg h0 (Nat.le_trans (aT3_2 v) (by decide)) (tx8_3 v) (aT_letters v)) ⟨callB_of 2 hts (tbl_goodIn fun w hw => (List.mem_cons.mp hw).elim (fun z => z ▸ jq_tell) id) rfl rfl rfl (hts _ x3) (hts _ x1) hy2 ⟨by show 6 + 1 ≤ _; omega, by show 8 + (3 + 11) + 240 ≤ _; omega⟩, hts _ x2⟩ ⟨tl_blind _ _ _ _ _ _ _, fun U0 hU hW => ⟨rfl, by rw [hU]; exact hH1, va_K.moved hW.alike hK, hnw.warm hW, by
    refine ⟨by rw [hU]; exact xFx_warm hW hfxH1, by rw [hU]; exact hstr.moved hW.alike, fun a z => (hA a).mp z.1, fun a z => ?_⟩
    rw [hU] at z
    exact ⟨(hA a).mpr (by omega), by omega, by omega⟩⟩⟩ rfl rfl hl.1 rfl (lv_room (by rw [psz_map]; omega)) hd2 ⟨by show cells + 12 + 0 ≤ _; omega, by show slots + 372 + 0 ≤ _; omega⟩
  refine run_any (Φ := fun rv H2 => rv = .int 1 ∧ ∃ G', tlF n G U (aT3 v) (aT3 v).2 G' ∧ pHp (ES E as sv) (zM G' U) H2) hrunT (fun st v0 t h1 hq => ?_) (fun rv H2 locs2 hΦ hz2 hk2 hl2 => ?_)
  · obtain ⟨g1, ⟨τ, ⟨G', rfl, g2⟩, g3⟩, g4⟩ := hq
    injection g1 with g1
    exact ⟨_, g1, ⟨rfl, G', g2, g3⟩, g4⟩
  obtain ⟨rfl, G', hG', hH2⟩ := hΦ
  have hS2 : va_S E.2.2.2.2.2 s.heap H2 locs2 := hS1.after hz2 (fun q0 g1 g2 => hk2 q0 g1 fun z => g2 z.1) (fun q0 hq => (hl2 q0 hq).imp id fun z => z.1)
  exact kk G' hG' hlen ⟨hR.1, RS_cons.mpr ⟨trivial, RS_all.mpr fun v0 hv0 => RS_all.mp hR.2 v0 (List.mem_cons_of_mem _ (List.mem_cons_of_mem _ hv0))⟩⟩ ls H2 locs2 hl (pHp_ad (E := ES E as sv) (fun k hk => ((ES_ad E as sv) k hk).symm) rfl rfl (fun _ z => z) (fun a ha _ => ha.1) hH2) hS2
end AT
