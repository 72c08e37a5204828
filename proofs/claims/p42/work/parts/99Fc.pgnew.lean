section NA2
variable {p : Program} {l : Launch} {e : Env} {R : Room} {s : State} {m : MethodId} {args : Array Value} {below : List Frame} {meth : Method} {c : Code} {Q : State → Prop} {cc : ByteArray} {nL d cells slots : Nat} {own : String} {scr : Option (Nat × Nat × (Nat → Int32))}
/-- no place of the frame speaks of the row k -/
def noK (k : Nat) (L : pLo) (S : List pV) : Prop := (∀ (j x : Nat), L[j]? = some (some (pR x)) → x ≠ k ∧ x ≠ 10000 + k) ∧ ∀ x, pR x ∈ S → x ≠ k ∧ x ≠ 10000 + k
theorem map_ad {ad ad' : Nat → Nat} : ∀ (S : List pV), (∀ x, pR x ∈ S → ad' x = ad x) → S.map (pv ad') = S.map (pv ad)
  | [], _ => rfl
  | .inl x :: t, h => by rw [List.map_cons, List.map_cons, map_ad t fun x hx => h x (List.mem_cons_of_mem _ hx)]; rfl
  | .inr (.inl x) :: t, h => by rw [List.map_cons, List.map_cons, map_ad t fun x hx => h x (List.mem_cons_of_mem _ hx)]; rfl
  | .inr (.inr x) :: t, h => by
    rw [List.map_cons, List.map_cons, map_ad t fun x hx => h x (List.mem_cons_of_mem _ hx)]
    have := h x List.mem_cons_self
    simp only [pv, this]
theorem RV_ad {ad ad' : Nat → Nat} (h : ∀ x, rl ad x → rl ad' x) : ∀ v : pV, RV ad v → RV ad' v
  | .inl _, _ => trivial
  | .inr (.inl _), _ => trivial
  | .inr (.inr x), hv => h x hv
set_option maxHeartbeats 1000000 in
theorem pG_newI {E0 : cEnv} {b k N pc : Nat} {X : Nat → Nat} {G U : Nat → Nat → Int} {L : pLo} {S : List pV} (C : pCx p R s m args meth c (E2 E0 b X) s.heap own cc nL d cells slots scr) (hk : 196 ≤ k ∧ k < 200) (hkd : kdd k = .inl (0, N)) (hN : N ≤ 100) (hb0 : E0.1 ≤ s.heap.size) (hd : decode cc pc = .ok (.newarray .int, 2)) (hno : noK k L S) (hc : cells + 1 ≤ R.cells) (hs : slots + N ≤ R.slots)
    (kk : ∀ a, pG p l e R s m args below meth c Q (E2 E0 b (Xn X k a)) s.heap nL (cells + 1) (slots + N) (pc + 2) (L, pR k :: S, zM (zR G k) (zR U k))) : pG p l e R s m args below meth c Q (E2 E0 b X) s.heap nL cells slots pc (L, pI (Int32.ofNat N) :: S, zM G U) := by
  obtain ⟨hx, hb, hml, hown, hts, hK, ⟨hT0, hT1, hT2⟩, hfr, hlo, hce, hsl, hlocks, hnw, hscr⟩ := C
  intro hlen hR ls H locs hl hH hS
  dsimp only at hlen hl hR hH
  refine va_newaK (atype := .int) (N := N) hx hb (hts _ lk_arr.1) rfl hd rfl (nI_pos (by omega)) (nI_clamp (by omega)) (by show N * _ ≤ _; first | (have : componentBytes (newarray.typeOf .int) ≤ 8 := by decide); exact Nat.le_trans (Nat.mul_le_mul_left N this) (by omega)) hc hs rfl (fun H1 cA0 q1 q2 q3 q4 q5 => ?_)
  have hcA := c_arrs (E := E0) hK hT0 (Or.inl rfl) q5
  subst hcA
  have hH1 : pHp (E2 E0 b (Xn X k H.size)) (zM (zR G k) (zR U k)) H1 := by
    refine pHp_new hk hkd (Nat.le_trans hb0 hS.1) hH ?_ q3
    show H1[H.size]? = some (vp_cell _ (N, .inl ((zM (zR G k) (zR U k)).1 k)))
    rw [show (zM (zR G k) (zR U k)).1 k = fun _ => 0 from by funext b; simp [zM, zR], vp_cell_i]
    exact q1
  have had : ∀ x, (x ≠ k ∧ x ≠ 10000 + k) → (E2 E0 b (Xn X k H.size)).1 x = (E2 E0 b X).1 x := fun x h => E2_Xn h.1 h.2
  have hk196 : k ∈ xsOf (E2 E0 b (Xn X k H.size)).1 := by
    unfold xsOf
    refine List.mem_filter.mpr ⟨by simp; omega, ?_⟩
    have : (E2 E0 b (Xn X k H.size)).1 (10000 + k) = 1 := by
      simp only [E2, Xn]
      rw [if_neg (by omega), if_neg (by omega), if_neg (by omega), if_neg (by omega), if_pos trivial]
    rw [this]; rfl
  have hgo := kk H.size hlen ⟨fun j v hj => RV_ad (fun x hx => rl_Xn hk hx) v (hR.1 j v hj), RS_cons.mpr ⟨Or.inr (Or.inr hk196), RS_all.mpr fun v hv => RV_ad (fun x hx => rl_Xn hk hx) v (RS_all.mp hR.2 v (List.mem_cons_of_mem _ hv))⟩⟩ ls H1 locs (by
      show lv_has ls nL (pll (E2 E0 b (Xn X k H.size)).1 0 L)
      rw [pll_ad L 0 fun j x hj => had x (hno.1 j x hj)]
      exact hl) hH1 ⟨Nat.le_trans hS.1 (by omega), fun q0 g1 g2 => (q3 q0 (Nat.lt_of_lt_of_le g1 hS.1)).trans (hS.2.1 q0 g1 g2), hS.2.2⟩
  have e3 : (pR k :: S).map (pv (E2 E0 b (Xn X k H.size)).1) = Value.ref H.size :: S.map (pv (E2 E0 b X).1) := by
    rw [List.map_cons, map_ad S fun x hx => had x (hno.2 x hx)]
    show Value.ref ((E2 E0 b (Xn X k H.size)).1 k) :: _ = _
    rw [E2_k hk]
  dsimp only at hgo
  rw [e3] at hgo
  exact hgo
set_option maxHeartbeats 1000000 in
theorem pG_newJ {E0 : cEnv} {b k N pc : Nat} {X : Nat → Nat} {G U : Nat → Nat → Int} {L : pLo} {S : List pV} (C : pCx p R s m args meth c (E2 E0 b X) s.heap own cc nL d cells slots scr) (hk : 196 ≤ k ∧ k < 200) (hkd : kdd k = .inl (2, N)) (hN : N ≤ 100) (hb0 : E0.1 ≤ s.heap.size) (hd : decode cc pc = .ok (.newarray .long, 2)) (hno : noK k L S) (hc : cells + 1 ≤ R.cells) (hs : slots + N ≤ R.slots)
    (kk : ∀ a, pG p l e R s m args below meth c Q (E2 E0 b (Xn X k a)) s.heap nL (cells + 1) (slots + N) (pc + 2) (L, pR k :: S, zM (zR G k) (zR U k))) : pG p l e R s m args below meth c Q (E2 E0 b X) s.heap nL cells slots pc (L, pI (Int32.ofNat N) :: S, zM G U) := by
  obtain ⟨hx, hb, hml, hown, hts, hK, ⟨hT0, hT1, hT2⟩, hfr, hlo, hce, hsl, hlocks, hnw, hscr⟩ := C
  intro hlen hR ls H locs hl hH hS
  dsimp only at hlen hl hR hH
  refine va_newaK (atype := .long) (N := N) hx hb (hts _ lk_arr.2.2) rfl hd rfl (nI_pos (by omega)) (nI_clamp (by omega)) (by show N * _ ≤ _; first | (have : componentBytes (newarray.typeOf .long) ≤ 8 := by decide); exact Nat.le_trans (Nat.mul_le_mul_left N this) (by omega)) hc hs rfl (fun H1 cA0 q1 q2 q3 q4 q5 => ?_)
  have hcA := c_arrs (E := E0) hK hT2 (Or.inr (Or.inr rfl)) q5
  subst hcA
  have hH1 : pHp (E2 E0 b (Xn X k H.size)) (zM (zR G k) (zR U k)) H1 := by
    refine pHp_new hk hkd (Nat.le_trans hb0 hS.1) hH ?_ q3
    show H1[H.size]? = some (vp_cell _ (N, .inr (.inl ((zM (zR G k) (zR U k)).2 k))))
    rw [show (zM (zR G k) (zR U k)).2 k = fun _ => 0 from by funext b; simp [zM, zR], vp_cell_l]
    exact q1
  have had : ∀ x, (x ≠ k ∧ x ≠ 10000 + k) → (E2 E0 b (Xn X k H.size)).1 x = (E2 E0 b X).1 x := fun x h => E2_Xn h.1 h.2
  have hk196 : k ∈ xsOf (E2 E0 b (Xn X k H.size)).1 := by
    unfold xsOf
    refine List.mem_filter.mpr ⟨by simp; omega, ?_⟩
    have : (E2 E0 b (Xn X k H.size)).1 (10000 + k) = 1 := by
      simp only [E2, Xn]
      rw [if_neg (by omega), if_neg (by omega), if_neg (by omega), if_neg (by omega), if_pos trivial]
    rw [this]; rfl
  have hgo := kk H.size hlen ⟨fun j v hj => RV_ad (fun x hx => rl_Xn hk hx) v (hR.1 j v hj), RS_cons.mpr ⟨Or.inr (Or.inr hk196), RS_all.mpr fun v hv => RV_ad (fun x hx => rl_Xn hk hx) v (RS_all.mp hR.2 v (List.mem_cons_of_mem _ hv))⟩⟩ ls H1 locs (by
      show lv_has ls nL (pll (E2 E0 b (Xn X k H.size)).1 0 L)
      rw [pll_ad L 0 fun j x hj => had x (hno.1 j x hj)]
      exact hl) hH1 ⟨Nat.le_trans hS.1 (by omega), fun q0 g1 g2 => (q3 q0 (Nat.lt_of_lt_of_le g1 hS.1)).trans (hS.2.1 q0 g1 g2), hS.2.2⟩
  have e3 : (pR k :: S).map (pv (E2 E0 b (Xn X k H.size)).1) = Value.ref H.size :: S.map (pv (E2 E0 b X).1) := by
    rw [List.map_cons, map_ad S fun x hx => had x (hno.2 x hx)]
    show Value.ref ((E2 E0 b (Xn X k H.size)).1 k) :: _ = _
    rw [E2_k hk]
  dsimp only at hgo
  rw [e3] at hgo
  exact hgo
/-- think(o, v) in the law's frame -/
theorem pG_think {E : pEnv} {q : xA} {b n pc v : Nat} {G U : Nat → Nat → Int} {rest : List pV} {L : pLo} {H0 : Heap} (C : pCx p R s m args meth c E H0 RL cc nL d cells slots scr) (hH0 : H0 = s.heap) (hfx : xFx (tCE b E) q s s.heap) (hA : ∀ a, E.2.2.2.2.2 a ↔ b ≤ a) (hb0 : b ≤ s.heap.size) (hn : n ≤ 580) (hg : allI n G U) (h0 : G 168 0 = 0) (h1 : G 180 1 < 80) (hv : v < 2 ^ 24) (hd1 : decode cc pc = .ok (.invokestatic 162, 3)) (hsz : psz rest ≤ 8) (hdR : 10 ≤ R.frames) (hlR : 382 ≤ R.locals) (hc : cells + 24 ≤ R.cells) (hs : slots + 744 ≤ R.slots)
    (kk : ∀ G' U', thF (n + 11) G U G' U' → G' 168 0 = 0 → pG p l e R s m args below meth c Q E H0 nL (cells + 24) (slots + 744) (pc + 3) (L, rest, zM G' U')) : pG p l e R s m args below meth c Q E H0 nL cells slots pc (L, pI (nI v) :: pR 0 :: rest, zM G U) := by
  subst hH0
  obtain ⟨hx, hb, hml, hown, hts, hK, hE, hfr, hlo, hce, hsl, hlocks, hnw, hscr⟩ := C
  intro hlen hR ls H locs hl hH hS
  dsimp only at hlen hl hR hH
  have hbH : b ≤ H.size := Nat.le_trans hb0 hS.1
  have hfxH : xFx (tCE b E) q s H := xFx_kept hfx fun a h1 h2 => hS.2.1 a h1 fun z => h2 ((hA a).mp z)
  obtain ⟨w1, w2, w3, hy⟩ := cs_L_162
  refine W.eq (g2 := F0 m pc ls ((([pR 0, pI (nI v)] : List pV).map (pv E.1)).reverse ++ rest.map (pv E.1))) rfl ?_
  have hrunT := va_runS (R := R) (l := l) (e := e) (below := below) (meth := meth) (As := ([pR 0, pI (nI v)] : List pV).map (pv E.1)) (rest := rest.map (pv E.1)) (H := H) (locs := locs) (cells := cells) (slots := slots) (g := F0 m pc ls ((([pR 0, pI (nI v)] : List pV).map (pv E.1)).reverse ++ rest.map (pv E.1))) ⟨hx, hb, hml, hown, hts⟩ (met_think (l := l) hE (q := q) hA hn hg h0 h1 hv) ⟨callB_of 2 hts (tbl_goodIn fun w hw => (List.mem_cons.mp hw).elim (fun z => z ▸ jq_think) id) rfl rfl rfl (hts _ w3) (hts _ w1) hy ⟨hdR, by show 8 + (3 + 11) + 360 ≤ _; omega⟩, hts _ w2⟩ ⟨k_blind _ _ _ _ _, fun U0 hU hW => ⟨rfl, by rw [hU]; exact hH, va_K.moved hW.alike hK, hnw.warm hW, by rw [hU]; exact xFx_warm hW hfxH, by rw [hU]; exact hbH⟩⟩ rfl rfl hl.1 rfl (lv_room (by rw [psz_map]; exact hsz)) hd1 ⟨hc, hs⟩
  refine run_after (rv := none) (Φ := fun H2 => ∃ G' U', (thF (n + 11) G U G' U' ∧ G' 168 0 = 0) ∧ pHp E (zM G' U') H2) hrunT (fun st v0 t h1 hq => ?_) (fun H2 locs2 hΦ hz2 hk2 hl2 => ?_)
  · obtain ⟨g1, ⟨τ, ⟨G', U', rfl, g2⟩, g3⟩, g4⟩ := hq
    injection g1 with g1
    exact ⟨g1, ⟨G', U', g2, g3⟩, g4⟩
  obtain ⟨G', U', hG', hH2⟩ := hΦ
  exact kk G' U' hG'.1 hG'.2 hlen ⟨hR.1, RS_all.mpr fun v0 hv0 => RS_all.mp hR.2 v0 (List.mem_cons_of_mem _ (List.mem_cons_of_mem _ hv0))⟩ ls H2 locs2 hl hH2 (hS.after hz2 hk2 hl2)
/-- a piece of the code, by its meaning -/
theorem sx_wp {G : Nat → pSt → Prop} {RT : Option pV → pM → Prop} {pc pN pB pC : Nat} {sc : sC} {L : pLo} {σ : pM} (h : SX G RT pc pN pB pC sc) (hw : WpS sc L σ (fun L σ => G pN (L, [], σ)) noQ noQ RT) : G pc (L, [], σ) := by
  obtain ⟨o, ho, hp⟩ := hw
  refine h L σ o ho ?_
  rcases o with ⟨L1, σ1⟩ | ⟨L1, σ1⟩ | ⟨L1, σ1⟩ | ⟨r, σ1⟩
  · exact hp
  · exact hp.elim
  · exact hp.elim
  · exact hp
theorem xb_wp {G : Nat → pSt → Prop} {pc pt pf : Nat} {cb : eB} {L : pLo} {σ : pM} (h : XB G 0 pc pt pf cb) (hw : WpB cb L σ (fun τ => G pt (L, [], τ)) (fun τ => G pf (L, [], τ))) : G pc (L, [], σ) := by
  obtain ⟨v, τ, h1, h2, h3⟩ := hw
  refine h L [] σ v τ (Nat.le_refl _) h1 ?_
  cases v with
  | true => exact h2 rfl
  | false => exact h3 rfl
end NA2
