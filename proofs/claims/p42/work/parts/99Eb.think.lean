/-! ===== the law's think(o, v): eleven thoughts, two texts ===== -/
def thF (c : Nat) (G U G' U' : Nat → Nat → Int) : Prop := allI c G' U' ∧ G' 180 = G 180 ∧ U' 183 = U 183 ∧ G' 182 = G 182 ∧ U' 185 = U 185 ∧ ∀ k, 196 ≤ k → G' k = G k ∧ U' k = U k
theorem thF_step {c : Nat} {G U Gi Ui : Nat → Nat → Int} {q : Int} {r : Option pV} {τ : pM} (h : thF c G U Gi Ui) (hp : thP c Gi Ui q r τ) : ∃ (x : Int) (G1 U1 G2 U2 : Nat → Nat → Int), r = some (pI (Int32.ofInt x)) ∧ τ = zM G1 U1 ∧ gh G1 U1 G2 U2 ∧ thF (c + 1) G U G2 U2 ∧ G2 168 0 = q := by
  obtain ⟨h1, h2, h3, h4, h5, h6⟩ := h
  obtain ⟨⟨x, hx⟩, G1, U1, hτ, G2, U2, g0, g1, g2, g3, g4, g5, g6, g7⟩ := hp
  exact ⟨x, G1, U1, G2, U2, hx, hτ, g0, ⟨g2, g3.trans h2, g4.trans h3, g5.trans h4, g6.trans h5, fun k hk => ⟨((g1 k hk).1).trans (h6 k hk).1, ((g1 k hk).2).trans (h6 k hk).2⟩⟩, g7⟩
theorem thF_tell {c n : Nat} {tx : Tx} {G U Gi Ui G' : Nat → Nat → Int} (h : thF c G U Gi Ui) (hp : tlF c Gi Ui tx n G') : thF c G U G' Ui := by
  obtain ⟨h1, h2, h3, h4, h5, h6⟩ := h
  obtain ⟨g1, g2, g3, g4, g5, g6⟩ := hp
  exact ⟨g1, g2.trans h2, h3, g3.trans h4, h5, fun k hk => ⟨(g4 k hk).trans (h6 k hk).1, (h6 k hk).2⟩⟩
def kPre (E : pEnv) (q : xA) (b : Nat) (As : List pV) (σ : pM) : Array Value → State → Prop := va_Pc (As.map (pv E.1)) (fun U => pHp E σ U.heap ∧ va_K E.2.1 classes E.2.2.2.1 U ∧ pNw U ∧ xFx (tCE b E) q U U.heap ∧ b ≤ U.heap.size)
theorem k_blind (E : pEnv) (q : xA) (b : Nat) (As : List pV) (σ : pM) : FrameBlind (kPre E q b As σ) := by
  intro a0 U g mk h
  obtain ⟨q0, q1, q2, q3, q4, q5⟩ := h
  exact ⟨q0, q1, va_K.moved (u := U) (U := U.calling g mk a0) (Vm.Alike.refl U.vm) q2, pNw.same (s := U) (U := U.calling g mk a0) rfl q3, xFx_any (u := U) (U := U.calling g mk a0) (Vm.Alike.refl U.vm) (fun _ _ h => vk_R.same (u := U) (U := U.calling g mk a0) rfl h) q4, q5⟩
theorem now_rg {c : Nat} {G U : Nat → Nat → Int} (hg : allI c G U) : 0 ≤ G 180 0 ∧ G 180 0 ≤ 99999 := by
  obtain ⟨e, -, -, d, f, g, -⟩ := hg.1
  exact ⟨d.1.2.1.1, g⟩
section KW
variable {p : Program} {l : Launch} {e : Env} {R : Room} {s : State} {m : MethodId} {args : Array Value} {below : List Frame} {meth : Method} {c : Code} {Q : State → Prop} {nL : Nat}
theorem pG_widen {E : pEnv} {H0 : Heap} {cells cells' slots slots' pc : Nat} {st : pSt} (h1 : cells ≤ cells') (h2 : slots ≤ slots') (hg : pG p l e R s m args below meth c Q E H0 nL cells' slots' pc st) : pG p l e R s m args below meth c Q E H0 nL cells slots pc st :=
  fun hlen hR ls H locs hl hH hS => W.widen h1 h2 (hg hlen hR ls H locs hl hH hS)
end KW
set_option maxHeartbeats 4000000 in
theorem met_think {l : Launch} {E : pEnv} (hE : pOkE E) {q : xA} {b c v : Nat} {G U : Nat → Nat → Int} (hA : ∀ a, E.2.2.2.2.2 a ↔ b ≤ a) (hc : c ≤ 580) (hg : allI c G U) (h0 : G 168 0 = 0) (hn : G 180 1 < 80) (hv : v < 2 ^ 24) : Met l yL_think (Cond.code yL_think cL_think 3 none :: tb) (cRm 9 24 744) (kPre E q b [pR 0, pI (nI v)] (zM G U)) (exPost E none (fun τ => ∃ G' U', τ = zM G' U' ∧ thF (c + 11) G U G' U' ∧ G' 168 0 = 0)) 24 744 E.2.2.2.2.2 := by
  refine Met.ofW (cc := cL_think) (maxL := 3) (ret := none) (by decide +kernel) rfl ?_
  intro p e s m args below meth cd s₁ B hml hvv
  obtain ⟨rfl, hH, hK, hnw, hfx, hb0⟩ := hvv
  have hts : ∀ w ∈ tb, w.before ([pR 0, pI (nI v)].map (pv E.1)).toArray s = true := fun w hw => atoms_spec (ws := Cond.code yL_think cL_think 3 none :: tb) B.pre w (List.mem_cons_of_mem _ hw)
  have hr := B.returns
  have hx := B.exec
  have hb := B.bytes
  have hlocks := B.notSynchronized
  have hown : s.vm.findClass RL = some m.cls := findClass_of_methodNamed B.named
  have C : ∀ cells slots, cells ≤ 24 → slots ≤ 744 → pCx p (headSpec (Cond.code yL_think cL_think 3 none :: tb) (cRm 9 24 744)).room s m ([pR 0, pI (nI v)].map (pv E.1)).toArray meth cd E s.heap RL cL_think 3 8 cells slots none :=
    fun cells slots hc hs => ⟨hx, hb, hml, hown, hts, hK, hE, Nat.le_refl _, Nat.le_refl _, hc, hs, hlocks, hnw, fun a k xs z => by cases z⟩
  have hRu : ∀ cells slots, cells ≤ 24 → slots ≤ 744 → pRules RL cL_think none (pRun l E 8) (fun v τ => v = none ∧ ∃ G' U', τ = zM G' U' ∧ thF (c + 11) G U G' U' ∧ G' 168 0 = 0) (pG p l e (headSpec (Cond.code yL_think cL_think 3 none :: tb) (cRm 9 24 744)).room s m ([pR 0, pI (nI v)].map (pv E.1)).toArray below meth cd (MQ below (exPost E none (fun τ => ∃ G' U', τ = zM G' U' ∧ thF (c + 11) G U G' U' ∧ G' 168 0 = 0)) ([pR 0, pI (nI v)].map (pv E.1)).toArray s 24 744 E.2.2.2.2.2) E s.heap 3 cells slots) := fun cells slots hcc hss => pG_sound (C cells slots hcc hss)
    (by
      intro pc L τ v hd hv
      cases hv.1)
    (by
      intro pc L τ hd hv hlen2 hR ls H locs hl hH1 hS
      exact W.widen hcc hss (W.vret hx hb hr (fun t ht _ => ⟨rfl, ⟨τ, hv.2, by rw [ht]; exact hH1⟩, hS.F ht⟩) hS.2.2 hd hlocks))
  have hr0 := hRu 0 0 (by decide) (by decide)
  have hr1 := hRu 12 372 (by decide) (by decide)
  have hr2 := hRu 24 744 (by decide) (by decide)
  have hRR : 9 ≤ (headSpec (Cond.code yL_think cL_think 3 none :: tb) (cRm 9 24 744)).room.frames ∧ 341 ≤ (headSpec (Cond.code yL_think cL_think 3 none :: tb) (cRm 9 24 744)).room.locals ∧ 0 + 12 ≤ (headSpec (Cond.code yL_think cL_think 3 none :: tb) (cRm 9 24 744)).room.cells ∧ 0 + 372 ≤ (headSpec (Cond.code yL_think cL_think 3 none :: tb) (cRm 9 24 744)).room.slots ∧ 12 + 12 ≤ (headSpec (Cond.code yL_think cL_think 3 none :: tb) (cRm 9 24 744)).room.cells ∧ 372 + 372 ≤ (headSpec (Cond.code yL_think cL_think 3 none :: tb) (cRm 9 24 744)).room.slots := ⟨Nat.le_of_ble_eq_true rfl, Nat.le_of_ble_eq_true rfl, Nat.le_of_ble_eq_true rfl, Nat.le_of_ble_eq_true rfl, Nat.le_of_ble_eq_true rfl, Nat.le_of_ble_eq_true rfl⟩
  generalize (headSpec (Cond.code yL_think cL_think 3 none :: tb) (cRm 9 24 744)).room = RR at hr0 hr1 hr2 C hRR ⊢
  have hgo : ∀ Gn0 Un0, thF c G U Gn0 Un0 → Gn0 168 0 = 0 → pG p l e RR s m ([pR 0, pI (nI v)].map (pv E.1)).toArray below meth cd (MQ below (exPost E none (fun τ => ∃ G' U', τ = zM G' U' ∧ thF (c + 11) G U G' U' ∧ G' 168 0 = 0)) ([pR 0, pI (nI v)].map (pv E.1)).toArray s 24 744 E.2.2.2.2.2) E s.heap 3 0 0 0 ([some (pR 0), some (pI (nI v)), none], [], zM Gn0 Un0) := by
    intro Gn0 Un0 f0 t0
    refine hr0.1 _ _ _ _ _ _ dL_think_0 ⟨rfl, _, rfl, ?_⟩
    refine hr0.1 _ _ _ _ _ _ dL_think_1 ⟨rfl, ?_⟩
    rw [show (Int8.ofInt 7).toInt32 = nI 7 from rfl]
    refine hr0.1 _ _ _ _ _ _ dL_think_3 ⟨rfl, _, _, _, rfl, by decide, ?_⟩
    rw [pk_rem (by omega) (by decide) (by decide)]
    refine hr0.1 _ _ _ _ _ _ dL_think_4 ⟨rfl, _, _, rfl, Nat.le_of_ble_eq_true rfl, ?_⟩
    rw [nI_iI (v % 7)]
    refine hr0.1 _ _ _ _ _ _ dL_think_5 ⟨rfl, _, rfl, ?_⟩
    refine hr0.1 _ _ _ _ _ _ dL_think_6 ⟨rfl, _, rfl, ?_⟩
    obtain ⟨r0, τ0, hF0, hp0⟩ := xt_foretell (c := c) (by omega) f0.1 (j := ((v % 7 : Nat) : Int)) (by unfold rg; omega)
    obtain ⟨x0, G0, U0, Gn1, Un1, rfl, rfl, g0, f1, t1⟩ := thF_step f0 hp0
    have t1 : Gn1 168 0 = 0 := t1.trans t0
    refine hr0.1 _ _ _ _ _ _ dL_think_7 ⟨rfl, yX11_foretell, 1, 11, 0, [pI (Int32.ofInt (((v % 7 : Nat) : Int)))], [], _, _, cv_L_83, rfl, rfl, by decide +kernel, by decide, (ok_X_foretell hE).mono (by decide) _ _ _ _ hF0, ?_⟩
    refine pG_re g0 ?_
    refine hr0.1 _ _ _ _ _ _ dL_think_10 ⟨rfl, _, _, rfl, rfl, ?_⟩
    refine hr0.1 _ _ _ _ _ _ dL_think_11 ⟨rfl, _, rfl, ?_⟩
    refine hr0.1 _ _ _ _ _ _ dL_think_12 ⟨rfl, _, rfl, ?_⟩
    refine hr0.1 _ _ _ _ _ _ dL_think_13 ⟨rfl, ?_⟩
    rw [show Int32.ofInt 3 = nI 3 from rfl]
    refine hr0.1 _ _ _ _ _ _ dL_think_14 ⟨rfl, _, _, _, rfl, ?_⟩
    rw [pk_shrN (by omega) (nI 3 &&& 31) 3 (by decide)]
    refine hr0.1 _ _ _ _ _ _ dL_think_15 ⟨rfl, ?_⟩
    rw [show Int32.ofInt 3 = nI 3 from rfl]
    refine hr0.1 _ _ _ _ _ _ dL_think_16 ⟨rfl, _, _, _, rfl, ?_⟩
    rw [pk_andN (by omega) 2 (by decide)]
    rw [nI_iI (v / 2 ^ 3 % 2 ^ 2)]
    obtain ⟨r1, τ1, hF1, hp1⟩ := xt_plan (c := c + 1) (by omega) f1.1 (i := v / 2 ^ 3 % 2 ^ 2) (by omega)
    obtain ⟨x1, G1, U1, Gn2, Un2, rfl, rfl, g1, f2, t2⟩ := thF_step f1 hp1
    have t2 : Gn2 168 0 = 0 := t2.trans t1
    refine hr0.1 _ _ _ _ _ _ dL_think_17 ⟨rfl, yX11_plan, 1, 11, 0, [pI (Int32.ofInt (((v / 2 ^ 3 % 2 ^ 2 : Nat) : Int)))], [], _, _, cv_L_86, rfl, rfl, by decide +kernel, by decide, (ok_X_plan hE).mono (by decide) _ _ _ _ hF1, ?_⟩
    refine pG_re g1 ?_
    refine hr0.1 _ _ _ _ _ _ dL_think_20 ⟨rfl, _, _, rfl, rfl, ?_⟩
    refine hr0.1 _ _ _ _ _ _ dL_think_21 ⟨rfl, _, rfl, ?_⟩
    refine hr0.1 _ _ _ _ _ _ dL_think_22 ⟨rfl, _, rfl, ?_⟩
    refine hr0.1 _ _ _ _ _ _ dL_think_23 ⟨rfl, ?_⟩
    rw [show Int32.ofInt 3 = nI 3 from rfl]
    refine hr0.1 _ _ _ _ _ _ dL_think_24 ⟨rfl, _, _, _, rfl, by decide, ?_⟩
    rw [pk_rem (by omega) (by decide) (by decide)]
    refine hr0.1 _ _ _ _ _ _ dL_think_25 ⟨rfl, _, rfl, ?_⟩
    refine hr0.1 _ _ _ _ _ _ dL_think_26 ⟨rfl, ?_⟩
    rw [show Int32.ofInt 5 = nI 5 from rfl]
    refine hr0.1 _ _ _ _ _ _ dL_think_27 ⟨rfl, _, _, _, rfl, ?_⟩
    rw [pk_shrN (by omega) (nI 5 &&& 31) 5 (by decide)]
    refine hr0.1 _ _ _ _ _ _ dL_think_28 ⟨rfl, ?_⟩
    rw [show Int32.ofInt 3 = nI 3 from rfl]
    refine hr0.1 _ _ _ _ _ _ dL_think_29 ⟨rfl, _, _, _, rfl, ?_⟩
    rw [pk_andN (by omega) 2 (by decide)]
    refine hr0.1 _ _ _ _ _ _ dL_think_30 ⟨rfl, ?_⟩
    rw [show Int32.ofInt 1 = nI 1 from rfl]
    rw [nI_iI (v % 3)]
    rw [nI_iI (v / 2 ^ 5 % 2 ^ 2)]
    rw [nI_iI (1)]
    obtain ⟨r2, τ2, hF2, hp2⟩ := xt_byRule (c := c + 2) (by omega) f2.1 (rl := ((v % 3 : Nat) : Int)) (v := ((v / 2 ^ 5 % 2 ^ 2 : Nat) : Int)) (by unfold rg; omega) (by unfold rg; omega)
    obtain ⟨x2, G2, U2, Gn3, Un3, rfl, rfl, g2, f3, t3⟩ := thF_step f2 hp2
    have t3 : Gn3 168 0 = 0 := t3.trans t2
    refine hr0.1 _ _ _ _ _ _ dL_think_31 ⟨rfl, yX11_byRule, 3, 11, 0, [pI (Int32.ofInt (((v % 3 : Nat) : Int))), pI (Int32.ofInt (((v / 2 ^ 5 % 2 ^ 2 : Nat) : Int))), pI (Int32.ofInt (((1 : Nat) : Int)))], [], _, _, cv_L_89, rfl, rfl, by decide +kernel, by decide, (ok_X_byRule hE).mono (by decide) _ _ _ _ hF2, ?_⟩
    refine pG_re g2 ?_
    refine hr0.1 _ _ _ _ _ _ dL_think_34 ⟨rfl, _, _, rfl, rfl, ?_⟩
    refine hr0.1 _ _ _ _ _ _ dL_think_35 ⟨rfl, _, rfl, ?_⟩
    refine hr0.1 _ _ _ _ _ _ dL_think_36 ⟨rfl, _, rfl, ?_⟩
    obtain ⟨r3, τ3, hF3, hp3⟩ := xt_shrunk (c := c + 3) f3.1 (j := ((v % 7 : Nat) : Int)) (by unfold rg; omega)
    obtain ⟨x3, G3, U3, Gn4, Un4, rfl, rfl, g3, f4, t4⟩ := thF_step f3 hp3
    have t4 : Gn4 168 0 = 0 := t4.trans t3
    refine hr0.1 _ _ _ _ _ _ dL_think_37 ⟨rfl, yX11_shrunk, 1, 11, 0, [pI (Int32.ofInt (((v % 7 : Nat) : Int)))], [], _, _, cv_L_92, rfl, rfl, by decide +kernel, by decide, (ok_X_shrunk hE).mono (by decide) _ _ _ _ hF3, ?_⟩
    refine pG_re g3 ?_
    refine hr0.1 _ _ _ _ _ _ dL_think_40 ⟨rfl, _, _, rfl, rfl, ?_⟩
    refine hr0.1 _ _ _ _ _ _ dL_think_41 ⟨rfl, _, rfl, ?_⟩
    refine hr0.1 _ _ _ _ _ _ dL_think_42 ⟨rfl, _, rfl, ?_⟩
    obtain ⟨r4, τ4, hF4, hp4⟩ := xt_moves (c := c + 4) f4.1 (j := ((v % 7 : Nat) : Int)) (by unfold rg; omega)
    obtain ⟨x4, G4, U4, Gn5, Un5, rfl, rfl, g4, f5, t5⟩ := thF_step f4 hp4
    have t5 : Gn5 168 0 = 0 := t5.trans t4
    refine hr0.1 _ _ _ _ _ _ dL_think_43 ⟨rfl, yX11_moves, 1, 11, 0, [pI (Int32.ofInt (((v % 7 : Nat) : Int)))], [], _, _, cv_L_95, rfl, rfl, by decide +kernel, by decide, (ok_X_moves hE).mono (by decide) _ _ _ _ hF4, ?_⟩
    refine pG_re g4 ?_
    refine hr0.1 _ _ _ _ _ _ dL_think_46 ⟨rfl, _, _, rfl, rfl, ?_⟩
    refine hr0.1 _ _ _ _ _ _ dL_think_47 ⟨rfl, _, rfl, ?_⟩
    refine hr0.1 _ _ _ _ _ _ dL_think_48 ⟨rfl, _, rfl, ?_⟩
    refine hr0.1 _ _ _ _ _ _ dL_think_49 ⟨rfl, _, rfl, ?_⟩
    rw [← nI_iI (v % 7)]
    refine hr0.1 _ _ _ _ _ _ dL_think_50 ⟨rfl, ?_⟩
    rw [show Int32.ofInt 1 = nI 1 from rfl]
    refine hr0.1 _ _ _ _ _ _ dL_think_51 ⟨rfl, _, _, _, rfl, ?_⟩
    rw [nI_add]
    refine hr0.1 _ _ _ _ _ _ dL_think_52 ⟨rfl, ?_⟩
    rw [show (Int8.ofInt 7).toInt32 = nI 7 from rfl]
    refine hr0.1 _ _ _ _ _ _ dL_think_54 ⟨rfl, _, _, _, rfl, by decide, ?_⟩
    rw [pk_rem (by omega) (by decide) (by decide)]
    rw [nI_iI (v % 7)]
    rw [nI_iI ((v % 7 + 1) % 7)]
    obtain ⟨r5, τ5, hF5, hp5⟩ := xt_together (c := c + 5) f5.1 (i := ((v % 7 : Nat) : Int)) (j := (((v % 7 + 1) % 7 : Nat) : Int)) (by unfold rg; omega) (by unfold rg; omega)
    obtain ⟨x5, G5, U5, Gn6, Un6, rfl, rfl, g5, f6, t6⟩ := thF_step f5 hp5
    have t6 : Gn6 168 0 = 0 := t6.trans t5
    refine hr0.1 _ _ _ _ _ _ dL_think_55 ⟨rfl, yX11_together, 2, 11, 0, [pI (Int32.ofInt (((v % 7 : Nat) : Int))), pI (Int32.ofInt ((((v % 7 + 1) % 7 : Nat) : Int)))], [], _, _, cv_L_98, rfl, rfl, by decide +kernel, by decide, (ok_X_together hE).mono (by decide) _ _ _ _ hF5, ?_⟩
    refine pG_re g5 ?_
    refine hr0.1 _ _ _ _ _ _ dL_think_58 ⟨rfl, _, _, rfl, rfl, ?_⟩
    refine hr0.1 _ _ _ _ _ _ dL_think_59 ⟨rfl, _, rfl, ?_⟩
    refine hr0.1 _ _ _ _ _ _ dL_think_60 ⟨rfl, _, rfl, ?_⟩
    refine hr0.1 _ _ _ _ _ _ dL_think_61 ⟨rfl, _, rfl, ?_⟩
    refine hr0.1 _ _ _ _ _ _ dL_think_62 ⟨rfl, ?_⟩
    rw [show (Int8.ofInt 7).toInt32 = nI 7 from rfl]
    rw [nI_iI 7]
    have hcn6 := xr_count f6.1 (t := 7) (by decide)
    refine hr0.1 _ _ _ _ _ _ dL_think_64 ⟨rfl, yX11_count, 1, 11, 0, [pI (Int32.ofInt ((7 : Nat) : Int))], _, _, _, cv_L_24, rfl, rfl, by decide +kernel, Nat.le_of_ble_eq_true rfl, (ok_X_count hE).mono (by decide) _ _ _ _ hcn6, ?_⟩
    have hnw6 := now_rg f6.1
    rw [show cntV (Gn6 180) (Gn6 168 0) 7 = Gn6 180 0 from rfl]
    refine hr0.1 _ _ _ _ _ _ dL_think_67 ⟨rfl, _, rfl, ?_⟩
    refine hr0.1 _ _ _ _ _ _ dL_think_68 ⟨rfl, ?_⟩
    rw [show (Int8.ofInt 7).toInt32 = nI 7 from rfl]
    refine hr0.1 _ _ _ _ _ _ dL_think_70 ⟨rfl, _, _, _, rfl, ?_⟩
    rw [pk_shrN (by omega) (nI 7 &&& 31) 7 (by decide)]
    refine hr0.1 _ _ _ _ _ _ dL_think_71 ⟨rfl, ?_⟩
    rw [show (Int8.ofInt 9).toInt32 = nI 9 from rfl]
    refine hr0.1 _ _ _ _ _ _ dL_think_73 ⟨rfl, _, _, _, rfl, by decide, ?_⟩
    rw [pk_rem (by omega) (by decide) (by decide)]
    rw [nI_iI (v / 2 ^ 7 % 9)]
    refine hr0.1 _ _ _ _ _ _ dL_think_74 ⟨rfl, _, _, _, rfl, ?_⟩
    rw [iI_add]
    obtain ⟨r6, τ6, hF6, hp6⟩ := xt_orders (c := c + 6) f6.1 (j := ((v % 7 : Nat) : Int)) (t := Gn6 180 0 + ((v / 2 ^ 7 % 9 : Nat) : Int)) (by unfold rg; omega) (by unfold rg; omega)
    obtain ⟨x6, G6, U6, Gn7, Un7, rfl, rfl, g6, f7, t7⟩ := thF_step f6 hp6
    have t7 : Gn7 168 0 = 0 := t7.trans t6
    refine hr0.1 _ _ _ _ _ _ dL_think_75 ⟨rfl, yX11_orders, 2, 11, 0, [pI (Int32.ofInt (((v % 7 : Nat) : Int))), pI (Int32.ofInt (Gn6 180 0 + ((v / 2 ^ 7 % 9 : Nat) : Int)))], [], _, _, cv_L_101, rfl, rfl, by decide +kernel, by decide, (ok_X_orders hE).mono (by decide) _ _ _ _ hF6, ?_⟩
    refine pG_re g6 ?_
    refine hr0.1 _ _ _ _ _ _ dL_think_78 ⟨rfl, _, _, rfl, rfl, ?_⟩
    refine hr0.1 _ _ _ _ _ _ dL_think_79 ⟨rfl, _, rfl, ?_⟩
    refine hr0.1 _ _ _ _ _ _ dL_think_80 ⟨rfl, _, rfl, ?_⟩
    refine hr0.1 _ _ _ _ _ _ dL_think_81 ⟨rfl, ?_⟩
    rw [show (Int8.ofInt 15).toInt32 = nI 15 from rfl]
    refine hr0.1 _ _ _ _ _ _ dL_think_83 ⟨rfl, _, _, _, rfl, ?_⟩
    rw [pk_andN (by omega) 4 (by decide)]
    refine hr0.1 _ _ _ _ _ _ dL_think_84 ⟨rfl, _, rfl, ?_⟩
    refine hr0.1 _ _ _ _ _ _ dL_think_85 ⟨rfl, ?_⟩
    rw [show Int32.ofInt 4 = nI 4 from rfl]
    refine hr0.1 _ _ _ _ _ _ dL_think_86 ⟨rfl, _, _, _, rfl, ?_⟩
    rw [pk_shrN (by omega) (nI 4 &&& 31) 4 (by decide)]
    refine hr0.1 _ _ _ _ _ _ dL_think_87 ⟨rfl, ?_⟩
    rw [show Int32.ofInt 1 = nI 1 from rfl]
    refine hr0.1 _ _ _ _ _ _ dL_think_88 ⟨rfl, _, _, _, rfl, ?_⟩
    rw [pk_andN (by omega) 1 (by decide)]
    refine hr0.1 _ _ _ _ _ _ dL_think_89 ⟨rfl, ?_⟩
    rw [show Int32.ofInt 0 = nI 0 from rfl]
    rw [nI_iI (v % 2 ^ 4)]
    rw [nI_iI (v / 2 ^ 4 % 2 ^ 1)]
    rw [nI_iI (0)]
    obtain ⟨r7, τ7, hF7, hp7⟩ := xt_gap (c := c + 7) f7.1 (x := ((v % 2 ^ 4 : Nat) : Int)) (i := ((v / 2 ^ 4 % 2 ^ 1 : Nat) : Int)) (w := ((0 : Nat) : Int)) (by unfold rg; omega) (by unfold rg; omega) (by unfold rg; omega)
    obtain ⟨x7, G7, U7, Gn8, Un8, rfl, rfl, g7, f8, t8⟩ := thF_step f7 hp7
    have t8 : Gn8 168 0 = 0 := t8.trans t7
    refine hr0.1 _ _ _ _ _ _ dL_think_90 ⟨rfl, yX11_gap, 3, 11, 0, [pI (Int32.ofInt (((v % 2 ^ 4 : Nat) : Int))), pI (Int32.ofInt (((v / 2 ^ 4 % 2 ^ 1 : Nat) : Int))), pI (Int32.ofInt (((0 : Nat) : Int)))], [], _, _, cv_L_104, rfl, rfl, by decide +kernel, by decide, (ok_X_gap hE).mono (by decide) _ _ _ _ hF7, ?_⟩
    refine pG_re g7 ?_
    refine hr0.1 _ _ _ _ _ _ dL_think_93 ⟨rfl, _, _, rfl, rfl, ?_⟩
    refine hr0.1 _ _ _ _ _ _ dL_think_94 ⟨rfl, _, rfl, ?_⟩
    refine hr0.1 _ _ _ _ _ _ dL_think_95 ⟨rfl, _, rfl, ?_⟩
    refine hr0.1 _ _ _ _ _ _ dL_think_96 ⟨rfl, ?_⟩
    rw [show (Int8.ofInt 7).toInt32 = nI 7 from rfl]
    rw [nI_iI 7]
    have hcn8 := xr_count f8.1 (t := 7) (by decide)
    refine hr0.1 _ _ _ _ _ _ dL_think_98 ⟨rfl, yX11_count, 1, 11, 0, [pI (Int32.ofInt ((7 : Nat) : Int))], _, _, _, cv_L_24, rfl, rfl, by decide +kernel, Nat.le_of_ble_eq_true rfl, (ok_X_count hE).mono (by decide) _ _ _ _ hcn8, ?_⟩
    have hnw8 := now_rg f8.1
    rw [show cntV (Gn8 180) (Gn8 168 0) 7 = Gn8 180 0 from rfl]
    refine hr0.1 _ _ _ _ _ _ dL_think_101 ⟨rfl, _, rfl, ?_⟩
    refine hr0.1 _ _ _ _ _ _ dL_think_102 ⟨rfl, ?_⟩
    rw [show (Int8.ofInt 7).toInt32 = nI 7 from rfl]
    refine hr0.1 _ _ _ _ _ _ dL_think_104 ⟨rfl, _, _, _, rfl, ?_⟩
    rw [pk_shrN (by omega) (nI 7 &&& 31) 7 (by decide)]
    refine hr0.1 _ _ _ _ _ _ dL_think_105 ⟨rfl, ?_⟩
    rw [show (Int8.ofInt 9).toInt32 = nI 9 from rfl]
    refine hr0.1 _ _ _ _ _ _ dL_think_107 ⟨rfl, _, _, _, rfl, by decide, ?_⟩
    rw [pk_rem (by omega) (by decide) (by decide)]
    rw [nI_iI (v / 2 ^ 7 % 9)]
    refine hr0.1 _ _ _ _ _ _ dL_think_108 ⟨rfl, _, _, _, rfl, ?_⟩
    rw [iI_add]
    refine hr0.1 _ _ _ _ _ _ dL_think_109 ⟨rfl, ?_⟩
    rw [show Int32.ofInt 5 = nI 5 from rfl]
    refine hr0.1 _ _ _ _ _ _ dL_think_110 ⟨rfl, ?_⟩
    rw [show Int32.ofInt 1 = nI 1 from rfl]
    rw [nI_iI (5)]
    rw [nI_iI (1)]
    obtain ⟨r8, τ8, hF8, hp8⟩ := xt_holes (c := c + 8) f8.1 (t := Gn8 180 0 + ((v / 2 ^ 7 % 9 : Nat) : Int)) (by omega)
    obtain ⟨x8, G8, U8, Gn9, Un9, rfl, rfl, g8, f9, t9⟩ := thF_step f8 hp8
    have t9 : Gn9 168 0 = 0 := t9.trans t8
    refine hr0.1 _ _ _ _ _ _ dL_think_111 ⟨rfl, yX11_holes, 3, 11, 0, [pI (Int32.ofInt (Gn8 180 0 + ((v / 2 ^ 7 % 9 : Nat) : Int))), pI (Int32.ofInt (((5 : Nat) : Int))), pI (Int32.ofInt (((1 : Nat) : Int)))], [], _, _, cv_L_107, rfl, rfl, by decide +kernel, by decide, (ok_X_holes hE).mono (by decide) _ _ _ _ hF8, ?_⟩
    refine pG_re g8 ?_
    refine hr0.1 _ _ _ _ _ _ dL_think_114 ⟨rfl, _, _, rfl, rfl, ?_⟩
    refine hr0.1 _ _ _ _ _ _ dL_think_115 ⟨rfl, _, rfl, ?_⟩
    refine hr0.1 _ _ _ _ _ _ dL_think_116 ⟨rfl, _, rfl, ?_⟩
    refine pG_at (b := b) (q := q) (rest := []) (C 0 0 (by decide) (by decide)) rfl hfx hA hb0 f9.1 t9 (by omega) dL_think_117 dL_think_120 (by decide) hRR.1 hRR.2.1 hRR.2.2.1 hRR.2.2.2.1 (fun Ga hGa => ?_)
    have fa := thF_tell f9 hGa
    refine hr1.1 _ _ _ _ _ _ dL_think_123 ⟨rfl, 142, _, _, rfl, rfl, fun h => absurd h (show ¬ ((1 : Int32) = 0) by decide), fun _ => ?_⟩
    refine hr1.1 _ _ _ _ _ _ dL_think_126 ⟨rfl, _, rfl, ?_⟩
    refine hr1.1 _ _ _ _ _ _ dL_think_127 ⟨rfl, _, rfl, ?_⟩
    refine hr1.1 _ _ _ _ _ _ dL_think_128 ⟨rfl, ?_⟩
    rw [show (Int8.ofInt 7).toInt32 = nI 7 from rfl]
    refine hr1.1 _ _ _ _ _ _ dL_think_130 ⟨rfl, _, _, _, rfl, ?_⟩
    rw [pk_andN (by omega) 3 (by decide)]
    refine hr1.1 _ _ _ _ _ _ dL_think_131 ⟨rfl, _, rfl, ?_⟩
    refine hr1.1 _ _ _ _ _ _ dL_think_132 ⟨rfl, ?_⟩
    rw [show Int32.ofInt 3 = nI 3 from rfl]
    refine hr1.1 _ _ _ _ _ _ dL_think_133 ⟨rfl, _, _, _, rfl, ?_⟩
    rw [pk_shrN (by omega) (nI 3 &&& 31) 3 (by decide)]
    refine hr1.1 _ _ _ _ _ _ dL_think_134 ⟨rfl, ?_⟩
    rw [show (Int8.ofInt 7).toInt32 = nI 7 from rfl]
    refine hr1.1 _ _ _ _ _ _ dL_think_136 ⟨rfl, _, _, _, rfl, ?_⟩
    rw [pk_andN (by omega) 3 (by decide)]
    refine hr1.1 _ _ _ _ _ _ dL_think_137 ⟨rfl, ?_⟩
    rw [show Int32.ofInt 1 = nI 1 from rfl]
    rw [nI_iI (v % 2 ^ 3)]
    rw [nI_iI (v / 2 ^ 3 % 2 ^ 3)]
    rw [nI_iI (1)]
    clear f9 t9
    have f9 := fa
    obtain ⟨r9, τ9, hF9, hp9⟩ := xt_costs (c := c + 9) (by omega) f9.1 (acc := ((v % 2 ^ 3 : Nat) : Int)) (rank := ((v / 2 ^ 3 % 2 ^ 3 : Nat) : Int)) (by omega) (by omega) (by rw [f9.2.1]; exact hn)
    obtain ⟨x9, G9, U9, Gn10, Un10, rfl, rfl, g9, f10, t10⟩ := thF_step f9 hp9
    refine hr1.1 _ _ _ _ _ _ dL_think_138 ⟨rfl, yX11_costs, 3, 11, 0, [pI (Int32.ofInt (((v % 2 ^ 3 : Nat) : Int))), pI (Int32.ofInt (((v / 2 ^ 3 % 2 ^ 3 : Nat) : Int))), pI (Int32.ofInt (((1 : Nat) : Int)))], [], _, _, cv_L_120, rfl, rfl, by decide +kernel, by decide, (ok_X_costs hE).mono (by decide) _ _ _ _ hF9, ?_⟩
    refine pG_re g9 ?_
    refine hr1.1 _ _ _ _ _ _ dL_think_141 ⟨rfl, _, _, rfl, rfl, ?_⟩
    refine hr1.1 _ _ _ _ _ _ dL_think_142 ⟨rfl, _, rfl, ?_⟩
    refine hr1.1 _ _ _ _ _ _ dL_think_143 ⟨rfl, _, rfl, ?_⟩
    refine hr1.1 _ _ _ _ _ _ dL_think_144 ⟨rfl, ?_⟩
    rw [show Int32.ofInt 2 = nI 2 from rfl]
    refine hr1.1 _ _ _ _ _ _ dL_think_145 ⟨rfl, _, _, _, rfl, ?_⟩
    rw [pk_shrN (by omega) (nI 2 &&& 31) 2 (by decide)]
    refine pG_at (b := b) (q := q) (rest := []) (C 12 372 (by decide) (by decide)) rfl hfx hA hb0 f10.1 t10 (by omega) dL_think_146 dL_think_149 (by decide) hRR.1 hRR.2.1 hRR.2.2.2.2.1 hRR.2.2.2.2.2 (fun Gb hGb => ?_)
    have fb := thF_tell f10 hGb
    refine hr2.1 _ _ _ _ _ _ dL_think_152 ⟨rfl, 164, _, _, rfl, rfl, fun h => absurd h (show ¬ ((1 : Int32) = 0) by decide), fun _ => ?_⟩
    refine hr2.1 _ _ _ _ _ _ dL_think_155 ⟨rfl, _, rfl, ?_⟩
    refine hr2.1 _ _ _ _ _ _ dL_think_156 ⟨rfl, _, rfl, ?_⟩
    refine hr2.1 _ _ _ _ _ _ dL_think_157 ⟨rfl, ?_⟩
    rw [show (Int8.ofInt 7).toInt32 = nI 7 from rfl]
    refine hr2.1 _ _ _ _ _ _ dL_think_159 ⟨rfl, _, _, _, rfl, ?_⟩
    rw [pk_andN (by omega) 3 (by decide)]
    rw [nI_iI (v % 2 ^ 3)]
    clear f10 t10
    have f10 := fb
    obtain ⟨r10, τ10, hF10, hp10⟩ := xt_earliest (c := c + 10) (by omega) f10.1 (acc := ((v % 2 ^ 3 : Nat) : Int)) (by omega)
    obtain ⟨x10, G10, U10, Gn11, Un11, rfl, rfl, g10, f11, t11⟩ := thF_step f10 hp10
    refine hr2.1 _ _ _ _ _ _ dL_think_160 ⟨rfl, yX11_earliest, 1, 11, 0, [pI (Int32.ofInt (((v % 2 ^ 3 : Nat) : Int)))], [], _, _, cv_L_123, rfl, rfl, by decide +kernel, by decide, (ok_X_earliest hE).mono (by decide) _ _ _ _ hF10, ?_⟩
    refine pG_re g10 ?_
    refine hr2.1 _ _ _ _ _ _ dL_think_163 ⟨rfl, _, _, rfl, rfl, ?_⟩
    exact hr2.1 _ _ _ _ _ _ dL_think_164 ⟨rfl, rfl, rfl, Gn11, Un11, rfl, f11, t11⟩
  rw [lg_entry_eq]
  have hent := lv_entry ([pR 0, pI (nI v)].map (pv E.1)) (n := 3) (by rw [pEnt_len]; exact Nat.le_of_ble_eq_true rfl)
  refine hgo G U ⟨hg, rfl, rfl, rfl, rfl, fun _ _ => ⟨rfl, rfl⟩⟩ h0 rfl ⟨RLo_L0 (As := [pR 0, pI (nI v)]) (n := 3) ⟨Or.inl (by decide), trivial⟩, trivial⟩ _ s.heap [] ?_ hH va_S.rf
  show lv_has _ 3 (pll E.1 0 (pL0 [pR 0, pI (nI v)] 3))
  rw [pL0, pll_ent]
  exact hent
