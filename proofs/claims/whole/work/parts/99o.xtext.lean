/-! ===== GangColumns.text ===== -/
theorem jy_yJ4_length_8abf5 : YK yJ4_length_8abf5 0 := ⟨by decide, by decide, by decide +kernel⟩
theorem tv_X11_201 : TV RX11 201 yJ4_length_8abf5 0 RJ4 := ⟨tb_at 1016 (by decide +kernel) rfl, tb_at 1017 (by decide +kernel) rfl, Or.inl (tb_at 1018 (by decide +kernel) rfl), tb_at 105 (by decide +kernel) rfl, jy_yJ4_length_8abf5⟩
theorem jy_yJ4_charAt_5068e : YK yJ4_charAt_5068e 1 := ⟨by decide, by decide, by decide +kernel⟩
theorem tv_X11_205 : TV RX11 205 yJ4_charAt_5068e 1 RJ4 := ⟨tb_at 1023 (by decide +kernel) rfl, tb_at 1024 (by decide +kernel) rfl, Or.inl (tb_at 1025 (by decide +kernel) rfl), tb_at 105 (by decide +kernel) rfl, jy_yJ4_charAt_5068e⟩
theorem jy_tell : YK yX6_tell 2 := ⟨by decide, by decide, by decide +kernel⟩
theorem cv_X11_tell : CLV RX11 197 yX6_tell 2 6 := ⟨tb_at 826 (by decide +kernel) rfl, tb_at 827 (by decide +kernel) rfl, tb_at 828 (by decide +kernel) rfl, tb_at 92 (by decide +kernel) rfl, jy_tell, by decide, _, _, rfl⟩
theorem fl_X11_59 : FL RX11 59 11 7 := ⟨_, _, _, _, ck11, by decide, tb_at 632 (by decide +kernel) rfl⟩
theorem jq_text : Cond.code yX11_text cX11_text 3 (some .int) ∈ tb := tb_at 825 (by decide +kernel) rfl
/-- what text answers of a text -/
def tAns (p : Tx) (ix : Int32) : Int32 := if ix < 0 then nI p.2 else if ix < nI p.2 then nI (p.1 ix.toNatClampNeg) else -2
theorem TBp_SBP {E : cEnv} {p : Tx} : ∀ w, TBp E p w → SBP E w := by
  rintro w ⟨v, m, ml, f, h1, h2, h3, h4, -⟩
  exact ⟨v, p.2, m, ml, f, h1, h2, h3, h4⟩
theorem pHp_mono {E : cEnv} {b : Nat} {P P' : va_W → Prop} {σ : pM} {H : Heap} (hP : ∀ w, P w → P' w) (h : pHp (EP E b P) σ H) : pHp (EP E b P') σ H := by
  obtain ⟨w, h1, h2, h3⟩ := h
  have e0 : pW (EP E b P') w σ = pW (EP E b P) w σ := by
    unfold pW
    rw [pWl_env (E := EP E b P) (E' := EP E b P') rfl rfl]
  exact ⟨w, hP w h1, by rw [e0]; exact h2, by rw [e0]; exact h3⟩
set_option maxHeartbeats 2000000 in
theorem text_run {l : Launch} {E : cEnv} (hE : cOkE E) {b : Nat} {q : xA} {σ : pM} {job ix r : Int32} (h : ((F_X_isJob [pR 0, pI job] σ = some (some (pI (zI false)), σ) ∨ ix < -1) ∧ r = -1 ∧ ∃ z, F_X_isJob [pR 0, pI job] σ = some (some (pI (zI z)), σ)) ∨ (F_X_isJob [pR 0, pI job] σ = some (some (pI (zI true)), σ) ∧ ¬ ix < -1 ∧ ∃ TE : Tx, TE.2 ≤ 46 ∧ xRun l E b q 7 25 2500 yX6_tell [pR 1, pI job, pR 900] σ (TBp E TE) none ∧ r = tAns TE ix)) : xRun l E b q 20 40 3000 yX11_text [pR 0, pI job, pI ix] σ (SBP E) (some (pI r)) := by
  refine ⟨cX11_text, 3, some .int, jq_text, by decide, Met.ofW (cc := cX11_text) (maxL := 3) (ret := some .int) (by decide +kernel) rfl ?_⟩
  intro p e s m args below meth c s₁ B hml hv
  obtain ⟨rfl, hH, hK, hnw, hfx⟩ := hv
  have hts : ∀ w ∈ tb, w.before ([pR 0, pI job, pI ix].map (pv (E2 E b).1)).toArray s = true := fun w hw => atoms_spec (ws := Cond.code yX11_text cX11_text 3 (some .int) :: tb) B.pre w (List.mem_cons_of_mem _ hw)
  have hr := B.returns
  have hx := B.exec
  have hb := B.bytes
  have hlocks := B.notSynchronized
  have C0 : pCx p (headSpec (Cond.code yX11_text cX11_text 3 (some .int) :: tb) (cRm 20 40 3000)).room s m ([pR 0, pI job, pI ix].map (pv (E2 E b).1)).toArray meth c (E2 E b) s.heap RX11 cX11_text 3 19 0 0 none :=
    ⟨hx, hb, hml, findClass_of_methodNamed B.named, hts, hK, hE, Nat.le_refl _, Nat.le_refl _, Nat.zero_le _, Nat.zero_le _, hlocks, hnw, fun a k xs z => by cases z⟩
  have C := fun (ce sl : Nat) (g1 : ce ≤ 40) (g2 : sl ≤ 3000) => pCx_at C0 (cells := ce) (slots := sl) g1 g2
  obtain ⟨Q, hQ⟩ : ∃ Q, Q = MQ below (pQc (EP E b (SBP E)) (some (pI r)) σ) ([pR 0, pI job, pI ix].map (pv (E2 E b).1)).toArray s 40 3000 (cFree E) := ⟨_, rfl⟩
  have hR := fun (P : va_W → Prop) (ce sl : Nat) (g1 : ce ≤ 40) (g2 : sl ≤ 3000) => pG_sound (l := l) (e := e) (below := below) (Q := Q) (RT := fun _ _ => False) (pCx_EP (P := P) (C ce sl g1 g2)) (fun _ _ _ _ _ h => h.elim) (fun _ _ _ _ h => h.elim)
  have hret : ∀ (P : va_W → Prop) (ce sl pc : Nat) (L : pLo), (∀ w, P w → SBP E w) → ce ≤ 40 → sl ≤ 3000 → decode cX11_text pc = .ok (.ireturn, 1) → pG p l e (headSpec (Cond.code yX11_text cX11_text 3 (some .int) :: tb) (cRm 20 40 3000)).room s m ([pR 0, pI job, pI ix].map (pv (E2 E b).1)).toArray below meth c Q (EP E b P) s.heap 3 ce sl pc (L, [pI r], σ) := by
    intro P ce sl pc L hP g1 g2 hd hlen ls H locs hl hH1 hS
    rw [hQ]
    exact W.widen g1 g2 (W.iret hx hb hr (fun t ht _ => ⟨rfl, by rw [ht]; exact pHp_mono hP hH1, hS.F ht⟩) hS.2.2 hd hlocks)
  have hgo : pG p l e (headSpec (Cond.code yX11_text cX11_text 3 (some .int) :: tb) (cRm 20 40 3000)).room s m ([pR 0, pI job, pI ix].map (pv (E2 E b).1)).toArray below meth c Q (EP E b (SBP E)) s.heap 3 0 0 0 (pL0 [pR 0, pI job, pI ix] 3, [], σ) := by
    have r0 := hR (SBP E) 0 0 (by omega) (by omega)
    have hiz : ∃ z, F_X_isJob [pR 0, pI job] σ = some (some (pI (zI z)), σ) := by
      rcases h with ⟨-, -, h⟩ | ⟨h, -⟩
      · exact h
      · exact ⟨true, h⟩
    obtain ⟨z, hz⟩ := hiz
    have hrun : pRun l (EP E b (SBP E)) 19 yX11_isJob [pR 0, pI job] σ (some (pI (zI z))) σ := (ok_X_isJob (E := EP E b (SBP E)) hE _ _ _ _ hz).mono (by decide)
    refine r0.1 _ _ _ _ _ _ dX11_text_0 ⟨rfl, _, rfl, ?_⟩
    refine r0.1 _ _ _ _ _ _ dX11_text_1 ⟨rfl, _, rfl, ?_⟩
    refine r0.1 _ _ _ _ _ _ dX11_text_2 ⟨rfl, yX11_isJob, 1, 11, 0, [pI job], [], some (pI (zI z)), σ, cv_X11_101, rfl, rfl, by decide +kernel, by decide, hrun, ?_⟩
    by_cases hbad : z = false ∨ ix < -1
    · have hr1 : r = -1 := by
        rcases h with ⟨-, h, -⟩ | ⟨h1, h2, -⟩
        · exact h
        · exfalso
          rcases hbad with hb | hb
          · rw [hb, h1] at hz
            cases hz
          · exact h2 hb
      have hout : pG p l e (headSpec (Cond.code yX11_text cX11_text 3 (some .int) :: tb) (cRm 20 40 3000)).room s m ([pR 0, pI job, pI ix].map (pv (E2 E b).1)).toArray below meth c Q (EP E b (SBP E)) s.heap 3 0 0 13 (pL0 [pR 0, pI job, pI ix] 3, [], σ) := by
        refine r0.1 _ _ _ _ _ _ dX11_text_13 ⟨rfl, ?_⟩
        rw [show Int32.ofInt (-1) = r by rw [hr1]; rfl]
        exact hret (SBP E) 0 0 14 _ (fun _ h => h) (by omega) (by omega) dX11_text_14
      cases z with
      | false =>
        refine r0.1 _ _ _ _ _ _ dX11_text_5 ⟨rfl, 13, _, _, rfl, rfl, fun _ => ?_, fun h => absurd (rfl) h⟩
        exact hout
      | true =>
        have hix := hbad.resolve_left (by decide)
        refine r0.1 _ _ _ _ _ _ dX11_text_5 ⟨rfl, 13, _, _, rfl, rfl, fun h => absurd h (show ¬ zI true = 0 by decide), fun _ => ?_⟩
        refine r0.1 _ _ _ _ _ _ dX11_text_8 ⟨rfl, _, rfl, ?_⟩
        refine r0.1 _ _ _ _ _ _ dX11_text_9 ⟨rfl, ?_⟩
        refine r0.1 _ _ _ _ _ _ dX11_text_10 ⟨rfl, 15, _, _, _, rfl, rfl, fun h => absurd h (show ¬ Int32.ofInt (-1) ≤ ix from Int32.not_le.mpr hix), fun _ => ?_⟩
        exact hout
    · have hzt : z = true := by cases z <;> simp_all
      subst hzt
      have hix : ¬ ix < -1 := fun h => hbad (Or.inr h)
      obtain ⟨TE, hTn, hTR, hra⟩ : ∃ TE : Tx, TE.2 ≤ 46 ∧ xRun l E b q 7 25 2500 yX6_tell [pR 1, pI job, pR 900] σ (TBp E TE) none ∧ r = tAns TE ix := by
        rcases h with ⟨h1 | h1, -⟩ | ⟨-, -, h3⟩
        · rw [hz] at h1
          cases h1
        · exact absurd h1 hix
        · exact h3
      refine r0.1 _ _ _ _ _ _ dX11_text_5 ⟨rfl, 13, _, _, rfl, rfl, fun h => absurd h (show ¬ zI true = 0 by decide), fun _ => ?_⟩
      refine r0.1 _ _ _ _ _ _ dX11_text_8 ⟨rfl, _, rfl, ?_⟩
      refine r0.1 _ _ _ _ _ _ dX11_text_9 ⟨rfl, ?_⟩
      refine r0.1 _ _ _ _ _ _ dX11_text_10 ⟨rfl, 15, _, _, _, rfl, rfl, fun _ => ?_, fun h => absurd (show Int32.ofInt (-1) ≤ ix from Int32.not_lt.mp hix) h⟩
      refine r0.1 _ _ _ _ _ _ dX11_text_15 ⟨rfl, _, rfl, ?_⟩
      refine r0.1 _ _ _ _ _ _ dX11_text_16 ⟨rfl, 11, 0, 0, _, rfl, fl_X11_12, Or.inr ⟨1, by decide +kernel, ?_⟩⟩
      refine r0.1 _ _ _ _ _ _ dX11_text_19 ⟨rfl, _, rfl, ?_⟩
      refine r0.1 _ _ _ _ _ _ dX11_text_20 ⟨rfl, _, rfl, ?_⟩
      refine r0.1 _ _ _ _ _ _ dX11_text_21 ⟨rfl, 11, 7, 0, _, rfl, fl_X11_59, Or.inr ⟨900, by decide +kernel, ?_⟩⟩
      refine pG_callX (As := [pI job, pR 900]) (o := 1) (rest := []) (C 0 0 (by omega) (by omega)) hfx dX11_text_24 cv_X11_tell (by decide +kernel) rfl (by decide) hTR (by decide) (by decide) (by decide) (by decide) ?_
      have r1 := hR (TBp E TE) 25 2500 (by omega) (by omega)
      by_cases hneg : ix < 0
      · have e0 : tAns TE ix = nI TE.2 := if_pos hneg
        rw [e0] at hra
        refine r1.1 _ _ _ _ _ _ dX11_text_27 ⟨rfl, _, rfl, ?_⟩
        refine r1.1 _ _ _ _ _ _ dX11_text_28 ⟨rfl, 39, _, _, rfl, rfl, fun h => absurd h (show ¬ (0 : Int32) ≤ ix from Int32.not_le.mpr hneg), fun _ => ?_⟩
        refine r1.1 _ _ _ _ _ _ dX11_text_31 ⟨rfl, _, rfl, ?_⟩
        refine r1.1 _ _ _ _ _ _ dX11_text_32 ⟨rfl, 11, 7, 0, _, rfl, fl_X11_59, Or.inr ⟨900, by decide +kernel, ?_⟩⟩
        refine x_call (xs := []) (rest := []) (P := TBp E TE) (p' := TE) (pCx_at C0 (cells := 25) (slots := 2500) (by decide) (by decide)) hfx dX11_text_35 tv_X11_201 rfl (Nat.le_of_ble_eq_true rfl) (Or.inr (Or.inr ⟨_, rfl, rfl⟩)) src_len (by decide) (by decide) (by decide) (by decide) ?_
        rw [← hra]
        exact hret (TBp E TE) 25 2500 38 _ TBp_SBP (by omega) (by omega) dX11_text_38
      · have hpos : (0 : Int32) ≤ ix := Int32.not_lt.mp hneg
        refine r1.1 _ _ _ _ _ _ dX11_text_27 ⟨rfl, _, rfl, ?_⟩
        refine r1.1 _ _ _ _ _ _ dX11_text_28 ⟨rfl, 39, _, _, rfl, rfl, fun _ => ?_, fun h => absurd (show (0 : Int32) ≤ ix from hpos) h⟩
        refine r1.1 _ _ _ _ _ _ dX11_text_39 ⟨rfl, _, rfl, ?_⟩
        refine r1.1 _ _ _ _ _ _ dX11_text_40 ⟨rfl, _, rfl, ?_⟩
        refine r1.1 _ _ _ _ _ _ dX11_text_41 ⟨rfl, 11, 7, 0, _, rfl, fl_X11_59, Or.inr ⟨900, by decide +kernel, ?_⟩⟩
        refine x_call (xs := []) (rest := [pI ix]) (P := TBp E TE) (p' := TE) (pCx_at C0 (cells := 25) (slots := 2500) (by decide) (by decide)) hfx dX11_text_44 tv_X11_201 rfl (Nat.le_of_ble_eq_true rfl) (Or.inr (Or.inr ⟨_, rfl, rfl⟩)) src_len (by decide) (by decide) (by decide) (by decide) ?_
        have r2 := hR (TBp E TE) 25 2500 (by omega) (by omega)
        by_cases hin : ix < nI TE.2
        · have e0 : tAns TE ix = nI (TE.1 ix.toNatClampNeg) := by unfold tAns; rw [if_neg hneg, if_pos hin]
          rw [e0] at hra
          obtain ⟨jx, hjx, rfl⟩ := nI_of hneg
          have hjl : jx < TE.2 := (nI_ltI hjx (by omega)).mp hin
          rw [nI_clamp hjx] at hra
          refine r2.1 _ _ _ _ _ _ dX11_text_47 ⟨rfl, 61, _, _, _, rfl, rfl, fun h => absurd h (show ¬ nI TE.2 ≤ nI jx from nI_ge hjl (by omega)), fun _ => ?_⟩
          refine r2.1 _ _ _ _ _ _ dX11_text_50 ⟨rfl, _, rfl, ?_⟩
          refine r2.1 _ _ _ _ _ _ dX11_text_51 ⟨rfl, 11, 7, 0, _, rfl, fl_X11_59, Or.inr ⟨900, by decide +kernel, ?_⟩⟩
          refine r2.1 _ _ _ _ _ _ dX11_text_54 ⟨rfl, _, rfl, ?_⟩
          refine x_call (xs := [nI jx]) (rest := []) (P := TBp E TE) (p' := TE) (pCx_at C0 (cells := 25) (slots := 2500) (by decide) (by decide)) hfx dX11_text_55 tv_X11_205 rfl (by decide) (Or.inr (Or.inr ⟨_, rfl, rfl⟩)) (src_at hjl) (by decide) (by decide) (by decide) (by decide) ?_
          have r3 := hR (TBp E TE) 25 2500 (by omega) (by omega)
          refine r3.1 _ _ _ _ _ _ dX11_text_58 ⟨rfl, 63, rfl, ?_⟩
          rw [← hra]
          exact hret (TBp E TE) 25 2500 63 _ TBp_SBP (by omega) (by omega) dX11_text_63
        · have e0 : tAns TE ix = -2 := by unfold tAns; rw [if_neg hneg, if_neg hin]
          rw [e0] at hra
          refine r2.1 _ _ _ _ _ _ dX11_text_47 ⟨rfl, 61, _, _, _, rfl, rfl, fun _ => ?_, fun h => absurd (show nI TE.2 ≤ ix from Int32.not_lt.mp hin) h⟩
          refine r2.1 _ _ _ _ _ _ dX11_text_61 ⟨rfl, ?_⟩
          rw [show (Int8.ofInt (-2)).toInt32 = r by rw [hra]; decide]
          exact hret (TBp E TE) 25 2500 63 _ TBp_SBP (by omega) (by omega) dX11_text_63
  rw [lg_entry_eq]
  have hent := lv_entry ([pR 0, pI job, pI ix].map (pv (E2 E b).1)) (n := 3) (by rw [pEnt_len]; exact Nat.le_of_ble_eq_true rfl)
  rw [← hQ]
  refine hgo rfl _ s.heap [] ?_ hH va_S.rf
  show lv_has _ 3 (pll (E2 E b).1 0 (pL0 [pR 0, pI job, pI ix] 3))
  rw [pL0, pll_ent]
  exact hent
