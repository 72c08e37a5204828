/-! ===== Scene.tell ===== -/
theorem jy_yJ4_setLength_d00df : YK yJ4_setLength_d00df 1 := ⟨by decide, by decide, by decide +kernel⟩
theorem tv_X6_185 : TV RX6 185 yJ4_setLength_d00df 1 RJ4 := ⟨tb_at 830 (by decide +kernel) rfl, tb_at 831 (by decide +kernel) rfl, Or.inl (tb_at 832 (by decide +kernel) rfl), tb_at 105 (by decide +kernel) rfl, jy_yJ4_setLength_d00df⟩
theorem jy_yJ4_append_bf812 : YK yJ4_append_bf812 1 := ⟨by decide, by decide, by decide +kernel⟩
theorem tv_X6_191 : TV RX6 191 yJ4_append_bf812 1 RJ4 := ⟨tb_at 886 (by decide +kernel) rfl, tb_at 887 (by decide +kernel) rfl, Or.inl (tb_at 888 (by decide +kernel) rfl), tb_at 105 (by decide +kernel) rfl, jy_yJ4_append_bf812⟩
theorem jy_yJ4_append_15ec4 : YK yJ4_append_15ec4 1 := ⟨by decide, by decide, by decide +kernel⟩
theorem tv_X6_197 : TV RX6 197 yJ4_append_15ec4 1 RJ4 := ⟨tb_at 935 (by decide +kernel) rfl, tb_at 936 (by decide +kernel) rfl, Or.inl (tb_at 937 (by decide +kernel) rfl), tb_at 105 (by decide +kernel) rfl, jy_yJ4_append_15ec4⟩
theorem jy_yJ4_append_cf468 : YK yJ4_append_cf468 1 := ⟨by decide, by decide, by decide +kernel⟩
theorem tv_X6_202 : TV RX6 202 yJ4_append_cf468 1 RJ4 := ⟨tb_at 993 (by decide +kernel) rfl, tb_at 994 (by decide +kernel) rfl, Or.inl (tb_at 995 (by decide +kernel) rfl), tb_at 105 (by decide +kernel) rfl, jy_yJ4_append_cf468⟩
theorem tSt3_2 {p : Tx} {i : Nat} : (tSt3 p i).2 = p.2 + 2 := rfl
section TL
variable {p0 : Program} {l : Launch} {e : Env} {R : Room} {s : State} {m : MethodId} {args : Array Value} {below : List Frame} {meth : Method} {c : Code} {Q : State → Prop} {cc : ByteArray} {nL d : Nat} {own : String}
theorem pCx_at {E : pEnv} {H0 : Heap} {cells slots : Nat} {scr : Option (Nat × Nat × (Nat → Int32))} (C : pCx p0 R s m args meth c E H0 own cc nL d 0 0 scr) (h1 : cells ≤ R.cells) (h2 : slots ≤ R.slots) : pCx p0 R s m args meth c E H0 own cc nL d cells slots scr := by
  obtain ⟨a1, a2, a3, a4, a5, a6, a7, a8, a9, -, -, a12⟩ := C
  exact ⟨a1, a2, a3, a4, a5, a6, a7, a8, a9, h1, h2, a12⟩
theorem pCx_EP {E : cEnv} {b cells slots : Nat} {P : va_W → Prop} {H0 : Heap} {scr : Option (Nat × Nat × (Nat → Int32))} (C : pCx p0 R s m args meth c (E2 E b) H0 own cc nL d cells slots scr) : pCx p0 R s m args meth c (EP E b P) H0 own cc nL d cells slots scr := C
set_option maxHeartbeats 4000000 in
theorem tell_G {E : cEnv} {b : Nat} {q : xA} {σ : pM} {j x0 x1 na : Nat} {st : Int32} {wf kf : Nat → Nat} {Tf : Nat → Tx} {TE : Tx} (C : pCx p0 R s m args meth c (E2 E b) s.heap RX6 cX6_tell 4 d 0 0 none) (hfx : xFx E q s s.heap) (hdR : 7 ≤ R.frames) (hlR : 419 ≤ R.locals) (hrc : 25 ≤ R.cells) (hrs : 2500 ≤ R.slots) (hj : j < 80) (h0 : σ.1 8 j = nI x0) (r0 : x0 ≤ 7) (h1 : σ.1 9 j = nI x1) (r1 : x1 ≤ 9) (h2 : σ.1 12 j = nI na) (r2 : na ≤ 4) (h3 : σ.1 16 j = st) (hw : ∀ a, a < na → σ.1 21 (j * 4 + a) = nI (wf a) ∧ wf a < 100) (hk : ∀ a, a < na → σ.1 22 (j * 4 + a) = nI (kf a) ∧ kf a < 1000)
    (hT0 : Tf 0 = tCh (tNm (tSt3 (tNm (tSt3 (tNm (fun _ => 0, 0) j) 0) x0) 1) x1) 32) (hT : ∀ a, a < na → Tf (a + 1) = tNm (tCh (tNm (if a = 0 then Tf a else tCh (Tf a) 44) (wf a)) 120) (kf a)) (hTb : ∀ a, a ≤ na → (Tf a).2 ≤ 9 + 7 * a) (hTE : (st = -1 ∧ TE = Tf na) ∨ ∃ x6 : Nat, x6 < 1000000 ∧ st = nI x6 ∧ TE = tNm (tSt3 (Tf na) 2) x6)
    (hend : ∀ L, pG p0 l e R s m args below meth c Q (E3 E b TE) s.heap 4 25 2500 155 (L, [], σ)) : pG p0 l e R s m args below meth c Q (E2 E b) s.heap 4 0 0 0 (pL0 [pR 1, pI (nI j), pR 900] 4, [], σ) := by
  have hR : ∀ (P : va_W → Prop) (ce sl : Nat), ce ≤ R.cells → sl ≤ R.slots → pRules RX6 cX6_tell none (pRun l (EP E b P) d) (fun _ _ => False) (pG p0 l e R s m args below meth c Q (EP E b P) s.heap 4 ce sl) := fun P ce sl g1 g2 => pG_sound (pCx_EP (pCx_at C g1 g2)) (fun _ _ _ _ _ h => h.elim) (fun _ _ _ _ h => h.elim)
  have dj := dg_2 (v := j) (by omega)
  have d0 := dg_1 (v := x0) (by omega)
  have d1 := dg_1 (v := x1) (by omega)
  obtain ⟨p1, hp1⟩ : ∃ p, p = tNm (fun _ => 0, 0) j := ⟨_, rfl⟩
  obtain ⟨p2, hp2⟩ : ∃ p, p = tSt3 p1 0 := ⟨_, rfl⟩
  obtain ⟨p3, hp3⟩ : ∃ p, p = tNm p2 x0 := ⟨_, rfl⟩
  obtain ⟨p4, hp4⟩ : ∃ p, p = tSt3 p3 1 := ⟨_, rfl⟩
  obtain ⟨p5, hp5⟩ : ∃ p, p = tNm p4 x1 := ⟨_, rfl⟩
  have s1 : p1.2 = sb_dg j := by rw [hp1, tNm_2]; exact Nat.zero_add _
  have s2 : p2.2 = sb_dg j + 2 := by rw [hp2, tSt3_2, s1]
  have s3 : p3.2 = sb_dg j + 2 + sb_dg x0 := by rw [hp3, tNm_2, s2]
  have s4 : p4.2 = sb_dg j + 2 + sb_dg x0 + 2 := by rw [hp4, tSt3_2, s3]
  have s5 : p5.2 = sb_dg j + 2 + sb_dg x0 + 2 + sb_dg x1 := by rw [hp5, tNm_2, s4]
  rw [← hp1, ← hp2, ← hp3, ← hp4, ← hp5] at hT0
  -- the end
  have hlast : ∀ L3 : pV, (∃ x, L3 = pI x) → pG p0 l e R s m args below meth c Q (E3 E b (Tf na)) s.heap 4 23 2300 123 ([some (pR 1), some (pI (nI j)), some (pR 900), some L3], [], σ) := by
    rintro _ ⟨x3, rfl⟩
    have ra := hR (TBp E (Tf na)) 23 2300 (by omega) (by omega)
    have tb := hTb na (Nat.le_refl _)
    refine ra.1 _ _ _ _ _ _ dX6_tell_123 ⟨rfl, _, rfl, ?_⟩
    refine ra.1 _ _ _ _ _ _ dX6_tell_124 ⟨rfl, 6, 6, 1, _, rfl, fl_X6_28, Or.inr ⟨6, by decide +kernel, ?_⟩⟩
    refine ra.1 _ _ _ _ _ _ dX6_tell_127 ⟨rfl, 4, 10, 6, _, rfl, fl_X6_133, Or.inr ⟨16, by decide +kernel, ?_⟩⟩
    refine ra.1 _ _ _ _ _ _ dX6_tell_130 ⟨rfl, _, rfl, ?_⟩
    refine ra.1 _ _ _ _ _ _ dX6_tell_131 ⟨rfl, 16, _, _, rfl, Or.inl ⟨show ¬ (_ ∨ 80 ≤ _) from nI_in (by omega) (by decide), ?_⟩⟩
    rw [nI_clamp (by omega), h3]
    refine ra.1 _ _ _ _ _ _ dX6_tell_132 ⟨rfl, ?_⟩
    rcases hTE with ⟨e1, e2⟩ | ⟨x6, h6, e1, e2⟩
    · refine ra.1 _ _ _ _ _ _ dX6_tell_133 ⟨rfl, 155, _, _, _, rfl, rfl, fun _ => ?_, fun h => absurd (show st = Int32.ofInt (-1) from e1) h⟩
      rw [← e2]
      exact pG_widen (by omega) (by omega) (hend _)
    · have d6 := dg_lt h6
      refine ra.1 _ _ _ _ _ _ dX6_tell_133 ⟨rfl, 155, _, _, _, rfl, rfl, fun h => absurd h (show ¬ st = Int32.ofInt (-1) from fun h => by rw [e1] at h; have := congrArg Int32.toInt h; rw [nI_toInt (by omega), show (Int32.ofInt (-1)).toInt = -1 from rfl] at this; omega), fun _ => ?_⟩
      refine ra.1 _ _ _ _ _ _ dX6_tell_136 ⟨rfl, _, rfl, ?_⟩
      refine x_str (i := 2) (rest := []) (pCx_at C (cells := 23) (slots := 2300) (by omega) (by omega)) hfx (by decide) dX6_tell_137 dX6_tell_139 tv_X6_197 (by decide) (by omega) hdR hlR (by show 23 + 1 ≤ _; omega) (by show 2300 + 100 ≤ _; omega) ?_
      have rb := hR (TBp E (tSt3 (Tf na) 2)) (24) (2400) (by omega) (by omega)
      refine rb.1 _ _ _ _ _ _ dX6_tell_142 ⟨rfl, _, rfl, ?_⟩
      refine rb.1 _ _ _ _ _ _ dX6_tell_143 ⟨rfl, 6, 6, 1, _, rfl, fl_X6_28, Or.inr ⟨6, by decide +kernel, ?_⟩⟩
      refine rb.1 _ _ _ _ _ _ dX6_tell_146 ⟨rfl, 4, 10, 6, _, rfl, fl_X6_133, Or.inr ⟨16, by decide +kernel, ?_⟩⟩
      refine rb.1 _ _ _ _ _ _ dX6_tell_149 ⟨rfl, _, rfl, ?_⟩
      refine rb.1 _ _ _ _ _ _ dX6_tell_150 ⟨rfl, 16, _, _, rfl, Or.inl ⟨show ¬ (_ ∨ 80 ≤ _) from nI_in (by omega) (by decide), ?_⟩⟩
      rw [nI_clamp (by omega), h3, e1]
      refine x_call (xs := [nI x6]) (rest := []) (pCx_at C (cells := 24) (slots := 2400) (by omega) (by omega)) hfx dX6_tell_151 tv_X6_191 rfl (by decide) (Or.inr (Or.inl ⟨rfl, rfl⟩)) (src_int (by rw [tSt3_2]; omega) h6) hdR hlR (by show 24 + 1 ≤ _; omega) (by show 2400 + 100 ≤ _; omega) ?_
      rw [← e2]
      have rc := hR (TBp E TE) (25) (2500) (by omega) (by omega)
      refine rc.1 _ _ _ _ _ _ dX6_tell_154 ⟨rfl, _, _, rfl, rfl, ?_⟩
      exact hend _
  -- the arms
  have hloop : ∀ (f a : Nat), a + f = na → pG p0 l e R s m args below meth c Q (E3 E b (Tf a)) s.heap 4 (7 + 4 * a) (700 + 400 * a) 54 ([some (pR 1), some (pI (nI j)), some (pR 900), some (pI (nI a))], [], σ) := by
    intro f
    induction f with
    | zero =>
      intro a ha
      have ea : a = na := by omega
      rw [ea]
      have ra := hR (TBp E (Tf na)) (7 + 4 * na) (700 + 400 * na) (by omega) (by omega)
      refine ra.1 _ _ _ _ _ _ dX6_tell_54 ⟨rfl, _, rfl, ?_⟩
      refine ra.1 _ _ _ _ _ _ dX6_tell_55 ⟨rfl, _, rfl, ?_⟩
      refine ra.1 _ _ _ _ _ _ dX6_tell_56 ⟨rfl, 6, 6, 1, _, rfl, fl_X6_28, Or.inr ⟨6, by decide +kernel, ?_⟩⟩
      refine ra.1 _ _ _ _ _ _ dX6_tell_59 ⟨rfl, 4, 6, 6, _, rfl, fl_X6_116, Or.inr ⟨12, by decide +kernel, ?_⟩⟩
      refine ra.1 _ _ _ _ _ _ dX6_tell_62 ⟨rfl, _, rfl, ?_⟩
      refine ra.1 _ _ _ _ _ _ dX6_tell_63 ⟨rfl, 12, _, _, rfl, Or.inl ⟨show ¬ (_ ∨ 80 ≤ _) from nI_in (by omega) (by decide), ?_⟩⟩
      rw [nI_clamp (by omega), h2]
      refine ra.1 _ _ _ _ _ _ dX6_tell_64 ⟨rfl, 123, _, _, _, rfl, rfl, fun _ => ?_, fun h => absurd (show nI na ≤ nI na from nI_le (Nat.le_refl _) (by omega)) h⟩
      exact pG_widen (by omega) (by omega) (hlast _ ⟨_, rfl⟩)
    | succ f ih =>
      intro a ha
      have hlt : a < na := by omega
      obtain ⟨w1, w2⟩ := hw a hlt
      obtain ⟨k1, k2⟩ := hk a hlt
      have dw := dg_2 (v := wf a) w2
      have dk := dg_3 (v := kf a) k2
      have tb := hTb a (by omega)
      -- behind the comma
      have hrest : ∀ p : Tx, p.2 ≤ 9 + 7 * a + 1 → Tf (a + 1) = tNm (tCh (tNm p (wf a)) 120) (kf a) → pG p0 l e R s m args below meth c Q (E3 E b p) s.heap 4 (8 + 4 * a) (800 + 400 * a) 78 ([some (pR 1), some (pI (nI j)), some (pR 900), some (pI (nI a))], [], σ) := by
        intro p hp hTp
        have ra := hR (TBp E p) (8 + 4 * a) (800 + 400 * a) (by omega) (by omega)
        refine ra.1 _ _ _ _ _ _ dX6_tell_78 ⟨rfl, _, rfl, ?_⟩
        refine ra.1 _ _ _ _ _ _ dX6_tell_79 ⟨rfl, _, rfl, ?_⟩
        refine ra.1 _ _ _ _ _ _ dX6_tell_80 ⟨rfl, 6, 7, 1, _, rfl, fl_X6_35, Or.inr ⟨20, by decide +kernel, ?_⟩⟩
        refine ra.1 _ _ _ _ _ _ dX6_tell_83 ⟨rfl, 0, 0, 20, _, rfl, fl_X6_145, Or.inr ⟨21, by decide +kernel, ?_⟩⟩
        refine ra.1 _ _ _ _ _ _ dX6_tell_86 ⟨rfl, _, rfl, ?_⟩
        refine ra.1 _ _ _ _ _ _ dX6_tell_87 ⟨rfl, ?_⟩
        rw [show Int32.ofInt 4 = nI 4 from rfl]
        refine ra.1 _ _ _ _ _ _ dX6_tell_88 ⟨rfl, _, _, _, rfl, ?_⟩
        rw [pk_mul]
        refine ra.1 _ _ _ _ _ _ dX6_tell_89 ⟨rfl, _, rfl, ?_⟩
        refine ra.1 _ _ _ _ _ _ dX6_tell_90 ⟨rfl, _, _, _, rfl, ?_⟩
        rw [nI_add]
        refine ra.1 _ _ _ _ _ _ dX6_tell_91 ⟨rfl, 21, _, _, rfl, Or.inl ⟨show ¬ (_ ∨ 320 ≤ _) from nI_in (by omega) (by decide), ?_⟩⟩
        rw [nI_clamp (by omega), w1]
        refine x_call (xs := [nI (wf a)]) (rest := []) (pCx_at C (cells := (8 + 4 * a)) (slots := (800 + 400 * a)) (by omega) (by omega)) hfx dX6_tell_92 tv_X6_191 rfl (by decide) (Or.inr (Or.inl ⟨rfl, rfl⟩)) (src_int (by omega) (by omega)) hdR hlR (by show (8 + 4 * a) + 1 ≤ _; omega) (by show (800 + 400 * a) + 100 ≤ _; omega) ?_
        have rb := hR (TBp E (tNm p (wf a))) (8 + 4 * a + 1) (800 + 400 * a + 100) (by omega) (by omega)
        refine rb.1 _ _ _ _ _ _ dX6_tell_95 ⟨rfl, ?_⟩
        rw [show (Int8.ofInt 120).toInt32 = nI 120 from rfl]
        refine x_call (xs := [nI 120]) (rest := []) (pCx_at C (cells := (8 + 4 * a + 1)) (slots := (800 + 400 * a + 100)) (by omega) (by omega)) hfx dX6_tell_97 tv_X6_202 rfl (by decide) (Or.inr (Or.inl ⟨rfl, rfl⟩)) (src_chr (by rw [tNm_2]; omega) (by decide)) hdR hlR (by show (8 + 4 * a + 1) + 1 ≤ _; omega) (by show (800 + 400 * a + 100) + 100 ≤ _; omega) ?_
        have rc := hR (TBp E (tCh (tNm p (wf a)) 120)) (8 + 4 * a + 2) (800 + 400 * a + 200) (by omega) (by omega)
        refine rc.1 _ _ _ _ _ _ dX6_tell_100 ⟨rfl, _, rfl, ?_⟩
        refine rc.1 _ _ _ _ _ _ dX6_tell_101 ⟨rfl, 6, 7, 1, _, rfl, fl_X6_35, Or.inr ⟨20, by decide +kernel, ?_⟩⟩
        refine rc.1 _ _ _ _ _ _ dX6_tell_104 ⟨rfl, 0, 1, 20, _, rfl, fl_X6_149, Or.inr ⟨22, by decide +kernel, ?_⟩⟩
        refine rc.1 _ _ _ _ _ _ dX6_tell_107 ⟨rfl, _, rfl, ?_⟩
        refine rc.1 _ _ _ _ _ _ dX6_tell_108 ⟨rfl, ?_⟩
        rw [show Int32.ofInt 4 = nI 4 from rfl]
        refine rc.1 _ _ _ _ _ _ dX6_tell_109 ⟨rfl, _, _, _, rfl, ?_⟩
        rw [pk_mul]
        refine rc.1 _ _ _ _ _ _ dX6_tell_110 ⟨rfl, _, rfl, ?_⟩
        refine rc.1 _ _ _ _ _ _ dX6_tell_111 ⟨rfl, _, _, _, rfl, ?_⟩
        rw [nI_add]
        refine rc.1 _ _ _ _ _ _ dX6_tell_112 ⟨rfl, 22, _, _, rfl, Or.inl ⟨show ¬ (_ ∨ 320 ≤ _) from nI_in (by omega) (by decide), ?_⟩⟩
        rw [nI_clamp (by omega), k1]
        refine x_call (xs := [nI (kf a)]) (rest := []) (pCx_at C (cells := (8 + 4 * a + 2)) (slots := (800 + 400 * a + 200)) (by omega) (by omega)) hfx dX6_tell_113 tv_X6_191 rfl (by decide) (Or.inr (Or.inl ⟨rfl, rfl⟩)) (src_int (by rw [tCh_2, tNm_2]; omega) (by omega)) hdR hlR (by show (8 + 4 * a + 2) + 1 ≤ _; omega) (by show (800 + 400 * a + 200) + 100 ≤ _; omega) ?_
        rw [← hTp]
        have rd := hR (TBp E (Tf (a + 1))) (8 + 4 * a + 3) (800 + 400 * a + 300) (by omega) (by omega)
        refine rd.1 _ _ _ _ _ _ dX6_tell_116 ⟨rfl, _, _, rfl, rfl, ?_⟩
        refine rd.1 _ _ _ _ _ _ dX6_tell_117 ⟨rfl, _, rfl, ?_⟩
        rw [show Int32.ofInt 1 = nI 1 from rfl, nI_add]
        refine rd.1 _ _ _ _ _ _ dX6_tell_120 ⟨rfl, 54, rfl, ?_⟩
        exact pG_widen (by omega) (by omega) (ih (a + 1) (by omega))
      have re := hR (TBp E (Tf a)) (7 + 4 * a) (700 + 400 * a) (by omega) (by omega)
      refine re.1 _ _ _ _ _ _ dX6_tell_54 ⟨rfl, _, rfl, ?_⟩
      refine re.1 _ _ _ _ _ _ dX6_tell_55 ⟨rfl, _, rfl, ?_⟩
      refine re.1 _ _ _ _ _ _ dX6_tell_56 ⟨rfl, 6, 6, 1, _, rfl, fl_X6_28, Or.inr ⟨6, by decide +kernel, ?_⟩⟩
      refine re.1 _ _ _ _ _ _ dX6_tell_59 ⟨rfl, 4, 6, 6, _, rfl, fl_X6_116, Or.inr ⟨12, by decide +kernel, ?_⟩⟩
      refine re.1 _ _ _ _ _ _ dX6_tell_62 ⟨rfl, _, rfl, ?_⟩
      refine re.1 _ _ _ _ _ _ dX6_tell_63 ⟨rfl, 12, _, _, rfl, Or.inl ⟨show ¬ (_ ∨ 80 ≤ _) from nI_in (by omega) (by decide), ?_⟩⟩
      rw [nI_clamp (by omega), h2]
      refine re.1 _ _ _ _ _ _ dX6_tell_64 ⟨rfl, 123, _, _, _, rfl, rfl, fun h => absurd h (show ¬ nI na ≤ nI a from nI_ge (by omega) (by omega)), fun _ => ?_⟩
      refine re.1 _ _ _ _ _ _ dX6_tell_67 ⟨rfl, _, rfl, ?_⟩
      have hTa := hT a hlt
      by_cases ca : a = 0
      · rw [if_pos ca] at hTa
        refine re.1 _ _ _ _ _ _ dX6_tell_68 ⟨rfl, 78, _, _, rfl, rfl, fun _ => ?_, fun h => absurd (show nI a ≤ 0 from by rw [ca]; decide) h⟩
        exact pG_widen (by omega) (by omega) (hrest (Tf a) (by omega) hTa)
      · rw [if_neg ca] at hTa
        refine re.1 _ _ _ _ _ _ dX6_tell_68 ⟨rfl, 78, _, _, rfl, rfl, fun h => absurd h (show ¬ nI a ≤ 0 from nI_nle (by omega) (by omega)), fun _ => ?_⟩
        refine re.1 _ _ _ _ _ _ dX6_tell_71 ⟨rfl, _, rfl, ?_⟩
        refine re.1 _ _ _ _ _ _ dX6_tell_72 ⟨rfl, ?_⟩
        rw [show (Int8.ofInt 44).toInt32 = nI 44 from rfl]
        refine x_call (xs := [nI 44]) (rest := []) (pCx_at C (cells := (7 + 4 * a)) (slots := (700 + 400 * a)) (by omega) (by omega)) hfx dX6_tell_74 tv_X6_202 rfl (by decide) (Or.inr (Or.inl ⟨rfl, rfl⟩)) (src_chr (by omega) (by decide)) hdR hlR (by show (7 + 4 * a) + 1 ≤ _; omega) (by show (700 + 400 * a) + 100 ≤ _; omega) ?_
        have rf := hR (TBp E (tCh (Tf a) 44)) (7 + 4 * a + 1) (700 + 400 * a + 100) (by omega) (by omega)
        refine rf.1 _ _ _ _ _ _ dX6_tell_77 ⟨rfl, _, _, rfl, rfl, ?_⟩
        exact pG_widen (by omega) (by omega) (hrest (tCh (Tf a) 44) (by rw [tCh_2]; omega) hTa)
  -- the head
  have q0 := hR (SBP E) 0 0 (by omega) (by omega)
  refine q0.1 _ _ _ _ _ _ dX6_tell_0 ⟨rfl, _, rfl, ?_⟩
  refine q0.1 _ _ _ _ _ _ dX6_tell_1 ⟨rfl, ?_⟩
  refine x_call (xs := [nI 0]) (rest := []) (P := SBP E) (pCx_at C (cells := 0) (slots := 0) (by omega) (by omega)) hfx dX6_tell_2 tv_X6_185 rfl (by decide) (Or.inl ⟨rfl, rfl⟩) src_len0 hdR hlR (by show 0 + 1 ≤ _; omega) (by show 0 + 100 ≤ _; omega) ?_
  have q1 := hR (TBp E (fun _ => 0, 0)) (1) (100) (by omega) (by omega)
  refine q1.1 _ _ _ _ _ _ dX6_tell_5 ⟨rfl, _, rfl, ?_⟩
  refine q1.1 _ _ _ _ _ _ dX6_tell_6 ⟨rfl, _, rfl, ?_⟩
  refine x_call (xs := [nI j]) (rest := []) (pCx_at C (cells := 1) (slots := 100) (by omega) (by omega)) hfx dX6_tell_7 tv_X6_191 rfl (by decide) (Or.inr (Or.inl ⟨rfl, rfl⟩)) (src_int (by show 0 + _ ≤ 46; omega) (by omega)) hdR hlR (by show 1 + 1 ≤ _; omega) (by show 100 + 100 ≤ _; omega) ?_
  rw [← hp1]
  refine x_str (i := 0) (rest := []) (pCx_at C (cells := 2) (slots := 200) (by omega) (by omega)) hfx (by decide) dX6_tell_10 dX6_tell_12 tv_X6_197 (by decide) (by omega) hdR hlR (by show 2 + 1 ≤ _; omega) (by show 200 + 100 ≤ _; omega) ?_
  rw [← hp2]
  have q2 := hR (TBp E p2) (3) (300) (by omega) (by omega)
  refine q2.1 _ _ _ _ _ _ dX6_tell_15 ⟨rfl, _, rfl, ?_⟩
  refine q2.1 _ _ _ _ _ _ dX6_tell_16 ⟨rfl, 6, 6, 1, _, rfl, fl_X6_28, Or.inr ⟨6, by decide +kernel, ?_⟩⟩
  refine q2.1 _ _ _ _ _ _ dX6_tell_19 ⟨rfl, 4, 2, 6, _, rfl, fl_X6_104, Or.inr ⟨8, by decide +kernel, ?_⟩⟩
  refine q2.1 _ _ _ _ _ _ dX6_tell_22 ⟨rfl, _, rfl, ?_⟩
  refine q2.1 _ _ _ _ _ _ dX6_tell_23 ⟨rfl, 8, _, _, rfl, Or.inl ⟨show ¬ (_ ∨ 80 ≤ _) from nI_in (by omega) (by decide), ?_⟩⟩
  rw [nI_clamp (by omega), h0]
  refine x_call (xs := [nI x0]) (rest := []) (pCx_at C (cells := 3) (slots := 300) (by omega) (by omega)) hfx dX6_tell_24 tv_X6_191 rfl (by decide) (Or.inr (Or.inl ⟨rfl, rfl⟩)) (src_int (by omega) (by omega)) hdR hlR (by show 3 + 1 ≤ _; omega) (by show 300 + 100 ≤ _; omega) ?_
  rw [← hp3]
  have q3 := hR (TBp E p3) (4) (400) (by omega) (by omega)
  refine q3.1 _ _ _ _ _ _ dX6_tell_27 ⟨rfl, _, _, rfl, rfl, ?_⟩
  refine q3.1 _ _ _ _ _ _ dX6_tell_28 ⟨rfl, _, rfl, ?_⟩
  refine x_str (i := 1) (rest := []) (pCx_at C (cells := 4) (slots := 400) (by omega) (by omega)) hfx (by decide) dX6_tell_29 dX6_tell_31 tv_X6_197 (by decide) (by omega) hdR hlR (by show 4 + 1 ≤ _; omega) (by show 400 + 100 ≤ _; omega) ?_
  rw [← hp4]
  have q4 := hR (TBp E p4) (5) (500) (by omega) (by omega)
  refine q4.1 _ _ _ _ _ _ dX6_tell_34 ⟨rfl, _, rfl, ?_⟩
  refine q4.1 _ _ _ _ _ _ dX6_tell_35 ⟨rfl, 6, 6, 1, _, rfl, fl_X6_28, Or.inr ⟨6, by decide +kernel, ?_⟩⟩
  refine q4.1 _ _ _ _ _ _ dX6_tell_38 ⟨rfl, 4, 3, 6, _, rfl, fl_X6_107, Or.inr ⟨9, by decide +kernel, ?_⟩⟩
  refine q4.1 _ _ _ _ _ _ dX6_tell_41 ⟨rfl, _, rfl, ?_⟩
  refine q4.1 _ _ _ _ _ _ dX6_tell_42 ⟨rfl, 9, _, _, rfl, Or.inl ⟨show ¬ (_ ∨ 80 ≤ _) from nI_in (by omega) (by decide), ?_⟩⟩
  rw [nI_clamp (by omega), h1]
  refine x_call (xs := [nI x1]) (rest := []) (pCx_at C (cells := 5) (slots := 500) (by omega) (by omega)) hfx dX6_tell_43 tv_X6_191 rfl (by decide) (Or.inr (Or.inl ⟨rfl, rfl⟩)) (src_int (by omega) (by omega)) hdR hlR (by show 5 + 1 ≤ _; omega) (by show 500 + 100 ≤ _; omega) ?_
  rw [← hp5]
  have q5 := hR (TBp E p5) (6) (600) (by omega) (by omega)
  refine q5.1 _ _ _ _ _ _ dX6_tell_46 ⟨rfl, ?_⟩
  rw [show (Int8.ofInt 32).toInt32 = nI 32 from rfl]
  refine x_call (xs := [nI 32]) (rest := []) (pCx_at C (cells := 6) (slots := 600) (by omega) (by omega)) hfx dX6_tell_48 tv_X6_202 rfl (by decide) (Or.inr (Or.inl ⟨rfl, rfl⟩)) (src_chr (by omega) (by decide)) hdR hlR (by show 6 + 1 ≤ _; omega) (by show 600 + 100 ≤ _; omega) ?_
  rw [← hT0]
  have q6 := hR (TBp E (Tf 0)) (7) (700) (by omega) (by omega)
  refine q6.1 _ _ _ _ _ _ dX6_tell_51 ⟨rfl, _, _, rfl, rfl, ?_⟩
  refine q6.1 _ _ _ _ _ _ dX6_tell_52 ⟨rfl, ?_⟩
  refine q6.1 _ _ _ _ _ _ dX6_tell_53 ⟨rfl, _, _, rfl, Nat.le_of_ble_eq_true rfl, ?_⟩
  exact hloop na 0 (by omega)
end TL
