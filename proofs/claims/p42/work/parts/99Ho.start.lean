/-! ===== the law from its entry to its end ===== -/
theorem GF_168 : GF 168 0 = 0 := by
  rw [GF_lo (by decide) (by decide)]
  decide +kernel
theorem HI_0 : HI 0 0 0 GF U0 := by
  refine ⟨all_0, GF_168, ?_, ?_, ?_, ?_, ?_, fun b => rfl, fun b => rfl⟩
  · rw [GF_180]
    decide
  · rw [GF_180]
    intro b _ hb
    unfold gS
    rw [if_neg (by omega), if_neg (by omega), if_pos (by omega)]
  · rw [GF_180]
    intro b hb
    unfold gS
    rw [if_neg (by omega), if_neg (by omega), if_neg (by omega), if_pos (by omega)]
  · rw [GF_182]
    decide
  · rw [GF_182]
    decide
set_option maxRecDepth 20000 in
set_option maxHeartbeats 4000000 in
theorem whole_start {p : Program} {e : Env} {s : State} {m : MethodId} {below : List Frame} {meth : Method} {c : Code} (l : Launch) {b L : Nat} {xs : Nat → Int32} (C0 : lw_At p s m meth c b L xs) : W p l e room_1 s m #[Value.ref b] below meth c s.heap [] 0 0 (lw_Z below #[Value.ref b] s) (entryFrame m ([Value.ref b] : List Value).toArray 23) := by
  obtain ⟨hx, hb, hr, hml, hown, hts0, hX, hbl, hlocks, hgv⟩ := id C0
  have hts : ∀ w ∈ tb, w.before #[Value.ref b] s = true := fun w hw => hts0 w (List.mem_filter.mp hw).1
  have hnw : pNw s := nw_law hts0
  obtain ⟨cI, hI⟩ := arr_law (Or.inl rfl) (hts _ lk_arr.1)
  obtain ⟨cB, hB⟩ := arr_law (Or.inr (Or.inl rfl)) (hts _ lk_arr.2.1)
  obtain ⟨cJ, hJ⟩ := arr_law (Or.inr (Or.inr rfl)) (hts _ lk_arr.2.2)
  obtain ⟨c0, iS0, hKn0⟩ := u_known (C := RX0) (T := TX0) (N := 6) (n := 6) hts0 inX0 (hts0 (.instantiable RX0 6) (by decide +kernel))
  obtain ⟨c1, iS1, hKn1⟩ := u_known (C := RX1) (T := TX1) (N := 5) (n := 5) hts0 inX1 (hts0 (.instantiable RX1 5) (by decide +kernel))
  obtain ⟨c2, iS2, hKn2⟩ := u_known (C := RX2) (T := TX2) (N := 9) (n := 9) hts0 inX2 (hts0 (.instantiable RX2 9) (by decide +kernel))
  obtain ⟨c3, iS3, hKn3⟩ := u_known (C := RX3) (T := TX3) (N := 6) (n := 6) hts0 inX3 (hts0 (.instantiable RX3 6) (by decide +kernel))
  obtain ⟨c4, iS4, hKn4⟩ := u_known (C := RX4) (T := TX4) (N := 14) (n := 14) hts0 inX4 (hts0 (.instantiable RX4 14) (by decide +kernel))
  obtain ⟨c5, iS5, hKn5⟩ := u_known (C := RX5) (T := TX5) (N := 4) (n := 4) hts0 inX5 (hts0 (.instantiable RX5 4) (by decide +kernel))
  obtain ⟨c6, iS6, hKn6⟩ := u_known (C := RX6) (T := TX6) (N := 10) (n := 10) hts0 inX6 (hts0 (.instantiable RX6 10) (by decide +kernel))
  obtain ⟨c7, iS7, hKn7⟩ := u_known (C := RX7) (T := TX7) (N := 6) (n := 6) hts0 inX7 (hts0 (.instantiable RX7 6) (by decide +kernel))
  obtain ⟨c8, iS8, hKn8⟩ := u_known (C := RX8) (T := TX8) (N := 7) (n := 7) hts0 inX8 (hts0 (.instantiable RX8 7) (by decide +kernel))
  obtain ⟨c9, iS9, hKn9⟩ := u_known (C := RX9) (T := TX9) (N := 3) (n := 3) hts0 inX9 (hts0 (.instantiable RX9 3) (by decide +kernel))
  obtain ⟨c10, iS10, hKn10⟩ := u_known (C := RX10) (T := TX10) (N := 8) (n := 8) hts0 inX10 (hts0 (.instantiable RX10 8) (by decide +kernel))
  obtain ⟨c11, iS11, hKn11⟩ := u_known (C := RX11) (T := TX11) (N := 8) (n := 8) hts0 inX11 (hts0 (.instantiable RX11 8) (by decide +kernel))
  obtain ⟨d4, jS4, jKn4⟩ := u_known (C := RJ4) (T := TJ4) (N := 4) (n := 4) hts0 goodJ4 (hts0 (.instantiable RJ4 4) (by decide +kernel))
  obtain ⟨d0, jS0, jKn0⟩ := u_known (C := RJ0) (T := TJ0) (N := 4) (n := 4) hts0 goodJ0 (hts0 (.instantiable RJ0 4) (by decide +kernel))
  obtain ⟨dC, dI, hKc⟩ : ∃ (dC : Nat → ClassId) (dI : Nat → Nat → Nat), ∀ (k : Nat) (q : vw_C), classes[k]? = some q → u_Kn s q.1 q.2.1 q.2.2 (dC k) (dI k) := by
    refine ⟨fun k => if k = 0 then c0 else if k = 1 then c1 else if k = 2 then c2 else if k = 3 then c3 else if k = 4 then c4 else if k = 5 then c5 else if k = 6 then c6 else if k = 7 then c7 else if k = 8 then c8 else if k = 9 then c9 else if k = 10 then c10 else if k = 11 then c11 else if k = 12 then c11 else if k = 13 then d4 else d0, fun k => if k = 0 then iS0 else if k = 1 then iS1 else if k = 2 then iS2 else if k = 3 then iS3 else if k = 4 then iS4 else if k = 5 then iS5 else if k = 6 then iS6 else if k = 7 then iS7 else if k = 8 then iS8 else if k = 9 then iS9 else if k = 10 then iS10 else if k = 11 then iS11 else if k = 12 then iS11 else if k = 13 then jS4 else jS0, ?_⟩
    intro k q hq
    match k, hq with
    | 0, hq => cases hq; exact hKn0
    | 1, hq => cases hq; exact hKn1
    | 2, hq => cases hq; exact hKn2
    | 3, hq => cases hq; exact hKn3
    | 4, hq => cases hq; exact hKn4
    | 5, hq => cases hq; exact hKn5
    | 6, hq => cases hq; exact hKn6
    | 7, hq => cases hq; exact hKn7
    | 8, hq => cases hq; exact hKn8
    | 9, hq => cases hq; exact hKn9
    | 10, hq => cases hq; exact hKn10
    | 11, hq => cases hq; exact hKn11
    | 12, hq => cases hq; exact hKn11
    | 13, hq => cases hq; exact jKn4
    | 14, hq => cases hq; exact jKn0
    | k + 15, hq => simp [classes] at hq
  have hgen : ∃ E : cEnv, E.1 = s.heap.size ∧ cOkE E ∧ va_K E.2.1 classes E.2.2.2 s := ⟨(s.heap.size, (dC, dI), (cI, cB, cJ), [(cI, .int), (cB, .byte), (cJ, .long)]), rfl, ⟨rfl, rfl, rfl⟩, hKc, fun k q h => by
    match k, h with
    | 0, h => cases h; exact hI
    | 1, h => cases h; exact hB
    | 2, h => cases h; exact hJ
    | k + 3, h => simp at h⟩
  obtain ⟨E, hE1, hE, hK⟩ := hgen
  have hS : va_S (cFree E) s.heap s.heap [] := va_S.rf
  have hfr : ∀ a : Nat, a < s.heap.size → ¬ cFree E a := fun a h => by show ¬ E.1 ≤ a; omega
  have hst : cSt E s s.heap := va_Zof (hts0 _ (by decide +kernel)) (hts0 _ (by decide +kernel)) (va_eqi (flat_of_before _ hgv _ (by decide +kernel))) hfr
  have hl := lv_entry ([.ref b]) (n := 23) (Nat.le_of_ble_eq_true rfl)
  rw [lg_entry_eq]
  generalize (lg_sl ([.ref b]) ++ List.replicate (23 - (lg_sl ([.ref b])).length) Slot.unset).toArray = ls at hl ⊢
  have hl : lv_has ls 23 [(0, .ref b)] := hl
  have hc0 : c.code = cL_law := hb
  have H0 : cHp E [] s.heap := ⟨fun k q h => by simp [cWl] at h, by rw [hE1]; rfl⟩
  refine c_newW hx hc0 hown hts hK H0 hS dL_law_0 ck11 (tb_of (by decide +kernel) rfl) (tb_of (by decide +kernel) rfl) (tb_of (by decide +kernel) rfl) (by decide) (by decide) (by decide) fun H hH hS => ?_
  refine lv_dup hx hc0 dL_law_3 rfl ?_
  have hm1 := mk_GangColumns (l := l) hE []
  obtain ⟨-, -, by1, mx1, d1, hcw1, hmx1, hd1, hM1⟩ := hm1
  refine c_call (cs' := blk_GangColumns 0) (va_runI (As := []) (rest := [.ref (E.1 + 0)]) ⟨hx, hc0, hml, hown, hts⟩ hM1 ⟨callB_of 0 hts (tbl_goodIn fun w hw => (List.mem_cons.mp hw).elim (fun z => z ▸ hcw1) id) rfl rfl rfl (hts _ (tb_of (by decide +kernel) rfl)) (hts _ (tb_of (by decide +kernel) rfl)) yk_yX11_init ⟨by show d1 + 1 ≤ 14; omega, by first | (show _ + (mx1 + _) + 40 * d1 ≤ 532; omega) | (simp only [cRm, room_1]; omega) | (have hd1 := hd1; have hmx1 := hmx1; show _ ≤ 532; unfold cRm; dsimp only; omega)⟩, rfl, hts _ (tb_of (by decide +kernel) rfl)⟩ ⟨cPc_blind E _ _, fun U hU hW => ⟨rfl, by rw [hU]; exact hH, va_K.moved hW.alike hK, hnw.warm hW, by rw [hU]; exact cSt_moved hW.alike (va_Z.kept hst (fun a h1 h2 => hS.2.1 a h1 h2))⟩⟩ rfl rfl hl.1 rfl (lv_room (Nat.le_of_ble_eq_true rfl)) dL_law_4 ⟨by decide, by decide⟩) hS fun H locs hH hS => ?_
  refine lv_astore_n (lv' := [(1, .ref (E.1 + 0)), (0, .ref b)]) hx hc0 dL_law_7 rfl hl (by decide) rfl (fun ls hl => ?_)
  obtain ⟨q, hfx⟩ := x_start hts0 hgv hfr hst
  have hC : ∀ (X : Nat → Nat) (cells slots : Nat), cells ≤ room_1.cells → slots ≤ room_1.slots → pCx p room_1 s m #[.ref b] meth c (E2 E b X) s.heap RL cL_law 23 9 cells slots (some (5000, L, xs)) := fun X cells slots h1 h2 =>
    ⟨hx, hc0, hml, hown, hts, hK, hE, by decide, by decide, h1, h2, hlocks, hnw, fun a k ys hz => by
      cases hz
      exact ⟨hX, hbl, hfr b hbl⟩⟩
  have hw : lwR p l e room_1 s m #[.ref b] below meth c (lw_Z below #[.ref b] s) E b L xs (fun v _ => v = some (pI 1)) := ⟨hC, fun X cells slots h1 h2 => law_rules hE1 hr hb (hC X cells slots h1 h2), hE, Nat.le_of_eq hE1⟩
  have hq : lwQ E room_1 s q := ⟨hfx, by decide, by decide⟩
  have hP0 : pHp (E2 E b (fun _ => 0)) (σOf cs0) H := conv (fun _ => by decide) (ml := 0) (f := fun _ => 0) rfl rfl sb_fit0 hH
  have hrl : ∀ k, rl (E2 E b (fun _ => 0)).1 k → k < 200 → k < 179 := fun k h1 h2 => by
    rcases h1 with h1 | h1 | h1
    · exact h1
    · omega
    · exfalso
      unfold xsOf at h1
      have h3 := (List.mem_filter.mp h1).2
      simp only [beq_iff_eq] at h3
      have h4 : (E2 E b (fun _ => 0)).1 (10000 + k) = 0 := by
        show (if 10000 + k = 5000 then b else if 10000 + k = 900 then E.1 + 179 else if 10000 + k < 179 then E.1 + (10000 + k) else 0) = 0
        rw [if_neg (by omega), if_neg (by omega), if_neg (by omega)]
      omega
  have hP : pHp (E2 E b (fun _ => 0)) (zM GF U0) H := by
    refine pHp_ghost (fun k h1 h2 => ?_) (fun k h1 h2 => ?_) hP0
    · rw [G0_eq]
      funext j
      have := hrl k h1 h2
      show Int32.ofInt (GF k j) = Int32.ofInt (G0 k j)
      rw [GF_lo (by omega) (by omega)]
    · rw [G0_eq]
      rfl
  have hgo := head_G hw hq (X := fun _ => 0) (cells := 181) (slots := 13937) HI_0 (by rw [GF_180]; decide) (by decide) (by decide) (fun _ => rfl)
  have h9 : lv_has ls 23 (pll (E2 E b (fun _ => 0)).1 0 (LHd none none none none none)) := lv_sub hl [1, 0] rfl |> fun h => ⟨h.1, h.2.1, fun q hq => h.2.2 q (by
    simp only [pll, List.mem_cons, List.not_mem_nil, or_false] at hq
    rcases hq with rfl | rfl
    · exact List.mem_of_getElem? (i := 0) rfl
    · exact List.mem_of_getElem? (i := 1) rfl)⟩
  have hRl : pRl (E2 E b (fun _ => 0)).1 (LHd none none none none none) [] := by
    refine ⟨fun j v hj => ?_, RS_all.mpr fun v hv => absurd hv List.not_mem_nil⟩
    have := List.mem_of_getElem? hj
    simp only [List.mem_cons, Option.some.injEq, List.not_mem_nil, or_false, reduceCtorEq] at this
    have h3 : v = pR 5000 ∨ v = pR 0 := by simpa using this
    rcases h3 with rfl | rfl
    · exact Or.inr (Or.inl (by decide))
    · exact Or.inl (by decide)
  exact W.widen (by decide) (by decide) (hgo rfl hRl ls H locs h9 hP hS)
