/-! ===== the law's loop with the contract of text ===== -/
def TextRun2 (l : Launch) (As : List pV) (σ : pM) (r : Int32) : Prop := ∀ (E : cEnv) (b : Nat) (q : xA), cOkE E → xRun l E b q 20 40 3000 yX11_text As σ (SBP E) (some (pI r))
def IterOK2 (l : Launch) (k : Nat) (xs : Nat → Int32) (i : Nat) (σ σ' : pM) : Prop :=
  B_law (fun _ _ => none) k xs (lawL i) σ = some (oN (lawL (i + 7)) σ') ∨
  ∃ r job ix : Int32, E_sw k xs (lawL i) σ = some (13, σ) ∧ A_text k xs (lawL i) σ = some ([pR 0, pI job, pI ix], σ) ∧ TextRun2 l [pR 0, pI job, pI ix] σ r ∧ E_text k xs (lawL i) σ = some (r, σ')
section LL
variable {p : Program} {l : Launch} {e : Env} {s : State} {m : MethodId} {below : List Frame} {meth : Method} {c : Code} {b : Nat}
set_option maxRecDepth 20000 in
set_option maxHeartbeats 4000000 in
theorem law_loop2 {E : cEnv} {L : Nat} {xs : Nat → Int32} (hLL : L ≤ 3584) (hE1 : E.1 = s.heap.size) (hE : cOkE E) {q : xA} (hst : xFx E q s s.heap) (hr : meth.sig.returnType = ret) (hcb : c.code = code) (hC : ∀ cells slots, cells ≤ 600000 → slots ≤ 7302250 → pCx p room_1 s m #[.ref b] meth c (E2 E b) s.heap RL cL_law 4 1300 cells slots (some (5000, L, xs)))
    (τ : Nat → pM) (hτ : ∀ k, 7 * k + 7 ≤ L → IterOK2 l L xs (7 * k) (τ k) (τ (k + 1))) : ∀ n k : Nat, n + 7 * k = L + 7 → 7 * k < L + 7 → pG p l e room_1 s m #[.ref b] below meth c (lw_Z below #[.ref b] s) (E2 E b) s.heap 4 (1000 + 40 * k) (60000 + 3000 * k) 18 (lawL (7 * k), [], τ k) := by
  have hE2 : pOkE (E2 E b) := hE
  intro n
  induction n using Nat.strongRecOn with
  | _ n ih =>
    intro k hn hk
    have hCk := hC (1000 + 40 * k) (60000 + 3000 * k) (by omega) (by omega)
    have hG := law_rules (l := l) (e := e) (below := below) hE1 hr hcb hCk
    have hs : (some (5000, L, xs) : Option (Nat × Nat × (Nat → Int32))) = some (5000, L, xs) := rfl
    refine c_law hG hs (lawL (7 * k)) [] (τ k) _ _ (Nat.zero_le _) (C_law_eval (by omega) (by omega)) ?_
    by_cases hgo : 7 * k + 7 ≤ L
    · rw [if_pos (by simpa using hgo)]
      have next : ∀ c1 s1 : Nat, c1 ≤ 1000 + 40 * (k + 1) → s1 ≤ 60000 + 3000 * (k + 1) → pG p l e room_1 s m #[.ref b] below meth c (lw_Z below #[.ref b] s) (E2 E b) s.heap 4 c1 s1 18 (lawL (7 * k + 7), [], τ (k + 1)) := by
        intro c1 s1 h1 h2
        have := ih (n - 7) (by omega) (k + 1) (by omega) (by omega)
        rw [show 7 * (k + 1) = 7 * k + 7 by omega] at this
        exact pG_widen h1 h2 this
      rcases hτ k hgo with h | ⟨r, job, ix, h1, h2, h3, h4⟩
      · exact b_law hG hs ((ok_X_weight hE2).mono (by decide)) ((ok_M_weight hE2).mono (by decide)) ((ok_X_limit hE2).mono (by decide)) ((ok_M_limit hE2).mono (by decide)) ((ok_X_ranked hE2).mono (by decide)) ((ok_M_ranked hE2).mono (by decide)) ((ok_X_rule hE2).mono (by decide)) ((ok_M_rule hE2).mono (by decide)) ((ok_X_used hE2).mono (by decide)) ((ok_M_used hE2).mono (by decide)) ((ok_X_feed hE2).mono (by decide)) ((ok_M_feed hE2).mono (by decide)) ((ok_X_job hE2).mono (by decide)) ((ok_M_job hE2).mono (by decide)) ((ok_X_off hE2).mono (by decide)) ((ok_M_off hE2).mono (by decide)) ((ok_X_of hE2).mono (by decide)) ((ok_M_of hE2).mono (by decide)) ((ok_X_arm hE2).mono (by decide)) ((ok_M_arm hE2).mono (by decide)) ((ok_X_line hE2).mono (by decide)) ((ok_M_line hE2).mono (by decide)) ((ok_X_rank hE2).mono (by decide)) ((ok_M_rank hE2).mono (by decide)) ((ok_X_hold hE2).mono (by decide)) ((ok_M_hold hE2).mono (by decide)) (fun As σ r σ' h => by cases h) ((ok_M_text hE2).mono (by decide)) ((ok_X_keep hE2).mono (by decide)) ((ok_M_keep hE2).mono (by decide)) ((ok_X_every hE2).mono (by decide)) ((ok_M_every hE2).mono (by decide)) ((ok_X_free hE2).mono (by decide)) ((ok_M_free hE2).mono (by decide)) ((ok_X_step hE2).mono (by decide)) ((ok_M_step hE2).mono (by decide)) ((ok_X_pass hE2).mono (by decide)) ((ok_M_pass hE2).mono (by decide)) ((ok_X_holder hE2).mono (by decide)) ((ok_M_holder hE2).mono (by decide)) ((ok_X_promised hE2).mono (by decide)) ((ok_M_promised hE2).mono (by decide)) ((ok_X_foretell hE2).mono (by decide)) ((ok_M_foretell hE2).mono (by decide)) ((ok_X_plan hE2).mono (by decide)) ((ok_M_plan hE2).mono (by decide)) ((ok_X_byRule hE2).mono (by decide)) ((ok_M_byRule hE2).mono (by decide)) ((ok_X_shrunk hE2).mono (by decide)) ((ok_M_shrunk hE2).mono (by decide)) ((ok_X_moves hE2).mono (by decide)) ((ok_M_moves hE2).mono (by decide)) ((ok_X_together hE2).mono (by decide)) ((ok_M_together hE2).mono (by decide)) ((ok_X_gap hE2).mono (by decide)) ((ok_M_gap hE2).mono (by decide)) ((ok_X_orders hE2).mono (by decide)) ((ok_M_orders hE2).mono (by decide)) ((ok_X_costs hE2).mono (by decide)) ((ok_M_costs hE2).mono (by decide)) ((ok_X_earliest hE2).mono (by decide)) ((ok_M_earliest hE2).mono (by decide)) ((ok_X_holes hE2).mono (by decide)) ((ok_M_holes hE2).mono (by decide)) ((ok_X_led hE2).mono (by decide)) ((ok_M_led hE2).mono (by decide)) ((ok_X_chart hE2).mono (by decide)) ((ok_M_chart hE2).mono (by decide)) ((ok_X_event hE2).mono (by decide)) ((ok_M_event hE2).mono (by decide)) ((ok_X_started hE2).mono (by decide)) ((ok_M_started hE2).mono (by decide)) ((ok_X_image hE2).mono (by decide)) ((ok_M_image hE2).mono (by decide)) ((ok_X_back hE2).mono (by decide)) ((ok_M_back hE2).mono (by decide)) ((ok_X_count hE2).mono (by decide)) ((ok_M_count hE2).mono (by decide)) (lawL (7 * k)) (τ k) _ h (next _ _ (by omega) (by omega))
      · have hC2 := hC (1000 + 40 * k + 40) (60000 + 3000 * k + 3000) (by omega) (by omega)
        have hG2 := law_rules (l := l) (e := e) (below := below) hE1 hr hcb hC2
        refine e_sw hG hs (lawL (7 * k)) [] (τ k) 13 (τ k) (Nat.zero_le _) h1 (hG.1 _ _ _ _ _ _ dL_law_33 ⟨13, [], rfl, Or.inr ⟨614, 581, by decide, by decide, rfl, rfl, ?_⟩⟩)
        refine (a_text hG hs (lawL (7 * k)) [] (τ k) _ (τ k) (Nat.zero_le _) h2).2 ?_
        refine pG_callX (As := [pI job, pI ix]) (o := 0) (rest := []) (r := some (pI r)) hCk hst dL_law_625 cv_L_70 (by decide +kernel) rfl (by decide) (h3 E b q hE) (by decide) (by decide) (by show _ ≤ 600000; omega) (by show _ ≤ 7302250; omega) ?_
        refine e_text hG2 hs ((ok_M_text hE2).mono (by decide)) (lawL (7 * k)) [pI r] (τ k) r (τ (k + 1)) (by simp [psz, pcat]) h4 ?_
        refine hG2.1 _ _ _ _ _ _ dL_law_642 ⟨rfl, 1405, r, r, [], rfl, rfl, fun _ => ?_, fun q => absurd rfl q⟩
        refine hG2.1 _ _ _ _ _ _ dL_law_1405 ⟨rfl, nI (7 * k), rfl, hG2.1 _ _ _ _ _ _ dL_law_1408 ⟨rfl, 18, rfl, ?_⟩⟩
        have hn7 : pSet1 (lawL (7 * k)) 3 (pI (nI (7 * k) + Int32.ofInt 7)) = lawL (7 * k + 7) := by
          rw [show Int32.ofInt 7 = nI 7 from rfl, nI_add]; rfl
        rw [hn7]
        exact next _ _ (by omega) (by omega)
    · rw [if_neg (by simpa using hgo)]
      obtain ⟨pN, pB, pC, hrl⟩ := r_law hG hs
      exact hrl (lawL (7 * k)) (τ k) (oR (some (pI (zI true))) (τ k)) rfl rfl
end LL
def LawPure2 (l : Launch) (L : Nat) (xs : Nat → Int32) : Prop := ∃ τ : Nat → pM, B_M_ctor [some (pR 179), none] (σOf cs0) = some (oR none (τ 0)) ∧ ∀ k, 7 * k + 7 ≤ L → IterOK2 l L xs (7 * k) (τ k) (τ (k + 1))
set_option maxRecDepth 20000 in
set_option maxHeartbeats 4000000 in
theorem whole_start_of2 {p : Program} {e : Env} {s : State} {m : MethodId} {below : List Frame} {meth : Method} {c : Code} (l : Launch) {b L : Nat} {xs : Nat → Int32} (hL : L ≤ 3584) (hpure : LawPure2 l L xs) (C0 : lw_At p s m meth c b L xs) : W p l e room_1 s m #[Value.ref b] below meth c s.heap [] 0 0 (lw_Z below #[Value.ref b] s) (entryFrame m ([Value.ref b] : List Value).toArray 4) := by
  obtain ⟨hx, hb, hr, hml, hown, hts0, hX, hbl, hlocks, hgv⟩ := id C0
  obtain ⟨τ, hτ0, hτ⟩ := hpure
  have hts : ∀ w ∈ tb, w.before #[Value.ref b] s = true := fun w hw => hts0 w (List.mem_filter.mp hw).1
  have hnw : pNw s := nw_law hts0
  obtain ⟨cI, hI⟩ := arr_law (Or.inl rfl) (hts _ lk_arr.1)
  obtain ⟨cB, hB⟩ := arr_law (Or.inr (Or.inl rfl)) (hts _ lk_arr.2.1)
  obtain ⟨cJ, hJ⟩ := arr_law (Or.inr (Or.inr rfl)) (hts _ lk_arr.2.2)
  obtain ⟨c0, iS0, hKn0⟩ := u_known (C := RX0) (T := TX0) (N := 6) (n := 6) hts0 inX0 (hts0 (.instantiable RX0 6) (List.mem_of_getElem? (i := 231) (by decide +kernel)))
  obtain ⟨c1, iS1, hKn1⟩ := u_known (C := RX1) (T := TX1) (N := 5) (n := 5) hts0 inX1 (hts0 (.instantiable RX1 5) (List.mem_of_getElem? (i := 428) (by decide +kernel)))
  obtain ⟨c2, iS2, hKn2⟩ := u_known (C := RX2) (T := TX2) (N := 9) (n := 9) hts0 inX2 (hts0 (.instantiable RX2 9) (List.mem_of_getElem? (i := 320) (by decide +kernel)))
  obtain ⟨c3, iS3, hKn3⟩ := u_known (C := RX3) (T := TX3) (N := 6) (n := 6) hts0 inX3 (hts0 (.instantiable RX3 6) (List.mem_of_getElem? (i := 450) (by decide +kernel)))
  obtain ⟨c4, iS4, hKn4⟩ := u_known (C := RX4) (T := TX4) (N := 14) (n := 14) hts0 inX4 (hts0 (.instantiable RX4 14) (List.mem_of_getElem? (i := 131) (by decide +kernel)))
  obtain ⟨c5, iS5, hKn5⟩ := u_known (C := RX5) (T := TX5) (N := 4) (n := 4) hts0 inX5 (hts0 (.instantiable RX5 4) (List.mem_of_getElem? (i := 492) (by decide +kernel)))
  obtain ⟨c6, iS6, hKn6⟩ := u_known (C := RX6) (T := TX6) (N := 10) (n := 10) hts0 inX6 (hts0 (.instantiable RX6 10) (List.mem_of_getElem? (i := 125) (by decide +kernel)))
  obtain ⟨c7, iS7, hKn7⟩ := u_known (C := RX7) (T := TX7) (N := 6) (n := 6) hts0 inX7 (hts0 (.instantiable RX7 6) (List.mem_of_getElem? (i := 422) (by decide +kernel)))
  obtain ⟨c8, iS8, hKn8⟩ := u_known (C := RX8) (T := TX8) (N := 7) (n := 7) hts0 inX8 (hts0 (.instantiable RX8 7) (List.mem_of_getElem? (i := 285) (by decide +kernel)))
  obtain ⟨c9, iS9, hKn9⟩ := u_known (C := RX9) (T := TX9) (N := 3) (n := 3) hts0 inX9 (hts0 (.instantiable RX9 3) (List.mem_of_getElem? (i := 573) (by decide +kernel)))
  obtain ⟨c10, iS10, hKn10⟩ := u_known (C := RX10) (T := TX10) (N := 8) (n := 8) hts0 inX10 (hts0 (.instantiable RX10 8) (List.mem_of_getElem? (i := 534) (by decide +kernel)))
  obtain ⟨c11, iS11, hKn11⟩ := u_known (C := RX11) (T := TX11) (N := 8) (n := 8) hts0 inX11 (hts0 (.instantiable RX11 8) (List.mem_of_getElem? (i := 117) (by decide +kernel)))
  obtain ⟨c12, iS12, hKn12⟩ := u_known (C := RX12) (T := TX12) (N := 26) (n := 26) hts0 inX12 (hts0 (.instantiable RX12 26) (List.mem_of_getElem? (i := 1476) (by decide +kernel)))
  obtain ⟨c13, iS13, hKn13⟩ := u_known (C := RJ4) (T := TJ4) (N := 4) (n := 4) hts0 goodJ4 (hts0 (.instantiable RJ4 4) (List.mem_of_getElem? (i := 594) (by decide +kernel)))
  obtain ⟨dC, dI, hKc⟩ : ∃ (dC : Nat → ClassId) (dI : Nat → Nat → Nat), ∀ (k : Nat) (q : vw_C), classes[k]? = some q → u_Kn s q.1 q.2.1 q.2.2 (dC k) (dI k) := by
    refine ⟨fun k => if k = 0 then c0 else if k = 1 then c1 else if k = 2 then c2 else if k = 3 then c3 else if k = 4 then c4 else if k = 5 then c5 else if k = 6 then c6 else if k = 7 then c7 else if k = 8 then c8 else if k = 9 then c9 else if k = 10 then c10 else if k = 11 then c11 else if k = 12 then c12 else c13, fun k => if k = 0 then iS0 else if k = 1 then iS1 else if k = 2 then iS2 else if k = 3 then iS3 else if k = 4 then iS4 else if k = 5 then iS5 else if k = 6 then iS6 else if k = 7 then iS7 else if k = 8 then iS8 else if k = 9 then iS9 else if k = 10 then iS10 else if k = 11 then iS11 else if k = 12 then iS12 else iS13, ?_⟩
    intro k q hq
    match k, hq with
    | 0, hq => cases hq; exact hKn0
    | 1, hq => cases hq; exact hKn1
    | 2, hq => cases hq; exact hKn2
    | 3, hq => cases hq; exact hKn3
    | 4, hq => cases hq; exact hKn4
    | 5, hq => cases hq; exact hKn5
    | 6, hq => cases hq; exact hKn6
    | 7, hq => cases hq; exact hKn7
    | 8, hq => cases hq; exact hKn8
    | 9, hq => cases hq; exact hKn9
    | 10, hq => cases hq; exact hKn10
    | 11, hq => cases hq; exact hKn11
    | 12, hq => cases hq; exact hKn12
    | 13, hq => cases hq; exact hKn13
    | k + 14, hq => simp [classes] at hq
  have hgen : ∃ E : cEnv, E.1 = s.heap.size ∧ cOkE E ∧ va_K E.2.1 classes E.2.2.2 s := ⟨(s.heap.size, (dC, dI), (cI, cB, cJ), [(cI, .int), (cB, .byte), (cJ, .long)]), rfl, ⟨rfl, rfl, rfl⟩, hKc, fun k q h => by
    match k, h with
    | 0, h => cases h; exact hI
    | 1, h => cases h; exact hB
    | 2, h => cases h; exact hJ
    | k + 3, h => simp at h⟩
  obtain ⟨E, hE1, hE, hK⟩ := hgen
  have hS : va_S (cFree E) s.heap s.heap [] := va_S.rf
  have hfr : ∀ a : Nat, a < s.heap.size → ¬ cFree E a := fun a h => by show ¬ E.1 ≤ a; omega
  have hst : cSt E s s.heap := va_Zof (hts0 _ (List.mem_of_getElem? (i := 603) (by decide +kernel))) (hts0 _ (List.mem_of_getElem? (i := 106) (by decide +kernel))) (va_eqi (flat_of_before _ hgv _ (by decide +kernel))) hfr
  have hl := lv_entry ([.ref b]) (n := 4) (Nat.le_of_ble_eq_true rfl)
  rw [lg_entry_eq]
  generalize (lg_sl ([.ref b]) ++ List.replicate (4 - (lg_sl ([.ref b])).length) Slot.unset).toArray = ls at hl ⊢
  have hl : lv_has ls 4 [(0, .ref b)] := hl
  have hc0 : c.code = cL_law := hb
  have H0 : cHp E [] s.heap := ⟨fun k q h => by simp [cWl] at h, by rw [hE1]; rfl⟩
  refine c_newW hx hc0 hown hts hK H0 hS dL_law_0 ck11 (tb_at 116 (by decide +kernel) rfl) (tb_at 117 (by decide +kernel) rfl) (tb_at 91 (by decide +kernel) rfl) (by decide) (by decide) (by decide) fun H hH hS => ?_
  refine lv_dup hx hc0 dL_law_3 rfl ?_
  have hm1 := mk_GangColumns (l := l) hE []
  obtain ⟨-, -, by1, mx1, d1, hcw1, hmx1, hd1, hM1⟩ := hm1
  refine c_call (cs' := blk_GangColumns 0) (va_runI (As := []) (rest := [.ref (E.1 + 0)]) ⟨hx, hc0, hml, hown, hts⟩ hM1 ⟨callB_of 0 hts (tbl_goodIn fun w hw => (List.mem_cons.mp hw).elim (fun z => z ▸ hcw1) id) rfl rfl rfl (hts _ (tb_at 91 (by decide +kernel) rfl)) (hts _ (tb_at 118 (by decide +kernel) rfl)) yk_yX11_init ⟨by show d1 + 1 ≤ 2048; omega, by show 8 + (mx1 + 11) + 60 * d1 ≤ 84000; omega⟩, rfl, hts _ (tb_at 119 (by decide +kernel) rfl)⟩ ⟨cPc_blind E _ _, fun U hU hW => ⟨rfl, by rw [hU]; exact hH, va_K.moved hW.alike hK, hnw.warm hW, by rw [hU]; exact cSt_moved hW.alike (va_Z.kept hst (fun a h1 h2 => hS.2.1 a h1 h2))⟩⟩ rfl rfl hl.1 rfl (lv_room (Nat.le_of_ble_eq_true rfl)) dL_law_4 ⟨by decide, by decide⟩) hS fun H locs hH hS => ?_
  refine lv_astore_n (lv' := [(1, .ref (E.1 + 0)), (0, .ref b)]) hx hc0 dL_law_7 rfl hl (by decide) rfl (fun ls hl => ?_)
  refine c_newW hx hc0 hown hts hK hH hS dL_law_8 ck12 (tb_at 1475 (by decide +kernel) rfl) (tb_at 1476 (by decide +kernel) rfl) (tb_at 108 (by decide +kernel) rfl) (by decide) (by decide) (by decide) fun H hH hS => ?_
  refine lv_dup hx hc0 dL_law_11 rfl ?_
  have hlen : (blk_GangColumns 0).length = 181 := len_GangColumns 0
  rw [hlen]
  have hM2 := mk_Model (l := l) b hE hτ0
  have hcall2 := va_runI (R := room_1) (s := s) (m := m) (args := #[.ref b]) (l := l) (e := e) (below := below) (meth := meth) (H := H) (locs := locs) (cells := 0 + 1 + 180 + 1) (slots := 0 + 8 + 13929 + 26) (g := F0 m 12 ls [.ref (E.1 + 181), .ref (E.1 + 181)]) (As := []) (rest := [.ref (E.1 + 181)]) (b := E.1 + 181) (index := 12) ⟨hx, hc0, hml, hown, hts⟩ hM2 ⟨callB_of 0 hts (tbl_goodIn fun w hw => (List.mem_cons.mp hw).elim (fun z => z ▸ (tb_at 1479 (by decide +kernel) rfl)) id) rfl rfl rfl (hts _ (tb_at 108 (by decide +kernel) rfl)) (hts _ (tb_at 1477 (by decide +kernel) rfl)) yk_yX12_init ⟨by decide, by decide⟩, rfl, hts _ (tb_at 1478 (by decide +kernel) rfl)⟩ ⟨cPc_blind E _ _, fun U hU hW => ⟨rfl, by rw [hU]; exact hH, va_K.moved hW.alike hK, hnw.warm hW, by rw [hU]; exact cSt_moved hW.alike (va_Z.kept hst (fun a h1 h2 => hS.2.1 a h1 h2))⟩⟩ rfl rfl hl.1 rfl (lv_room (Nat.le_of_ble_eq_true rfl)) dL_law_12 ⟨by decide, by decide⟩
  intro T0 hT0 X0
  obtain ⟨v, st₀, t, T', L2, h0, X', hL2, e1, e2, ⟨hv, hP2, hz, hk2⟩, st⟩ := hcall2 T0 hT0 X0
  cases hv
  rw [h0] at hz hk2
  have hS2 : va_S (cFree E) s.heap T'.heap (locs ++ L2) := ⟨Nat.le_trans hS.1 (by rw [e1]; exact hz), fun q h1 h2 => by rw [e1, hk2 q (Nat.lt_of_lt_of_le h1 hS.1) h2]; exact hS.2.1 q h1 h2, fun q hq => by
      rcases List.mem_append.mp hq with h | h
      · exact hS.2.2 q h
      · exact hL2 q h⟩
  have goal : W p l e room_1 s m #[Value.ref b] below meth c T'.heap (locs ++ L2) (0 + 1 + 180 + 1 + 16) (0 + 8 + 13929 + 26 + 12268) (lw_Z below #[Value.ref b] s) (F0 m 15 ls [.ref (E.1 + 181)]) := by
    refine lv_astore_n (lv' := [(2, .ref (E.1 + 181)), (1, .ref (E.1 + 0)), (0, .ref b)]) hx hc0 dL_law_15 rfl hl (by decide) rfl (fun ls hl => ?_)
    refine lv_iconst (v := 0) hx hc0 dL_law_16 (by decide) ?_
    refine lv_istore_n (lv' := [(3, .int 0), (2, .ref (E.1 + 181)), (1, .ref (E.1 + 0)), (0, .ref b)]) hx hc0 dL_law_17 rfl hl (by decide) rfl (fun ls hl => ?_)
    have hC : ∀ cells slots, cells ≤ 600000 → slots ≤ 7302250 → pCx p room_1 s m #[.ref b] meth c (E2 E b) s.heap RL cL_law 4 1300 cells slots (some (5000, L, xs)) := fun cells slots h1 h2 =>
      ⟨hx, hc0, hml, hown, hts, hK, hE, by decide, by decide, h1, h2, hlocks, hnw, fun a k ys hz => by
        cases hz
        exact ⟨hX, hbl, hfr b hbl⟩⟩
    obtain ⟨q, hfx⟩ := x_start hts0 hgv hfr hst
    have hloop := law_loop2 (l := l) (e := e) (below := below) hL hE1 hE hfx hr hb hC τ hτ (L + 7) 0 (by omega) (by omega)
    have h9 : lv_has ls 4 (pll (E2 E b).1 0 (lawL 0)) := lv_sub hl [3, 2, 1, 0] rfl |> fun h => ⟨h.1, h.2.1, fun q hq => h.2.2 q (by
      simp only [pll, List.mem_cons, List.not_mem_nil, or_false] at hq
      rcases hq with rfl | rfl | rfl | rfl
      · exact List.mem_of_getElem? (i := 0) rfl
      · exact List.mem_of_getElem? (i := 1) rfl
      · exact List.mem_of_getElem? (i := 2) rfl
      · exact List.mem_of_getElem? (i := 3) rfl)⟩
    exact W.widen (by decide) (by decide) (hloop rfl ls T'.heap (locs ++ L2) h9 (by rw [e1]; exact hP2) hS2)
  obtain ⟨t2, a1, b1⟩ := goal T' rfl X'
  exact ⟨t2, st t2 a1, b1⟩
