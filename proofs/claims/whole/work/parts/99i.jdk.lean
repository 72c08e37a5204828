/-! ===== the library's methods: adding to a text ===== -/
theorem chr_nar : ∀ c, c < 256 → (nI c).toUInt32.toUInt16.toUInt32.toInt32 = nI c := by decide +kernel
theorem b8 (x : Int32) : x.toInt8.toInt32.toInt8.toInt32 = x.toInt8.toInt32 := by rw [Int8.toInt8_toInt32]
/-- a builder's cells: its bytes are the (k + 1)st -/
abbrev tB (k : Nat) (c n : pV) (tl : List tC) : List tC := .inr [pR (k + 1), pI 0, c, n] :: tl
theorem tm_ensure {l : Launch} {E : tEnv} (hE : tOk E) {c n : pV} {m q : Nat} {a : Nat → Int32} (hm : m ≤ 65536) (hq : q ≤ 46) (hf : sb_Fit a) : ∃ (k : Nat) (tl : List tC) (M : Nat) (A : Nat → Int32), tmRun l E 4 2 yJ5_ensureCapacityInternal_d00df [pR 0, pI (nI q)] (tB 0 c n [.inl (m, a)]) none (tB k c n tl) ∧ tl[k]? = some (.inl (M, A)) ∧ q ≤ M ∧ M ≤ 65536 ∧ (∀ j, j < m → A j = a j) ∧ sb_Fit A := by
  by_cases h : q ≤ m
  · exact ⟨0, [.inl (m, a)], m, a, tm_ensureNo hE hm h, rfl, h, hm, fun _ _ => rfl, hf⟩
  · exact ⟨1, [.inl (m, a), .inl (m + max (q - m) (m + 2), va_cpy a (fun _ => 0) 0 0 m)], _, _, tm_ensureYes hE (by omega) hq (by omega) hf, rfl, by omega, by omega, fun j hj => sb_cpy0 hj, sb_fitC hf sb_fit0⟩
/-- what a call that adds to a text leaves -/
def tGood (l : Launch) (E : tEnv) (d : Nat) (y : MethodName) (As : List pV) (c : pV) (cs : List tC) (t : Nat → Nat) (n : Nat) : Prop := ∃ (k : Nat) (tl : List tC) (M : Nat) (A : Nat → Int32), tmRun l E d 2 y As cs (some (pR 0)) (tB k c (pI (nI n)) tl) ∧ tl[k]? = some (.inl (M, A)) ∧ n ≤ M ∧ M ≤ 65536 ∧ sb_Lat t n A ∧ sb_Fit A
theorem tm_appendC5 {l : Launch} {E : tEnv} (hE : tOk E) {c : pV} {t : Nat → Nat} {n m ch : Nat} {a : Nat → Int32} (hnm : n ≤ m) (hm : m ≤ 65536) (hn : n ≤ 45) (hL : sb_Lat t n a) (hf : sb_Fit a) (hc : ch < 256) : tGood l E 5 yJ5_append_3fe6f [pR 0, pI (nI ch)] c (tB 0 c (pI (nI n)) [.inl (m, a)]) (sb_cat t n (fun _ => ch)) (n + 1) := by
  obtain ⟨k, tl, M, A, h1, ht, hM1, hM2, hA, hfA⟩ := tm_ensure (l := l) hE (c := c) (n := pI (nI n)) (q := n + 1) hm (by omega) hf
  have hkl : k < tl.length := (List.getElem?_eq_some_iff.mp ht).1
  refine ⟨k, tl.set k (.inl (M, upd A n (sb_b ch))), M, upd A n (sb_b ch), ?_, by rw [List.getElem?_set_self hkl], hM1, hM2, fun j hj => ?_, sb_fitU hfA (sb_fitB ch)⟩
  · refine tmRun_intro hE (own := RJ5) jq_yJ5_append_3fe6f rfl (by decide +kernel) (by decide) (Nat.le_of_ble_eq_true rfl) ⟨_, rfl, Or.inl ⟨_, rfl⟩⟩ ?_
    intro G hG
    refine hG _ _ _ _ _ _ _ dJ5_append_3fe6f_0 ⟨rfl, _, rfl, ?_⟩
    refine hG _ _ _ _ _ _ _ dJ5_append_3fe6f_1 ⟨rfl, _, rfl, ?_⟩
    refine hG _ _ _ _ _ _ _ dJ5_append_3fe6f_2 ⟨rfl, Or.inl ⟨3, 0, _, _, _, rfl, jf_J5_79, rfl, rfl, ?_⟩⟩
    refine hG _ _ _ _ _ _ _ dJ5_append_3fe6f_5 ⟨rfl, ?_⟩
    refine hG _ _ _ _ _ _ _ dJ5_append_3fe6f_6 ⟨rfl, _, _, _, rfl, ?_⟩
    rw [show Int32.ofInt 1 = nI 1 from rfl, nI_add]
    refine hG _ _ _ _ _ _ _ dJ5_append_3fe6f_7 ⟨rfl, 2, _, _, _, _, [pI (nI (n + 1))], _, _, _, jc_J5_100, rfl, rfl, Nat.le_of_ble_eq_true rfl, Or.inl ⟨rfl, _, rfl⟩, h1, (fun _ => ⟨rfl, rfl⟩), ?_⟩
    refine hG _ _ _ _ _ _ _ dJ5_append_3fe6f_10 ⟨rfl, _, rfl, ?_⟩
    refine hG _ _ _ _ _ _ _ dJ5_append_3fe6f_11 ⟨rfl, 0, _, _, _, _, [], _, _, _, jc_J5_83, rfl, rfl, Nat.le_of_ble_eq_true rfl, Or.inl ⟨rfl, _, rfl⟩, (tm_isLatin1 hE).mono (by decide), (fun h => by cases h), ?_⟩
    refine hG _ _ _ _ _ _ _ dJ5_append_3fe6f_14 ⟨rfl, 45, _, _, rfl, rfl, fun h => absurd h (show ¬ ((1 : Int32) = 0) by decide), fun _ => ?_⟩
    refine hG _ _ _ _ _ _ _ dJ5_append_3fe6f_17 ⟨rfl, _, rfl, ?_⟩
    refine hG _ _ _ _ _ _ _ dJ5_append_3fe6f_18 ⟨rfl, Or.inl ⟨0, _, _, [pI (nI ch)], _, _, _, jc_J5_191, rfl, rfl, Nat.le_of_ble_eq_true rfl, (tm_canEncode hE hc).mono (by decide), (fun h => by cases h), ?_⟩⟩
    refine hG _ _ _ _ _ _ _ dJ5_append_3fe6f_21 ⟨rfl, 45, _, _, rfl, rfl, fun h => absurd h (show ¬ ((1 : Int32) = 0) by decide), fun _ => ?_⟩
    refine hG _ _ _ _ _ _ _ dJ5_append_3fe6f_24 ⟨rfl, _, rfl, ?_⟩
    refine hG _ _ _ _ _ _ _ dJ5_append_3fe6f_25 ⟨rfl, Or.inl ⟨0, 0, _, _, _, rfl, jf_J5_15, rfl, rfl, ?_⟩⟩
    refine hG _ _ _ _ _ _ _ dJ5_append_3fe6f_28 ⟨rfl, _, rfl, ?_⟩
    refine hG _ _ _ _ _ _ _ dJ5_append_3fe6f_29 ⟨rfl, _, _, rfl, rfl, ?_⟩
    refine hG _ _ _ _ _ _ _ dJ5_append_3fe6f_30 ⟨rfl, Or.inl ⟨3, 0, _, _, _, rfl, jf_J5_79, rfl, rfl, ?_⟩⟩
    refine hG _ _ _ _ _ _ _ dJ5_append_3fe6f_33 ⟨rfl, _, _, _, rfl, rfl, rfl, ?_⟩
    refine hG _ _ _ _ _ _ _ dJ5_append_3fe6f_34 ⟨rfl, ?_⟩
    refine hG _ _ _ _ _ _ _ dJ5_append_3fe6f_35 ⟨rfl, _, _, _, rfl, ?_⟩
    rw [show Int32.ofInt 1 = nI 1 from rfl, nI_add]
    refine hG _ _ _ _ _ _ _ dJ5_append_3fe6f_36 ⟨rfl, 3, 0, _, _, _, _, _, _, _, rfl, ck13, by decide, jp_J5_79, rfl, Nat.le_of_ble_eq_true rfl, rfl, rfl, ?_⟩
    refine hG _ _ _ _ _ _ _ dJ5_append_3fe6f_39 ⟨rfl, _, rfl, ?_⟩
    refine hG _ _ _ _ _ _ _ dJ5_append_3fe6f_40 ⟨rfl, _, _, rfl, ?_⟩
    refine hG _ _ _ _ _ _ _ dJ5_append_3fe6f_41 ⟨rfl, _, _, _, _, _, _, rfl, ht, nI_in (by omega) (by omega), ?_⟩
    refine hG _ _ _ _ _ _ _ dJ5_append_3fe6f_42 ⟨rfl, 75, rfl, ?_⟩
    refine hG _ _ _ _ _ _ _ dJ5_append_3fe6f_75 ⟨rfl, _, rfl, ?_⟩
    rw [nI_clamp (by omega), b8]
    exact hG _ _ _ _ _ _ _ dJ5_append_3fe6f_76 ⟨rfl, _, rfl, (fun h => by cases h), ⟨rfl, rfl⟩⟩
  · by_cases hj2 : j = n
    · rw [hj2, show sb_cat t n (fun _ => ch) n = ch from sb_cat_hi (j := 0), pk_us]
      exact ⟨hc, rfl⟩
    · rw [sb_cat_lo (by omega), pk_un hj2, hA j (by omega)]
      exact hL j (by omega)
theorem tm_appendC {l : Launch} {E : tEnv} (hE : tOk E) {c : pV} {t : Nat → Nat} {n m ch : Nat} {a : Nat → Int32} (hnm : n ≤ m) (hm : m ≤ 65536) (hn : n ≤ 45) (hL : sb_Lat t n a) (hf : sb_Fit a) (hc : ch < 256) : tGood l E 6 yJ4_append_cf468 [pR 0, pI (nI ch)] c (tB 0 c (pI (nI n)) [.inl (m, a)]) (sb_cat t n (fun _ => ch)) (n + 1) := by
  obtain ⟨k, tl, M, A, h1, h2⟩ := tm_appendC5 (l := l) hE (c := c) hnm hm hn hL hf hc
  refine ⟨k, tl, M, A, ?_, h2⟩
  refine tmRun_intro hE (own := RJ4) jq_yJ4_append_cf468 rfl (by decide +kernel) (by decide) (Nat.le_of_ble_eq_true rfl) ⟨_, rfl, Or.inl ⟨_, rfl⟩⟩ ?_
  intro G hG
  refine hG _ _ _ _ _ _ _ dJ4_append_cf468_0 ⟨rfl, _, rfl, ?_⟩
  refine hG _ _ _ _ _ _ _ dJ4_append_cf468_1 ⟨rfl, _, rfl, ?_⟩
  refine hG _ _ _ _ _ _ _ dJ4_append_cf468_2 ⟨rfl, 2, _, _, _, [pI (nI ch)], _, _, _, jc_J4_50, rfl, rfl, Nat.le_of_ble_eq_true rfl, ⟨_, rfl⟩, h1, (fun _ => ⟨rfl, rfl⟩), ?_⟩
  refine hG _ _ _ _ _ _ _ dJ4_append_cf468_5 ⟨rfl, _, _, rfl, rfl, ?_⟩
  refine hG _ _ _ _ _ _ _ dJ4_append_cf468_6 ⟨rfl, _, rfl, ?_⟩
  exact hG _ _ _ _ _ _ _ dJ4_append_cf468_7 ⟨rfl, _, rfl, (fun h => by cases h), ⟨rfl, rfl⟩⟩
theorem tm_getBytes {l : Launch} {E : tEnv} (hE : tOk E) {cs : List tC} {k n M : Nat} {A : Nat → Int32} (ht : cs[k]? = some (.inl (M, A))) (hw : E.2.2.2.1 ≤ 46) (hn : n + E.2.2.2.1 ≤ M) (hM : M ≤ 65536) (hb : sb_Fit E.2.2.2.2) : tmRun l E 2 1 yJ0_getBytes_840e7 [pR 50, pR k, pI (nI n), pI 0] cs none (cs.set k (.inl (M, va_cpy E.2.2.2.2 A 0 n E.2.2.2.1))) := by
  refine tmRun_intro hE (own := RJ0) jq_yJ0_getBytes_840e7 rfl (by decide +kernel) (by decide) (Nat.le_of_ble_eq_true rfl) rfl ?_
  intro G hG
  refine hG _ _ _ _ _ _ _ dJ0_getBytes_840e7_0 ⟨rfl, _, rfl, ?_⟩
  refine hG _ _ _ _ _ _ _ dJ0_getBytes_840e7_1 ⟨rfl, 0, _, _, _, _, [], _, _, _, jc_J0_335, rfl, rfl, Nat.le_of_ble_eq_true rfl, Or.inr ⟨rfl, rfl⟩, tm_coder hE, (fun h => by cases h), ?_⟩
  refine hG _ _ _ _ _ _ _ dJ0_getBytes_840e7_4 ⟨rfl, _, rfl, ?_⟩
  refine hG _ _ _ _ _ _ _ dJ0_getBytes_840e7_5 ⟨rfl, 28, _, _, _, rfl, rfl, fun h => absurd h (fun h => h rfl), fun _ => ?_⟩
  refine hG _ _ _ _ _ _ _ dJ0_getBytes_840e7_8 ⟨rfl, _, rfl, ?_⟩
  refine hG _ _ _ _ _ _ _ dJ0_getBytes_840e7_9 ⟨rfl, Or.inr (Or.inr ⟨_, rfl, jf_J0_9, ?_⟩)⟩
  refine hG _ _ _ _ _ _ _ dJ0_getBytes_840e7_12 ⟨rfl, ?_⟩
  refine hG _ _ _ _ _ _ _ dJ0_getBytes_840e7_13 ⟨rfl, _, rfl, ?_⟩
  refine hG _ _ _ _ _ _ _ dJ0_getBytes_840e7_14 ⟨rfl, _, rfl, ?_⟩
  refine hG _ _ _ _ _ _ _ dJ0_getBytes_840e7_15 ⟨rfl, _, rfl, ?_⟩
  refine hG _ _ _ _ _ _ _ dJ0_getBytes_840e7_16 ⟨rfl, _, _, _, rfl, ?_⟩
  rw [sb_shl0]
  refine hG _ _ _ _ _ _ _ dJ0_getBytes_840e7_17 ⟨rfl, _, rfl, ?_⟩
  refine hG _ _ _ _ _ _ _ dJ0_getBytes_840e7_18 ⟨rfl, Or.inr (Or.inr ⟨_, rfl, jf_J0_9, ?_⟩)⟩
  refine hG _ _ _ _ _ _ _ dJ0_getBytes_840e7_21 ⟨rfl, Or.inr ⟨_, rfl, ?_⟩⟩
  refine hG _ _ _ _ _ _ _ dJ0_getBytes_840e7_22 ⟨rfl, Or.inr (Or.inr (Or.inr (Or.inr ⟨_, _, _, _, _, _, _, jc_J0_212, rfl, Nat.le_of_ble_eq_true rfl, by decide, nI_pos (by omega), nI_pos (by omega), ht, by rw [show Int32.ofNat E.2.2.2.1 = nI E.2.2.2.1 from rfl, nI_clamp (by omega)]; show 0 + E.2.2.2.1 ≤ E.2.2.2.1; omega, by rw [show Int32.ofNat E.2.2.2.1 = nI E.2.2.2.1 from rfl, nI_clamp (by omega), nI_clamp (by omega)]; omega, hb, ?_⟩)))⟩
  refine hG _ _ _ _ _ _ _ dJ0_getBytes_840e7_25 ⟨rfl, 43, rfl, ?_⟩
  rw [show Int32.ofNat E.2.2.2.1 = nI E.2.2.2.1 from rfl, nI_clamp (by omega), nI_clamp (by omega)]
  exact hG _ _ _ _ _ _ _ dJ0_getBytes_840e7_43 ⟨rfl, rfl, (fun h => by cases h), ⟨rfl, rfl⟩⟩
theorem tm_putString {l : Launch} {E : tEnv} (hE : tOk E) {c x : pV} {tl : List tC} {k n M : Nat} {A : Nat → Int32} (ht : tl[k]? = some (.inl (M, A))) (hw : E.2.2.2.1 ≤ 46) (hn : n + E.2.2.2.1 ≤ M) (hM : M ≤ 65536) (hb : sb_Fit E.2.2.2.2) : tmRun l E 3 1 yJ5_putStringAt_47b60 [pR 0, pI (nI n), pR 50] (tB k c x tl) none (tB k c x (tl.set k (.inl (M, va_cpy E.2.2.2.2 A 0 n E.2.2.2.1)))) := by
  refine tmRun_intro hE (own := RJ5) jq_yJ5_putStringAt_47b60 rfl (by decide +kernel) (by decide) (Nat.le_of_ble_eq_true rfl) rfl ?_
  intro G hG
  refine hG _ _ _ _ _ _ _ dJ5_putStringAt_47b60_0 ⟨rfl, _, rfl, ?_⟩
  refine hG _ _ _ _ _ _ _ dJ5_putStringAt_47b60_1 ⟨rfl, _, rfl, ?_⟩
  refine hG _ _ _ _ _ _ _ dJ5_putStringAt_47b60_2 ⟨rfl, 0, _, _, _, _, [pR 50], _, _, _, jc_J5_397, rfl, rfl, Nat.le_of_ble_eq_true rfl, Or.inl ⟨rfl, _, rfl⟩, tm_inflateIf hE, (fun h => by cases h), ?_⟩
  refine hG _ _ _ _ _ _ _ dJ5_putStringAt_47b60_5 ⟨rfl, _, rfl, ?_⟩
  refine hG _ _ _ _ _ _ _ dJ5_putStringAt_47b60_6 ⟨rfl, _, rfl, ?_⟩
  refine hG _ _ _ _ _ _ _ dJ5_putStringAt_47b60_7 ⟨rfl, Or.inl ⟨0, 0, _, _, _, rfl, jf_J5_15, rfl, rfl, ?_⟩⟩
  refine hG _ _ _ _ _ _ _ dJ5_putStringAt_47b60_10 ⟨rfl, _, rfl, ?_⟩
  refine hG _ _ _ _ _ _ _ dJ5_putStringAt_47b60_11 ⟨rfl, _, rfl, ?_⟩
  refine hG _ _ _ _ _ _ _ dJ5_putStringAt_47b60_12 ⟨rfl, Or.inl ⟨1, 0, _, _, _, rfl, jf_J5_22, rfl, rfl, ?_⟩⟩
  refine hG _ _ _ _ _ _ _ dJ5_putStringAt_47b60_15 ⟨rfl, 1, _, _, _, _, [pR (k + 1), pI (nI n), pI 0], _, _, _, jc_J5_399, rfl, rfl, Nat.le_of_ble_eq_true rfl, Or.inr ⟨rfl, rfl⟩, tm_getBytes hE (cs := tB k c x tl) (k := k + 1) ht hw hn hM hb, (fun h => by cases h), ?_⟩
  exact hG _ _ _ _ _ _ _ dJ5_putStringAt_47b60_18 ⟨rfl, rfl, (fun h => by cases h), ⟨rfl, rfl⟩⟩
theorem tm_appendS5 {l : Launch} {E : tEnv} (hE : tOk E) {c : pV} {t s : Nat → Nat} {n m : Nat} {a : Nat → Int32} (hnm : n ≤ m) (hm : m ≤ 65536) (hn : n + E.2.2.2.1 ≤ 46) (hL : sb_Lat t n a) (hf : sb_Fit a) (hs : sb_Lat s E.2.2.2.1 E.2.2.2.2) (hb : sb_Fit E.2.2.2.2) : tGood l E 5 yJ5_append_cf1ce [pR 0, pR 50] c (tB 0 c (pI (nI n)) [.inl (m, a)]) (sb_cat t n s) (n + E.2.2.2.1) := by
  obtain ⟨k, tl, M, A, h1, ht, hM1, hM2, hA, hfA⟩ := tm_ensure (l := l) hE (c := c) (n := pI (nI n)) (q := n + E.2.2.2.1) hm hn hf
  have hkl : k < tl.length := (List.getElem?_eq_some_iff.mp ht).1
  refine ⟨k, tl.set k (.inl (M, va_cpy E.2.2.2.2 A 0 n E.2.2.2.1)), M, va_cpy E.2.2.2.2 A 0 n E.2.2.2.1, ?_, by rw [List.getElem?_set_self hkl], hM1, hM2, fun j hj => ?_, sb_fitC hb hfA⟩
  · refine tmRun_intro hE (own := RJ5) jq_yJ5_append_cf1ce rfl (by decide +kernel) (by decide) (Nat.le_of_ble_eq_true rfl) ⟨_, rfl, Or.inl ⟨_, rfl⟩⟩ ?_
    intro G hG
    refine hG _ _ _ _ _ _ _ dJ5_append_cf1ce_0 ⟨rfl, _, rfl, ?_⟩
    refine hG _ _ _ _ _ _ _ dJ5_append_cf1ce_1 ⟨rfl, 9, _, _, rfl, rfl, ?_⟩
    refine hG _ _ _ _ _ _ _ dJ5_append_cf1ce_9 ⟨rfl, _, rfl, ?_⟩
    refine hG _ _ _ _ _ _ _ dJ5_append_cf1ce_10 ⟨rfl, 0, _, _, _, _, [], _, _, _, jc_J5_32, rfl, rfl, Nat.le_of_ble_eq_true rfl, Or.inr ⟨rfl, rfl⟩, (tm_strLength hE).mono (by decide), (fun h => by cases h), ?_⟩
    refine hG _ _ _ _ _ _ _ dJ5_append_cf1ce_13 ⟨rfl, _, _, rfl, Nat.le_of_ble_eq_true rfl, ?_⟩
    refine hG _ _ _ _ _ _ _ dJ5_append_cf1ce_14 ⟨rfl, _, rfl, ?_⟩
    refine hG _ _ _ _ _ _ _ dJ5_append_cf1ce_15 ⟨rfl, _, rfl, ?_⟩
    refine hG _ _ _ _ _ _ _ dJ5_append_cf1ce_16 ⟨rfl, Or.inl ⟨3, 0, _, _, _, rfl, jf_J5_79, rfl, rfl, ?_⟩⟩
    refine hG _ _ _ _ _ _ _ dJ5_append_cf1ce_19 ⟨rfl, _, rfl, ?_⟩
    refine hG _ _ _ _ _ _ _ dJ5_append_cf1ce_20 ⟨rfl, _, _, _, rfl, ?_⟩
    rw [nI_add]
    refine hG _ _ _ _ _ _ _ dJ5_append_cf1ce_21 ⟨rfl, 2, _, _, _, _, [pI (nI (n + E.2.2.2.1))], _, _, _, jc_J5_100, rfl, rfl, Nat.le_of_ble_eq_true rfl, Or.inl ⟨rfl, _, rfl⟩, h1, (fun _ => ⟨rfl, rfl⟩), ?_⟩
    refine hG _ _ _ _ _ _ _ dJ5_append_cf1ce_24 ⟨rfl, _, rfl, ?_⟩
    refine hG _ _ _ _ _ _ _ dJ5_append_cf1ce_25 ⟨rfl, _, rfl, ?_⟩
    refine hG _ _ _ _ _ _ _ dJ5_append_cf1ce_26 ⟨rfl, Or.inl ⟨3, 0, _, _, _, rfl, jf_J5_79, rfl, rfl, ?_⟩⟩
    refine hG _ _ _ _ _ _ _ dJ5_append_cf1ce_29 ⟨rfl, _, rfl, ?_⟩
    refine hG _ _ _ _ _ _ _ dJ5_append_cf1ce_30 ⟨rfl, 1, _, _, _, _, [pI (nI n), pR 50], _, _, _, jc_J5_208, rfl, rfl, Nat.le_of_ble_eq_true rfl, Or.inl ⟨rfl, _, rfl⟩, (tm_putString hE ht (by omega) hM1 hM2 hb).mono (by decide), (fun h => by cases h), ?_⟩
    refine hG _ _ _ _ _ _ _ dJ5_append_cf1ce_33 ⟨rfl, _, rfl, ?_⟩
    refine hG _ _ _ _ _ _ _ dJ5_append_cf1ce_34 ⟨rfl, _, _, rfl, rfl, ?_⟩
    refine hG _ _ _ _ _ _ _ dJ5_append_cf1ce_35 ⟨rfl, Or.inl ⟨3, 0, _, _, _, rfl, jf_J5_79, rfl, rfl, ?_⟩⟩
    refine hG _ _ _ _ _ _ _ dJ5_append_cf1ce_38 ⟨rfl, _, rfl, ?_⟩
    refine hG _ _ _ _ _ _ _ dJ5_append_cf1ce_39 ⟨rfl, _, _, _, rfl, ?_⟩
    rw [nI_add]
    refine hG _ _ _ _ _ _ _ dJ5_append_cf1ce_40 ⟨rfl, 3, 0, _, _, _, _, _, _, _, rfl, ck13, by decide, jp_J5_79, rfl, Nat.le_of_ble_eq_true rfl, rfl, rfl, ?_⟩
    refine hG _ _ _ _ _ _ _ dJ5_append_cf1ce_43 ⟨rfl, _, rfl, ?_⟩
    exact hG _ _ _ _ _ _ _ dJ5_append_cf1ce_44 ⟨rfl, _, rfl, (fun h => by cases h), ⟨rfl, rfl⟩⟩
  · by_cases hj2 : j < n
    · rw [sb_cat_lo hj2, pk_cpy_out (Or.inl hj2), hA j (by omega)]
      exact hL j hj2
    · obtain ⟨i, rfl⟩ : ∃ i, j = n + i := ⟨j - n, by omega⟩
      rw [sb_cat_hi, pk_cpy_in (by omega) (by omega), show 0 + (n + i - n) = i by omega]
      exact hs i (by omega)
theorem tm_appendS {l : Launch} {E : tEnv} (hE : tOk E) {c : pV} {t : Nat → Nat} {n m : Nat} {s : Nat → Nat} {a : Nat → Int32} (hnm : n ≤ m) (hm : m ≤ 65536) (hn : n + E.2.2.2.1 ≤ 46) (hL : sb_Lat t n a) (hf : sb_Fit a) (hs : sb_Lat s E.2.2.2.1 E.2.2.2.2) (hb : sb_Fit E.2.2.2.2) : tGood l E 6 yJ4_append_15ec4 [pR 0, pR 50] c (tB 0 c (pI (nI n)) [.inl (m, a)]) (sb_cat t n s) (n + E.2.2.2.1) := by
  obtain ⟨k, tl, M, A, h1, h2⟩ := tm_appendS5 (l := l) hE (c := c) hnm hm hn hL hf hs hb
  refine ⟨k, tl, M, A, ?_, h2⟩
  refine tmRun_intro hE (own := RJ4) jq_yJ4_append_15ec4 rfl (by decide +kernel) (by decide) (Nat.le_of_ble_eq_true rfl) ⟨_, rfl, Or.inl ⟨_, rfl⟩⟩ ?_
  intro G hG
  refine hG _ _ _ _ _ _ _ dJ4_append_15ec4_0 ⟨rfl, _, rfl, ?_⟩
  refine hG _ _ _ _ _ _ _ dJ4_append_15ec4_1 ⟨rfl, _, rfl, ?_⟩
  refine hG _ _ _ _ _ _ _ dJ4_append_15ec4_2 ⟨rfl, 2, _, _, _, [pR 50], _, _, _, jc_J4_29, rfl, rfl, Nat.le_of_ble_eq_true rfl, ⟨_, rfl⟩, h1, (fun _ => ⟨rfl, rfl⟩), ?_⟩
  refine hG _ _ _ _ _ _ _ dJ4_append_15ec4_5 ⟨rfl, _, _, rfl, rfl, ?_⟩
  refine hG _ _ _ _ _ _ _ dJ4_append_15ec4_6 ⟨rfl, _, rfl, ?_⟩
  exact hG _ _ _ _ _ _ _ dJ4_append_15ec4_7 ⟨rfl, _, rfl, (fun h => by cases h), ⟨rfl, rfl⟩⟩
theorem met_check3 {l : Launch} {v : Value} (hv : v.isRef = true) {i n : Nat} (hi : i < n) (hn : n ≤ 65536) {A : Nat → Prop} : Met l yJ3_checkIndex_8e157 (Cond.code yJ3_checkIndex_8e157 cJ3_checkIndex_8e157 3 (some .int) :: tb) (cRm 1 0 0) (va_Pc [.int (nI i), .int (nI n), v] (fun _ => True)) (fun _ st oc t => oc = .returned (some (.int (nI i))) ∧ t.heap = st.heap) 0 0 A := by
  have hent : ∃ ls, ls = ((lg_sl [.int (nI i), .int (nI n), v]) ++ List.replicate (3 - (lg_sl [.int (nI i), .int (nI n), v]).length) Slot.unset).toArray ∧ lv_has ls 3 (lv_args 0 [.int (nI i), .int (nI n), v]) := by
    cases v with
    | ref a => exact ⟨_, rfl, lv_entry ([.int (nI i), .int (nI n), .ref a]) (n := 3) (Nat.le_of_ble_eq_true rfl)⟩
    | null => exact ⟨_, rfl, lv_entry ([.int (nI i), .int (nI n), .null]) (n := 3) (Nat.le_of_ble_eq_true rfl)⟩
    | _ => cases hv
  refine Met.ofW (cc := cJ3_checkIndex_8e157) (maxL := 3) (ret := some .int) (by decide +kernel) rfl ?_
  intro p e s m args below meth c s₁ B hml hv2
  obtain ⟨rfl, -⟩ := hv2
  have hr := B.returns
  have hx := B.exec
  have hb := B.bytes
  have hlocks := B.notSynchronized
  rw [lg_entry_eq]
  obtain ⟨ls, hls, hent⟩ := hent
  rw [← hls]
  have l0 : ls[0]? = some (.val (.int (nI i))) := hent.2.2 (0, .int (nI i)) (by simp [lv_args])
  have l1 : ls[1]? = some (.val (.int (nI n))) := hent.2.2 (1, .int (nI n)) (by simp [lv_args, Value.category])
  refine lv_iload_n hx hb dJ3_checkIndex_8e157_0 rfl l0 ?_
  refine lv_if_lt hx hb dJ3_checkIndex_8e157_1 (tgt := 9) rfl (fun q => absurd q (nI_pos (by omega))) (fun _ => ?_)
  refine lv_iload_n hx hb dJ3_checkIndex_8e157_4 rfl l0 ?_
  refine lv_iload_n hx hb dJ3_checkIndex_8e157_5 rfl l1 ?_
  refine lv_icmp_lt hx hb dJ3_checkIndex_8e157_6 (tgt := 16) rfl (fun _ => ?_) (fun q => absurd (nI_lt hi (by omega)) q)
  refine lv_iload_n hx hb dJ3_checkIndex_8e157_16 rfl l0 ?_
  exact W.iret hx hb hr (fun t ht _ => ⟨rfl, ht⟩) (fun q hq => by cases hq) dJ3_checkIndex_8e157_17 hlocks
theorem tm_check0 {l : Launch} {E : tEnv} (hE : tOk E) {i n : Nat} (hi : i < n) (hn : n ≤ 65536) {cs : List tC} : tmRun l E 2 0 yJ0_checkIndex_df160 [pI (nI i), pI (nI n)] cs none cs := by
  refine ⟨cJ0_checkIndex_df160, 2, none, 2, jq_yJ0_checkIndex_df160, by decide, Nat.le_refl _, Met.ofW (cc := cJ0_checkIndex_df160) (maxL := 2) (ret := none) (by decide +kernel) rfl ?_⟩
  intro p e s m args below meth c s₁ B hml hv
  obtain ⟨rfl, hH, hK, hnw, hfx, -⟩ := hv
  have hts : ∀ w ∈ tb, w.before ([pI (nI i), pI (nI n)].map (pv E.1)).toArray s = true := fun w hw => atoms_spec (ws := Cond.code yJ0_checkIndex_df160 cJ0_checkIndex_df160 2 none :: tb) B.pre w (List.mem_cons_of_mem _ hw)
  have hr := B.returns
  have hx := B.exec
  have hb := B.bytes
  have hlocks := B.notSynchronized
  have hown : s.vm.findClass RJ0 = some m.cls := findClass_of_methodNamed B.named
  obtain ⟨v, hv, hz⟩ := hfx.2.2.2.2.1
  obtain ⟨w1, w2, w3, hy⟩ := jc_J0_1059
  rw [lg_entry_eq]
  have hent := lv_entry ([pI (nI i), pI (nI n)].map (pv E.1)) (n := 2) (Nat.le_of_ble_eq_true rfl)
  generalize (lg_sl ([pI (nI i), pI (nI n)].map (pv E.1)) ++ List.replicate (2 - (lg_sl ([pI (nI i), pI (nI n)].map (pv E.1))).length) Slot.unset).toArray = ls at hent ⊢
  have l0 : ls[0]? = some (.val (.int (nI i))) := hent.2.2 (0, .int (nI i)) (by simp [lv_args, pv])
  have l1 : ls[1]? = some (.val (.int (nI n))) := hent.2.2 (1, .int (nI n)) (by simp [lv_args, pv, Value.category])
  refine lv_iload_n hx hb dJ0_checkIndex_df160_0 rfl l0 ?_
  refine lv_iload_n hx hb dJ0_checkIndex_df160_1 rfl l1 ?_
  refine va_gets hx hb hz va_S.rf hown (hts _ jf_J0_1053) (fun _ z => z) dJ0_checkIndex_df160_2 ?_
  have hrun := va_runS (R := (headSpec (Cond.code yJ0_checkIndex_df160 cJ0_checkIndex_df160 2 none :: tb) (cRm 2 (tMc 0) (tMs 0))).room) (l := l) (e := e) (below := below) (meth := meth) (As := [.int (nI i), .int (nI n), v]) (rest := []) (H := s.heap) (locs := []) (cells := 0) (slots := 0) (g := F0 m 5 ls [v, .int (nI n), .int (nI i)]) ⟨hx, hb, hml, hown, hts⟩ (met_check3 (l := l) hv hi hn (A := tA E)) ⟨callB_of 3 hts (tbl_goodIn fun w hw => (List.mem_cons.mp hw).elim (fun z => z ▸ jq_yJ3_checkIndex_8e157) id) rfl rfl rfl (hts _ w3) (hts _ w1) hy ⟨Nat.le_of_ble_eq_true rfl, Nat.le_of_ble_eq_true rfl⟩, hts _ w2⟩ ⟨fun a U g mk q => ⟨q.1, trivial⟩, fun U hU hW => ⟨rfl, trivial⟩⟩ rfl rfl hent.1 rfl (lv_room (by decide)) dJ0_checkIndex_df160_5 ⟨Nat.le_refl _, Nat.le_refl _⟩
  intro T hT X
  obtain ⟨rv, st₀, t, T', L2, h0, X', hL, e1, e2, ⟨hr2, hh⟩, st⟩ := hrun T hT X
  cases hr2
  have hheap : T'.heap = s.heap := e1.trans (hh.trans h0)
  have hw : W p l e (headSpec (Cond.code yJ0_checkIndex_df160 cJ0_checkIndex_df160 2 none :: tb) (cRm 2 (tMc 0) (tMs 0))).room s m ([pI (nI i), pI (nI n)].map (pv E.1)).toArray below meth c T'.heap ([] ++ L2) (0 + 0) (0 + 0) (MQ below (tQpost E 0 none cs) ([pI (nI i), pI (nI n)].map (pv E.1)).toArray s (tMc 0) (tMs 0) (tA E)) (F0 m 8 ls [.int (nI i)]) := lv_pop hx hb dJ0_checkIndex_df160_8 rfl (W.vret (Qc := tQpost E 0 none cs) (free := tA E) hx hb hr (fun t ht _ => ⟨rfl, by rw [ht, hheap]; exact hH, ⟨by rw [ht, hheap]; exact Nat.le_refl _, fun q _ _ => by rw [ht, hheap]⟩, fun _ => by rw [ht, hheap]⟩) (fun q hq => hL q (by simpa using hq)) dJ0_checkIndex_df160_9 hlocks)
  obtain ⟨t2, a1, b1⟩ := hw T' rfl X'
  exact ⟨t2, st t2 a1, b1⟩
theorem tm_charAt5 {l : Launch} {E : tEnv} (hE : tOk E) {c : pV} {tl : List tC} {k n M i : Nat} {t : Nat → Nat} {A : Nat → Int32} (ht : tl[k]? = some (.inl (M, A))) (hn : n ≤ M) (hM : M ≤ 65536) (hL : sb_Lat t n A) (hi : i < n) : tmRun l E 3 0 yJ5_charAt_5068e [pR 0, pI (nI i)] (tB k c (pI (nI n)) tl) (some (pI (nI (t i)))) (tB k c (pI (nI n)) tl) := by
  refine tmRun_intro hE (own := RJ5) jq_yJ5_charAt_5068e rfl (by decide +kernel) (by decide) (Nat.le_of_ble_eq_true rfl) ⟨_, rfl, congrArg Value.int (chr_nar _ (hL i hi).1)⟩ ?_
  intro G hG
  refine hG _ _ _ _ _ _ _ dJ5_charAt_5068e_0 ⟨rfl, _, rfl, ?_⟩
  refine hG _ _ _ _ _ _ _ dJ5_charAt_5068e_1 ⟨rfl, Or.inl ⟨1, 0, _, _, _, rfl, jf_J5_22, rfl, rfl, ?_⟩⟩
  refine hG _ _ _ _ _ _ _ dJ5_charAt_5068e_4 ⟨rfl, _, _, rfl, Nat.le_of_ble_eq_true rfl, ?_⟩
  refine hG _ _ _ _ _ _ _ dJ5_charAt_5068e_5 ⟨rfl, _, rfl, ?_⟩
  refine hG _ _ _ _ _ _ _ dJ5_charAt_5068e_6 ⟨rfl, Or.inl ⟨0, 0, _, _, _, rfl, jf_J5_15, rfl, rfl, ?_⟩⟩
  refine hG _ _ _ _ _ _ _ dJ5_charAt_5068e_9 ⟨rfl, _, _, rfl, Nat.le_of_ble_eq_true rfl, ?_⟩
  refine hG _ _ _ _ _ _ _ dJ5_charAt_5068e_10 ⟨rfl, _, rfl, ?_⟩
  refine hG _ _ _ _ _ _ _ dJ5_charAt_5068e_11 ⟨rfl, Or.inl ⟨3, 0, _, _, _, rfl, jf_J5_79, rfl, rfl, ?_⟩⟩
  refine hG _ _ _ _ _ _ _ dJ5_charAt_5068e_14 ⟨rfl, _, rfl, ?_⟩
  refine hG _ _ _ _ _ _ _ dJ5_charAt_5068e_15 ⟨rfl, Or.inl ⟨_, _, _, _, rfl, ht, ?_⟩⟩
  refine hG _ _ _ _ _ _ _ dJ5_charAt_5068e_16 ⟨rfl, _, rfl, ?_⟩
  refine hG _ _ _ _ _ _ _ dJ5_charAt_5068e_17 ⟨rfl, _, _, _, rfl, ?_⟩
  rw [show Int32.ofNat M = nI M from rfl, sb_shr0]
  refine hG _ _ _ _ _ _ _ dJ5_charAt_5068e_18 ⟨rfl, Or.inr (Or.inr (Or.inl ⟨_, _, _, jc_J5_138, rfl, Nat.le_of_ble_eq_true rfl, ?_⟩))⟩
  rw [show (if nI M < nI n then nI M else nI n) = nI n from if_neg (nI_nlt hn (by omega))]
  refine hG _ _ _ _ _ _ _ dJ5_charAt_5068e_21 ⟨rfl, _, _, rfl, Nat.le_of_ble_eq_true rfl, ?_⟩
  refine hG _ _ _ _ _ _ _ dJ5_charAt_5068e_23 ⟨rfl, _, rfl, ?_⟩
  refine hG _ _ _ _ _ _ _ dJ5_charAt_5068e_24 ⟨rfl, _, rfl, ?_⟩
  refine hG _ _ _ _ _ _ _ dJ5_charAt_5068e_26 ⟨rfl, Or.inl ⟨0, _, _, [pI (nI i), pI (nI n)], _, _, _, jc_J5_144, rfl, rfl, Nat.le_of_ble_eq_true rfl, tm_check0 hE hi (by omega), (fun h => by cases h), ?_⟩⟩
  refine hG _ _ _ _ _ _ _ dJ5_charAt_5068e_29 ⟨rfl, _, rfl, ?_⟩
  refine hG _ _ _ _ _ _ _ dJ5_charAt_5068e_30 ⟨rfl, 42, _, _, rfl, rfl, fun h => absurd h (fun h => h rfl), fun _ => ?_⟩
  refine hG _ _ _ _ _ _ _ dJ5_charAt_5068e_33 ⟨rfl, _, rfl, ?_⟩
  refine hG _ _ _ _ _ _ _ dJ5_charAt_5068e_34 ⟨rfl, _, rfl, ?_⟩
  refine hG _ _ _ _ _ _ _ dJ5_charAt_5068e_35 ⟨rfl, Or.inl ⟨_, _, _, _, _, rfl, ht, nI_in (by omega) (by omega), ?_⟩⟩
  refine hG _ _ _ _ _ _ _ dJ5_charAt_5068e_36 ⟨rfl, ?_⟩
  refine hG _ _ _ _ _ _ _ dJ5_charAt_5068e_39 ⟨rfl, _, _, _, rfl, ?_⟩
  refine hG _ _ _ _ _ _ _ dJ5_charAt_5068e_40 ⟨rfl, _, _, rfl, ?_⟩
  rw [nI_clamp (by omega), (hL i hi).2, show (Int16.ofInt 255).toInt32 = 255 from rfl, (sb_byte (t i) (hL i hi).1).1, (sb_byte (t i) (hL i hi).1).2.1]
  exact hG _ _ _ _ _ _ _ dJ5_charAt_5068e_41 ⟨rfl, _, rfl, fun _ => rfl, ⟨rfl, rfl⟩⟩
theorem tm_charAt {l : Launch} {E : tEnv} (hE : tOk E) {c : pV} {tl : List tC} {k n M i : Nat} {t : Nat → Nat} {A : Nat → Int32} (ht : tl[k]? = some (.inl (M, A))) (hn : n ≤ M) (hM : M ≤ 65536) (hL : sb_Lat t n A) (hi : i < n) : tmRun l E 4 0 yJ4_charAt_5068e [pR 0, pI (nI i)] (tB k c (pI (nI n)) tl) (some (pI (nI (t i)))) (tB k c (pI (nI n)) tl) := by
  refine tmRun_intro hE (own := RJ4) jq_yJ4_charAt_5068e rfl (by decide +kernel) (by decide) (Nat.le_of_ble_eq_true rfl) ⟨_, rfl, congrArg Value.int (chr_nar _ (hL i hi).1)⟩ ?_
  intro G hG
  refine hG _ _ _ _ _ _ _ dJ4_charAt_5068e_0 ⟨rfl, _, rfl, ?_⟩
  refine hG _ _ _ _ _ _ _ dJ4_charAt_5068e_1 ⟨rfl, _, rfl, ?_⟩
  refine hG _ _ _ _ _ _ _ dJ4_charAt_5068e_2 ⟨rfl, 0, _, _, _, [pI (nI i)], _, _, _, jc_J4_329, rfl, rfl, Nat.le_of_ble_eq_true rfl, ⟨_, rfl⟩, tm_charAt5 hE ht hn hM hL hi, (fun h => by cases h), ?_⟩
  exact hG _ _ _ _ _ _ _ dJ4_charAt_5068e_5 ⟨rfl, _, rfl, fun _ => rfl, ⟨rfl, rfl⟩⟩
theorem tm_setLength5 {l : Launch} {E : tEnv} (hE : tOk E) {ml : Int32} {n m : Nat} {a : Nat → Int32} (hn : n ≤ 65536) (hm : m ≤ 65536) : tmRun l E 5 2 yJ5_setLength_d00df [pR 0, pI (nI 0)] (tB 0 (pI ml) (pI (nI n)) [.inl (m, a)]) none (tB 0 (pI (if n = 0 then ml else 1)) (pI (nI 0)) [.inl (m, a)]) := by
  refine tmRun_intro hE (own := RJ5) jq_yJ5_setLength_d00df rfl (by decide +kernel) (by decide) (Nat.le_of_ble_eq_true rfl) rfl ?_
  intro G hG
  refine hG _ _ _ _ _ _ _ dJ5_setLength_d00df_0 ⟨rfl, _, rfl, ?_⟩
  refine hG _ _ _ _ _ _ _ dJ5_setLength_d00df_1 ⟨rfl, 13, _, _, rfl, rfl, fun _ => ?_, fun h => absurd (show (0 : Int32) ≤ nI 0 by decide) h⟩
  refine hG _ _ _ _ _ _ _ dJ5_setLength_d00df_13 ⟨rfl, _, rfl, ?_⟩
  refine hG _ _ _ _ _ _ _ dJ5_setLength_d00df_14 ⟨rfl, _, rfl, ?_⟩
  refine hG _ _ _ _ _ _ _ dJ5_setLength_d00df_15 ⟨rfl, 2, _, _, _, _, [pI (nI 0)], _, _, _, jc_J5_100, rfl, rfl, Nat.le_of_ble_eq_true rfl, Or.inl ⟨rfl, _, rfl⟩, tm_ensureNo hE hm (Nat.zero_le _), (fun _ => ⟨rfl, rfl⟩), ?_⟩
  refine hG _ _ _ _ _ _ _ dJ5_setLength_d00df_18 ⟨rfl, _, rfl, ?_⟩
  refine hG _ _ _ _ _ _ _ dJ5_setLength_d00df_19 ⟨rfl, Or.inl ⟨3, 0, _, _, _, rfl, jf_J5_79, rfl, rfl, ?_⟩⟩
  refine hG _ _ _ _ _ _ _ dJ5_setLength_d00df_22 ⟨rfl, _, rfl, ?_⟩
  refine hG _ _ _ _ _ _ _ dJ5_setLength_d00df_23 ⟨rfl, 63, _, _, _, rfl, rfl, fun _ => ?_, fun h => absurd (show nI 0 ≤ nI n from nI_le (by omega) (by omega)) h⟩
  refine hG _ _ _ _ _ _ _ dJ5_setLength_d00df_63 ⟨rfl, _, rfl, ?_⟩
  refine hG _ _ _ _ _ _ _ dJ5_setLength_d00df_64 ⟨rfl, Or.inl ⟨3, 0, _, _, _, rfl, jf_J5_79, rfl, rfl, ?_⟩⟩
  refine hG _ _ _ _ _ _ _ dJ5_setLength_d00df_67 ⟨rfl, _, rfl, ?_⟩
  by_cases h0 : n = 0
  · subst h0
    refine hG _ _ _ _ _ _ _ dJ5_setLength_d00df_68 ⟨rfl, 76, _, _, _, rfl, rfl, fun _ => ?_, fun h => absurd (show nI 0 ≤ nI 0 by decide) h⟩
    refine hG _ _ _ _ _ _ _ dJ5_setLength_d00df_76 ⟨rfl, _, rfl, ?_⟩
    refine hG _ _ _ _ _ _ _ dJ5_setLength_d00df_77 ⟨rfl, _, rfl, ?_⟩
    refine hG _ _ _ _ _ _ _ dJ5_setLength_d00df_78 ⟨rfl, 3, 0, _, _, _, _, _, _, _, rfl, ck13, by decide, jp_J5_79, rfl, Nat.le_of_ble_eq_true rfl, rfl, rfl, ?_⟩
    exact hG _ _ _ _ _ _ _ dJ5_setLength_d00df_81 ⟨rfl, rfl, (fun h => by cases h), ⟨rfl, rfl⟩⟩
  · rw [if_neg h0] at hG
    refine hG _ _ _ _ _ _ _ dJ5_setLength_d00df_68 ⟨rfl, 76, _, _, _, rfl, rfl, fun h => absurd h (show ¬ nI n ≤ nI 0 from nI_ge (by omega) (by omega)), fun _ => ?_⟩
    refine hG _ _ _ _ _ _ _ dJ5_setLength_d00df_71 ⟨rfl, _, rfl, ?_⟩
    refine hG _ _ _ _ _ _ _ dJ5_setLength_d00df_72 ⟨rfl, ?_⟩
    refine hG _ _ _ _ _ _ _ dJ5_setLength_d00df_73 ⟨rfl, 2, 0, _, _, _, _, _, _, _, rfl, ck13, by decide, jp_J5_73, rfl, Nat.le_of_ble_eq_true rfl, rfl, rfl, ?_⟩
    refine hG _ _ _ _ _ _ _ dJ5_setLength_d00df_76 ⟨rfl, _, rfl, ?_⟩
    refine hG _ _ _ _ _ _ _ dJ5_setLength_d00df_77 ⟨rfl, _, rfl, ?_⟩
    refine hG _ _ _ _ _ _ _ dJ5_setLength_d00df_78 ⟨rfl, 3, 0, _, _, _, _, _, _, _, rfl, ck13, by decide, jp_J5_79, rfl, Nat.le_of_ble_eq_true rfl, rfl, rfl, ?_⟩
    exact hG _ _ _ _ _ _ _ dJ5_setLength_d00df_81 ⟨rfl, rfl, (fun h => by cases h), ⟨rfl, rfl⟩⟩
theorem tm_setLength {l : Launch} {E : tEnv} (hE : tOk E) {ml : Int32} {n m : Nat} {a : Nat → Int32} (hn : n ≤ 65536) (hm : m ≤ 65536) : tmRun l E 6 2 yJ4_setLength_d00df [pR 0, pI (nI 0)] (tB 0 (pI ml) (pI (nI n)) [.inl (m, a)]) none (tB 0 (pI (if n = 0 then ml else 1)) (pI (nI 0)) [.inl (m, a)]) := by
  refine tmRun_intro hE (own := RJ4) jq_yJ4_setLength_d00df rfl (by decide +kernel) (by decide) (Nat.le_of_ble_eq_true rfl) rfl ?_
  intro G hG
  refine hG _ _ _ _ _ _ _ dJ4_setLength_d00df_0 ⟨rfl, _, rfl, ?_⟩
  refine hG _ _ _ _ _ _ _ dJ4_setLength_d00df_1 ⟨rfl, _, rfl, ?_⟩
  refine hG _ _ _ _ _ _ _ dJ4_setLength_d00df_2 ⟨rfl, 2, _, _, _, [pI (nI 0)], _, _, _, jc_J4_333, rfl, rfl, Nat.le_of_ble_eq_true rfl, ⟨_, rfl⟩, tm_setLength5 hE hn hm, (fun _ => ⟨rfl, rfl⟩), ?_⟩
  exact hG _ _ _ _ _ _ _ dJ4_setLength_d00df_5 ⟨rfl, rfl, (fun h => by cases h), ⟨rfl, rfl⟩⟩
