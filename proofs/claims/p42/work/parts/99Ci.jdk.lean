/-! ===== the library's methods: adding a text ===== -/
theorem b8 (x : Int32) : x.toInt8.toInt32.toInt8.toInt32 = x.toInt8.toInt32 := by rw [Int8.toInt8_toInt32]
/-- a builder's cells: its bytes are the (k + 1)st -/
abbrev tB (k : Nat) (c n : pV) (tl : List tC) : List tC := .inr [pR (k + 1), pI 0, c, n] :: tl
/-- what a call that adds to a text leaves: the same array of m bytes -/
def tGood (l : Launch) (E : tEnv) (d : Nat) (y : MethodName) (As : List pV) (c : pV) (m : Nat) (cs : List tC) (t : Nat → Nat) (n : Nat) : Prop := ∃ A : Nat → Int32, tmRun l E d 1 y As cs (some (pR 0)) (tB 0 c (pI (nI n)) [.inl (m, A)]) ∧ sb_Lat t n A ∧ sb_Fit A
theorem tm_getBytes {l : Launch} {E : tEnv} (hE : tOk E) {cs : List tC} {k n M : Nat} {A : Nat → Int32} (ht : cs[k]? = some (.inl (M, A))) (hw : E.2.2.2.1 ≤ 46) (hn : n + E.2.2.2.1 ≤ M) (hM : M ≤ 65536) (hb : sb_Fit E.2.2.2.2) : tmRun l E 2 1 yJ0_getBytes_840e7 [pR 50, pR k, pI (nI n), pI 0] cs none (cs.set k (.inl (M, va_cpy E.2.2.2.2 A 0 n E.2.2.2.1))) := by
  refine tmRun_intro hE (own := RJ0) jq_yJ0_getBytes_840e7 rfl (by decide +kernel) (by decide) (Nat.le_of_ble_eq_true rfl) rfl ?_
  intro G hG
  refine hG _ _ _ _ _ _ _ dJ0_getBytes_840e7_0 ⟨rfl, _, rfl, ?_⟩
  refine hG _ _ _ _ _ _ _ dJ0_getBytes_840e7_1 ⟨rfl, 0, _, _, _, _, [], _, _, _, jc_J0_335, rfl, rfl, Nat.le_of_ble_eq_true rfl, Or.inr ⟨rfl, rfl⟩, tm_coder hE, (fun h => by cases h), ?_⟩
  refine hG _ _ _ _ _ _ _ dJ0_getBytes_840e7_4 ⟨rfl, _, rfl, ?_⟩
  refine hG _ _ _ _ _ _ _ dJ0_getBytes_840e7_5 ⟨rfl, 28, _, _, _, rfl, rfl, fun h => absurd h (fun h => h rfl), fun _ => ?_⟩
  refine hG _ _ _ _ _ _ _ dJ0_getBytes_840e7_8 ⟨rfl, _, rfl, ?_⟩
  refine hG _ _ _ _ _ _ _ dJ0_getBytes_840e7_9 ⟨rfl, Or.inr (Or.inr ⟨_, rfl, jf_J0_9, ?_⟩)⟩
  refine hG _ _ _ _ _ _ _ dJ0_getBytes_840e7_12 ⟨rfl, ?_⟩
  refine hG _ _ _ _ _ _ _ dJ0_getBytes_840e7_13 ⟨rfl, _, rfl, ?_⟩
  refine hG _ _ _ _ _ _ _ dJ0_getBytes_840e7_14 ⟨rfl, _, rfl, ?_⟩
  refine hG _ _ _ _ _ _ _ dJ0_getBytes_840e7_15 ⟨rfl, _, rfl, ?_⟩
  refine hG _ _ _ _ _ _ _ dJ0_getBytes_840e7_16 ⟨rfl, _, _, _, rfl, ?_⟩
  rw [sb_shl0]
  refine hG _ _ _ _ _ _ _ dJ0_getBytes_840e7_17 ⟨rfl, _, rfl, ?_⟩
  refine hG _ _ _ _ _ _ _ dJ0_getBytes_840e7_18 ⟨rfl, Or.inr (Or.inr ⟨_, rfl, jf_J0_9, ?_⟩)⟩
  refine hG _ _ _ _ _ _ _ dJ0_getBytes_840e7_21 ⟨rfl, Or.inr ⟨_, rfl, ?_⟩⟩
  refine hG _ _ _ _ _ _ _ dJ0_getBytes_840e7_22 ⟨rfl, Or.inr (Or.inr (Or.inr (Or.inr ⟨_, _, _, _, _, _, _, jc_J0_212, rfl, Nat.le_of_ble_eq_true rfl, by decide, nI_pos (by omega), nI_pos (by omega), ht, by rw [show Int32.ofNat E.2.2.2.1 = nI E.2.2.2.1 from rfl, nI_clamp (by omega)]; show 0 + E.2.2.2.1 ≤ E.2.2.2.1; omega, by rw [show Int32.ofNat E.2.2.2.1 = nI E.2.2.2.1 from rfl, nI_clamp (by omega), nI_clamp (by omega)]; omega, hb, ?_⟩)))⟩
  refine hG _ _ _ _ _ _ _ dJ0_getBytes_840e7_25 ⟨rfl, 43, rfl, ?_⟩
  rw [show Int32.ofNat E.2.2.2.1 = nI E.2.2.2.1 from rfl, nI_clamp (by omega), nI_clamp (by omega)]
  exact hG _ _ _ _ _ _ _ dJ0_getBytes_840e7_43 ⟨rfl, rfl, (fun h => by cases h), ⟨rfl, rfl⟩⟩
theorem tm_putString {l : Launch} {E : tEnv} (hE : tOk E) {c x : pV} {tl : List tC} {k n M : Nat} {A : Nat → Int32} (ht : tl[k]? = some (.inl (M, A))) (hw : E.2.2.2.1 ≤ 46) (hn : n + E.2.2.2.1 ≤ M) (hM : M ≤ 65536) (hb : sb_Fit E.2.2.2.2) : tmRun l E 3 1 yJ5_putStringAt_47b60 [pR 0, pI (nI n), pR 50] (tB k c x tl) none (tB k c x (tl.set k (.inl (M, va_cpy E.2.2.2.2 A 0 n E.2.2.2.1)))) := by
  refine tmRun_intro hE (own := RJ5) jq_yJ5_putStringAt_47b60 rfl (by decide +kernel) (by decide) (Nat.le_of_ble_eq_true rfl) rfl ?_
  intro G hG
  refine hG _ _ _ _ _ _ _ dJ5_putStringAt_47b60_0 ⟨rfl, _, rfl, ?_⟩
  refine hG _ _ _ _ _ _ _ dJ5_putStringAt_47b60_1 ⟨rfl, _, rfl, ?_⟩
  refine hG _ _ _ _ _ _ _ dJ5_putStringAt_47b60_2 ⟨rfl, 0, _, _, _, _, [pR 50], _, _, _, jc_J5_397, rfl, rfl, Nat.le_of_ble_eq_true rfl, Or.inl ⟨rfl, _, rfl⟩, tm_inflateIf hE, (fun h => by cases h), ?_⟩
  refine hG _ _ _ _ _ _ _ dJ5_putStringAt_47b60_5 ⟨rfl, _, rfl, ?_⟩
  refine hG _ _ _ _ _ _ _ dJ5_putStringAt_47b60_6 ⟨rfl, _, rfl, ?_⟩
  refine hG _ _ _ _ _ _ _ dJ5_putStringAt_47b60_7 ⟨rfl, Or.inl ⟨0, 0, _, _, _, rfl, jf_J5_15, rfl, rfl, ?_⟩⟩
  refine hG _ _ _ _ _ _ _ dJ5_putStringAt_47b60_10 ⟨rfl, _, rfl, ?_⟩
  refine hG _ _ _ _ _ _ _ dJ5_putStringAt_47b60_11 ⟨rfl, _, rfl, ?_⟩
  refine hG _ _ _ _ _ _ _ dJ5_putStringAt_47b60_12 ⟨rfl, Or.inl ⟨1, 0, _, _, _, rfl, jf_J5_22, rfl, rfl, ?_⟩⟩
  refine hG _ _ _ _ _ _ _ dJ5_putStringAt_47b60_15 ⟨rfl, 1, _, _, _, _, [pR (k + 1), pI (nI n), pI 0], _, _, _, jc_J5_399, rfl, rfl, Nat.le_of_ble_eq_true rfl, Or.inr ⟨rfl, rfl⟩, tm_getBytes hE (cs := tB k c x tl) (k := k + 1) ht hw hn hM hb, (fun h => by cases h), ?_⟩
  exact hG _ _ _ _ _ _ _ dJ5_putStringAt_47b60_18 ⟨rfl, rfl, (fun h => by cases h), ⟨rfl, rfl⟩⟩
theorem tm_appendS5 {l : Launch} {E : tEnv} (hE : tOk E) {c : pV} {t s : Nat → Nat} {n m : Nat} {a : Nat → Int32} (hm : m ≤ 65536) (hw : E.2.2.2.1 ≤ 46) (hn : n + E.2.2.2.1 ≤ m) (hL : sb_Lat t n a) (hf : sb_Fit a) (hs : sb_Lat s E.2.2.2.1 E.2.2.2.2) (hb : sb_Fit E.2.2.2.2) : tGood l E 5 yJ5_append_cf1ce [pR 0, pR 50] c m (tB 0 c (pI (nI n)) [.inl (m, a)]) (sb_cat t n s) (n + E.2.2.2.1) := by
  refine ⟨va_cpy E.2.2.2.2 a 0 n E.2.2.2.1, ?_, fun j hj => ?_, sb_fitC hb hf⟩
  · refine tmRun_intro hE (own := RJ5) jq_yJ5_append_cf1ce rfl (by decide +kernel) (by decide) (Nat.le_of_ble_eq_true rfl) ⟨_, rfl, Or.inl ⟨_, rfl⟩⟩ ?_
    intro G hG
    refine hG _ _ _ _ _ _ _ dJ5_append_cf1ce_0 ⟨rfl, _, rfl, ?_⟩
    refine hG _ _ _ _ _ _ _ dJ5_append_cf1ce_1 ⟨rfl, 9, _, _, rfl, rfl, ?_⟩
    refine hG _ _ _ _ _ _ _ dJ5_append_cf1ce_9 ⟨rfl, _, rfl, ?_⟩
    refine hG _ _ _ _ _ _ _ dJ5_append_cf1ce_10 ⟨rfl, 0, _, _, _, _, [], _, _, _, jc_J5_32, rfl, rfl, Nat.le_of_ble_eq_true rfl, Or.inr ⟨rfl, rfl⟩, (tm_strLength hE).mono (by decide), (fun h => by cases h), ?_⟩
    refine hG _ _ _ _ _ _ _ dJ5_append_cf1ce_13 ⟨rfl, _, _, rfl, Nat.le_of_ble_eq_true rfl, ?_⟩
    refine hG _ _ _ _ _ _ _ dJ5_append_cf1ce_14 ⟨rfl, _, rfl, ?_⟩
    refine hG _ _ _ _ _ _ _ dJ5_append_cf1ce_15 ⟨rfl, _, rfl, ?_⟩
    refine hG _ _ _ _ _ _ _ dJ5_append_cf1ce_16 ⟨rfl, Or.inl ⟨3, 0, _, _, _, rfl, jf_J5_79, rfl, rfl, ?_⟩⟩
    refine hG _ _ _ _ _ _ _ dJ5_append_cf1ce_19 ⟨rfl, _, rfl, ?_⟩
    refine hG _ _ _ _ _ _ _ dJ5_append_cf1ce_20 ⟨rfl, _, _, _, rfl, ?_⟩
    rw [nI_add]
    refine hG _ _ _ _ _ _ _ dJ5_append_cf1ce_21 ⟨rfl, 1, _, _, _, _, [pI (nI (n + E.2.2.2.1))], _, _, _, jc_J5_100, rfl, rfl, Nat.le_of_ble_eq_true rfl, Or.inl ⟨rfl, _, rfl⟩, tm_ensureNo hE hm hn, (fun h => by cases h), ?_⟩
    refine hG _ _ _ _ _ _ _ dJ5_append_cf1ce_24 ⟨rfl, _, rfl, ?_⟩
    refine hG _ _ _ _ _ _ _ dJ5_append_cf1ce_25 ⟨rfl, _, rfl, ?_⟩
    refine hG _ _ _ _ _ _ _ dJ5_append_cf1ce_26 ⟨rfl, Or.inl ⟨3, 0, _, _, _, rfl, jf_J5_79, rfl, rfl, ?_⟩⟩
    refine hG _ _ _ _ _ _ _ dJ5_append_cf1ce_29 ⟨rfl, _, rfl, ?_⟩
    refine hG _ _ _ _ _ _ _ dJ5_append_cf1ce_30 ⟨rfl, 1, _, _, _, _, [pI (nI n), pR 50], _, _, _, jc_J5_208, rfl, rfl, Nat.le_of_ble_eq_true rfl, Or.inl ⟨rfl, _, rfl⟩, (tm_putString hE (tl := [.inl (m, a)]) (k := 0) rfl hw hn hm hb).mono (by decide), (fun h => by cases h), ?_⟩
    refine hG _ _ _ _ _ _ _ dJ5_append_cf1ce_33 ⟨rfl, _, rfl, ?_⟩
    refine hG _ _ _ _ _ _ _ dJ5_append_cf1ce_34 ⟨rfl, _, _, rfl, rfl, ?_⟩
    refine hG _ _ _ _ _ _ _ dJ5_append_cf1ce_35 ⟨rfl, Or.inl ⟨3, 0, _, _, _, rfl, jf_J5_79, rfl, rfl, ?_⟩⟩
    refine hG _ _ _ _ _ _ _ dJ5_append_cf1ce_38 ⟨rfl, _, rfl, ?_⟩
    refine hG _ _ _ _ _ _ _ dJ5_append_cf1ce_39 ⟨rfl, _, _, _, rfl, ?_⟩
    rw [nI_add]
    refine hG _ _ _ _ _ _ _ dJ5_append_cf1ce_40 ⟨rfl, 3, 0, _, _, _, _, _, _, _, rfl, ck13, by decide, jp_J5_79, rfl, Nat.le_of_ble_eq_true rfl, rfl, rfl, ?_⟩
    refine hG _ _ _ _ _ _ _ dJ5_append_cf1ce_43 ⟨rfl, _, rfl, ?_⟩
    exact hG _ _ _ _ _ _ _ dJ5_append_cf1ce_44 ⟨rfl, _, rfl, (fun h => by cases h), ⟨rfl, rfl⟩⟩
  · by_cases hj2 : j < n
    · rw [sb_cat_lo hj2, pk_cpy_out (Or.inl hj2)]
      exact hL j hj2
    · obtain ⟨i, rfl⟩ : ∃ i, j = n + i := ⟨j - n, by omega⟩
      rw [sb_cat_hi, pk_cpy_in (by omega) (by omega), show 0 + (n + i - n) = i by omega]
      exact hs i (by omega)
theorem tm_appendS {l : Launch} {E : tEnv} (hE : tOk E) {c : pV} {t : Nat → Nat} {n m : Nat} {s : Nat → Nat} {a : Nat → Int32} (hm : m ≤ 65536) (hw : E.2.2.2.1 ≤ 46) (hn : n + E.2.2.2.1 ≤ m) (hL : sb_Lat t n a) (hf : sb_Fit a) (hs : sb_Lat s E.2.2.2.1 E.2.2.2.2) (hb : sb_Fit E.2.2.2.2) : tGood l E 6 yJ4_append_15ec4 [pR 0, pR 50] c m (tB 0 c (pI (nI n)) [.inl (m, a)]) (sb_cat t n s) (n + E.2.2.2.1) := by
  obtain ⟨A, h1, h2⟩ := tm_appendS5 (l := l) hE (c := c) hm hw hn hL hf hs hb
  refine ⟨A, ?_, h2⟩
  refine tmRun_intro hE (own := RJ4) jq_yJ4_append_15ec4 rfl (by decide +kernel) (by decide) (Nat.le_of_ble_eq_true rfl) ⟨_, rfl, Or.inl ⟨_, rfl⟩⟩ ?_
  intro G hG
  refine hG _ _ _ _ _ _ _ dJ4_append_15ec4_0 ⟨rfl, _, rfl, ?_⟩
  refine hG _ _ _ _ _ _ _ dJ4_append_15ec4_1 ⟨rfl, _, rfl, ?_⟩
  refine hG _ _ _ _ _ _ _ dJ4_append_15ec4_2 ⟨rfl, 1, _, _, _, [pR 50], _, _, _, jc_J4_29, rfl, rfl, Nat.le_of_ble_eq_true rfl, ⟨_, rfl⟩, h1, (fun h => by cases h), ?_⟩
  refine hG _ _ _ _ _ _ _ dJ4_append_15ec4_5 ⟨rfl, _, _, rfl, rfl, ?_⟩
  refine hG _ _ _ _ _ _ _ dJ4_append_15ec4_6 ⟨rfl, _, rfl, ?_⟩
  exact hG _ _ _ _ _ _ _ dJ4_append_15ec4_7 ⟨rfl, _, rfl, (fun h => by cases h), ⟨rfl, rfl⟩⟩
