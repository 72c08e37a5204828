/-! ===== the library's methods on the text machine ===== -/
theorem tm_isLatin1 {l : Launch} {E : tEnv} (hE : tOk E) {v c n : pV} {tl : List tC} : tmRun l E 1 0 yJ5_isLatin1_aae02 [pR 0] (.inr [v, pI 0, c, n] :: tl) (some (pI 1)) (.inr [v, pI 0, c, n] :: tl) := by
  refine tmRun_intro hE (own := RJ5) jq_yJ5_isLatin1_aae02 rfl (by decide +kernel) (by decide) (Nat.le_of_ble_eq_true rfl) ⟨_, rfl, rfl⟩ ?_
  intro G hG
  refine hG _ _ _ _ _ _ _ dJ5_isLatin1_aae02_0 ⟨rfl, Or.inl ⟨jf_J5_18, ?_⟩⟩
  refine hG _ _ _ _ _ _ _ dJ5_isLatin1_aae02_3 ⟨rfl, 17, _, _, rfl, rfl, fun h => absurd h (show ¬ ((1 : Int32) = 0) by decide), fun _ => ?_⟩
  refine hG _ _ _ _ _ _ _ dJ5_isLatin1_aae02_6 ⟨rfl, _, rfl, ?_⟩
  refine hG _ _ _ _ _ _ _ dJ5_isLatin1_aae02_7 ⟨rfl, Or.inl ⟨1, 0, _, _, _, rfl, jf_J5_22, rfl, rfl, ?_⟩⟩
  refine hG _ _ _ _ _ _ _ dJ5_isLatin1_aae02_10 ⟨rfl, 17, _, _, rfl, rfl, fun h => absurd h (fun h => h rfl), fun _ => ?_⟩
  refine hG _ _ _ _ _ _ _ dJ5_isLatin1_aae02_13 ⟨rfl, ?_⟩
  refine hG _ _ _ _ _ _ _ dJ5_isLatin1_aae02_14 ⟨rfl, 18, rfl, ?_⟩
  exact hG _ _ _ _ _ _ _ dJ5_isLatin1_aae02_18 ⟨rfl, _, rfl, fun _ => rfl, ⟨rfl, rfl⟩⟩
theorem tm_canEncode {l : Launch} {E : tEnv} (hE : tOk E) {c : Nat} (hc : c < 256) {cs : List tC} : tmRun l E 1 0 yJ1_canEncode_fc78d [pI (nI c)] cs (some (pI 1)) cs := by
  refine tmRun_intro hE (own := RJ1) jq_yJ1_canEncode_fc78d rfl (by decide +kernel) (by decide) (Nat.le_of_ble_eq_true rfl) ⟨_, rfl, rfl⟩ ?_
  intro G hG
  refine hG _ _ _ _ _ _ _ dJ1_canEncode_fc78d_0 ⟨rfl, _, rfl, ?_⟩
  refine hG _ _ _ _ _ _ _ dJ1_canEncode_fc78d_1 ⟨rfl, ?_⟩
  refine hG _ _ _ _ _ _ _ dJ1_canEncode_fc78d_4 ⟨rfl, 11, _, _, _, rfl, rfl, fun h => absurd h (show ¬ (nI 255 < nI c) from nI_nlt (by omega) (by omega)), fun _ => ?_⟩
  refine hG _ _ _ _ _ _ _ dJ1_canEncode_fc78d_7 ⟨rfl, ?_⟩
  refine hG _ _ _ _ _ _ _ dJ1_canEncode_fc78d_8 ⟨rfl, 12, rfl, ?_⟩
  exact hG _ _ _ _ _ _ _ dJ1_canEncode_fc78d_12 ⟨rfl, _, rfl, fun _ => rfl, ⟨rfl, rfl⟩⟩
theorem tm_length5 {l : Launch} {E : tEnv} (hE : tOk E) {v k c : pV} {n : Nat} {tl : List tC} : tmRun l E 1 0 yJ5_length_8abf5 [pR 0] (.inr [v, k, c, pI (nI n)] :: tl) (some (pI (nI n))) (.inr [v, k, c, pI (nI n)] :: tl) := by
  refine tmRun_intro hE (own := RJ5) jq_yJ5_length_8abf5 rfl (by decide +kernel) (by decide) (Nat.le_of_ble_eq_true rfl) ⟨_, rfl, rfl⟩ ?_
  intro G hG
  refine hG _ _ _ _ _ _ _ dJ5_length_8abf5_0 ⟨rfl, _, rfl, ?_⟩
  refine hG _ _ _ _ _ _ _ dJ5_length_8abf5_1 ⟨rfl, Or.inl ⟨3, 0, _, _, _, rfl, jf_J5_79, rfl, rfl, ?_⟩⟩
  exact hG _ _ _ _ _ _ _ dJ5_length_8abf5_4 ⟨rfl, _, rfl, fun _ => rfl, ⟨rfl, rfl⟩⟩
theorem tm_length {l : Launch} {E : tEnv} (hE : tOk E) {v k c : pV} {n : Nat} {tl : List tC} : tmRun l E 2 0 yJ4_length_8abf5 [pR 0] (.inr [v, k, c, pI (nI n)] :: tl) (some (pI (nI n))) (.inr [v, k, c, pI (nI n)] :: tl) := by
  refine tmRun_intro hE (own := RJ4) jq_yJ4_length_8abf5 rfl (by decide +kernel) (by decide) (Nat.le_of_ble_eq_true rfl) ⟨_, rfl, rfl⟩ ?_
  intro G hG
  refine hG _ _ _ _ _ _ _ dJ4_length_8abf5_0 ⟨rfl, _, rfl, ?_⟩
  refine hG _ _ _ _ _ _ _ dJ4_length_8abf5_1 ⟨rfl, 0, _, _, _, [], _, _, _, jc_J4_343, rfl, rfl, Nat.le_of_ble_eq_true rfl, ⟨_, rfl⟩, tm_length5 hE, (fun h => by cases h), ?_⟩
  exact hG _ _ _ _ _ _ _ dJ4_length_8abf5_4 ⟨rfl, _, rfl, fun _ => rfl, ⟨rfl, rfl⟩⟩
theorem tm_coder {l : Launch} {E : tEnv} (hE : tOk E) {cs : List tC} : tmRun l E 1 0 yJ0_coder_7d493 [pR 50] cs (some (pI 0)) cs := by
  refine tmRun_intro hE (own := RJ0) jq_yJ0_coder_7d493 rfl (by decide +kernel) (by decide) (Nat.le_of_ble_eq_true rfl) ⟨_, rfl, rfl⟩ ?_
  intro G hG
  refine hG _ _ _ _ _ _ _ dJ0_coder_7d493_0 ⟨rfl, Or.inl ⟨jf_J0_38, ?_⟩⟩
  refine hG _ _ _ _ _ _ _ dJ0_coder_7d493_3 ⟨rfl, 13, _, _, rfl, rfl, fun h => absurd h (show ¬ ((1 : Int32) = 0) by decide), fun _ => ?_⟩
  refine hG _ _ _ _ _ _ _ dJ0_coder_7d493_6 ⟨rfl, _, rfl, ?_⟩
  refine hG _ _ _ _ _ _ _ dJ0_coder_7d493_7 ⟨rfl, Or.inr (Or.inl ⟨_, rfl, jf_J0_15, ?_⟩)⟩
  refine hG _ _ _ _ _ _ _ dJ0_coder_7d493_10 ⟨rfl, 14, rfl, ?_⟩
  exact hG _ _ _ _ _ _ _ dJ0_coder_7d493_14 ⟨rfl, _, rfl, fun _ => rfl, ⟨rfl, rfl⟩⟩
theorem tm_strLength {l : Launch} {E : tEnv} (hE : tOk E) {cs : List tC} : tmRun l E 2 0 yJ0_length_8abf5 [pR 50] cs (some (pI (nI E.2.2.2.1))) cs := by
  refine tmRun_intro hE (own := RJ0) jq_yJ0_length_8abf5 rfl (by decide +kernel) (by decide) (Nat.le_of_ble_eq_true rfl) ⟨_, rfl, rfl⟩ ?_
  intro G hG
  refine hG _ _ _ _ _ _ _ dJ0_length_8abf5_0 ⟨rfl, _, rfl, ?_⟩
  refine hG _ _ _ _ _ _ _ dJ0_length_8abf5_1 ⟨rfl, Or.inr (Or.inr ⟨_, rfl, jf_J0_9, ?_⟩)⟩
  refine hG _ _ _ _ _ _ _ dJ0_length_8abf5_4 ⟨rfl, Or.inr ⟨_, rfl, ?_⟩⟩
  refine hG _ _ _ _ _ _ _ dJ0_length_8abf5_5 ⟨rfl, _, rfl, ?_⟩
  refine hG _ _ _ _ _ _ _ dJ0_length_8abf5_6 ⟨rfl, 0, _, _, _, _, [], _, _, _, jc_J0_335, rfl, rfl, Nat.le_of_ble_eq_true rfl, Or.inr ⟨rfl, rfl⟩, tm_coder hE, (fun h => by cases h), ?_⟩
  refine hG _ _ _ _ _ _ _ dJ0_length_8abf5_9 ⟨rfl, _, _, _, rfl, ?_⟩
  rw [show Int32.ofNat E.2.2.2.1 = nI E.2.2.2.1 from rfl, sb_shr0]
  exact hG _ _ _ _ _ _ _ dJ0_length_8abf5_10 ⟨rfl, _, rfl, fun _ => rfl, ⟨rfl, rfl⟩⟩
theorem tm_inflateIf {l : Launch} {E : tEnv} (hE : tOk E) {v c n : pV} {tl : List tC} : tmRun l E 2 0 yJ5_inflateIfNeededFor_a7421 [pR 0, pR 50] (.inr [v, pI 0, c, n] :: tl) none (.inr [v, pI 0, c, n] :: tl) := by
  refine tmRun_intro hE (own := RJ5) jq_yJ5_inflateIfNeededFor_a7421 rfl (by decide +kernel) (by decide) (Nat.le_of_ble_eq_true rfl) rfl ?_
  intro G hG
  refine hG _ _ _ _ _ _ _ dJ5_inflateIfNeededFor_a7421_0 ⟨rfl, Or.inl ⟨jf_J5_18, ?_⟩⟩
  refine hG _ _ _ _ _ _ _ dJ5_inflateIfNeededFor_a7421_3 ⟨rfl, 21, _, _, rfl, rfl, fun h => absurd h (show ¬ ((1 : Int32) = 0) by decide), fun _ => ?_⟩
  refine hG _ _ _ _ _ _ _ dJ5_inflateIfNeededFor_a7421_6 ⟨rfl, _, rfl, ?_⟩
  refine hG _ _ _ _ _ _ _ dJ5_inflateIfNeededFor_a7421_7 ⟨rfl, Or.inl ⟨1, 0, _, _, _, rfl, jf_J5_22, rfl, rfl, ?_⟩⟩
  refine hG _ _ _ _ _ _ _ dJ5_inflateIfNeededFor_a7421_10 ⟨rfl, _, rfl, ?_⟩
  refine hG _ _ _ _ _ _ _ dJ5_inflateIfNeededFor_a7421_11 ⟨rfl, 0, _, _, _, _, [], _, _, _, jc_J5_40, rfl, rfl, Nat.le_of_ble_eq_true rfl, Or.inr ⟨rfl, rfl⟩, tm_coder hE, (fun h => by cases h), ?_⟩
  refine hG _ _ _ _ _ _ _ dJ5_inflateIfNeededFor_a7421_14 ⟨rfl, 21, _, _, _, rfl, rfl, fun _ => ?_, fun h => absurd (rfl) h⟩
  exact hG _ _ _ _ _ _ _ dJ5_inflateIfNeededFor_a7421_21 ⟨rfl, rfl, fun _ => rfl, ⟨rfl, rfl⟩⟩
theorem tm_newLength {l : Launch} {E : tEnv} (hE : tOk E) {a b c : Nat} (ha : a ≤ 200) (hb : b ≤ 200) (hc : c ≤ 200) (h0 : 0 < c) {cs : List tC} : tmRun l E 1 0 yJ8_newLength_cabcc [pI (nI a), pI (nI b), pI (nI c)] cs (some (pI (nI (a + max b c)))) cs := by
  refine tmRun_intro hE (own := RJ8) jq_yJ8_newLength_cabcc rfl (by decide +kernel) (by decide) (Nat.le_of_ble_eq_true rfl) ⟨_, rfl, rfl⟩ ?_
  intro G hG
  refine hG _ _ _ _ _ _ _ dJ8_newLength_cabcc_0 ⟨rfl, _, rfl, ?_⟩
  refine hG _ _ _ _ _ _ _ dJ8_newLength_cabcc_1 ⟨rfl, _, rfl, ?_⟩
  refine hG _ _ _ _ _ _ _ dJ8_newLength_cabcc_2 ⟨rfl, _, rfl, ?_⟩
  refine hG _ _ _ _ _ _ _ dJ8_newLength_cabcc_3 ⟨rfl, Or.inr (Or.inl ⟨_, _, _, jc_J8_194, rfl, Nat.le_of_ble_eq_true rfl, ?_⟩)⟩
  rw [show (if nI b < nI c then nI c else nI b) = nI (max b c) by
    by_cases h : b < c
    · rw [if_pos (nI_lt h (by omega)), Nat.max_eq_right (by omega)]
    · rw [if_neg (nI_nlt (by omega) (by omega)), Nat.max_eq_left (by omega)]]
  refine hG _ _ _ _ _ _ _ dJ8_newLength_cabcc_6 ⟨rfl, _, _, _, rfl, ?_⟩
  rw [nI_add]
  refine hG _ _ _ _ _ _ _ dJ8_newLength_cabcc_7 ⟨rfl, _, _, rfl, Nat.le_of_ble_eq_true rfl, ?_⟩
  refine hG _ _ _ _ _ _ _ dJ8_newLength_cabcc_8 ⟨rfl, ?_⟩
  refine hG _ _ _ _ _ _ _ dJ8_newLength_cabcc_9 ⟨rfl, _, rfl, ?_⟩
  refine hG _ _ _ _ _ _ _ dJ8_newLength_cabcc_10 ⟨rfl, 21, _, _, _, rfl, rfl, fun h => absurd h (show ¬ nI (a + max b c) ≤ 0 from nI_nle (by omega) (by omega)), fun _ => ?_⟩
  refine hG _ _ _ _ _ _ _ dJ8_newLength_cabcc_13 ⟨rfl, _, rfl, ?_⟩
  refine hG _ _ _ _ _ _ _ dJ8_newLength_cabcc_14 ⟨rfl, _, jk_J8_200, ?_⟩
  refine hG _ _ _ _ _ _ _ dJ8_newLength_cabcc_16 ⟨rfl, 21, _, _, _, rfl, rfl, fun h => absurd h (show ¬ nI 2147483639 < nI (a + max b c) from nI_nlt (by omega) (by omega)), fun _ => ?_⟩
  refine hG _ _ _ _ _ _ _ dJ8_newLength_cabcc_19 ⟨rfl, _, rfl, ?_⟩
  exact hG _ _ _ _ _ _ _ dJ8_newLength_cabcc_20 ⟨rfl, _, rfl, fun _ => rfl, ⟨rfl, rfl⟩⟩
theorem tm_newCapacity {l : Launch} {E : tEnv} (hE : tOk E) {c n : pV} {m q : Nat} {a : Nat → Int32} (hm : m ≤ 100) (hq : q ≤ 100) (hmq : m ≤ q) : tmRun l E 2 0 yJ5_newCapacity_0f7a4 [pR 0, pI (nI q)] [.inr [pR 1, pI 0, c, n], .inl (m, a)] (some (pI (nI (m + max (q - m) (m + 2))))) [.inr [pR 1, pI 0, c, n], .inl (m, a)] := by
  refine tmRun_intro hE (own := RJ5) jq_yJ5_newCapacity_0f7a4 rfl (by decide +kernel) (by decide) (Nat.le_of_ble_eq_true rfl) ⟨_, rfl, rfl⟩ ?_
  intro G hG
  refine hG _ _ _ _ _ _ _ dJ5_newCapacity_0f7a4_0 ⟨rfl, _, rfl, ?_⟩
  refine hG _ _ _ _ _ _ _ dJ5_newCapacity_0f7a4_1 ⟨rfl, Or.inl ⟨0, 0, _, _, _, rfl, jf_J5_15, rfl, rfl, ?_⟩⟩
  refine hG _ _ _ _ _ _ _ dJ5_newCapacity_0f7a4_4 ⟨rfl, Or.inl ⟨_, _, _, _, rfl, rfl, ?_⟩⟩
  refine hG _ _ _ _ _ _ _ dJ5_newCapacity_0f7a4_5 ⟨rfl, _, _, rfl, Nat.le_of_ble_eq_true rfl, ?_⟩
  refine hG _ _ _ _ _ _ _ dJ5_newCapacity_0f7a4_6 ⟨rfl, _, rfl, ?_⟩
  refine hG _ _ _ _ _ _ _ dJ5_newCapacity_0f7a4_7 ⟨rfl, _, rfl, ?_⟩
  refine hG _ _ _ _ _ _ _ dJ5_newCapacity_0f7a4_8 ⟨rfl, Or.inl ⟨1, 0, _, _, _, rfl, jf_J5_22, rfl, rfl, ?_⟩⟩
  refine hG _ _ _ _ _ _ _ dJ5_newCapacity_0f7a4_11 ⟨rfl, _, _, _, rfl, ?_⟩
  rw [show Int32.ofNat m = nI m from rfl, sb_shl0]
  refine hG _ _ _ _ _ _ _ dJ5_newCapacity_0f7a4_12 ⟨rfl, _, _, rfl, Nat.le_of_ble_eq_true rfl, ?_⟩
  refine hG _ _ _ _ _ _ _ dJ5_newCapacity_0f7a4_13 ⟨rfl, _, rfl, ?_⟩
  refine hG _ _ _ _ _ _ _ dJ5_newCapacity_0f7a4_14 ⟨rfl, _, rfl, ?_⟩
  refine hG _ _ _ _ _ _ _ dJ5_newCapacity_0f7a4_15 ⟨rfl, _, _, _, rfl, ?_⟩
  rw [pk_sub hmq]
  refine hG _ _ _ _ _ _ _ dJ5_newCapacity_0f7a4_16 ⟨rfl, _, _, rfl, Nat.le_of_ble_eq_true rfl, ?_⟩
  refine hG _ _ _ _ _ _ _ dJ5_newCapacity_0f7a4_18 ⟨rfl, _, rfl, ?_⟩
  refine hG _ _ _ _ _ _ _ dJ5_newCapacity_0f7a4_19 ⟨rfl, _, rfl, ?_⟩
  refine hG _ _ _ _ _ _ _ dJ5_newCapacity_0f7a4_21 ⟨rfl, _, rfl, ?_⟩
  refine hG _ _ _ _ _ _ _ dJ5_newCapacity_0f7a4_22 ⟨rfl, ?_⟩
  refine hG _ _ _ _ _ _ _ dJ5_newCapacity_0f7a4_23 ⟨rfl, _, rfl, ?_⟩
  refine hG _ _ _ _ _ _ _ dJ5_newCapacity_0f7a4_24 ⟨rfl, Or.inl ⟨1, 0, _, _, _, rfl, jf_J5_22, rfl, rfl, ?_⟩⟩
  refine hG _ _ _ _ _ _ _ dJ5_newCapacity_0f7a4_27 ⟨rfl, _, _, _, rfl, ?_⟩
  rw [sb_shl0]
  refine hG _ _ _ _ _ _ _ dJ5_newCapacity_0f7a4_28 ⟨rfl, _, _, _, rfl, ?_⟩
  rw [show Int32.ofInt 2 = nI 2 from rfl, nI_add]
  refine hG _ _ _ _ _ _ _ dJ5_newCapacity_0f7a4_29 ⟨rfl, Or.inl ⟨0, _, _, [pI (nI m), pI (nI (q - m)), pI (nI (m + 2))], _, _, _, jc_J5_114, rfl, rfl, Nat.le_of_ble_eq_true rfl, tm_newLength hE (by omega) (by omega) (by omega) (by omega), (fun h => by cases h), ?_⟩⟩
  refine hG _ _ _ _ _ _ _ dJ5_newCapacity_0f7a4_32 ⟨rfl, _, _, rfl, Nat.le_of_ble_eq_true rfl, ?_⟩
  refine hG _ _ _ _ _ _ _ dJ5_newCapacity_0f7a4_34 ⟨rfl, _, rfl, ?_⟩
  refine hG _ _ _ _ _ _ _ dJ5_newCapacity_0f7a4_36 ⟨rfl, _, jk_J5_39, ?_⟩
  refine hG _ _ _ _ _ _ _ dJ5_newCapacity_0f7a4_38 ⟨rfl, 51, _, _, _, rfl, rfl, fun _ => ?_, fun h => absurd (show ¬ nI (m + max (q - m) (m + 2)) = nI 2147483647 from fun h => by have := (nI_eq (by omega) (by omega)).mp h; omega) h⟩
  refine hG _ _ _ _ _ _ _ dJ5_newCapacity_0f7a4_51 ⟨rfl, _, rfl, ?_⟩
  refine hG _ _ _ _ _ _ _ dJ5_newCapacity_0f7a4_53 ⟨rfl, _, rfl, ?_⟩
  refine hG _ _ _ _ _ _ _ dJ5_newCapacity_0f7a4_54 ⟨rfl, Or.inl ⟨1, 0, _, _, _, rfl, jf_J5_22, rfl, rfl, ?_⟩⟩
  refine hG _ _ _ _ _ _ _ dJ5_newCapacity_0f7a4_57 ⟨rfl, _, _, _, rfl, ?_⟩
  rw [sb_shr0]
  exact hG _ _ _ _ _ _ _ dJ5_newCapacity_0f7a4_58 ⟨rfl, _, rfl, fun _ => rfl, ⟨rfl, rfl⟩⟩
theorem tm_copyOf {l : Launch} {E : tEnv} (hE : tOk E) {x : tC} {m q : Nat} {a : Nat → Int32} (hq : q ≤ 100) (hmq : m < q) (hf : sb_Fit a) : tmRun l E 1 2 yJ7_copyOf_9075b [pR 1, pI (nI q)] [x, .inl (m, a)] (some (pR 2)) [x, .inl (m, a), .inl (q, va_cpy a (fun _ => 0) 0 0 m)] := by
  refine tmRun_intro hE (own := RJ7) jq_yJ7_copyOf_9075b rfl (by decide +kernel) (by decide) (Nat.le_of_ble_eq_true rfl) ⟨_, rfl, Or.inr ⟨_, rfl⟩⟩ ?_
  intro G hG
  refine hG _ _ _ _ _ _ _ dJ7_copyOf_9075b_0 ⟨rfl, _, rfl, ?_⟩
  refine hG _ _ _ _ _ _ _ dJ7_copyOf_9075b_1 ⟨rfl, _, rfl, ?_⟩
  refine hG _ _ _ _ _ _ _ dJ7_copyOf_9075b_2 ⟨rfl, Or.inl ⟨_, _, _, _, rfl, rfl, ?_⟩⟩
  refine hG _ _ _ _ _ _ _ dJ7_copyOf_9075b_3 ⟨rfl, 14, _, _, _, rfl, rfl, fun _ => ?_, fun h => absurd (show ¬ nI q = nI m from fun h => by have := (nI_eq (by omega) (by omega)).mp h; omega) h⟩
  refine hG _ _ _ _ _ _ _ dJ7_copyOf_9075b_14 ⟨rfl, _, rfl, ?_⟩
  refine hG _ _ _ _ _ _ _ dJ7_copyOf_9075b_15 ⟨rfl, rfl, _, _, rfl, hq, rfl, rfl, rfl, ?_⟩
  refine hG _ _ _ _ _ _ _ dJ7_copyOf_9075b_17 ⟨rfl, _, _, rfl, Nat.le_of_ble_eq_true rfl, ?_⟩
  refine hG _ _ _ _ _ _ _ dJ7_copyOf_9075b_18 ⟨rfl, _, rfl, ?_⟩
  refine hG _ _ _ _ _ _ _ dJ7_copyOf_9075b_19 ⟨rfl, ?_⟩
  refine hG _ _ _ _ _ _ _ dJ7_copyOf_9075b_20 ⟨rfl, _, rfl, ?_⟩
  refine hG _ _ _ _ _ _ _ dJ7_copyOf_9075b_21 ⟨rfl, ?_⟩
  refine hG _ _ _ _ _ _ _ dJ7_copyOf_9075b_22 ⟨rfl, _, rfl, ?_⟩
  refine hG _ _ _ _ _ _ _ dJ7_copyOf_9075b_23 ⟨rfl, Or.inl ⟨_, _, _, _, rfl, rfl, ?_⟩⟩
  refine hG _ _ _ _ _ _ _ dJ7_copyOf_9075b_24 ⟨rfl, _, rfl, ?_⟩
  refine hG _ _ _ _ _ _ _ dJ7_copyOf_9075b_25 ⟨rfl, Or.inr (Or.inr (Or.inl ⟨_, _, _, jc_J7_304, rfl, Nat.le_of_ble_eq_true rfl, ?_⟩))⟩
  rw [show (if nI q < Int32.ofNat m then nI q else Int32.ofNat m) = nI m from if_neg (nI_nlt (by omega) (by omega))]
  refine hG _ _ _ _ _ _ _ dJ7_copyOf_9075b_28 ⟨rfl, Or.inr (Or.inr (Or.inr (Or.inl ⟨_, _, _, _, _, _, _, _, _, _, jc_J7_150, rfl, Nat.le_of_ble_eq_true rfl, by decide, by decide, nI_pos (by omega), rfl, rfl, by rw [nI_clamp (by omega)]; show 0 + m ≤ m; omega, by rw [nI_clamp (by omega)]; show 0 + m ≤ q; omega, hf, ?_⟩)))⟩
  refine hG _ _ _ _ _ _ _ dJ7_copyOf_9075b_31 ⟨rfl, _, rfl, ?_⟩
  rw [nI_clamp (by omega)]
  exact hG _ _ _ _ _ _ _ dJ7_copyOf_9075b_32 ⟨rfl, _, rfl, (fun h => by cases h), ⟨rfl, rfl⟩⟩
theorem tm_ensureNo {l : Launch} {E : tEnv} (hE : tOk E) {c n : pV} {m q : Nat} {a : Nat → Int32} (hm : m ≤ 65536) (hmq : q ≤ m) : tmRun l E 4 2 yJ5_ensureCapacityInternal_d00df [pR 0, pI (nI q)] [.inr [pR 1, pI 0, c, n], .inl (m, a)] none [.inr [pR 1, pI 0, c, n], .inl (m, a)] := by
  refine tmRun_intro hE (own := RJ5) jq_yJ5_ensureCapacityInternal_d00df rfl (by decide +kernel) (by decide) (Nat.le_of_ble_eq_true rfl) rfl ?_
  intro G hG
  refine hG _ _ _ _ _ _ _ dJ5_ensureCapacityInternal_d00df_0 ⟨rfl, _, rfl, ?_⟩
  refine hG _ _ _ _ _ _ _ dJ5_ensureCapacityInternal_d00df_1 ⟨rfl, Or.inl ⟨0, 0, _, _, _, rfl, jf_J5_15, rfl, rfl, ?_⟩⟩
  refine hG _ _ _ _ _ _ _ dJ5_ensureCapacityInternal_d00df_4 ⟨rfl, Or.inl ⟨_, _, _, _, rfl, rfl, ?_⟩⟩
  refine hG _ _ _ _ _ _ _ dJ5_ensureCapacityInternal_d00df_5 ⟨rfl, _, rfl, ?_⟩
  refine hG _ _ _ _ _ _ _ dJ5_ensureCapacityInternal_d00df_6 ⟨rfl, Or.inl ⟨1, 0, _, _, _, rfl, jf_J5_22, rfl, rfl, ?_⟩⟩
  refine hG _ _ _ _ _ _ _ dJ5_ensureCapacityInternal_d00df_9 ⟨rfl, _, _, _, rfl, ?_⟩
  rw [show Int32.ofNat m = nI m from rfl, sb_shr0]
  refine hG _ _ _ _ _ _ _ dJ5_ensureCapacityInternal_d00df_10 ⟨rfl, _, _, rfl, Nat.le_of_ble_eq_true rfl, ?_⟩
  refine hG _ _ _ _ _ _ _ dJ5_ensureCapacityInternal_d00df_11 ⟨rfl, _, rfl, ?_⟩
  refine hG _ _ _ _ _ _ _ dJ5_ensureCapacityInternal_d00df_12 ⟨rfl, _, rfl, ?_⟩
  refine hG _ _ _ _ _ _ _ dJ5_ensureCapacityInternal_d00df_13 ⟨rfl, _, _, _, rfl, ?_⟩
  refine hG _ _ _ _ _ _ _ dJ5_ensureCapacityInternal_d00df_14 ⟨rfl, 38, _, _, rfl, rfl, fun _ => ?_, fun h => absurd (show nI q - nI m ≤ 0 from Int32.le_iff_toInt_le.mpr (by rw [pk_sub_toInt (by omega) (by omega)]; show (q : Int) - m ≤ 0; omega)) h⟩
  exact hG _ _ _ _ _ _ _ dJ5_ensureCapacityInternal_d00df_38 ⟨rfl, rfl, (fun h => by cases h), ⟨rfl, rfl⟩⟩
theorem tm_ensureYes {l : Launch} {E : tEnv} (hE : tOk E) {c n : pV} {m q : Nat} {a : Nat → Int32} (hm : m ≤ 45) (hq : q ≤ 46) (hmq : m < q) (hf : sb_Fit a) : tmRun l E 4 2 yJ5_ensureCapacityInternal_d00df [pR 0, pI (nI q)] [.inr [pR 1, pI 0, c, n], .inl (m, a)] none [.inr [pR 2, pI 0, c, n], .inl (m, a), .inl (m + max (q - m) (m + 2), va_cpy a (fun _ => 0) 0 0 m)] := by
  refine tmRun_intro hE (own := RJ5) jq_yJ5_ensureCapacityInternal_d00df rfl (by decide +kernel) (by decide) (Nat.le_of_ble_eq_true rfl) rfl ?_
  intro G hG
  refine hG _ _ _ _ _ _ _ dJ5_ensureCapacityInternal_d00df_0 ⟨rfl, _, rfl, ?_⟩
  refine hG _ _ _ _ _ _ _ dJ5_ensureCapacityInternal_d00df_1 ⟨rfl, Or.inl ⟨0, 0, _, _, _, rfl, jf_J5_15, rfl, rfl, ?_⟩⟩
  refine hG _ _ _ _ _ _ _ dJ5_ensureCapacityInternal_d00df_4 ⟨rfl, Or.inl ⟨_, _, _, _, rfl, rfl, ?_⟩⟩
  refine hG _ _ _ _ _ _ _ dJ5_ensureCapacityInternal_d00df_5 ⟨rfl, _, rfl, ?_⟩
  refine hG _ _ _ _ _ _ _ dJ5_ensureCapacityInternal_d00df_6 ⟨rfl, Or.inl ⟨1, 0, _, _, _, rfl, jf_J5_22, rfl, rfl, ?_⟩⟩
  refine hG _ _ _ _ _ _ _ dJ5_ensureCapacityInternal_d00df_9 ⟨rfl, _, _, _, rfl, ?_⟩
  rw [show Int32.ofNat m = nI m from rfl, sb_shr0]
  refine hG _ _ _ _ _ _ _ dJ5_ensureCapacityInternal_d00df_10 ⟨rfl, _, _, rfl, Nat.le_of_ble_eq_true rfl, ?_⟩
  refine hG _ _ _ _ _ _ _ dJ5_ensureCapacityInternal_d00df_11 ⟨rfl, _, rfl, ?_⟩
  refine hG _ _ _ _ _ _ _ dJ5_ensureCapacityInternal_d00df_12 ⟨rfl, _, rfl, ?_⟩
  refine hG _ _ _ _ _ _ _ dJ5_ensureCapacityInternal_d00df_13 ⟨rfl, _, _, _, rfl, ?_⟩
  refine hG _ _ _ _ _ _ _ dJ5_ensureCapacityInternal_d00df_14 ⟨rfl, 38, _, _, rfl, rfl, fun h => absurd h (show ¬ nI q - nI m ≤ 0 from fun h => by have := Int32.le_iff_toInt_le.mp h; rw [pk_sub_toInt (by omega) (by omega)] at this; have h0 : ((0 : Int32)).toInt = 0 := rfl; omega), fun _ => ?_⟩
  refine hG _ _ _ _ _ _ _ dJ5_ensureCapacityInternal_d00df_17 ⟨rfl, _, rfl, ?_⟩
  refine hG _ _ _ _ _ _ _ dJ5_ensureCapacityInternal_d00df_18 ⟨rfl, _, rfl, ?_⟩
  refine hG _ _ _ _ _ _ _ dJ5_ensureCapacityInternal_d00df_19 ⟨rfl, Or.inl ⟨0, 0, _, _, _, rfl, jf_J5_15, rfl, rfl, ?_⟩⟩
  refine hG _ _ _ _ _ _ _ dJ5_ensureCapacityInternal_d00df_22 ⟨rfl, _, rfl, ?_⟩
  refine hG _ _ _ _ _ _ _ dJ5_ensureCapacityInternal_d00df_23 ⟨rfl, _, rfl, ?_⟩
  refine hG _ _ _ _ _ _ _ dJ5_ensureCapacityInternal_d00df_24 ⟨rfl, 0, _, _, _, _, [pI (nI q)], _, _, _, jc_J5_104, rfl, rfl, Nat.le_of_ble_eq_true rfl, Or.inl ⟨rfl, _, rfl⟩, (tm_newCapacity hE (by omega) (by omega) (by omega)).mono (by decide), (fun h => by cases h), ?_⟩
  refine hG _ _ _ _ _ _ _ dJ5_ensureCapacityInternal_d00df_27 ⟨rfl, _, rfl, ?_⟩
  refine hG _ _ _ _ _ _ _ dJ5_ensureCapacityInternal_d00df_28 ⟨rfl, Or.inl ⟨1, 0, _, _, _, rfl, jf_J5_22, rfl, rfl, ?_⟩⟩
  refine hG _ _ _ _ _ _ _ dJ5_ensureCapacityInternal_d00df_31 ⟨rfl, _, _, _, rfl, ?_⟩
  rw [sb_shl0]
  refine hG _ _ _ _ _ _ _ dJ5_ensureCapacityInternal_d00df_32 ⟨rfl, Or.inl ⟨2, _, _, [pR 1, pI (nI (m + max (q - m) (m + 2)))], _, _, _, jc_J5_108, rfl, rfl, Nat.le_of_ble_eq_true rfl, (tm_copyOf hE (by omega) (by omega) hf).mono (by decide), (fun _ => ⟨rfl, rfl⟩), ?_⟩⟩
  refine hG _ _ _ _ _ _ _ dJ5_ensureCapacityInternal_d00df_35 ⟨rfl, 0, 0, _, _, _, _, _, _, _, rfl, ck13, by decide, jp_J5_15, rfl, Nat.le_of_ble_eq_true rfl, rfl, rfl, ?_⟩
  exact hG _ _ _ _ _ _ _ dJ5_ensureCapacityInternal_d00df_38 ⟨rfl, rfl, (fun h => by cases h), ⟨rfl, rfl⟩⟩
