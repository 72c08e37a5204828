/-! ===== the library's methods on the text machine ===== -/
theorem chr_nar : ∀ c, c < 256 → (nI c).toUInt32.toUInt16.toUInt32.toInt32 = nI c := by decide +kernel
/-- the String's text that stands: its bytes are the letters of t -/
def tStr (E : tEnv) (t : Nat → Nat) : Prop := sb_Lat t E.2.2.2.1 E.2.2.2.2
theorem tm_isLatin1 {l : Launch} {E : tEnv} (hE : tOk E) {v c n : pV} {tl : List tC} : tmRun l E 1 0 yJ5_isLatin1_aae02 [pR 0] (.inr [v, pI 0, c, n] :: tl) (some (pI 1)) (.inr [v, pI 0, c, n] :: tl) := by
  refine tmRun_intro hE (own := RJ5) jq_yJ5_isLatin1_aae02 rfl (by decide +kernel) (by decide) (Nat.le_of_ble_eq_true rfl) ⟨_, rfl, rfl⟩ ?_
  intro G hG
  refine hG _ _ _ _ _ _ _ dJ5_isLatin1_aae02_0 ⟨rfl, Or.inl ⟨jf_J5_18, ?_⟩⟩
  refine hG _ _ _ _ _ _ _ dJ5_isLatin1_aae02_3 ⟨rfl, 17, _, _, rfl, rfl, fun h => absurd h (show ¬ ((1 : Int32) = 0) by decide), fun _ => ?_⟩
  refine hG _ _ _ _ _ _ _ dJ5_isLatin1_aae02_6 ⟨rfl, _, rfl, ?_⟩
  refine hG _ _ _ _ _ _ _ dJ5_isLatin1_aae02_7 ⟨rfl, Or.inl ⟨1, 0, _, _, _, rfl, jf_J5_22, rfl, rfl, ?_⟩⟩
  refine hG _ _ _ _ _ _ _ dJ5_isLatin1_aae02_10 ⟨rfl, 17, _, _, rfl, rfl, fun h => absurd h (fun h => h rfl), fun _ => ?_⟩
  refine hG _ _ _ _ _ _ _ dJ5_isLatin1_aae02_13 ⟨rfl, ?_⟩
  refine hG _ _ _ _ _ _ _ dJ5_isLatin1_aae02_14 ⟨rfl, 18, rfl, ?_⟩
  exact hG _ _ _ _ _ _ _ dJ5_isLatin1_aae02_18 ⟨rfl, _, rfl, fun _ => rfl, ⟨rfl, rfl⟩⟩
theorem tm_length5 {l : Launch} {E : tEnv} (hE : tOk E) {v k c : pV} {n : Nat} {tl : List tC} : tmRun l E 1 0 yJ5_length_8abf5 [pR 0] (.inr [v, k, c, pI (nI n)] :: tl) (some (pI (nI n))) (.inr [v, k, c, pI (nI n)] :: tl) := by
  refine tmRun_intro hE (own := RJ5) jq_yJ5_length_8abf5 rfl (by decide +kernel) (by decide) (Nat.le_of_ble_eq_true rfl) ⟨_, rfl, rfl⟩ ?_
  intro G hG
  refine hG _ _ _ _ _ _ _ dJ5_length_8abf5_0 ⟨rfl, _, rfl, ?_⟩
  refine hG _ _ _ _ _ _ _ dJ5_length_8abf5_1 ⟨rfl, Or.inl ⟨3, 0, _, _, _, rfl, jf_J5_79, rfl, rfl, ?_⟩⟩
  exact hG _ _ _ _ _ _ _ dJ5_length_8abf5_4 ⟨rfl, _, rfl, fun _ => rfl, ⟨rfl, rfl⟩⟩
theorem tm_length {l : Launch} {E : tEnv} (hE : tOk E) {v k c : pV} {n : Nat} {tl : List tC} : tmRun l E 2 0 yJ4_length_8abf5 [pR 0] (.inr [v, k, c, pI (nI n)] :: tl) (some (pI (nI n))) (.inr [v, k, c, pI (nI n)] :: tl) := by
  refine tmRun_intro hE (own := RJ4) jq_yJ4_length_8abf5 rfl (by decide +kernel) (by decide) (Nat.le_of_ble_eq_true rfl) ⟨_, rfl, rfl⟩ ?_
  intro G hG
  refine hG _ _ _ _ _ _ _ dJ4_length_8abf5_0 ⟨rfl, _, rfl, ?_⟩
  refine hG _ _ _ _ _ _ _ dJ4_length_8abf5_1 ⟨rfl, 0, _, _, _, [], _, _, _, jc_J4_343, rfl, rfl, Nat.le_of_ble_eq_true rfl, ⟨_, rfl⟩, tm_length5 hE, (fun h => by cases h), ?_⟩
  exact hG _ _ _ _ _ _ _ dJ4_length_8abf5_4 ⟨rfl, _, rfl, fun _ => rfl, ⟨rfl, rfl⟩⟩
theorem tm_getValue {l : Launch} {E : tEnv} (hE : tOk E) {k c n : pV} {a : Nat} {tl : List tC} : tmRun l E 1 0 yJ5_getValue_6d5f1 [pR 0] (.inr [pR a, k, c, n] :: tl) (some (pR a)) (.inr [pR a, k, c, n] :: tl) := by
  refine tmRun_intro hE (own := RJ5) jq_yJ5_getValue_6d5f1 rfl (by decide +kernel) (by decide) (Nat.le_of_ble_eq_true rfl) ⟨_, rfl, Or.inr ⟨_, rfl⟩⟩ ?_
  intro G hG
  refine hG _ _ _ _ _ _ _ dJ5_getValue_6d5f1_0 ⟨rfl, _, rfl, ?_⟩
  refine hG _ _ _ _ _ _ _ dJ5_getValue_6d5f1_1 ⟨rfl, Or.inl ⟨0, 0, _, _, _, rfl, jf_J5_15, rfl, rfl, ?_⟩⟩
  exact hG _ _ _ _ _ _ _ dJ5_getValue_6d5f1_4 ⟨rfl, _, rfl, fun _ => rfl, ⟨rfl, rfl⟩⟩
theorem tm_coder {l : Launch} {E : tEnv} (hE : tOk E) {cs : List tC} : tmRun l E 1 0 yJ0_coder_7d493 [pR 50] cs (some (pI 0)) cs := by
  refine tmRun_intro hE (own := RJ0) jq_yJ0_coder_7d493 rfl (by decide +kernel) (by decide) (Nat.le_of_ble_eq_true rfl) ⟨_, rfl, rfl⟩ ?_
  intro G hG
  refine hG _ _ _ _ _ _ _ dJ0_coder_7d493_0 ⟨rfl, Or.inl ⟨jf_J0_38, ?_⟩⟩
  refine hG _ _ _ _ _ _ _ dJ0_coder_7d493_3 ⟨rfl, 13, _, _, rfl, rfl, fun h => absurd h (show ¬ ((1 : Int32) = 0) by decide), fun _ => ?_⟩
  refine hG _ _ _ _ _ _ _ dJ0_coder_7d493_6 ⟨rfl, _, rfl, ?_⟩
  refine hG _ _ _ _ _ _ _ dJ0_coder_7d493_7 ⟨rfl, Or.inr (Or.inl ⟨_, rfl, jf_J0_15, ?_⟩)⟩
  refine hG _ _ _ _ _ _ _ dJ0_coder_7d493_10 ⟨rfl, 14, rfl, ?_⟩
  exact hG _ _ _ _ _ _ _ dJ0_coder_7d493_14 ⟨rfl, _, rfl, fun _ => rfl, ⟨rfl, rfl⟩⟩
theorem tm_strLength {l : Launch} {E : tEnv} (hE : tOk E) {cs : List tC} : tmRun l E 2 0 yJ0_length_8abf5 [pR 50] cs (some (pI (nI E.2.2.2.1))) cs := by
  refine tmRun_intro hE (own := RJ0) jq_yJ0_length_8abf5 rfl (by decide +kernel) (by decide) (Nat.le_of_ble_eq_true rfl) ⟨_, rfl, rfl⟩ ?_
  intro G hG
  refine hG _ _ _ _ _ _ _ dJ0_length_8abf5_0 ⟨rfl, _, rfl, ?_⟩
  refine hG _ _ _ _ _ _ _ dJ0_length_8abf5_1 ⟨rfl, Or.inr (Or.inr ⟨_, rfl, jf_J0_9, ?_⟩)⟩
  refine hG _ _ _ _ _ _ _ dJ0_length_8abf5_4 ⟨rfl, Or.inr ⟨_, rfl, ?_⟩⟩
  refine hG _ _ _ _ _ _ _ dJ0_length_8abf5_5 ⟨rfl, _, rfl, ?_⟩
  refine hG _ _ _ _ _ _ _ dJ0_length_8abf5_6 ⟨rfl, 0, _, _, _, _, [], _, _, _, jc_J0_335, rfl, rfl, Nat.le_of_ble_eq_true rfl, Or.inr ⟨rfl, rfl⟩, tm_coder hE, (fun h => by cases h), ?_⟩
  refine hG _ _ _ _ _ _ _ dJ0_length_8abf5_9 ⟨rfl, _, _, _, rfl, ?_⟩
  rw [show Int32.ofNat E.2.2.2.1 = nI E.2.2.2.1 from rfl, sb_shr0]
  exact hG _ _ _ _ _ _ _ dJ0_length_8abf5_10 ⟨rfl, _, rfl, fun _ => rfl, ⟨rfl, rfl⟩⟩
theorem tm_inflateIf {l : Launch} {E : tEnv} (hE : tOk E) {v c n : pV} {tl : List tC} : tmRun l E 2 0 yJ5_inflateIfNeededFor_a7421 [pR 0, pR 50] (.inr [v, pI 0, c, n] :: tl) none (.inr [v, pI 0, c, n] :: tl) := by
  refine tmRun_intro hE (own := RJ5) jq_yJ5_inflateIfNeededFor_a7421 rfl (by decide +kernel) (by decide) (Nat.le_of_ble_eq_true rfl) rfl ?_
  intro G hG
  refine hG _ _ _ _ _ _ _ dJ5_inflateIfNeededFor_a7421_0 ⟨rfl, Or.inl ⟨jf_J5_18, ?_⟩⟩
  refine hG _ _ _ _ _ _ _ dJ5_inflateIfNeededFor_a7421_3 ⟨rfl, 21, _, _, rfl, rfl, fun h => absurd h (show ¬ ((1 : Int32) = 0) by decide), fun _ => ?_⟩
  refine hG _ _ _ _ _ _ _ dJ5_inflateIfNeededFor_a7421_6 ⟨rfl, _, rfl, ?_⟩
  refine hG _ _ _ _ _ _ _ dJ5_inflateIfNeededFor_a7421_7 ⟨rfl, Or.inl ⟨1, 0, _, _, _, rfl, jf_J5_22, rfl, rfl, ?_⟩⟩
  refine hG _ _ _ _ _ _ _ dJ5_inflateIfNeededFor_a7421_10 ⟨rfl, _, rfl, ?_⟩
  refine hG _ _ _ _ _ _ _ dJ5_inflateIfNeededFor_a7421_11 ⟨rfl, 0, _, _, _, _, [], _, _, _, jc_J5_40, rfl, rfl, Nat.le_of_ble_eq_true rfl, Or.inr ⟨rfl, rfl⟩, tm_coder hE, (fun h => by cases h), ?_⟩
  refine hG _ _ _ _ _ _ _ dJ5_inflateIfNeededFor_a7421_14 ⟨rfl, 21, _, _, _, rfl, rfl, fun _ => ?_, fun h => absurd (rfl) h⟩
  exact hG _ _ _ _ _ _ _ dJ5_inflateIfNeededFor_a7421_21 ⟨rfl, rfl, fun _ => rfl, ⟨rfl, rfl⟩⟩
theorem tm_strLatin {l : Launch} {E : tEnv} (hE : tOk E) {cs : List tC} : tmRun l E 1 0 yJ0_isLatin1_aae02 [pR 50] cs (some (pI 1)) cs := by
  refine tmRun_intro hE (own := RJ0) jq_yJ0_isLatin1_aae02 rfl (by decide +kernel) (by decide) (Nat.le_of_ble_eq_true rfl) ⟨_, rfl, rfl⟩ ?_
  intro G hG
  refine hG _ _ _ _ _ _ _ dJ0_isLatin1_aae02_0 ⟨rfl, Or.inl ⟨jf_J0_38, ?_⟩⟩
  refine hG _ _ _ _ _ _ _ dJ0_isLatin1_aae02_3 ⟨rfl, 17, _, _, rfl, rfl, fun h => absurd h (show ¬ ((1 : Int32) = 0) by decide), fun _ => ?_⟩
  refine hG _ _ _ _ _ _ _ dJ0_isLatin1_aae02_6 ⟨rfl, _, rfl, ?_⟩
  refine hG _ _ _ _ _ _ _ dJ0_isLatin1_aae02_7 ⟨rfl, Or.inr (Or.inl ⟨_, rfl, jf_J0_15, ?_⟩)⟩
  refine hG _ _ _ _ _ _ _ dJ0_isLatin1_aae02_10 ⟨rfl, 17, _, _, rfl, rfl, fun h => absurd h (fun h => h rfl), fun _ => ?_⟩
  refine hG _ _ _ _ _ _ _ dJ0_isLatin1_aae02_13 ⟨rfl, ?_⟩
  refine hG _ _ _ _ _ _ _ dJ0_isLatin1_aae02_14 ⟨rfl, 18, rfl, ?_⟩
  exact hG _ _ _ _ _ _ _ dJ0_isLatin1_aae02_18 ⟨rfl, _, rfl, fun _ => rfl, ⟨rfl, rfl⟩⟩
theorem tm_checkLength {l : Launch} {E : tEnv} (hE : tOk E) {n : Nat} (hn : n ≤ 65536) {cs : List tC} : tmRun l E 1 0 yJ7_checkLength_df160 [pI (nI 0), pI (nI n)] cs none cs := by
  refine tmRun_intro hE (own := RJ7) jq_yJ7_checkLength_df160 rfl (by decide +kernel) (by decide) (Nat.le_of_ble_eq_true rfl) rfl ?_
  intro G hG
  refine hG _ _ _ _ _ _ _ dJ7_checkLength_df160_0 ⟨rfl, _, rfl, ?_⟩
  refine hG _ _ _ _ _ _ _ dJ7_checkLength_df160_1 ⟨rfl, _, rfl, ?_⟩
  refine hG _ _ _ _ _ _ _ dJ7_checkLength_df160_2 ⟨rfl, 37, _, _, _, rfl, rfl, fun _ => ?_, fun h => absurd (show nI 0 ≤ nI n from nI_le (by omega) (by omega)) h⟩
  exact hG _ _ _ _ _ _ _ dJ7_checkLength_df160_37 ⟨rfl, rfl, fun _ => rfl, ⟨rfl, rfl⟩⟩
theorem tm_copyRange5 {l : Launch} {E : tEnv} (hE : tOk E) {x : tC} {m n : Nat} {a : Nat → Int32} (hm : m ≤ 65536) (hn : n ≤ 100) (hnm : n ≤ m) (hf : sb_Fit a) : tmRun l E 2 2 yJ7_copyOfRangeByte_39247 [pR 1, pI (nI 0), pI (nI n)] [x, .inl (m, a)] (some (pR 2)) [x, .inl (m, a), .inl (n, va_cpy a (fun _ => 0) 0 0 n)] := by
  refine tmRun_intro hE (own := RJ7) jq_yJ7_copyOfRangeByte_39247 rfl (by decide +kernel) (by decide) (Nat.le_of_ble_eq_true rfl) ⟨_, rfl, Or.inr ⟨_, rfl⟩⟩ ?_
  intro G hG
  refine hG _ _ _ _ _ _ _ dJ7_copyOfRangeByte_39247_0 ⟨rfl, _, rfl, ?_⟩
  refine hG _ _ _ _ _ _ _ dJ7_copyOfRangeByte_39247_1 ⟨rfl, _, rfl, ?_⟩
  refine hG _ _ _ _ _ _ _ dJ7_copyOfRangeByte_39247_2 ⟨rfl, Or.inl ⟨0, _, _, [pI (nI 0), pI (nI n)], _, _, _, jc_J7_343, rfl, rfl, Nat.le_of_ble_eq_true rfl, tm_checkLength hE (by omega), (fun h => by cases h), ?_⟩⟩
  refine hG _ _ _ _ _ _ _ dJ7_copyOfRangeByte_39247_5 ⟨rfl, _, rfl, ?_⟩
  refine hG _ _ _ _ _ _ _ dJ7_copyOfRangeByte_39247_6 ⟨rfl, _, rfl, ?_⟩
  refine hG _ _ _ _ _ _ _ dJ7_copyOfRangeByte_39247_7 ⟨rfl, _, _, _, rfl, ?_⟩
  rw [pk_sub (Nat.zero_le n), Nat.sub_zero]
  refine hG _ _ _ _ _ _ _ dJ7_copyOfRangeByte_39247_8 ⟨rfl, _, _, rfl, Nat.le_of_ble_eq_true rfl, ?_⟩
  refine hG _ _ _ _ _ _ _ dJ7_copyOfRangeByte_39247_9 ⟨rfl, _, rfl, ?_⟩
  refine hG _ _ _ _ _ _ _ dJ7_copyOfRangeByte_39247_10 ⟨rfl, rfl, _, _, rfl, hn, rfl, rfl, rfl, ?_⟩
  refine hG _ _ _ _ _ _ _ dJ7_copyOfRangeByte_39247_12 ⟨rfl, _, _, rfl, Nat.le_of_ble_eq_true rfl, ?_⟩
  refine hG _ _ _ _ _ _ _ dJ7_copyOfRangeByte_39247_14 ⟨rfl, _, rfl, ?_⟩
  refine hG _ _ _ _ _ _ _ dJ7_copyOfRangeByte_39247_15 ⟨rfl, _, rfl, ?_⟩
  refine hG _ _ _ _ _ _ _ dJ7_copyOfRangeByte_39247_16 ⟨rfl, _, rfl, ?_⟩
  refine hG _ _ _ _ _ _ _ dJ7_copyOfRangeByte_39247_18 ⟨rfl, ?_⟩
  refine hG _ _ _ _ _ _ _ dJ7_copyOfRangeByte_39247_19 ⟨rfl, _, rfl, ?_⟩
  refine hG _ _ _ _ _ _ _ dJ7_copyOfRangeByte_39247_20 ⟨rfl, Or.inl ⟨_, _, _, _, rfl, rfl, ?_⟩⟩
  refine hG _ _ _ _ _ _ _ dJ7_copyOfRangeByte_39247_21 ⟨rfl, _, rfl, ?_⟩
  refine hG _ _ _ _ _ _ _ dJ7_copyOfRangeByte_39247_22 ⟨rfl, _, _, _, rfl, ?_⟩
  rw [show Int32.ofNat m = nI m from rfl, pk_sub (Nat.zero_le m), Nat.sub_zero]
  refine hG _ _ _ _ _ _ _ dJ7_copyOfRangeByte_39247_23 ⟨rfl, _, rfl, ?_⟩
  refine hG _ _ _ _ _ _ _ dJ7_copyOfRangeByte_39247_24 ⟨rfl, Or.inr (Or.inr (Or.inl ⟨_, _, _, jc_J7_304, rfl, Nat.le_of_ble_eq_true rfl, ?_⟩))⟩
  rw [show (if nI n < nI m then nI n else nI m) = nI n from by
    by_cases h : n < m
    · exact if_pos (nI_lt h (by omega))
    · rw [if_neg (nI_nlt (by omega) (by omega)), show m = n by omega]]
  refine hG _ _ _ _ _ _ _ dJ7_copyOfRangeByte_39247_27 ⟨rfl, Or.inr (Or.inr (Or.inr (Or.inl ⟨_, _, _, _, _, _, _, _, _, _, jc_J7_150, rfl, Nat.le_of_ble_eq_true rfl, by decide, by decide, nI_pos (by omega), rfl, rfl, by rw [nI_clamp (by omega), nI_clamp (by omega)]; omega, by rw [nI_clamp (by omega)]; show 0 + n ≤ n; omega, hf, ?_⟩)))⟩
  refine hG _ _ _ _ _ _ _ dJ7_copyOfRangeByte_39247_30 ⟨rfl, _, rfl, ?_⟩
  rw [nI_clamp (by omega), nI_clamp (by omega)]
  exact hG _ _ _ _ _ _ _ dJ7_copyOfRangeByte_39247_32 ⟨rfl, _, rfl, (fun h => by cases h), ⟨rfl, rfl⟩⟩
theorem tm_copyRange {l : Launch} {E : tEnv} (hE : tOk E) {x : tC} {m n : Nat} {a : Nat → Int32} (hm : m ≤ 65536) (hn : n ≤ 100) (hnm : n < m) (hf : sb_Fit a) : tmRun l E 3 2 yJ7_copyOfRange_39247 [pR 1, pI (nI 0), pI (nI n)] [x, .inl (m, a)] (some (pR 2)) [x, .inl (m, a), .inl (n, va_cpy a (fun _ => 0) 0 0 n)] := by
  refine tmRun_intro hE (own := RJ7) jq_yJ7_copyOfRange_39247 rfl (by decide +kernel) (by decide) (Nat.le_of_ble_eq_true rfl) ⟨_, rfl, Or.inr ⟨_, rfl⟩⟩ ?_
  intro G hG
  refine hG _ _ _ _ _ _ _ dJ7_copyOfRange_39247_0 ⟨rfl, _, rfl, ?_⟩
  refine hG _ _ _ _ _ _ _ dJ7_copyOfRange_39247_1 ⟨rfl, 10, _, _, rfl, rfl, fun h => absurd h (fun h => h rfl), fun _ => ?_⟩
  refine hG _ _ _ _ _ _ _ dJ7_copyOfRange_39247_4 ⟨rfl, _, rfl, ?_⟩
  refine hG _ _ _ _ _ _ _ dJ7_copyOfRange_39247_5 ⟨rfl, _, rfl, ?_⟩
  refine hG _ _ _ _ _ _ _ dJ7_copyOfRange_39247_6 ⟨rfl, Or.inl ⟨_, _, _, _, rfl, rfl, ?_⟩⟩
  refine hG _ _ _ _ _ _ _ dJ7_copyOfRange_39247_7 ⟨rfl, 17, _, _, _, rfl, rfl, fun h => absurd h (show ¬ nI n = nI m from fun h => by have := (nI_eq (by omega) (by omega)).mp h; omega), fun _ => ?_⟩
  refine hG _ _ _ _ _ _ _ dJ7_copyOfRange_39247_10 ⟨rfl, _, rfl, ?_⟩
  refine hG _ _ _ _ _ _ _ dJ7_copyOfRange_39247_11 ⟨rfl, _, rfl, ?_⟩
  refine hG _ _ _ _ _ _ _ dJ7_copyOfRange_39247_12 ⟨rfl, _, rfl, ?_⟩
  refine hG _ _ _ _ _ _ _ dJ7_copyOfRange_39247_13 ⟨rfl, Or.inl ⟨2, _, _, [pR 1, pI (nI 0), pI (nI n)], _, _, _, jc_J7_339, rfl, rfl, Nat.le_of_ble_eq_true rfl, tm_copyRange5 hE hm hn (by omega) hf, (fun _ => ⟨rfl, rfl⟩), ?_⟩⟩
  exact hG _ _ _ _ _ _ _ dJ7_copyOfRange_39247_16 ⟨rfl, _, rfl, (fun h => by cases h), ⟨rfl, rfl⟩⟩
theorem tm_ensureNo {l : Launch} {E : tEnv} (hE : tOk E) {c n : pV} {m q : Nat} {a : Nat → Int32} (hm : m ≤ 65536) (hmq : q ≤ m) : tmRun l E 4 1 yJ5_ensureCapacityInternal_d00df [pR 0, pI (nI q)] [.inr [pR 1, pI 0, c, n], .inl (m, a)] none [.inr [pR 1, pI 0, c, n], .inl (m, a)] := by
  refine tmRun_intro hE (own := RJ5) jq_yJ5_ensureCapacityInternal_d00df rfl (by decide +kernel) (by decide) (Nat.le_of_ble_eq_true rfl) rfl ?_
  intro G hG
  refine hG _ _ _ _ _ _ _ dJ5_ensureCapacityInternal_d00df_0 ⟨rfl, _, rfl, ?_⟩
  refine hG _ _ _ _ _ _ _ dJ5_ensureCapacityInternal_d00df_1 ⟨rfl, Or.inl ⟨0, 0, _, _, _, rfl, jf_J5_15, rfl, rfl, ?_⟩⟩
  refine hG _ _ _ _ _ _ _ dJ5_ensureCapacityInternal_d00df_4 ⟨rfl, Or.inl ⟨_, _, _, _, rfl, rfl, ?_⟩⟩
  refine hG _ _ _ _ _ _ _ dJ5_ensureCapacityInternal_d00df_5 ⟨rfl, _, rfl, ?_⟩
  refine hG _ _ _ _ _ _ _ dJ5_ensureCapacityInternal_d00df_6 ⟨rfl, Or.inl ⟨1, 0, _, _, _, rfl, jf_J5_22, rfl, rfl, ?_⟩⟩
  refine hG _ _ _ _ _ _ _ dJ5_ensureCapacityInternal_d00df_9 ⟨rfl, _, _, _, rfl, ?_⟩
  rw [show Int32.ofNat m = nI m from rfl, sb_shr0]
  refine hG _ _ _ _ _ _ _ dJ5_ensureCapacityInternal_d00df_10 ⟨rfl, _, _, rfl, Nat.le_of_ble_eq_true rfl, ?_⟩
  refine hG _ _ _ _ _ _ _ dJ5_ensureCapacityInternal_d00df_11 ⟨rfl, _, rfl, ?_⟩
  refine hG _ _ _ _ _ _ _ dJ5_ensureCapacityInternal_d00df_12 ⟨rfl, _, rfl, ?_⟩
  refine hG _ _ _ _ _ _ _ dJ5_ensureCapacityInternal_d00df_13 ⟨rfl, _, _, _, rfl, ?_⟩
  refine hG _ _ _ _ _ _ _ dJ5_ensureCapacityInternal_d00df_14 ⟨rfl, 38, _, _, rfl, rfl, fun _ => ?_, fun h => absurd (show nI q - nI m ≤ 0 from Int32.le_iff_toInt_le.mpr (by rw [pk_sub_toInt (by omega) (by omega)]; show (q : Int) - m ≤ 0; omega)) h⟩
  exact hG _ _ _ _ _ _ _ dJ5_ensureCapacityInternal_d00df_38 ⟨rfl, rfl, (fun h => by cases h), ⟨rfl, rfl⟩⟩
theorem met_check3 {l : Launch} {v : Value} (hv : v.isRef = true) {i n : Nat} (hi : i < n) (hn : n ≤ 65536) {A : Nat → Prop} : Met l yJ3_checkIndex_8e157 (Cond.code yJ3_checkIndex_8e157 cJ3_checkIndex_8e157 3 (some .int) :: tb) (cRm 1 0 0) (va_Pc [.int (nI i), .int (nI n), v] (fun _ => True)) (fun _ st oc t => oc = .returned (some (.int (nI i))) ∧ t.heap = st.heap) 0 0 A := by
  have hent : ∃ ls, ls = ((lg_sl [.int (nI i), .int (nI n), v]) ++ List.replicate (3 - (lg_sl [.int (nI i), .int (nI n), v]).length) Slot.unset).toArray ∧ lv_has ls 3 (lv_args 0 [.int (nI i), .int (nI n), v]) := by
    cases v with
    | ref a => exact ⟨_, rfl, lv_entry ([.int (nI i), .int (nI n), .ref a]) (n := 3) (Nat.le_of_ble_eq_true rfl)⟩
    | null => exact ⟨_, rfl, lv_entry ([.int (nI i), .int (nI n), .null]) (n := 3) (Nat.le_of_ble_eq_true rfl)⟩
    | _ => cases hv
  refine Met.ofW (cc := cJ3_checkIndex_8e157) (maxL := 3) (ret := some .int) (by decide +kernel) rfl ?_
  intro p e s m args below meth c s₁ B hml hv2
  obtain ⟨rfl, -⟩ := hv2
  have hr := B.returns
  have hx := B.exec
  have hb := B.bytes
  have hlocks := B.notSynchronized
  rw [lg_entry_eq]
  obtain ⟨ls, hls, hent⟩ := hent
  rw [← hls]
  have l0 : ls[0]? = some (.val (.int (nI i))) := hent.2.2 (0, .int (nI i)) (by simp [lv_args])
  have l1 : ls[1]? = some (.val (.int (nI n))) := hent.2.2 (1, .int (nI n)) (by simp [lv_args, Value.category])
  refine lv_iload_n hx hb dJ3_checkIndex_8e157_0 rfl l0 ?_
  refine lv_if_lt hx hb dJ3_checkIndex_8e157_1 (tgt := 9) rfl (fun q => absurd q (nI_pos (by omega))) (fun _ => ?_)
  refine lv_iload_n hx hb dJ3_checkIndex_8e157_4 rfl l0 ?_
  refine lv_iload_n hx hb dJ3_checkIndex_8e157_5 rfl l1 ?_
  refine lv_icmp_lt hx hb dJ3_checkIndex_8e157_6 (tgt := 16) rfl (fun _ => ?_) (fun q => absurd (nI_lt hi (by omega)) q)
  refine lv_iload_n hx hb dJ3_checkIndex_8e157_16 rfl l0 ?_
  exact W.iret hx hb hr (fun t ht _ => ⟨rfl, ht⟩) (fun q hq => by cases hq) dJ3_checkIndex_8e157_17 hlocks
theorem tm_check0 {l : Launch} {E : tEnv} (hE : tOk E) {i n : Nat} (hi : i < n) (hn : n ≤ 65536) {cs : List tC} : tmRun l E 2 0 yJ0_checkIndex_df160 [pI (nI i), pI (nI n)] cs none cs := by
  refine ⟨cJ0_checkIndex_df160, 2, none, 2, jq_yJ0_checkIndex_df160, by decide, Nat.le_refl _, Met.ofW (cc := cJ0_checkIndex_df160) (maxL := 2) (ret := none) (by decide +kernel) rfl ?_⟩
  intro p e s m args below meth c s₁ B hml hv
  obtain ⟨rfl, hH, hK, hnw, hfx, -⟩ := hv
  have hts : ∀ w ∈ tb, w.before ([pI (nI i), pI (nI n)].map (pv E.1)).toArray s = true := fun w hw => atoms_spec (ws := Cond.code yJ0_checkIndex_df160 cJ0_checkIndex_df160 2 none :: tb) B.pre w (List.mem_cons_of_mem _ hw)
  have hr := B.returns
  have hx := B.exec
  have hb := B.bytes
  have hlocks := B.notSynchronized
  have hown : s.vm.findClass RJ0 = some m.cls := findClass_of_methodNamed B.named
  obtain ⟨v, hv, hz⟩ := hfx.2.2.2.2.1
  obtain ⟨w1, w2, w3, hy⟩ := jc_J0_1059
  rw [lg_entry_eq]
  have hent := lv_entry ([pI (nI i), pI (nI n)].map (pv E.1)) (n := 2) (Nat.le_of_ble_eq_true rfl)
  generalize (lg_sl ([pI (nI i), pI (nI n)].map (pv E.1)) ++ List.replicate (2 - (lg_sl ([pI (nI i), pI (nI n)].map (pv E.1))).length) Slot.unset).toArray = ls at hent ⊢
  have l0 : ls[0]? = some (.val (.int (nI i))) := hent.2.2 (0, .int (nI i)) (by simp [lv_args, pv])
  have l1 : ls[1]? = some (.val (.int (nI n))) := hent.2.2 (1, .int (nI n)) (by simp [lv_args, pv, Value.category])
  refine lv_iload_n hx hb dJ0_checkIndex_df160_0 rfl l0 ?_
  refine lv_iload_n hx hb dJ0_checkIndex_df160_1 rfl l1 ?_
  refine va_gets hx hb hz va_S.rf hown (hts _ jf_J0_1053) (fun _ z => z) dJ0_checkIndex_df160_2 ?_
  have hrun := va_runS (R := (headSpec (Cond.code yJ0_checkIndex_df160 cJ0_checkIndex_df160 2 none :: tb) (cRm 2 (tMc 0) (tMs 0))).room) (l := l) (e := e) (below := below) (meth := meth) (As := [.int (nI i), .int (nI n), v]) (rest := []) (H := s.heap) (locs := []) (cells := 0) (slots := 0) (g := F0 m 5 ls [v, .int (nI n), .int (nI i)]) ⟨hx, hb, hml, hown, hts⟩ (met_check3 (l := l) hv hi hn (A := tA E)) ⟨callB_of 3 hts (tbl_goodIn fun w hw => (List.mem_cons.mp hw).elim (fun z => z ▸ jq_yJ3_checkIndex_8e157) id) rfl rfl rfl (hts _ w3) (hts _ w1) hy ⟨Nat.le_of_ble_eq_true rfl, Nat.le_of_ble_eq_true rfl⟩, hts _ w2⟩ ⟨fun a U g mk q => ⟨q.1, trivial⟩, fun U hU hW => ⟨rfl, trivial⟩⟩ rfl rfl hent.1 rfl (lv_room (by decide)) dJ0_checkIndex_df160_5 ⟨Nat.le_refl _, Nat.le_refl _⟩
  intro T hT X
  obtain ⟨rv, st₀, t, T', L2, h0, X', hL, e1, e2, ⟨hr2, hh⟩, st⟩ := hrun T hT X
  cases hr2
  have hheap : T'.heap = s.heap := e1.trans (hh.trans h0)
  have hw : W p l e (headSpec (Cond.code yJ0_checkIndex_df160 cJ0_checkIndex_df160 2 none :: tb) (cRm 2 (tMc 0) (tMs 0))).room s m ([pI (nI i), pI (nI n)].map (pv E.1)).toArray below meth c T'.heap ([] ++ L2) (0 + 0) (0 + 0) (MQ below (tQpost E 0 none cs) ([pI (nI i), pI (nI n)].map (pv E.1)).toArray s (tMc 0) (tMs 0) (tA E)) (F0 m 8 ls [.int (nI i)]) := lv_pop hx hb dJ0_checkIndex_df160_8 rfl (W.vret (Qc := tQpost E 0 none cs) (free := tA E) hx hb hr (fun t ht _ => ⟨rfl, by rw [ht, hheap]; exact hH, ⟨by rw [ht, hheap]; exact Nat.le_refl _, fun q _ _ => by rw [ht, hheap]⟩, fun _ => by rw [ht, hheap]⟩) (fun q hq => hL q (by simpa using hq)) dJ0_checkIndex_df160_9 hlocks)
  obtain ⟨t2, a1, b1⟩ := hw T' rfl X'
  exact ⟨t2, st t2 a1, b1⟩
theorem tm_latAt {l : Launch} {E : tEnv} (hE : tOk E) {i : Nat} {t : Nat → Nat} (hL : tStr E t) (hi : i < E.2.2.2.1) (hn : E.2.2.2.1 ≤ 65536) {cs : List tC} : tmRun l E 3 0 yJ1_charAt_3b067 [pR 51, pI (nI i)] cs (some (pI (nI (t i)))) cs := by
  refine tmRun_intro hE (own := RJ1) jq_yJ1_charAt_3b067 rfl (by decide +kernel) (by decide) (Nat.le_of_ble_eq_true rfl) ⟨_, rfl, congrArg Value.int (chr_nar _ (hL i hi).1)⟩ ?_
  intro G hG
  refine hG _ _ _ _ _ _ _ dJ1_charAt_3b067_0 ⟨rfl, _, rfl, ?_⟩
  refine hG _ _ _ _ _ _ _ dJ1_charAt_3b067_1 ⟨rfl, _, rfl, ?_⟩
  refine hG _ _ _ _ _ _ _ dJ1_charAt_3b067_2 ⟨rfl, Or.inr ⟨_, rfl, ?_⟩⟩
  refine hG _ _ _ _ _ _ _ dJ1_charAt_3b067_3 ⟨rfl, Or.inl ⟨0, _, _, [pI (nI i), pI (nI E.2.2.2.1)], _, _, _, jc_J1_9, rfl, rfl, Nat.le_of_ble_eq_true rfl, tm_check0 hE hi hn, (fun h => by cases h), ?_⟩⟩
  refine hG _ _ _ _ _ _ _ dJ1_charAt_3b067_6 ⟨rfl, _, rfl, ?_⟩
  refine hG _ _ _ _ _ _ _ dJ1_charAt_3b067_7 ⟨rfl, _, rfl, ?_⟩
  refine hG _ _ _ _ _ _ _ dJ1_charAt_3b067_8 ⟨rfl, Or.inr (Or.inr (Or.inr ⟨_, _, rfl, nI_in (by omega) (by omega), ?_⟩))⟩
  refine hG _ _ _ _ _ _ _ dJ1_charAt_3b067_9 ⟨rfl, ?_⟩
  rw [nI_clamp (by omega), (hL i hi).2, show (Int16.ofInt 255).toInt32 = 255 from rfl]
  refine hG _ _ _ _ _ _ _ dJ1_charAt_3b067_12 ⟨rfl, _, _, _, rfl, ?_⟩
  rw [(sb_byte (t i) (hL i hi).1).1]
  refine hG _ _ _ _ _ _ _ dJ1_charAt_3b067_13 ⟨rfl, _, _, rfl, ?_⟩
  rw [(sb_byte (t i) (hL i hi).1).2.1]
  exact hG _ _ _ _ _ _ _ dJ1_charAt_3b067_14 ⟨rfl, _, rfl, fun _ => rfl, ⟨rfl, rfl⟩⟩
theorem tm_strAt {l : Launch} {E : tEnv} (hE : tOk E) {i : Nat} {t : Nat → Nat} (hL : tStr E t) (hi : i < E.2.2.2.1) (hn : E.2.2.2.1 ≤ 65536) {cs : List tC} : tmRun l E 4 0 yJ0_charAt_5068e [pR 50, pI (nI i)] cs (some (pI (nI (t i)))) cs := by
  refine tmRun_intro hE (own := RJ0) jq_yJ0_charAt_5068e rfl (by decide +kernel) (by decide) (Nat.le_of_ble_eq_true rfl) ⟨_, rfl, congrArg Value.int (chr_nar _ (hL i hi).1)⟩ ?_
  intro G hG
  refine hG _ _ _ _ _ _ _ dJ0_charAt_5068e_0 ⟨rfl, _, rfl, ?_⟩
  refine hG _ _ _ _ _ _ _ dJ0_charAt_5068e_1 ⟨rfl, 0, _, _, _, _, [], _, _, _, jc_J0_492, rfl, rfl, Nat.le_of_ble_eq_true rfl, Or.inr ⟨rfl, rfl⟩, (tm_strLatin hE).mono (by decide), (fun h => by cases h), ?_⟩
  refine hG _ _ _ _ _ _ _ dJ0_charAt_5068e_4 ⟨rfl, 16, _, _, rfl, rfl, fun h => absurd h (show ¬ ((1 : Int32) = 0) by decide), fun _ => ?_⟩
  refine hG _ _ _ _ _ _ _ dJ0_charAt_5068e_7 ⟨rfl, _, rfl, ?_⟩
  refine hG _ _ _ _ _ _ _ dJ0_charAt_5068e_8 ⟨rfl, Or.inr (Or.inr ⟨_, rfl, jf_J0_9, ?_⟩)⟩
  refine hG _ _ _ _ _ _ _ dJ0_charAt_5068e_11 ⟨rfl, _, rfl, ?_⟩
  refine hG _ _ _ _ _ _ _ dJ0_charAt_5068e_12 ⟨rfl, Or.inl ⟨0, _, _, [pR 51, pI (nI i)], _, _, _, jc_J0_495, rfl, rfl, Nat.le_of_ble_eq_true rfl, tm_latAt hE hL hi hn, (fun h => by cases h), ?_⟩⟩
  exact hG _ _ _ _ _ _ _ dJ0_charAt_5068e_15 ⟨rfl, _, rfl, fun _ => rfl, ⟨rfl, rfl⟩⟩
