/-! ===== the library's methods: numbers ===== -/
/-- Integer.getChars, backwards -/
def gcA : Nat → Nat → Nat → (Nat → Int32) → Nat → Int32
  | 0, _, _, a => a
  | f + 1, w, p, a => if w < 100 then (if w < 10 then upd a (p - 1) (sb_b (48 + w % 10)) else upd (upd a (p - 1) (sb_b (48 + w % 10))) (p - 1 - 1) (sb_b (48 + w / 10))) else gcA f (w / 100) (p - 1 - 1) (upd (upd a (p - 1) (sb_b (48 + w % 100 % 10))) (p - 1 - 1) (sb_b (48 + w % 100 / 10)))
theorem gcA_is {n : Nat} : ∀ (f w p : Nat) (a : Nat → Int32), w < f → w < 2 ^ 31 → p = n + sb_dg w → (∀ j, j < n ∨ p ≤ j → gcA f w p a j = a j) ∧ (∀ i, i < sb_dg w → gcA f w p a (p - 1 - i) = sb_b (48 + w / 10 ^ i % 10)) ∧ (sb_Fit a → sb_Fit (gcA f w p a)) := by
  intro f
  induction f with
  | zero => intro w p a h; omega
  | succ f ih =>
    intro w p a hwf hw hp
    have hd1 := (sb_dg_in w).1
    unfold gcA
    by_cases h100 : w < 100
    · rw [if_pos h100]
      by_cases h9 : w < 10
      · rw [if_pos h9]
        have hd : sb_dg w = 1 := if_pos h9
        refine ⟨fun j hj => pk_un (by omega), fun i hi => ?_, fun hf => sb_fitU hf (sb_fitB _)⟩
        have e0 : i = 0 := by omega
        rw [e0, Nat.sub_zero, pk_us, Nat.pow_zero, Nat.div_one]
      · rw [if_neg h9]
        have hd : sb_dg w = 2 := by rw [sb_dg, if_neg h9, if_pos h100]
        refine ⟨fun j hj => by rw [pk_un (by omega), pk_un (by omega)], fun i hi => ?_, fun hf => sb_fitU (sb_fitU hf (sb_fitB _)) (sb_fitB _)⟩
        rcases (by omega : i = 0 ∨ i = 1) with e0 | e0
        · rw [e0, Nat.sub_zero, pk_un (by omega), pk_us, Nat.pow_zero, Nat.div_one]
        · rw [e0, pk_us, Nat.pow_one, show w / 10 % 10 = w / 10 by omega]
    · rw [if_neg h100]
      have hd := sb_dg100 (w := w) (by omega) hw
      have hd2 := (sb_dg_in (w / 100)).1
      obtain ⟨h1, h2, h3⟩ := ih (w / 100) (p - 1 - 1) (upd (upd a (p - 1) (sb_b (48 + w % 100 % 10))) (p - 1 - 1) (sb_b (48 + w % 100 / 10))) (by omega) (by omega) (by omega)
      refine ⟨fun j hj => by rw [h1 j (by omega), pk_un (by omega), pk_un (by omega)], fun i hi => ?_, fun hf => h3 (sb_fitU (sb_fitU hf (sb_fitB _)) (sb_fitB _))⟩
      rcases (by omega : i = 0 ∨ i = 1 ∨ 2 ≤ i) with e0 | e0 | e0
      · rw [e0, Nat.sub_zero, h1 _ (by omega), pk_un (by omega), pk_us, Nat.pow_zero, Nat.div_one, show w % 100 % 10 = w % 10 by omega]
      · rw [e0, h1 _ (by omega), pk_us, Nat.pow_one, show w % 100 / 10 = w / 10 % 10 by omega]
      · obtain ⟨q, rfl⟩ : ∃ q, i = q + 2 := ⟨i - 2, by omega⟩
        rw [show p - 1 - (q + 2) = p - 1 - 1 - 1 - q by omega, h2 q (by omega), Nat.div_div_eq_div_mul, show 100 * 10 ^ q = 10 ^ (q + 2) by rw [show q + 2 = q + 1 + 1 from rfl, Nat.pow_succ, Nat.pow_succ]; omega]
theorem sbb8 (c : Nat) : (sb_b c).toInt8.toInt32 = sb_b c := b8 _
theorem tm_stringSize {l : Launch} {E : tEnv} (hE : tOk E) {v : Nat} (hv : v < 1000000) {cs : List tC} : tmRun l E 1 0 yJ6_stringSize_0f7a4 [pI (nI v)] cs (some (pI (nI (sb_dg v)))) cs := by
  refine tmRun_intro hE (own := RJ6) jq_yJ6_stringSize_0f7a4 rfl (by decide +kernel) (by decide) (Nat.le_of_ble_eq_true rfl) ⟨_, rfl, rfl⟩ ?_
  intro G hG
  have h_6 : 100000 ≤ v → G 16 [some (pI (-nI v)), some (pI 0), some (pI (-nI 1000000)), some (pI (nI 6))] [] false cs := fun hlo => by
    refine hG _ _ _ _ _ _ _ dJ6_stringSize_0f7a4_16 ⟨rfl, _, rfl, ?_⟩
    refine hG _ _ _ _ _ _ _ dJ6_stringSize_0f7a4_17 ⟨rfl, ?_⟩
    refine hG _ _ _ _ _ _ _ dJ6_stringSize_0f7a4_19 ⟨rfl, 42, _, _, _, rfl, rfl, fun h => absurd h (show ¬ (Int8.ofInt 10).toInt32 ≤ nI 6 by decide), fun _ => ?_⟩
    refine hG _ _ _ _ _ _ _ dJ6_stringSize_0f7a4_22 ⟨rfl, _, rfl, ?_⟩
    refine hG _ _ _ _ _ _ _ dJ6_stringSize_0f7a4_23 ⟨rfl, _, rfl, ?_⟩
    by_cases hv6 : 1000000 ≤ v
    · exfalso; omega
    · refine hG _ _ _ _ _ _ _ dJ6_stringSize_0f7a4_24 ⟨rfl, 31, _, _, _, rfl, rfl, fun h => absurd h (show ¬ -nI v ≤ -nI 1000000 from fun h => hv6 ((sb_nle (by omega) (by decide)).mp h)), fun _ => ?_⟩
      refine hG _ _ _ _ _ _ _ dJ6_stringSize_0f7a4_27 ⟨rfl, _, rfl, ?_⟩
      refine hG _ _ _ _ _ _ _ dJ6_stringSize_0f7a4_28 ⟨rfl, _, rfl, ?_⟩
      refine hG _ _ _ _ _ _ _ dJ6_stringSize_0f7a4_29 ⟨rfl, _, _, _, rfl, ?_⟩
      rw [show nI 6 + 0 = nI 6 by decide]
      have hd : sb_dg v = 6 := by unfold sb_dg; (repeat' split) <;> omega
      exact hG _ _ _ _ _ _ _ dJ6_stringSize_0f7a4_30 ⟨rfl, _, rfl, fun _ => rfl, ⟨by rw [hd], rfl⟩⟩
  have h_5 : 10000 ≤ v → G 16 [some (pI (-nI v)), some (pI 0), some (pI (-nI 100000)), some (pI (nI 5))] [] false cs := fun hlo => by
    refine hG _ _ _ _ _ _ _ dJ6_stringSize_0f7a4_16 ⟨rfl, _, rfl, ?_⟩
    refine hG _ _ _ _ _ _ _ dJ6_stringSize_0f7a4_17 ⟨rfl, ?_⟩
    refine hG _ _ _ _ _ _ _ dJ6_stringSize_0f7a4_19 ⟨rfl, 42, _, _, _, rfl, rfl, fun h => absurd h (show ¬ (Int8.ofInt 10).toInt32 ≤ nI 5 by decide), fun _ => ?_⟩
    refine hG _ _ _ _ _ _ _ dJ6_stringSize_0f7a4_22 ⟨rfl, _, rfl, ?_⟩
    refine hG _ _ _ _ _ _ _ dJ6_stringSize_0f7a4_23 ⟨rfl, _, rfl, ?_⟩
    by_cases hv5 : 100000 ≤ v
    · refine hG _ _ _ _ _ _ _ dJ6_stringSize_0f7a4_24 ⟨rfl, 31, _, _, _, rfl, rfl, fun _ => ?_, fun h => absurd (show -nI v ≤ -nI 100000 from (sb_nle (by omega) (by decide)).mpr hv5) h⟩
      refine hG _ _ _ _ _ _ _ dJ6_stringSize_0f7a4_31 ⟨rfl, ?_⟩
      refine hG _ _ _ _ _ _ _ dJ6_stringSize_0f7a4_33 ⟨rfl, _, rfl, ?_⟩
      refine hG _ _ _ _ _ _ _ dJ6_stringSize_0f7a4_34 ⟨rfl, _, _, _, rfl, ?_⟩
      rw [show (Int8.ofInt 10).toInt32 * -nI 100000 = -nI 1000000 by decide]
      refine hG _ _ _ _ _ _ _ dJ6_stringSize_0f7a4_35 ⟨rfl, _, _, rfl, Nat.le_of_ble_eq_true rfl, ?_⟩
      refine hG _ _ _ _ _ _ _ dJ6_stringSize_0f7a4_36 ⟨rfl, _, rfl, ?_⟩
      rw [show nI 5 + Int32.ofInt 1 = nI 6 by decide]
      refine hG _ _ _ _ _ _ _ dJ6_stringSize_0f7a4_39 ⟨rfl, 16, rfl, ?_⟩
      exact h_6 hv5
    · refine hG _ _ _ _ _ _ _ dJ6_stringSize_0f7a4_24 ⟨rfl, 31, _, _, _, rfl, rfl, fun h => absurd h (show ¬ -nI v ≤ -nI 100000 from fun h => hv5 ((sb_nle (by omega) (by decide)).mp h)), fun _ => ?_⟩
      refine hG _ _ _ _ _ _ _ dJ6_stringSize_0f7a4_27 ⟨rfl, _, rfl, ?_⟩
      refine hG _ _ _ _ _ _ _ dJ6_stringSize_0f7a4_28 ⟨rfl, _, rfl, ?_⟩
      refine hG _ _ _ _ _ _ _ dJ6_stringSize_0f7a4_29 ⟨rfl, _, _, _, rfl, ?_⟩
      rw [show nI 5 + 0 = nI 5 by decide]
      have hd : sb_dg v = 5 := by unfold sb_dg; (repeat' split) <;> omega
      exact hG _ _ _ _ _ _ _ dJ6_stringSize_0f7a4_30 ⟨rfl, _, rfl, fun _ => rfl, ⟨by rw [hd], rfl⟩⟩
  have h_4 : 1000 ≤ v → G 16 [some (pI (-nI v)), some (pI 0), some (pI (-nI 10000)), some (pI (nI 4))] [] false cs := fun hlo => by
    refine hG _ _ _ _ _ _ _ dJ6_stringSize_0f7a4_16 ⟨rfl, _, rfl, ?_⟩
    refine hG _ _ _ _ _ _ _ dJ6_stringSize_0f7a4_17 ⟨rfl, ?_⟩
    refine hG _ _ _ _ _ _ _ dJ6_stringSize_0f7a4_19 ⟨rfl, 42, _, _, _, rfl, rfl, fun h => absurd h (show ¬ (Int8.ofInt 10).toInt32 ≤ nI 4 by decide), fun _ => ?_⟩
    refine hG _ _ _ _ _ _ _ dJ6_stringSize_0f7a4_22 ⟨rfl, _, rfl, ?_⟩
    refine hG _ _ _ _ _ _ _ dJ6_stringSize_0f7a4_23 ⟨rfl, _, rfl, ?_⟩
    by_cases hv4 : 10000 ≤ v
    · refine hG _ _ _ _ _ _ _ dJ6_stringSize_0f7a4_24 ⟨rfl, 31, _, _, _, rfl, rfl, fun _ => ?_, fun h => absurd (show -nI v ≤ -nI 10000 from (sb_nle (by omega) (by decide)).mpr hv4) h⟩
      refine hG _ _ _ _ _ _ _ dJ6_stringSize_0f7a4_31 ⟨rfl, ?_⟩
      refine hG _ _ _ _ _ _ _ dJ6_stringSize_0f7a4_33 ⟨rfl, _, rfl, ?_⟩
      refine hG _ _ _ _ _ _ _ dJ6_stringSize_0f7a4_34 ⟨rfl, _, _, _, rfl, ?_⟩
      rw [show (Int8.ofInt 10).toInt32 * -nI 10000 = -nI 100000 by decide]
      refine hG _ _ _ _ _ _ _ dJ6_stringSize_0f7a4_35 ⟨rfl, _, _, rfl, Nat.le_of_ble_eq_true rfl, ?_⟩
      refine hG _ _ _ _ _ _ _ dJ6_stringSize_0f7a4_36 ⟨rfl, _, rfl, ?_⟩
      rw [show nI 4 + Int32.ofInt 1 = nI 5 by decide]
      refine hG _ _ _ _ _ _ _ dJ6_stringSize_0f7a4_39 ⟨rfl, 16, rfl, ?_⟩
      exact h_5 hv4
    · refine hG _ _ _ _ _ _ _ dJ6_stringSize_0f7a4_24 ⟨rfl, 31, _, _, _, rfl, rfl, fun h => absurd h (show ¬ -nI v ≤ -nI 10000 from fun h => hv4 ((sb_nle (by omega) (by decide)).mp h)), fun _ => ?_⟩
      refine hG _ _ _ _ _ _ _ dJ6_stringSize_0f7a4_27 ⟨rfl, _, rfl, ?_⟩
      refine hG _ _ _ _ _ _ _ dJ6_stringSize_0f7a4_28 ⟨rfl, _, rfl, ?_⟩
      refine hG _ _ _ _ _ _ _ dJ6_stringSize_0f7a4_29 ⟨rfl, _, _, _, rfl, ?_⟩
      rw [show nI 4 + 0 = nI 4 by decide]
      have hd : sb_dg v = 4 := by unfold sb_dg; (repeat' split) <;> omega
      exact hG _ _ _ _ _ _ _ dJ6_stringSize_0f7a4_30 ⟨rfl, _, rfl, fun _ => rfl, ⟨by rw [hd], rfl⟩⟩
  have h_3 : 100 ≤ v → G 16 [some (pI (-nI v)), some (pI 0), some (pI (-nI 1000)), some (pI (nI 3))] [] false cs := fun hlo => by
    refine hG _ _ _ _ _ _ _ dJ6_stringSize_0f7a4_16 ⟨rfl, _, rfl, ?_⟩
    refine hG _ _ _ _ _ _ _ dJ6_stringSize_0f7a4_17 ⟨rfl, ?_⟩
    refine hG _ _ _ _ _ _ _ dJ6_stringSize_0f7a4_19 ⟨rfl, 42, _, _, _, rfl, rfl, fun h => absurd h (show ¬ (Int8.ofInt 10).toInt32 ≤ nI 3 by decide), fun _ => ?_⟩
    refine hG _ _ _ _ _ _ _ dJ6_stringSize_0f7a4_22 ⟨rfl, _, rfl, ?_⟩
    refine hG _ _ _ _ _ _ _ dJ6_stringSize_0f7a4_23 ⟨rfl, _, rfl, ?_⟩
    by_cases hv3 : 1000 ≤ v
    · refine hG _ _ _ _ _ _ _ dJ6_stringSize_0f7a4_24 ⟨rfl, 31, _, _, _, rfl, rfl, fun _ => ?_, fun h => absurd (show -nI v ≤ -nI 1000 from (sb_nle (by omega) (by decide)).mpr hv3) h⟩
      refine hG _ _ _ _ _ _ _ dJ6_stringSize_0f7a4_31 ⟨rfl, ?_⟩
      refine hG _ _ _ _ _ _ _ dJ6_stringSize_0f7a4_33 ⟨rfl, _, rfl, ?_⟩
      refine hG _ _ _ _ _ _ _ dJ6_stringSize_0f7a4_34 ⟨rfl, _, _, _, rfl, ?_⟩
      rw [show (Int8.ofInt 10).toInt32 * -nI 1000 = -nI 10000 by decide]
      refine hG _ _ _ _ _ _ _ dJ6_stringSize_0f7a4_35 ⟨rfl, _, _, rfl, Nat.le_of_ble_eq_true rfl, ?_⟩
      refine hG _ _ _ _ _ _ _ dJ6_stringSize_0f7a4_36 ⟨rfl, _, rfl, ?_⟩
      rw [show nI 3 + Int32.ofInt 1 = nI 4 by decide]
      refine hG _ _ _ _ _ _ _ dJ6_stringSize_0f7a4_39 ⟨rfl, 16, rfl, ?_⟩
      exact h_4 hv3
    · refine hG _ _ _ _ _ _ _ dJ6_stringSize_0f7a4_24 ⟨rfl, 31, _, _, _, rfl, rfl, fun h => absurd h (show ¬ -nI v ≤ -nI 1000 from fun h => hv3 ((sb_nle (by omega) (by decide)).mp h)), fun _ => ?_⟩
      refine hG _ _ _ _ _ _ _ dJ6_stringSize_0f7a4_27 ⟨rfl, _, rfl, ?_⟩
      refine hG _ _ _ _ _ _ _ dJ6_stringSize_0f7a4_28 ⟨rfl, _, rfl, ?_⟩
      refine hG _ _ _ _ _ _ _ dJ6_stringSize_0f7a4_29 ⟨rfl, _, _, _, rfl, ?_⟩
      rw [show nI 3 + 0 = nI 3 by decide]
      have hd : sb_dg v = 3 := by unfold sb_dg; (repeat' split) <;> omega
      exact hG _ _ _ _ _ _ _ dJ6_stringSize_0f7a4_30 ⟨rfl, _, rfl, fun _ => rfl, ⟨by rw [hd], rfl⟩⟩
  have h_2 : 10 ≤ v → G 16 [some (pI (-nI v)), some (pI 0), some (pI (-nI 100)), some (pI (nI 2))] [] false cs := fun hlo => by
    refine hG _ _ _ _ _ _ _ dJ6_stringSize_0f7a4_16 ⟨rfl, _, rfl, ?_⟩
    refine hG _ _ _ _ _ _ _ dJ6_stringSize_0f7a4_17 ⟨rfl, ?_⟩
    refine hG _ _ _ _ _ _ _ dJ6_stringSize_0f7a4_19 ⟨rfl, 42, _, _, _, rfl, rfl, fun h => absurd h (show ¬ (Int8.ofInt 10).toInt32 ≤ nI 2 by decide), fun _ => ?_⟩
    refine hG _ _ _ _ _ _ _ dJ6_stringSize_0f7a4_22 ⟨rfl, _, rfl, ?_⟩
    refine hG _ _ _ _ _ _ _ dJ6_stringSize_0f7a4_23 ⟨rfl, _, rfl, ?_⟩
    by_cases hv2 : 100 ≤ v
    · refine hG _ _ _ _ _ _ _ dJ6_stringSize_0f7a4_24 ⟨rfl, 31, _, _, _, rfl, rfl, fun _ => ?_, fun h => absurd (show -nI v ≤ -nI 100 from (sb_nle (by omega) (by decide)).mpr hv2) h⟩
      refine hG _ _ _ _ _ _ _ dJ6_stringSize_0f7a4_31 ⟨rfl, ?_⟩
      refine hG _ _ _ _ _ _ _ dJ6_stringSize_0f7a4_33 ⟨rfl, _, rfl, ?_⟩
      refine hG _ _ _ _ _ _ _ dJ6_stringSize_0f7a4_34 ⟨rfl, _, _, _, rfl, ?_⟩
      rw [show (Int8.ofInt 10).toInt32 * -nI 100 = -nI 1000 by decide]
      refine hG _ _ _ _ _ _ _ dJ6_stringSize_0f7a4_35 ⟨rfl, _, _, rfl, Nat.le_of_ble_eq_true rfl, ?_⟩
      refine hG _ _ _ _ _ _ _ dJ6_stringSize_0f7a4_36 ⟨rfl, _, rfl, ?_⟩
      rw [show nI 2 + Int32.ofInt 1 = nI 3 by decide]
      refine hG _ _ _ _ _ _ _ dJ6_stringSize_0f7a4_39 ⟨rfl, 16, rfl, ?_⟩
      exact h_3 hv2
    · refine hG _ _ _ _ _ _ _ dJ6_stringSize_0f7a4_24 ⟨rfl, 31, _, _, _, rfl, rfl, fun h => absurd h (show ¬ -nI v ≤ -nI 100 from fun h => hv2 ((sb_nle (by omega) (by decide)).mp h)), fun _ => ?_⟩
      refine hG _ _ _ _ _ _ _ dJ6_stringSize_0f7a4_27 ⟨rfl, _, rfl, ?_⟩
      refine hG _ _ _ _ _ _ _ dJ6_stringSize_0f7a4_28 ⟨rfl, _, rfl, ?_⟩
      refine hG _ _ _ _ _ _ _ dJ6_stringSize_0f7a4_29 ⟨rfl, _, _, _, rfl, ?_⟩
      rw [show nI 2 + 0 = nI 2 by decide]
      have hd : sb_dg v = 2 := by unfold sb_dg; (repeat' split) <;> omega
      exact hG _ _ _ _ _ _ _ dJ6_stringSize_0f7a4_30 ⟨rfl, _, rfl, fun _ => rfl, ⟨by rw [hd], rfl⟩⟩
  have h_1 : G 16 [some (pI (-nI v)), some (pI 0), some (pI (-nI 10)), some (pI (nI 1))] [] false cs := by
    refine hG _ _ _ _ _ _ _ dJ6_stringSize_0f7a4_16 ⟨rfl, _, rfl, ?_⟩
    refine hG _ _ _ _ _ _ _ dJ6_stringSize_0f7a4_17 ⟨rfl, ?_⟩
    refine hG _ _ _ _ _ _ _ dJ6_stringSize_0f7a4_19 ⟨rfl, 42, _, _, _, rfl, rfl, fun h => absurd h (show ¬ (Int8.ofInt 10).toInt32 ≤ nI 1 by decide), fun _ => ?_⟩
    refine hG _ _ _ _ _ _ _ dJ6_stringSize_0f7a4_22 ⟨rfl, _, rfl, ?_⟩
    refine hG _ _ _ _ _ _ _ dJ6_stringSize_0f7a4_23 ⟨rfl, _, rfl, ?_⟩
    by_cases hv1 : 10 ≤ v
    · refine hG _ _ _ _ _ _ _ dJ6_stringSize_0f7a4_24 ⟨rfl, 31, _, _, _, rfl, rfl, fun _ => ?_, fun h => absurd (show -nI v ≤ -nI 10 from (sb_nle (by omega) (by decide)).mpr hv1) h⟩
      refine hG _ _ _ _ _ _ _ dJ6_stringSize_0f7a4_31 ⟨rfl, ?_⟩
      refine hG _ _ _ _ _ _ _ dJ6_stringSize_0f7a4_33 ⟨rfl, _, rfl, ?_⟩
      refine hG _ _ _ _ _ _ _ dJ6_stringSize_0f7a4_34 ⟨rfl, _, _, _, rfl, ?_⟩
      rw [show (Int8.ofInt 10).toInt32 * -nI 10 = -nI 100 by decide]
      refine hG _ _ _ _ _ _ _ dJ6_stringSize_0f7a4_35 ⟨rfl, _, _, rfl, Nat.le_of_ble_eq_true rfl, ?_⟩
      refine hG _ _ _ _ _ _ _ dJ6_stringSize_0f7a4_36 ⟨rfl, _, rfl, ?_⟩
      rw [show nI 1 + Int32.ofInt 1 = nI 2 by decide]
      refine hG _ _ _ _ _ _ _ dJ6_stringSize_0f7a4_39 ⟨rfl, 16, rfl, ?_⟩
      exact h_2 hv1
    · refine hG _ _ _ _ _ _ _ dJ6_stringSize_0f7a4_24 ⟨rfl, 31, _, _, _, rfl, rfl, fun h => absurd h (show ¬ -nI v ≤ -nI 10 from fun h => hv1 ((sb_nle (by omega) (by decide)).mp h)), fun _ => ?_⟩
      refine hG _ _ _ _ _ _ _ dJ6_stringSize_0f7a4_27 ⟨rfl, _, rfl, ?_⟩
      refine hG _ _ _ _ _ _ _ dJ6_stringSize_0f7a4_28 ⟨rfl, _, rfl, ?_⟩
      refine hG _ _ _ _ _ _ _ dJ6_stringSize_0f7a4_29 ⟨rfl, _, _, _, rfl, ?_⟩
      rw [show nI 1 + 0 = nI 1 by decide]
      have hd : sb_dg v = 1 := by unfold sb_dg; (repeat' split) <;> omega
      exact hG _ _ _ _ _ _ _ dJ6_stringSize_0f7a4_30 ⟨rfl, _, rfl, fun _ => rfl, ⟨by rw [hd], rfl⟩⟩
  refine hG _ _ _ _ _ _ _ dJ6_stringSize_0f7a4_0 ⟨rfl, ?_⟩
  refine hG _ _ _ _ _ _ _ dJ6_stringSize_0f7a4_1 ⟨rfl, _, _, rfl, Nat.le_of_ble_eq_true rfl, ?_⟩
  refine hG _ _ _ _ _ _ _ dJ6_stringSize_0f7a4_2 ⟨rfl, _, rfl, ?_⟩
  refine hG _ _ _ _ _ _ _ dJ6_stringSize_0f7a4_3 ⟨rfl, 11, _, _, rfl, rfl, fun h => absurd h (show ¬ nI v < 0 from nI_pos (by omega)), fun _ => ?_⟩
  refine hG _ _ _ _ _ _ _ dJ6_stringSize_0f7a4_6 ⟨rfl, ?_⟩
  refine hG _ _ _ _ _ _ _ dJ6_stringSize_0f7a4_7 ⟨rfl, _, _, rfl, Nat.le_of_ble_eq_true rfl, ?_⟩
  refine hG _ _ _ _ _ _ _ dJ6_stringSize_0f7a4_8 ⟨rfl, _, rfl, ?_⟩
  refine hG _ _ _ _ _ _ _ dJ6_stringSize_0f7a4_9 ⟨rfl, _, _, rfl, ?_⟩
  refine hG _ _ _ _ _ _ _ dJ6_stringSize_0f7a4_10 ⟨rfl, _, _, rfl, Nat.le_of_ble_eq_true rfl, ?_⟩
  refine hG _ _ _ _ _ _ _ dJ6_stringSize_0f7a4_11 ⟨rfl, ?_⟩
  rw [show (Int8.ofInt (-10)).toInt32 = -nI 10 by decide]
  refine hG _ _ _ _ _ _ _ dJ6_stringSize_0f7a4_13 ⟨rfl, _, _, rfl, Nat.le_of_ble_eq_true rfl, ?_⟩
  refine hG _ _ _ _ _ _ _ dJ6_stringSize_0f7a4_14 ⟨rfl, ?_⟩
  refine hG _ _ _ _ _ _ _ dJ6_stringSize_0f7a4_15 ⟨rfl, _, _, rfl, Nat.le_of_ble_eq_true rfl, ?_⟩
  exact h_1

theorem tm_getChars {l : Launch} {E : tEnv} (hE : tOk E) {cs : List tC} {v n w M : Nat} {A AF : Nat → Int32} (ht : cs[v]? = some (.inl (M, A))) (hvl : v < cs.length) (hw : w < 1000000) (hp : n + sb_dg w ≤ M) (hM : M ≤ 65536) (hAF : AF = gcA (w + 1) w (n + sb_dg w) A) : tmRun l E 1 1 yJ6_getChars_ba4f3 [pI (nI w), pI (nI (n + sb_dg w)), pR v] cs (some (pI (nI n))) (cs.set v (.inl (M, AF))) := by
  refine tmRun_intro hE (own := RJ6) jq_yJ6_getChars_ba4f3 rfl (by decide +kernel) (by decide) (Nat.le_of_ble_eq_true rfl) ⟨_, rfl, rfl⟩ ?_
  intro G hG
  have hget : ∀ A : Nat → Int32, (cs.set v (.inl (M, A)))[v]? = some (.inl (M, A)) := fun A => List.getElem?_set_self hvl
  have hloop : ∀ (f w p : Nat) (A : Nat → Int32) (b : Bool) (x1 : Int32) (L3 L4 : Option pV), w < f → w < 1000000 → p = n + sb_dg w → p ≤ M → (L4 = none ∨ ∃ x, L4 = some (pI x)) → gcA f w p A = AF → G 22 [some (pI (-nI w)), some (pI x1), some (pR v), L3, L4, some (pI (nI p)), some (pI 0)] [] b (cs.set v (.inl (M, A))) := by
    intro f
    induction f with
    | zero => intro w p A b x1 L3 L4 h; omega
    | succ f ih =>
      intro w p A b x1 L3 L4 hwf hw hp hpM hL4 hAF
      have hd1 := (sb_dg_in w).1
      unfold gcA at hAF
      by_cases h100 : w < 100
      · rw [if_pos h100] at hAF
        refine hG _ _ _ _ _ _ _ dJ6_getChars_ba4f3_22 ⟨rfl, _, rfl, ?_⟩
        refine hG _ _ _ _ _ _ _ dJ6_getChars_ba4f3_23 ⟨rfl, ?_⟩
        refine hG _ _ _ _ _ _ _ dJ6_getChars_ba4f3_25 ⟨rfl, 72, _, _, _, rfl, rfl, fun _ => ?_, fun h => absurd (show (Int8.ofInt (-100)).toInt32 < -nI w from by rw [show (Int8.ofInt (-100)).toInt32 = -nI 100 by decide]; exact (sb_nlt (by decide) (by omega)).mpr h100) h⟩
        refine hG _ _ _ _ _ _ _ dJ6_getChars_ba4f3_72 ⟨rfl, _, rfl, ?_⟩
        have hrest : G 73 [some (pI (-nI w)), some (pI x1), some (pR v), L3, L4, some (pI (nI p)), some (pI 0)] [pR v] b (cs.set v (.inl (M, A))) := by
          have hgo : ∀ L5 : Option pV, (L5 = none ∨ ∃ x, L5 = some (pI x)) → G 73 [some (pI (-nI w)), some (pI x1), some (pR v), L3, L5, some (pI (nI p)), some (pI 0)] [pR v] b (cs.set v (.inl (M, A))) := by
            rintro _ (rfl | ⟨x, rfl⟩)
            · refine hG _ _ _ _ _ _ _ dJ6_getChars_ba4f3_73 ⟨rfl, _, rfl, ?_⟩
              rw [show nI p + Int32.ofInt (-1) = nI (p - 1) from sb_m1 (by omega)]
              refine hG _ _ _ _ _ _ _ dJ6_getChars_ba4f3_76 ⟨rfl, _, rfl, ?_⟩
              refine hG _ _ _ _ _ _ _ dJ6_getChars_ba4f3_78 ⟨rfl, Or.inr (Or.inl ⟨jf_J6_83, ?_⟩)⟩
              refine hG _ _ _ _ _ _ _ dJ6_getChars_ba4f3_81 ⟨rfl, _, rfl, ?_⟩
              refine hG _ _ _ _ _ _ _ dJ6_getChars_ba4f3_82 ⟨rfl, _, _, rfl, ?_⟩
              rw [Int32.neg_neg]
              refine hG _ _ _ _ _ _ _ dJ6_getChars_ba4f3_83 ⟨rfl, Or.inr (Or.inl ⟨_, _, rfl, nI_in (by omega) (by decide), ?_⟩)⟩
              refine hG _ _ _ _ _ _ _ dJ6_getChars_ba4f3_84 ⟨rfl, _, _, _, _, _, _, rfl, hget _, nI_in (by omega) (by omega), ?_⟩
              rw [List.set_set, nI_clamp (by omega), nI_clamp (by omega), sbb8]
              refine hG _ _ _ _ _ _ _ dJ6_getChars_ba4f3_85 ⟨rfl, _, rfl, ?_⟩
              refine hG _ _ _ _ _ _ _ dJ6_getChars_ba4f3_86 ⟨rfl, ?_⟩
              by_cases h9 : w < 10
              · rw [if_pos h9] at hAF
                have hd : sb_dg w = 1 := if_pos h9
                refine hG _ _ _ _ _ _ _ dJ6_getChars_ba4f3_88 ⟨rfl, 104, _, _, _, rfl, rfl, fun _ => ?_, fun h => absurd (show (Int8.ofInt (-9)).toInt32 ≤ -nI w from by rw [show (Int8.ofInt (-9)).toInt32 = -nI 9 by decide]; exact (sb_nle (by decide) (by omega)).mpr (by omega)) h⟩
                refine hG _ _ _ _ _ _ _ dJ6_getChars_ba4f3_104 ⟨rfl, _, rfl, ?_⟩
                refine hG _ _ _ _ _ _ _ dJ6_getChars_ba4f3_106 ⟨rfl, 118, _, _, rfl, rfl, fun _ => ?_, fun h => absurd (rfl) h⟩
                refine hG _ _ _ _ _ _ _ dJ6_getChars_ba4f3_118 ⟨rfl, _, rfl, ?_⟩
                exact hG _ _ _ _ _ _ _ dJ6_getChars_ba4f3_120 ⟨rfl, _, rfl, (fun h => by cases h), ⟨by rw [show p - 1 = n by omega], by rw [hAF]⟩⟩
              · rw [if_neg h9] at hAF
                have hd : sb_dg w = 2 := by rw [sb_dg, if_neg h9, if_pos h100]
                refine hG _ _ _ _ _ _ _ dJ6_getChars_ba4f3_88 ⟨rfl, 104, _, _, _, rfl, rfl, fun h => absurd h (show ¬ (Int8.ofInt (-9)).toInt32 ≤ -nI w from fun h => by rw [show (Int8.ofInt (-9)).toInt32 = -nI 9 by decide] at h; have := (sb_nle (by decide) (by omega)).mp h; omega), fun _ => ?_⟩
                refine hG _ _ _ _ _ _ _ dJ6_getChars_ba4f3_91 ⟨rfl, _, rfl, ?_⟩
                refine hG _ _ _ _ _ _ _ dJ6_getChars_ba4f3_92 ⟨rfl, _, rfl, ?_⟩
                rw [show nI (p - 1) + Int32.ofInt (-1) = nI (p - 1 - 1) from sb_m1 (by omega)]
                refine hG _ _ _ _ _ _ _ dJ6_getChars_ba4f3_95 ⟨rfl, _, rfl, ?_⟩
                refine hG _ _ _ _ _ _ _ dJ6_getChars_ba4f3_97 ⟨rfl, Or.inr (Or.inr (Or.inl ⟨jf_J6_87, ?_⟩))⟩
                refine hG _ _ _ _ _ _ _ dJ6_getChars_ba4f3_100 ⟨rfl, _, rfl, ?_⟩
                refine hG _ _ _ _ _ _ _ dJ6_getChars_ba4f3_101 ⟨rfl, _, _, rfl, ?_⟩
                rw [Int32.neg_neg]
                refine hG _ _ _ _ _ _ _ dJ6_getChars_ba4f3_102 ⟨rfl, Or.inr (Or.inr (Or.inl ⟨_, _, rfl, nI_in (by omega) (by decide), ?_⟩))⟩
                refine hG _ _ _ _ _ _ _ dJ6_getChars_ba4f3_103 ⟨rfl, _, _, _, _, _, _, rfl, hget _, nI_in (by omega) (by omega), ?_⟩
                rw [List.set_set, nI_clamp (by omega), nI_clamp (by omega), sbb8]
                refine hG _ _ _ _ _ _ _ dJ6_getChars_ba4f3_104 ⟨rfl, _, rfl, ?_⟩
                refine hG _ _ _ _ _ _ _ dJ6_getChars_ba4f3_106 ⟨rfl, 118, _, _, rfl, rfl, fun _ => ?_, fun h => absurd (rfl) h⟩
                refine hG _ _ _ _ _ _ _ dJ6_getChars_ba4f3_118 ⟨rfl, _, rfl, ?_⟩
                exact hG _ _ _ _ _ _ _ dJ6_getChars_ba4f3_120 ⟨rfl, _, rfl, (fun h => by cases h), ⟨by rw [show p - 1 - 1 = n by omega], by rw [hAF]⟩⟩
            · refine hG _ _ _ _ _ _ _ dJ6_getChars_ba4f3_73 ⟨rfl, _, rfl, ?_⟩
              rw [show nI p + Int32.ofInt (-1) = nI (p - 1) from sb_m1 (by omega)]
              refine hG _ _ _ _ _ _ _ dJ6_getChars_ba4f3_76 ⟨rfl, _, rfl, ?_⟩
              refine hG _ _ _ _ _ _ _ dJ6_getChars_ba4f3_78 ⟨rfl, Or.inr (Or.inl ⟨jf_J6_83, ?_⟩)⟩
              refine hG _ _ _ _ _ _ _ dJ6_getChars_ba4f3_81 ⟨rfl, _, rfl, ?_⟩
              refine hG _ _ _ _ _ _ _ dJ6_getChars_ba4f3_82 ⟨rfl, _, _, rfl, ?_⟩
              rw [Int32.neg_neg]
              refine hG _ _ _ _ _ _ _ dJ6_getChars_ba4f3_83 ⟨rfl, Or.inr (Or.inl ⟨_, _, rfl, nI_in (by omega) (by decide), ?_⟩)⟩
              refine hG _ _ _ _ _ _ _ dJ6_getChars_ba4f3_84 ⟨rfl, _, _, _, _, _, _, rfl, hget _, nI_in (by omega) (by omega), ?_⟩
              rw [List.set_set, nI_clamp (by omega), nI_clamp (by omega), sbb8]
              refine hG _ _ _ _ _ _ _ dJ6_getChars_ba4f3_85 ⟨rfl, _, rfl, ?_⟩
              refine hG _ _ _ _ _ _ _ dJ6_getChars_ba4f3_86 ⟨rfl, ?_⟩
              by_cases h9 : w < 10
              · rw [if_pos h9] at hAF
                have hd : sb_dg w = 1 := if_pos h9
                refine hG _ _ _ _ _ _ _ dJ6_getChars_ba4f3_88 ⟨rfl, 104, _, _, _, rfl, rfl, fun _ => ?_, fun h => absurd (show (Int8.ofInt (-9)).toInt32 ≤ -nI w from by rw [show (Int8.ofInt (-9)).toInt32 = -nI 9 by decide]; exact (sb_nle (by decide) (by omega)).mpr (by omega)) h⟩
                refine hG _ _ _ _ _ _ _ dJ6_getChars_ba4f3_104 ⟨rfl, _, rfl, ?_⟩
                refine hG _ _ _ _ _ _ _ dJ6_getChars_ba4f3_106 ⟨rfl, 118, _, _, rfl, rfl, fun _ => ?_, fun h => absurd (rfl) h⟩
                refine hG _ _ _ _ _ _ _ dJ6_getChars_ba4f3_118 ⟨rfl, _, rfl, ?_⟩
                exact hG _ _ _ _ _ _ _ dJ6_getChars_ba4f3_120 ⟨rfl, _, rfl, (fun h => by cases h), ⟨by rw [show p - 1 = n by omega], by rw [hAF]⟩⟩
              · rw [if_neg h9] at hAF
                have hd : sb_dg w = 2 := by rw [sb_dg, if_neg h9, if_pos h100]
                refine hG _ _ _ _ _ _ _ dJ6_getChars_ba4f3_88 ⟨rfl, 104, _, _, _, rfl, rfl, fun h => absurd h (show ¬ (Int8.ofInt (-9)).toInt32 ≤ -nI w from fun h => by rw [show (Int8.ofInt (-9)).toInt32 = -nI 9 by decide] at h; have := (sb_nle (by decide) (by omega)).mp h; omega), fun _ => ?_⟩
                refine hG _ _ _ _ _ _ _ dJ6_getChars_ba4f3_91 ⟨rfl, _, rfl, ?_⟩
                refine hG _ _ _ _ _ _ _ dJ6_getChars_ba4f3_92 ⟨rfl, _, rfl, ?_⟩
                rw [show nI (p - 1) + Int32.ofInt (-1) = nI (p - 1 - 1) from sb_m1 (by omega)]
                refine hG _ _ _ _ _ _ _ dJ6_getChars_ba4f3_95 ⟨rfl, _, rfl, ?_⟩
                refine hG _ _ _ _ _ _ _ dJ6_getChars_ba4f3_97 ⟨rfl, Or.inr (Or.inr (Or.inl ⟨jf_J6_87, ?_⟩))⟩
                refine hG _ _ _ _ _ _ _ dJ6_getChars_ba4f3_100 ⟨rfl, _, rfl, ?_⟩
                refine hG _ _ _ _ _ _ _ dJ6_getChars_ba4f3_101 ⟨rfl, _, _, rfl, ?_⟩
                rw [Int32.neg_neg]
                refine hG _ _ _ _ _ _ _ dJ6_getChars_ba4f3_102 ⟨rfl, Or.inr (Or.inr (Or.inl ⟨_, _, rfl, nI_in (by omega) (by decide), ?_⟩))⟩
                refine hG _ _ _ _ _ _ _ dJ6_getChars_ba4f3_103 ⟨rfl, _, _, _, _, _, _, rfl, hget _, nI_in (by omega) (by omega), ?_⟩
                rw [List.set_set, nI_clamp (by omega), nI_clamp (by omega), sbb8]
                refine hG _ _ _ _ _ _ _ dJ6_getChars_ba4f3_104 ⟨rfl, _, rfl, ?_⟩
                refine hG _ _ _ _ _ _ _ dJ6_getChars_ba4f3_106 ⟨rfl, 118, _, _, rfl, rfl, fun _ => ?_, fun h => absurd (rfl) h⟩
                refine hG _ _ _ _ _ _ _ dJ6_getChars_ba4f3_118 ⟨rfl, _, rfl, ?_⟩
                exact hG _ _ _ _ _ _ _ dJ6_getChars_ba4f3_120 ⟨rfl, _, rfl, (fun h => by cases h), ⟨by rw [show p - 1 - 1 = n by omega], by rw [hAF]⟩⟩
          exact hgo L4 hL4
        exact hrest
      · rw [if_neg h100] at hAF
        have hd := sb_dg100 (w := w) (by omega) (by omega)
        have hd2 := (sb_dg_in (w / 100)).1
        refine hG _ _ _ _ _ _ _ dJ6_getChars_ba4f3_22 ⟨rfl, _, rfl, ?_⟩
        refine hG _ _ _ _ _ _ _ dJ6_getChars_ba4f3_23 ⟨rfl, ?_⟩
        refine hG _ _ _ _ _ _ _ dJ6_getChars_ba4f3_25 ⟨rfl, 72, _, _, _, rfl, rfl, fun h => absurd h (show ¬ (Int8.ofInt (-100)).toInt32 < -nI w from fun h => by rw [show (Int8.ofInt (-100)).toInt32 = -nI 100 by decide] at h; exact h100 ((sb_nlt (by decide) (by omega)).mp h)), fun _ => ?_⟩
        refine hG _ _ _ _ _ _ _ dJ6_getChars_ba4f3_28 ⟨rfl, _, rfl, ?_⟩
        refine hG _ _ _ _ _ _ _ dJ6_getChars_ba4f3_29 ⟨rfl, ?_⟩
        refine hG _ _ _ _ _ _ _ dJ6_getChars_ba4f3_31 ⟨rfl, _, _, _, rfl, by decide, ?_⟩
        rw [show (Int8.ofInt 100).toInt32 = 100 by decide, sb_ndiv (by omega)]
        refine hG _ _ _ _ _ _ _ dJ6_getChars_ba4f3_32 ⟨rfl, _, _, rfl, Nat.le_of_ble_eq_true rfl, ?_⟩
        refine hG _ _ _ _ _ _ _ dJ6_getChars_ba4f3_33 ⟨rfl, _, rfl, ?_⟩
        refine hG _ _ _ _ _ _ _ dJ6_getChars_ba4f3_34 ⟨rfl, ?_⟩
        refine hG _ _ _ _ _ _ _ dJ6_getChars_ba4f3_36 ⟨rfl, _, _, _, rfl, ?_⟩
        refine hG _ _ _ _ _ _ _ dJ6_getChars_ba4f3_37 ⟨rfl, _, rfl, ?_⟩
        refine hG _ _ _ _ _ _ _ dJ6_getChars_ba4f3_38 ⟨rfl, _, _, _, rfl, ?_⟩
        rw [show (Int8.ofInt 100).toInt32 = 100 by decide, sb_nrem (by omega)]
        refine hG _ _ _ _ _ _ _ dJ6_getChars_ba4f3_39 ⟨rfl, _, _, rfl, Nat.le_of_ble_eq_true rfl, ?_⟩
        refine hG _ _ _ _ _ _ _ dJ6_getChars_ba4f3_41 ⟨rfl, _, rfl, ?_⟩
        refine hG _ _ _ _ _ _ _ dJ6_getChars_ba4f3_42 ⟨rfl, _, _, rfl, Nat.le_of_ble_eq_true rfl, ?_⟩
        refine hG _ _ _ _ _ _ _ dJ6_getChars_ba4f3_43 ⟨rfl, _, rfl, ?_⟩
        refine hG _ _ _ _ _ _ _ dJ6_getChars_ba4f3_44 ⟨rfl, _, rfl, ?_⟩
        rw [show nI p + Int32.ofInt (-1) = nI (p - 1) from sb_m1 (by omega)]
        refine hG _ _ _ _ _ _ _ dJ6_getChars_ba4f3_47 ⟨rfl, _, rfl, ?_⟩
        refine hG _ _ _ _ _ _ _ dJ6_getChars_ba4f3_49 ⟨rfl, Or.inr (Or.inl ⟨jf_J6_83, ?_⟩)⟩
        refine hG _ _ _ _ _ _ _ dJ6_getChars_ba4f3_52 ⟨rfl, _, rfl, ?_⟩
        refine hG _ _ _ _ _ _ _ dJ6_getChars_ba4f3_54 ⟨rfl, Or.inr (Or.inl ⟨_, _, rfl, nI_in (by omega) (by decide), ?_⟩)⟩
        refine hG _ _ _ _ _ _ _ dJ6_getChars_ba4f3_55 ⟨rfl, _, _, _, _, _, _, rfl, hget _, nI_in (by omega) (by omega), ?_⟩
        rw [List.set_set, nI_clamp (by omega), nI_clamp (by omega), sbb8]
        refine hG _ _ _ _ _ _ _ dJ6_getChars_ba4f3_56 ⟨rfl, _, rfl, ?_⟩
        refine hG _ _ _ _ _ _ _ dJ6_getChars_ba4f3_57 ⟨rfl, _, rfl, ?_⟩
        rw [show nI (p - 1) + Int32.ofInt (-1) = nI (p - 1 - 1) from sb_m1 (by omega)]
        refine hG _ _ _ _ _ _ _ dJ6_getChars_ba4f3_60 ⟨rfl, _, rfl, ?_⟩
        refine hG _ _ _ _ _ _ _ dJ6_getChars_ba4f3_62 ⟨rfl, Or.inr (Or.inr (Or.inl ⟨jf_J6_87, ?_⟩))⟩
        refine hG _ _ _ _ _ _ _ dJ6_getChars_ba4f3_65 ⟨rfl, _, rfl, ?_⟩
        refine hG _ _ _ _ _ _ _ dJ6_getChars_ba4f3_67 ⟨rfl, Or.inr (Or.inr (Or.inl ⟨_, _, rfl, nI_in (by omega) (by decide), ?_⟩))⟩
        refine hG _ _ _ _ _ _ _ dJ6_getChars_ba4f3_68 ⟨rfl, _, _, _, _, _, _, rfl, hget _, nI_in (by omega) (by omega), ?_⟩
        refine hG _ _ _ _ _ _ _ dJ6_getChars_ba4f3_69 ⟨rfl, 22, rfl, ?_⟩
        rw [List.set_set, nI_clamp (by omega), nI_clamp (by omega), sbb8]
        exact ih (w / 100) (p - 1 - 1) _ true x1 (some (pI (-nI (w / 100)))) (some (pI (nI (w % 100)))) (by omega) (by omega) (by omega) (by omega) (Or.inr ⟨_, rfl⟩) hAF
  have hcs : cs.set v (.inl (M, A)) = cs := List.ext_getElem? fun i => by
    rw [List.getElem?_set]
    by_cases hi : v = i
    · subst hi
      rw [if_pos rfl, if_pos hvl, ht]
    · rw [if_neg hi]
  refine hG _ _ _ _ _ _ _ dJ6_getChars_ba4f3_0 ⟨rfl, _, rfl, ?_⟩
  refine hG _ _ _ _ _ _ _ dJ6_getChars_ba4f3_1 ⟨rfl, _, _, rfl, Nat.le_of_ble_eq_true rfl, ?_⟩
  refine hG _ _ _ _ _ _ _ dJ6_getChars_ba4f3_3 ⟨rfl, _, rfl, ?_⟩
  refine hG _ _ _ _ _ _ _ dJ6_getChars_ba4f3_4 ⟨rfl, 11, _, _, rfl, rfl, fun _ => ?_, fun h => absurd (show (0 : Int32) ≤ nI w from by rw [← nI_0]; exact nI_le (Nat.zero_le _) (by omega)) h⟩
  refine hG _ _ _ _ _ _ _ dJ6_getChars_ba4f3_11 ⟨rfl, ?_⟩
  refine hG _ _ _ _ _ _ _ dJ6_getChars_ba4f3_12 ⟨rfl, _, _, rfl, Nat.le_of_ble_eq_true rfl, ?_⟩
  refine hG _ _ _ _ _ _ _ dJ6_getChars_ba4f3_14 ⟨rfl, _, rfl, ?_⟩
  refine hG _ _ _ _ _ _ _ dJ6_getChars_ba4f3_16 ⟨rfl, 22, _, _, rfl, rfl, fun h => absurd h (fun h => h rfl), fun _ => ?_⟩
  refine hG _ _ _ _ _ _ _ dJ6_getChars_ba4f3_19 ⟨rfl, _, rfl, ?_⟩
  refine hG _ _ _ _ _ _ _ dJ6_getChars_ba4f3_20 ⟨rfl, _, _, rfl, ?_⟩
  refine hG _ _ _ _ _ _ _ dJ6_getChars_ba4f3_21 ⟨rfl, _, _, rfl, Nat.le_of_ble_eq_true rfl, ?_⟩
  have hfin := hloop (w + 1) w (n + sb_dg w) A false (nI (n + sb_dg w)) none none (by omega) hw rfl hp (Or.inl rfl) hAF.symm
  rw [hcs] at hfin
  exact hfin
theorem tm_appendI5 {l : Launch} {E : tEnv} (hE : tOk E) {c : pV} {t : Nat → Nat} {n m w : Nat} {a : Nat → Int32} (hm : m ≤ 65536) (hn : n + sb_dg w ≤ m) (hL : sb_Lat t n a) (hf : sb_Fit a) (hw : w < 1000000) : tGood l E 5 yJ5_append_c97b9 [pR 0, pI (nI w)] c m (tB 0 c (pI (nI n)) [.inl (m, a)]) (sb_cat t n (sb_dec w)) (n + sb_dg w) := by
  obtain ⟨g1, g2, g3⟩ := gcA_is (n := n) (w + 1) w (n + sb_dg w) a (by omega) (by omega) rfl
  refine ⟨gcA (w + 1) w (n + sb_dg w) a, ?_, sb_latPut hL (fun j hj => g1 j (Or.inl hj)) (fun i hi => ?_), g3 hf⟩
  · refine tmRun_intro hE (own := RJ5) jq_yJ5_append_c97b9 rfl (by decide +kernel) (by decide) (Nat.le_of_ble_eq_true rfl) ⟨_, rfl, Or.inl ⟨_, rfl⟩⟩ ?_
    intro G hG
    refine hG _ _ _ _ _ _ _ dJ5_append_c97b9_0 ⟨rfl, _, rfl, ?_⟩
    refine hG _ _ _ _ _ _ _ dJ5_append_c97b9_1 ⟨rfl, Or.inl ⟨3, 0, _, _, _, rfl, jf_J5_79, rfl, rfl, ?_⟩⟩
    refine hG _ _ _ _ _ _ _ dJ5_append_c97b9_4 ⟨rfl, _, _, rfl, Nat.le_of_ble_eq_true rfl, ?_⟩
    refine hG _ _ _ _ _ _ _ dJ5_append_c97b9_5 ⟨rfl, _, rfl, ?_⟩
    refine hG _ _ _ _ _ _ _ dJ5_append_c97b9_6 ⟨rfl, _, rfl, ?_⟩
    refine hG _ _ _ _ _ _ _ dJ5_append_c97b9_7 ⟨rfl, Or.inl ⟨0, _, _, [pI (nI w)], _, _, _, jc_J5_245, rfl, rfl, Nat.le_of_ble_eq_true rfl, (tm_stringSize hE hw).mono (by decide), (fun h => by cases h), ?_⟩⟩
    refine hG _ _ _ _ _ _ _ dJ5_append_c97b9_10 ⟨rfl, _, _, _, rfl, ?_⟩
    rw [nI_add]
    refine hG _ _ _ _ _ _ _ dJ5_append_c97b9_11 ⟨rfl, _, _, rfl, Nat.le_of_ble_eq_true rfl, ?_⟩
    refine hG _ _ _ _ _ _ _ dJ5_append_c97b9_12 ⟨rfl, _, rfl, ?_⟩
    refine hG _ _ _ _ _ _ _ dJ5_append_c97b9_13 ⟨rfl, _, rfl, ?_⟩
    refine hG _ _ _ _ _ _ _ dJ5_append_c97b9_14 ⟨rfl, 1, _, _, _, _, [pI (nI (n + sb_dg w))], _, _, _, jc_J5_100, rfl, rfl, Nat.le_of_ble_eq_true rfl, Or.inl ⟨rfl, _, rfl⟩, tm_ensureNo hE hm hn, (fun h => by cases h), ?_⟩
    refine hG _ _ _ _ _ _ _ dJ5_append_c97b9_17 ⟨rfl, _, rfl, ?_⟩
    refine hG _ _ _ _ _ _ _ dJ5_append_c97b9_18 ⟨rfl, 0, _, _, _, _, [], _, _, _, jc_J5_83, rfl, rfl, Nat.le_of_ble_eq_true rfl, Or.inl ⟨rfl, _, rfl⟩, (tm_isLatin1 hE).mono (by decide), (fun h => by cases h), ?_⟩
    refine hG _ _ _ _ _ _ _ dJ5_append_c97b9_21 ⟨rfl, 37, _, _, rfl, rfl, fun h => absurd h (show ¬ ((1 : Int32) = 0) by decide), fun _ => ?_⟩
    refine hG _ _ _ _ _ _ _ dJ5_append_c97b9_24 ⟨rfl, _, rfl, ?_⟩
    refine hG _ _ _ _ _ _ _ dJ5_append_c97b9_25 ⟨rfl, _, rfl, ?_⟩
    refine hG _ _ _ _ _ _ _ dJ5_append_c97b9_26 ⟨rfl, _, rfl, ?_⟩
    refine hG _ _ _ _ _ _ _ dJ5_append_c97b9_27 ⟨rfl, Or.inl ⟨0, 0, _, _, _, rfl, jf_J5_15, rfl, rfl, ?_⟩⟩
    refine hG _ _ _ _ _ _ _ dJ5_append_c97b9_30 ⟨rfl, Or.inl ⟨1, _, _, [pI (nI w), pI (nI (n + sb_dg w)), pR 1], _, _, _, jc_J5_248, rfl, rfl, Nat.le_of_ble_eq_true rfl, (tm_getChars hE (cs := tB 0 c (pI (nI n)) [.inl (m, a)]) (v := 1) (n := n) rfl (Nat.lt_succ_self 1) hw hn hm rfl).mono (by decide), (fun h => by cases h), ?_⟩⟩
    refine hG _ _ _ _ _ _ _ dJ5_append_c97b9_33 ⟨rfl, _, _, rfl, rfl, ?_⟩
    refine hG _ _ _ _ _ _ _ dJ5_append_c97b9_34 ⟨rfl, 48, rfl, ?_⟩
    refine hG _ _ _ _ _ _ _ dJ5_append_c97b9_48 ⟨rfl, _, rfl, ?_⟩
    refine hG _ _ _ _ _ _ _ dJ5_append_c97b9_49 ⟨rfl, _, rfl, ?_⟩
    refine hG _ _ _ _ _ _ _ dJ5_append_c97b9_50 ⟨rfl, 3, 0, _, _, _, _, _, _, _, rfl, ck13, by decide, jp_J5_79, rfl, Nat.le_of_ble_eq_true rfl, rfl, rfl, ?_⟩
    refine hG _ _ _ _ _ _ _ dJ5_append_c97b9_53 ⟨rfl, _, rfl, ?_⟩
    exact hG _ _ _ _ _ _ _ dJ5_append_c97b9_54 ⟨rfl, _, rfl, (fun h => by cases h), ⟨rfl, rfl⟩⟩
  · have h9 := g2 (sb_dg w - 1 - i) (by omega)
    rw [show n + sb_dg w - 1 - (sb_dg w - 1 - i) = n + i by omega] at h9
    exact ⟨by unfold sb_dec; omega, h9⟩
theorem tm_appendI {l : Launch} {E : tEnv} (hE : tOk E) {c : pV} {t : Nat → Nat} {n m w : Nat} {a : Nat → Int32} (hm : m ≤ 65536) (hn : n + sb_dg w ≤ m) (hL : sb_Lat t n a) (hf : sb_Fit a) (hw : w < 1000000) : tGood l E 6 yJ4_append_bf812 [pR 0, pI (nI w)] c m (tB 0 c (pI (nI n)) [.inl (m, a)]) (sb_cat t n (sb_dec w)) (n + sb_dg w) := by
  obtain ⟨A, h1, h2⟩ := tm_appendI5 (l := l) hE (c := c) hm hn hL hf hw
  refine ⟨A, ?_, h2⟩
  refine tmRun_intro hE (own := RJ4) jq_yJ4_append_bf812 rfl (by decide +kernel) (by decide) (Nat.le_of_ble_eq_true rfl) ⟨_, rfl, Or.inl ⟨_, rfl⟩⟩ ?_
  intro G hG
  refine hG _ _ _ _ _ _ _ dJ4_append_bf812_0 ⟨rfl, _, rfl, ?_⟩
  refine hG _ _ _ _ _ _ _ dJ4_append_bf812_1 ⟨rfl, _, rfl, ?_⟩
  refine hG _ _ _ _ _ _ _ dJ4_append_bf812_2 ⟨rfl, 1, _, _, _, [pI (nI w)], _, _, _, jc_J4_53, rfl, rfl, Nat.le_of_ble_eq_true rfl, ⟨_, rfl⟩, h1, (fun h => by cases h), ?_⟩
  refine hG _ _ _ _ _ _ _ dJ4_append_bf812_5 ⟨rfl, _, _, rfl, rfl, ?_⟩
  refine hG _ _ _ _ _ _ _ dJ4_append_bf812_6 ⟨rfl, _, rfl, ?_⟩
  exact hG _ _ _ _ _ _ _ dJ4_append_bf812_7 ⟨rfl, _, rfl, (fun h => by cases h), ⟨rfl, rfl⟩⟩
