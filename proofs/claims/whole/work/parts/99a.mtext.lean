/-! ===== the text of a job: the reference ===== -/
abbrev Tx : Type := (Nat → Nat) × Nat
def tCh (p : Tx) (c : Nat) : Tx := (sb_cat p.1 p.2 (fun _ => c), p.2 + 1)
def tNm (p : Tx) (v : Nat) : Tx := (sb_cat p.1 p.2 (sb_dec v), p.2 + sb_dg v)
def tArm (g : Nat → Int) (j : Nat) (p : Tx) (a : Nat) : Tx := tNm (tCh (tNm (if a = 0 then p else tCh p 44) (mAt g j (12 + a)).toNat) 120) (mAt g j (16 + a)).toNat
def tArs (g : Nat → Int) (j : Nat) (p : Tx) : Nat → Tx
  | 0 => p
  | a + 1 => tArm g j (tArs g j p a) a
def tHd (g : Nat → Int) (j : Nat) : Tx := tCh (tNm (tCh (tCh (tNm (tCh (tCh (tNm (fun _ => 0, 0) j) 58) 97) (mAt g j 0).toNat) 32) 114) (mAt g j 1).toNat) 32
def tAll (g : Nat → Int) (j : Nat) : Tx := if 0 ≤ mAt g j 6 then tNm (tCh (tCh (tArs g j (tHd g j) (mArms g j)) 32) 64) (mAt g j 6).toNat else tArs g j (tHd g j) (mArms g j)
theorem dg_lt {v : Nat} (h : v < 1000000) : sb_dg v ≤ 6 := by
  unfold sb_dg
  repeat' split
  all_goals omega
theorem dg_2 {v : Nat} (h : v < 100) : sb_dg v ≤ 2 := by
  unfold sb_dg
  repeat' split
  all_goals omega
theorem dg_1 {v : Nat} (h : v < 10) : sb_dg v ≤ 1 := by
  unfold sb_dg
  rw [if_pos h]
  omega
theorem dg_3 {v : Nat} (h : v < 1000) : sb_dg v ≤ 3 := by
  unfold sb_dg
  repeat' split
  all_goals omega
theorem dec_rg {v i : Nat} : 48 ≤ sb_dec v i ∧ sb_dec v i ≤ 57 := by
  unfold sb_dec
  omega
/-- how much is written -/
theorem tArm_n {g : Nat → Int} {j a : Nat} {p : Tx} (h1 : 1 ≤ mAt g j (12 + a) ∧ mAt g j (12 + a) ≤ 16) (h2 : 1 ≤ mAt g j (16 + a) ∧ mAt g j (16 + a) ≤ 200) : p.2 ≤ (tArm g j p a).2 ∧ (tArm g j p a).2 ≤ p.2 + 7 := by
  have d1 := dg_2 (v := (mAt g j (12 + a)).toNat) (by omega)
  have d2 := dg_3 (v := (mAt g j (16 + a)).toNat) (by omega)
  unfold tArm tNm tCh
  (try dsimp only)
  split <;> (try dsimp only) <;> omega
theorem tArs_n {g : Nat → Int} {j : Nat} {p : Tx} : ∀ n, (∀ a, a < n → (1 ≤ mAt g j (12 + a) ∧ mAt g j (12 + a) ≤ 16) ∧ (1 ≤ mAt g j (16 + a) ∧ mAt g j (16 + a) ≤ 200)) → p.2 ≤ (tArs g j p n).2 ∧ (tArs g j p n).2 ≤ p.2 + 7 * n
  | 0, _ => ⟨Nat.le_refl _, Nat.le_refl _⟩
  | n + 1, h => by
    have ih := tArs_n (p := p) n fun a ha => h a (by omega)
    have h1 := h n (by omega)
    have := tArm_n (p := tArs g j p n) h1.1 h1.2
    rw [tArs]
    omega
theorem tHd_n {g : Nat → Int} {j : Nat} (hj : j < 80) (h0 : 0 ≤ mAt g j 0 ∧ mAt g j 0 ≤ 7) (h1 : 0 ≤ mAt g j 1 ∧ mAt g j 1 ≤ 9) : (tHd g j).2 ≤ 9 := by
  have d1 := dg_2 (v := j) (by omega)
  have d2 := dg_1 (v := (mAt g j 0).toNat) (by omega)
  have d3 := dg_1 (v := (mAt g j 1).toNat) (by omega)
  unfold tHd tNm tCh
  (try dsimp only)
  omega
/-- what is written so far -/
def wrI (G : Nat → Nat → Int) (p : Tx) : Prop := G 179 25 = (p.2 : Int) ∧ ∀ i, i < p.2 → G 195 i = ((p.1 i : Nat) : Int)
def wrF (G G' : Nat → Nat → Int) : Prop := (∀ x, x ≠ 179 → x ≠ 195 → G' x = G x) ∧ ∀ b, b ≠ 25 → G' 179 b = G 179 b
theorem wrF_0 {G : Nat → Nat → Int} : wrF G G := ⟨fun _ _ _ => rfl, fun _ _ => rfl⟩
theorem wrF_t {A B C : Nat → Nat → Int} (h : wrF A B) (h2 : wrF B C) : wrF A C := ⟨fun x a b => (h2.1 x a b).trans (h.1 x a b), fun b a => (h2.2 b a).trans (h.2 b a)⟩
theorem W_wr {G U : Nat → Nat → Int} {p : Tx} {c : Nat} {R : Option pV → pM → Prop} (h : wrI G p) (hn : p.2 < 80) (hc : c < 256) (hR : ∀ G', wrF G G' → wrI G' (tCh p c) → R none (zM G' U)) : WpF F_M_writes [pR 179, pI (Int32.ofInt (c : Int))] (zM G U) R := by
  obtain ⟨h1, h2⟩ := h
  have hRR := hR (upZ (upZ G 195 p.2 (c : Int)) 179 25 ((p.2 : Int) + 1)) ⟨fun x a b => by rw [upZ_ne a, upZ_ne b], fun b hb => by
    have : upZ (upZ G 195 p.2 (c : Int)) 179 25 ((p.2 : Int) + 1) 179 b = upZ G 195 p.2 (c : Int) 179 b := by simp [upZ, hb]
    rw [this, upZ_ne (by omega)]⟩ ⟨by rw [upR_s]; unfold tCh; (try dsimp only); omega, fun i hi => by
    rw [upZ_ne (by omega)]
    unfold tCh at hi ⊢
    (try dsimp only at hi ⊢)
    by_cases ci : i = p.2
    · rw [ci, upR_s, show sb_cat p.1 p.2 (fun _ => c) p.2 = c from sb_cat_hi (j := 0)]
    · have : upZ G 195 p.2 (c : Int) 195 i = G 195 i := by simp [upZ, ci]
      rw [this, sb_cat_lo (by omega)]
      exact h2 i (by omega)⟩
  clear hR
  unfold F_M_writes B_M_writes
  apply wBody (Nat.le_of_ble_eq_true rfl)
  repeat' first | with_reducible apply wB_and | with_reducible apply wB_or | with_reducible apply wB_not | with_reducible apply wI_ite | with_reducible apply wI_add | with_reducible apply wI_sub | with_reducible apply wSeq | with_reducible apply wRV | with_reducible apply wModA2 | with_reducible apply wModS2 | with_reducible apply wModO2 | with_reducible apply wAst2 | with_reducible apply wAsIw | with_reducible apply wAsZw | with_reducible apply wRIw | with_reducible apply wRZw | with_reducible apply wB_e | with_reducible apply wI_e | (intro h; try simp only [Bool.and_eq_true, Bool.or_eq_true, Bool.not_eq_true', Bool.not_eq_false', Bool.and_eq_false_imp, Bool.or_eq_false_iff, decide_eq_true_eq, decide_eq_false_iff_not, Bool.not_true, Bool.not_false, Bool.true_eq_false, Bool.false_eq_true, Bool.not_not] at h) | with_reducible apply wN1 | with_reducible apply wN2 | with_reducible apply wN3 | with_reducible apply wN4 | with_reducible apply wN0 | with_reducible apply wE0 | with_reducible apply wXI | with_reducible apply wXB | with_reducible exact h1 | with_reducible exact eK | ((with_reducible apply eL); rfl) | ((with_reducible apply eLR); rfl) | with_reducible exact eAN | with_reducible apply eAdd | with_reducible apply eFld2 | with_reducible apply R_M_written | with_reducible exact N_M_written | with_reducible exact K_M_writtenMany | with_reducible exact Int.toNat_natCast _ | with_reducible exact tn0 | with_reducible exact tn1 | with_reducible exact tn2 | with_reducible exact tn3 | with_reducible exact tn4 | with_reducible exact tn5 | with_reducible exact tn6 | with_reducible exact tn7 | with_reducible exact tn8 | with_reducible exact tn9 | with_reducible exact tn10 | with_reducible exact tn11 | with_reducible exact tn12 | with_reducible exact tn13 | with_reducible exact tn14 | with_reducible exact tn15 | with_reducible exact tn16 | with_reducible exact tnK0 | with_reducible exact tnK4 | with_reducible exact tnK8 | with_reducible exact tnK12 | with_reducible exact tnK16 | with_reducible exact tnK20 | with_reducible exact tnK24 | with_reducible exact tnK28 | with_reducible exact tnK32 | with_reducible exact tnJA | with_reducible exact tnA | with_reducible exact upR_s | ((with_reducible apply upR_a); (first | decide | omega)) | ((with_reducible apply upR_b); (first | decide | omega)) | ((with_reducible apply cpR_o); (first | decide | omega)) | with_reducible apply lt_pSet1 | with_reducible apply lt_kil | exact Nat.le_of_ble_eq_true rfl | with_reducible assumption | with_reducible exact rfl | omega | with_reducible apply wAnd | decide +kernel
  all_goals first | (exfalso; omega) | exact hRR | exact ⟨rfl, hRR⟩
theorem dg_more {v i : Nat} (hv : v < 1000000) (hi : i ≤ 5) : 10 ≤ v / 10 ^ i ↔ i + 1 < sb_dg v := by
  rcases (by omega : i = 0 ∨ i = 1 ∨ i = 2 ∨ i = 3 ∨ i = 4 ∨ i = 5) with rfl | rfl | rfl | rfl | rfl | rfl
  all_goals (unfold sb_dg; simp only [Nat.reducePow]; repeat' split)
  all_goals omega
theorem natdiv_rg {v c : Nat} : (0 : Int) ≤ (v : Int) / (c : Int) ∧ (v : Int) / (c : Int) ≤ (v : Int) := ⟨Int.ediv_nonneg (Int.natCast_nonneg _) (Int.natCast_nonneg _), Int.ediv_le_self _ (Int.natCast_nonneg _)⟩
set_option maxHeartbeats 1000000 in
theorem W_num {G U : Nat → Nat → Int} {p : Tx} {v : Nat} {R : Option pV → pM → Prop} (hw0 : wrI G p) (hn : p.2 ≤ 70) (hv : v < 1000000) (hR : ∀ G', wrF G G' → wrI G' (tNm p v) → R none (zM G' U)) : WpF F_M_writesNumber [pR 179, pI (Int32.ofInt (v : Int))] (zM G U) R := by
  have hd := dg_lt hv
  have hd1 := (sb_dg_in v).1
  have hmore := fun i (hi : i ≤ 5) => dg_more (v := v) (i := i) hv hi
  have hpow : ∀ i, i ≤ 5 → 1 ≤ 10 ^ i ∧ 10 ^ i ≤ 100000 := fun i hi => by
    rcases (by omega : i = 0 ∨ i = 1 ∨ i = 2 ∨ i = 3 ∨ i = 4 ∨ i = 5) with rfl | rfl | rfl | rfl | rfl | rfl <;> decide
  unfold F_M_writesNumber B_M_writesNumber
  apply wBody (Nat.le_of_ble_eq_true rfl)
  repeat' first | with_reducible apply wAsIc (F := F_M_writes) | with_reducible apply wAsZc (F := F_M_writes) | with_reducible apply wRIc (F := F_M_writes) | with_reducible apply wRZc (F := F_M_writes) | with_reducible apply wBc (F := F_M_writes) | with_reducible apply wIc (F := F_M_writes) | with_reducible apply wB_and | with_reducible apply wB_or | with_reducible apply wB_not | with_reducible apply wI_ite | with_reducible apply wI_add | with_reducible apply wI_sub | with_reducible apply wSeq | with_reducible apply wSkip | with_reducible apply wRV | with_reducible apply wVd | with_reducible apply wAsIw | with_reducible apply wAsZw | with_reducible apply wRIw | with_reducible apply wRZw | with_reducible apply wB_e | with_reducible apply wI_e | (intro h; try simp only [Bool.and_eq_true, Bool.or_eq_true, Bool.not_eq_true', Bool.not_eq_false', Bool.and_eq_false_imp, Bool.or_eq_false_iff, decide_eq_true_eq, decide_eq_false_iff_not, Bool.not_true, Bool.not_false, Bool.true_eq_false, Bool.false_eq_true, Bool.not_not] at h) | with_reducible apply wN1 | with_reducible apply wN2 | with_reducible apply wN3 | with_reducible apply wN4 | with_reducible apply wN0 | with_reducible apply wE0 | with_reducible apply wXI | with_reducible apply wXB | with_reducible exact eK | ((with_reducible apply eL); rfl) | ((with_reducible apply eLR); rfl) | with_reducible exact eAN | with_reducible apply eAdd | with_reducible apply eMul | with_reducible apply eDiv | with_reducible apply eRem | with_reducible apply eGt | with_reducible apply eGe | with_reducible apply eAI | with_reducible apply eAR | with_reducible apply eCI | with_reducible apply eCZ | with_reducible apply wRc | with_reducible exact ckv179 | with_reducible exact upR_s | ((with_reducible apply upR_a); (first | decide | omega)) | ((with_reducible apply upR_b); (first | decide | omega)) | ((with_reducible apply cpR_o); (first | decide | omega)) | with_reducible apply lt_pSet1 | with_reducible apply lt_kil | exact Nat.le_of_ble_eq_true rfl | with_reducible assumption | with_reducible exact rfl | omega | with_reducible apply wAnd | decide +kernel
  all_goals first | (exfalso; omega) | skip
  refine wWh (fun i L σ => ∃ c : Nat, L = [some (pR 179), some (pI (Int32.ofInt (v : Int))), some (pI (Int32.ofInt (c : Int)))] ∧ σ = zM G U ∧ c = 10 ^ i ∧ i < sb_dg v) 5 (by omega) ⟨1, rfl, rfl, rfl, by omega⟩ ?_
  rintro i _ _ hi ⟨c, rfl, rfl, hc, hid⟩
  have hp := hpow i hi
  have hm := hmore i hi
  rw [← hc] at hp hm
  have hvq : (0 : Int) ≤ (v : Int) / (c : Int) ∧ (v : Int) / (c : Int) ≤ (v : Int) := by
    exact natdiv_rg
  by_cases hgo : 10 ≤ v / c
  · have hid2 := hm.mp hgo
    have hi5 : i < 5 := by omega
    have hgo2 : (10 : Int) ≤ (v : Int) / (c : Int) := by omega
    repeat' first | with_reducible apply wAsIc (F := F_M_writes) | with_reducible apply wAsZc (F := F_M_writes) | with_reducible apply wRIc (F := F_M_writes) | with_reducible apply wRZc (F := F_M_writes) | with_reducible apply wBc (F := F_M_writes) | with_reducible apply wIc (F := F_M_writes) | with_reducible apply wB_and | with_reducible apply wB_or | with_reducible apply wB_not | with_reducible apply wI_ite | with_reducible apply wI_add | with_reducible apply wI_sub | with_reducible apply wSeq | with_reducible apply wSkip | with_reducible apply wRV | with_reducible apply wVd | with_reducible apply wAsIw | with_reducible apply wAsZw | with_reducible apply wRIw | with_reducible apply wRZw | with_reducible apply wB_e | with_reducible apply wI_e | (intro h; try simp only [Bool.and_eq_true, Bool.or_eq_true, Bool.not_eq_true', Bool.not_eq_false', Bool.and_eq_false_imp, Bool.or_eq_false_iff, decide_eq_true_eq, decide_eq_false_iff_not, Bool.not_true, Bool.not_false, Bool.true_eq_false, Bool.false_eq_true, Bool.not_not] at h) | with_reducible apply wN1 | with_reducible apply wN2 | with_reducible apply wN3 | with_reducible apply wN4 | with_reducible apply wN0 | with_reducible apply wE0 | with_reducible apply wXI | with_reducible apply wXB | with_reducible exact eK | ((with_reducible apply eL); rfl) | ((with_reducible apply eLR); rfl) | with_reducible exact eAN | with_reducible apply eAdd | with_reducible apply eMul | with_reducible apply eDiv | with_reducible apply eRem | with_reducible apply eGt | with_reducible apply eGe | with_reducible apply eAI | with_reducible apply eAR | with_reducible apply eCI | with_reducible apply eCZ | with_reducible apply wRc | with_reducible exact ckv179 | with_reducible exact upR_s | ((with_reducible apply upR_a); (first | decide | omega)) | ((with_reducible apply upR_b); (first | decide | omega)) | ((with_reducible apply cpR_o); (first | decide | omega)) | with_reducible apply lt_pSet1 | with_reducible apply lt_kil | exact Nat.le_of_ble_eq_true rfl | with_reducible assumption | with_reducible exact rfl | omega | with_reducible apply wAnd | decide +kernel
    all_goals first | (exfalso; omega) | skip
    exact ⟨c * 10, by push_cast; rfl, rfl, by rw [hc, Nat.pow_succ], hid2⟩
  · have hid2 : i + 1 = sb_dg v := by
      have : ¬ i + 1 < sb_dg v := fun h => hgo (hm.mpr h)
      omega
    have hgo2 : ¬ (10 : Int) ≤ (v : Int) / (c : Int) := by omega
    repeat' first | with_reducible apply wAsIc (F := F_M_writes) | with_reducible apply wAsZc (F := F_M_writes) | with_reducible apply wRIc (F := F_M_writes) | with_reducible apply wRZc (F := F_M_writes) | with_reducible apply wBc (F := F_M_writes) | with_reducible apply wIc (F := F_M_writes) | with_reducible apply wB_and | with_reducible apply wB_or | with_reducible apply wB_not | with_reducible apply wI_ite | with_reducible apply wI_add | with_reducible apply wI_sub | with_reducible apply wSeq | with_reducible apply wSkip | with_reducible apply wRV | with_reducible apply wVd | with_reducible apply wAsIw | with_reducible apply wAsZw | with_reducible apply wRIw | with_reducible apply wRZw | with_reducible apply wB_e | with_reducible apply wI_e | (intro h; try simp only [Bool.and_eq_true, Bool.or_eq_true, Bool.not_eq_true', Bool.not_eq_false', Bool.and_eq_false_imp, Bool.or_eq_false_iff, decide_eq_true_eq, decide_eq_false_iff_not, Bool.not_true, Bool.not_false, Bool.true_eq_false, Bool.false_eq_true, Bool.not_not] at h) | with_reducible apply wN1 | with_reducible apply wN2 | with_reducible apply wN3 | with_reducible apply wN4 | with_reducible apply wN0 | with_reducible apply wE0 | with_reducible apply wXI | with_reducible apply wXB | with_reducible exact eK | ((with_reducible apply eL); rfl) | ((with_reducible apply eLR); rfl) | with_reducible exact eAN | with_reducible apply eAdd | with_reducible apply eMul | with_reducible apply eDiv | with_reducible apply eRem | with_reducible apply eGt | with_reducible apply eGe | with_reducible apply eAI | with_reducible apply eAR | with_reducible apply eCI | with_reducible apply eCZ | with_reducible apply wRc | with_reducible exact ckv179 | with_reducible exact upR_s | ((with_reducible apply upR_a); (first | decide | omega)) | ((with_reducible apply upR_b); (first | decide | omega)) | ((with_reducible apply cpR_o); (first | decide | omega)) | with_reducible apply lt_pSet1 | with_reducible apply lt_kil | exact Nat.le_of_ble_eq_true rfl | with_reducible assumption | with_reducible exact rfl | omega | with_reducible apply wAnd | decide +kernel
    all_goals first | (exfalso; omega) | skip
    refine wWh (fun k L σ => ∃ (d : Nat) (G' : Nat → Nat → Int), L = [some (pR 179), some (pI (Int32.ofInt (v : Int))), some (pI (Int32.ofInt (d : Int)))] ∧ σ = zM G' U ∧ (k < sb_dg v → d = 10 ^ (sb_dg v - 1 - k)) ∧ (k = sb_dg v → d = 0) ∧ wrF G G' ∧ wrI G' (sb_cat p.1 p.2 (sb_dec v), p.2 + k)) (sb_dg v) (by omega) ⟨c, G, rfl, rfl, fun _ => by rw [hc, ← hid2]; rfl, fun h => by omega, wrF_0, hw0.1, fun i hi => by
    have hi2 : i < p.2 := hi
    show G 195 i = ((sb_cat p.1 p.2 (sb_dec v) i : Nat) : Int)
    rw [sb_cat_lo hi2]; exact hw0.2 i hi2⟩ ?_
    rintro k _ _ hk ⟨d, G1, rfl, rfl, hd2, hd3, f1, w1⟩
    rcases Nat.lt_or_ge k (sb_dg v) with hlt | hge
    · have hdk := hd2 hlt
      have hpk := hpow (sb_dg v - 1 - k) (by omega)
      rw [← hdk] at hpk
      have hdig : sb_dec v k = 48 + v / d % 10 := by unfold sb_dec; rw [← hdk]
      have hdi2 : (48 : Int) + (v : Int) / (d : Int) % 10 = ((sb_dec v k : Nat) : Int) := by rw [hdig]; push_cast; rfl
      have hdr := dec_rg (v := v) (i := k)
      have hq : (v : Int) / (d : Int) = ((v / d : Nat) : Int) := by push_cast; rfl
      have hql : v / d ≤ v := Nat.div_le_self _ _
      have hqr := natdiv_rg (v := v) (c := d)
      have hnext : ∀ G2, wrF G1 G2 → wrI G2 (tCh (sb_cat p.1 p.2 (sb_dec v), p.2 + k) (sb_dec v k)) → wrF G G2 ∧ wrI G2 (sb_cat p.1 p.2 (sb_dec v), p.2 + (k + 1)) := fun G2 a b => ⟨wrF_t f1 a, b.1, fun i hi => by
        have hb := b.2 i (by unfold tCh; (try dsimp only); omega)
        rw [hb]
        unfold tCh
        (try dsimp only)
        by_cases ci : i = p.2 + k
        · rw [ci, show sb_cat (sb_cat p.1 p.2 (sb_dec v)) (p.2 + k) (fun _ => sb_dec v k) (p.2 + k) = sb_dec v k from sb_cat_hi (j := 0), sb_cat_hi]
        · rw [sb_cat_lo (by (try dsimp only at hi); omega)]⟩
      have hd10 : k + 1 < sb_dg v → d / 10 = 10 ^ (sb_dg v - 1 - (k + 1)) := fun h => by
        rw [hdk, show sb_dg v - 1 - k = (sb_dg v - 1 - (k + 1)) + 1 by omega, Nat.pow_succ]
        omega
      have hd00 : k + 1 = sb_dg v → d / 10 = 0 := fun h => by
        rw [hdk, show sb_dg v - 1 - k = 0 by omega]
      have he10 : (d : Int) / 10 = ((d / 10 : Nat) : Int) := by push_cast; rfl
      clear hmore hpow hd2 hd3
      apply wB_e (p := true) (τ := zM G1 U)
      · rw [show true = decide ((d : Int) > 0) by rw [decide_eq_true (by omega)]]
        repeat' first | with_reducible apply wAsIc (F := F_M_writes) | with_reducible apply wAsZc (F := F_M_writes) | with_reducible apply wRIc (F := F_M_writes) | with_reducible apply wRZc (F := F_M_writes) | with_reducible apply wBc (F := F_M_writes) | with_reducible apply wIc (F := F_M_writes) | with_reducible apply wSeq | with_reducible apply wSkip | with_reducible apply wAsI | with_reducible apply wRV | with_reducible apply wVd | with_reducible apply wB_e | (intro h; try simp only [Bool.and_eq_true, Bool.or_eq_true, Bool.not_eq_true', Bool.not_eq_false', Bool.and_eq_false_imp, Bool.or_eq_false_iff, decide_eq_true_eq, decide_eq_false_iff_not, Bool.not_true, Bool.not_false, Bool.true_eq_false, Bool.false_eq_true, Bool.not_not] at h) | with_reducible apply wN1 | with_reducible apply wN2 | with_reducible apply wN3 | with_reducible apply wN4 | with_reducible apply wN0 | with_reducible apply wE0 | with_reducible apply wXI | with_reducible apply wXB | with_reducible exact eK | ((with_reducible apply eL); rfl) | ((with_reducible apply eLR); rfl) | with_reducible exact eAN | with_reducible apply eAdd | with_reducible apply eMul | with_reducible apply eDiv | with_reducible apply eRem | with_reducible apply eGt | with_reducible apply eGe | with_reducible apply eAI | with_reducible apply eAR | with_reducible apply eCI | with_reducible apply eCZ | with_reducible apply wRc | with_reducible exact ckv179 | with_reducible exact upR_s | ((with_reducible apply upR_a); (first | decide | omega)) | ((with_reducible apply upR_b); (first | decide | omega)) | ((with_reducible apply cpR_o); (first | decide | omega)) | with_reducible apply lt_pSet1 | with_reducible apply lt_kil | exact Nat.le_of_ble_eq_true rfl | with_reducible assumption | with_reducible exact rfl | omega | with_reducible apply wAnd | decide +kernel
      · intro _
        refine ⟨hlt, ?_⟩
        refine wVd (As := [pR 179, pI (Int32.ofInt ((sb_dec v k : Nat) : Int))]) (τ := zM G1 U) ?_ ckv179 ?_
        · rw [← hdi2]
          rw [hq]
          refine eAR (eLR rfl) (eAI (eAdd eK (eRem (x := ((v / d : Nat) : Int)) (y := 10) ?_ eK (by omega) (by omega))) eAN)
          rw [← hq]
          exact eDiv (eL rfl) (eL rfl) (by omega) (by omega)
        · refine W_wr w1 (by (try dsimp only); omega) (by omega) (fun G2 a b => ⟨rfl, ?_⟩)
          obtain ⟨x1, x2⟩ := hnext G2 a b
          refine wAsI (x := (d : Int) / 10) (τ := zM G2 U) (eDiv (eL rfl) eK (by omega) (by omega)) (Nat.le_of_ble_eq_true rfl) ?_
          exact ⟨d / 10, G2, by rw [he10]; rfl, rfl, hd10, hd00, x1, x2⟩
      · intro h; cases h
    · have ek : k = sb_dg v := by omega
      have hd0 := hd3 ek
      rw [ek] at w1
      have hRR := hR G1 f1 w1
      clear hR hmore hpow hd2 hd3
      subst hd0
      repeat' first | with_reducible apply wAsIc (F := F_M_writes) | with_reducible apply wAsZc (F := F_M_writes) | with_reducible apply wRIc (F := F_M_writes) | with_reducible apply wRZc (F := F_M_writes) | with_reducible apply wBc (F := F_M_writes) | with_reducible apply wIc (F := F_M_writes) | with_reducible apply wB_and | with_reducible apply wB_or | with_reducible apply wB_not | with_reducible apply wI_ite | with_reducible apply wI_add | with_reducible apply wI_sub | with_reducible apply wSeq | with_reducible apply wSkip | with_reducible apply wRV | with_reducible apply wVd | with_reducible apply wAsIw | with_reducible apply wAsZw | with_reducible apply wRIw | with_reducible apply wRZw | with_reducible apply wB_e | with_reducible apply wI_e | (intro h; try simp only [Bool.and_eq_true, Bool.or_eq_true, Bool.not_eq_true', Bool.not_eq_false', Bool.and_eq_false_imp, Bool.or_eq_false_iff, decide_eq_true_eq, decide_eq_false_iff_not, Bool.not_true, Bool.not_false, Bool.true_eq_false, Bool.false_eq_true, Bool.not_not] at h) | with_reducible apply wN1 | with_reducible apply wN2 | with_reducible apply wN3 | with_reducible apply wN4 | with_reducible apply wN0 | with_reducible apply wE0 | with_reducible apply wXI | with_reducible apply wXB | with_reducible exact eK | ((with_reducible apply eL); rfl) | ((with_reducible apply eLR); rfl) | with_reducible exact eAN | with_reducible apply eAdd | with_reducible apply eMul | with_reducible apply eDiv | with_reducible apply eRem | with_reducible apply eGt | with_reducible apply eGe | with_reducible apply eAI | with_reducible apply eAR | with_reducible apply eCI | with_reducible apply eCZ | with_reducible apply wRc | with_reducible exact ckv179 | with_reducible exact upR_s | ((with_reducible apply upR_a); (first | decide | omega)) | ((with_reducible apply upR_b); (first | decide | omega)) | ((with_reducible apply cpR_o); (first | decide | omega)) | with_reducible apply lt_pSet1 | with_reducible apply lt_kil | exact Nat.le_of_ble_eq_true rfl | with_reducible assumption | with_reducible exact rfl | omega | with_reducible apply wAnd | decide +kernel
      all_goals first | (exfalso; omega) | exact hRR | exact ⟨rfl, hRR⟩
