theorem upZ_ne {G : Nat → Nat → Int} {k i x : Nat} {v : Int} (h : x ≠ k) : upZ G k i v x = G x := by
  funext b
  simp [upZ, h]
theorem Sc_lasts0 {G U : Nat → Nat → Int} {s j a : Nat} {x y : Int} (hs : isScene s) (hj2 : j < 80) (ha2 : a < 4) (hx : G (s + 21) (j * 4 + a) = x) (hy : G (s + 9) j = y) (h1 : 0 ≤ x ∧ x ≤ 1000) (h2 : 0 ≤ y ∧ y ≤ 1000) : F_Scene_lasts [pR s, pI (Int32.ofInt ((j : Int) * 4 + (a : Int)))] (zM G U) = some (some (pI (Int32.ofInt (max 1 (x * y / 100)))), zM G U) := by
  apply wF_to
  have hsj := S_Scene_jobs hs
  have hsa := S_Scene_arms hs
  unfold F_Scene_lasts B_Scene_lasts
  apply wBody (Nat.le_of_ble_eq_true rfl)
  have hm : 0 ≤ x * y ∧ x * y ≤ 1000000 := by
    constructor
    · exact Int.mul_nonneg h1.1 h2.1
    · have := Int.mul_le_mul h1.2 h2.2 h2.1 (by omega)
      omega
  have hq : rg (x * y / 100) := by unfold rg; omega
  repeat' first | with_reducible apply wRI | with_reducible apply wB_e | (intro h; try simp only [Bool.and_eq_true, Bool.or_eq_true, Bool.not_eq_true', Bool.not_eq_false', Bool.and_eq_false_imp, Bool.or_eq_false_iff, decide_eq_true_eq, decide_eq_false_iff_not, Bool.not_true, Bool.not_false, Bool.true_eq_false, Bool.false_eq_true, Bool.not_not] at h) | with_reducible apply wN1 | with_reducible apply wN2 | with_reducible apply wN3 | with_reducible apply wN4 | with_reducible apply wN0 | with_reducible apply wE0 | with_reducible apply wXI | with_reducible apply wXB | with_reducible exact tnD4 ha2 | with_reducible exact eK | ((with_reducible apply eL); rfl) | ((with_reducible apply eLR); rfl) | with_reducible exact eAN | with_reducible apply eMul | with_reducible apply eDiv | with_reducible apply eMax | with_reducible apply eArr2 | with_reducible apply R_Scene_jobs | with_reducible apply R_Scene_arms | with_reducible apply R_Jobs_part | with_reducible apply R_Arms_asks | with_reducible exact S_Scene_jobs (by assumption) | with_reducible exact C_Jobs (S_Scene_jobs (by assumption)) | with_reducible exact S_Scene_arms (by assumption) | with_reducible exact C_Arms (S_Scene_arms (by assumption)) | with_reducible exact N_Jobs_part (by assumption) | with_reducible exact N_Arms_asks (by assumption) | with_reducible exact Int.toNat_natCast _ | with_reducible exact tn0 | with_reducible exact tn1 | with_reducible exact tn2 | with_reducible exact tn3 | with_reducible exact tn4 | with_reducible exact tn5 | with_reducible exact tn6 | with_reducible exact tn7 | with_reducible exact tn8 | with_reducible exact tn9 | with_reducible exact tn10 | with_reducible exact tn11 | with_reducible exact tn12 | with_reducible exact tn13 | with_reducible exact tn14 | with_reducible exact tn15 | with_reducible exact tn16 | with_reducible exact tnK0 | with_reducible exact tnK4 | with_reducible exact tnK8 | with_reducible exact tnK12 | with_reducible exact tnK16 | with_reducible exact tnK20 | with_reducible exact tnK24 | with_reducible exact tnK28 | with_reducible exact tnK32 | with_reducible exact tnJA | with_reducible exact tnA | with_reducible exact upR_s | ((with_reducible apply upR_a); (first | decide | omega)) | ((with_reducible apply upR_b); (first | decide | omega)) | ((with_reducible apply noteR_a); (first | decide | omega)) | ((with_reducible apply noteR_b); (first | decide | omega)) | exact Nat.le_of_ble_eq_true rfl | with_reducible assumption | with_reducible exact rfl | omega | with_reducible apply wAnd | decide +kernel
  exact ⟨rfl, rfl⟩
theorem Sc_knownEnd0 {G U : Nat → Nat → Int} {s j a : Nat} {x y : Int} (hs : isScene s) (hj2 : j < 80) (ha2 : a < 4) (hx : G (s + 15) j = x) (hy : G (s + 21) (j * 4 + a) = y) : F_Scene_knownEnd [pR s, pI (Int32.ofInt ((j : Int) * 4 + (a : Int)))] (zM G U) = some (some (pI (Int32.ofInt (x + y))), zM G U) := by
  apply wF_to
  have hsj := S_Scene_jobs hs
  have hsa := S_Scene_arms hs
  unfold F_Scene_knownEnd B_Scene_knownEnd
  apply wBody (Nat.le_of_ble_eq_true rfl)
  repeat' first | with_reducible apply wRI | with_reducible apply wB_e | (intro h; try simp only [Bool.and_eq_true, Bool.or_eq_true, Bool.not_eq_true', Bool.not_eq_false', Bool.and_eq_false_imp, Bool.or_eq_false_iff, decide_eq_true_eq, decide_eq_false_iff_not, Bool.not_true, Bool.not_false, Bool.true_eq_false, Bool.false_eq_true, Bool.not_not] at h) | with_reducible apply wN1 | with_reducible apply wN2 | with_reducible apply wN3 | with_reducible apply wN4 | with_reducible apply wN0 | with_reducible apply wE0 | with_reducible apply wXI | with_reducible apply wXB | with_reducible exact tnD4 ha2 | with_reducible exact eK | ((with_reducible apply eL); rfl) | ((with_reducible apply eLR); rfl) | with_reducible exact eAN | with_reducible apply eAdd | with_reducible apply eDiv | with_reducible apply eArr2 | with_reducible apply R_Scene_jobs | with_reducible apply R_Scene_arms | with_reducible apply R_Jobs_start | with_reducible apply R_Arms_asks | with_reducible exact S_Scene_jobs (by assumption) | with_reducible exact C_Jobs (S_Scene_jobs (by assumption)) | with_reducible exact S_Scene_arms (by assumption) | with_reducible exact C_Arms (S_Scene_arms (by assumption)) | with_reducible exact N_Jobs_start (by assumption) | with_reducible exact N_Arms_asks (by assumption) | with_reducible exact Int.toNat_natCast _ | with_reducible exact tn0 | with_reducible exact tn1 | with_reducible exact tn2 | with_reducible exact tn3 | with_reducible exact tn4 | with_reducible exact tn5 | with_reducible exact tn6 | with_reducible exact tn7 | with_reducible exact tn8 | with_reducible exact tn9 | with_reducible exact tn10 | with_reducible exact tn11 | with_reducible exact tn12 | with_reducible exact tn13 | with_reducible exact tn14 | with_reducible exact tn15 | with_reducible exact tn16 | with_reducible exact tnK0 | with_reducible exact tnK4 | with_reducible exact tnK8 | with_reducible exact tnK12 | with_reducible exact tnK16 | with_reducible exact tnK20 | with_reducible exact tnK24 | with_reducible exact tnK28 | with_reducible exact tnK32 | with_reducible exact tnJA | with_reducible exact tnA | with_reducible exact upR_s | ((with_reducible apply upR_a); (first | decide | omega)) | ((with_reducible apply upR_b); (first | decide | omega)) | ((with_reducible apply noteR_a); (first | decide | omega)) | ((with_reducible apply noteR_b); (first | decide | omega)) | exact Nat.le_of_ble_eq_true rfl | with_reducible assumption | with_reducible exact rfl | omega | with_reducible apply wAnd | decide +kernel
  exact ⟨rfl, rfl⟩
/-- who holds the columns behind a start -/
def ownF (old : Nat → Int) (j : Nat) (F w : Nat → Int) : Nat → Nat → Int
  | 0 => old
  | i + 1 => fun c => if (F i).toNat ≤ c ∧ c < (F i).toNat + (w i).toNat then (j : Int) * 4 + (i : Int) else ownF old j F w i c
theorem ownF_no {old : Nat → Int} {j c : Nat} {F w : Nat → Int} : ∀ i, (∀ a, a < i → (bitsN (F a).toNat (w a).toNat).testBit c = false) → ownF old j F w i c = old c
  | 0, _ => rfl
  | i + 1, h => by
    have h1 := h i (by omega)
    rw [bitsN_test] at h1
    simp only [ownF]
    rw [if_neg (by intro h2; simp [h2] at h1), ownF_no i fun a ha => h a (by omega)]
theorem ownF_yes {old : Nat → Int} {j c a : Nat} {F w : Nat → Int} : ∀ i, a < i → (bitsN (F a).toNat (w a).toNat).testBit c = true → (∀ b, b < i → (bitsN (F b).toNat (w b).toNat).testBit c = true → b = a) → ownF old j F w i c = (j : Int) * 4 + (a : Int)
  | 0, h, _, _ => absurd h (Nat.not_lt_zero a)
  | i + 1, h, h1, h2 => by
    simp only [ownF]
    by_cases e : (F i).toNat ≤ c ∧ c < (F i).toNat + (w i).toNat
    · rw [if_pos e]
      have := h2 i (by omega) (by rw [bitsN_test]; simp [e])
      rw [this]
    · rw [if_neg e]
      have hne : a ≠ i := by
        intro e2
        subst e2
        rw [bitsN_test] at h1
        simp only [Bool.and_eq_true, decide_eq_true_eq] at h1
        exact e h1
      exact ownF_yes i (by omega) h1 fun b hb hb2 => h2 b (by omega) hb2
def gi (g : Nat → Int) (j : Nat) (F : Nat → Int) (i : Nat) : Nat → Int := stA (jput (jput g j 5 1) j 6 (g 0)) j F i
theorem gi_lo {g F : Nat → Int} {j i b : Nat} (h : b < 96) : gi g j F i b = g b := by
  unfold gi
  rw [stA_lo h, jput_lo h, jput_lo h]
theorem gi_hi {g F : Nat → Int} {j i b : Nat} (hj : j < 80) (hi : i ≤ 4) (h : 2656 ≤ b) : gi g j F i b = g b := by
  unfold gi
  rw [stA_hi hj h _ hi, jput_hi hj (by omega) h, jput_hi hj (by omega) h]
theorem gi_at {g F : Nat → Int} {j i k w : Nat} (hi : i ≤ 4) (hw : w < 20) : mAt (gi g j F i) k w = if k = j ∧ w = 6 then g 0 else if k = j ∧ w = 5 then 1 else mAt g k w := by
  unfold gi
  rw [stA_at hw _ hi, mAt_jput (by omega) (by omega), mAt_jput (by omega) (by omega)]
theorem gi_0 {g F : Nat → Int} {j k w : Nat} (hw : w < 32) : mAt (gi g j F 0) k w = if k = j ∧ w = 6 then g 0 else if k = j ∧ w = 5 then 1 else mAt g k w := by
  unfold gi
  rw [stA, mAt_jput (by omega) hw, mAt_jput (by omega) hw]
theorem gi_s {g F : Nat → Int} {j i k w : Nat} (hi : i < 4) (hw : w < 32) : mAt (gi g j F (i + 1)) k w = if k = j ∧ w = 24 + i then g 0 + min (mAt g j (16 + i)) (lastF g j i) else if k = j ∧ w = 20 + i then F i else mAt (gi g j F i) k w := by
  have e0 : jput (jput g j 5 1) j 6 (g 0) 0 = g 0 := by rw [jput_lo (by omega), jput_lo (by omega)]
  have e1 : mAt (jput (jput g j 5 1) j 6 (g 0)) j (16 + i) = mAt g j (16 + i) := by
    rw [mAt_jput (by omega) (by omega), if_neg (by omega), mAt_jput (by omega) (by omega), if_neg (by omega)]
  have e2 : lastF (jput (jput g j 5 1) j 6 (g 0)) j i = lastF g j i := by
    unfold lastF
    rw [e1, mAt_jput (by omega) (by omega), if_neg (by omega), mAt_jput (by omega) (by omega), if_neg (by omega)]
  unfold gi
  rw [stA, mAt_jput (by omega) hw, mAt_jput (by omega) hw, e0, e1, e2]
theorem starF_hi {g F : Nat → Int} {j n b : Nat} (hj : j < 80) (hn : n ≤ 4) (h : 2916 ≤ b) (h6 : 0 ≤ g 6 ∧ g 6 < 80) (h7 : 0 ≤ g 7 ∧ g 7 ≤ 60) : starF g j n F b = g b := by
  unfold starF stJ
  have e := gi_lo (g := g) (F := F) (j := j) (i := n) (b := 7) (by omega)
  unfold gi at e
  rw [put_o (by omega), put_o (by omega), hapF_hi h (by rw [e]; exact h7)]
  exact gi_hi (F := F) hj hn (by omega)
theorem starF_st {g F : Nat → Int} {j n i : Nat} (hj : j < 80) (hn : n ≤ 4) (hi : i < 80) (h6 : 0 ≤ g 6 ∧ g 6 < 80) : starF g j n F (2656 + i) = if i = (g 6).toNat then (j : Int) else g (2656 + i) := by
  unfold starF stJ
  rw [put_o (by omega)]
  by_cases c : i = (g 6).toNat
  · subst c
    rw [if_pos rfl, put_at]
  · rw [if_neg c, put_o (by omega), hapF_lo (by omega) (by omega)]
    exact gi_hi (F := F) hj hn (by omega)
/-- the labels that a start, a promise may change -/
def begFr (s k : Nat) (G G' : Nat → Nat → Int) : Prop := ∀ x, x ≠ s + 6 → x ≠ s + 15 → x ≠ s + 22 → x ≠ s + 23 → x ≠ s + 25 → x ≠ k + 15 → (x < k + 1 ∨ k + 6 ≤ x) → G' x = G x
def began (g : Nat → Int) (j : Nat) (F : Nat → Int) (s k i : Nat) (G G' : Nat → Nat → Int) (l l' : List bR) : Prop :=
  begFr s k G G' ∧ relJ G' s (gi g j F i) ∧ relA G' s (gi g j F i) ∧ (∀ c, G' (s + 25) c = ownF (G (s + 25)) j F (fun a => mAt g j (12 + a)) i c) ∧ (∀ a, G' (k + 15) a = if a = (mAt g j 0).toNat then G (k + 15) a + colsF g j else G (k + 15) a) ∧ boardIs G' (k + 1) l' ∧ allOk l' ∧ l'.length = l.length + i ∧ ∀ r, r ∈ l' ↔ r ∈ l ∨ ∃ a, a < i ∧ r = (bitsN (F a).toNat (mAt g j (12 + a)).toNat, g 0, g 0 + mAt g j (16 + a), -1)
theorem beg_frm {s k : Nat} {A B C : Nat → Nat → Int} (h : begFr s k A B) (h2 : ∀ x, x ≠ s + 6 → x ≠ s + 15 → x ≠ s + 22 → x ≠ s + 23 → x ≠ s + 25 → x ≠ k + 15 → (x < k + 1 ∨ k + 6 ≤ x) → C x = B x) : begFr s k A C := fun x a b c d e f i => (h2 x a b c d e f i).trans (h x a b c d e f i)
/-- one arm more -/
theorem began_s {g F : Nat → Int} {j s k i : Nat} {G G' G2 : Nat → Nat → Int} {l l' : List bR} {v : Int} (hI : rowI g) (hj : j < (g 1).toNat) (hd : s + 39 ≤ k) (hi : i < mArms g j) (hv : v = g 0 + min (mAt g j (16 + i)) (lastF g j i)) (hF : 0 ≤ F i ∧ F i + mAt g j (12 + i) ≤ 16) (h : began g j F s k i G G' l l')
    (hfr : frm (k + 1) (k + 1 + 5) (setRow (upZ (upZ G' (s + 22) (j * 4 + i) (F i)) (s + 23) (j * 4 + i) v) (s + 25) (fun c => if (F i).toNat ≤ c ∧ c < (F i).toNat + (mAt g j (12 + i)).toNat then (j : Int) * 4 + (i : Int) else upZ (upZ G' (s + 22) (j * 4 + i) (F i)) (s + 23) (j * 4 + i) v (s + 25) c)) G2)
    (hb : boardIs G2 (k + 1) (l' ++ [(bitsN (F i).toNat (mAt g j (12 + i)).toNat, g 0, g 0 + mAt g j (16 + i), -1)])) : began g j F s k (i + 1) G G2 l (l' ++ [(bitsN (F i).toNat (mAt g j (12 + i)).toNat, g 0, g 0 + mAt g j (16 + i), -1)]) := by
  obtain ⟨h1, h2, h3, h4, h5, h6, h7, h8, h9⟩ := h
  have hrow := hI.1
  have hjo := row_j hrow hj
  have h4a := jo_4 hjo
  have hn := row_n hrow hj
  have hlab : ∀ x, x ≠ s + 22 → x ≠ s + 23 → x ≠ s + 25 → (x < k + 1 ∨ k + 6 ≤ x) → G2 x = G' x := fun x q1 q2 q3 q4 => by
    rw [hfr x (by omega), setRow_o q3, upZ_ne q2, upZ_ne q1]
  have e22 : G2 (s + 22) = upZ G' (s + 22) (j * 4 + i) (F i) (s + 22) := by
    rw [hfr _ (by omega), setRow_o (by omega), upZ_ne (by omega)]
  have e23 : G2 (s + 23) = upZ G' (s + 23) (j * 4 + i) v (s + 23) := by
    rw [hfr _ (by omega), setRow_o (by omega)]
    funext b
    simp [upZ]
  have e25 : G2 (s + 25) = fun c => if (F i).toNat ≤ c ∧ c < (F i).toNat + (mAt g j (12 + i)).toNat then (j : Int) * 4 + (i : Int) else G' (s + 25) c := by
    rw [hfr _ (by omega), setRow_at, upZ_ne (by omega), upZ_ne (by omega)]
  refine ⟨beg_frm h1 fun x a b c d e f q => hlab x c d e q, ?_, ?_, fun c => ?_, fun a => by rw [hlab (k + 15) (by omega) (by omega) (by omega) (by omega)]; exact h5 a, hb, allOk_app h7 ⟨bitsN_lt (by have := (jo_a hjo hi).1; omega), ?_, ?_, ?_⟩, by simp only [List.length_append, List.length_cons, List.length_nil]; omega, fun r => ?_⟩
  · refine relJ_g (g := gi g j F i) (relJ_r h2 fun x q1 q2 => hlab x (by omega) (by omega) (by omega) (by omega)) (by rw [gi_lo (by omega), gi_lo (by omega)]) (fun x hx => ?_) (fun x w hx hw _ _ => by rw [gi_at (by omega) (by omega), gi_at (by omega) (by omega)])
    rw [gi_lo (by omega)] at hx
    show (mAt _ x 4).toNat ≤ 4
    rw [gi_at (by omega) (by omega), if_neg (by omega), if_neg (by omega)]
    exact (jo_4 (row_j hrow hx)).2.1
  · intro x b hx hb2
    rw [gi_lo (by omega)] at hx
    have em : ∀ i, i ≤ 4 → mArms (gi g j F i) x = mArms g x := fun i hi => by
      show (mAt _ x 4).toNat = _
      rw [gi_at hi (by omega), if_neg (by omega), if_neg (by omega)]
      rfl
    rw [em _ (by omega)] at hb2
    have hb4 := (jo_4 (row_j hrow hx)).2.1
    have h3x := h3 x b (by rw [gi_lo (by omega)]; exact hx) (by rw [em _ (by omega)]; exact hb2)
    obtain ⟨a1, a2, a3, a4⟩ := h3x
    rw [hlab (s + 20) (by omega) (by omega) (by omega) (by omega), hlab (s + 21) (by omega) (by omega) (by omega) (by omega), e22, e23]
    refine ⟨?_, ?_, ?_, ?_⟩
    · rw [a1, gi_s (by omega) (by omega), if_neg (by omega), if_neg (by omega)]
    · rw [a2, gi_s (by omega) (by omega), if_neg (by omega), if_neg (by omega)]
    · rw [gi_s (by omega) (by omega), if_neg (by omega)]
      by_cases c : x = j ∧ b = i
      · obtain ⟨rfl, rfl⟩ := c
        rw [if_pos ⟨rfl, rfl⟩, upR_s]
      · rw [if_neg (by omega), ← a3]
        unfold upZ
        rw [if_neg (by omega)]
    · rw [gi_s (by omega) (by omega)]
      by_cases c : x = j ∧ b = i
      · obtain ⟨rfl, rfl⟩ := c
        rw [if_pos ⟨rfl, rfl⟩, upR_s, hv]
      · rw [if_neg (by omega), if_neg (by omega), ← a4]
        unfold upZ
        rw [if_neg (by omega)]
  · rw [e25, ownF]
    try dsimp only
    rw [h4 c]
  · show 0 ≤ g 0 ∧ g 0 ≤ 1000000000
    have := hrow.2.1
    omega
  · show 0 ≤ g 0 + mAt g j (16 + i) ∧ g 0 + mAt g j (16 + i) ≤ 1000000000
    have := hrow.2.1
    have := (jo_a hjo hi).2.1
    omega
  · show rg (-1); unfold rg; omega
  · rw [List.mem_append, h9 r, List.mem_singleton]
    constructor
    · rintro ((h | ⟨a, ha, rfl⟩) | rfl)
      · exact Or.inl h
      · exact Or.inr ⟨a, by omega, rfl⟩
      · exact Or.inr ⟨i, by omega, rfl⟩
    · rintro (h | ⟨a, ha, rfl⟩)
      · exact Or.inl (Or.inl h)
      · by_cases e : a = i
        · subst e; exact Or.inr rfl
        · exact Or.inl (Or.inr ⟨a, by omega, rfl⟩)
theorem board_r {G G' : Nat → Nat → Int} {b : Nat} {l : List bR} (h : boardIs G b l) (hf : ∀ x, b ≤ x → x ≤ b + 4 → G' x = G x) : boardIs G' b l := by
  unfold boardIs at *
  rw [hf b (by omega) (by omega), hf (b + 1) (by omega) (by omega), hf (b + 2) (by omega) (by omega), hf (b + 3) (by omega) (by omega), hf (b + 4) (by omega) (by omega)]
  exact h
theorem upZ_3 {U : Nat → Nat → Int} {k i1 i2 i3 x : Nat} {v1 v2 v3 : Int} (h : x ≠ k) : upZ (upZ (upZ U k i1 v1) k i2 v2) k i3 v3 x = U x := by
  rw [upZ_ne h, upZ_ne h, upZ_ne h]
theorem ahead_is {p : Bool} : (if p = true then (1 : Int) else 0) = if p = true then 1 else 0 := rfl
theorem began_end {G G' G2 U U2 V : Nat → Nat → Int} {th : Bool} {dd e s k j : Nat} {ahead : Bool} {g : Nat → Int} {f : Nat × (Nat → Int)} {l l' : List bR} (hd : s + 39 ≤ k) (hI : rowI g) (hj : j < (g 1).toNat) (h5 : mAt g j 5 = 0) (h9 : mAt g j 9 < 0) (hf : gfitJ g j (g 0) = some f) (hS : scR th dd e G U s g (V 183)) (hb : began g j f.2 s k (mArms g j) G G' l l')
    (f1 : ∀ x, x ≠ s + 32 → x ≠ s + 34 → x ≠ s + 35 → x ≠ s + 36 → x ≠ s + 37 → G2 x = G' x) (f32 : G2 (s + 32) 0 = g 6 - (dd : Int) + 1) (f323 : evE (G2 (s + 32)) (e + 1)) (f34 : ∀ i, G2 (s + 34) i = if i = (g 6).toNat - dd then (j : Int) else G (s + 34) i) (f35 : ∀ i, i < 60 → G2 (s + 35) i = if i = e % 60 then g 0 else G (s + 35) i) (f36 : ∀ i, i < 60 → G2 (s + 36) i = if i = e % 60 then 1 else G (s + 36) i) (f37 : ∀ i, i < 60 → G2 (s + 37) i = if i = e % 60 then (j : Int) else G (s + 37) i)
    (hU : U2 (s + 3) = U (s + 3)) (u33 : ∀ i, U2 (s + 33) i = if i = 5 then U (s + 33) 5 + (g 0 - mAt g j 11) else if i = 4 then U (s + 33) 4 + (if ahead = true then 1 else 0) else if i = 0 then U (s + 33) 0 + 1 else U (s + 33) i) :
    scR th dd (e + 1) G2 U2 s (starF g j (mArms g j) f.2) (upZ (starU V (g 0 - mAt g j 11)) 183 12 (starU V (g 0 - mAt g j 11) 183 12 + (if ahead = true then 1 else 0)) 183) := by
  obtain ⟨⟨z0, hSB, hSJ, hSA, hSO, hSS, hST, hSe, hSK⟩, hSQ⟩ := hS
  obtain ⟨p1, p2, p3, p4, p5, p6, p7, p8, p9⟩ := hb
  have hrow := hI.1
  have hjo := row_j hrow hj
  have h4 := jo_4 hjo
  have hn := row_n hrow hj
  have h6 := row_6 hI hj (by have := hjo.2.2.2.2.2.2.2.2.2.2.2.2.1 h5; omega)
  have q6 : 0 ≤ g 6 ∧ g 6 < 80 := ⟨hrow.2.2.2.2.2.2.2.1.1, h6⟩
  have h7 := hrow.2.2.2.2.2.2.2.2.1
  have lo := fun b (h : b < 96) (h6 : b ≠ 6) (h7 : b ≠ 7) => starF_lo (g := g) (F := f.2) (j := j) (n := mArms g j) (b := b) h h6 h7
  have e0 := lo 0 (by omega) (by omega) (by omega)
  have e1 := lo 1 (by omega) (by omega) (by omega)
  have at_ := fun x w (hx : x < (g 1).toNat) (hw : w < 32) h => star_at (g := g) (F := f.2) (j := j) (n := mArms g j) (k := x) (w := w) hn (row_n hrow hx) hw h4.2.1 q6 h
  have a4 : ∀ x, x < (g 1).toNat → mArms g x ≤ 4 := fun x hx => (jo_4 (row_j hrow hx)).2.1
  have gi4 : ∀ x, x < (g 1).toNat → mArms (gi g j f.2 (mArms g j)) x = mArms g x := fun x hx => by
    show (mAt _ x 4).toNat = _
    rw [gi_at h4.2.1 (by omega), if_neg (by omega), if_neg (by omega)]
    rfl
  have eV : ∀ i, upZ (starU V (g 0 - mAt g j 11)) 183 12 (starU V (g 0 - mAt g j 11) 183 12 + (if ahead = true then 1 else 0)) 183 i = if i = 12 then V 183 12 + (if ahead = true then 1 else 0) else if i = 13 then V 183 13 + (g 0 - mAt g j 11) else if i = 8 then V 183 8 + 1 else V 183 i := fun i => by
    unfold starU
    by_cases c1 : i = 12
    · subst c1; simp [upZ]
    · by_cases c2 : i = 13
      · subst c2; simp [upZ]
      · by_cases c3 : i = 8
        · subst c3; simp [upZ]
        · simp [upZ, c1, c2, c3]
  -- the row as it stands at the end of the arms' loop
  have gs : ∀ x w, x < 80 → w < 32 → mAt (starF g j (mArms g j) f.2) x w = mAt (gi g j f.2 (mArms g j)) x w := fun x w hx hw => by
    unfold starF stJ
    rw [mAt_put (by omega) hx hw, mAt_put (by omega) hx hw, mAt_hapF hx hw]
    rfl
  have hap : ∀ b, 2736 ≤ b → b < 2916 → starF g j (mArms g j) f.2 b = hapF (gi g j f.2 (mArms g j)) 1 j b := fun b h1 h2 => by
    unfold starF stJ
    rw [put_o (by omega), put_o (by omega)]
    rfl
  have hap7 : starF g j (mArms g j) f.2 7 = hapF (gi g j f.2 (mArms g j)) 1 j 7 := by
    unfold starF stJ
    rw [put_o (by omega), put_o (by omega)]
    rfl
  refine ⟨⟨?_, ?_, ?_, ?_, ?_, ?_, ?_, f323, fun hth => ⟨?_, ?_, ?_, ?_⟩⟩, ?_⟩
  · rw [f1 s (by omega) (by omega) (by omega) (by omega) (by omega), p1 s (by omega) (by omega) (by omega) (by omega) (by omega) (by omega) (by omega)]; exact z0
  · refine relB_g (relB_r hSB (by rw [f1 s (by omega) (by omega) (by omega) (by omega) (by omega), p1 s (by omega) (by omega) (by omega) (by omega) (by omega) (by omega) (by omega)]) (fun x _ _ => by rw [f1 x (by omega) (by omega) (by omega) (by omega) (by omega), p1 x (by omega) (by omega) (by omega) (by omega) (by omega) (by omega) (by omega)]) hU) e0 (fun b _ _ _ h6 h7 => lo b (by omega) h6 h7) (fun a ha => by rw [eV, if_neg (by omega), if_neg (by omega), if_neg (by omega)])
  · refine relJ_g (g := gi g j f.2 (mArms g j)) (relJ_r p2 fun x _ _ => f1 x (by omega) (by omega) (by omega) (by omega) (by omega)) (by rw [e1, gi_lo (by omega)]) (fun x hx => ?_) (fun x w hx hw _ _ => gs x w ?_ (by omega))
    · rw [gi_lo (by omega)] at hx
      rw [gi4 x hx]
      exact a4 x hx
    · rw [gi_lo (by omega)] at hx
      exact row_n hrow hx
  · refine relA_g (g := gi g j f.2 (mArms g j)) (relA_r p3 fun x _ _ => f1 x (by omega) (by omega) (by omega) (by omega) (by omega)) (by rw [e1, gi_lo (by omega)]) (fun x hx => ?_) (fun x w hx _ _ => gs x w ?_ (by omega))
    · rw [gi_lo (by omega)] at hx
      exact ⟨by rw [gi4 x hx]; exact a4 x hx, gs x 4 (row_n hrow hx) (by omega)⟩
    · rw [gi_lo (by omega)] at hx
      exact row_n hrow hx
  · intro c hc
    have hbt := fit_bits (c := c) hrow hj hf
    have hfi := (fit_idle hrow hj hf).2.2 c
    have eo : G2 (s + 25) c = ownF (G (s + 25)) j f.2 (fun a => mAt g j (12 + a)) (mArms g j) c := by
      rw [f1 _ (by omega) (by omega) (by omega) (by omega) (by omega)]
      exact p4 c
    rw [eo]
    refine ⟨fun x a hx => ?_, fun hno => ?_⟩
    · rcases (star_ho hrow hj h6).mp hx with ⟨h1, h2⟩ | ⟨rfl, h1, h2⟩
      · rw [ownF_no]
        · exact (hSO c hc).1 x a h2
        · intro b hb
          rw [← Bool.not_eq_true]
          intro h3
          exact hfi x a (hbt.1.mpr ⟨b, hb, h3⟩) h2
      · exact ownF_yes _ h1 h2 fun b hb hb2 => hbt.2 a b h1 hb h2 hb2
    · have hno2 := fun x a h => hno x a ((star_ho hrow hj h6).mpr h)
      rw [ownF_no]
      · refine (hSO c hc).2 fun x a h => ?_
        by_cases ex : x = j
        · subst ex
          have := (holds_1 h.2.2.1).1
          omega
        · exact hno2 x a (Or.inl ⟨ex, h⟩)
      · intro b hb
        rw [← Bool.not_eq_true]
        intro h3
        exact hno2 j b (Or.inr ⟨rfl, hb, h3⟩)
  · exact relS_g (relS_r hSS fun x _ _ => by rw [f1 x (by omega) (by omega) (by omega) (by omega) (by omega), p1 x (by omega) (by omega) (by omega) (by omega) (by omega) (by omega) (by omega)]) (lo 5 (by omega) (by omega) (by omega)) (fun b _ h => lo b h (by omega) (by omega))
  · obtain ⟨t1, t2, t3⟩ := hST
    refine ⟨by rw [starF_6]; omega, by rw [f32, starF_6]; omega, fun i hi => ?_⟩
    rw [starF_6] at hi
    rw [f34, starF_st hn h4.2.1 (by omega) q6]
    by_cases c : i = (g 6).toNat - dd
    · rw [if_pos c, if_pos (by omega)]
    · rw [if_neg c, if_neg (by omega)]
      exact t3 i (by omega)
  · refine relF_g (relF_r (hSK hth).1 (by rw [f1 _ (by omega) (by omega) (by omega) (by omega) (by omega), p1 _ (by omega) (by omega) (by omega) (by omega) (by omega) (by omega) (by omega)])) e1 (fun x hx => at_ x 8 hx (by omega) (by omega))
  · have hL := (hSK hth).2.1
    intro i hi
    rw [eV, u33, hL 5 (by omega), hL 4 (by omega), hL 0 (by omega), hL i hi]
    by_cases c1 : i = 5
    · subst c1; rfl
    · by_cases c2 : i = 4
      · subst c2; rfl
      · by_cases c3 : i = 0
        · subst c3; rfl
        · rw [if_neg c1, if_neg c2, if_neg c3, if_neg (by omega), if_neg (by omega), if_neg (by omega)]
  · have hE : relE G s e (gi g j f.2 (mArms g j)) := relE_g (hSK hth).2.2.1 (gi_lo (by omega)) (fun b _ _ => gi_hi hn h4.2.1 (by omega))
    exact relE_g (relE_note (k := 1) (j := (j : Int)) (G' := G2) hE (fun i hi => by rw [f35 i hi, gi_lo (by omega)]) f36 f37) hap7 hap
  · exact relC_g (relC_r (hSK hth).2.2.2 (by rw [f1 _ (by omega) (by omega) (by omega) (by omega) (by omega), p1 _ (by omega) (by omega) (by omega) (by omega) (by omega) (by omega) (by omega)])) (fun b h _ => starF_hi hn h4.2.1 h q6 h7)
  · exact relQ_g (relQ_r hSQ (by rw [f1 _ (by omega) (by omega) (by omega) (by omega) (by omega), p1 _ (by omega) (by omega) (by omega) (by omega) (by omega) (by omega) (by omega)]) (by rw [f1 _ (by omega) (by omega) (by omega) (by omega) (by omega), p1 _ (by omega) (by omega) (by omega) (by omega) (by omega) (by omega) (by omega)])) e1 (fun x hx => ⟨a4 x hx, at_ x 4 hx (by omega) (by omega)⟩) (fun x w hx hw => at_ x w hx (by omega) (by omega))
set_option maxHeartbeats 1000000 in
theorem Sd_begin {G U V : Nat → Nat → Int} {th : Bool} {dd e s k j : Nat} {ahead : Bool} {g : Nat → Int} {f : Nat × (Nat → Int)} {l : List bR} {R : Option pV → pM → Prop} (hs : isScene s) (hk : isScheduler k) (hd : s + 39 ≤ k) (hI : rowI g) (hj : j < (g 1).toNat) (h5 : mAt g j 5 = 0) (h9 : mAt g j 9 < 0) (hf : gfitJ g j (g 0) = some f) (hS : scR th dd e G U s g (V 183)) (he : e < 2000000000) (hG : gangIs G (k + 6) (mArms g j) (fun a => mAt g j (12 + a)) (fun a => mAt g j (16 + a))) (hF : ∀ a, a < mArms g j → G (k + 9) a = f.2 a) (hB : boardIs G (k + 1) l) (hok : allOk l) (hl : l.length + mArms g j ≤ 44)
    (hR : ∀ G' U' l', (∀ x, (x < s ∨ s + 39 ≤ x) → x ≠ k + 15 → (x < k + 1 ∨ k + 6 ≤ x) → G' x = G x) → (∀ x, x ≠ s + 33 → U' x = U x) → scR th dd (e + 1) G' U' s (starF g j (mArms g j) f.2) (upZ (starU V (g 0 - mAt g j 11)) 183 12 (starU V (g 0 - mAt g j 11) 183 12 + (if ahead = true then 1 else 0)) 183) → (∀ a, G' (k + 15) a = if a = (mAt g j 0).toNat then G (k + 15) a + colsF g j else G (k + 15) a) → boardIs G' (k + 1) l' → allOk l' → l'.length = l.length + mArms g j → (∀ r, r ∈ l' ↔ r ∈ l ∨ ∃ a, a < mArms g j ∧ r = (bitsN (f.2 a).toNat (mAt g j (12 + a)).toNat, g 0, g 0 + mAt g j (16 + a), -1)) → R none (zM G' U')) : WpF F_Scheduler_begin [pR k, pR s, pI (Int32.ofInt (j : Int)), pI (zI ahead)] (zM G U) R := by
  have hsj := S_Scene_jobs hs
  have hsa := S_Scene_arms hs
  have hsb := S_Scene_book hs
  have hkb := S_Scheduler_board hk
  have hkg := S_Scheduler_gang hk
  obtain ⟨⟨z0, hSB, hSJ, hSA, hSO, hSS, hST, hSe, hSK⟩, hSQ⟩ := hS
  have hrow := hI.1
  have hjo := row_j hrow hj
  have h4 := jo_4 hjo
  have hn := row_n hrow hj
  have h6 := row_6 hI hj (by have := hjo.2.2.2.2.2.2.2.2.2.2.2.2.1 h5; omega)
  have q6 : 0 ≤ g 6 ∧ g 6 < 80 := ⟨hrow.2.2.2.2.2.2.2.1.1, h6⟩
  have h7 := hrow.2.2.2.2.2.2.2.2.1
  have b0 := hjo.1
  have b11 := hjo.2.2.2.2.2.2.2.2.2.2.2.1
  have r2 := hrow.2.1
  obtain ⟨j5, j0, j1, j2, j3, j4, jc, j10, j11, j6, j7⟩ := hSJ.2 j hj
  have hin := fun a ha => fit_in (a := a) hrow hj hf ha
  have eB := hSB.1
  obtain ⟨g0, g1, -⟩ := hG
  unfold F_Scheduler_begin B_Scheduler_begin
  apply wBody (Nat.le_of_ble_eq_true rfl)
  repeat' first | with_reducible apply wSeq | with_reducible apply wAsI | with_reducible apply wAsR | ((with_reducible apply wInc); rfl) | with_reducible apply wKil | with_reducible apply wRV | with_reducible apply wAst2 | with_reducible apply wAmdA2 | with_reducible apply wAmdS2 | with_reducible apply wLmdA2 | with_reducible apply wVd | with_reducible apply wB_e | (intro h; try simp only [Bool.and_eq_true, Bool.or_eq_true, Bool.not_eq_true', Bool.not_eq_false', Bool.and_eq_false_imp, Bool.or_eq_false_iff, decide_eq_true_eq, decide_eq_false_iff_not, Bool.not_true, Bool.not_false, Bool.true_eq_false, Bool.false_eq_true, Bool.not_not] at h) | with_reducible apply wN1 | with_reducible apply wN2 | with_reducible apply wN3 | with_reducible apply wN4 | with_reducible apply wN0 | with_reducible apply wE0 | with_reducible apply wXI | with_reducible apply wXB | with_reducible exact eK | with_reducible exact eKJ | ((with_reducible apply eL); rfl) | ((with_reducible apply eLR); rfl) | ((with_reducible apply eLZ); rfl) | with_reducible exact eAN | with_reducible apply eAdd | with_reducible apply eSub | with_reducible apply eMul | with_reducible apply eWJ | with_reducible apply eMin | with_reducible apply eLt | with_reducible apply eIteI | with_reducible apply eIteJ | with_reducible apply eIte | with_reducible apply eArr2 | with_reducible apply eFld2 | with_reducible apply eAI | with_reducible apply eAR | with_reducible apply eCI | with_reducible apply eCZ | with_reducible apply wRc | with_reducible exact ckv99 | with_reducible apply R_Scene_jobs | with_reducible apply R_Scene_arms | with_reducible apply R_Scene_book | with_reducible apply R_Jobs_state | with_reducible apply R_Jobs_account | with_reducible apply R_Jobs_columns | with_reducible apply R_Jobs_came | with_reducible apply R_Jobs_start | with_reducible apply R_Arms_column | with_reducible apply R_Arms_end | with_reducible apply R_Book_figures | with_reducible apply R_Scheduler_board | with_reducible apply R_Scheduler_gang | with_reducible apply R_Scheduler_held | with_reducible apply R_Gang_wide | with_reducible apply R_Gang_asks | with_reducible apply R_Gang_column | with_reducible exact C_Scene (by assumption) | with_reducible exact K_Scene_now (by assumption) | with_reducible exact S_Scene_jobs (by assumption) | with_reducible exact C_Jobs (S_Scene_jobs (by assumption)) | with_reducible exact S_Scene_arms (by assumption) | with_reducible exact C_Arms (S_Scene_arms (by assumption)) | with_reducible exact S_Scene_book (by assumption) | with_reducible exact C_Book (S_Scene_book (by assumption)) | with_reducible exact N_Jobs_state (by assumption) | with_reducible exact N_Jobs_account (by assumption) | with_reducible exact N_Jobs_columns (by assumption) | with_reducible exact N_Jobs_came (by assumption) | with_reducible exact N_Jobs_start (by assumption) | with_reducible exact C_Arms (by assumption) | with_reducible exact N_Arms_column (by assumption) | with_reducible exact N_Arms_end (by assumption) | with_reducible exact C_Book (by assumption) | with_reducible exact N_Book_figures (by assumption) | with_reducible exact S_Scheduler_board (by assumption) | with_reducible exact C_Board (S_Scheduler_board (by assumption)) | with_reducible exact S_Scheduler_gang (by assumption) | with_reducible exact C_Gang (S_Scheduler_gang (by assumption)) | with_reducible exact N_Scheduler_held (by assumption) | with_reducible exact C_Board (by assumption) | with_reducible exact K_Gang_size (by assumption) | with_reducible exact N_Gang_wide (by assumption) | with_reducible exact N_Gang_asks (by assumption) | with_reducible exact N_Gang_column (by assumption) | with_reducible exact Int.toNat_natCast _ | with_reducible exact tn0 | with_reducible exact tn1 | with_reducible exact tn2 | with_reducible exact tn3 | with_reducible exact tn4 | with_reducible exact tn5 | with_reducible exact tn6 | with_reducible exact tn7 | with_reducible exact tn8 | with_reducible exact tn9 | with_reducible exact tn10 | with_reducible exact tn11 | with_reducible exact tn12 | with_reducible exact tn13 | with_reducible exact tn14 | with_reducible exact tn15 | with_reducible exact tn16 | with_reducible exact tnK0 | with_reducible exact tnK4 | with_reducible exact tnK8 | with_reducible exact tnK12 | with_reducible exact tnK16 | with_reducible exact tnK20 | with_reducible exact tnK24 | with_reducible exact tnK28 | with_reducible exact tnK32 | with_reducible exact tnJA | with_reducible exact tnA | with_reducible exact upR_s | ((with_reducible apply upR_a); (first | decide | omega)) | ((with_reducible apply upR_b); (first | decide | omega)) | ((with_reducible apply noteR_a); (first | decide | omega)) | ((with_reducible apply noteR_b); (first | decide | omega)) | exact Nat.le_of_ble_eq_true rfl | with_reducible assumption | with_reducible exact rfl | omega | with_reducible apply wAnd | decide +kernel
  refine wWh (fun i L σ => ∃ G' l', L = [some (pR k), some (pR s), some (pI (Int32.ofInt (j : Int))), some (pI (zI ahead)), some (pR (s + 5)), some (pI (Int32.ofInt (i : Int))), none] ∧ σ = zM G' U ∧ began g j f.2 s k i G G' l l') (mArms g j) (by omega) ⟨_, l, rfl, rfl, fun x a b c d e f q => by rw [upZ_ne f, upZ_ne b, upZ_ne a], ?_, ?_, fun c => by rw [upZ_ne (by omega), upZ_ne (by omega), upZ_ne (by omega)]; rfl, fun a => ?_, board_r hB (fun x _ _ => by rw [upZ_ne (by omega), upZ_ne (by omega), upZ_ne (by omega)]), hok, rfl, fun r => ⟨Or.inl, fun h => h.elim id fun ⟨c, hc, _⟩ => absurd hc (Nat.not_lt_zero c)⟩⟩ ?_
  · refine relJ_r (G := upZ (upZ G (s + 6) j 1) (s + 15) j (g 0)) ?_ (fun x _ _ => upZ_ne (by omega))
    refine ⟨by rw [upZ_ne (by omega), upZ_ne (by omega), gi_lo (by omega)]; exact hSJ.1, fun x hx => ?_⟩
    rw [gi_lo (by omega)] at hx
    have hcx : colsF (gi g j f.2 0) x = colsF g x := colsF_g (by rw [gi_0 (by omega), if_neg (by omega), if_neg (by omega)]) (jo_4 (row_j hrow hx)).2.1 fun w q1 q2 => by rw [gi_0 (by omega), if_neg (by omega), if_neg (by omega)]
    obtain ⟨x5, x0, x1, x2, x3, x4, xc, x10, x11, x6, x7⟩ := hSJ.2 x hx
    have cell := fun w (hw : w < 32) => gi_0 (g := g) (F := f.2) (j := j) (k := x) (w := w) hw
    rw [hcx, cell 5 (by omega), cell 0 (by omega), cell 1 (by omega), cell 2 (by omega), cell 3 (by omega), cell 4 (by omega), cell 10 (by omega), cell 11 (by omega), cell 6 (by omega), cell 7 (by omega)]
    by_cases e : x = j
    · subst e
      simp [upZ, x0, x1, x2, x3, x4, xc, x10, x11, x7]
    · simp [upZ, e, x5, x0, x1, x2, x3, x4, xc, x10, x11, x6, x7]
  · refine relA_r (G := G) (relA_g hSA (by rw [gi_lo (by omega)]) (fun x hx => ⟨(jo_4 (row_j hrow hx)).2.1, by rw [gi_0 (by omega), if_neg (by omega), if_neg (by omega)]⟩) (fun x w hx q1 q2 => by rw [gi_0 (by omega), if_neg (by omega), if_neg (by omega)])) fun x q1 q2 => by rw [upZ_ne (by omega), upZ_ne (by omega), upZ_ne (by omega)]
  · simp only [upZ]
    by_cases e : a = (mAt g j 0).toNat
    · subst e; simp
    · simp [e, show ¬ k = s by omega, show ¬ k + 15 = s + 6 by omega, show ¬ k + 15 = s + 15 by omega, show ¬ k + 9 = s by omega]
  rintro i _ _ hi ⟨G', l', rfl, rfl, hb⟩
  rcases Nat.lt_or_ge i (mArms g j) with hlt | hge
  · have hb0 := hb
    obtain ⟨p1, p2, p3, p4, p5, p6, p7, p8, p9⟩ := hb
    obtain ⟨k1, k2, k3⟩ := jo_a hjo hlt
    have k4 := lastF_1 (g := g) (j := j) (a := i)
    have k5 := hin i hlt
    obtain ⟨a1, a2, -, -⟩ := p3 j i (by rw [gi_lo (by omega)]; exact hj) (by show i < (mAt _ j 4).toNat; rw [gi_at (by omega) (by omega), if_neg (by omega), if_neg (by omega)]; exact hlt)
    obtain ⟨-, -, -, y2, -, -, -, -, -, y6, -⟩ := p2.2 j (by rw [gi_lo (by omega)]; exact hj)
    rw [gi_at (by omega) (by omega), if_neg (by omega), if_neg (by omega)] at a1 a2 y2
    rw [gi_at (by omega) (by omega), if_pos ⟨rfl, rfl⟩] at y6
    have hla : F_Scene_lasts [pR s, pI (Int32.ofInt ((j : Int) * 4 + (i : Int)))] (zM (upZ G' (s + 22) (j * 4 + i) (f.2 i)) U) = some (some (pI (Int32.ofInt (lastF g j i))), zM (upZ G' (s + 22) (j * 4 + i) (f.2 i)) U) := Sc_lasts0 hs hn (by omega) (by rw [upZ_ne (by omega)]; exact a2) (by rw [upZ_ne (by omega)]; exact y2) (by omega) (by have := hjo.2.2.1; omega)
    have hl9 : lastF g j i ≤ 1000000 := by
      have hb2 := hjo.2.2.1
      have := Int.mul_le_mul k2.2 hb2.2 (by omega) (by omega)
      unfold lastF
      omega
    generalize hle : lastF g j i = la at *
    have e0 : G' s 1 = g 0 := by rw [p1 s (by omega) (by omega) (by omega) (by omega) (by omega) (by omega) (by omega)]; exact eB
    have e1 : G' (k + 6) 0 = (mArms g j : Int) := by rw [p1 _ (by omega) (by omega) (by omega) (by omega) (by omega) (by omega) (by omega)]; exact g0
    have e2 : G' (k + 7) i = mAt g j (12 + i) := by rw [p1 _ (by omega) (by omega) (by omega) (by omega) (by omega) (by omega) (by omega)]; exact (g1 i hlt).1
    have e3 : G' (k + 8) i = mAt g j (16 + i) := by rw [p1 _ (by omega) (by omega) (by omega) (by omega) (by omega) (by omega) (by omega)]; exact (g1 i hlt).2
    have e4 : G' (k + 9) i = f.2 i := by rw [p1 _ (by omega) (by omega) (by omega) (by omega) (by omega) (by omega) (by omega)]; exact hF i hlt
    have hmk : ∀ τ, F_X_maskOf [pI (Int32.ofInt (f.2 i)), pI (Int32.ofInt (mAt g j (12 + i)))] τ = some (some (pI (Int32.ofInt ((bitsN (f.2 i).toNat (mAt g j (12 + i)).toNat : Nat) : Int))), τ) := fun τ => X_maskOfZ (by omega) (by omega)
    have hstep := fun G2 => began_s (G2 := G2) (v := g 0 + min (mAt g j (16 + i)) la) hI hj hd hlt (by rw [hle]) k5 hb0
    clear hb0 p2 p3 p4 p5 p9
    repeat' first | with_reducible apply wSeq | with_reducible apply wAsI | with_reducible apply wAsR | ((with_reducible apply wInc); rfl) | with_reducible apply wKil | with_reducible apply wRV | with_reducible apply wAst2 | with_reducible apply wAmdA2 | with_reducible apply wAmdS2 | with_reducible apply wLmdA2 | with_reducible apply wVd | with_reducible apply wB_e | (intro h; try simp only [Bool.and_eq_true, Bool.or_eq_true, Bool.not_eq_true', Bool.not_eq_false', Bool.and_eq_false_imp, Bool.or_eq_false_iff, decide_eq_true_eq, decide_eq_false_iff_not, Bool.not_true, Bool.not_false, Bool.true_eq_false, Bool.false_eq_true, Bool.not_not] at h) | with_reducible apply wN1 | with_reducible apply wN2 | with_reducible apply wN3 | with_reducible apply wN4 | with_reducible apply wN0 | with_reducible apply wE0 | with_reducible apply wXI | with_reducible apply wXB | with_reducible exact tnJA | with_reducible exact hla | with_reducible exact eK | with_reducible exact eKJ | ((with_reducible apply eL); rfl) | ((with_reducible apply eLR); rfl) | ((with_reducible apply eLZ); rfl) | with_reducible exact eAN | with_reducible apply eAdd | with_reducible apply eSub | with_reducible apply eMul | with_reducible apply eWJ | with_reducible apply eMin | with_reducible apply eLt | with_reducible apply eIteI | with_reducible apply eIteJ | with_reducible apply eIte | with_reducible apply eArr2 | with_reducible apply eFld2 | with_reducible apply eAI | with_reducible apply eAR | with_reducible apply eCI | with_reducible apply eCZ | with_reducible apply wRc | with_reducible exact ckv99 | with_reducible apply R_Scene_jobs | with_reducible apply R_Scene_arms | with_reducible apply R_Scene_book | with_reducible apply R_Jobs_state | with_reducible apply R_Jobs_account | with_reducible apply R_Jobs_columns | with_reducible apply R_Jobs_came | with_reducible apply R_Jobs_start | with_reducible apply R_Arms_column | with_reducible apply R_Arms_end | with_reducible apply R_Book_figures | with_reducible apply R_Scheduler_board | with_reducible apply R_Scheduler_gang | with_reducible apply R_Scheduler_held | with_reducible apply R_Gang_wide | with_reducible apply R_Gang_asks | with_reducible apply R_Gang_column | with_reducible exact C_Scene (by assumption) | with_reducible exact K_Scene_now (by assumption) | with_reducible exact S_Scene_jobs (by assumption) | with_reducible exact C_Jobs (S_Scene_jobs (by assumption)) | with_reducible exact S_Scene_arms (by assumption) | with_reducible exact C_Arms (S_Scene_arms (by assumption)) | with_reducible exact S_Scene_book (by assumption) | with_reducible exact C_Book (S_Scene_book (by assumption)) | with_reducible exact N_Jobs_state (by assumption) | with_reducible exact N_Jobs_account (by assumption) | with_reducible exact N_Jobs_columns (by assumption) | with_reducible exact N_Jobs_came (by assumption) | with_reducible exact N_Jobs_start (by assumption) | with_reducible exact C_Arms (by assumption) | with_reducible exact N_Arms_column (by assumption) | with_reducible exact N_Arms_end (by assumption) | with_reducible exact C_Book (by assumption) | with_reducible exact N_Book_figures (by assumption) | with_reducible exact S_Scheduler_board (by assumption) | with_reducible exact C_Board (S_Scheduler_board (by assumption)) | with_reducible exact S_Scheduler_gang (by assumption) | with_reducible exact C_Gang (S_Scheduler_gang (by assumption)) | with_reducible exact N_Scheduler_held (by assumption) | with_reducible exact C_Board (by assumption) | with_reducible exact K_Gang_size (by assumption) | with_reducible exact N_Gang_wide (by assumption) | with_reducible exact N_Gang_asks (by assumption) | with_reducible exact N_Gang_column (by assumption) | with_reducible exact Int.toNat_natCast _ | with_reducible exact tn0 | with_reducible exact tn1 | with_reducible exact tn2 | with_reducible exact tn3 | with_reducible exact tn4 | with_reducible exact tn5 | with_reducible exact tn6 | with_reducible exact tn7 | with_reducible exact tn8 | with_reducible exact tn9 | with_reducible exact tn10 | with_reducible exact tn11 | with_reducible exact tn12 | with_reducible exact tn13 | with_reducible exact tn14 | with_reducible exact tn15 | with_reducible exact tn16 | with_reducible exact tnK0 | with_reducible exact tnK4 | with_reducible exact tnK8 | with_reducible exact tnK12 | with_reducible exact tnK16 | with_reducible exact tnK20 | with_reducible exact tnK24 | with_reducible exact tnK28 | with_reducible exact tnK32 | with_reducible exact tnJA | with_reducible exact tnA | with_reducible exact upR_s | ((with_reducible apply upR_a); (first | decide | omega)) | ((with_reducible apply upR_b); (first | decide | omega)) | ((with_reducible apply noteR_a); (first | decide | omega)) | ((with_reducible apply noteR_b); (first | decide | omega)) | exact Nat.le_of_ble_eq_true rfl | with_reducible assumption | with_reducible exact rfl | omega | with_reducible apply wAnd | decide +kernel
    refine wF_e (Ar_own (col := (f.2 i).toNat) (w := (mAt g j (12 + i)).toNat) hsa hn (by omega) (by rw [upZ_ne (by omega), upR_s]; omega) (by rw [upZ_ne (by omega), upZ_ne (by omega), a1]; omega) (by omega)) ⟨rfl, ?_⟩
    have hke := Sc_knownEnd0 (U := U) (G := setRow (upZ (upZ G' (s + 22) (j * 4 + i) (f.2 i)) (s + 23) (j * 4 + i) (g 0 + min (mAt g j (16 + i)) la)) (s + 25) (fun c => if (f.2 i).toNat ≤ c ∧ c < (f.2 i).toNat + (mAt g j (12 + i)).toNat then (j : Int) * 4 + (i : Int) else upZ (upZ G' (s + 22) (j * 4 + i) (f.2 i)) (s + 23) (j * 4 + i) (g 0 + min (mAt g j (16 + i)) la) (s + 25) c)) (j := j) (a := i) (x := g 0) (y := mAt g j (16 + i)) hs hn (by omega) (by rw [setRow_o (by omega), upZ_ne (by omega), upZ_ne (by omega)]; exact y6) (by rw [setRow_o (by omega), upZ_ne (by omega), upZ_ne (by omega)]; exact a2)
    have hbr := board_r (G' := setRow (upZ (upZ G' (s + 22) (j * 4 + i) (f.2 i)) (s + 23) (j * 4 + i) (g 0 + min (mAt g j (16 + i)) la)) (s + 25) (fun c => if (f.2 i).toNat ≤ c ∧ c < (f.2 i).toNat + (mAt g j (12 + i)).toNat then (j : Int) * 4 + (i : Int) else upZ (upZ G' (s + 22) (j * 4 + i) (f.2 i)) (s + 23) (j * 4 + i) (g 0 + min (mAt g j (16 + i)) la) (s + 25) c)) p6 (fun x _ _ => by rw [setRow_o (by omega), upZ_ne (by omega), upZ_ne (by omega)])
    have f0 : setRow (upZ (upZ G' (s + 22) (j * 4 + i) (f.2 i)) (s + 23) (j * 4 + i) (g 0 + min (mAt g j (16 + i)) la)) (s + 25) (fun c => if (f.2 i).toNat ≤ c ∧ c < (f.2 i).toNat + (mAt g j (12 + i)).toNat then (j : Int) * 4 + (i : Int) else upZ (upZ G' (s + 22) (j * 4 + i) (f.2 i)) (s + 23) (j * 4 + i) (g 0 + min (mAt g j (16 + i)) la) (s + 25) c) s 1 = g 0 := by rw [setRow_o (by omega), upZ_ne (by omega), upZ_ne (by omega)]; exact e0
    have f4 : setRow (upZ (upZ G' (s + 22) (j * 4 + i) (f.2 i)) (s + 23) (j * 4 + i) (g 0 + min (mAt g j (16 + i)) la)) (s + 25) (fun c => if (f.2 i).toNat ≤ c ∧ c < (f.2 i).toNat + (mAt g j (12 + i)).toNat then (j : Int) * 4 + (i : Int) else upZ (upZ G' (s + 22) (j * 4 + i) (f.2 i)) (s + 23) (j * 4 + i) (g 0 + min (mAt g j (16 + i)) la) (s + 25) c) (k + 9) i = f.2 i := by rw [setRow_o (by omega), upZ_ne (by omega), upZ_ne (by omega)]; exact e4
    have f2 : setRow (upZ (upZ G' (s + 22) (j * 4 + i) (f.2 i)) (s + 23) (j * 4 + i) (g 0 + min (mAt g j (16 + i)) la)) (s + 25) (fun c => if (f.2 i).toNat ≤ c ∧ c < (f.2 i).toNat + (mAt g j (12 + i)).toNat then (j : Int) * 4 + (i : Int) else upZ (upZ G' (s + 22) (j * 4 + i) (f.2 i)) (s + 23) (j * 4 + i) (g 0 + min (mAt g j (16 + i)) la) (s + 25) c) (k + 7) i = mAt g j (12 + i) := by rw [setRow_o (by omega), upZ_ne (by omega), upZ_ne (by omega)]; exact e2
    repeat' first | with_reducible apply wSeq | with_reducible apply wAsI | with_reducible apply wAsR | ((with_reducible apply wInc); rfl) | with_reducible apply wKil | with_reducible apply wRV | with_reducible apply wAst2 | with_reducible apply wAmdA2 | with_reducible apply wAmdS2 | with_reducible apply wLmdA2 | with_reducible apply wVd | with_reducible apply wB_e | (intro h; try simp only [Bool.and_eq_true, Bool.or_eq_true, Bool.not_eq_true', Bool.not_eq_false', Bool.and_eq_false_imp, Bool.or_eq_false_iff, decide_eq_true_eq, decide_eq_false_iff_not, Bool.not_true, Bool.not_false, Bool.true_eq_false, Bool.false_eq_true, Bool.not_not] at h) | with_reducible apply wN1 | with_reducible apply wN2 | with_reducible apply wN3 | with_reducible apply wN4 | with_reducible apply wN0 | with_reducible apply wE0 | with_reducible apply wXI | with_reducible apply wXB | with_reducible exact f0 | with_reducible exact f2 | with_reducible exact f4 | with_reducible exact hke | with_reducible exact hmk _ | with_reducible exact eK | with_reducible exact eKJ | ((with_reducible apply eL); rfl) | ((with_reducible apply eLR); rfl) | ((with_reducible apply eLZ); rfl) | with_reducible exact eAN | with_reducible apply eAdd | with_reducible apply eSub | with_reducible apply eMul | with_reducible apply eWJ | with_reducible apply eMin | with_reducible apply eLt | with_reducible apply eIteI | with_reducible apply eIteJ | with_reducible apply eIte | with_reducible apply eArr2 | with_reducible apply eFld2 | with_reducible apply eAI | with_reducible apply eAR | with_reducible apply eCI | with_reducible apply eCZ | with_reducible apply wRc | with_reducible exact ckv99 | with_reducible apply R_Scene_jobs | with_reducible apply R_Scene_arms | with_reducible apply R_Scene_book | with_reducible apply R_Jobs_state | with_reducible apply R_Jobs_account | with_reducible apply R_Jobs_columns | with_reducible apply R_Jobs_came | with_reducible apply R_Jobs_start | with_reducible apply R_Arms_column | with_reducible apply R_Arms_end | with_reducible apply R_Book_figures | with_reducible apply R_Scheduler_board | with_reducible apply R_Scheduler_gang | with_reducible apply R_Scheduler_held | with_reducible apply R_Gang_wide | with_reducible apply R_Gang_asks | with_reducible apply R_Gang_column | with_reducible exact C_Scene (by assumption) | with_reducible exact K_Scene_now (by assumption) | with_reducible exact S_Scene_jobs (by assumption) | with_reducible exact C_Jobs (S_Scene_jobs (by assumption)) | with_reducible exact S_Scene_arms (by assumption) | with_reducible exact C_Arms (S_Scene_arms (by assumption)) | with_reducible exact S_Scene_book (by assumption) | with_reducible exact C_Book (S_Scene_book (by assumption)) | with_reducible exact N_Jobs_state (by assumption) | with_reducible exact N_Jobs_account (by assumption) | with_reducible exact N_Jobs_columns (by assumption) | with_reducible exact N_Jobs_came (by assumption) | with_reducible exact N_Jobs_start (by assumption) | with_reducible exact C_Arms (by assumption) | with_reducible exact N_Arms_column (by assumption) | with_reducible exact N_Arms_end (by assumption) | with_reducible exact C_Book (by assumption) | with_reducible exact N_Book_figures (by assumption) | with_reducible exact S_Scheduler_board (by assumption) | with_reducible exact C_Board (S_Scheduler_board (by assumption)) | with_reducible exact S_Scheduler_gang (by assumption) | with_reducible exact C_Gang (S_Scheduler_gang (by assumption)) | with_reducible exact N_Scheduler_held (by assumption) | with_reducible exact C_Board (by assumption) | with_reducible exact K_Gang_size (by assumption) | with_reducible exact N_Gang_wide (by assumption) | with_reducible exact N_Gang_asks (by assumption) | with_reducible exact N_Gang_column (by assumption) | with_reducible exact Int.toNat_natCast _ | with_reducible exact tn0 | with_reducible exact tn1 | with_reducible exact tn2 | with_reducible exact tn3 | with_reducible exact tn4 | with_reducible exact tn5 | with_reducible exact tn6 | with_reducible exact tn7 | with_reducible exact tn8 | with_reducible exact tn9 | with_reducible exact tn10 | with_reducible exact tn11 | with_reducible exact tn12 | with_reducible exact tn13 | with_reducible exact tn14 | with_reducible exact tn15 | with_reducible exact tn16 | with_reducible exact tnK0 | with_reducible exact tnK4 | with_reducible exact tnK8 | with_reducible exact tnK12 | with_reducible exact tnK16 | with_reducible exact tnK20 | with_reducible exact tnK24 | with_reducible exact tnK28 | with_reducible exact tnK32 | with_reducible exact tnJA | with_reducible exact tnA | with_reducible exact upR_s | ((with_reducible apply upR_a); (first | decide | omega)) | ((with_reducible apply upR_b); (first | decide | omega)) | ((with_reducible apply noteR_a); (first | decide | omega)) | ((with_reducible apply noteR_b); (first | decide | omega)) | exact Nat.le_of_ble_eq_true rfl | with_reducible assumption | with_reducible exact rfl | omega | with_reducible apply wAnd | decide +kernel
    refine Bd_add hkb hbr (by omega) (fun G2 hf2 hbl2 => ⟨rfl, ?_⟩)
    have hfin := hstep G2 hf2 hbl2
    clear hstep hke hbr f0 f2 f4 hla
    repeat' first | with_reducible apply wSeq | with_reducible apply wAsI | with_reducible apply wAsR | ((with_reducible apply wInc); rfl) | with_reducible apply wKil | with_reducible apply wRV | with_reducible apply wAst2 | with_reducible apply wAmdA2 | with_reducible apply wAmdS2 | with_reducible apply wLmdA2 | with_reducible apply wVd | with_reducible apply wB_e | (intro h; try simp only [Bool.and_eq_true, Bool.or_eq_true, Bool.not_eq_true', Bool.not_eq_false', Bool.and_eq_false_imp, Bool.or_eq_false_iff, decide_eq_true_eq, decide_eq_false_iff_not, Bool.not_true, Bool.not_false, Bool.true_eq_false, Bool.false_eq_true, Bool.not_not] at h) | with_reducible apply wN1 | with_reducible apply wN2 | with_reducible apply wN3 | with_reducible apply wN4 | with_reducible apply wN0 | with_reducible apply wE0 | with_reducible apply wXI | with_reducible apply wXB | with_reducible exact eK | with_reducible exact eKJ | ((with_reducible apply eL); rfl) | ((with_reducible apply eLR); rfl) | ((with_reducible apply eLZ); rfl) | with_reducible exact eAN | with_reducible apply eAdd | with_reducible apply eSub | with_reducible apply eMul | with_reducible apply eWJ | with_reducible apply eMin | with_reducible apply eLt | with_reducible apply eIteI | with_reducible apply eIteJ | with_reducible apply eIte | with_reducible apply eArr2 | with_reducible apply eFld2 | with_reducible apply eAI | with_reducible apply eAR | with_reducible apply eCI | with_reducible apply eCZ | with_reducible apply wRc | with_reducible exact ckv99 | with_reducible apply R_Scene_jobs | with_reducible apply R_Scene_arms | with_reducible apply R_Scene_book | with_reducible apply R_Jobs_state | with_reducible apply R_Jobs_account | with_reducible apply R_Jobs_columns | with_reducible apply R_Jobs_came | with_reducible apply R_Jobs_start | with_reducible apply R_Arms_column | with_reducible apply R_Arms_end | with_reducible apply R_Book_figures | with_reducible apply R_Scheduler_board | with_reducible apply R_Scheduler_gang | with_reducible apply R_Scheduler_held | with_reducible apply R_Gang_wide | with_reducible apply R_Gang_asks | with_reducible apply R_Gang_column | with_reducible exact C_Scene (by assumption) | with_reducible exact K_Scene_now (by assumption) | with_reducible exact S_Scene_jobs (by assumption) | with_reducible exact C_Jobs (S_Scene_jobs (by assumption)) | with_reducible exact S_Scene_arms (by assumption) | with_reducible exact C_Arms (S_Scene_arms (by assumption)) | with_reducible exact S_Scene_book (by assumption) | with_reducible exact C_Book (S_Scene_book (by assumption)) | with_reducible exact N_Jobs_state (by assumption) | with_reducible exact N_Jobs_account (by assumption) | with_reducible exact N_Jobs_columns (by assumption) | with_reducible exact N_Jobs_came (by assumption) | with_reducible exact N_Jobs_start (by assumption) | with_reducible exact C_Arms (by assumption) | with_reducible exact N_Arms_column (by assumption) | with_reducible exact N_Arms_end (by assumption) | with_reducible exact C_Book (by assumption) | with_reducible exact N_Book_figures (by assumption) | with_reducible exact S_Scheduler_board (by assumption) | with_reducible exact C_Board (S_Scheduler_board (by assumption)) | with_reducible exact S_Scheduler_gang (by assumption) | with_reducible exact C_Gang (S_Scheduler_gang (by assumption)) | with_reducible exact N_Scheduler_held (by assumption) | with_reducible exact C_Board (by assumption) | with_reducible exact K_Gang_size (by assumption) | with_reducible exact N_Gang_wide (by assumption) | with_reducible exact N_Gang_asks (by assumption) | with_reducible exact N_Gang_column (by assumption) | with_reducible exact Int.toNat_natCast _ | with_reducible exact tn0 | with_reducible exact tn1 | with_reducible exact tn2 | with_reducible exact tn3 | with_reducible exact tn4 | with_reducible exact tn5 | with_reducible exact tn6 | with_reducible exact tn7 | with_reducible exact tn8 | with_reducible exact tn9 | with_reducible exact tn10 | with_reducible exact tn11 | with_reducible exact tn12 | with_reducible exact tn13 | with_reducible exact tn14 | with_reducible exact tn15 | with_reducible exact tn16 | with_reducible exact tnK0 | with_reducible exact tnK4 | with_reducible exact tnK8 | with_reducible exact tnK12 | with_reducible exact tnK16 | with_reducible exact tnK20 | with_reducible exact tnK24 | with_reducible exact tnK28 | with_reducible exact tnK32 | with_reducible exact tnJA | with_reducible exact tnA | with_reducible exact upR_s | ((with_reducible apply upR_a); (first | decide | omega)) | ((with_reducible apply upR_b); (first | decide | omega)) | ((with_reducible apply noteR_a); (first | decide | omega)) | ((with_reducible apply noteR_b); (first | decide | omega)) | exact Nat.le_of_ble_eq_true rfl | with_reducible assumption | with_reducible exact rfl | omega | with_reducible apply wAnd | decide +kernel
    exact ⟨G2, _, rfl, rfl, hfin⟩
  · have ei : i = mArms g j := by omega
    obtain ⟨p1, p2, p3, p4, p5, p6, p7, p8, p9⟩ := hb
    have e1 : G' (k + 6) 0 = (mArms g j : Int) := by rw [p1 _ (by omega) (by omega) (by omega) (by omega) (by omega) (by omega) (by omega)]; exact g0
    have e0 : G' s 1 = g 0 := by rw [p1 s (by omega) (by omega) (by omega) (by omega) (by omega) (by omega) (by omega)]; exact eB
    have e11 : G' (s + 14) j = mAt g j 11 := by rw [p1 _ (by omega) (by omega) (by omega) (by omega) (by omega) (by omega) (by omega)]; exact j11
    have e32 : G' (s + 32) = G (s + 32) := p1 _ (by omega) (by omega) (by omega) (by omega) (by omega) (by omega) (by omega)
    repeat' first | with_reducible apply wSeq | with_reducible apply wAsI | with_reducible apply wAsR | ((with_reducible apply wInc); rfl) | with_reducible apply wKil | with_reducible apply wRV | with_reducible apply wAst2 | with_reducible apply wAmdA2 | with_reducible apply wAmdS2 | with_reducible apply wLmdA2 | with_reducible apply wVd | with_reducible apply wB_e | (intro h; try simp only [Bool.and_eq_true, Bool.or_eq_true, Bool.not_eq_true', Bool.not_eq_false', Bool.and_eq_false_imp, Bool.or_eq_false_iff, decide_eq_true_eq, decide_eq_false_iff_not, Bool.not_true, Bool.not_false, Bool.true_eq_false, Bool.false_eq_true, Bool.not_not] at h) | with_reducible apply wN1 | with_reducible apply wN2 | with_reducible apply wN3 | with_reducible apply wN4 | with_reducible apply wN0 | with_reducible apply wE0 | with_reducible apply wXI | with_reducible apply wXB | with_reducible exact eK | with_reducible exact eKJ | ((with_reducible apply eL); rfl) | ((with_reducible apply eLR); rfl) | ((with_reducible apply eLZ); rfl) | with_reducible exact eAN | with_reducible apply eAdd | with_reducible apply eSub | with_reducible apply eMul | with_reducible apply eWJ | with_reducible apply eMin | with_reducible apply eLt | with_reducible apply eIteI | with_reducible apply eIteJ | with_reducible apply eIte | with_reducible apply eArr2 | with_reducible apply eFld2 | with_reducible apply eAI | with_reducible apply eAR | with_reducible apply eCI | with_reducible apply eCZ | with_reducible apply wRc | with_reducible exact ckv99 | with_reducible apply R_Scene_jobs | with_reducible apply R_Scene_arms | with_reducible apply R_Scene_book | with_reducible apply R_Jobs_state | with_reducible apply R_Jobs_account | with_reducible apply R_Jobs_columns | with_reducible apply R_Jobs_came | with_reducible apply R_Jobs_start | with_reducible apply R_Arms_column | with_reducible apply R_Arms_end | with_reducible apply R_Book_figures | with_reducible apply R_Scheduler_board | with_reducible apply R_Scheduler_gang | with_reducible apply R_Scheduler_held | with_reducible apply R_Gang_wide | with_reducible apply R_Gang_asks | with_reducible apply R_Gang_column | with_reducible exact C_Scene (by assumption) | with_reducible exact K_Scene_now (by assumption) | with_reducible exact S_Scene_jobs (by assumption) | with_reducible exact C_Jobs (S_Scene_jobs (by assumption)) | with_reducible exact S_Scene_arms (by assumption) | with_reducible exact C_Arms (S_Scene_arms (by assumption)) | with_reducible exact S_Scene_book (by assumption) | with_reducible exact C_Book (S_Scene_book (by assumption)) | with_reducible exact N_Jobs_state (by assumption) | with_reducible exact N_Jobs_account (by assumption) | with_reducible exact N_Jobs_columns (by assumption) | with_reducible exact N_Jobs_came (by assumption) | with_reducible exact N_Jobs_start (by assumption) | with_reducible exact C_Arms (by assumption) | with_reducible exact N_Arms_column (by assumption) | with_reducible exact N_Arms_end (by assumption) | with_reducible exact C_Book (by assumption) | with_reducible exact N_Book_figures (by assumption) | with_reducible exact S_Scheduler_board (by assumption) | with_reducible exact C_Board (S_Scheduler_board (by assumption)) | with_reducible exact S_Scheduler_gang (by assumption) | with_reducible exact C_Gang (S_Scheduler_gang (by assumption)) | with_reducible exact N_Scheduler_held (by assumption) | with_reducible exact C_Board (by assumption) | with_reducible exact K_Gang_size (by assumption) | with_reducible exact N_Gang_wide (by assumption) | with_reducible exact N_Gang_asks (by assumption) | with_reducible exact N_Gang_column (by assumption) | with_reducible exact Int.toNat_natCast _ | with_reducible exact tn0 | with_reducible exact tn1 | with_reducible exact tn2 | with_reducible exact tn3 | with_reducible exact tn4 | with_reducible exact tn5 | with_reducible exact tn6 | with_reducible exact tn7 | with_reducible exact tn8 | with_reducible exact tn9 | with_reducible exact tn10 | with_reducible exact tn11 | with_reducible exact tn12 | with_reducible exact tn13 | with_reducible exact tn14 | with_reducible exact tn15 | with_reducible exact tn16 | with_reducible exact tnK0 | with_reducible exact tnK4 | with_reducible exact tnK8 | with_reducible exact tnK12 | with_reducible exact tnK16 | with_reducible exact tnK20 | with_reducible exact tnK24 | with_reducible exact tnK28 | with_reducible exact tnK32 | with_reducible exact tnJA | with_reducible exact tnA | with_reducible exact upR_s | ((with_reducible apply upR_a); (first | decide | omega)) | ((with_reducible apply upR_b); (first | decide | omega)) | ((with_reducible apply noteR_a); (first | decide | omega)) | ((with_reducible apply noteR_b); (first | decide | omega)) | exact Nat.le_of_ble_eq_true rfl | with_reducible assumption | with_reducible exact rfl | omega | with_reducible apply wAnd | decide +kernel
    refine wF_e (Bk_start (z := (g 6).toNat - dd) hsb (by rw [e32, hST.2.1]; have := hST.1; omega) (by omega)) ⟨rfl, ?_⟩
    repeat' first | with_reducible apply wSeq | with_reducible apply wAsI | with_reducible apply wAsR | ((with_reducible apply wInc); rfl) | with_reducible apply wKil | with_reducible apply wRV | with_reducible apply wAst2 | with_reducible apply wAmdA2 | with_reducible apply wAmdS2 | with_reducible apply wLmdA2 | with_reducible apply wVd | with_reducible apply wB_e | (intro h; try simp only [Bool.and_eq_true, Bool.or_eq_true, Bool.not_eq_true', Bool.not_eq_false', Bool.and_eq_false_imp, Bool.or_eq_false_iff, decide_eq_true_eq, decide_eq_false_iff_not, Bool.not_true, Bool.not_false, Bool.true_eq_false, Bool.false_eq_true, Bool.not_not] at h) | with_reducible apply wN1 | with_reducible apply wN2 | with_reducible apply wN3 | with_reducible apply wN4 | with_reducible apply wN0 | with_reducible apply wE0 | with_reducible apply wXI | with_reducible apply wXB | with_reducible exact eK | with_reducible exact eKJ | ((with_reducible apply eL); rfl) | ((with_reducible apply eLR); rfl) | ((with_reducible apply eLZ); rfl) | with_reducible exact eAN | with_reducible apply eAdd | with_reducible apply eSub | with_reducible apply eMul | with_reducible apply eWJ | with_reducible apply eMin | with_reducible apply eLt | with_reducible apply eIteI | with_reducible apply eIteJ | with_reducible apply eIte | with_reducible apply eArr2 | with_reducible apply eFld2 | with_reducible apply eAI | with_reducible apply eAR | with_reducible apply eCI | with_reducible apply eCZ | with_reducible apply wRc | with_reducible exact ckv99 | with_reducible apply R_Scene_jobs | with_reducible apply R_Scene_arms | with_reducible apply R_Scene_book | with_reducible apply R_Jobs_state | with_reducible apply R_Jobs_account | with_reducible apply R_Jobs_columns | with_reducible apply R_Jobs_came | with_reducible apply R_Jobs_start | with_reducible apply R_Arms_column | with_reducible apply R_Arms_end | with_reducible apply R_Book_figures | with_reducible apply R_Scheduler_board | with_reducible apply R_Scheduler_gang | with_reducible apply R_Scheduler_held | with_reducible apply R_Gang_wide | with_reducible apply R_Gang_asks | with_reducible apply R_Gang_column | with_reducible exact C_Scene (by assumption) | with_reducible exact K_Scene_now (by assumption) | with_reducible exact S_Scene_jobs (by assumption) | with_reducible exact C_Jobs (S_Scene_jobs (by assumption)) | with_reducible exact S_Scene_arms (by assumption) | with_reducible exact C_Arms (S_Scene_arms (by assumption)) | with_reducible exact S_Scene_book (by assumption) | with_reducible exact C_Book (S_Scene_book (by assumption)) | with_reducible exact N_Jobs_state (by assumption) | with_reducible exact N_Jobs_account (by assumption) | with_reducible exact N_Jobs_columns (by assumption) | with_reducible exact N_Jobs_came (by assumption) | with_reducible exact N_Jobs_start (by assumption) | with_reducible exact C_Arms (by assumption) | with_reducible exact N_Arms_column (by assumption) | with_reducible exact N_Arms_end (by assumption) | with_reducible exact C_Book (by assumption) | with_reducible exact N_Book_figures (by assumption) | with_reducible exact S_Scheduler_board (by assumption) | with_reducible exact C_Board (S_Scheduler_board (by assumption)) | with_reducible exact S_Scheduler_gang (by assumption) | with_reducible exact C_Gang (S_Scheduler_gang (by assumption)) | with_reducible exact N_Scheduler_held (by assumption) | with_reducible exact C_Board (by assumption) | with_reducible exact K_Gang_size (by assumption) | with_reducible exact N_Gang_wide (by assumption) | with_reducible exact N_Gang_asks (by assumption) | with_reducible exact N_Gang_column (by assumption) | with_reducible exact Int.toNat_natCast _ | with_reducible exact tn0 | with_reducible exact tn1 | with_reducible exact tn2 | with_reducible exact tn3 | with_reducible exact tn4 | with_reducible exact tn5 | with_reducible exact tn6 | with_reducible exact tn7 | with_reducible exact tn8 | with_reducible exact tn9 | with_reducible exact tn10 | with_reducible exact tn11 | with_reducible exact tn12 | with_reducible exact tn13 | with_reducible exact tn14 | with_reducible exact tn15 | with_reducible exact tn16 | with_reducible exact tnK0 | with_reducible exact tnK4 | with_reducible exact tnK8 | with_reducible exact tnK12 | with_reducible exact tnK16 | with_reducible exact tnK20 | with_reducible exact tnK24 | with_reducible exact tnK28 | with_reducible exact tnK32 | with_reducible exact tnJA | with_reducible exact tnA | with_reducible exact upR_s | ((with_reducible apply upR_a); (first | decide | omega)) | ((with_reducible apply upR_b); (first | decide | omega)) | ((with_reducible apply noteR_a); (first | decide | omega)) | ((with_reducible apply noteR_b); (first | decide | omega)) | exact Nat.le_of_ble_eq_true rfl | with_reducible assumption | with_reducible exact rfl | omega | with_reducible apply wAnd | decide +kernel
    refine wF_e (Bk_note (e := e) hsb (by simpa [evE, upZ, e32] using hSe) he) ⟨rfl, ?_⟩
    repeat' first | with_reducible apply wSeq | with_reducible apply wAsI | with_reducible apply wAsR | ((with_reducible apply wInc); rfl) | with_reducible apply wKil | with_reducible apply wRV | with_reducible apply wAst2 | with_reducible apply wAmdA2 | with_reducible apply wAmdS2 | with_reducible apply wLmdA2 | with_reducible apply wVd | with_reducible apply wB_e | (intro h; try simp only [Bool.and_eq_true, Bool.or_eq_true, Bool.not_eq_true', Bool.not_eq_false', Bool.and_eq_false_imp, Bool.or_eq_false_iff, decide_eq_true_eq, decide_eq_false_iff_not, Bool.not_true, Bool.not_false, Bool.true_eq_false, Bool.false_eq_true, Bool.not_not] at h) | with_reducible apply wN1 | with_reducible apply wN2 | with_reducible apply wN3 | with_reducible apply wN4 | with_reducible apply wN0 | with_reducible apply wE0 | with_reducible apply wXI | with_reducible apply wXB | with_reducible exact eK | with_reducible exact eKJ | ((with_reducible apply eL); rfl) | ((with_reducible apply eLR); rfl) | ((with_reducible apply eLZ); rfl) | with_reducible exact eAN | with_reducible apply eAdd | with_reducible apply eSub | with_reducible apply eMul | with_reducible apply eWJ | with_reducible apply eMin | with_reducible apply eLt | with_reducible apply eIteI | with_reducible apply eIteJ | with_reducible apply eIte | with_reducible apply eArr2 | with_reducible apply eFld2 | with_reducible apply eAI | with_reducible apply eAR | with_reducible apply eCI | with_reducible apply eCZ | with_reducible apply wRc | with_reducible exact ckv99 | with_reducible apply R_Scene_jobs | with_reducible apply R_Scene_arms | with_reducible apply R_Scene_book | with_reducible apply R_Jobs_state | with_reducible apply R_Jobs_account | with_reducible apply R_Jobs_columns | with_reducible apply R_Jobs_came | with_reducible apply R_Jobs_start | with_reducible apply R_Arms_column | with_reducible apply R_Arms_end | with_reducible apply R_Book_figures | with_reducible apply R_Scheduler_board | with_reducible apply R_Scheduler_gang | with_reducible apply R_Scheduler_held | with_reducible apply R_Gang_wide | with_reducible apply R_Gang_asks | with_reducible apply R_Gang_column | with_reducible exact C_Scene (by assumption) | with_reducible exact K_Scene_now (by assumption) | with_reducible exact S_Scene_jobs (by assumption) | with_reducible exact C_Jobs (S_Scene_jobs (by assumption)) | with_reducible exact S_Scene_arms (by assumption) | with_reducible exact C_Arms (S_Scene_arms (by assumption)) | with_reducible exact S_Scene_book (by assumption) | with_reducible exact C_Book (S_Scene_book (by assumption)) | with_reducible exact N_Jobs_state (by assumption) | with_reducible exact N_Jobs_account (by assumption) | with_reducible exact N_Jobs_columns (by assumption) | with_reducible exact N_Jobs_came (by assumption) | with_reducible exact N_Jobs_start (by assumption) | with_reducible exact C_Arms (by assumption) | with_reducible exact N_Arms_column (by assumption) | with_reducible exact N_Arms_end (by assumption) | with_reducible exact C_Book (by assumption) | with_reducible exact N_Book_figures (by assumption) | with_reducible exact S_Scheduler_board (by assumption) | with_reducible exact C_Board (S_Scheduler_board (by assumption)) | with_reducible exact S_Scheduler_gang (by assumption) | with_reducible exact C_Gang (S_Scheduler_gang (by assumption)) | with_reducible exact N_Scheduler_held (by assumption) | with_reducible exact C_Board (by assumption) | with_reducible exact K_Gang_size (by assumption) | with_reducible exact N_Gang_wide (by assumption) | with_reducible exact N_Gang_asks (by assumption) | with_reducible exact N_Gang_column (by assumption) | with_reducible exact Int.toNat_natCast _ | with_reducible exact tn0 | with_reducible exact tn1 | with_reducible exact tn2 | with_reducible exact tn3 | with_reducible exact tn4 | with_reducible exact tn5 | with_reducible exact tn6 | with_reducible exact tn7 | with_reducible exact tn8 | with_reducible exact tn9 | with_reducible exact tn10 | with_reducible exact tn11 | with_reducible exact tn12 | with_reducible exact tn13 | with_reducible exact tn14 | with_reducible exact tn15 | with_reducible exact tn16 | with_reducible exact tnK0 | with_reducible exact tnK4 | with_reducible exact tnK8 | with_reducible exact tnK12 | with_reducible exact tnK16 | with_reducible exact tnK20 | with_reducible exact tnK24 | with_reducible exact tnK28 | with_reducible exact tnK32 | with_reducible exact tnJA | with_reducible exact tnA | with_reducible exact upR_s | ((with_reducible apply upR_a); (first | decide | omega)) | ((with_reducible apply upR_b); (first | decide | omega)) | ((with_reducible apply noteR_a); (first | decide | omega)) | ((with_reducible apply noteR_b); (first | decide | omega)) | exact Nat.le_of_ble_eq_true rfl | with_reducible assumption | with_reducible exact rfl | omega | with_reducible apply wAnd | decide +kernel
    rw [ei] at p8 p9
    have hb : began g j f.2 s k (mArms g j) G G' l l' := by rw [← ei]; exact ⟨p1, p2, p3, p4, p5, p6, p7, by rw [ei]; exact p8, by rw [ei]; exact p9⟩
    have hz : (((g 6).toNat - dd : Nat) : Int) = g 6 - (dd : Int) := by have := hST.1; omega
    refine hR _ _ l' (fun x q1 q2 q3 => ?_) (fun x q1 => upZ_3 q1) (began_end hd hI hj h5 h9 hf ⟨⟨z0, hSB, hSJ, hSA, hSO, hSS, hST, hSe, hSK⟩, hSQ⟩ hb (fun x a1 a2 a3 a4 a5 => ?_) ?_ ?_ (fun x => ?_) (fun x hx => ?_) (fun x hx => ?_) (fun x hx => ?_) (upZ_3 (by omega)) (fun x => ?_)) (fun x => ?_) (board_r p6 fun x _ _ => ?_) p7 p8 p9
    · rw [noteZ_ne (by omega), upZ_ne (by omega), upZ_ne (by omega), upZ_ne (by omega), upZ_ne (by omega), upZ_ne (by omega)]
      exact p1 x (by omega) (by omega) (by omega) (by omega) (by omega) (by omega) (by omega)
    · rw [noteZ_ne (by omega), upZ_ne (by omega), upZ_ne (by omega), upZ_ne (by omega), upZ_ne (by omega), upZ_ne (by omega)]
    · simp [noteZ, upZ, hz]
    · exact noteZ_ev
    · have e34 : G' (s + 34) = G (s + 34) := p1 _ (by omega) (by omega) (by omega) (by omega) (by omega) (by omega) (by omega)
      by_cases c : x = (g 6).toNat - dd <;> simp [noteZ, upZ, c, e34]
    · have e34 : G' (s + 35) = G (s + 35) := p1 _ (by omega) (by omega) (by omega) (by omega) (by omega) (by omega) (by omega)
      by_cases c : x = e % 60 <;> simp [noteZ, upZ, c, e34]
    · have e34 : G' (s + 36) = G (s + 36) := p1 _ (by omega) (by omega) (by omega) (by omega) (by omega) (by omega) (by omega)
      by_cases c : x = e % 60 <;> simp [noteZ, upZ, c, e34]
    · have e34 : G' (s + 37) = G (s + 37) := p1 _ (by omega) (by omega) (by omega) (by omega) (by omega) (by omega) (by omega)
      by_cases c : x = e % 60 <;> simp [noteZ, upZ, c, e34]
    · by_cases c1 : x = 5
      · subst c1; simp [upZ]
      · by_cases c2 : x = 4
        · subst c2; simp [upZ]
        · by_cases c3 : x = 0
          · subst c3; simp [upZ]
          · simp [upZ, c1, c2, c3]
    · rw [noteZ_ne (by omega), upZ_ne (by omega), upZ_ne (by omega), upZ_ne (by omega), upZ_ne (by omega), upZ_ne (by omega)]
      exact p5 x
    · rw [noteZ_ne (by omega), upZ_ne (by omega), upZ_ne (by omega), upZ_ne (by omega), upZ_ne (by omega), upZ_ne (by omega)]
