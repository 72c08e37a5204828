/-! ===== the tape ===== -/
theorem i8_fact : ∀ a : Fin 128, (Int32.ofInt (a.1 : Int)).toInt8.toInt32 = Int32.ofInt (a.1 : Int) := by decide +kernel
theorem eByte {L : pLo} {σ : pM} {x : Int} {a : eI} (ha : a L σ = some (Int32.ofInt x, σ)) (hx : 0 ≤ x ∧ x < 128) : uI (fun x => x.toInt8.toInt32) a L σ = some (Int32.ofInt x, σ) := by
  have := i8_fact ⟨x.toNat, by omega⟩
  simp only [Int.toNat_of_nonneg hx.1] at this
  simp only [uI, ha, Option.bind_some, this]
theorem wBst2 {L : pLo} {G U : Nat → Nat → Int} {N B C : pQ} {R : Option pV → pM → Prop} {o n k : Nat} {x v : Int} {a : eR} {i e : eI} (ha : a L (zM G U) = some (o, zM G U)) (hi : i L (zM G U) = some (Int32.ofInt x, zM G U)) (he : e L (zM G U) = some (Int32.ofInt v, zM G U)) (hn : lenOf 1 o = n) (hx : 0 ≤ x ∧ x < n) (h9 : n ≤ 100000) (hk : x.toNat = k) (hv : 0 ≤ v ∧ v < 128) (h : N L (zM (upZ G o k v) U)) : WpS (sBst a i e) L (zM G U) N B C R := by
  subst hk
  have n1 := iI_ix (a := x) (n := n) (by omega) h9
  have n2 := iI_nat (a := x) (by omega)
  rw [n2] at n1
  have e1 := i8_fact ⟨v.toNat, by omega⟩
  simp only [Int.toNat_of_nonneg hv.1] at e1
  exact wS_n (by simp only [sBst, ha, hi, he, Option.bind_some, hn, n1, n2, if_false, e1, up1_zM]) h
theorem W_M_feed {G U : Nat → Nat → Int} {x : Int} {R : Option pV → pM → Prop} (hx : rg x) (h7 : 0 ≤ G 179 7 ∧ G 179 7 ≤ 60) (h1 : 32 ≤ x → x ≤ 126 → G 179 7 < 60 → R (some (pI (Int32.ofInt (G 179 7 + 1)))) (zM (upZ (upZ G 186 (G 179 7).toNat x) 179 7 (G 179 7 + 1)) U)) (h2 : ¬ (32 ≤ x ∧ x ≤ 126) → R (some (pI (Int32.ofInt (-1)))) (zM G U)) (h3 : 32 ≤ x → x ≤ 126 → G 179 7 = 60 → R (some (pI (Int32.ofInt (-3)))) (zM G U)) : WpF F_M_feed [pR 179, pI (Int32.ofInt x)] (zM G U) R := by
  unfold F_M_feed B_M_feed
  apply wBody (Nat.le_of_ble_eq_true rfl)
  repeat' first | with_reducible apply wSeq | with_reducible apply wSkip | with_reducible apply wIf | with_reducible apply wRI | with_reducible apply wModA2 | with_reducible apply wModS2 | with_reducible apply wModO2 | with_reducible apply wBst2 | with_reducible apply wB_e | (intro h; try simp only [Bool.and_eq_true, Bool.or_eq_true, Bool.not_eq_true', Bool.not_eq_false', Bool.and_eq_false_imp, Bool.or_eq_false_iff, decide_eq_true_eq, decide_eq_false_iff_not, Bool.not_true, Bool.not_false, Bool.true_eq_false, Bool.false_eq_true, Bool.not_not] at h) | with_reducible apply wN1 | with_reducible apply wN2 | with_reducible apply wN3 | with_reducible apply wN4 | with_reducible apply wN0 | with_reducible apply wE0 | with_reducible apply wXI | with_reducible apply wXB | with_reducible exact eK | with_reducible exact eKJ | ((with_reducible apply eL); rfl) | ((with_reducible apply eLR); rfl) | with_reducible exact eAN | with_reducible apply eAdd | with_reducible apply eWJ | with_reducible apply eEq | with_reducible apply eNot | with_reducible apply eFld2 | with_reducible apply eAJ | with_reducible apply eCI | with_reducible apply eCZ | with_reducible apply wRc | with_reducible apply eByte | with_reducible exact ckv99 | with_reducible apply R_M_tape | with_reducible exact N_M_tape | with_reducible exact K_M_taped | with_reducible exact M_in (by omega) (by omega) (by omega) | with_reducible exact Int.toNat_natCast _ | with_reducible exact tn0 | with_reducible exact tn1 | with_reducible exact tn2 | with_reducible exact tn3 | with_reducible exact tn4 | with_reducible exact tn5 | with_reducible exact tn6 | with_reducible exact tn7 | with_reducible exact tn8 | with_reducible exact tn9 | with_reducible exact tn10 | with_reducible exact tn11 | with_reducible exact tn12 | with_reducible exact tn13 | with_reducible exact tn14 | with_reducible exact tn15 | with_reducible exact tn16 | with_reducible exact tnK0 | with_reducible exact tnK4 | with_reducible exact tnK8 | with_reducible exact tnK12 | with_reducible exact tnK16 | with_reducible exact tnK20 | with_reducible exact tnK24 | with_reducible exact tnK28 | with_reducible exact tnK32 | with_reducible exact tnJA | with_reducible exact tnA | with_reducible exact upR_s | ((with_reducible apply upR_a); (first | decide | omega)) | ((with_reducible apply upR_b); (first | decide | omega)) | exact Nat.le_of_ble_eq_true rfl | with_reducible assumption | with_reducible exact rfl | omega | with_reducible apply wAnd | decide +kernel
  · exact h2 (by assumption)
  · exact h3 (by omega) (by omega) (by omega)
  · exact h1 (by omega) (by omega) (by omega)
/-- up to so many figures from a place on: the number, and the place behind it -/
def numF (T : Nat → Int) (n : Nat) : Nat → Nat → Int → Int × Nat
  | 0, p, v => (v, p)
  | f + 1, p, v => if p < n ∧ 48 ≤ T p ∧ T p ≤ 57 then numF T n f (p + 1) (10 * v + T p - 48) else (v, p)
theorem numF_le {T : Nat → Int} {n : Nat} : ∀ (f p : Nat) (v : Int), p ≤ n → p ≤ (numF T n f p v).2 ∧ (numF T n f p v).2 ≤ n
  | 0, p, v, h => ⟨Nat.le_refl _, h⟩
  | f + 1, p, v, h => by
    rw [numF]
    split
    · rename_i h1
      have := numF_le (T := T) (n := n) f (p + 1) (10 * v + T p - 48) (by omega)
      exact ⟨by omega, this.2⟩
    · exact ⟨Nat.le_refl _, h⟩
def tapeOk (T : Nat → Int) (n : Nat) : Prop := ∀ i, i < n → 0 ≤ T i ∧ T i < 128
theorem upZ_2 {G : Nat → Nat → Int} {k i : Nat} {v w : Int} : upZ (upZ G k i v) k i w = upZ G k i w := by
  funext a b
  unfold upZ
  split <;> rfl
theorem upZ_id {G : Nat → Nat → Int} {k i : Nat} : upZ G k i (G k i) = G := by
  funext a b
  unfold upZ
  split
  · rename_i h; rw [h.1, h.2]
  · rfl
theorem upZ_id' {G : Nat → Nat → Int} {k i : Nat} {v : Int} (h : G k i = v) : upZ G k i v = G := h ▸ upZ_id
theorem M_isFigure {G U : Nat → Nat → Int} {p n : Nat} (hp : G 179 23 = p) (hn : G 179 7 = n) (h60 : n ≤ 60) (hT : tapeOk (G 186) n) (hpn : p ≤ n) : F_M_isFigure [pR 179] (zM G U) = some (some (pI (zI (decide (p < n ∧ 48 ≤ G 186 p ∧ G 186 p ≤ 57)))), zM G U) := by
  apply wF_to
  unfold F_M_isFigure B_M_isFigure
  apply wBody (Nat.le_of_ble_eq_true rfl)
  have ht : (p : Int) < n → 0 ≤ G 186 p ∧ G 186 p < 128 := fun h => hT p (by omega)
  have e : (decide (p < n ∧ 48 ≤ G 186 p ∧ G 186 p ≤ 57)) = (decide ((p : Int) < n) && decide (48 ≤ G 186 p ∧ G 186 p ≤ 57)) := by
    rw [← Bool.decide_and]
    congr 1
    exact propext ⟨fun h => ⟨by omega, h.2⟩, fun h => ⟨by omega, h.2⟩⟩
  rw [e]
  repeat' first | with_reducible apply wRZ | with_reducible apply wB_e | (intro h; try simp only [Bool.and_eq_true, Bool.or_eq_true, Bool.not_eq_true', Bool.not_eq_false', Bool.and_eq_false_imp, Bool.or_eq_false_iff, decide_eq_true_eq, decide_eq_false_iff_not, Bool.not_true, Bool.not_false, Bool.true_eq_false, Bool.false_eq_true, Bool.not_not] at h) | with_reducible apply wN1 | with_reducible apply wN2 | with_reducible apply wN3 | with_reducible apply wN4 | with_reducible apply wN0 | with_reducible apply wE0 | with_reducible apply wXI | with_reducible apply wXB | with_reducible exact eKJ | ((with_reducible apply eLR); rfl) | with_reducible exact eAN | with_reducible apply eWJ | with_reducible apply eLt | with_reducible apply eAnd | with_reducible apply eArrB2 | with_reducible apply eFld2 | with_reducible apply eAJ | with_reducible apply eCI | with_reducible apply eCZ | with_reducible apply wRc | with_reducible exact ckv99 | with_reducible apply R_M_tape | with_reducible exact N_M_tape | with_reducible exact K_M_taped | with_reducible exact K_M_spot | with_reducible exact M_in (by omega) (by omega) (by omega) | with_reducible exact Int.toNat_natCast _ | with_reducible exact tn0 | with_reducible exact tn1 | with_reducible exact tn2 | with_reducible exact tn3 | with_reducible exact tn4 | with_reducible exact tn5 | with_reducible exact tn6 | with_reducible exact tn7 | with_reducible exact tn8 | with_reducible exact tn9 | with_reducible exact tn10 | with_reducible exact tn11 | with_reducible exact tn12 | with_reducible exact tn13 | with_reducible exact tn14 | with_reducible exact tn15 | with_reducible exact tn16 | with_reducible exact tnK0 | with_reducible exact tnK4 | with_reducible exact tnK8 | with_reducible exact tnK12 | with_reducible exact tnK16 | with_reducible exact tnK20 | with_reducible exact tnK24 | with_reducible exact tnK28 | with_reducible exact tnK32 | with_reducible exact tnJA | with_reducible exact tnA | with_reducible exact upR_s | ((with_reducible apply upR_a); (first | decide | omega)) | ((with_reducible apply upR_b); (first | decide | omega)) | exact Nat.le_of_ble_eq_true rfl | with_reducible assumption | with_reducible exact rfl | omega | with_reducible apply wAnd | decide +kernel
  exact ⟨rfl, rfl⟩
theorem W_number {G U : Nat → Nat → Int} {p n : Nat} {high : Int} {R : Option pV → pM → Prop} (hp : G 179 23 = p) (hn : G 179 7 = n) (h60 : n ≤ 60) (hT : tapeOk (G 186) n) (hpn : p ≤ n) (hh : rg high) (h1 : 1 ≤ (numF (G 186) n 3 p 0).1 → (numF (G 186) n 3 p 0).1 ≤ high → R (some (pI (Int32.ofInt (numF (G 186) n 3 p 0).1))) (zM (upZ G 179 23 (numF (G 186) n 3 p 0).2) U)) (h2 : ¬ (1 ≤ (numF (G 186) n 3 p 0).1 ∧ (numF (G 186) n 3 p 0).1 ≤ high) → R (some (pI (Int32.ofInt (-1)))) (zM G U)) : WpF F_M_number [pR 179, pI (Int32.ofInt high)] (zM G U) R := by
  unfold F_M_number B_M_number
  apply wBody (Nat.le_of_ble_eq_true rfl)
  repeat' first | with_reducible apply wSeq | with_reducible apply wSkip | with_reducible apply wIf | with_reducible apply wAsI | with_reducible apply wRI | with_reducible apply wPut | with_reducible apply wModA2 | with_reducible apply wModS2 | with_reducible apply wModO2 | with_reducible apply wB_e | (intro h; try simp only [Bool.and_eq_true, Bool.or_eq_true, Bool.not_eq_true', Bool.not_eq_false', Bool.and_eq_false_imp, Bool.or_eq_false_iff, decide_eq_true_eq, decide_eq_false_iff_not, Bool.not_true, Bool.not_false, Bool.true_eq_false, Bool.false_eq_true, Bool.not_not] at h) | with_reducible apply wN1 | with_reducible apply wN2 | with_reducible apply wN3 | with_reducible apply wN4 | with_reducible apply wN0 | with_reducible apply wE0 | with_reducible apply wXI | with_reducible apply wXB | with_reducible exact eK | with_reducible exact eKJ | ((with_reducible apply eL); rfl) | ((with_reducible apply eLR); rfl) | with_reducible exact eAN | with_reducible apply eAdd | with_reducible apply eSub | with_reducible apply eMul | with_reducible apply eWJ | with_reducible apply eLt | with_reducible apply eAnd | with_reducible apply eNot | with_reducible apply eArrB2 | with_reducible apply eFld2 | with_reducible apply eAJ | with_reducible apply eAR | with_reducible apply eCI | with_reducible apply eCZ | with_reducible apply wRc | with_reducible exact ckv179 | with_reducible exact ckv99 | with_reducible apply R_M_tape | with_reducible exact N_M_tape | with_reducible exact K_M_spot | with_reducible exact M_in (by omega) (by omega) (by omega) | with_reducible exact Int.toNat_natCast _ | with_reducible exact tn0 | with_reducible exact tn1 | with_reducible exact tn2 | with_reducible exact tn3 | with_reducible exact tn4 | with_reducible exact tn5 | with_reducible exact tn6 | with_reducible exact tn7 | with_reducible exact tn8 | with_reducible exact tn9 | with_reducible exact tn10 | with_reducible exact tn11 | with_reducible exact tn12 | with_reducible exact tn13 | with_reducible exact tn14 | with_reducible exact tn15 | with_reducible exact tn16 | with_reducible exact tnK0 | with_reducible exact tnK4 | with_reducible exact tnK8 | with_reducible exact tnK12 | with_reducible exact tnK16 | with_reducible exact tnK20 | with_reducible exact tnK24 | with_reducible exact tnK28 | with_reducible exact tnK32 | with_reducible exact tnJA | with_reducible exact tnA | with_reducible exact upR_s | ((with_reducible apply upR_a); (first | decide | omega)) | ((with_reducible apply upR_b); (first | decide | omega)) | exact Nat.le_of_ble_eq_true rfl | with_reducible assumption | with_reducible exact rfl | omega | with_reducible apply wAnd | decide +kernel
  refine wWh (fun i L σ => ∃ v q : Int, L = [some (pR 179), some (pI (Int32.ofInt high)), some (pI (Int32.ofInt (p : Int))), some (pI (Int32.ofInt v))] ∧ σ = zM (upZ G 179 23 ((p + i : Nat) : Int)) U ∧ p + i ≤ n ∧ 0 ≤ v ∧ v < q ∧ (i = 0 → q = 1) ∧ (i = 1 → q = 10) ∧ (i = 2 → q = 100) ∧ (i = 3 → q = 1000) ∧ numF (G 186) n (3 - i) (p + i) v = numF (G 186) n 3 p 0) 3 (by omega) ⟨0, 1, rfl, by rw [Nat.add_zero, ← hp, upZ_id], by omega, by omega, by omega, fun _ => rfl, fun h => by omega, fun h => by omega, fun h => by omega, rfl⟩ ?_
  rintro i _ _ hi ⟨v, q, rfl, rfl, q1, q2, q3, q4, q5, q6, q7, q8⟩
  have es : upZ G 179 23 ((p + i : Nat) : Int) 179 23 = ((p + i : Nat) : Int) := by simp [upZ]
  have e186 : upZ G 179 23 ((p + i : Nat) : Int) 186 = G 186 := by funext b; simp [upZ]
  have hf := M_isFigure (G := upZ G 179 23 ((p + i : Nat) : Int)) (U := U) (p := p + i) (n := n) (by simp [upZ]) (by simp [upZ, hn]) h60 (by rw [e186]; exact hT) q1
  rw [e186] at hf
  have hv : 0 ≤ v ∧ v < 1000 := by
    rcases (show i = 0 ∨ i = 1 ∨ i = 2 ∨ i = 3 by omega) with h | h | h | h
    · have := q4 h; omega
    · have := q5 h; omega
    · have := q6 h; omega
    · have := q7 h; omega
  repeat' first | with_reducible apply wSeq | with_reducible apply wSkip | with_reducible apply wIf | with_reducible apply wAsI | with_reducible apply wRI | with_reducible apply wPut | with_reducible apply wModA2 | with_reducible apply wModS2 | with_reducible apply wModO2 | with_reducible apply wB_e | (intro h; try simp only [Bool.and_eq_true, Bool.or_eq_true, Bool.not_eq_true', Bool.not_eq_false', Bool.and_eq_false_imp, Bool.or_eq_false_iff, decide_eq_true_eq, decide_eq_false_iff_not, Bool.not_true, Bool.not_false, Bool.true_eq_false, Bool.false_eq_true, Bool.not_not] at h) | with_reducible apply wN1 | with_reducible apply wN2 | with_reducible apply wN3 | with_reducible apply wN4 | with_reducible apply wN0 | with_reducible apply wE0 | with_reducible apply wXI | with_reducible apply wXB | with_reducible exact eK | with_reducible exact eKJ | ((with_reducible apply eL); rfl) | ((with_reducible apply eLR); rfl) | with_reducible exact eAN | with_reducible apply eAdd | with_reducible apply eSub | with_reducible apply eMul | with_reducible apply eWJ | with_reducible apply eLt | with_reducible apply eAnd | with_reducible apply eNot | with_reducible apply eArrB2 | with_reducible apply eFld2 | with_reducible apply eAJ | with_reducible apply eAR | with_reducible apply eCI | with_reducible apply eCZ | with_reducible apply wRc | with_reducible exact ckv179 | with_reducible exact ckv99 | with_reducible apply R_M_tape | with_reducible exact N_M_tape | with_reducible exact K_M_spot | with_reducible exact M_in (by omega) (by omega) (by omega) | with_reducible exact hf | with_reducible exact Int.toNat_natCast _ | with_reducible exact tn0 | with_reducible exact tn1 | with_reducible exact tn2 | with_reducible exact tn3 | with_reducible exact tn4 | with_reducible exact tn5 | with_reducible exact tn6 | with_reducible exact tn7 | with_reducible exact tn8 | with_reducible exact tn9 | with_reducible exact tn10 | with_reducible exact tn11 | with_reducible exact tn12 | with_reducible exact tn13 | with_reducible exact tn14 | with_reducible exact tn15 | with_reducible exact tn16 | with_reducible exact tnK0 | with_reducible exact tnK4 | with_reducible exact tnK8 | with_reducible exact tnK12 | with_reducible exact tnK16 | with_reducible exact tnK20 | with_reducible exact tnK24 | with_reducible exact tnK28 | with_reducible exact tnK32 | with_reducible exact tnJA | with_reducible exact tnA | with_reducible exact upR_s | ((with_reducible apply upR_a); (first | decide | omega)) | ((with_reducible apply upR_b); (first | decide | omega)) | exact Nat.le_of_ble_eq_true rfl | with_reducible assumption | with_reducible exact rfl | omega | with_reducible apply wAnd | decide +kernel
  · have h3 : i < 3 := by omega
    rw [upZ_2]
    have e : numF (G 186) n (3 - i) (p + i) v = numF (G 186) n (3 - (i + 1)) (p + (i + 1)) (10 * v + G 186 (p + i) - 48) := by
      rw [show 3 - i = (3 - (i + 1)) + 1 by omega, numF, if_pos h.1]
      rfl
    have hvq : 10 * v + G 186 (p + i) - 48 < 10 * q := by omega
    refine ⟨_, 10 * q, rfl, rfl, by omega, by omega, hvq, by omega, by omega, by omega, by omega, ?_⟩
    rw [← e]
    exact q8
  · rename_i h4
    have h5 := h
    have e : numF (G 186) n 3 p 0 = (v, p + i) := by
      rw [← q8]
      by_cases c : i = 3
      · subst c; rfl
      · rw [show 3 - i = (3 - (i + 1)) + 1 by omega, numF, if_neg (fun h => by have := h4 h; omega)]
    rw [upZ_2, ← hp, upZ_id]
    exact h2 (by rw [e]; exact h5)
  · rename_i h4
    have h5 := h
    have e : numF (G 186) n 3 p 0 = (v, p + i) := by
      rw [← q8]
      by_cases c : i = 3
      · subst c; rfl
      · rw [show 3 - i = (3 - (i + 1)) + 1 by omega, numF, if_neg (fun h => by have := h4 h; omega)]
    have := h1 (by rw [e]; exact h5.1) (by rw [e]; exact h5.2)
    rw [e] at this
    exact this
theorem M_takesSign {G U : Nat → Nat → Int} {p n : Nat} {c : Int} (hp : G 179 23 = p) (hn : G 179 7 = n) (h60 : n ≤ 60) (hT : tapeOk (G 186) n) (hpn : p ≤ n) (hc : rg c) : F_M_takesSign [pR 179, pI (Int32.ofInt c)] (zM G U) = some (some (pI (zI (decide (p < n ∧ G 186 p = c)))), zM (if p < n ∧ G 186 p = c then upZ G 179 23 ((p + 1 : Nat) : Int) else G) U) := by
  apply wF_to
  unfold F_M_takesSign B_M_takesSign
  apply wBody (Nat.le_of_ble_eq_true rfl)
  have ht : (p : Int) < n → 0 ≤ G 186 p ∧ G 186 p < 128 := fun h => hT p (by omega)
  repeat' first | with_reducible apply wSeq | with_reducible apply wSkip | with_reducible apply wIf | with_reducible apply wRZ | with_reducible apply wModA2 | with_reducible apply wModS2 | with_reducible apply wModO2 | with_reducible apply wB_e | (intro h; try simp only [Bool.and_eq_true, Bool.or_eq_true, Bool.not_eq_true', Bool.not_eq_false', Bool.and_eq_false_imp, Bool.or_eq_false_iff, decide_eq_true_eq, decide_eq_false_iff_not, Bool.not_true, Bool.not_false, Bool.true_eq_false, Bool.false_eq_true, Bool.not_not] at h) | with_reducible apply wN1 | with_reducible apply wN2 | with_reducible apply wN3 | with_reducible apply wN4 | with_reducible apply wN0 | with_reducible apply wE0 | with_reducible apply wXI | with_reducible apply wXB | with_reducible exact eK | ((with_reducible apply eL); rfl) | ((with_reducible apply eLR); rfl) | with_reducible exact eAN | with_reducible apply eAdd | with_reducible apply eGe | with_reducible apply eNe | with_reducible apply eOrB | with_reducible exact eKZ | with_reducible apply eArrB2 | with_reducible apply eFld2 | with_reducible apply R_M_tape | with_reducible exact N_M_tape | with_reducible exact K_M_taped | with_reducible exact K_M_spot | with_reducible exact Int.toNat_natCast _ | with_reducible exact tn0 | with_reducible exact tn1 | with_reducible exact tn2 | with_reducible exact tn3 | with_reducible exact tn4 | with_reducible exact tn5 | with_reducible exact tn6 | with_reducible exact tn7 | with_reducible exact tn8 | with_reducible exact tn9 | with_reducible exact tn10 | with_reducible exact tn11 | with_reducible exact tn12 | with_reducible exact tn13 | with_reducible exact tn14 | with_reducible exact tn15 | with_reducible exact tn16 | with_reducible exact tnK0 | with_reducible exact tnK4 | with_reducible exact tnK8 | with_reducible exact tnK12 | with_reducible exact tnK16 | with_reducible exact tnK20 | with_reducible exact tnK24 | with_reducible exact tnK28 | with_reducible exact tnK32 | with_reducible exact tnJA | with_reducible exact tnA | with_reducible exact upR_s | ((with_reducible apply upR_a); (first | decide | omega)) | ((with_reducible apply upR_b); (first | decide | omega)) | exact Nat.le_of_ble_eq_true rfl | with_reducible assumption | with_reducible exact rfl | omega | with_reducible apply wAnd | decide +kernel
  · have e : ¬ (p < n ∧ G 186 p = c) := by
      omega
    rw [if_neg e, decide_eq_false e]
    exact ⟨rfl, rfl⟩
  · have e : p < n ∧ G 186 p = c := by
      omega
    rw [if_pos e, decide_eq_true e]
    exact ⟨rfl, rfl⟩
