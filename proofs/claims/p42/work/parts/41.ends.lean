/-! ===== who holds a column; a job's end ===== -/
def anyTo (p : Nat → Bool) : Nat → Bool
  | 0 => false
  | n + 1 => anyTo p n || p n
theorem anyTo_iff {p : Nat → Bool} : ∀ {n : Nat}, anyTo p n = true ↔ ∃ i, i < n ∧ p i = true
  | 0 => by simp [anyTo]
  | n + 1 => by
    rw [anyTo, Bool.or_eq_true, anyTo_iff]
    constructor
    · rintro (⟨i, h1, h2⟩ | h)
      · exact ⟨i, by omega, h2⟩
      · exact ⟨n, by omega, h⟩
    · rintro ⟨i, h1, h2⟩
      by_cases e : i = n
      · subst e; exact Or.inr h2
      · exact Or.inl ⟨i, by omega, h2⟩
theorem anyTo_congr {p q : Nat → Bool} : ∀ {n : Nat}, (∀ i, i < n → p i = q i) → anyTo p n = anyTo q n
  | 0, _ => rfl
  | n + 1, h => by rw [anyTo, anyTo, anyTo_congr fun i hi => h i (by omega), h n (by omega)]
def leastTo (p : Nat → Bool) : Nat → Nat
  | 0 => 0
  | n + 1 => if leastTo p n < n then leastTo p n else if p n = true then n else n + 1
theorem leastTo_eq {p : Nat → Bool} {j : Nat} (h : p j = true) (h2 : ∀ i, i < j → p i = false) : ∀ n, j < n → leastTo p n = j
  | 0, hj => by omega
  | n + 1, hj => by
    have hno : ∀ m, m ≤ j → leastTo p m = m := by
      intro m
      induction m with
      | zero => intro _; rfl
      | succ m ih =>
        intro hm
        rw [leastTo, ih (by omega), if_neg (by omega), if_neg (by rw [h2 m (by omega)]; decide)]
    rw [leastTo]
    by_cases e : j = n
    · subst e
      rw [hno j (Nat.le_refl _), if_neg (by omega), if_pos h]
    · rw [leastTo_eq h h2 n (by omega), if_pos (by omega)]
theorem leastTo_no {p : Nat → Bool} : ∀ n, (∀ i, i < n → p i = false) → leastTo p n = n
  | 0, _ => rfl
  | n + 1, h => by rw [leastTo, leastTo_no n fun i hi => h i (by omega), if_neg (by omega), if_neg (by rw [h n (by omega)]; decide)]
theorem leastTo_congr {p q : Nat → Bool} : ∀ {n : Nat}, (∀ i, i < n → p i = q i) → leastTo p n = leastTo q n
  | 0, _ => rfl
  | n + 1, h => by rw [leastTo, leastTo, leastTo_congr fun i hi => h i (by omega), h n (by omega)]
theorem leastTo_le {p : Nat → Bool} : ∀ n, leastTo p n ≤ n ∧ (leastTo p n < n → p (leastTo p n) = true)
  | 0 => ⟨Nat.le_refl _, fun h => by omega⟩
  | n + 1 => by
    have ih := leastTo_le (p := p) n
    rw [leastTo]
    split
    · rename_i h; exact ⟨by omega, fun _ => ih.2 h⟩
    · split
      · rename_i h; exact ⟨by omega, fun _ => h⟩
      · exact ⟨by omega, fun h => by omega⟩
def holdB (g : Nat → Int) (c j : Nat) : Bool := anyTo (fun a => mHolds g j a && (mHeldBits g j a).testBit c) (mArms g j)
def holderF (g : Nat → Int) (c : Nat) : Int := if leastTo (holdB g c) (g 1).toNat < (g 1).toNat then (leastTo (holdB g c) (g 1).toNat : Int) else -1
theorem holderF_rg {g : Nat → Int} {c : Nat} : -1 ≤ holderF g c ∧ holderF g c < (if 0 ≤ g 1 then g 1 else 0) := by
  unfold holderF
  split <;> split <;> omega
theorem M_holderOf {G U : Nat → Nat → Int} {c : Nat} (hc : c < 16) (hr : gRange (G 180)) (hm : 0 ≤ G 180 1 ∧ G 180 1 ≤ 80) (hok : ∀ j, j < (G 180 1).toNat → mJobOk (G 180) j) : F_M_holderOf [pR 179, pI (Int32.ofInt (c : Int))] (zM G U) = some (some (pI (Int32.ofInt (holderF (G 180) c))), zM G U) := by
  apply wF_to
  refine W_holderOf hc hr hm hok ?_ ?_
  · intro j a hj ha hh hb hf
    have e : leastTo (holdB (G 180) c) (G 180 1).toNat = j := by
      have hjb : holdB (G 180) c j = true := anyTo_iff.mpr ⟨a, ha, by show (mHolds (G 180) j a && (mHeldBits (G 180) j a).testBit c) = true; rw [hh, hb]; rfl⟩
      refine leastTo_eq hjb (fun i hi => ?_) _ hj
      cases hc2 : holdB (G 180) c i with
      | false => rfl
      | true =>
        obtain ⟨b, hb1, hb2⟩ := anyTo_iff.mp hc2
        simp only [Bool.and_eq_true] at hb2
        rw [hf i b hi hb1 hb2.1] at hb2
        exact absurd hb2.2 (by decide)
    unfold holderF
    rw [e, if_pos hj]
    exact ⟨rfl, rfl⟩
  · intro hn
    have e : leastTo (holdB (G 180) c) (G 180 1).toNat = (G 180 1).toNat := by
      refine leastTo_no _ fun i hi => ?_
      cases hc2 : holdB (G 180) c i with
      | false => rfl
      | true =>
        obtain ⟨b, hb1, hb2⟩ := anyTo_iff.mp hc2
        simp only [Bool.and_eq_true] at hb2
        rw [hn i b hi hb1 hb2.1] at hb2
        exact absurd hb2.2 (by decide)
    unfold holderF
    rw [e, if_neg (by omega)]
    exact ⟨rfl, rfl⟩
theorem evOr {L : pLo} {σ : pM} {p q : Bool} {a b : eB} (ha : a L σ = some (p, σ)) (hb : b L σ = some (q, σ)) : vOr a b L σ = some (p || q, σ) := by
  simp only [vOr, ha, hb, Option.bind_some]
theorem wPopc {L : pLo} {σ τ : pM} {N B C : pQ} {R : Option pV → pM → Prop} {ci : Nat} {F : pF} {a : eA} {As : List pV} (ha : a L σ = some (As, τ)) (hc : ckV ci As = true) (h : WpF F As τ (fun r σ' => (∃ x : Int, r = some (pI (Int32.ofInt x))) ∧ N L σ')) : WpS (sPop (vC ci F rI a)) L σ N B C R := by
  obtain ⟨r, σ', h1, ⟨x, rfl⟩, h3⟩ := h
  exact wPop (wIc ha hc ⟨_, σ', h1, x, rfl, h3⟩)
def maxTo (f : Nat → Int) : Nat → Int
  | 0 => 0
  | n + 1 => max (maxTo f n) (f n)
theorem maxTo_rg {f : Nat → Int} {c : Int} (hc : 0 ≤ c) : ∀ {n : Nat}, (∀ i, i < n → f i ≤ c) → 0 ≤ maxTo f n ∧ maxTo f n ≤ c
  | 0, _ => by simp [maxTo]; exact hc
  | n + 1, h => by
    have := maxTo_rg (f := f) hc (n := n) fun i hi => h i (by omega)
    have := h n (by omega)
    rw [maxTo]
    omega
theorem maxTo_le {f : Nat → Int} {c : Int} (hc : 0 ≤ c) : ∀ {n : Nat}, maxTo f n ≤ c ↔ ∀ i, i < n → f i ≤ c
  | 0 => by simp [maxTo]; exact hc
  | n + 1 => by
    rw [maxTo]
    constructor
    · intro h i hi
      by_cases e : i = n
      · subst e; omega
      · exact (maxTo_le hc (n := n)).mp (by omega) i (by omega)
    · intro h
      have := (maxTo_le hc (n := n)).mpr fun i hi => h i (by omega)
      have := h n (by omega)
      omega
def lastEnd (g : Nat → Int) (j : Nat) : Int := maxTo (fun a => mAt g j (24 + a)) (mArms g j)
def cutB (g : Nat → Int) (j : Nat) : Bool := anyTo (fun a => decide (mAt g j (16 + a) < lastF g j a)) (mArms g j)
def endG (g : Nat → Int) (j : Nat) : Nat → Int := if lastEnd g j ≤ g 0 then hapF (jput (jput g j 5 (if cutB g j = true then 3 else 2)) j 7 (g 0)) (if cutB g j = true then 3 else 2) j else g
def endU (g : Nat → Int) (U : Nat → Nat → Int) (j : Nat) : Nat → Nat → Int := if lastEnd g j ≤ g 0 then upZ U 183 (8 + if cutB g j = true then 2 else 1) (U 183 (8 + if cutB g j = true then 2 else 1) + 1) else U
theorem W_ends {G U : Nat → Nat → Int} {g : Nat → Int} {j : Nat} {R : Option pV → pM → Prop} (hj : j < 80) (h7 : 0 ≤ g 7 ∧ g 7 ≤ 60) (h0 : 0 ≤ g 0 ∧ g 0 ≤ 1000000) (h4 : 0 ≤ mAt g j 4 ∧ mAt g j 4 ≤ 4) (h2 : 0 ≤ mAt g j 2 ∧ mAt g j 2 ≤ 1000) (ha : ∀ a, a < mArms g j → (0 ≤ mAt g j (16 + a) ∧ mAt g j (16 + a) ≤ 200) ∧ (-1 ≤ mAt g j (24 + a) ∧ mAt g j (24 + a) ≤ 2000000)) (hR : R none (zM (setRow G 180 (endG g j)) (endU g U j))) : WpF F_M_ends [pR 179, pI (Int32.ofInt (j : Int))] (zM (setRow G 180 g) U) R := by
  unfold F_M_ends B_M_ends
  apply wBody (Nat.le_of_ble_eq_true rfl)
  repeat' first | with_reducible refine W_happens (by omega) ?_ | with_reducible apply wSeq | with_reducible apply wSkip | with_reducible apply wIf | with_reducible apply wAsI | with_reducible apply wAsZ | ((with_reducible apply wInc); rfl) | with_reducible apply wKil | with_reducible apply wRV | with_reducible apply wLmdA2 | with_reducible apply wVd | with_reducible apply wF_e (F := F_M_sets) | with_reducible apply wB_e | (intro h; try simp only [Bool.and_eq_true, Bool.or_eq_true, Bool.not_eq_true', Bool.not_eq_false', Bool.and_eq_false_imp, Bool.or_eq_false_iff, decide_eq_true_eq, decide_eq_false_iff_not, Bool.not_true, Bool.not_false, Bool.true_eq_false, Bool.false_eq_true, Bool.not_not] at h) | with_reducible apply wN1 | with_reducible apply wN2 | with_reducible apply wN3 | with_reducible apply wN4 | with_reducible apply wN0 | with_reducible apply wE0 | with_reducible apply wXI | with_reducible apply wXB | ((with_reducible apply eG); rfl) | with_reducible apply eArrO | with_reducible exact M_c0 (by omega) | with_reducible exact M_c1 (by omega) | with_reducible exact M_c2 (by omega) | with_reducible exact M_c3 (by omega) | with_reducible exact M_c4 (by omega) | with_reducible exact M_c5 (by omega) | with_reducible exact M_c6 (by omega) | with_reducible exact M_c7 (by omega) | with_reducible exact M_c8 (by omega) | with_reducible exact M_c9 (by omega) | with_reducible exact M_c10 (by omega) | with_reducible exact M_c11 (by omega) | with_reducible exact M_d12 (by omega) (by omega) | with_reducible exact M_d16 (by omega) (by omega) | with_reducible exact M_d20 (by omega) (by omega) | with_reducible exact M_d24 (by omega) (by omega) | with_reducible exact M_d28 (by omega) (by omega) | with_reducible exact M_e0 (by omega) | with_reducible exact M_e1 (by omega) | with_reducible exact M_e2 (by omega) | with_reducible exact M_e3 (by omega) | with_reducible exact M_e4 (by omega) | with_reducible exact M_e5 (by omega) | with_reducible exact M_e6 (by omega) | with_reducible exact M_e7 (by omega) | with_reducible exact M_e8 (by omega) | with_reducible exact M_e9 (by omega) | with_reducible exact M_e10 (by omega) | with_reducible exact M_e11 (by omega) | with_reducible exact M_f12 (by omega) (by omega) | with_reducible exact M_f16 (by omega) (by omega) | with_reducible exact M_f20 (by omega) (by omega) | with_reducible exact M_f24 (by omega) (by omega) | with_reducible exact M_f28 (by omega) (by omega) | with_reducible exact eK | with_reducible exact eKJ | ((with_reducible apply eL); rfl) | ((with_reducible apply eLR); rfl) | ((with_reducible apply eLZ); rfl) | with_reducible exact eAN | with_reducible apply eAdd | with_reducible apply eMax | with_reducible apply eLt | with_reducible apply eGt | with_reducible apply eLe | with_reducible apply evOr | with_reducible apply eIteI | with_reducible apply eIteJ | with_reducible apply eIte | with_reducible exact eKZ | with_reducible apply eArr2 | with_reducible apply eAI | with_reducible apply eAR | with_reducible apply eCI | with_reducible apply eCZ | with_reducible apply wRc | with_reducible exact ckv179 | with_reducible apply R_M_g | with_reducible apply R_M_sums | with_reducible exact N_M_g | with_reducible exact N_M_sums | with_reducible exact M_lasts (by omega) (by omega) (by omega) (by omega) | with_reducible exact M_a0 (by omega) | with_reducible exact M_a1 (by omega) | with_reducible exact M_a2 (by omega) | with_reducible exact M_a3 (by omega) | with_reducible exact M_a4 (by omega) | with_reducible exact M_a5 (by omega) | with_reducible exact M_a6 (by omega) | with_reducible exact M_a7 (by omega) | with_reducible exact M_a8 (by omega) | with_reducible exact M_a9 (by omega) | with_reducible exact M_a10 (by omega) | with_reducible exact M_a11 (by omega) | with_reducible exact M_b12 (by omega) (by omega) | with_reducible exact M_b16 (by omega) (by omega) | with_reducible exact M_b20 (by omega) (by omega) | with_reducible exact M_b24 (by omega) (by omega) | with_reducible exact M_b28 (by omega) (by omega) | with_reducible exact Int.toNat_natCast _ | with_reducible exact tn0 | with_reducible exact tn1 | with_reducible exact tn2 | with_reducible exact tn3 | with_reducible exact tn4 | with_reducible exact tn5 | with_reducible exact tn6 | with_reducible exact tn7 | with_reducible exact tn8 | with_reducible exact tn9 | with_reducible exact tn10 | with_reducible exact tn11 | with_reducible exact tn12 | with_reducible exact tn13 | with_reducible exact tn14 | with_reducible exact tn15 | with_reducible exact tn16 | with_reducible exact tnK0 | with_reducible exact tnK4 | with_reducible exact tnK8 | with_reducible exact tnK12 | with_reducible exact tnK16 | with_reducible exact tnK20 | with_reducible exact tnK24 | with_reducible exact tnK28 | with_reducible exact tnK32 | with_reducible exact tnJA | with_reducible exact tnA | with_reducible exact upR_s | ((with_reducible apply upR_a); (first | decide | omega)) | ((with_reducible apply upR_b); (first | decide | omega)) | with_reducible exact putR_s | ((with_reducible apply putR_o); (first | decide | omega)) | ((with_reducible apply jputR_lo); (first | decide | omega)) | ((with_reducible apply jputR_hi); omega; omega; omega) | exact Nat.le_of_ble_eq_true rfl | with_reducible assumption | with_reducible exact rfl | omega | with_reducible apply wAnd | decide +kernel
  have em : mArms g j = (mAt g j 4).toNat := rfl
  refine wWh (fun i L σ => L = [some (pR 179), some (pI (Int32.ofInt (j : Int))), some (pI (Int32.ofInt (maxTo (fun a => mAt g j (24 + a)) i))), some (pI (zI (anyTo (fun a => decide (mAt g j (16 + a) < lastF g j a)) i))), some (pI (Int32.ofInt (i : Int)))] ∧ σ = zM (setRow G 180 g) U) (mArms g j) (by omega) ⟨rfl, rfl⟩ ?_
  rintro i _ _ hi ⟨rfl, rfl⟩
  have hm := maxTo_rg (f := fun a => mAt g j (24 + a)) (c := 2000000) (by omega) (n := i) (fun a h => (ha a (by omega)).2.2)
  rcases Nat.lt_or_ge i (mArms g j) with hlt | hge
  · obtain ⟨⟨a1, a2⟩, a3, a4⟩ := ha i hlt
    have hl := M_lastsR (G := G) (U := U) (g := g) (j := j) (a := i) hj (by omega) (by omega) h2
    have hl2 : 0 ≤ lastF g j i ∧ lastF g j i ≤ 1000000 := by
      unfold lastF
      have q1 : 0 ≤ mAt g j (16 + i) * mAt g j 2 := Int.mul_nonneg a1 h2.1
      have q2 : mAt g j (16 + i) * mAt g j 2 ≤ 200 * 1000 := Int.mul_le_mul a2 h2.2 h2.1 (by omega)
      omega
    rw [show anyTo (fun a => decide (mAt g j (16 + a) < lastF g j a)) (i + 1) = (anyTo (fun a => decide (mAt g j (16 + a) < lastF g j a)) i || decide (mAt g j (16 + i) < lastF g j i)) from rfl, show maxTo (fun a => mAt g j (24 + a)) (i + 1) = max (maxTo (fun a => mAt g j (24 + a)) i) (mAt g j (24 + i)) from rfl]
    generalize maxTo (fun a => mAt g j (24 + a)) i = mx at *
    generalize anyTo (fun a => decide (mAt g j (16 + a) < lastF g j a)) i = an at *
    generalize lastF g j i = la at *
    clear hR
    repeat' first | with_reducible refine W_happens (by omega) ?_ | with_reducible apply wSeq | with_reducible apply wSkip | with_reducible apply wIf | with_reducible apply wAsI | with_reducible apply wAsZ | ((with_reducible apply wInc); rfl) | with_reducible apply wKil | with_reducible apply wRV | with_reducible apply wLmdA2 | with_reducible apply wVd | with_reducible apply wF_e (F := F_M_sets) | with_reducible apply wB_e | (intro h; try simp only [Bool.and_eq_true, Bool.or_eq_true, Bool.not_eq_true', Bool.not_eq_false', Bool.and_eq_false_imp, Bool.or_eq_false_iff, decide_eq_true_eq, decide_eq_false_iff_not, Bool.not_true, Bool.not_false, Bool.true_eq_false, Bool.false_eq_true, Bool.not_not] at h) | with_reducible apply wN1 | with_reducible apply wN2 | with_reducible apply wN3 | with_reducible apply wN4 | with_reducible apply wN0 | with_reducible apply wE0 | with_reducible apply wXI | with_reducible apply wXB | with_reducible exact hl | ((with_reducible apply eG); rfl) | with_reducible apply eArrO | with_reducible exact M_c0 (by omega) | with_reducible exact M_c1 (by omega) | with_reducible exact M_c2 (by omega) | with_reducible exact M_c3 (by omega) | with_reducible exact M_c4 (by omega) | with_reducible exact M_c5 (by omega) | with_reducible exact M_c6 (by omega) | with_reducible exact M_c7 (by omega) | with_reducible exact M_c8 (by omega) | with_reducible exact M_c9 (by omega) | with_reducible exact M_c10 (by omega) | with_reducible exact M_c11 (by omega) | with_reducible exact M_d12 (by omega) (by omega) | with_reducible exact M_d16 (by omega) (by omega) | with_reducible exact M_d20 (by omega) (by omega) | with_reducible exact M_d24 (by omega) (by omega) | with_reducible exact M_d28 (by omega) (by omega) | with_reducible exact M_e0 (by omega) | with_reducible exact M_e1 (by omega) | with_reducible exact M_e2 (by omega) | with_reducible exact M_e3 (by omega) | with_reducible exact M_e4 (by omega) | with_reducible exact M_e5 (by omega) | with_reducible exact M_e6 (by omega) | with_reducible exact M_e7 (by omega) | with_reducible exact M_e8 (by omega) | with_reducible exact M_e9 (by omega) | with_reducible exact M_e10 (by omega) | with_reducible exact M_e11 (by omega) | with_reducible exact M_f12 (by omega) (by omega) | with_reducible exact M_f16 (by omega) (by omega) | with_reducible exact M_f20 (by omega) (by omega) | with_reducible exact M_f24 (by omega) (by omega) | with_reducible exact M_f28 (by omega) (by omega) | with_reducible exact eK | with_reducible exact eKJ | ((with_reducible apply eL); rfl) | ((with_reducible apply eLR); rfl) | ((with_reducible apply eLZ); rfl) | with_reducible exact eAN | with_reducible apply eAdd | with_reducible apply eMax | with_reducible apply eLt | with_reducible apply eGt | with_reducible apply eLe | with_reducible apply evOr | with_reducible apply eIteI | with_reducible apply eIteJ | with_reducible apply eIte | with_reducible exact eKZ | with_reducible apply eArr2 | with_reducible apply eAI | with_reducible apply eAR | with_reducible apply eCI | with_reducible apply eCZ | with_reducible apply wRc | with_reducible exact ckv179 | with_reducible apply R_M_g | with_reducible apply R_M_sums | with_reducible exact N_M_g | with_reducible exact N_M_sums | with_reducible exact M_lasts (by omega) (by omega) (by omega) (by omega) | with_reducible exact M_a0 (by omega) | with_reducible exact M_a1 (by omega) | with_reducible exact M_a2 (by omega) | with_reducible exact M_a3 (by omega) | with_reducible exact M_a4 (by omega) | with_reducible exact M_a5 (by omega) | with_reducible exact M_a6 (by omega) | with_reducible exact M_a7 (by omega) | with_reducible exact M_a8 (by omega) | with_reducible exact M_a9 (by omega) | with_reducible exact M_a10 (by omega) | with_reducible exact M_a11 (by omega) | with_reducible exact M_b12 (by omega) (by omega) | with_reducible exact M_b16 (by omega) (by omega) | with_reducible exact M_b20 (by omega) (by omega) | with_reducible exact M_b24 (by omega) (by omega) | with_reducible exact M_b28 (by omega) (by omega) | with_reducible exact hl | with_reducible exact Int.toNat_natCast _ | with_reducible exact tn0 | with_reducible exact tn1 | with_reducible exact tn2 | with_reducible exact tn3 | with_reducible exact tn4 | with_reducible exact tn5 | with_reducible exact tn6 | with_reducible exact tn7 | with_reducible exact tn8 | with_reducible exact tn9 | with_reducible exact tn10 | with_reducible exact tn11 | with_reducible exact tn12 | with_reducible exact tn13 | with_reducible exact tn14 | with_reducible exact tn15 | with_reducible exact tn16 | with_reducible exact tnK0 | with_reducible exact tnK4 | with_reducible exact tnK8 | with_reducible exact tnK12 | with_reducible exact tnK16 | with_reducible exact tnK20 | with_reducible exact tnK24 | with_reducible exact tnK28 | with_reducible exact tnK32 | with_reducible exact tnJA | with_reducible exact tnA | with_reducible exact upR_s | ((with_reducible apply upR_a); (first | decide | omega)) | ((with_reducible apply upR_b); (first | decide | omega)) | with_reducible exact putR_s | ((with_reducible apply putR_o); (first | decide | omega)) | ((with_reducible apply jputR_lo); (first | decide | omega)) | ((with_reducible apply jputR_hi); omega; omega; omega) | exact Nat.le_of_ble_eq_true rfl | with_reducible assumption | with_reducible exact rfl | omega | with_reducible apply wAnd | decide +kernel
    exact ⟨rfl, rfl⟩
  · have e : i = mArms g j := by omega
    rw [e] at hm ⊢
    unfold endG endU lastEnd cutB at hR
    generalize maxTo (fun a => mAt g j (24 + a)) (mArms g j) = mx at *
    generalize anyTo (fun a => decide (mAt g j (16 + a) < lastF g j a)) (mArms g j) = an at *
    have e0 : jput g j 5 (if an = true then 3 else 2) 0 = g 0 := jput_lo (by omega)
    have e7 : jput (jput g j 5 (if an = true then 3 else 2)) j 7 (g 0) 7 = g 7 := by rw [jput_lo (by omega), jput_lo (by omega)]
    have tn : ((8 : Int) + (if an = true then 2 else 1)).toNat = 8 + if an = true then 2 else 1 := by cases an <;> rfl
    have hx : (0 : Int) ≤ 8 + (if an = true then 2 else 1) ∧ (8 : Int) + (if an = true then 2 else 1) < 16 := by cases an <;> decide
    repeat' first | with_reducible refine W_happens (by omega) ?_ | with_reducible apply wSeq | with_reducible apply wSkip | with_reducible apply wIf | with_reducible apply wAsI | with_reducible apply wAsZ | ((with_reducible apply wInc); rfl) | with_reducible apply wKil | with_reducible apply wRV | with_reducible apply wLmdA2 | with_reducible apply wVd | with_reducible apply wF_e (F := F_M_sets) | with_reducible apply wB_e | (intro h; try simp only [Bool.and_eq_true, Bool.or_eq_true, Bool.not_eq_true', Bool.not_eq_false', Bool.and_eq_false_imp, Bool.or_eq_false_iff, decide_eq_true_eq, decide_eq_false_iff_not, Bool.not_true, Bool.not_false, Bool.true_eq_false, Bool.false_eq_true, Bool.not_not] at h) | with_reducible apply wN1 | with_reducible apply wN2 | with_reducible apply wN3 | with_reducible apply wN4 | with_reducible apply wN0 | with_reducible apply wE0 | with_reducible apply wXI | with_reducible apply wXB | with_reducible exact tn | with_reducible exact hx | with_reducible exact e0 | ((with_reducible apply eG); rfl) | with_reducible apply eArrO | with_reducible exact M_c0 (by omega) | with_reducible exact M_c1 (by omega) | with_reducible exact M_c2 (by omega) | with_reducible exact M_c3 (by omega) | with_reducible exact M_c4 (by omega) | with_reducible exact M_c5 (by omega) | with_reducible exact M_c6 (by omega) | with_reducible exact M_c7 (by omega) | with_reducible exact M_c8 (by omega) | with_reducible exact M_c9 (by omega) | with_reducible exact M_c10 (by omega) | with_reducible exact M_c11 (by omega) | with_reducible exact M_d12 (by omega) (by omega) | with_reducible exact M_d16 (by omega) (by omega) | with_reducible exact M_d20 (by omega) (by omega) | with_reducible exact M_d24 (by omega) (by omega) | with_reducible exact M_d28 (by omega) (by omega) | with_reducible exact M_e0 (by omega) | with_reducible exact M_e1 (by omega) | with_reducible exact M_e2 (by omega) | with_reducible exact M_e3 (by omega) | with_reducible exact M_e4 (by omega) | with_reducible exact M_e5 (by omega) | with_reducible exact M_e6 (by omega) | with_reducible exact M_e7 (by omega) | with_reducible exact M_e8 (by omega) | with_reducible exact M_e9 (by omega) | with_reducible exact M_e10 (by omega) | with_reducible exact M_e11 (by omega) | with_reducible exact M_f12 (by omega) (by omega) | with_reducible exact M_f16 (by omega) (by omega) | with_reducible exact M_f20 (by omega) (by omega) | with_reducible exact M_f24 (by omega) (by omega) | with_reducible exact M_f28 (by omega) (by omega) | with_reducible exact eK | with_reducible exact eKJ | ((with_reducible apply eL); rfl) | ((with_reducible apply eLR); rfl) | ((with_reducible apply eLZ); rfl) | with_reducible exact eAN | with_reducible apply eAdd | with_reducible apply eMax | with_reducible apply eLt | with_reducible apply eGt | with_reducible apply eLe | with_reducible apply evOr | with_reducible apply eIteI | with_reducible apply eIteJ | with_reducible apply eIte | with_reducible exact eKZ | with_reducible apply eArr2 | with_reducible apply eAI | with_reducible apply eAR | with_reducible apply eCI | with_reducible apply eCZ | with_reducible apply wRc | with_reducible exact ckv179 | with_reducible apply R_M_g | with_reducible apply R_M_sums | with_reducible exact N_M_g | with_reducible exact N_M_sums | with_reducible exact M_lasts (by omega) (by omega) (by omega) (by omega) | with_reducible exact M_a0 (by omega) | with_reducible exact M_a1 (by omega) | with_reducible exact M_a2 (by omega) | with_reducible exact M_a3 (by omega) | with_reducible exact M_a4 (by omega) | with_reducible exact M_a5 (by omega) | with_reducible exact M_a6 (by omega) | with_reducible exact M_a7 (by omega) | with_reducible exact M_a8 (by omega) | with_reducible exact M_a9 (by omega) | with_reducible exact M_a10 (by omega) | with_reducible exact M_a11 (by omega) | with_reducible exact M_b12 (by omega) (by omega) | with_reducible exact M_b16 (by omega) (by omega) | with_reducible exact M_b20 (by omega) (by omega) | with_reducible exact M_b24 (by omega) (by omega) | with_reducible exact M_b28 (by omega) (by omega) | with_reducible exact tn | with_reducible exact hx | with_reducible exact e0 | with_reducible exact Int.toNat_natCast _ | with_reducible exact tn0 | with_reducible exact tn1 | with_reducible exact tn2 | with_reducible exact tn3 | with_reducible exact tn4 | with_reducible exact tn5 | with_reducible exact tn6 | with_reducible exact tn7 | with_reducible exact tn8 | with_reducible exact tn9 | with_reducible exact tn10 | with_reducible exact tn11 | with_reducible exact tn12 | with_reducible exact tn13 | with_reducible exact tn14 | with_reducible exact tn15 | with_reducible exact tn16 | with_reducible exact tnK0 | with_reducible exact tnK4 | with_reducible exact tnK8 | with_reducible exact tnK12 | with_reducible exact tnK16 | with_reducible exact tnK20 | with_reducible exact tnK24 | with_reducible exact tnK28 | with_reducible exact tnK32 | with_reducible exact tnJA | with_reducible exact tnA | with_reducible exact upR_s | ((with_reducible apply upR_a); (first | decide | omega)) | ((with_reducible apply upR_b); (first | decide | omega)) | with_reducible exact putR_s | ((with_reducible apply putR_o); (first | decide | omega)) | ((with_reducible apply jputR_lo); (first | decide | omega)) | ((with_reducible apply jputR_hi); omega; omega; omega) | exact Nat.le_of_ble_eq_true rfl | with_reducible assumption | with_reducible exact rfl | omega | with_reducible apply wAnd | decide +kernel
    · rw [if_pos h, if_pos h] at hR
      exact hR
    · rw [if_neg h, if_neg h] at hR
      exact hR
theorem holdB_congr {g g' : Nat → Int} {c j : Nat} (h0 : g' 0 = g 0) (h : ∀ w, w < 32 → mAt g' j w = mAt g j w) (h4 : mArms g j ≤ 4) : holdB g' c j = holdB g c j := by
  have e : mArms g' j = mArms g j := by unfold mArms; rw [h 4 (by omega)]
  unfold holdB
  rw [e]
  refine anyTo_congr fun a ha => ?_
  unfold mHolds mHeldBits
  rw [h0, h 5 (by omega), h (24 + a) (by omega), h (20 + a) (by omega), h (12 + a) (by omega)]
theorem holderF_congr {g g' : Nat → Int} {c : Nat} (h0 : g' 0 = g 0) (h1 : g' 1 = g 1) (h : ∀ j w, j < (g 1).toNat → w < 32 → mAt g' j w = mAt g j w) (h4 : ∀ j, j < (g 1).toNat → mArms g j ≤ 4) : holderF g' c = holderF g c := by
  unfold holderF
  rw [h1, leastTo_congr (p := holdB g' c) (q := holdB g c) fun j hj => holdB_congr h0 (fun w hw => h j w hj hw) (h4 j hj)]
