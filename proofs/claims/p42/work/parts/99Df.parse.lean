/-! ===== the text of arms is read without a fault ===== -/
/-- a tape that begins with a text -/
def tpI (T : Nat → Int) (p : Tx) : Prop := ∀ i, i < p.2 → T i = (p.1 i : Int)
theorem dec_1 {w i : Nat} (h : w < 10) (hi : i < 1) : sb_dec w i = 48 + w := by
  have hd : sb_dg w = 1 := dg1 h
  have e : i = 0 := by omega
  unfold sb_dec
  rw [hd, e, Nat.sub_self, Nat.pow_zero, Nat.div_one, Nat.mod_eq_of_lt h]
theorem dg_2 {w : Nat} (h9 : ¬ w < 10) (h : w < 100) : sb_dg w = 2 := by unfold sb_dg; rw [if_neg h9, if_pos h]
theorem dec_20 {w : Nat} (h9 : ¬ w < 10) (h : w < 100) : sb_dec w 0 = 48 + w / 10 := by
  unfold sb_dec
  rw [dg_2 h9 h]
  show 48 + w / 10 ^ 1 % 10 = _
  rw [Nat.pow_one, Nat.mod_eq_of_lt (by omega)]
theorem dec_21 {w : Nat} (h9 : ¬ w < 10) (h : w < 100) : sb_dec w 1 = 48 + w % 10 := by
  unfold sb_dec
  rw [dg_2 h9 h]
  show 48 + w / 10 ^ 0 % 10 = _
  rw [Nat.pow_zero, Nat.div_one]
theorem num_ok {T : Nat → Int} {n p w : Nat} (hw : w < 100) (hT : ∀ i, i < sb_dg w → T (p + i) = (sb_dec w i : Int)) (hn : p + sb_dg w ≤ n) (he : p + sb_dg w < n → ¬ (48 ≤ T (p + sb_dg w) ∧ T (p + sb_dg w) ≤ 57)) : numF T n 3 p 0 = ((w : Int), p + sb_dg w) := by
  by_cases h9 : w < 10
  · have hd : sb_dg w = 1 := dg1 h9
    rw [hd] at hT hn he ⊢
    have h0 := hT 0 (by decide)
    rw [dec_1 h9 (by decide), Nat.add_zero] at h0
    rw [numF, if_pos ⟨by omega, by rw [h0]; omega, by rw [h0]; omega⟩, numF, if_neg (fun z => he z.1 z.2), h0]
    congr 1
    omega
  · have hd : sb_dg w = 2 := dg_2 h9 hw
    rw [hd] at hT hn he ⊢
    have h0 := hT 0 (by decide)
    have h1 := hT 1 (by decide)
    rw [dec_20 h9 hw, Nat.add_zero] at h0
    rw [dec_21 h9 hw] at h1
    rw [numF, if_pos ⟨by omega, by rw [h0]; omega, by rw [h0]; omega⟩, numF, if_pos ⟨by omega, by rw [h1]; omega, by rw [h1]; omega⟩, numF, if_neg (fun z => he z.1 z.2), h0, h1]
    congr 1
    omega
/-- one more arm behind a text -/
def txA (p : Tx) (w k : Nat) : Tx := txD (txS (txD p w) cX1) k
theorem txA_2 (p : Tx) (w k : Nat) : (txA p w k).2 = p.2 + sb_dg w + 1 + sb_dg k := rfl
theorem txA_lo {p : Tx} {w k i : Nat} (h : i < p.2) : (txA p w k).1 i = p.1 i := by
  show sb_cat (sb_cat (sb_cat p.1 p.2 _) _ _) _ _ i = _
  rw [sb_cat_lo (by show i < p.2 + sb_dg w + 1; omega), sb_cat_lo (by show i < p.2 + sb_dg w; omega), sb_cat_lo h]
theorem txA_w {p : Tx} {w k i : Nat} (h : i < sb_dg w) : (txA p w k).1 (p.2 + i) = sb_dec w i := by
  show sb_cat (sb_cat (sb_cat p.1 p.2 _) _ _) _ _ (p.2 + i) = _
  rw [sb_cat_lo (by show p.2 + i < p.2 + sb_dg w + 1; omega), sb_cat_lo (by show p.2 + i < p.2 + sb_dg w; omega), sb_cat_hi]
theorem txA_x {p : Tx} {w k : Nat} : (txA p w k).1 (p.2 + sb_dg w) = 120 := by
  show sb_cat (sb_cat (sb_cat p.1 p.2 _) _ _) _ _ (p.2 + sb_dg w) = _
  rw [sb_cat_lo (by show p.2 + sb_dg w < p.2 + sb_dg w + 1; omega)]
  show sb_cat (sb_cat p.1 p.2 _) (p.2 + sb_dg w) _ (p.2 + sb_dg w + 0) = _
  rw [sb_cat_hi]
  rfl
theorem txA_k {p : Tx} {w k i : Nat} (h : i < sb_dg k) : (txA p w k).1 (p.2 + sb_dg w + 1 + i) = sb_dec k i := by
  show sb_cat (sb_cat (sb_cat p.1 p.2 _) _ _) (p.2 + sb_dg w + 1) _ (p.2 + sb_dg w + 1 + i) = _
  rw [sb_cat_hi]
/-- reading one arm -/
theorem par_arm {T : Nat → Int} {n f w k : Nat} {p : Tx} (hw : 1 ≤ w ∧ w ≤ 16) (hk : 1 ≤ k ∧ k < 100) (hT : tpI T (txA p w k)) (hn : (txA p w k).2 ≤ n) (he : (txA p w k).2 < n → T (txA p w k).2 = 44 ∧ 0 < f) : (parF T n (f + 1) p.2).1 = if (txA p w k).2 < n then (parF T n f ((txA p w k).2 + 1)).1 else -1 := by
  have e2 := txA_2 p w k
  have hw1 := (sb_dg_in w).1
  have hk1 := (sb_dg_in k).1
  have n1 : numF T n 3 p.2 0 = ((w : Int), p.2 + sb_dg w) := num_ok (by omega) (fun i hi => by rw [hT _ (by omega), txA_w hi]) (by omega) (fun _ z => by
    rw [hT _ (by omega), txA_x] at z
    omega)
  have n2 : numF T n 3 (p.2 + sb_dg w + 1) 0 = ((k : Int), p.2 + sb_dg w + 1 + sb_dg k) := num_ok hk.2 (fun i hi => by rw [hT _ (by omega), txA_k hi]) (by omega) (fun h z => by
    rw [← e2, (he (by omega)).1] at z
    omega)
  have hx : T (p.2 + sb_dg w) = 120 := by rw [hT _ (by omega), txA_x]; rfl
  rw [parF, n1]
  dsimp only
  rw [if_neg (fun z => z ⟨by omega, by omega⟩), if_neg (fun z => z ⟨by omega, hx⟩), n2]
  dsimp only
  rw [if_neg (fun z => z ⟨by omega, by omega⟩), ← e2]
  by_cases h : (txA p w k).2 < n
  · rw [if_neg (fun z => z h), if_pos h, if_neg (fun z => z.elim (fun z => by have := (he h).2; omega) fun z => z (he h).1)]
  · rw [if_pos h, if_neg h]
/-- a text of c arms -/
def parOk (p : Tx) (c : Nat) : Prop := ∀ (T : Nat → Int) (n f : Nat), tpI T p → p.2 ≤ n → c ≤ f → (p.2 < n → T p.2 = 44 ∧ c < f) → (parF T n f 0).1 = if p.2 < n then (parF T n (f - c) (p.2 + 1)).1 else -1
theorem parOk_1 {w k : Nat} (hw : 1 ≤ w ∧ w ≤ 16) (hk : 1 ≤ k ∧ k < 100) : parOk (txA (fun _ => 0, 0) w k) 1 := by
  intro T n f hT hn hf he
  obtain ⟨f, rfl⟩ : ∃ f', f = f' + 1 := ⟨f - 1, by omega⟩
  exact par_arm (p := (fun _ => 0, 0)) hw hk hT hn fun h => ⟨(he h).1, by have := (he h).2; omega⟩
theorem parOk_S {t : Tx} {c w k : Nat} (hw : 1 ≤ w ∧ w ≤ 16) (hk : 1 ≤ k ∧ k < 100) (h : parOk t c) : parOk (txA (txS (txS (fun _ => 0, 0) t) cC1) w k) (c + 1) := by
  have e1 : (txS (txS (fun _ => 0, 0) t) cC1).2 = t.2 + 1 := by show 0 + t.2 + 1 = _; omega
  have hlo : ∀ i, i < t.2 → (txS (txS (fun _ => 0, 0) t) cC1).1 i = t.1 i := fun i hi => by
    show sb_cat (sb_cat (fun _ => 0) 0 t.1) (0 + t.2) _ i = _
    rw [sb_cat_lo (by omega)]
    have := sb_cat_hi (t := fun _ => 0) (n := 0) (s := t.1) (j := i)
    rw [Nat.zero_add] at this
    exact this
  have hc : (txS (txS (fun _ => 0, 0) t) cC1).1 t.2 = 44 := by
    show sb_cat (sb_cat (fun _ => 0) 0 t.1) (0 + t.2) cC1.1 t.2 = _
    have := sb_cat_hi (t := sb_cat (fun _ => 0) 0 t.1) (n := 0 + t.2) (s := cC1.1) (j := 0)
    rw [Nat.add_zero, Nat.zero_add] at this
    rw [Nat.zero_add]
    exact this
  intro T n f hT hn hf he
  have e2 := txA_2 (txS (txS (fun _ => 0, 0) t) cC1) w k
  have hT1 : tpI T t := fun i hi => by rw [hT i (by omega), txA_lo (by omega), hlo i hi]
  have hT2 : T t.2 = 44 := by rw [hT t.2 (by omega), txA_lo (by omega), hc]; rfl
  rw [h T n f hT1 (by omega) (by omega) (fun _ => ⟨hT2, by omega⟩), if_pos (by omega)]
  obtain ⟨g, hg⟩ : ∃ g, f - c = g + 1 := ⟨f - c - 1, by omega⟩
  rw [hg, ← e1, par_arm hw hk hT hn (fun z => ⟨(he z).1, by have := (he z).2; omega⟩), show f - (c + 1) = g by omega]
theorem aT_par (v : Nat) : ∃ c, c ≤ 3 ∧ parOk (aT3 v) c := by
  have h1 : parOk (aT1 v) 1 := parOk_1 (w := 1 + v % 7) (k := 1 + v / 2 ^ 3 % 20) (by omega) (by omega)
  have h2 : ∃ c, c ≤ 2 ∧ parOk (aT2 v) c := by
    unfold aT2
    split
    · exact ⟨2, by omega, parOk_S (w := 1 + v / 2 ^ 9 % 5) (k := 1 + v / 2 ^ 12 % 30) (by omega) (by omega) h1⟩
    · exact ⟨1, by omega, h1⟩
  obtain ⟨c, hc, h2⟩ := h2
  unfold aT3
  split
  · exact ⟨c + 1, by omega, parOk_S (w := 1 + v / 2 ^ 19 % 16) (k := 1 + v / 2 ^ 20 % 9) (by omega) (by omega) h2⟩
  · exact ⟨c, by omega, h2⟩
/-- the tape's text is taken whole -/
theorem aT_read {v : Nat} {T : Nat → Int} (hT : tpI T (aT3 v)) : (parF T (aT3 v).2 4 0).1 = -1 := by
  obtain ⟨c, hc, h⟩ := aT_par v
  rw [h T (aT3 v).2 4 hT (Nat.le_refl _) (by omega) (fun z => absurd z (Nat.lt_irrefl _)), if_neg (Nat.lt_irrefl _)]
/-- its letters can be fed -/
def txR (p : Tx) : Prop := ∀ j, j < p.2 → 32 ≤ p.1 j ∧ p.1 j ≤ 126
theorem txR_S {p t : Tx} (hp : txR p) (ht : txR t) : txR (txS p t) := fun j hj => by
  by_cases h : j < p.2
  · show 32 ≤ sb_cat p.1 p.2 t.1 j ∧ sb_cat p.1 p.2 t.1 j ≤ 126
    rw [sb_cat_lo h]; exact hp j h
  · obtain ⟨i, rfl⟩ : ∃ i, j = p.2 + i := ⟨j - p.2, by omega⟩
    show 32 ≤ sb_cat p.1 p.2 t.1 _ ∧ sb_cat p.1 p.2 t.1 _ ≤ 126
    rw [sb_cat_hi]; exact ht i (by rw [txS_2] at hj; omega)
theorem txR_D {p : Tx} (hp : txR p) (w : Nat) : txR (txD p w) := txR_S (t := (sb_dec w, sb_dg w)) hp fun j _ => by
  show 32 ≤ sb_dec w j ∧ sb_dec w j ≤ 126
  unfold sb_dec; omega
theorem txR_0 : txR (fun _ => 0, 0) := fun j hj => absurd hj (Nat.not_lt_zero j)
theorem txR_c (i : Nat) : txR (fun _ => xB i, 1) := fun j _ => by
  show 32 ≤ xB i ∧ xB i ≤ 126
  unfold xB; split <;> decide
theorem txR_A {p : Tx} (hp : txR p) (w k : Nat) : txR (txA p w k) := txR_D (txR_S (txR_D hp _) (txR_c 0)) _
theorem aT_letters (v : Nat) : txR (aT3 v) := by
  have h1 : txR (aT1 v) := txR_A txR_0 _ _
  have h2 : txR (aT2 v) := by
    unfold aT2
    split
    · exact txR_A (txR_S (txR_S txR_0 h1) (txR_c 1)) _ _
    · exact h1
  unfold aT3
  split
  · exact txR_A (txR_S (txR_S txR_0 h2) (txR_c 1)) _ _
  · exact h2
