/-! ===== the row in thought ===== -/
theorem is98 : isScene 98 := by unfold isScene; decide
theorem is137 : isScheduler 137 := by unfold isScheduler; decide
section THR
variable {g : Nat → Int}
theorem thJ_hi {b : Nat} (h : 2656 ≤ b) : ∀ i, i ≤ 80 → (∀ j, j < i → mArms g j ≤ 4) → thJ g i b = g b
  | 0, _, _ => rfl
  | i + 1, hi, h4 => by rw [thJ, thA_hi (by omega) h _ (h4 i (by omega)), jput_hi (by omega) (by omega) h, thJ_hi h i (by omega) fun j hj => h4 j (by omega)]
/-- all jobs in thought -/
def thG (g : Nat → Int) : Nat → Int := thJ g (g 1).toNat
theorem thG_lo {b : Nat} (h : b < 96) : thG g b = g b := thJ_lo h _
theorem thG_hi (hrow : rowOk g) {b : Nat} (h : 2656 ≤ b) : thG g b = g b := thJ_hi h _ (by have := hrow.2.2.1; omega) fun j hj => (jo_4 (row_j hrow hj)).2.1
theorem thG_at (hrow : rowOk g) {k w : Nat} (hw : w < 32) (hk : (g 1).toNat ≤ k ∨ (w ≠ 2 ∧ w < 24) ∨ 28 ≤ w) : mAt (thG g) k w = mAt g k w := by
  unfold thG
  rw [thJ_at hw _ fun j hj => (jo_4 (row_j hrow hj)).2.1, if_neg (by omega), if_neg]
  rintro ⟨a, b, d, -⟩
  have := (jo_4 (row_j hrow a)).2.1
  omega
theorem thG_2 (hrow : rowOk g) {k : Nat} (hk : k < (g 1).toNat) : mAt (thG g) k 2 = 100 := by
  unfold thG
  rw [thJ_at (by omega) _ fun j hj => (jo_4 (row_j hrow hj)).2.1, if_pos ⟨hk, rfl⟩]
theorem thG_e (hrow : rowOk g) {k a : Nat} (hk : k < (g 1).toNat) (ha : a < mArms g k) : mAt (thG g) k (24 + a) = if mHolds g k a = true then mAt g k 6 + mAt g k (16 + a) else mAt g k (24 + a) := by
  have h4 := (jo_4 (row_j hrow hk)).2.1
  unfold thG
  rw [thJ_at (by omega) _ fun j hj => (jo_4 (row_j hrow hj)).2.1, if_neg (by omega), show 24 + a - 24 = a by omega, show 24 + a - 8 = 16 + a by omega]
  by_cases c : mHolds g k a = true
  · rw [if_pos ⟨hk, by omega, by omega, c⟩, if_pos c]
  · rw [if_neg (fun h => c h.2.2.2), if_neg c]
theorem thG_m (hrow : rowOk g) (k : Nat) : mArms (thG g) k = mArms g k := by
  unfold mArms
  rw [thG_at hrow (by omega) (Or.inr (Or.inl ⟨by omega, by omega⟩))]
theorem thG_h (hrow : rowOk g) {k a : Nat} (hk : k < (g 1).toNat) (ha : a < mArms g k) : mHolds (thG g) k a = mHolds g k a := by
  have hao := jo_a (row_j hrow hk) ha
  have e5 : mAt (thG g) k 5 = mAt g k 5 := thG_at hrow (by omega) (Or.inr (Or.inl ⟨by omega, by omega⟩))
  have ee := thG_e hrow hk ha
  have e0 : thG g 0 = g 0 := thG_lo (by omega)
  cases c : mHolds g k a with
  | true =>
    rw [if_pos c] at ee
    have h2 := holds_1 c
    have := (hao.2.2.2.2.1 h2.1).2.2
    exact holds_2 ⟨by rw [e5]; exact h2.1, by rw [ee, e0]; omega⟩
  | false =>
    rw [if_neg (by rw [c]; decide)] at ee
    unfold mHolds at c ⊢
    rw [e5, ee, e0]
    exact c
theorem thG_ho (hrow : rowOk g) {c k a : Nat} : hoC (thG g) c k a ↔ hoC g c k a := by
  unfold hoC
  rw [thG_lo (by omega), thG_m hrow]
  constructor
  · rintro ⟨h1, h2, h3, h4⟩
    rw [thG_h hrow h1 h2] at h3
    refine ⟨h1, h2, h3, ?_⟩
    have := (jo_4 (row_j hrow h1)).2.1
    unfold mHeldBits at h4 ⊢
    rwa [thG_at hrow (by omega) (Or.inr (Or.inl ⟨by omega, by omega⟩)), thG_at hrow (by omega) (Or.inr (Or.inl ⟨by omega, by omega⟩))] at h4
  · rintro ⟨h1, h2, h3, h4⟩
    refine ⟨h1, h2, by rw [thG_h hrow h1 h2]; exact h3, ?_⟩
    have := (jo_4 (row_j hrow h1)).2.1
    unfold mHeldBits at h4 ⊢
    rwa [thG_at hrow (by omega) (Or.inr (Or.inl ⟨by omega, by omega⟩)), thG_at hrow (by omega) (Or.inr (Or.inl ⟨by omega, by omega⟩))]
theorem gRange_thG (hrow : rowOk g) : gRange (thG g) := by
  have h1 : ∀ i, i ≤ (g 1).toNat → gRange (thJ g i) := by
    intro i
    induction i with
    | zero => exact fun _ => hrow.1
    | succ i ih =>
      intro hi
      have hj : i < (g 1).toNat := by omega
      have hjo := row_j hrow hj
      have h4 := (jo_4 hjo).2.1
      rw [thJ]
      refine gRange_thA (gRange_jput (ih (by omega)) (by unfold rg; omega)) _ (fun a ha => ?_) h4
      have hao := jo_a hjo ha
      have e : ∀ w, w < 32 → w ≠ 2 → mAt (jput (thJ g i) i 2 100) i w = mAt g i w := fun w hw h2 => by
        rw [mAt_jput (by omega) hw, if_neg (by omega), thJ_at hw _ (fun j hj => (jo_4 (row_j hrow (by omega))).2.1), if_neg (by omega), if_neg (by omega)]
      rw [e 6 (by omega) (by omega), e (16 + a) (by omega) (by omega)]
      have h6 := hjo.2.2.2.2.2.2.1
      have h16 := hao.2.1
      have := hrow.2.1
      unfold rg
      omega
  exact h1 _ (Nat.le_refl _)
theorem thG_row (hI : rowI g) : rowI (thG g) := by
  obtain ⟨hrow, hcol, hdis, hrun, hsta⟩ := hI
  obtain ⟨r1, r2, r3, r4, r5, r6, r7, r8, r9, r10, r11, r12, r13, r14⟩ := id hrow
  have e : ∀ b, b < 96 → thG g b = g b := fun b hb => thG_lo hb
  have hm : ∀ k w, w ≠ 2 → w < 24 → mAt (thG g) k w = mAt g k w := fun k w h1 h2 => thG_at hrow (by omega) (Or.inr (Or.inl ⟨h1, h2⟩))
  refine ⟨⟨gRange_thG hrow, by rw [e 0 (by omega)]; exact r2, by rw [e 1 (by omega)]; exact r3, by rw [e 2 (by omega)]; exact r4, by rw [e 3 (by omega)]; exact r5, by rw [e 4 (by omega)]; exact r6, by rw [e 5 (by omega)]; exact r7, by rw [e 6 (by omega)]; exact r8, by rw [e 7 (by omega)]; exact r9, fun a ha => by rw [e _ (by omega)]; exact r10 a ha, fun a ha => by rw [e _ (by omega)]; exact r11 a ha, fun j hj => ?_, fun s hs => ?_, fun j hj h5 => ?_⟩, ?_, ?_, ?_, ?_⟩
  · rw [e 1 (by omega)] at hj
    have hjo := r12 j hj
    have h4 := jo_4 hjo
    obtain ⟨b0, b1, b2, b3, b4, b5, b6, b7, b8, b9, b10, b11, b12, b13, b14, b15⟩ := hjo
    unfold jOk
    rw [thG_m hrow, e 0 (by omega), thG_2 hrow hj, hm j 0 (by omega) (by omega), hm j 1 (by omega) (by omega), hm j 3 (by omega) (by omega), hm j 4 (by omega) (by omega), hm j 5 (by omega) (by omega), hm j 6 (by omega) (by omega), hm j 7 (by omega) (by omega), hm j 8 (by omega) (by omega), hm j 9 (by omega) (by omega), hm j 10 (by omega) (by omega), hm j 11 (by omega) (by omega)]
    refine ⟨b0, b1, by omega, b3, b4, b5, b6, b7, b8, b9, b10, b11, b12, b13, b14, fun a ha => ?_⟩
    obtain ⟨k1, k2, k3, k4, k5, k6⟩ := b15 a ha
    have ee := thG_e hrow hj ha
    unfold aOk
    rw [hm j (12 + a) (by omega) (by omega), hm j (16 + a) (by omega) (by omega), hm j (20 + a) (by omega) (by omega), hm j 5 (by omega) (by omega), hm j 6 (by omega) (by omega), hm j 9 (by omega) (by omega), thG_at hrow (k := j) (w := 28 + a) (by omega) (Or.inr (Or.inr (by omega)))]
    by_cases c : mHolds g j a = true
    · rw [if_pos c] at ee
      have h1 := holds_1 c
      have := k5 h1.1
      rw [ee]
      exact ⟨k1, k2, k3, by omega, fun _ => ⟨this.1, this.2.1, by omega⟩, k6⟩
    · rw [if_neg c] at ee
      rw [ee]
      exact ⟨k1, k2, k3, k4, k5, k6⟩
  · have h1 := r13 s hs
    have es : ∀ w, w < 6 → mSpan (thG g) s w = mSpan g s w := fun w hw => e _ (by omega)
    unfold spOk at *
    rw [es 0 (by omega), es 1 (by omega), es 2 (by omega), es 3 (by omega), es 4 (by omega), es 5 (by omega), e 0 (by omega), e 5 (by omega)]
    exact h1
  · rw [e 1 (by omega)] at hj
    rw [hm j 5 (by omega) (by omega)] at h5
    rw [e 6 (by omega)]
    exact r14 j hj h5
  · intro j a hj ha
    rw [e 1 (by omega)] at hj
    rw [thG_m hrow] at ha
    have h4 := (jo_4 (r12 j hj)).2.1
    rw [hm j (20 + a) (by omega) (by omega), hm j (12 + a) (by omega) (by omega)]
    exact hcol j a hj ha
  · intro c j a j' a' h1 h2
    exact hdis c j a j' a' ((thG_ho hrow).mp h1) ((thG_ho hrow).mp h2)
  · intro j hj h5
    rw [e 1 (by omega)] at hj
    rw [hm j 5 (by omega) (by omega)] at h5
    obtain ⟨a, q1, q2⟩ := hrun j hj h5
    have hh : mHolds g j a = true := holds_2 ⟨h5, q2⟩
    have := holds_1 ((thG_h hrow hj q1).trans hh)
    exact ⟨a, by rw [thG_m hrow]; exact q1, this.2⟩
  · rw [e 6 (by omega), e 1 (by omega), hsta]
    exact (staTo_congr fun j hj => hm j 6 (by omega) (by omega)).symm
theorem thG_rowP (hrow : rowOk g) (hP : rowP g) : rowP (thG g) := by
  obtain ⟨p2, p3, p4⟩ := hP
  have hm : ∀ k w, w ≠ 2 → w < 24 → mAt (thG g) k w = mAt g k w := fun k w h1 h2 => thG_at hrow (by omega) (Or.inr (Or.inl ⟨h1, h2⟩))
  refine ⟨fun k hk => by rw [hm k 4 (by omega) (by omega)]; exact p2 k hk, ?_, fun b hb hb2 => by rw [thG_hi hrow (by omega)]; exact p4 b hb hb2⟩
  rw [thG_lo (by omega)]
  refine Int.le_trans (sumTo_le fun x hx => ?_) p3
  (try dsimp only)
  rw [hm x 9 (by omega) (by omega)]
  exact Int.le_refl _
end THR
/-! ===== what no later tick changes ===== -/
def mayB (g : Nat → Int) : Prop := ∃ j, j < (g 1).toNat ∧ mAt g j 5 = 0 ∧ mAt g j 10 = 0
theorem may_line {g : Nat → Int} (h : ¬ mayB g) : ∀ j, j < (g 1).toNat → inLineF g j = false := fun j hj => by
  cases c : inLineF g j with
  | false => rfl
  | true =>
    unfold inLineF at c
    simp only [Bool.and_eq_true, decide_eq_true_eq] at c
    exact absurd ⟨j, hj, c.1.1, c.1.2⟩ h
theorem lineG_none {inl : Nat → Bool} {ah : Nat → Nat → Bool} : ∀ i, (∀ j, j < i → inl j = false) → (lineG inl ah i).1 = 0
  | 0, _ => rfl
  | i + 1, h => by
    rw [lineG, if_neg (by rw [h i (by omega)]; decide)]
    exact lineG_none i fun j hj => h j (by omega)
theorem pass_idle {g old : Nat → Int} {U : Nat → Nat → Int} (h : ¬ mayB g) : (passAll g U old).1 = p0G g := by
  have h2 : ¬ mayB (p0G g) := fun ⟨j, h1, h2, h3⟩ => h ⟨j, by rw [p0_lo (by omega)] at h1; exact h1, by rw [p0_at (by omega) (by omega)] at h2; exact h2, by rw [p0_at (by omega) (by omega)] at h3; exact h3⟩
  have h0 : (mLine (rowG (p0G g)) (p0U U) (g 1).toNat).1 = 0 := lineG_none _ fun j hj => may_line h2 j (by rw [p0_lo (by omega)]; exact hj)
  unfold passAll
  rw [h0]
  rfl
/-- a job that isn't in the line goes through a pass -/
theorem pass_st {g old : Nat → Int} {U : Nat → Nat → Int} {j : Nat} (hI : rowI g) (hj : j < (g 1).toNat) (h5 : mAt g j 5 ≠ 0) : mAt (passAll g U old).1 j 6 = mAt g j 6 ∧ mAt (passAll g U old).1 j 5 = mAt g j 5 := by
  have hall := pass_all (U := U) (old := old) hI
  have hl := line_ok (G := rowG (p0G g)) (U := p0U U) (g := p0G g) rfl
  rw [p0_lo (by omega)] at hl
  have hj8 := row_n hI.1 hj
  have e5 : mAt (p0G g) j 5 = mAt g j 5 := p0_at (by omega) (by omega)
  have e6 : mAt (p0G g) j 6 = mAt g j 6 := p0_at (by omega) (by omega)
  have hgo : ∀ i, i ≤ (mLine (rowG (p0G g)) (p0U U) (g 1).toNat).1 → mAt (passRun (befF g old (g 1).toNat) (mLine (rowG (p0G g)) (p0U U) (g 1).toNat).2 (p0G g, p0U U, 0, 0, -1) i).1 j 6 = mAt (p0G g) j 6 ∧ mAt (passRun (befF g old (g 1).toNat) (mLine (rowG (p0G g)) (p0U U) (g 1).toNat).2 (p0G g, p0U U, 0, 0, -1) i).1 j 5 = mAt (p0G g) j 5 := by
    intro i
    induction i with
    | zero => exact fun _ => ⟨rfl, rfl⟩
    | succ i ih =>
      intro hi
      obtain ⟨ih1, ih2⟩ := ih (by omega)
      have hk := hall i (by omega)
      have hLi := inLine_5 (hl.2.1 i (by omega))
      have hne : j ≠ (mLine (rowG (p0G g)) (p0U U) (g 1).toNat).2 i := fun e => by rw [← e, e5] at hLi; exact h5 hLi
      have hLj := hl.1.1 i (by omega)
      rw [p0_lo (by omega)] at hLj
      rw [passRun]
      split
      · exact ⟨ih1, ih2⟩
      · generalize passRun (befF g old (g 1).toNat) (mLine (rowG (p0G g)) (p0U U) (g 1).toNat).2 (p0G g, p0U U, 0, 0, -1) i = s at *
        generalize (mLine (rowG (p0G g)) (p0U U) (g 1).toNat).2 = L at *
        have hIs := hk.1
        have e1 : s.1 1 = g 1 := by rw [hk.2.1 1 (by omega) (by omega) (by omega), p0_lo (by omega)]
        have hLs : L i < (s.1 1).toNat := by rw [e1]; exact hLj
        have hL8 := row_n hIs.1 hLs
        have h4 := (jo_4 (row_j hIs.1 hLs)).2.1
        have h50 := (hk.2.2.2.2.2.1 i (Nat.le_refl _) (by omega)).1
        have h6 : 0 ≤ s.1 6 ∧ s.1 6 < 80 := ⟨hIs.1.2.2.2.2.2.2.2.1.1, row_6 hIs hLs (by have := (row_j hIs.1 hLs).2.2.2.2.2.2.2.2.2.2.2.2.1 h50; omega)⟩
        cases c : overF s.1 (L i) with
        | true => rw [ps_over c]; exact ⟨ih1, ih2⟩
        | false =>
          cases hg : gfitJ s.1 (L i) (s.1 0) with
          | some f =>
            rw [ps_star c hg]
            (try dsimp only)
            rw [star_at hL8 hj8 (by omega) h4 h6 (Or.inl hne), star_at hL8 hj8 (by omega) h4 h6 (Or.inl hne)]
            exact ⟨ih1, ih2⟩
          | none =>
            by_cases c2 : s.2.2.2.1 < s.1 2
            · cases hff : firstF (gfitJ s.1 (L i)) (s.1 0 + 1) 20000 with
              | none => rw [ps_none c hg fun _ => hff]; exact ⟨ih1, ih2⟩
              | some t =>
                obtain ⟨ht, f, hf, hf2⟩ := first_is hff
                rw [ps_prom c hg c2 hff hf]
                (try dsimp only)
                rw [prom_o hj8 (by omega) h4 (Or.inl hne), prom_o hj8 (by omega) h4 (Or.inl hne)]
                exact ⟨ih1, ih2⟩
            · rw [ps_none c hg fun h => absurd h c2]; exact ⟨ih1, ih2⟩
  have h1 := hgo _ (Nat.le_refl _)
  exact ⟨h1.1.trans e6, h1.2.trans e5⟩
theorem tail_56 {g : Nat → Int} {V : Nat → Nat → Int} {j : Nat} (hrow : rowOk g) (hj : j < (g 1).toNat) : mAt (tailG g V) j 6 = mAt g j 6 ∧ (mAt g j 5 ≠ 0 → mAt (tailG g V) j 5 ≠ 0) ∧ (mAt g j 5 = 0 → mAt (tailG g V) j 5 = 0) ∧ mAt (tailG g V) j 10 = mAt g j 10 := by
  rw [tail_is]
  have hle := Nat.le_refl (g 1).toNat
  have hj8 := row_n hrow hj
  refine ⟨mid_at hrow hle hj8 (by omega) (by omega) (by omega), fun h => ?_, fun h => ?_, mid_at hrow hle hj8 (by omega) (by omega) (by omega)⟩
  · rw [mid_57 hrow hle hj (Or.inl rfl)]
    split
    · rw [if_pos rfl]
      unfold cutK
      split <;> omega
    · exact h
  · rw [mid_57 hrow hle hj (Or.inl rfl), if_neg]
    · exact h
    · rintro ⟨-, h2⟩
      unfold goneB at h2
      simp only [Bool.and_eq_true, decide_eq_true_eq] at h2
      omega
/-- who has started stays so -/
theorem tk_start {s : oSt} {j : Nat} (h : tkI s) (hnow : s.1 0 < 110000) (hj : j < (s.1 1).toNat) (h5 : mAt s.1 j 5 ≠ 0) : mAt (tkF s).1 j 6 = mAt s.1 j 6 ∧ mAt (tkF s).1 j 5 ≠ 0 := by
  obtain ⟨i1, -, i3, -⟩ := passAll_ok (U := s.2) (old := fun _ => 0) h.1
  obtain ⟨a, b⟩ := pass_st (U := s.2) (old := fun _ => 0) h.1 hj h5
  have e1 := i3 1 (by omega) (by omega) (by omega)
  unfold tkF
  (try dsimp only)
  generalize passAll s.1 s.2 (fun _ => 0) = P at *
  obtain ⟨t1, t2, -, -⟩ := tail_56 (V := P.2.1) i1.1 (by rw [e1]; exact hj)
  exact ⟨t1.trans a, t2 (by rw [b]; exact h5)⟩
theorem tkN_start {s : oSt} {j : Nat} (h : tkI s) (hnow : s.1 0 < 109000) (hj : j < (s.1 1).toNat) {i : Nat} (h5 : mAt (tkN s i).1 j 5 ≠ 0) : ∀ k, i + k ≤ 1000 → mAt (tkN s (i + k)).1 j 6 = mAt (tkN s i).1 j 6 ∧ mAt (tkN s (i + k)).1 j 5 ≠ 0
  | 0, _ => ⟨rfl, h5⟩
  | k + 1, hk => by
    obtain ⟨a, b⟩ := tkN_start h hnow hj h5 k (by omega)
    obtain ⟨c, d, f⟩ := tkN_I h hnow (i + k) (by omega)
    obtain ⟨a', b'⟩ := tk_start (j := j) c (by omega) (by rw [f 1 (by omega) (by omega) (by omega) (by omega)]; exact hj) b
    exact ⟨a'.trans a, b'⟩
/-- none may start: none does -/
theorem tk_idle {s : oSt} (h : tkI s) (hnow : s.1 0 < 110000) (hm : ¬ mayB s.1) : (∀ j, j < (s.1 1).toNat → mAt (tkF s).1 j 6 = mAt s.1 j 6) ∧ (tkF s).1 6 = s.1 6 ∧ (∀ b, 2656 ≤ b → b < 2736 → (tkF s).1 b = s.1 b) ∧ ¬ mayB (tkF s).1 := by
  have hrow := h.1.1
  have hP : (passAll s.1 s.2 (fun _ => 0)).1 = p0G s.1 := pass_idle hm
  obtain ⟨i1, -⟩ := passAll_ok (U := s.2) (old := fun _ => 0) h.1
  have hn := hrow.2.2.1
  unfold tkF
  (try dsimp only)
  generalize passAll s.1 s.2 (fun _ => 0) = P at *
  rw [hP] at i1 ⊢
  have e1 : p0G s.1 1 = s.1 1 := p0_lo (by omega)
  have hle := Nat.le_refl (p0G s.1 1).toNat
  have ht := fun j (hj : j < (s.1 1).toNat) => tail_56 (V := P.2.1) i1.1 (j := j) (by rw [e1]; exact hj)
  have hat : ∀ j w, w < 32 → w ≠ 9 → mAt (p0G s.1) j w = mAt s.1 j w := fun j w hw h9 => p0_at hw h9
  refine ⟨fun j hj => ((ht j hj).1).trans (hat j 6 (by omega) (by omega)), ?_, fun b hb hb2 => ?_, ?_⟩
  · rw [tail_is, mid_lo i1.1 hle (by omega) (by omega) (by omega)]
    exact p0_lo (by omega)
  · rw [tail_is, mid_hi i1.1 hle (Or.inl ⟨hb, hb2⟩)]
    unfold nowG
    rw [put_o (by omega), chaG_lo (by omega)]
    exact clrP_hi (by omega) _ (by omega)
  · rintro ⟨j, h1, h2, h3⟩
    have t1 : tailG (p0G s.1) P.2.1 1 = s.1 1 := by rw [tail_is, mid_lo i1.1 hle (by omega) (by omega) (by omega), e1]
    rw [t1] at h1
    obtain ⟨a, b, c, d⟩ := ht j h1
    rw [d, hat j 10 (by omega) (by omega)] at h3
    refine hm ⟨j, h1, ?_, h3⟩
    rw [← hat j 5 (by omega) (by omega)]
    by_cases c5 : mAt (p0G s.1) j 5 = 0
    · exact c5
    · exact absurd h2 (b c5)
theorem tkN_idle {s : oSt} (h : tkI s) (hnow : s.1 0 < 109000) {i : Nat} (hm : ¬ mayB (tkN s i).1) : ∀ k, i + k ≤ 1000 → (∀ j, j < (s.1 1).toNat → mAt (tkN s (i + k)).1 j 6 = mAt (tkN s i).1 j 6) ∧ (tkN s (i + k)).1 6 = (tkN s i).1 6 ∧ (∀ b, 2656 ≤ b → b < 2736 → (tkN s (i + k)).1 b = (tkN s i).1 b) ∧ ¬ mayB (tkN s (i + k)).1
  | 0, _ => ⟨fun _ _ => rfl, rfl, fun _ _ _ => rfl, hm⟩
  | k + 1, hk => by
    obtain ⟨a, b, d, f⟩ := tkN_idle h hnow hm k (by omega)
    obtain ⟨c, e, o⟩ := tkN_I h hnow (i + k) (by omega)
    obtain ⟨a', b', d', f'⟩ := tk_idle c (by omega) f
    rw [o 1 (by omega) (by omega) (by omega) (by omega)] at a'
    exact ⟨fun j hj => (a' j hj).trans (a j hj), b'.trans b, fun x h1 h2 => (d' x h1 h2).trans (d x h1 h2), f'⟩
