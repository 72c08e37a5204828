/-! ===== p42: arms of those that started, through a pass and a tick ===== -/
def armLen (g : Nat → Int) (j a : Nat) : Int := min (mAt g j (16 + a)) (lastF g j a)
def armJ (g : Nat → Int) (b : Int) (j : Nat) : Prop := 0 ≤ mAt g j 6 → mAt g j 5 ≠ 0 ∧ mAt g j 6 < b ∧ ∀ a, a < mArms g j → (0 ≤ mAt g j (20 + a) ∧ mAt g j (20 + a) + mAt g j (12 + a) ≤ 16) ∧ mAt g j 6 ≤ mAt g j (24 + a) ∧ mAt g j (24 + a) ≤ mAt g j 6 + armLen g j a ∧ (mAt g j 5 ≠ 4 → mAt g j (24 + a) = mAt g j 6 + armLen g j a) ∧ (mAt g j 5 ≠ 1 → mAt g j (24 + a) ≤ g 0)
def armI (g : Nat → Int) (b : Int) : Prop := ∀ j, j < (g 1).toNat → armJ g b j
theorem armJ_fr {g g' : Nat → Int} {b b' : Int} {j : Nat} (h : armJ g b j) (h4 : mArms g j ≤ 4) (h0 : g 0 ≤ g' 0) (hb : b ≤ b') (he : ∀ w, w = 2 ∨ (4 ≤ w ∧ w < 7) ∨ (12 ≤ w ∧ w < 28) → mAt g' j w = mAt g j w) : armJ g' b' j := by
  intro h6
  have em : mArms g' j = mArms g j := by unfold mArms; rw [he 4 (by omega)]
  rw [he 6 (by omega)] at h6
  obtain ⟨p5, p6, pa⟩ := h h6
  refine ⟨by rw [he 5 (by omega)]; exact p5, by rw [he 6 (by omega)]; omega, fun a ha => ?_⟩
  rw [em] at ha
  have el : armLen g' j a = armLen g j a := by
    unfold armLen lastF
    rw [he (16 + a) (by omega), he 2 (by omega)]
  obtain ⟨q1, q0, q2, q3, q4⟩ := pa a ha
  rw [he (20 + a) (by omega), he (12 + a) (by omega), he (24 + a) (by omega), el, he 5 (by omega), he 6 (by omega)]
  exact ⟨q1, q0, q2, q3, fun h => Int.le_trans (q4 h) h0⟩
theorem armI_star {g : Nat → Int} {j : Nat} {f : Nat × (Nat → Int)} {b : Int} (hI : rowI g) (hj : j < (g 1).toNat) (h5 : mAt g j 5 = 0) (hf : gfitJ g j (g 0) = some f) (hb : g 0 < b) (h : armI g b) : armI (starF g j (mArms g j) f.2) b := by
  have hrow := hI.1
  have hjo := row_j hrow hj
  have h4 := jo_4 hjo
  have hn := row_n hrow hj
  have h6n : mAt g j 6 = -1 := hjo.2.2.2.2.2.2.2.2.2.2.2.2.1 h5
  have q6 : 0 ≤ g 6 ∧ g 6 < 80 := ⟨hrow.2.2.2.2.2.2.2.1.1, row_6 hI hj (by omega)⟩
  have e1 : starF g j (mArms g j) f.2 1 = g 1 := starF_lo (by omega) (by omega) (by omega)
  have e0 : starF g j (mArms g j) f.2 0 = g 0 := starF_lo (by omega) (by omega) (by omega)
  intro x hx
  rw [e1] at hx
  have hx8 := row_n hrow hx
  by_cases ex : x = j
  · subst ex
    have he : ∀ w, w < 20 → w ≠ 5 → w ≠ 6 → mAt (starF g x (mArms g x) f.2) x w = mAt g x w := fun w h1 h2 h3 => star_at hn hn (by omega) h4.2.1 q6 (Or.inr ⟨h2, h3, Or.inl h1⟩)
    have em : mArms (starF g x (mArms g x) f.2) x = mArms g x := by
      show (mAt _ x 4).toNat = _
      rw [he 4 (by omega) (by omega) (by omega)]
      rfl
    intro _
    refine ⟨by rw [star_5 hn h4.2.1 q6]; omega, by rw [star_6 hn h4.2.1 q6]; exact hb, fun a ha => ?_⟩
    rw [em] at ha
    have ha4 := h4.2.1
    have hin := fit_in hrow hj hf ha
    have el : armLen (starF g x (mArms g x) f.2) x a = armLen g x a := by
      unfold armLen lastF
      rw [he (16 + a) (by omega) (by omega) (by omega), he 2 (by omega) (by omega) (by omega)]
    have hl1 : 1 ≤ armLen g x a := by
      unfold armLen
      have := lastF_1 (g := g) (j := x) (a := a)
      have := (jo_a hjo ha).2.1
      omega
    rw [star_c hn h4.2.1 q6 ha, he (12 + a) (by omega) (by omega) (by omega), star_e hn h4.2.1 q6 ha, star_6 hn h4.2.1 q6, star_5 hn h4.2.1 q6, el]
    exact ⟨hin, by unfold armLen at hl1; omega, Int.le_refl _, fun _ => rfl, fun h => absurd rfl h⟩
  · exact armJ_fr (h x hx) (jo_4 (row_j hrow hx)).2.1 (by rw [e0]; exact Int.le_refl _) (Int.le_refl _) fun w hw => star_at hn hx8 (by omega) h4.2.1 q6 (Or.inl ex)
theorem armI_prom {g : Nat → Int} {j : Nat} {t was b : Int} {F : Nat → Int} (hrow : rowOk g) (hj : j < (g 1).toNat) (h : armI g b) : armI (promF g j t (mArms g j) F was) b := by
  have h4 := (jo_4 (row_j hrow hj)).2.1
  have e1 : promF g j t (mArms g j) F was 1 = g 1 := promF_lo (by omega) (by omega)
  have e0 : promF g j t (mArms g j) F was 0 = g 0 := promF_lo (by omega) (by omega)
  intro x hx
  rw [e1] at hx
  exact armJ_fr (h x hx) (jo_4 (row_j hrow hx)).2.1 (by rw [e0]; exact Int.le_refl _) (Int.le_refl _) fun w hw => prom_o (row_n hrow hx) (by omega) h4 (Or.inr (by omega))
theorem armI_p0 {g : Nat → Int} {b : Int} (hrow : rowOk g) (h : armI g b) : armI (p0G g) b := by
  intro x hx
  rw [p0_lo (by omega)] at hx
  exact armJ_fr (h x hx) (jo_4 (row_j hrow hx)).2.1 (by rw [p0_lo (by omega)]; exact Int.le_refl _) (Int.le_refl _) fun w hw => p0_at (by omega) (by omega)
theorem armI_le {g : Nat → Int} {b b' : Int} (hrow : rowOk g) (hb : b ≤ b') (h : armI g b) : armI g b' := fun x hx => armJ_fr (h x hx) (jo_4 (row_j hrow hx)).2.1 (Int.le_refl _) hb fun _ _ => rfl
/-- a pass, turn by turn -/
theorem pass_ind {g old : Nat → Int} {U : Nat → Nat → Int} {P : (Nat → Int) → (Nat → Nat → Int) → Prop} (hI : rowI g) (h0 : P (p0G g) (p0U U))
    (hs : ∀ (s : Nat → Int) (V : Nat → Nat → Int) (j : Nat) (f : Nat × (Nat → Int)) (w z : Int), rowI s → (∀ b, b < 96 → b ≠ 6 → b ≠ 7 → s b = g b) → j < (s 1).toNat → mAt s j 5 = 0 → mAt s j 9 < 0 → overF s j = false → gfitJ s j (s 0) = some f → P s V → P (starF s j (mArms s j) f.2) (upZ (starU V w) 183 12 z))
    (hp : ∀ (s : Nat → Int) (V : Nat → Nat → Int) (j : Nat) (t was : Int) (f : Nat × (Nat → Int)), rowI s → (∀ b, b < 96 → b ≠ 6 → b ≠ 7 → s b = g b) → j < (s 1).toNat → P s V → P (promF s j t (mArms s j) f.2 was) V) : P (passAll g U old).1 (passAll g U old).2.1 := by
  have hall := pass_all (U := U) (old := old) hI
  have hl := line_ok (G := rowG (p0G g)) (U := p0U U) (g := p0G g) rfl
  rw [p0_lo (by omega)] at hl
  have hL := hl.1
  have hgo : ∀ i, i ≤ (mLine (rowG (p0G g)) (p0U U) (g 1).toNat).1 → P (passRun (befF g old (g 1).toNat) (mLine (rowG (p0G g)) (p0U U) (g 1).toNat).2 (p0G g, p0U U, 0, 0, -1) i).1 (passRun (befF g old (g 1).toNat) (mLine (rowG (p0G g)) (p0U U) (g 1).toNat).2 (p0G g, p0U U, 0, 0, -1) i).2.1 := by
    intro i
    induction i with
    | zero => exact fun _ => h0
    | succ i ih =>
      intro hi
      have ih := ih (by omega)
      have hp' := hall i (by omega)
      rw [passRun]
      split
      · exact ih
      · generalize passRun (befF g old (g 1).toNat) (mLine (rowG (p0G g)) (p0U U) (g 1).toNat).2 (p0G g, p0U U, 0, 0, -1) i = s at *
        have hI2 := hp'.1
        have eb : ∀ b, b < 96 → b ≠ 6 → b ≠ 7 → s.1 b = g b := fun b h1 h2 h3 => (hp'.2.1 b h1 h2 h3).trans (p0_lo h1)
        have hj : (mLine (rowG (p0G g)) (p0U U) (g 1).toNat).2 i < (s.1 1).toNat := by
          have q := hL.1 i (by omega)
          rw [p0_lo (by omega)] at q
          rw [eb 1 (by omega) (by omega) (by omega)]
          exact q
        have h5 := hp'.2.2.2.2.2.1 i (Nat.le_refl _) (by omega)
        generalize (mLine (rowG (p0G g)) (p0U U) (g 1).toNat).2 i = j at *
        cases c : overF s.1 j with
        | true => rw [ps_over c]; exact ih
        | false =>
          cases hg : gfitJ s.1 j (s.1 0) with
          | some f =>
            rw [ps_star c hg]
            exact hs _ _ _ _ _ _ hI2 eb hj h5.1 h5.2 c hg ih
          | none =>
            by_cases c2 : s.2.2.2.1 < s.1 2
            · cases hff : firstF (gfitJ s.1 j) (s.1 0 + 1) 20000 with
              | none => rw [ps_none c hg fun _ => hff]; exact ih
              | some t =>
                obtain ⟨ht, f, hf, hf2⟩ := first_is hff
                rw [ps_prom c hg c2 hff hf]
                exact hp _ _ _ _ _ _ hI2 eb hj ih
            · rw [ps_none c hg fun h => absurd h c2]; exact ih
  exact hgo _ (Nat.le_refl _)
/-- the tick's tail keeps it -/
theorem armI_tail {g : Nat → Int} {U : Nat → Nat → Int} (hI : rowI g) (h : armI g (g 0 + 1)) : armI (tailG g U) (tailG g U 0) := by
  rw [tail_is]
  have hrow := hI.1
  have hle := Nat.le_refl (g 1).toNat
  have e1 : midG g (useU g U 16) (g 1).toNat 1 = g 1 := mid_lo hrow hle (by omega) (by omega) (by omega)
  have e0 : midG g (useU g U 16) (g 1).toNat 0 = g 0 + 1 := mid_0 hrow hle
  rw [e0]
  intro x hx
  rw [e1] at hx
  have hx8 := row_n hrow hx
  have h4 := (jo_4 (row_j hrow hx)).2.1
  have he : ∀ w, w < 32 → w ≠ 5 → w ≠ 7 → mAt (midG g (useU g U 16) (g 1).toNat) x w = mAt g x w := fun w h1 h2 h3 => mid_at hrow hle hx8 h1 h2 h3
  have h5 := mid_57 (U := useU g U 16) hrow hle hx (w := 5) (Or.inl rfl)
  rw [if_pos rfl] at h5
  intro h6
  rw [he 6 (by omega) (by omega) (by omega)] at h6
  obtain ⟨p5, p6, pa⟩ := h x hx h6
  have em : mArms (midG g (useU g U 16) (g 1).toNat) x = mArms g x := by
    show (mAt _ x 4).toNat = _
    rw [he 4 (by omega) (by omega) (by omega)]
    rfl
  have hcut : cutK g x = 2 ∨ cutK g x = 3 := by unfold cutK; split <;> simp
  refine ⟨?_, by rw [he 6 (by omega) (by omega) (by omega)]; exact p6, fun a ha => ?_⟩
  · rw [h5]
    split <;> omega
  · rw [em] at ha
    have el : armLen (midG g (useU g U 16) (g 1).toNat) x a = armLen g x a := by
      unfold armLen lastF
      rw [he (16 + a) (by omega) (by omega) (by omega), he 2 (by omega) (by omega) (by omega)]
    obtain ⟨q1, q0, q2, q3, q4⟩ := pa a ha
    rw [he (20 + a) (by omega) (by omega) (by omega), he (12 + a) (by omega) (by omega) (by omega), he (24 + a) (by omega) (by omega) (by omega), el, he 6 (by omega) (by omega) (by omega), h5, e0]
    by_cases c : x < (g 1).toNat ∧ goneB g x = true
    · rw [if_pos c]
      have hg1 : mAt g x 5 = 1 := by
        have := c.2
        unfold goneB at this
        rw [Bool.and_eq_true] at this
        exact of_decide_eq_true this.1
      exact ⟨q1, q0, q2, fun _ => q3 (by omega), fun _ => gone_none hrow.2.1.1 c.2 ha⟩
    · rw [if_neg c]
      exact ⟨q1, q0, q2, q3, fun h => Int.le_trans (q4 h) (by omega)⟩
theorem armI_of1 {g : Nat → Int} {j : Nat} {b : Int} (hI : rowI g) (hj : j < (g 1).toNat) (hb : b ≤ g 0) (h : armI g b) : armI (of1 g j) b := by
  have hrow := hI.1
  have h4 := (jo_4 (row_j hrow hj)).2.1
  have e1 : of1 g j 1 = g 1 := of1_lo (by omega) (by omega)
  have e0 : of1 g j 0 = g 0 := of1_lo (by omega) (by omega)
  intro x hx
  rw [e1] at hx
  have hx8 := row_n hrow hx
  by_cases ex : x = j
  · subst ex
    have he : ∀ w, w < 24 → w ≠ 5 → w ≠ 7 → w ≠ 9 → mAt (of1 g x) x w = mAt g x w := fun w h1 h2 h3 h4 => of1_o hrow hj hx8 (by omega) (Or.inr ⟨h2, h3, h4, Or.inl h1⟩)
    have e5 : mAt (of1 g x) x 5 = 4 := by rw [of1_cell hrow hj hx8 (by omega), if_neg (by omega), if_neg (by omega), if_pos ⟨rfl, rfl⟩]
    intro h6
    rw [he 6 (by omega) (by omega) (by omega) (by omega)] at h6
    obtain ⟨p5, p6, pa⟩ := h x hx h6
    have em : mArms (of1 g x) x = mArms g x := by
      show (mAt _ x 4).toNat = _
      rw [he 4 (by omega) (by omega) (by omega) (by omega)]
      rfl
    refine ⟨by rw [e5]; omega, by rw [he 6 (by omega) (by omega) (by omega) (by omega)]; exact p6, fun a ha => ?_⟩
    rw [em] at ha
    have el : armLen (of1 g x) x a = armLen g x a := by
      unfold armLen lastF
      rw [he (16 + a) (by omega) (by omega) (by omega) (by omega), he 2 (by omega) (by omega) (by omega) (by omega)]
    obtain ⟨q1, q0, q2, q3, q4⟩ := pa a ha
    have e24 : mAt (of1 g x) x (24 + a) = if mHolds g x a = true then g 0 else mAt g x (24 + a) := by
      rw [of1_cell hrow hj hx8 (by omega), if_neg (by omega), if_neg (by omega), if_neg (by omega), ofA_c hj hrow (Nat.le_refl _) (by omega), show 24 + a - 24 = a by omega]
      by_cases c : mHolds g x a = true
      · rw [if_pos ⟨rfl, by omega, by omega, c⟩, if_pos c]
      · rw [if_neg fun h => c h.2.2.2, if_neg c]
    rw [he (20 + a) (by omega) (by omega) (by omega) (by omega), he (12 + a) (by omega) (by omega) (by omega) (by omega), e24, el, he 6 (by omega) (by omega) (by omega) (by omega), e5, e0]
    by_cases c : mHolds g x a = true
    · rw [if_pos c]
      have := holds_1 c
      exact ⟨q1, by omega, by omega, fun h => absurd rfl h, fun _ => Int.le_refl _⟩
    · rw [if_neg c]
      refine ⟨q1, q0, q2, fun h => absurd rfl h, fun _ => ?_⟩
      by_cases c5 : mAt g x 5 = 1
      · exact Int.not_lt.mp fun hlt => c (holds_2 ⟨c5, hlt⟩)
      · exact q4 c5
  · exact armJ_fr (h x hx) (jo_4 (row_j hrow hx)).2.1 (by rw [e0]; exact Int.le_refl _) (Int.le_refl _) fun w hw => of1_o hrow hj hx8 (by omega) (Or.inl ex)
theorem armI_com {g : Nat → Int} {acc rank part aft b : Int} {n : Nat} {w k : Nat → Int} (hrow : rowOk g) (h1 : g 1 < 80) (h4 : n ≤ 4) (h : armI g b) : armI (comF g acc rank part aft n w k) b := by
  have r1 := hrow.2.2.1
  have e0 : comF g acc rank part aft n w k 0 = g 0 := com_lo (by omega) (by omega) (by omega)
  intro x hx
  rw [com_1] at hx
  by_cases ex : x = (g 1).toNat
  · subst ex
    intro h6
    rw [com_v (by omega) (by omega) h4, newJ_v.2.2.2.2.2.2.1] at h6
    exact absurd h6 (by decide)
  · have hx2 : x < (g 1).toNat := by omega
    exact armJ_fr (h x hx2) (jo_4 (row_j hrow hx2)).2.1 (by rw [e0]; exact Int.le_refl _) (Int.le_refl _) fun v hv => com_o (row_n hrow hx2) (by omega) h4 ex
/-! limits: an account holds no more than it may -/
def limI (g : Nat → Int) (a : Nat) : Prop := heldF g (a : Int) ≤ g (16 + a)
theorem limI_star {g : Nat → Int} {j a : Nat} {f : Nat × (Nat → Int)} (ha : a < 8) (hI : rowI g) (hj : j < (g 1).toNat) (h5 : mAt g j 5 = 0) (h9 : mAt g j 9 < 0) (ho : overF g j = false) (hf : gfitJ g j (g 0) = some f) (h : limI g a) : limI (starF g j (mArms g j) f.2) a := by
  unfold limI at *
  rw [star_held hI hj h5 h9 hf, starF_lo (by omega) (by omega) (by omega)]
  have h0 := (row_j hI.1 hj).1
  by_cases c : (a : Int) = mAt g j 0
  · rw [if_pos c]
    unfold overF at ho
    have h1 := of_decide_eq_false ho
    rw [← c, Int.toNat_natCast] at h1
    omega
  · rw [if_neg c]
    exact h
/-- who holds less, is within the same limit -/
theorem held_le {g g' : Nat → Int} {acc : Int} (hI : rowI g) (hI' : rowI g') (h0 : ∀ j, j < (g' 1).toNat → (g' 1).toNat ≤ (g 1).toNat → mAt g' j 0 = mAt g j 0) (h1 : (g' 1).toNat ≤ (g 1).toNat) (h : ∀ c j a, hoC g' c j a → hoC g c j a) : heldF g' acc ≤ heldF g acc := by
  rw [heldF_is hI'.1 hI'.2.2.1, heldF_is hI.1 hI.2.2.1]
  unfold heldTo
  refine sumTo_le fun c hc => ?_
  (try dsimp only)
  rcases hold_cases (g := g') (c := c) hI'.2.2.1 with ⟨j, a, q1, q2⟩ | ⟨-, q2⟩
  · have q3 := hold_eq hI.2.2.1 (h c j a q1)
    unfold hoAcc
    rw [q2, q3, Int.toNat_natCast, h0 j q1.1 h1]
    exact Int.le_refl _
  · unfold hoAcc
    rw [q2]
    rw [if_neg (by simp)]
    split <;> omega
theorem limI_less {g g' : Nat → Int} {a : Nat} (hI : rowI g) (hI' : rowI g') (h0 : ∀ j, j < (g' 1).toNat → (g' 1).toNat ≤ (g 1).toNat → mAt g' j 0 = mAt g j 0) (h1 : (g' 1).toNat ≤ (g 1).toNat) (h : ∀ c j a, hoC g' c j a → hoC g c j a) (hl : g' (16 + a) = g (16 + a)) (hg : limI g a) : limI g' a := by
  unfold limI at *
  rw [hl]
  exact Int.le_trans (held_le hI hI' h0 h1 h) hg
/-! spans that were told: those that are not over stand; who started behind the telling stays out of them -/
def spJ (g : Nat → Int) (sp : Nat → Int) (j : Nat) : Prop := 0 ≤ mAt g j 6 → sp 5 ≤ mAt g j 6 → ∀ (k : Nat) (c t : Int), k < mArms g j → mAt g j (20 + k) ≤ c → c < mAt g j (20 + k) + mAt g j (12 + k) → sp 0 ≤ c → c ≤ sp 1 → mAt g j 6 ≤ t → t < mAt g j (24 + k) → sp 2 ≤ t → t < sp 3 → mAt g j 0 = sp 4
def spZ (g : Nat → Int) (sp : Nat → Int) : Prop := g 0 < sp 3 → ∃ z, z < 12 ∧ 0 ≤ mSpan g z 0 ∧ mSpan g z 1 = sp 0 ∧ mSpan g z 2 = sp 1 ∧ mSpan g z 3 = sp 2 ∧ mSpan g z 4 = sp 3 ∧ mSpan g z 5 = sp 4
def spI1 (g : Nat → Int) (sp : Nat → Int) : Prop := (0 ≤ sp 0 ∧ sp 0 ≤ sp 1 ∧ sp 1 ≤ 15) ∧ spZ g sp ∧ ∀ j, j < (g 1).toNat → spJ g sp j
theorem spJ_fr {g g' sp : Nat → Int} {j : Nat} (h : spJ g sp j) (h4 : mArms g j ≤ 4) (he : ∀ w, w = 0 ∨ w = 4 ∨ w = 6 ∨ (12 ≤ w ∧ w < 16) ∨ (20 ≤ w ∧ w < 24) → mAt g' j w = mAt g j w) (h24 : ∀ a, a < mArms g j → mAt g' j (24 + a) ≤ mAt g j (24 + a)) : spJ g' sp j := by
  have em : mArms g' j = mArms g j := by unfold mArms; rw [he 4 (by omega)]
  intro h6 h5 k c t hk b1 b2 b3 b4 b5 b6 b7 b8
  rw [em] at hk
  have hk4 : k < 4 := by omega
  have := h24 k hk
  rw [he 6 (by omega)] at h6 h5 b5
  rw [he (20 + k) (by omega)] at b1 b2
  rw [he (12 + k) (by omega)] at b2
  rw [he 0 (by omega)]
  exact h h6 h5 k c t hk b1 b2 b3 b4 b5 (by omega) b7 b8
theorem spZ_fr {g g' sp : Nat → Int} (h : spZ g sp) (h0 : g 0 ≤ g' 0) (he : ∀ b, 24 ≤ b → b < 96 → g' b = g b) : spZ g' sp := by
  intro h3
  obtain ⟨z, z1, z2, z3, z4, z5, z6, z7⟩ := h (by omega)
  have e : ∀ w, w < 6 → mSpan g' z w = mSpan g z w := fun w hw => he _ (by omega) (by omega)
  exact ⟨z, z1, by rw [e 0 (by omega)]; exact z2, by rw [e 1 (by omega)]; exact z3, by rw [e 2 (by omega)]; exact z4, by rw [e 3 (by omega)]; exact z5, by rw [e 4 (by omega)]; exact z6, by rw [e 5 (by omega)]; exact z7⟩
theorem fit_bz {g : Nat → Int} {j a c : Nat} {x : Int} {f : Nat × (Nat → Int)} (hrow : rowOk g) (hj : j < (g 1).toNat) (hf : gfitJ g j x = some f) (ha : a < mArms g j) (hb : (bitsN (f.2 a).toNat (mAt g j (12 + a)).toNat).testBit c = true) : (bzG g x (x + mAt g j (16 + a)) (mAt g j 0)).testBit c = false := by
  have hjo := row_j hrow hj
  have hw : ∀ a, a < mArms g j → 0 ≤ (cut 0 (mArms g j) fun a => mAt g j (12 + a)) a := fun a ha => by
    rw [cut_at ha]
    have := (jo_a hjo ha).1
    omega
  unfold gfitJ at hf
  have := (gfit_free hw (c := c) _ (Nat.le_refl _) f hf a (plW_all ha) (by rw [cut_at ha]; exact hb)).1
  rw [cut_at ha] at this
  exact this
theorem spI_star {g sp : Nat → Int} {j : Nat} {f : Nat × (Nat → Int)} (hI : rowI g) (hj : j < (g 1).toNat) (h5 : mAt g j 5 = 0) (hf : gfitJ g j (g 0) = some f) (h : spI1 g sp) : spI1 (starF g j (mArms g j) f.2) sp := by
  obtain ⟨h0, hz, hjs⟩ := h
  have hrow := hI.1
  have hjo := row_j hrow hj
  have h4 := jo_4 hjo
  have hn := row_n hrow hj
  have h6n : mAt g j 6 = -1 := hjo.2.2.2.2.2.2.2.2.2.2.2.2.1 h5
  have q6 : 0 ≤ g 6 ∧ g 6 < 80 := ⟨hrow.2.2.2.2.2.2.2.1.1, row_6 hI hj (by omega)⟩
  have e1 : starF g j (mArms g j) f.2 1 = g 1 := starF_lo (by omega) (by omega) (by omega)
  refine ⟨h0, spZ_fr hz (by rw [starF_lo (by omega) (by omega) (by omega)]; exact Int.le_refl _) fun b h1 h2 => starF_lo h2 (by omega) (by omega), fun x hx => ?_⟩
  rw [e1] at hx
  have hx8 := row_n hrow hx
  by_cases ex : x = j
  · subst ex
    have he : ∀ w, w < 20 → w ≠ 5 → w ≠ 6 → mAt (starF g x (mArms g x) f.2) x w = mAt g x w := fun w h1 h2 h3 => star_at hn hn (by omega) h4.2.1 q6 (Or.inr ⟨h2, h3, Or.inl h1⟩)
    have em : mArms (starF g x (mArms g x) f.2) x = mArms g x := by
      show (mAt _ x 4).toNat = _
      rw [he 4 (by omega) (by omega) (by omega)]
      rfl
    intro _ _ k c t hk b1 b2 b3 b4 b5 b6 b7 b8
    rw [em] at hk
    have hk4 : k < 4 := by have := h4.2.1; omega
    have hin := fit_in hrow hj hf hk
    rw [star_c hn h4.2.1 q6 hk] at b1 b2
    rw [he (12 + k) (by omega) (by omega) (by omega)] at b2
    rw [star_6 hn h4.2.1 q6] at b5
    rw [star_e hn h4.2.1 q6 hk] at b6
    rw [he 0 (by omega) (by omega) (by omega)]
    have hb : (bitsN (f.2 k).toNat (mAt g x (12 + k)).toNat).testBit c.toNat = true := by
      rw [bitsN_test, Bool.and_eq_true, decide_eq_true_eq, decide_eq_true_eq]
      omega
    have hz2 := fit_bz hrow hj hf hk hb
    unfold bzG at hz2
    rw [Nat.testBit_or, Bool.or_eq_false_iff] at hz2
    obtain ⟨z, z1, z2, z3, z4, z5, z6, z7⟩ := hz (by omega)
    have hs : (bySpan g (g 0) (g 0 + mAt g x (16 + k)) (mAt g x 0) z).testBit c.toNat = false := by
      cases hh : (bySpan g (g 0) (g 0 + mAt g x (16 + k)) (mAt g x 0) z).testBit c.toNat with
      | false => rfl
      | true =>
        have := orTo_test.mpr ⟨z, z1, hh⟩
        rw [hz2.2] at this
        cases this
    by_cases ca : mSpan g z 5 = mAt g x 0
    · rw [← ca, z7]
    · exfalso
      unfold bySpan at hs
      rw [if_pos (by simp only [Bool.and_eq_true, decide_eq_true_eq, Bool.not_eq_true', decide_eq_false_iff_not]; exact ⟨⟨⟨z2, ca⟩, by rw [z6]; omega⟩, by rw [z5]; omega⟩)] at hs
      unfold mSpanBits at hs
      rw [bitsN_test, Bool.and_eq_false_iff, decide_eq_false_iff_not, decide_eq_false_iff_not, z3, z4] at hs
      omega
  · exact spJ_fr (hjs x hx) (jo_4 (row_j hrow hx)).2.1 (fun w hw => star_at hn hx8 (by omega) h4.2.1 q6 (Or.inl ex)) (fun a ha => by have := (jo_4 (row_j hrow hx)).2.1; rw [star_at hn hx8 (by omega) h4.2.1 q6 (Or.inl ex)]; exact Int.le_refl _)
theorem spI_prom {g sp : Nat → Int} {j : Nat} {t was : Int} {F : Nat → Int} (hrow : rowOk g) (hj : j < (g 1).toNat) (h : spI1 g sp) : spI1 (promF g j t (mArms g j) F was) sp := by
  obtain ⟨h0, hz, hjs⟩ := h
  have h4 := (jo_4 (row_j hrow hj)).2.1
  have e1 : promF g j t (mArms g j) F was 1 = g 1 := promF_lo (by omega) (by omega)
  refine ⟨h0, spZ_fr hz (by rw [promF_lo (by omega) (by omega)]; exact Int.le_refl _) fun b h1 h2 => promF_lo h2 (by omega), fun x hx => ?_⟩
  rw [e1] at hx
  have hx4 := (jo_4 (row_j hrow hx)).2.1
  exact spJ_fr (hjs x hx) hx4 (fun w hw => prom_o (row_n hrow hx) (by omega) h4 (Or.inr (by omega))) (fun a ha => by rw [prom_o (row_n hrow hx) (by omega) h4 (Or.inr (by omega))]; exact Int.le_refl _)
theorem spI_p0 {g sp : Nat → Int} (hrow : rowOk g) (h : spI1 g sp) : spI1 (p0G g) sp := by
  obtain ⟨h0, hz, hjs⟩ := h
  refine ⟨h0, spZ_fr hz (by rw [p0_lo (by omega)]; exact Int.le_refl _) fun b h1 h2 => p0_lo h2, fun x hx => ?_⟩
  rw [p0_lo (by omega)] at hx
  have hx4 := (jo_4 (row_j hrow hx)).2.1
  exact spJ_fr (hjs x hx) hx4 (fun w hw => p0_at (by omega) (by omega)) (fun a ha => by rw [p0_at (by omega) (by omega)]; exact Int.le_refl _)
theorem spI_tail {g sp : Nat → Int} {U : Nat → Nat → Int} (hI : rowI g) (h : spI1 g sp) : spI1 (tailG g U) sp := by
  obtain ⟨h0, hz, hjs⟩ := h
  rw [tail_is]
  have hrow := hI.1
  have hle := Nat.le_refl (g 1).toNat
  have e1 : midG g (useU g U 16) (g 1).toNat 1 = g 1 := mid_lo hrow hle (by omega) (by omega) (by omega)
  have e0 : midG g (useU g U 16) (g 1).toNat 0 = g 0 + 1 := mid_0 hrow hle
  refine ⟨h0, fun h3 => ?_, fun x hx => ?_⟩
  · rw [e0] at h3
    obtain ⟨z, z1, z2, z3, z4, z5, z6, z7⟩ := hz (by omega)
    have e : ∀ w, w < 6 → mSpan (midG g (useU g U 16) (g 1).toNat) z w = mSpan g z w := fun w hw => by rw [mid_span hrow hle z1 hw, if_neg (by omega)]
    exact ⟨z, z1, by rw [e 0 (by omega)]; exact z2, by rw [e 1 (by omega)]; exact z3, by rw [e 2 (by omega)]; exact z4, by rw [e 3 (by omega)]; exact z5, by rw [e 4 (by omega)]; exact z6, by rw [e 5 (by omega)]; exact z7⟩
  · rw [e1] at hx
    have hx4 := (jo_4 (row_j hrow hx)).2.1
    exact spJ_fr (hjs x hx) hx4 (fun w hw => mid_at hrow hle (row_n hrow hx) (by omega) (by omega) (by omega)) (fun a ha => by rw [mid_at hrow hle (row_n hrow hx) (by omega) (by omega) (by omega)]; exact Int.le_refl _)
theorem spI_of1 {g sp : Nat → Int} {j : Nat} (hI : rowI g) (hj : j < (g 1).toNat) (h : spI1 g sp) : spI1 (of1 g j) sp := by
  obtain ⟨h0, hz, hjs⟩ := h
  have hrow := hI.1
  have e1 : of1 g j 1 = g 1 := of1_lo (by omega) (by omega)
  refine ⟨h0, spZ_fr hz (by rw [of1_lo (by omega) (by omega)]; exact Int.le_refl _) fun b h1 h2 => of1_lo h2 (by omega), fun x hx => ?_⟩
  rw [e1] at hx
  have hx8 := row_n hrow hx
  have hx4 := (jo_4 (row_j hrow hx)).2.1
  refine spJ_fr (hjs x hx) hx4 (fun w hw => of1_o hrow hj hx8 (by omega) (Or.inr (by omega))) (fun a ha => ?_)
  by_cases ex : x = j
  · subst ex
    rw [of1_cell hrow hj hx8 (by omega), if_neg (by omega), if_neg (by omega), if_neg (by omega), ofA_c hj hrow (Nat.le_refl _) (by omega), show 24 + a - 24 = a by omega]
    split
    · rename_i c
      have := (holds_1 c.2.2.2).2
      omega
    · exact Int.le_refl _
  · rw [of1_o hrow hj hx8 (by omega) (Or.inl ex)]
    exact Int.le_refl _
theorem spI_com {g sp : Nat → Int} {acc rank part aft : Int} {n : Nat} {w k : Nat → Int} (hrow : rowOk g) (h1 : g 1 < 80) (h4 : n ≤ 4) (h : spI1 g sp) : spI1 (comF g acc rank part aft n w k) sp := by
  obtain ⟨h0, hz, hjs⟩ := h
  have r1 := hrow.2.2.1
  refine ⟨h0, spZ_fr hz (by rw [com_lo (by omega) (by omega) (by omega)]; exact Int.le_refl _) fun b h1 h2 => com_lo h2 (by omega) (by omega), fun x hx => ?_⟩
  rw [com_1] at hx
  by_cases ex : x = (g 1).toNat
  · subst ex
    intro h6
    rw [com_v (by omega) (by omega) h4, newJ_v.2.2.2.2.2.2.1] at h6
    exact absurd h6 (by decide)
  · have hx2 : x < (g 1).toNat := by omega
    have hx4 := (jo_4 (row_j hrow hx2)).2.1
    exact spJ_fr (hjs x hx2) hx4 (fun v hv => com_o (row_n hrow hx2) (by omega) h4 ex) (fun a ha => by rw [com_o (row_n hrow hx2) (by omega) h4 ex]; exact Int.le_refl _)
theorem spI_keep {g sp : Nat → Int} {ab fr to acc : Int} (hsl : slotF g < 12) (hs0 : mSpan g (slotF g) 0 < 0) (h : spI1 g sp) : spI1 (keepF g ab fr to acc) sp := by
  obtain ⟨h0, hz, hjs⟩ := h
  have e : ∀ b, 96 ≤ b → keepF g ab fr to acc b = g b := fun b hb => keep_o hsl (Or.inr hb) (by omega)
  have em : ∀ x w, mAt (keepF g ab fr to acc) x w = mAt g x w := fun x w => e _ (by omega)
  refine ⟨h0, fun h3 => ?_, fun x hx => ?_⟩
  · rw [keep_o hsl (by omega) (by omega)] at h3
    obtain ⟨z, z1, z2, z3, z4, z5, z6, z7⟩ := hz h3
    have hne : z ≠ slotF g := fun q => by rw [q] at z2; omega
    have e : ∀ w, w < 6 → mSpan (keepF g ab fr to acc) z w = mSpan g z w := fun w hw => keep_ne z1 hw hsl hne
    exact ⟨z, z1, by rw [e 0 (by omega)]; exact z2, by rw [e 1 (by omega)]; exact z3, by rw [e 2 (by omega)]; exact z4, by rw [e 3 (by omega)]; exact z5, by rw [e 4 (by omega)]; exact z6, by rw [e 5 (by omega)]; exact z7⟩
  · rw [keep_o hsl (by omega) (by omega)] at hx
    have := hjs x hx
    unfold spJ mArms at *
    simp only [em]
    exact this
/-- the span that is told now -/
theorem spI_new {g sp : Nat → Int} {ab fr to acc : Int} (hsl : slotF g < 12) (h5 : 0 ≤ g 5) (hA : armI g (g 0)) (hs : sp 0 = ab / 100 ∧ sp 1 = ab % 100 ∧ sp 2 = fr ∧ sp 3 = to ∧ sp 4 = acc ∧ sp 5 = g 0) (hab : 0 ≤ ab / 100 ∧ ab / 100 ≤ ab % 100 ∧ ab % 100 ≤ 15) : spI1 (keepF g ab fr to acc) sp := by
  obtain ⟨s0, s1, s2, s3, s4, s5⟩ := hs
  have e : ∀ b, 96 ≤ b → keepF g ab fr to acc b = g b := fun b hb => keep_o hsl (Or.inr hb) (by omega)
  have em : ∀ x w, mAt (keepF g ab fr to acc) x w = mAt g x w := fun x w => e _ (by omega)
  obtain ⟨k0, k1, k2, k3, k4, k5⟩ := keep_at (ab := ab) (fr := fr) (to := to) (acc := acc) hsl
  refine ⟨by rw [s0, s1]; exact ⟨hab.1, hab.2.1, hab.2.2⟩, fun _ => ⟨slotF g, hsl, by rw [k0]; exact h5, by rw [k1, s0], by rw [k2, s1], by rw [k3, s2], by rw [k4, s3], by rw [k5, s4]⟩, fun x hx h6 h7 => ?_⟩
  rw [keep_o hsl (by omega) (by omega)] at hx
  rw [em] at h6 h7
  have := (hA x hx h6).2.1
  omega
