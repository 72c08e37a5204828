/-! ===== a scene of the class and the reference's row ===== -/
def relB (G U : Nat → Nat → Int) (s : Nat) (g u : Nat → Int) : Prop := G s 1 = g 0 ∧ (∀ a, a < 8 → G (s + 1) a = g (8 + a)) ∧ (∀ a, a < 8 → G (s + 2) a = g (16 + a)) ∧ (∀ a, a < 8 → U (s + 3) a = u a) ∧ ∀ k, k < 3 → G (s + 4) k = g (2 + k)
def relJ (G : Nat → Nat → Int) (s : Nat) (g : Nat → Int) : Prop := G (s + 5) 0 = g 1 ∧ ∀ j : Nat, j < (g 1).toNat → G (s + 6) j = mAt g j 5 ∧ G (s + 7) j = mAt g j 0 ∧ G (s + 8) j = mAt g j 1 ∧ G (s + 9) j = mAt g j 2 ∧ G (s + 10) j = mAt g j 3 ∧ G (s + 11) j = mAt g j 4 ∧ G (s + 12) j = colsF g j ∧ G (s + 13) j = mAt g j 10 ∧ G (s + 14) j = mAt g j 11 ∧ G (s + 15) j = mAt g j 6 ∧ G (s + 16) j = mAt g j 7
def relA (G : Nat → Nat → Int) (s : Nat) (g : Nat → Int) : Prop := ∀ j a : Nat, j < (g 1).toNat → a < mArms g j → G (s + 20) (j * 4 + a) = mAt g j (12 + a) ∧ G (s + 21) (j * 4 + a) = mAt g j (16 + a) ∧ G (s + 22) (j * 4 + a) = mAt g j (20 + a) ∧ G (s + 23) (j * 4 + a) = mAt g j (24 + a)
def relQ (G : Nat → Nat → Int) (s : Nat) (g : Nat → Int) : Prop := ∀ j : Nat, j < (g 1).toNat → G (s + 18) j = mAt g j 9 ∧ (0 ≤ mAt g j 9 → ∀ a, a < mArms g j → G (s + 24) (j * 4 + a) = mAt g j (28 + a))
def relF (G : Nat → Nat → Int) (s : Nat) (g : Nat → Int) : Prop := ∀ j : Nat, j < (g 1).toNat → G (s + 17) j = mAt g j 8
def hoC (g : Nat → Int) (c j a : Nat) : Prop := j < (g 1).toNat ∧ a < mArms g j ∧ mHolds g j a = true ∧ (mHeldBits g j a).testBit c = true
def relO (G : Nat → Nat → Int) (s : Nat) (g : Nat → Int) : Prop := ∀ c, c < 16 → (∀ j a, hoC g c j a → G (s + 25) c = (j : Int) * 4 + (a : Int)) ∧ ((∀ j a, ¬ hoC g c j a) → G (s + 25) c = -1)
def relSf (G : Nat → Nat → Int) (s : Nat) (g : Nat → Int) (f : Nat → Nat) : Prop := G (s + 26) 0 = spansF g ∧ G (s + 26) 1 = g 5 ∧ (∀ i : Nat, (i : Int) < spansF g → f i < 12 ∧ 0 ≤ mSpan g (f i) 0 ∧ G (s + 27) i = mSpan g (f i) 0 ∧ G (s + 28) i = (mSpanBits g (f i) : Int) ∧ G (s + 29) i = mSpan g (f i) 3 ∧ G (s + 30) i = mSpan g (f i) 4 ∧ G (s + 31) i = mSpan g (f i) 5) ∧ (∀ k, k < 12 → 0 ≤ mSpan g k 0 → ∃ i : Nat, (i : Int) < spansF g ∧ f i = k) ∧ ∀ i k : Nat, i < k → (k : Int) < spansF g → mSpan g (f i) 0 < mSpan g (f k) 0
def relS (G : Nat → Nat → Int) (s : Nat) (g : Nat → Int) : Prop := ∃ f : Nat → Nat, relSf G s g f
def relT (G : Nat → Nat → Int) (s h : Nat) (g : Nat → Int) : Prop := (h : Int) ≤ g 6 ∧ G (s + 32) 0 = g 6 - (h : Int) ∧ ∀ i : Nat, (i : Int) < g 6 - (h : Int) → G (s + 34) i = g (2656 + (h + i))
def relL (U : Nat → Nat → Int) (s : Nat) (u : Nat → Int) : Prop := ∀ k, k < 8 → U (s + 33) k = u (8 + k)
def relE (G : Nat → Nat → Int) (s e : Nat) (g : Nat → Int) : Prop := g 7 = ((min e 60 : Nat) : Int) ∧ ∀ i : Nat, i < min e 60 → G (s + 35) ((e - min e 60 + i) % 60) = g (2736 + 3 * i) ∧ G (s + 36) ((e - min e 60 + i) % 60) = g (2736 + 3 * i + 1) ∧ G (s + 37) ((e - min e 60 + i) % 60) = g (2736 + 3 * i + 2)
def relC (G : Nat → Nat → Int) (s : Nat) (g : Nat → Int) : Prop := ∀ i, i < 1024 → G (s + 38) i = g (2916 + i)
def relK (G U : Nat → Nat → Int) (s e : Nat) (g u : Nat → Int) : Prop := relF G s g ∧ relL U s u ∧ relE G s e g ∧ relC G s g
def scFr (s : Nat) (G G' : Nat → Nat → Int) : Prop := ∀ k, s ≤ k → k < s + 39 → G' k = G k
theorem scFr_frm {s lo hi : Nat} {G G' : Nat → Nat → Int} (h : frm lo hi G G') (hd : s + 39 ≤ lo ∨ hi ≤ s) : scFr s G G' := fun k h1 h2 => h k (by omega)
theorem relB_fr {G G' U U' : Nat → Nat → Int} {s : Nat} {g u : Nat → Int} (h : relB G U s g u) (hf : scFr s G G') (hu : U' (s + 3) = U (s + 3)) : relB G' U' s g u := by
  unfold relB at *
  rw [hf s (by omega) (by omega), hf (s + 1) (by omega) (by omega), hf (s + 2) (by omega) (by omega), hf (s + 4) (by omega) (by omega), hu]
  exact h
theorem relJ_fr {G G' : Nat → Nat → Int} {s : Nat} {g : Nat → Int} (h : relJ G s g) (hf : scFr s G G') : relJ G' s g := by
  unfold relJ at *
  rw [hf (s + 5) (by omega) (by omega), hf (s + 6) (by omega) (by omega), hf (s + 7) (by omega) (by omega), hf (s + 8) (by omega) (by omega), hf (s + 9) (by omega) (by omega), hf (s + 10) (by omega) (by omega), hf (s + 11) (by omega) (by omega), hf (s + 12) (by omega) (by omega), hf (s + 13) (by omega) (by omega), hf (s + 14) (by omega) (by omega), hf (s + 15) (by omega) (by omega), hf (s + 16) (by omega) (by omega)]
  exact h
theorem relA_fr {G G' : Nat → Nat → Int} {s : Nat} {g : Nat → Int} (h : relA G s g) (hf : scFr s G G') : relA G' s g := by
  unfold relA at *
  rw [hf (s + 20) (by omega) (by omega), hf (s + 21) (by omega) (by omega), hf (s + 22) (by omega) (by omega), hf (s + 23) (by omega) (by omega)]
  exact h
theorem relQ_fr {G G' : Nat → Nat → Int} {s : Nat} {g : Nat → Int} (h : relQ G s g) (hf : scFr s G G') : relQ G' s g := by
  unfold relQ at *
  rw [hf (s + 18) (by omega) (by omega), hf (s + 24) (by omega) (by omega)]
  exact h
theorem relF_fr {G G' : Nat → Nat → Int} {s : Nat} {g : Nat → Int} (h : relF G s g) (hf : scFr s G G') : relF G' s g := by
  unfold relF at *
  rw [hf (s + 17) (by omega) (by omega)]
  exact h
theorem relO_fr {G G' : Nat → Nat → Int} {s : Nat} {g : Nat → Int} (h : relO G s g) (hf : scFr s G G') : relO G' s g := by
  unfold relO at *
  rw [hf (s + 25) (by omega) (by omega)]
  exact h
theorem relSf_fr {G G' : Nat → Nat → Int} {s : Nat} {g : Nat → Int} {f : Nat → Nat} (h : relSf G s g f) (hf : scFr s G G') : relSf G' s g f := by
  unfold relSf at *
  rw [hf (s + 26) (by omega) (by omega), hf (s + 27) (by omega) (by omega), hf (s + 28) (by omega) (by omega), hf (s + 29) (by omega) (by omega), hf (s + 30) (by omega) (by omega), hf (s + 31) (by omega) (by omega)]
  exact h
theorem relS_fr {G G' : Nat → Nat → Int} {s : Nat} {g : Nat → Int} (h : relS G s g) (hf : scFr s G G') : relS G' s g := h.elim fun f hh => ⟨f, relSf_fr hh hf⟩
theorem relT_fr {G G' : Nat → Nat → Int} {s h : Nat} {g : Nat → Int} (hh : relT G s h g) (hf : scFr s G G') : relT G' s h g := by
  unfold relT at *
  rw [hf (s + 32) (by omega) (by omega), hf (s + 34) (by omega) (by omega)]
  exact hh
theorem relE_fr {G G' : Nat → Nat → Int} {s e : Nat} {g : Nat → Int} (hh : relE G s e g) (hf : scFr s G G') : relE G' s e g := by
  unfold relE at *
  rw [hf (s + 35) (by omega) (by omega), hf (s + 36) (by omega) (by omega), hf (s + 37) (by omega) (by omega)]
  exact hh
theorem relC_fr {G G' : Nat → Nat → Int} {s : Nat} {g : Nat → Int} (hh : relC G s g) (hf : scFr s G G') : relC G' s g := by
  unfold relC at *
  rw [hf (s + 38) (by omega) (by omega)]
  exact hh
theorem relL_fr {U U' : Nat → Nat → Int} {s : Nat} {u : Nat → Int} (hh : relL U s u) (hu : U' (s + 33) = U (s + 33)) : relL U' s u := by
  unfold relL at *
  rw [hu]
  exact hh
theorem relK_fr {G G' U U' : Nat → Nat → Int} {s e : Nat} {g u : Nat → Int} (h : relK G U s e g u) (hf : scFr s G G') (hu : U' (s + 33) = U (s + 33)) : relK G' U' s e g u := ⟨relF_fr h.1 hf, relL_fr h.2.1 hu, relE_fr h.2.2.1 hf, relC_fr h.2.2.2 hf⟩
/-- where columns stand -/
def colOk (g : Nat → Int) : Prop := ∀ j a, j < (g 1).toNat → a < mArms g j → mAt g j (20 + a) + mAt g j (12 + a) ≤ 16
theorem ho_bits {g : Nat → Int} {j a c : Nat} (hrow : rowOk g) (hj : j < (g 1).toNat) (ha : a < mArms g j) (hh : mHolds g j a = true) : (mHeldBits g j a).testBit c = true ↔ mAt g j (20 + a) ≤ c ∧ (c : Int) < mAt g j (20 + a) + mAt g j (12 + a) := by
  obtain ⟨-, w2, -, -, -, -, -, -, -, -, -, w12, -, -⟩ := hrow
  have hjo := w12 j hj
  have hao := hjo.2.2.2.2.2.2.2.2.2.2.2.2.2.2.2 a ha
  have h5 : mAt g j 5 = 1 := by
    unfold mHolds at hh
    simp only [Bool.and_eq_true, decide_eq_true_eq] at hh
    exact hh.1
  have h6 := hao.2.2.2.2.1 h5
  have h7 := hao.1
  unfold mHeldBits
  rw [bitsN_test]
  simp only [Bool.and_eq_true, decide_eq_true_eq]
  omega
/-- a column has one holder -/
theorem ho_one {G : Nat → Nat → Int} {s c j a j' a' : Nat} {g : Nat → Int} (hrow : rowOk g) (hO : relO G s g) (hc : c < 16) (h : hoC g c j a) (h' : hoC g c j' a') : j' = j ∧ a' = a := by
  have e1 := (hO c hc).1 j a h
  have e2 := (hO c hc).1 j' a' h'
  obtain ⟨-, -, w3, -, -, -, -, -, -, -, -, w12, -, -⟩ := hrow
  have k1 := (w12 j h.1).2.2.2.2.1
  have k2 := (w12 j' h'.1).2.2.2.2.1
  have m1 : mArms g j = (mAt g j 4).toNat := rfl
  have m2 : mArms g j' = (mAt g j' 4).toNat := rfl
  have q1 := h.2.1
  have q2 := h'.2.1
  omega
theorem tnD4 {j a : Nat} (ha : a < 4) : (((j : Int) * 4 + (a : Int)) / 4).toNat = j := by omega
theorem tnD4' {j a : Nat} (ha : a < 4) : ((j : Int) * 4 + (a : Int)) / 4 = (j : Int) := by omega
