/-! ===== calls of both: gaps, the reference's side ===== -/
/-- the greatest of some numbers, or one -/
def tkP (S : Int → Prop) (t x : Int) : Prop := t ≤ x ∧ (x = t ∨ S x) ∧ ∀ v, S v → v ≤ x
theorem tkP_add {S : Int → Prop} {t x : Int} (v : Int) (h : tkP S t x) : tkP (fun y => S y ∨ y = v) t (max x v) := by
  obtain ⟨a1, a2, a3⟩ := h
  refine ⟨by omega, ?_, fun y hy => ?_⟩
  · by_cases c : v ≤ x
    · rw [Int.max_eq_left c]
      exact a2.imp id Or.inl
    · rw [Int.max_eq_right (by omega)]
      exact Or.inr (Or.inr rfl)
  · rcases hy with hy | rfl
    · have := a3 y hy; omega
    · omega
theorem tkP_eqv {S S' : Int → Prop} {t x : Int} (h : ∀ v, S v ↔ S' v) (h1 : tkP S t x) : tkP S' t x := ⟨h1.1, h1.2.1.imp id (h x).mp, fun v hv => h1.2.2 v ((h v).mpr hv)⟩
def taS (g : Nat → Int) (c : Nat) (t : Int) (j n : Nat) (v : Int) : Prop := ∃ a, a < n ∧ ((((0 ≤ mAt g j 9 ∧ mAt g j 9 ≤ t) ∧ (mPromBits g j a).testBit c = true) ∧ v = mAt g j 9 + mAt g j (16 + a)) ∨ ((mHolds g j a = true ∧ (mHeldBits g j a).testBit c = true) ∧ v = mAt g j 6 + mAt g j (16 + a)))
theorem tkA_P {g : Nat → Int} {c j : Nat} {t t0 x : Int} {S : Int → Prop} (h : tkP S t0 x) : ∀ n, tkP (fun v => S v ∨ taS g c t j n v) t0 (tkA g c t j x n)
  | 0 => tkP_eqv (fun v => ⟨Or.inl, fun h => h.elim id fun ⟨a, ha, _⟩ => absurd ha (Nat.not_lt_zero a)⟩) h
  | n + 1 => by
    have ih := tkA_P (g := g) (c := c) (j := j) (t := t) h n
    rw [tkA]
    have hmid : tkP (fun v => (S v ∨ taS g c t j n v) ∨ ((mHolds g j n = true ∧ (mHeldBits g j n).testBit c = true) ∧ v = mAt g j 6 + mAt g j (16 + n))) t0 (if (mHolds g j n && (mHeldBits g j n).testBit c) = true then max (tkA g c t j x n) (mAt g j 6 + mAt g j (16 + n)) else tkA g c t j x n) := by
      by_cases c1 : (mHolds g j n && (mHeldBits g j n).testBit c) = true
      · rw [if_pos c1]
        rw [Bool.and_eq_true] at c1
        exact tkP_eqv (fun v => ⟨fun h => h.imp id fun h => ⟨c1, h⟩, fun h => h.imp id fun h => h.2⟩) (tkP_add _ ih)
      · rw [if_neg c1]
        rw [Bool.and_eq_true] at c1
        exact tkP_eqv (fun v => ⟨Or.inl, fun h => h.elim id fun h => absurd h.1 c1⟩) ih
    have hst : ∀ v, ((S v ∨ taS g c t j n v) ∨ ((mHolds g j n = true ∧ (mHeldBits g j n).testBit c = true) ∧ v = mAt g j 6 + mAt g j (16 + n))) ∨ (((0 ≤ mAt g j 9 ∧ mAt g j 9 ≤ t) ∧ (mPromBits g j n).testBit c = true) ∧ v = mAt g j 9 + mAt g j (16 + n)) ↔ S v ∨ taS g c t j (n + 1) v := fun v => by
      constructor
      · rintro (((h1 | ⟨a, h1, h2⟩) | h1) | h1)
        · exact Or.inl h1
        · exact Or.inr ⟨a, by omega, h2⟩
        · exact Or.inr ⟨n, by omega, Or.inr h1⟩
        · exact Or.inr ⟨n, by omega, Or.inl h1⟩
      · rintro (h1 | ⟨a, h1, h2⟩)
        · exact Or.inl (Or.inl (Or.inl h1))
        · by_cases ca : a = n
          · subst ca
            rcases h2 with h2 | h2
            · exact Or.inr h2
            · exact Or.inl (Or.inr h2)
          · exact Or.inl (Or.inl (Or.inr ⟨a, by omega, h2⟩))
    generalize (if (mHolds g j n && (mHeldBits g j n).testBit c) = true then max (tkA g c t j x n) (mAt g j 6 + mAt g j (16 + n)) else tkA g c t j x n) = y at *
    by_cases c2 : ((decide (0 ≤ mAt g j 9) && decide (mAt g j 9 ≤ t)) && (mPromBits g j n).testBit c) = true
    · rw [if_pos c2]
      rw [Bool.and_eq_true, Bool.and_eq_true, decide_eq_true_eq, decide_eq_true_eq] at c2
      refine tkP_eqv (fun v => Iff.trans ?_ (hst v)) (tkP_add _ hmid)
      exact ⟨fun h => h.imp id fun h => ⟨c2, h⟩, fun h => h.imp id fun h => h.2⟩
    · rw [if_neg c2]
      rw [Bool.and_eq_true, Bool.and_eq_true, decide_eq_true_eq, decide_eq_true_eq] at c2
      refine tkP_eqv (fun v => Iff.trans ?_ (hst v)) hmid
      exact ⟨Or.inl, fun h => h.elim id fun h => absurd h.1 c2⟩
theorem tkJ_P {g : Nat → Int} {c : Nat} {t : Int} : ∀ n, tkP (fun v => ∃ j, j < n ∧ taS g c t j (mArms g j) v) t (tkJ g c t n)
  | 0 => ⟨Int.le_refl _, Or.inl rfl, fun v ⟨j, hj, _⟩ => absurd hj (Nat.not_lt_zero j)⟩
  | n + 1 => by
    rw [tkJ]
    refine tkP_eqv (fun v => ?_) (tkA_P (tkJ_P n) _)
    constructor
    · rintro (⟨j, h1, h2⟩ | h)
      · exact ⟨j, by omega, h2⟩
      · exact ⟨n, by omega, h⟩
    · rintro ⟨j, h1, h2⟩
      by_cases cj : j = n
      · subst cj; exact Or.inr h2
      · exact Or.inl ⟨j, by omega, h2⟩
def tsS (g : Nat → Int) (c : Nat) (t : Int) (n : Nat) (v : Int) : Prop := ∃ s, s < n ∧ ((0 ≤ mSpan g s 0 ∧ mSpan g s 3 ≤ t) ∧ (mSpanBits g s).testBit c = true) ∧ v = mSpan g s 4
theorem tkS_P {g : Nat → Int} {c : Nat} {t t0 x : Int} {S : Int → Prop} (h : tkP S t0 x) : ∀ n, tkP (fun v => S v ∨ tsS g c t n v) t0 (tkS g c t x n)
  | 0 => tkP_eqv (fun v => ⟨Or.inl, fun h => h.elim id fun ⟨a, ha, _⟩ => absurd ha (Nat.not_lt_zero a)⟩) h
  | n + 1 => by
    have ih := tkS_P (g := g) (c := c) (t := t) h n
    have hst : ∀ v, (S v ∨ tsS g c t n v) ∨ (((0 ≤ mSpan g n 0 ∧ mSpan g n 3 ≤ t) ∧ (mSpanBits g n).testBit c = true) ∧ v = mSpan g n 4) ↔ S v ∨ tsS g c t (n + 1) v := fun v => by
      constructor
      · rintro ((h1 | ⟨a, h1, h2⟩) | h1)
        · exact Or.inl h1
        · exact Or.inr ⟨a, by omega, h2⟩
        · exact Or.inr ⟨n, by omega, h1⟩
      · rintro (h1 | ⟨a, h1, h2⟩)
        · exact Or.inl (Or.inl h1)
        · by_cases ca : a = n
          · subst ca; exact Or.inr h2
          · exact Or.inl (Or.inr ⟨a, by omega, h2⟩)
    rw [tkS]
    by_cases c2 : ((decide (0 ≤ mSpan g n 0) && decide (mSpan g n 3 ≤ t)) && (mSpanBits g n).testBit c) = true
    · rw [if_pos c2]
      rw [Bool.and_eq_true, Bool.and_eq_true, decide_eq_true_eq, decide_eq_true_eq] at c2
      refine tkP_eqv (fun v => Iff.trans ?_ (hst v)) (tkP_add _ ih)
      exact ⟨fun h => h.imp id fun h => ⟨c2, h⟩, fun h => h.imp id fun h => h.2⟩
    · rw [if_neg c2]
      rw [Bool.and_eq_true, Bool.and_eq_true, decide_eq_true_eq, decide_eq_true_eq] at c2
      refine tkP_eqv (fun v => Iff.trans ?_ (hst v)) ih
      exact ⟨Or.inl, fun h => h.elim id fun h => absurd h.1 c2⟩
theorem takF_P {g : Nat → Int} {c : Nat} {t : Int} {l : List bR} (hl : ∀ r, r ∈ l ↔ isRow g (-1) (-1) (-1) (-1) r) (ht : g 0 ≤ t) : tkP (fun v => ∃ r, r ∈ l ∧ (r.m.testBit c = true ∧ r.f ≤ t) ∧ r.t = v) t (takF g c t) := by
  unfold takF
  refine tkP_eqv (fun v => ?_) (tkS_P (tkJ_P _) 12)
  constructor
  · rintro (⟨j, h1, a, h2, ⟨h3, h4⟩ | ⟨h3, h4⟩⟩ | ⟨s, h1, h2, h3⟩)
    · exact ⟨prRow g j a, (hl _).mpr (Or.inr (Or.inr ⟨j, a, h1, h2, h3.1.1, by omega, by omega, rfl⟩)), ⟨h3.2, h3.1.2⟩, h4.symm⟩
    · exact ⟨heRow g j a, (hl _).mpr (Or.inl ⟨j, a, h1, h2, h3.1, by omega, by omega, rfl⟩), ⟨h3.2, ht⟩, h4.symm⟩
    · exact ⟨spRow g s, (hl _).mpr (Or.inr (Or.inl ⟨s, h1, h2.1.1, rfl⟩)), ⟨h2.2, h2.1.2⟩, h3.symm⟩
  · rintro ⟨r, hr, ⟨h2, h3⟩, h4⟩
    rcases (hl r).mp hr with ⟨j, a, q1, q2, q3, q4, q5, rfl⟩ | ⟨s, q1, q2, rfl⟩ | ⟨j, a, q1, q2, q3, q4, q5, rfl⟩
    · exact Or.inl ⟨j, q1, a, q2, Or.inr ⟨⟨q3, h2⟩, h4.symm⟩⟩
    · exact Or.inr ⟨s, q1, ⟨⟨q2, h3⟩, h2⟩, h4.symm⟩
    · exact Or.inl ⟨j, q1, a, q2, Or.inl ⟨⟨⟨q3, h3⟩, h2⟩, h4.symm⟩⟩
theorem sooner_P {S : Int → Prop} {t x v : Int} (h : bgP S t x) (hv : 0 ≤ v) : bgP (fun y => S y ∨ y = v) t (soonerF v t x) := bgP_add h hv
def baS (g : Nat → Int) (c j n : Nat) (v : Int) : Prop := ∃ a, a < n ∧ (0 ≤ mAt g j 9 ∧ (mPromBits g j a).testBit c = true) ∧ v = mAt g j 9
theorem bgA_P {g : Nat → Int} {c j : Nat} {t x : Int} {S : Int → Prop} (h : bgP S t x) : ∀ n, bgP (fun v => S v ∨ baS g c j n v) t (bgA g c t j x n)
  | 0 => bgP_eqv (fun v _ => ⟨Or.inl, fun h => h.elim id fun ⟨a, ha, _⟩ => absurd ha (Nat.not_lt_zero a)⟩) h
  | n + 1 => by
    have ih := bgA_P (g := g) (c := c) (j := j) h n
    have hst : ∀ v, (S v ∨ baS g c j n v) ∨ ((0 ≤ mAt g j 9 ∧ (mPromBits g j n).testBit c = true) ∧ v = mAt g j 9) ↔ S v ∨ baS g c j (n + 1) v := fun v => by
      constructor
      · rintro ((h1 | ⟨a, h1, h2⟩) | h1)
        · exact Or.inl h1
        · exact Or.inr ⟨a, by omega, h2⟩
        · exact Or.inr ⟨n, by omega, h1⟩
      · rintro (h1 | ⟨a, h1, h2⟩)
        · exact Or.inl (Or.inl h1)
        · by_cases ca : a = n
          · subst ca; exact Or.inr h2
          · exact Or.inl (Or.inr ⟨a, by omega, h2⟩)
    rw [bgA]
    by_cases c2 : (decide (0 ≤ mAt g j 9) && (mPromBits g j n).testBit c) = true
    · rw [if_pos c2]
      rw [Bool.and_eq_true, decide_eq_true_eq] at c2
      refine bgP_eqv (fun v _ => Iff.trans ?_ (hst v)) (sooner_P ih c2.1)
      exact ⟨fun h => h.imp id fun h => ⟨c2, h⟩, fun h => h.imp id fun h => h.2⟩
    · rw [if_neg c2]
      rw [Bool.and_eq_true, decide_eq_true_eq] at c2
      refine bgP_eqv (fun v _ => Iff.trans ?_ (hst v)) ih
      exact ⟨Or.inl, fun h => h.elim id fun h => absurd h.1 c2⟩
theorem bgJ_P {g : Nat → Int} {c : Nat} {t : Int} : ∀ n, bgP (fun v => ∃ j, j < n ∧ baS g c j (mArms g j) v) t (bgJ g c t n)
  | 0 => Or.inl ⟨rfl, fun v ⟨j, hj, _⟩ => absurd hj (Nat.not_lt_zero j)⟩
  | n + 1 => by
    rw [bgJ]
    refine bgP_eqv (fun v _ => ?_) (bgA_P (bgJ_P n) _)
    constructor
    · rintro (⟨j, h1, h2⟩ | h)
      · exact ⟨j, by omega, h2⟩
      · exact ⟨n, by omega, h⟩
    · rintro ⟨j, h1, h2⟩
      by_cases cj : j = n
      · subst cj; exact Or.inr h2
      · exact Or.inl ⟨j, by omega, h2⟩
def bsS (g : Nat → Int) (c n : Nat) (v : Int) : Prop := ∃ s, s < n ∧ (0 ≤ mSpan g s 0 ∧ (mSpanBits g s).testBit c = true) ∧ v = mSpan g s 3
theorem bgS_P {g : Nat → Int} {c : Nat} {t x : Int} {S : Int → Prop} (h : bgP S t x) : ∀ n, (∀ s, s < n → 0 ≤ mSpan g s 0 → 0 ≤ mSpan g s 3) → bgP (fun v => S v ∨ bsS g c n v) t (bgS g c t x n)
  | 0, _ => bgP_eqv (fun v _ => ⟨Or.inl, fun h => h.elim id fun ⟨a, ha, _⟩ => absurd ha (Nat.not_lt_zero a)⟩) h
  | n + 1, h3 => by
    have ih := bgS_P (g := g) (c := c) h n fun s hs => h3 s (by omega)
    have hst : ∀ v, (S v ∨ bsS g c n v) ∨ ((0 ≤ mSpan g n 0 ∧ (mSpanBits g n).testBit c = true) ∧ v = mSpan g n 3) ↔ S v ∨ bsS g c (n + 1) v := fun v => by
      constructor
      · rintro ((h1 | ⟨a, h1, h2⟩) | h1)
        · exact Or.inl h1
        · exact Or.inr ⟨a, by omega, h2⟩
        · exact Or.inr ⟨n, by omega, h1⟩
      · rintro (h1 | ⟨a, h1, h2⟩)
        · exact Or.inl (Or.inl h1)
        · by_cases ca : a = n
          · subst ca; exact Or.inr h2
          · exact Or.inl (Or.inr ⟨a, by omega, h2⟩)
    rw [bgS]
    by_cases c2 : (decide (0 ≤ mSpan g n 0) && (mSpanBits g n).testBit c) = true
    · rw [if_pos c2]
      rw [Bool.and_eq_true, decide_eq_true_eq] at c2
      refine bgP_eqv (fun v _ => Iff.trans ?_ (hst v)) (sooner_P ih (h3 n (by omega) c2.1))
      exact ⟨fun h => h.imp id fun h => ⟨c2, h⟩, fun h => h.imp id fun h => h.2⟩
    · rw [if_neg c2]
      rw [Bool.and_eq_true, decide_eq_true_eq] at c2
      refine bgP_eqv (fun v _ => Iff.trans ?_ (hst v)) ih
      exact ⟨Or.inl, fun h => h.elim id fun h => absurd h.1 c2⟩
theorem begF_P {g : Nat → Int} {c : Nat} {t : Int} {l : List bR} (hrow : rowOk g) (hl : ∀ r, r ∈ l ↔ isRow g (-1) (-1) (-1) (-1) r) (ht : g 0 ≤ t) : bgP (gpS l c) t (begF g c t) := by
  unfold begF
  refine bgP_eqv (fun v hv => ?_) (bgS_P (bgJ_P _) 12 fun s hs h => by have := (row_s hrow hs).2 h; omega)
  constructor
  · rintro (⟨j, h1, a, h2, h3, h4⟩ | ⟨s, h1, h2, h3⟩)
    · exact ⟨prRow g j a, (hl _).mpr (Or.inr (Or.inr ⟨j, a, h1, h2, h3.1, by omega, by omega, rfl⟩)), h3.2, h4.symm⟩
    · exact ⟨spRow g s, (hl _).mpr (Or.inr (Or.inl ⟨s, h1, h2.1, rfl⟩)), h2.2, h3.symm⟩
  · rintro ⟨r, hr, h2, h4⟩
    rcases (hl r).mp hr with ⟨j, a, q1, q2, q3, q4, q5, rfl⟩ | ⟨s, q1, q2, rfl⟩ | ⟨j, a, q1, q2, q3, q4, q5, rfl⟩
    · exfalso
      have h5 : g 0 = v := h4
      omega
    · exact Or.inr ⟨s, q1, ⟨q2, h2⟩, h4.symm⟩
    · exact Or.inl ⟨j, q1, a, q2, ⟨q3, h2⟩, h4.symm⟩
set_option maxHeartbeats 1000000 in
theorem M_gapW {G U : Nat → Nat → Int} {c i : Nat} {w : Int} {l : List bR} (hrow : rowOk (G 180)) (hl : ∀ r, r ∈ l ↔ isRow (G 180) (-1) (-1) (-1) (-1) r) (hln : l.length ≤ 44) (hc : c < 16) (hi : i < 2147483648) (hw : 0 ≤ w ∧ w ≤ 1) : F_M_gap [pR 179, pI (Int32.ofInt (c : Int)), pI (Int32.ofInt (i : Int)), pI (Int32.ofInt w)] (zM G U) = some (some (pI (Int32.ofInt (if gapR l c w i (G 180 0) < 0 then -2 else gapR l c w i (G 180 0)))), zM G U) := by
  have h0 := hrow.2.1
  have hle : ∀ r, r ∈ l → (0 ≤ r.f ∧ r.f ≤ 1000000) ∧ r.t ≤ 1000000 := fun r hr => row_le hrow ((hl r).mp hr)
  have ge := fun (t : Int) => gE_rg (c := c) (t := t) (m := 1000000) (l := l) (fun r hr => (hle r hr).1) (by omega)
  have hbe : ∀ t, G 180 0 ≤ t → begF (G 180) c t = gE c t l := fun t ht => bgP_u (begF_P hrow hl ht) (gE_is l fun r hr => (hle r hr).1.1)
  have htk := fun t (ht : G 180 0 ≤ t) => takF_P (c := c) hl ht
  have hcl : ∀ x, cFr l x ≤ l.length := fun x => cntL_le l
  have hct : ∀ x, cTo l x ≤ l.length := fun x => cntL_le l
  have mtk := fun (t : Int) (ht : 0 ≤ t ∧ t ≤ 1000000) => M_takenTo (G := G) (U := U) (c := c) (t := t) hc hrow (by omega)
  have mbg := fun (t : Int) (ht : 0 ≤ t ∧ t ≤ 1000000) => M_begins (G := G) (U := U) (c := c) (t := t) hc hrow (by unfold rg; omega)
  have rc : rg (c : Int) := by unfold rg; omega
  apply wF_to
  unfold F_M_gap B_M_gap
  apply wBody (Nat.le_of_ble_eq_true rfl)
  obtain ⟨V, hV⟩ : ∃ V : Int, V = (if gapR l c w i (G 180 0) < 0 then -2 else gapR l c w i (G 180 0)) := ⟨_, rfl⟩
  rw [← hV]
  repeat' first | with_reducible apply wB_and | with_reducible apply wB_or | with_reducible apply wB_not | with_reducible apply wI_ite | with_reducible apply wI_add | with_reducible apply wI_sub | with_reducible apply wSeq | with_reducible apply wSkip | with_reducible apply wIf | ((with_reducible apply wInc); rfl) | with_reducible apply wKil | with_reducible apply wAsIw | with_reducible apply wAsZw | with_reducible apply wRIw | with_reducible apply wRZw | with_reducible apply wB_e | with_reducible apply wI_e | (intro h; try simp only [Bool.and_eq_true, Bool.or_eq_true, Bool.not_eq_true', Bool.not_eq_false', Bool.and_eq_false_imp, Bool.or_eq_false_iff, decide_eq_true_eq, decide_eq_false_iff_not, Bool.not_true, Bool.not_false, Bool.true_eq_false, Bool.false_eq_true, Bool.not_not] at h) | with_reducible apply wN1 | with_reducible apply wN2 | with_reducible apply wN3 | with_reducible apply wN4 | with_reducible apply wN0 | with_reducible apply wE0 | with_reducible apply wXI | with_reducible apply wXB | with_reducible exact eK | with_reducible exact eKJ | ((with_reducible apply eL); rfl) | ((with_reducible apply eLR); rfl) | with_reducible exact eAN | with_reducible apply eSub | with_reducible apply eWJ | with_reducible apply eLt | with_reducible apply eGt | with_reducible apply eEq | with_reducible apply eOrB | with_reducible apply eNot | with_reducible apply eIteI | with_reducible apply eIteJ | with_reducible apply eIte | with_reducible exact eKZ | with_reducible apply eArr2 | with_reducible apply eAI | with_reducible apply eAJ | with_reducible apply eAR | with_reducible apply eCI | with_reducible apply eCZ | with_reducible apply wRc | with_reducible exact ckv179 | with_reducible exact ckv99 | with_reducible apply R_M_g | with_reducible exact N_M_g | with_reducible exact M_in (by omega) (by omega) (by omega) | with_reducible exact M_takenTo (by omega) (by assumption) (by omega) | with_reducible exact M_begins (by omega) (by assumption) (by omega) | with_reducible exact Mc_isColumn (by assumption) | with_reducible exact Int.toNat_natCast _ | with_reducible exact tn0 | with_reducible exact tn1 | with_reducible exact tn2 | with_reducible exact tn3 | with_reducible exact tn4 | with_reducible exact tn5 | with_reducible exact tn6 | with_reducible exact tn7 | with_reducible exact tn8 | with_reducible exact tn9 | with_reducible exact tn10 | with_reducible exact tn11 | with_reducible exact tn12 | with_reducible exact tn13 | with_reducible exact tn14 | with_reducible exact tn15 | with_reducible exact tn16 | with_reducible exact tnK0 | with_reducible exact tnK4 | with_reducible exact tnK8 | with_reducible exact tnK12 | with_reducible exact tnK16 | with_reducible exact tnK20 | with_reducible exact tnK24 | with_reducible exact tnK28 | with_reducible exact tnK32 | with_reducible exact tnJA | with_reducible exact tnA | with_reducible exact upR_s | ((with_reducible apply upR_a); (first | decide | omega)) | ((with_reducible apply upR_b); (first | decide | omega)) | ((with_reducible apply cpR_o); (first | decide | omega)) | with_reducible apply lt_pSet1 | with_reducible apply lt_kil | exact Nat.le_of_ble_eq_true rfl | with_reducible assumption | with_reducible exact rfl | omega | with_reducible apply wAnd | decide +kernel
  all_goals first | (exfalso; omega) | exact absurd trivial (by assumption) | exact absurd rfl (by assumption) | skip
  refine wWh (fun k L σ => ∃ t : Int, L = [some (pR 179), some (pI (Int32.ofInt (c : Int))), some (pI (Int32.ofInt (i : Int))), some (pI (Int32.ofInt w)), some (pI (Int32.ofInt t)), some (pI (Int32.ofInt ((i : Int) - (k : Int)))), none, none] ∧ σ = zM G U ∧ k ≤ i ∧ (G 180 0 ≤ t ∧ t ≤ 1000000) ∧ gapR l c w i (G 180 0) = gapR l c w (i - k) t ∧ k ≤ cFr l t) 45 (by omega) ⟨G 180 0, by rw [show (i : Int) - ((0 : Nat) : Int) = (i : Int) by omega]; rfl, rfl, Nat.zero_le _, by omega, rfl, Nat.zero_le _⟩ ?_
  rintro k _ _ hk ⟨t, rfl, rfl, hki, ht, hgr, hcnt⟩
  have hk44 : k ≤ 44 := by have := hcl t; omega
  have mt0 := mtk t (by omega)
  repeat' first | with_reducible apply wB_and | with_reducible apply wB_or | with_reducible apply wB_not | with_reducible apply wI_ite | with_reducible apply wI_add | with_reducible apply wI_sub | with_reducible apply wSeq | with_reducible apply wSkip | with_reducible apply wIf | ((with_reducible apply wInc); rfl) | with_reducible apply wKil | with_reducible apply wAsIw | with_reducible apply wAsZw | with_reducible apply wRIw | with_reducible apply wRZw | with_reducible apply wB_e | with_reducible apply wI_e | (intro h; try simp only [Bool.and_eq_true, Bool.or_eq_true, Bool.not_eq_true', Bool.not_eq_false', Bool.and_eq_false_imp, Bool.or_eq_false_iff, decide_eq_true_eq, decide_eq_false_iff_not, Bool.not_true, Bool.not_false, Bool.true_eq_false, Bool.false_eq_true, Bool.not_not] at h) | with_reducible apply wN1 | with_reducible apply wN2 | with_reducible apply wN3 | with_reducible apply wN4 | with_reducible apply wN0 | with_reducible apply wE0 | with_reducible apply wXI | with_reducible apply wXB | with_reducible exact mt0 | with_reducible exact eK | with_reducible exact eKJ | ((with_reducible apply eL); rfl) | ((with_reducible apply eLR); rfl) | with_reducible exact eAN | with_reducible apply eSub | with_reducible apply eWJ | with_reducible apply eLt | with_reducible apply eGt | with_reducible apply eEq | with_reducible apply eOrB | with_reducible apply eNot | with_reducible apply eIteI | with_reducible apply eIteJ | with_reducible apply eIte | with_reducible exact eKZ | with_reducible apply eArr2 | with_reducible apply eAI | with_reducible apply eAJ | with_reducible apply eAR | with_reducible apply eCI | with_reducible apply eCZ | with_reducible apply wRc | with_reducible exact ckv179 | with_reducible exact ckv99 | with_reducible apply R_M_g | with_reducible exact N_M_g | with_reducible exact M_in (by omega) (by omega) (by omega) | with_reducible exact M_takenTo (by omega) (by assumption) (by omega) | with_reducible exact M_begins (by omega) (by assumption) (by omega) | with_reducible exact Mc_isColumn (by assumption) | with_reducible exact Int.toNat_natCast _ | with_reducible exact tn0 | with_reducible exact tn1 | with_reducible exact tn2 | with_reducible exact tn3 | with_reducible exact tn4 | with_reducible exact tn5 | with_reducible exact tn6 | with_reducible exact tn7 | with_reducible exact tn8 | with_reducible exact tn9 | with_reducible exact tn10 | with_reducible exact tn11 | with_reducible exact tn12 | with_reducible exact tn13 | with_reducible exact tn14 | with_reducible exact tn15 | with_reducible exact tn16 | with_reducible exact tnK0 | with_reducible exact tnK4 | with_reducible exact tnK8 | with_reducible exact tnK12 | with_reducible exact tnK16 | with_reducible exact tnK20 | with_reducible exact tnK24 | with_reducible exact tnK28 | with_reducible exact tnK32 | with_reducible exact tnJA | with_reducible exact tnA | with_reducible exact upR_s | ((with_reducible apply upR_a); (first | decide | omega)) | ((with_reducible apply upR_b); (first | decide | omega)) | ((with_reducible apply cpR_o); (first | decide | omega)) | with_reducible apply lt_pSet1 | with_reducible apply lt_kil | exact Nat.le_of_ble_eq_true rfl | with_reducible assumption | with_reducible exact rfl | omega | with_reducible apply wAnd | decide +kernel
  all_goals first | (exfalso; omega) | exact absurd trivial (by assumption) | exact absurd rfl (by assumption) | skip
  refine wWh (fun m L σ => ∃ x : Int, L = [some (pR 179), some (pI (Int32.ofInt (c : Int))), some (pI (Int32.ofInt (i : Int))), some (pI (Int32.ofInt w)), some (pI (Int32.ofInt x)), some (pI (Int32.ofInt ((i : Int) - (k : Int)))), some (pI (Int32.ofInt (takF (G 180) c x))), none] ∧ σ = zM G U ∧ (t ≤ x ∧ x ≤ 1000000) ∧ (∀ y, t ≤ y → y < x → ∃ r, r ∈ l ∧ gpC c r y = true) ∧ m ≤ cTo l x) 45 (by omega) ⟨t, rfl, rfl, by omega, fun y y1 y2 => by omega, Nat.zero_le _⟩ ?_
  rintro m _ _ hm ⟨x, rfl, rfl, hx, hcov, hcn⟩
  have hm44 : m ≤ 44 := by have := hct x; omega
  obtain ⟨p1, p2, p3⟩ := htk x (by omega)
  have hxr : takF (G 180) c x ≤ 1000000 := by
    rcases p2 with h | ⟨r, q1, q2, q3⟩
    · omega
    · have := (hle r q1).2
      omega
  by_cases hgt : x < takF (G 180) c x
  · obtain ⟨r, q1, q2, q3⟩ : ∃ r, r ∈ l ∧ (r.m.testBit c = true ∧ r.f ≤ x) ∧ r.t = takF (G 180) c x := by
      rcases p2 with h | h
      · omega
      · exact h
    have hcov2 : ∀ y, t ≤ y → y < takF (G 180) c x → ∃ r, r ∈ l ∧ gpC c r y = true := fun y y1 y2 => by
      by_cases cy : y < x
      · exact hcov y y1 cy
      · exact ⟨r, q1, gpC_t.mpr ⟨⟨q2.1, by omega⟩, by omega⟩⟩
    have hcn2 : m + 1 ≤ cTo l (takF (G 180) c x) := by
      have := cTo_lt q1 (x := x) (y := takF (G 180) c x) (by omega) (by omega)
      omega
    have mt1 := mtk (takF (G 180) c x) (by omega)
    clear hcov hgr htk p2 p3 mtk mbg hbe ge hle hcl hct hV
    generalize takF (G 180) c x = z at *
    repeat' first | with_reducible apply wB_and | with_reducible apply wB_or | with_reducible apply wB_not | with_reducible apply wI_ite | with_reducible apply wI_add | with_reducible apply wI_sub | with_reducible apply wSeq | with_reducible apply wSkip | with_reducible apply wIf | ((with_reducible apply wInc); rfl) | with_reducible apply wKil | with_reducible apply wAsIw | with_reducible apply wAsZw | with_reducible apply wRIw | with_reducible apply wRZw | with_reducible apply wB_e | with_reducible apply wI_e | (intro h; try simp only [Bool.and_eq_true, Bool.or_eq_true, Bool.not_eq_true', Bool.not_eq_false', Bool.and_eq_false_imp, Bool.or_eq_false_iff, decide_eq_true_eq, decide_eq_false_iff_not, Bool.not_true, Bool.not_false, Bool.true_eq_false, Bool.false_eq_true, Bool.not_not] at h) | with_reducible apply wN1 | with_reducible apply wN2 | with_reducible apply wN3 | with_reducible apply wN4 | with_reducible apply wN0 | with_reducible apply wE0 | with_reducible apply wXI | with_reducible apply wXB | with_reducible exact mt1 | with_reducible exact eK | with_reducible exact eKJ | ((with_reducible apply eL); rfl) | ((with_reducible apply eLR); rfl) | with_reducible exact eAN | with_reducible apply eSub | with_reducible apply eWJ | with_reducible apply eLt | with_reducible apply eGt | with_reducible apply eEq | with_reducible apply eOrB | with_reducible apply eNot | with_reducible apply eIteI | with_reducible apply eIteJ | with_reducible apply eIte | with_reducible exact eKZ | with_reducible apply eArr2 | with_reducible apply eAI | with_reducible apply eAJ | with_reducible apply eAR | with_reducible apply eCI | with_reducible apply eCZ | with_reducible apply wRc | with_reducible exact ckv179 | with_reducible exact ckv99 | with_reducible apply R_M_g | with_reducible exact N_M_g | with_reducible exact M_in (by omega) (by omega) (by omega) | with_reducible exact M_takenTo (by omega) (by assumption) (by omega) | with_reducible exact M_begins (by omega) (by assumption) (by omega) | with_reducible exact Mc_isColumn (by assumption) | with_reducible exact Int.toNat_natCast _ | with_reducible exact tn0 | with_reducible exact tn1 | with_reducible exact tn2 | with_reducible exact tn3 | with_reducible exact tn4 | with_reducible exact tn5 | with_reducible exact tn6 | with_reducible exact tn7 | with_reducible exact tn8 | with_reducible exact tn9 | with_reducible exact tn10 | with_reducible exact tn11 | with_reducible exact tn12 | with_reducible exact tn13 | with_reducible exact tn14 | with_reducible exact tn15 | with_reducible exact tn16 | with_reducible exact tnK0 | with_reducible exact tnK4 | with_reducible exact tnK8 | with_reducible exact tnK12 | with_reducible exact tnK16 | with_reducible exact tnK20 | with_reducible exact tnK24 | with_reducible exact tnK28 | with_reducible exact tnK32 | with_reducible exact tnJA | with_reducible exact tnA | with_reducible exact upR_s | ((with_reducible apply upR_a); (first | decide | omega)) | ((with_reducible apply upR_b); (first | decide | omega)) | ((with_reducible apply cpR_o); (first | decide | omega)) | with_reducible apply lt_pSet1 | with_reducible apply lt_kil | exact Nat.le_of_ble_eq_true rfl | with_reducible assumption | with_reducible exact rfl | omega | with_reducible apply wAnd | decide +kernel
    all_goals first | (exfalso; omega) | exact absurd trivial (by assumption) | exact absurd rfl (by assumption) | skip
    exact ⟨z, rfl, rfl, by omega, hcov2, hcn2⟩
  · have hun : ∀ r, r ∈ l → gpC c r x = false := fun r hr => gpC_f.mpr fun h6 => by
      have := p3 r.t ⟨r, hr, h6.1, rfl⟩
      omega
    have hgb : gB l c t = x := gB_eq ⟨hx.1, hun, hcov⟩
    have mb := mbg x (by omega)
    rw [hbe x (by omega)] at mb
    have gex := ge x
    obtain ⟨n, hn⟩ : ∃ n, i - k = n := ⟨_, rfl⟩
    have hgr0 : n = 0 → gapR l c w i (G 180 0) = if w = 0 then x else if gE c x l = -1 then -1 else gE c x l - x := fun h => by
      rw [hgr, hn, h, gapR, hgb]
    have hgrS : ∀ n', n = n' + 1 → gapR l c w i (G 180 0) = if gE c x l = -1 then -1 else gapR l c w n' (gE c x l) := fun n' h => by
      rw [hgr, hn, h, gapR, hgb]
    clear hcov hgr htk p2 p3 mtk mbg hbe ge hle hcl hct hun hgb
    generalize takF (G 180) c x = z at *
    have hnx : gE c x l ≠ -1 → ∃ r, r ∈ l ∧ r.m.testBit c = true ∧ r.f = gE c x l := fun h => (gex.2.2 h).2
    have hnx2 : gE c x l ≠ -1 → x < gE c x l := fun h => (gex.2.2 h).1
    have g1 := gex.1
    have g2 := gex.2.1
    clear gex
    cases n with
    | zero =>
      have hgr2 := hgr0 rfl
      clear hnx hgr0 hgrS
      generalize gE c x l = q at *
      rw [hgr2] at hV
      by_cases cw : w = 0
      · rw [if_pos cw, if_neg (by omega)] at hV
        subst hV
        repeat' first | with_reducible apply wB_and | with_reducible apply wB_or | with_reducible apply wB_not | with_reducible apply wI_ite | with_reducible apply wI_add | with_reducible apply wI_sub | with_reducible apply wSeq | with_reducible apply wSkip | with_reducible apply wIf | ((with_reducible apply wInc); rfl) | with_reducible apply wKil | with_reducible apply wAsIw | with_reducible apply wAsZw | with_reducible apply wRIw | with_reducible apply wRZw | with_reducible apply wB_e | with_reducible apply wI_e | (intro h; try simp only [Bool.and_eq_true, Bool.or_eq_true, Bool.not_eq_true', Bool.not_eq_false', Bool.and_eq_false_imp, Bool.or_eq_false_iff, decide_eq_true_eq, decide_eq_false_iff_not, Bool.not_true, Bool.not_false, Bool.true_eq_false, Bool.false_eq_true, Bool.not_not] at h) | with_reducible apply wN1 | with_reducible apply wN2 | with_reducible apply wN3 | with_reducible apply wN4 | with_reducible apply wN0 | with_reducible apply wE0 | with_reducible apply wXI | with_reducible apply wXB | with_reducible exact mb | with_reducible exact eK | with_reducible exact eKJ | ((with_reducible apply eL); rfl) | ((with_reducible apply eLR); rfl) | with_reducible exact eAN | with_reducible apply eSub | with_reducible apply eWJ | with_reducible apply eLt | with_reducible apply eGt | with_reducible apply eEq | with_reducible apply eOrB | with_reducible apply eNot | with_reducible apply eIteI | with_reducible apply eIteJ | with_reducible apply eIte | with_reducible exact eKZ | with_reducible apply eArr2 | with_reducible apply eAI | with_reducible apply eAJ | with_reducible apply eAR | with_reducible apply eCI | with_reducible apply eCZ | with_reducible apply wRc | with_reducible exact ckv179 | with_reducible exact ckv99 | with_reducible apply R_M_g | with_reducible exact N_M_g | with_reducible exact M_in (by omega) (by omega) (by omega) | with_reducible exact M_takenTo (by omega) (by assumption) (by omega) | with_reducible exact M_begins (by omega) (by assumption) (by omega) | with_reducible exact Mc_isColumn (by assumption) | with_reducible exact Int.toNat_natCast _ | with_reducible exact tn0 | with_reducible exact tn1 | with_reducible exact tn2 | with_reducible exact tn3 | with_reducible exact tn4 | with_reducible exact tn5 | with_reducible exact tn6 | with_reducible exact tn7 | with_reducible exact tn8 | with_reducible exact tn9 | with_reducible exact tn10 | with_reducible exact tn11 | with_reducible exact tn12 | with_reducible exact tn13 | with_reducible exact tn14 | with_reducible exact tn15 | with_reducible exact tn16 | with_reducible exact tnK0 | with_reducible exact tnK4 | with_reducible exact tnK8 | with_reducible exact tnK12 | with_reducible exact tnK16 | with_reducible exact tnK20 | with_reducible exact tnK24 | with_reducible exact tnK28 | with_reducible exact tnK32 | with_reducible exact tnJA | with_reducible exact tnA | with_reducible exact upR_s | ((with_reducible apply upR_a); (first | decide | omega)) | ((with_reducible apply upR_b); (first | decide | omega)) | ((with_reducible apply cpR_o); (first | decide | omega)) | with_reducible apply lt_pSet1 | with_reducible apply lt_kil | exact Nat.le_of_ble_eq_true rfl | with_reducible assumption | with_reducible exact rfl | omega | with_reducible apply wAnd | decide +kernel
        all_goals first | (exfalso; omega) | exact absurd trivial (by assumption) | exact absurd rfl (by assumption) | exact ⟨rfl, rfl⟩
      · rw [if_neg cw] at hV
        by_cases ce : q = -1
        · rw [if_pos ce, if_pos (by omega)] at hV
          subst hV
          repeat' first | with_reducible apply wB_and | with_reducible apply wB_or | with_reducible apply wB_not | with_reducible apply wI_ite | with_reducible apply wI_add | with_reducible apply wI_sub | with_reducible apply wSeq | with_reducible apply wSkip | with_reducible apply wIf | ((with_reducible apply wInc); rfl) | with_reducible apply wKil | with_reducible apply wAsIw | with_reducible apply wAsZw | with_reducible apply wRIw | with_reducible apply wRZw | with_reducible apply wB_e | with_reducible apply wI_e | (intro h; try simp only [Bool.and_eq_true, Bool.or_eq_true, Bool.not_eq_true', Bool.not_eq_false', Bool.and_eq_false_imp, Bool.or_eq_false_iff, decide_eq_true_eq, decide_eq_false_iff_not, Bool.not_true, Bool.not_false, Bool.true_eq_false, Bool.false_eq_true, Bool.not_not] at h) | with_reducible apply wN1 | with_reducible apply wN2 | with_reducible apply wN3 | with_reducible apply wN4 | with_reducible apply wN0 | with_reducible apply wE0 | with_reducible apply wXI | with_reducible apply wXB | with_reducible exact mb | with_reducible exact eK | with_reducible exact eKJ | ((with_reducible apply eL); rfl) | ((with_reducible apply eLR); rfl) | with_reducible exact eAN | with_reducible apply eSub | with_reducible apply eWJ | with_reducible apply eLt | with_reducible apply eGt | with_reducible apply eEq | with_reducible apply eOrB | with_reducible apply eNot | with_reducible apply eIteI | with_reducible apply eIteJ | with_reducible apply eIte | with_reducible exact eKZ | with_reducible apply eArr2 | with_reducible apply eAI | with_reducible apply eAJ | with_reducible apply eAR | with_reducible apply eCI | with_reducible apply eCZ | with_reducible apply wRc | with_reducible exact ckv179 | with_reducible exact ckv99 | with_reducible apply R_M_g | with_reducible exact N_M_g | with_reducible exact M_in (by omega) (by omega) (by omega) | with_reducible exact M_takenTo (by omega) (by assumption) (by omega) | with_reducible exact M_begins (by omega) (by assumption) (by omega) | with_reducible exact Mc_isColumn (by assumption) | with_reducible exact Int.toNat_natCast _ | with_reducible exact tn0 | with_reducible exact tn1 | with_reducible exact tn2 | with_reducible exact tn3 | with_reducible exact tn4 | with_reducible exact tn5 | with_reducible exact tn6 | with_reducible exact tn7 | with_reducible exact tn8 | with_reducible exact tn9 | with_reducible exact tn10 | with_reducible exact tn11 | with_reducible exact tn12 | with_reducible exact tn13 | with_reducible exact tn14 | with_reducible exact tn15 | with_reducible exact tn16 | with_reducible exact tnK0 | with_reducible exact tnK4 | with_reducible exact tnK8 | with_reducible exact tnK12 | with_reducible exact tnK16 | with_reducible exact tnK20 | with_reducible exact tnK24 | with_reducible exact tnK28 | with_reducible exact tnK32 | with_reducible exact tnJA | with_reducible exact tnA | with_reducible exact upR_s | ((with_reducible apply upR_a); (first | decide | omega)) | ((with_reducible apply upR_b); (first | decide | omega)) | ((with_reducible apply cpR_o); (first | decide | omega)) | with_reducible apply lt_pSet1 | with_reducible apply lt_kil | exact Nat.le_of_ble_eq_true rfl | with_reducible assumption | with_reducible exact rfl | omega | with_reducible apply wAnd | decide +kernel
          all_goals first | (exfalso; omega) | exact absurd trivial (by assumption) | exact absurd rfl (by assumption) | exact ⟨rfl, rfl⟩
        · have := hnx2 ce
          rw [if_neg ce, if_neg (by omega)] at hV
          subst hV
          repeat' first | with_reducible apply wB_and | with_reducible apply wB_or | with_reducible apply wB_not | with_reducible apply wI_ite | with_reducible apply wI_add | with_reducible apply wI_sub | with_reducible apply wSeq | with_reducible apply wSkip | with_reducible apply wIf | ((with_reducible apply wInc); rfl) | with_reducible apply wKil | with_reducible apply wAsIw | with_reducible apply wAsZw | with_reducible apply wRIw | with_reducible apply wRZw | with_reducible apply wB_e | with_reducible apply wI_e | (intro h; try simp only [Bool.and_eq_true, Bool.or_eq_true, Bool.not_eq_true', Bool.not_eq_false', Bool.and_eq_false_imp, Bool.or_eq_false_iff, decide_eq_true_eq, decide_eq_false_iff_not, Bool.not_true, Bool.not_false, Bool.true_eq_false, Bool.false_eq_true, Bool.not_not] at h) | with_reducible apply wN1 | with_reducible apply wN2 | with_reducible apply wN3 | with_reducible apply wN4 | with_reducible apply wN0 | with_reducible apply wE0 | with_reducible apply wXI | with_reducible apply wXB | with_reducible exact mb | with_reducible exact eK | with_reducible exact eKJ | ((with_reducible apply eL); rfl) | ((with_reducible apply eLR); rfl) | with_reducible exact eAN | with_reducible apply eSub | with_reducible apply eWJ | with_reducible apply eLt | with_reducible apply eGt | with_reducible apply eEq | with_reducible apply eOrB | with_reducible apply eNot | with_reducible apply eIteI | with_reducible apply eIteJ | with_reducible apply eIte | with_reducible exact eKZ | with_reducible apply eArr2 | with_reducible apply eAI | with_reducible apply eAJ | with_reducible apply eAR | with_reducible apply eCI | with_reducible apply eCZ | with_reducible apply wRc | with_reducible exact ckv179 | with_reducible exact ckv99 | with_reducible apply R_M_g | with_reducible exact N_M_g | with_reducible exact M_in (by omega) (by omega) (by omega) | with_reducible exact M_takenTo (by omega) (by assumption) (by omega) | with_reducible exact M_begins (by omega) (by assumption) (by omega) | with_reducible exact Mc_isColumn (by assumption) | with_reducible exact Int.toNat_natCast _ | with_reducible exact tn0 | with_reducible exact tn1 | with_reducible exact tn2 | with_reducible exact tn3 | with_reducible exact tn4 | with_reducible exact tn5 | with_reducible exact tn6 | with_reducible exact tn7 | with_reducible exact tn8 | with_reducible exact tn9 | with_reducible exact tn10 | with_reducible exact tn11 | with_reducible exact tn12 | with_reducible exact tn13 | with_reducible exact tn14 | with_reducible exact tn15 | with_reducible exact tn16 | with_reducible exact tnK0 | with_reducible exact tnK4 | with_reducible exact tnK8 | with_reducible exact tnK12 | with_reducible exact tnK16 | with_reducible exact tnK20 | with_reducible exact tnK24 | with_reducible exact tnK28 | with_reducible exact tnK32 | with_reducible exact tnJA | with_reducible exact tnA | with_reducible exact upR_s | ((with_reducible apply upR_a); (first | decide | omega)) | ((with_reducible apply upR_b); (first | decide | omega)) | ((with_reducible apply cpR_o); (first | decide | omega)) | with_reducible apply lt_pSet1 | with_reducible apply lt_kil | exact Nat.le_of_ble_eq_true rfl | with_reducible assumption | with_reducible exact rfl | omega | with_reducible apply wAnd | decide +kernel
          all_goals first | (exfalso; omega) | exact absurd trivial (by assumption) | exact absurd rfl (by assumption) | exact ⟨rfl, rfl⟩
    | succ n =>
      have hgr2 := hgrS n rfl
      clear hgr0 hgrS
      by_cases ce : gE c x l = -1
      · rw [if_pos ce] at hgr2
        rw [hgr2, if_pos (by omega)] at hV
        subst hV
        clear hnx hnx2
        generalize gE c x l = q at *
        repeat' first | with_reducible apply wB_and | with_reducible apply wB_or | with_reducible apply wB_not | with_reducible apply wI_ite | with_reducible apply wI_add | with_reducible apply wI_sub | with_reducible apply wSeq | with_reducible apply wSkip | with_reducible apply wIf | ((with_reducible apply wInc); rfl) | with_reducible apply wKil | with_reducible apply wAsIw | with_reducible apply wAsZw | with_reducible apply wRIw | with_reducible apply wRZw | with_reducible apply wB_e | with_reducible apply wI_e | (intro h; try simp only [Bool.and_eq_true, Bool.or_eq_true, Bool.not_eq_true', Bool.not_eq_false', Bool.and_eq_false_imp, Bool.or_eq_false_iff, decide_eq_true_eq, decide_eq_false_iff_not, Bool.not_true, Bool.not_false, Bool.true_eq_false, Bool.false_eq_true, Bool.not_not] at h) | with_reducible apply wN1 | with_reducible apply wN2 | with_reducible apply wN3 | with_reducible apply wN4 | with_reducible apply wN0 | with_reducible apply wE0 | with_reducible apply wXI | with_reducible apply wXB | with_reducible exact mb | with_reducible exact eK | with_reducible exact eKJ | ((with_reducible apply eL); rfl) | ((with_reducible apply eLR); rfl) | with_reducible exact eAN | with_reducible apply eSub | with_reducible apply eWJ | with_reducible apply eLt | with_reducible apply eGt | with_reducible apply eEq | with_reducible apply eOrB | with_reducible apply eNot | with_reducible apply eIteI | with_reducible apply eIteJ | with_reducible apply eIte | with_reducible exact eKZ | with_reducible apply eArr2 | with_reducible apply eAI | with_reducible apply eAJ | with_reducible apply eAR | with_reducible apply eCI | with_reducible apply eCZ | with_reducible apply wRc | with_reducible exact ckv179 | with_reducible exact ckv99 | with_reducible apply R_M_g | with_reducible exact N_M_g | with_reducible exact M_in (by omega) (by omega) (by omega) | with_reducible exact M_takenTo (by omega) (by assumption) (by omega) | with_reducible exact M_begins (by omega) (by assumption) (by omega) | with_reducible exact Mc_isColumn (by assumption) | with_reducible exact Int.toNat_natCast _ | with_reducible exact tn0 | with_reducible exact tn1 | with_reducible exact tn2 | with_reducible exact tn3 | with_reducible exact tn4 | with_reducible exact tn5 | with_reducible exact tn6 | with_reducible exact tn7 | with_reducible exact tn8 | with_reducible exact tn9 | with_reducible exact tn10 | with_reducible exact tn11 | with_reducible exact tn12 | with_reducible exact tn13 | with_reducible exact tn14 | with_reducible exact tn15 | with_reducible exact tn16 | with_reducible exact tnK0 | with_reducible exact tnK4 | with_reducible exact tnK8 | with_reducible exact tnK12 | with_reducible exact tnK16 | with_reducible exact tnK20 | with_reducible exact tnK24 | with_reducible exact tnK28 | with_reducible exact tnK32 | with_reducible exact tnJA | with_reducible exact tnA | with_reducible exact upR_s | ((with_reducible apply upR_a); (first | decide | omega)) | ((with_reducible apply upR_b); (first | decide | omega)) | ((with_reducible apply cpR_o); (first | decide | omega)) | with_reducible apply lt_pSet1 | with_reducible apply lt_kil | exact Nat.le_of_ble_eq_true rfl | with_reducible assumption | with_reducible exact rfl | omega | with_reducible apply wAnd | decide +kernel
        all_goals first | (exfalso; omega) | exact absurd trivial (by assumption) | exact absurd rfl (by assumption) | exact ⟨rfl, rfl⟩
      · rw [if_neg ce] at hgr2
        obtain ⟨r, q1, q2, q3⟩ := hnx ce
        have hq := hnx2 ce
        have hc3 : k + 1 ≤ cFr l (gE c x l) := by
          have h1 := cFr_lt q1 (x := x) (y := gE c x l) (by omega) (by omega)
          have h2 := cFr_mono (l := l) hx.1
          omega
        have hfin : gapR l c w i (G 180 0) = gapR l c w (i - (k + 1)) (gE c x l) := by
          rw [hgr2, show i - (k + 1) = n by omega]
        clear hnx hnx2 hgr2 hV
        generalize gE c x l = q at *
        repeat' first | with_reducible apply wB_and | with_reducible apply wB_or | with_reducible apply wB_not | with_reducible apply wI_ite | with_reducible apply wI_add | with_reducible apply wI_sub | with_reducible apply wSeq | with_reducible apply wSkip | with_reducible apply wIf | ((with_reducible apply wInc); rfl) | with_reducible apply wKil | with_reducible apply wAsIw | with_reducible apply wAsZw | with_reducible apply wRIw | with_reducible apply wRZw | with_reducible apply wB_e | with_reducible apply wI_e | (intro h; try simp only [Bool.and_eq_true, Bool.or_eq_true, Bool.not_eq_true', Bool.not_eq_false', Bool.and_eq_false_imp, Bool.or_eq_false_iff, decide_eq_true_eq, decide_eq_false_iff_not, Bool.not_true, Bool.not_false, Bool.true_eq_false, Bool.false_eq_true, Bool.not_not] at h) | with_reducible apply wN1 | with_reducible apply wN2 | with_reducible apply wN3 | with_reducible apply wN4 | with_reducible apply wN0 | with_reducible apply wE0 | with_reducible apply wXI | with_reducible apply wXB | with_reducible exact mb | with_reducible exact eK | with_reducible exact eKJ | ((with_reducible apply eL); rfl) | ((with_reducible apply eLR); rfl) | with_reducible exact eAN | with_reducible apply eSub | with_reducible apply eWJ | with_reducible apply eLt | with_reducible apply eGt | with_reducible apply eEq | with_reducible apply eOrB | with_reducible apply eNot | with_reducible apply eIteI | with_reducible apply eIteJ | with_reducible apply eIte | with_reducible exact eKZ | with_reducible apply eArr2 | with_reducible apply eAI | with_reducible apply eAJ | with_reducible apply eAR | with_reducible apply eCI | with_reducible apply eCZ | with_reducible apply wRc | with_reducible exact ckv179 | with_reducible exact ckv99 | with_reducible apply R_M_g | with_reducible exact N_M_g | with_reducible exact M_in (by omega) (by omega) (by omega) | with_reducible exact M_takenTo (by omega) (by assumption) (by omega) | with_reducible exact M_begins (by omega) (by assumption) (by omega) | with_reducible exact Mc_isColumn (by assumption) | with_reducible exact Int.toNat_natCast _ | with_reducible exact tn0 | with_reducible exact tn1 | with_reducible exact tn2 | with_reducible exact tn3 | with_reducible exact tn4 | with_reducible exact tn5 | with_reducible exact tn6 | with_reducible exact tn7 | with_reducible exact tn8 | with_reducible exact tn9 | with_reducible exact tn10 | with_reducible exact tn11 | with_reducible exact tn12 | with_reducible exact tn13 | with_reducible exact tn14 | with_reducible exact tn15 | with_reducible exact tn16 | with_reducible exact tnK0 | with_reducible exact tnK4 | with_reducible exact tnK8 | with_reducible exact tnK12 | with_reducible exact tnK16 | with_reducible exact tnK20 | with_reducible exact tnK24 | with_reducible exact tnK28 | with_reducible exact tnK32 | with_reducible exact tnJA | with_reducible exact tnA | with_reducible exact upR_s | ((with_reducible apply upR_a); (first | decide | omega)) | ((with_reducible apply upR_b); (first | decide | omega)) | ((with_reducible apply cpR_o); (first | decide | omega)) | with_reducible apply lt_pSet1 | with_reducible apply lt_kil | exact Nat.le_of_ble_eq_true rfl | with_reducible assumption | with_reducible exact rfl | omega | with_reducible apply wAnd | decide +kernel
        all_goals first | (exfalso; omega) | exact absurd trivial (by assumption) | exact absurd rfl (by assumption) | skip
        exact ⟨q, by rw [show (i : Int) - ((k + 1 : Nat) : Int) = (i : Int) - (k : Int) + -1 by omega]; rfl, rfl, by omega, by omega, hfin, hc3⟩
theorem gapR_rg {l : List bR} {c : Nat} {w m : Int} (hle : ∀ r, r ∈ l → (0 ≤ r.f ∧ r.f ≤ m) ∧ r.t ≤ m) : ∀ i t, 0 ≤ t → t ≤ m → -1 ≤ gapR l c w i t ∧ gapR l c w i t ≤ m
  | 0, t, h0, h1 => by
    have gb := gB_le (l := l) (c := c) (t := t) (m := m) h1 (fun r hr => (hle r hr).2)
    have ge := gE_rg (c := c) (t := gB l c t) (m := m) (l := l) (fun r hr => (hle r hr).1) (by omega)
    rw [gapR]
    split
    · omega
    · split
      · omega
      · rename_i h
        have := (ge.2.2 h).1
        omega
  | i + 1, t, h0, h1 => by
    have gb := gB_le (l := l) (c := c) (t := t) (m := m) h1 (fun r hr => (hle r hr).2)
    have ge := gE_rg (c := c) (t := gB l c t) (m := m) (l := l) (fun r hr => (hle r hr).1) (by omega)
    rw [gapR]
    split
    · omega
    · rename_i h
      have := (ge.2.2 h).1
      exact gapR_rg hle i _ (by omega) (by omega)