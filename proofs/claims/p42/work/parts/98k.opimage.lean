/-! ===== calls of both: the image ===== -/
section CG
variable {g g' : Nat → Int}
theorem cong_at (he : ∀ b, b < 3940 → g' b = g b) {k w : Nat} (hk : k < 80) (hw : w < 32) : mAt g' k w = mAt g k w := he _ (by omega)
theorem cong_row (hr : gRange g') (he : ∀ b, b < 3940 → g' b = g b) (hI : rowI g) : rowI g' := by
  have hrow := hI.1
  have hm : ∀ k w, k < (g 1).toNat → w < 32 → mAt g' k w = mAt g k w := fun k w hk hw => cong_at he (row_n hrow hk) hw
  refine row_near hI hr (by rw [he 7 (by omega)]; exact hrow.2.2.2.2.2.2.2.2.1) (fun b hb _ => he b (by omega)) (fun k w hk hw _ _ _ _ => hm k w hk (by omega)) fun k hk => ?_
  have hj := row_j hrow hk
  have h4 := (jo_4 hj).2.1
  rw [hm k 1 hk (by omega), hm k 10 hk (by omega), hm k 8 hk (by omega), hm k 9 hk (by omega)]
  obtain ⟨b0, b1, b2, b3, b4, b5, b6, b7, b8, b9, b10, b11, b12, b13, b14, b15⟩ := hj
  refine ⟨b1, b10, b8, b9, fun h => ⟨(b14 h).1, (b14 h).2, fun a ha => ?_⟩⟩
  rw [hm k (28 + a) hk (by omega)]
  exact (b15 a ha).2.2.2.2.2 h
theorem cong_rowP (he : ∀ b, b < 3940 → g' b = g b) (hrow : rowOk g) (hP : rowP g) : rowP g' := by
  obtain ⟨p2, p3, p4⟩ := hP
  have e1 := he 1 (by omega)
  refine ⟨fun k hk => ?_, ?_, fun b hb hb2 => by rw [he b hb2]; exact p4 b hb hb2⟩
  · rw [cong_at he hk (by omega)]
    exact p2 k hk
  · rw [e1]
    refine Int.le_trans (sumTo_le fun x hx => ?_) p3
    (try dsimp only)
    rw [cong_at he (row_n hrow hx) (by omega)]
    exact Int.le_refl _
theorem cong_sc {G U : Nat → Nat → Int} {e s : Nat} {u u' : Nat → Int} (he : ∀ b, b < 3940 → g' b = g b) (hu : ∀ a, a < 16 → u' a = u a) (hrow : rowOk g) (hS : scR false 0 e G U s g u) : scR false 0 e G U s g' u' := by
  obtain ⟨⟨z0, hSB, hSJ, hSA, hSO, hSS, hST, hSe, hSK⟩, hSQ⟩ := hS
  obtain ⟨kF, kL, kE, kC⟩ := hSK rfl
  have e1 := he 1 (by omega)
  have a4 : ∀ x, x < (g 1).toNat → mArms g x ≤ 4 := fun x hx => (jo_4 (row_j hrow hx)).2.1
  have hm : ∀ k w, k < (g 1).toNat → w < 32 → mAt g' k w = mAt g k w := fun k w hk hw => cong_at he (row_n hrow hk) hw
  have hot : ∀ x k a, hoC g' x k a ↔ hoC g x k a := fun x k a => by
    by_cases hk : k < (g 1).toNat
    · exact hoC_congr (he 0 (by omega)) e1 (a4 k hk) fun w hw => hm k w hk (by omega)
    · constructor
      · rintro ⟨h, _⟩; rw [e1] at h; exact absurd h hk
      · rintro ⟨h, _⟩; exact absurd h hk
  refine ⟨⟨z0, relB_g hSB (he 0 (by omega)) (fun b _ _ _ _ _ => he b (by omega)) (fun a ha => hu a (by omega)), relJ_g hSJ e1 a4 (fun j w hj hw _ _ => hm j w hj (by omega)), relA_g hSA e1 (fun x hx => ⟨a4 x hx, hm x 4 hx (by omega)⟩) (fun j w hj _ hw => hm j w hj (by omega)), relO_g hSO hot, relS_g hSS (he 5 (by omega)) (fun b _ _ => he b (by omega)), relT_g hST (he 6 (by omega)) hrow.2.2.2.2.2.2.2.1.2 (fun b _ _ => he b (by omega)), hSe, fun _ => ⟨relF_g kF e1 (fun x hx => hm x 8 hx (by omega)), relL_g kL (fun k _ _ => hu k (by omega)), relE_g kE (he 7 (by omega)) (fun b _ _ => he b (by omega)), relC_g kC (fun b _ hb => he b hb)⟩⟩, relQ_g hSQ e1 (fun x hx => ⟨a4 x hx, hm x 4 hx (by omega)⟩) (fun j w hj _ => hm j w hj (by omega))⟩
end CG
theorem layR_o {G : Nat → Nat → Int} {k k2 n a : Nat} (h : a ≠ k2) : layG G k k2 n a = G a := by
  funext b
  unfold layG
  rw [if_neg (fun hh => h hh.1)]
theorem layR_in {G : Nat → Nat → Int} {k k2 n b : Nat} (hb : b < n) : layG G k k2 n k2 b = G k b := by
  unfold layG
  rw [if_pos ⟨rfl, hb⟩]
theorem layR_out {G : Nat → Nat → Int} {k k2 n b : Nat} (hb : n ≤ b) : layG G k k2 n k2 b = G k2 b := by
  unfold layG
  rw [if_neg (by omega)]