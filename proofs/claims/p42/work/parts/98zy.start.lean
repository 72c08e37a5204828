/-! ===== what holds at first ===== -/
def gS (b : Nat) : Int := if b = 2 then 1 else if b = 3 then 80 else if 8 ≤ b ∧ b < 16 then 10 else if 16 ≤ b ∧ b < 24 then 16 else if 24 ≤ b ∧ b < 96 ∧ (b - 24) % 6 = 0 then -1 else 0
theorem gS_0 {b : Nat} (h : 96 ≤ b) : gS b = 0 := by
  unfold gS
  rw [if_neg (by omega), if_neg (by omega), if_neg (by omega), if_neg (by omega), if_neg (by omega)]
theorem GF_lo {a b : Nat} (h : a ≠ 182) (h2 : a ≠ 180) : GF a b = G0 a b := by
  unfold GF layG
  rw [if_neg (fun q => h q.1)]
  unfold wB
  rw [if_neg (fun q => h2 q.1)]
  unfold wA
  rw [if_neg (fun q => h2 q.1), if_neg (fun q => h2 q.1)]
  unfold G1 upZ
  rw [if_neg (fun q => h2 q.1), if_neg (fun q => h2 q.1)]
theorem wB_I (b : Nat) : wB 12 180 b = gS b := by
  have h0 : G0 180 b = 0 := rfl
  unfold wB wA G1 upZ gS
  simp only [true_and, h0]
  by_cases h1 : 24 ≤ b ∧ b < 24 + 6 * 12 ∧ (b - 24) % 6 = 0
  · rw [if_pos h1, if_neg (by omega), if_neg (by omega), if_neg (by omega), if_neg (by omega), if_pos (by omega)]
  · rw [if_neg h1]
    by_cases h2 : 8 ≤ b ∧ b < 8 + 8
    · rw [if_pos h2, if_neg (by omega), if_neg (by omega), if_pos (by omega)]
    · rw [if_neg h2]
      by_cases h3 : 16 ≤ b ∧ b < 16 + 8
      · rw [if_pos h3, if_neg (by omega), if_neg (by omega), if_neg (by omega), if_pos (by omega)]
      · rw [if_neg h3]
        by_cases h4 : b = 3
        · rw [if_pos h4, if_neg (by omega), if_pos h4]
        · rw [if_neg h4]
          by_cases h5 : b = 2
          · rw [if_pos h5, if_pos h5]
          · rw [if_neg h5, if_neg h5, if_neg h4, if_neg (by omega), if_neg (by omega), if_neg (by omega)]
theorem GF_180 : GF 180 = gS := by
  funext b
  unfold GF layG
  rw [if_neg (by omega)]
  exact wB_I b
theorem GF_182 : GF 182 = gS := by
  funext b
  unfold GF layG
  by_cases h : b < 3940
  · rw [if_pos ⟨rfl, h⟩]
    exact wB_I b
  · rw [if_neg (fun q => h q.2), gS_0 (by omega)]
    unfold wB
    rw [if_neg (by omega)]
    unfold wA
    rw [if_neg (by omega), if_neg (by omega)]
    unfold G1 upZ
    rw [if_neg (by omega), if_neg (by omega)]
    rfl
theorem gS_row : rowI gS := by
  have e1 : (gS 1).toNat = 0 := rfl
  have n0 : ∀ j, ¬ j < (gS 1).toNat := fun j h => absurd h (Nat.not_lt_zero j)
  refine ⟨⟨fun b => ?_, by decide, by decide, by decide, by decide, by decide, by decide, by decide, by decide, by decide, by decide, fun j hj => absurd hj (n0 j), ?_, fun j hj => absurd hj (n0 j)⟩, fun j a hj => absurd hj (n0 j), fun c j a j' a' h => absurd h.1 (n0 j), fun j hj => absurd hj (n0 j), rfl⟩
  · show -2147483648 ≤ gS b ∧ gS b < 2147483648
    unfold gS
    repeat' split
    all_goals omega
  · unfold spOk
    decide
theorem gS_rowP : rowP gS := by
  refine ⟨fun k hk => ?_, ?_, fun b hb _ => by rw [gS_0 (by omega)]; omega⟩
  · have : mAt gS k 4 = 0 := gS_0 (by omega)
    omega
  · show promTo gS 0 ≤ 4
    unfold promTo
    simp [sumTo]
theorem gS_ho {c j a : Nat} : ¬ hoC gS c j a := fun h => absurd h.1 (Nat.not_lt_zero j)
theorem gS_sp : spansF gS = 0 := by
  unfold spansF
  exact sumTo_zero fun s hs => by
    have : mSpan gS s 0 = -1 := by
      revert s
      decide
    rw [this]
    rfl
theorem scR_0 {s : Nat} {U : Nat → Nat → Int} {u : Nat → Int} (h0 : GF s 0 = 0) (h1 : GF s 1 = 0) (h2 : ∀ a, a < 8 → GF (s + 1) a = 10) (h3 : ∀ a, a < 8 → GF (s + 2) a = 16) (h4 : ∀ a, a < 8 → U (s + 3) a = 0) (h4' : ∀ a, a < 16 → u a = 0) (h5 : ∀ k, k < 3 → GF (s + 4) k = gS (2 + k)) (h6 : GF (s + 5) 0 = 0) (h7 : ∀ c, c < 16 → GF (s + 25) c = -1) (h8 : GF (s + 26) 0 = 0) (h9 : GF (s + 26) 1 = 0) (h10 : GF (s + 32) 0 = 0) (h11 : evE (GF (s + 32)) 0) (h12 : ∀ k, k < 8 → U (s + 33) k = 0) (h13 : ∀ i, GF (s + 38) i = 0) : scR false 0 0 GF U s gS u := by
  have n0 : ∀ j, ¬ j < (gS 1).toNat := fun j h => absurd h (Nat.not_lt_zero j)
  refine ⟨⟨h0, ⟨h1, fun a ha => ?_, fun a ha => ?_, fun a ha => by rw [h4 a ha, h4' a (by omega)], h5⟩, ⟨h6, fun j hj => absurd hj (n0 j)⟩, fun j a hj => absurd hj (n0 j), fun c hc => ⟨fun j a h => absurd h gS_ho, fun _ => h7 c hc⟩, ⟨fun _ => 0, by rw [gS_sp]; exact h8, h9, fun i hi => ?_, fun k hk h => ?_, fun i k _ hk => ?_⟩, ⟨by decide, h10, fun i hi => ?_⟩, h11, fun _ => ⟨fun j hj => absurd hj (n0 j), fun k hk => by rw [h12 k hk, h4' _ (by omega)], ⟨rfl, fun i hi => absurd hi (by simp)⟩, fun i hi => by rw [h13 i, gS_0 (by omega)]⟩⟩, fun j hj => absurd hj (n0 j)⟩
  · rw [h2 a ha]
    revert a
    decide
  · rw [h3 a ha]
    revert a
    decide
  · rw [gS_sp] at hi; omega
  · have : mSpan gS k 0 = -1 := by
      revert k
      decide
    omega
  · rw [gS_sp] at hk; omega
  · have : gS 6 = 0 := rfl
    rw [this] at hi
    omega
theorem GF_at {a b : Nat} {v : Int} (h : a ≠ 182) (h2 : a ≠ 180) (h3 : G0 a b = v) : GF a b = v := (GF_lo h h2).trans h3
set_option maxRecDepth 20000 in
theorem all_0 : allI 0 GF U0 := by
  have u183 : ∀ a, U0 183 a = 0 := fun _ => rfl
  have u185 : ∀ a, U0 185 a = 0 := fun _ => rfl
  refine ⟨⟨0, ⟨by omega, by rw [GF_180]; decide⟩, ?_, by rw [GF_180]; exact gS_row, by rw [GF_180]; exact gS_rowP, by rw [GF_180]; decide, fun a _ => by rw [u183, GF_180]; decide⟩, ⟨0, ⟨by omega, by rw [GF_182]; decide⟩, ?_, by rw [GF_182]; exact gS_row, by rw [GF_182]; exact gS_rowP, by rw [GF_182]; decide, fun a _ => by rw [u185, GF_182]; decide⟩, ⟨fun k => ?_, ?_, ?_, ?_, ?_, ?_⟩, ⟨0, by omega, ?_, ?_, ?_, ?_⟩, fun k => ?_, ?_, 0, by omega, ?_⟩
  · rw [GF_180]
    exact scR_0 (GF_at (by decide) (by decide) rfl) (GF_at (by decide) (by decide) rfl) (fun a _ => GF_at (by decide) (by decide) (by revert a; decide +kernel)) (fun a _ => GF_at (by decide) (by decide) (by revert a; decide +kernel)) (fun _ _ => rfl) (fun a _ => u183 a) (fun a _ => GF_at (by decide) (by decide) (by revert a; decide +kernel)) (GF_at (by decide) (by decide) rfl) (fun a _ => GF_at (by decide) (by decide) (by revert a; decide +kernel)) (GF_at (by decide) (by decide) rfl) (GF_at (by decide) (by decide) rfl) (GF_at (by decide) (by decide) rfl) ⟨GF_at (by decide) (by decide) rfl, GF_at (by decide) (by decide) rfl⟩ (fun _ _ => rfl) (fun _ => GF_at (by decide) (by decide) rfl)
  · rw [GF_182]
    exact scR_0 (GF_at (by decide) (by decide) rfl) (GF_at (by decide) (by decide) rfl) (fun a _ => GF_at (by decide) (by decide) (by revert a; decide +kernel)) (fun a _ => GF_at (by decide) (by decide) (by revert a; decide +kernel)) (fun _ _ => rfl) (fun a _ => u185 a) (fun a _ => GF_at (by decide) (by decide) (by revert a; decide +kernel)) (GF_at (by decide) (by decide) rfl) (fun a _ => GF_at (by decide) (by decide) (by revert a; decide +kernel)) (GF_at (by decide) (by decide) rfl) (GF_at (by decide) (by decide) rfl) (GF_at (by decide) (by decide) rfl) ⟨GF_at (by decide) (by decide) rfl, GF_at (by decide) (by decide) rfl⟩ (fun _ _ => rfl) (fun _ => GF_at (by decide) (by decide) rfl)
  · rw [GF_lo (by decide) (by decide)]
    exact ⟨Int32.le_toInt _, Int32.toInt_lt _⟩
  · exact GF_at (by decide) (by decide) rfl
  · exact GF_at (by decide) (by decide) rfl
  · exact GF_at (by decide) (by decide) rfl
  · exact GF_at (by decide) (by decide) rfl
  · exact GF_at (by decide) (by decide) rfl
  · exact GF_at (by decide) (by decide) rfl
  · exact GF_at (by decide) (by decide) rfl
  · funext b
    rw [GF_lo (by decide) (by decide), GF_lo (by decide) (by decide)]
    rfl
  · intro i hi
    exact absurd hi (Nat.not_lt_zero i)
  · rw [GF_lo (by decide) (by decide)]
    exact ⟨Int32.le_toInt _, Int32.toInt_lt _⟩
  · exact GF_at (by decide) (by decide) rfl
  · exact ⟨GF_at (by decide) (by decide) rfl, GF_at (by decide) (by decide) rfl⟩
