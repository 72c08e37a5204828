/-! ===== the law, call by call, with text ===== -/
theorem iter_ok2 {l : Launch} {c k i : Nat} {xs : Nat → Int32} {G U : Nat → Nat → Int} (hT : textR2 l c) (hc : c ≤ 600) (hi : i + 7 ≤ k) (hk : k < 2 ^ 20) (hg : allI c G U) : ∃ G' U', IterOK2 l k xs i (zM G U) (zM G' U') ∧ allI (c + 1) G' U' := by
  obtain ⟨j, hj, he⟩ := law_sw (xs := xs) (k := k) (i := i) (by omega) hk
  have q1 := fun σ => law_q1 (xs := xs) (k := k) (i := i) (σ := σ) (by omega) hk
  have q2 := fun σ => law_q2 (xs := xs) (k := k) (i := i) (σ := σ) (by omega) hk
  have q3 := fun σ => law_q3 (xs := xs) (k := k) (i := i) (σ := σ) (by omega) hk
  have q4 := fun σ => law_q4 (xs := xs) (k := k) (i := i) (σ := σ) (by omega) hk
  have q5 := fun σ => law_q5 (xs := xs) (k := k) (i := i) (σ := σ) (by omega) hk
  have q6 := fun σ => law_q6 (xs := xs) (k := k) (i := i) (σ := σ) (by omega) hk
  by_cases h13 : j = 13
  · subst h13
    obtain ⟨r, t1, G', U', t2, t3⟩ := hT G U (xs (i + 1)).toInt (xs (i + 2)).toInt rg_t rg_t hg
    refine ⟨G', U', Or.inr ⟨r, _, _, he (zM G U), eAR law_l1 (eAI (q1 _) (eAI (q2 _) eAN)), t1, ?_⟩, t3⟩
    have a2 : (aCR (lR 2) (aCI (qI k xs (lR 0) (bI (fun x y => x + y) (lI 3) (kI 1))) (aCI (qI k xs (lR 0) (bI (fun x y => x + y) (lI 3) (kI 2))) aN))) (lawL i) (zM G U) = some ([pR 179, pI (Int32.ofInt (xs (i + 1)).toInt), pI (Int32.ofInt (xs (i + 2)).toInt)], zM G U) := eAR law_l2 (eAI (q1 _) (eAI (q2 _) eAN))
    have k2 : ckV 12 [pR 179, pI (Int32.ofInt (xs (i + 1)).toInt), pI (Int32.ofInt (xs (i + 2)).toInt)] = true := rfl
    show vC 12 F_M_text rI (aCR (lR 2) (aCI (qI k xs (lR 0) (bI (fun x y => x + y) (lI 3) (kI 1))) (aCI (qI k xs (lR 0) (bI (fun x y => x + y) (lI 3) (kI 2))) aN))) (lawL i) (zM G U) = some (r, zM G' U')
    simp only [vC, a2, Option.bind_some, k2, if_true, t2, rI, Option.map_some]
  · have hleft : ∃ G' U', B_law (fun _ _ => none) k xs (lawL i) (zM G U) = some (oN (lawL (i + 7)) (zM G' U')) ∧ allI (c + 1) G' U' := by
      have he := he (zM G U)
      rcases (by omega : j = 0 ∨ j = 1 ∨ j = 2 ∨ j = 3 ∨ j = 4 ∨ j = 5 ∨ j = 6 ∨ j = 7 ∨ j = 8 ∨ j = 9 ∨ j = 10 ∨ j = 11 ∨ j = 12 ∨ j = 14 ∨ j = 15 ∨ j = 16 ∨ j = 17 ∨ j = 18 ∨ j = 19 ∨ j = 20 ∨ j = 21 ∨ j = 22 ∨ j = 23 ∨ j = 24 ∨ j = 25 ∨ j = 26 ∨ j = 27 ∨ j = 28 ∨ j = 29 ∨ j = 30 ∨ j = 31 ∨ j = 32 ∨ j = 33 ∨ j = 34 ∨ j = 35 ∨ j = 36 ∨ j = 37 ∨ j = 38 ∨ 39 ≤ j) with rfl | rfl | rfl | rfl | rfl | rfl | rfl | rfl | rfl | rfl | rfl | rfl | rfl | rfl | rfl | rfl | rfl | rfl | rfl | rfl | rfl | rfl | rfl | rfl | rfl | rfl | rfl | rfl | rfl | rfl | rfl | rfl | rfl | rfl | rfl | rfl | rfl | rfl | h39
      · exact case_0 hc hi hk he hg
      · exact case_1 hc hi hk he hg
      · exact case_2 hc hi hk he hg
      · exact case_3 hc hi hk he hg
      · exact case_4 hc hi hk he hg
      · exact case_5 hc hi hk he hg
      · exact case_6 hc hi hk he hg
      · exact case_7 hc hi hk he hg
      · exact case_8 hc hi hk he hg
      · exact case_9 hc hi hk he hg
      · exact case_10 hc hi hk he hg
      · exact case_11 hc hi hk he hg
      · exact case_12 hc hi hk he hg
      · exact case_14 hc hi hk he hg
      · exact case_15 hc hi hk he hg
      · exact case_16 hc hi hk he hg
      · exact case_17 hc hi hk he hg
      · exact case_18 hc hi hk he hg
      · exact case_19 hc hi hk he hg
      · exact case_20 hc hi hk he hg
      · exact case_21 hc hi hk he hg
      · exact case_22 hc hi hk he hg
      · exact case_23 hc hi hk he hg
      · exact case_24 hc hi hk he hg
      · exact case_25 hc hi hk he hg
      · exact case_26 hc hi hk he hg
      · exact case_27 hc hi hk he hg
      · exact case_28 hc hi hk he hg
      · exact case_29 hc hi hk he hg
      · exact case_30 hc hi hk he hg
      · exact case_31 hc hi hk he hg
      · exact case_32 hc hi hk he hg
      · exact case_33 hc hi hk he hg
      · exact case_34 hc hi hk he hg
      · exact case_35 hc hi hk he hg
      · exact case_36 hc hi hk he hg
      · exact case_37 hc hi hk he hg
      · exact case_38 hc hi hk he hg
      · exact case_39 hj h39 he hg
    obtain ⟨G', U', h1, h2⟩ := hleft
    exact ⟨G', U', Or.inl h1, h2⟩
theorem law_pure_of2 {l : Launch} {L : Nat} {xs : Nat → Int32} (hT : ∀ c, c ≤ 600 → textR2 l c) (hL : L ≤ 3584) (h0 : allI 0 GF U0) : LawPure2 l L xs := by
  have step : ∀ (k : Nat) (s : {p : (Nat → Nat → Int) × (Nat → Nat → Int) // 7 * k ≤ L → allI k p.1 p.2}), ∃ s' : {p : (Nat → Nat → Int) × (Nat → Nat → Int) // 7 * (k + 1) ≤ L → allI (k + 1) p.1 p.2}, 7 * k + 7 ≤ L → IterOK2 l L xs (7 * k) (zM s.1.1 s.1.2) (zM s'.1.1 s'.1.2) := by
    intro k s
    by_cases h : 7 * k + 7 ≤ L
    · obtain ⟨G', U', h1, h2⟩ := iter_ok2 (xs := xs) (hT k (by omega)) (by omega) h (by omega) (s.2 (by omega))
      exact ⟨⟨(G', U'), fun _ => h2⟩, fun _ => h1⟩
    · exact ⟨⟨s.1, fun h2 => absurd h2 (by omega)⟩, fun h2 => absurd h2 h⟩
  let T : ∀ k, {p : (Nat → Nat → Int) × (Nat → Nat → Int) // 7 * k ≤ L → allI k p.1 p.2} := fun k => Nat.rec ⟨(GF, U0), fun _ => h0⟩ (fun k s => (step k s).choose) k
  exact ⟨fun k => zM (T k).1.1 (T k).1.2, ctor_eq, fun k hk => (step k (T k)).choose_spec hk⟩
