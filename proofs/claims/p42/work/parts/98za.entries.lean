/-! ===== those that start in a thought ===== -/
/-- from an entry on: each is a job, and it started no sooner -/
def stE (h : Nat) (t0 : Int) (g : Nat → Int) : Prop := (h : Int) ≤ g 6 ∧ ∀ i : Nat, h ≤ i → (i : Int) < g 6 → ∃ j : Nat, g (2656 + i) = (j : Int) ∧ j < (g 1).toNat ∧ t0 ≤ mAt g j 6
theorem stE_eq {h : Nat} {t0 : Int} {g g' : Nat → Int} (hE : stE h t0 g) (h6 : g' 6 = g 6) (h1 : g' 1 = g 1) (h80 : g 6 ≤ 80) (hs : ∀ b, 2656 ≤ b → b < 2736 → g' b = g b) (he : ∀ j, j < (g 1).toNat → mAt g' j 6 = mAt g j 6) : stE h t0 g' := by
  obtain ⟨a, b⟩ := hE
  refine ⟨by rw [h6]; exact a, fun i hi1 hi2 => ?_⟩
  rw [h6] at hi2
  obtain ⟨j, j1, j2, j3⟩ := b i hi1 hi2
  exact ⟨j, by rw [hs _ (by omega) (by omega)]; exact j1, by rw [h1]; exact j2, by rw [he j j2]; exact j3⟩
theorem stE_step {g0 : Nat → Int} {U : Nat → Nat → Int} {L : Nat → Nat} {n i h : Nat} {t0 : Int} {bf : Nat → Int} {s : pSt4} (hL : lineOk g0 L n) (hk : passOk g0 U L n i s) (hi : i < n) (h0 : 0 ≤ t0) (hnow : t0 ≤ g0 0) (hE : stE h t0 s.1) : stE h t0 (passStep bf s (L i)).1 := by
  have hI := hk.1
  have hrow := hI.1
  have e1 : s.1 1 = g0 1 := hk.2.1 1 (by omega) (by omega) (by omega)
  have e0 : s.1 0 = g0 0 := hk.2.1 0 (by omega) (by omega) (by omega)
  have hj : L i < (s.1 1).toNat := by rw [e1]; exact hL.1 i hi
  have hj8 := row_n hrow hj
  have hjo := row_j hrow hj
  have h4 := (jo_4 hjo).2.1
  have h7 := hrow.2.2.2.2.2.2.2.2.1
  have h5 := (hk.2.2.2.2.2.1 i (Nat.le_refl _) hi).1
  have hj6 := hjo.2.2.2.2.2.2.2.2.2.2.2.2.1 h5
  have h6 : 0 ≤ s.1 6 ∧ s.1 6 < 80 := ⟨hrow.2.2.2.2.2.2.2.1.1, row_6 hI hj (by omega)⟩
  cases c : overF s.1 (L i) with
  | true => rw [ps_over c]; exact hE
  | false =>
    cases hg : gfitJ s.1 (L i) (s.1 0) with
    | some f =>
      rw [ps_star c hg]
      (try dsimp only)
      obtain ⟨a, b⟩ := hE
      have s1 : starF s.1 (L i) (mArms s.1 (L i)) f.2 1 = s.1 1 := starF_lo (by omega) (by omega) (by omega)
      refine ⟨by rw [starF_6]; omega, fun k hk1 hk2 => ?_⟩
      rw [starF_6] at hk2
      rw [starF_st hj8 h4 (by omega) h6, s1]
      by_cases ck : k = (s.1 6).toNat
      · rw [if_pos ck]
        exact ⟨L i, rfl, hj, by rw [star_6 hj8 h4 h6, e0]; exact hnow⟩
      · rw [if_neg ck]
        obtain ⟨j, j1, j2, j3⟩ := b k hk1 (by omega)
        refine ⟨j, j1, j2, ?_⟩
        have hne : j ≠ L i := fun e => by rw [e] at j3; omega
        rw [star_at hj8 (row_n hrow j2) (by omega) h4 h6 (Or.inl hne)]
        exact j3
    | none =>
      by_cases c2 : s.2.2.2.1 < s.1 2
      · cases hff : firstF (gfitJ s.1 (L i)) (s.1 0 + 1) 20000 with
        | none => rw [ps_none c hg fun _ => hff]; exact hE
        | some t =>
          obtain ⟨ht, f, hf, hf2⟩ := first_is hff
          rw [ps_prom c hg c2 hff hf]
          (try dsimp only)
          exact stE_eq hE (promF_lo (by omega) (by omega)) (promF_lo (by omega) (by omega)) (by omega) (fun b h1 h2 => promF_hi hj8 h4 (Or.inl ⟨h1, h2⟩) h7) (fun j hj => prom_o (row_n hrow hj) (by omega) h4 (Or.inr (by omega)))
      · rw [ps_none c hg fun h => absurd h c2]; exact hE
theorem stE_pass {g old : Nat → Int} {U : Nat → Nat → Int} {h : Nat} {t0 : Int} (hI : rowI g) (h0 : 0 ≤ t0) (hnow : t0 ≤ g 0) (hE : stE h t0 g) : stE h t0 (passAll g U old).1 := by
  have hall := pass_all (U := U) (old := old) hI
  have hl := line_ok (G := rowG (p0G g)) (U := p0U U) (g := p0G g) rfl
  rw [p0_lo (by omega)] at hl
  have hn := hI.1.2.2.1
  have h6 := hI.1.2.2.2.2.2.2.2.1
  have hE0 : stE h t0 (p0G g) := stE_eq hE (p0_lo (by omega)) (p0_lo (by omega)) h6.2 (fun b h1 h2 => clrP_hi (by omega) _ (by omega)) (fun j hj => p0_at (by omega) (by omega))
  have hgo : ∀ i, i ≤ (mLine (rowG (p0G g)) (p0U U) (g 1).toNat).1 → stE h t0 (passRun (befF g old (g 1).toNat) (mLine (rowG (p0G g)) (p0U U) (g 1).toNat).2 (p0G g, p0U U, 0, 0, -1) i).1 := by
    intro i
    induction i with
    | zero => exact fun _ => hE0
    | succ i ih =>
      intro hi
      have ih := ih (by omega)
      rw [passRun]
      split
      · exact ih
      · exact stE_step hl.1 (hall i (by omega)) (by omega) h0 (by rw [p0_lo (by omega)]; exact hnow) ih
  exact hgo _ (Nat.le_refl _)
theorem stE_tick {s : oSt} {h : Nat} {t0 : Int} (hT : tkI s) (h0 : 0 ≤ t0) (hnow : t0 ≤ s.1 0) (hE : stE h t0 s.1) : stE h t0 (tkF s).1 := by
  obtain ⟨i1, -, i3, -⟩ := passAll_ok (U := s.2) (old := fun _ => 0) hT.1
  have hE1 := stE_pass (U := s.2) (old := fun _ => 0) hT.1 h0 hnow hE
  unfold tkF
  (try dsimp only)
  generalize passAll s.1 s.2 (fun _ => 0) = P at *
  have hle := Nat.le_refl (P.1 1).toNat
  have h6 := i1.1.2.2.2.2.2.2.2.1
  refine stE_eq hE1 ?_ ?_ h6.2 (fun b h1 h2 => ?_) (fun j hj => (tail_56 i1.1 hj).1)
  · rw [tail_is]; exact mid_lo i1.1 hle (by omega) (by omega) (by omega)
  · rw [tail_is]; exact mid_lo i1.1 hle (by omega) (by omega) (by omega)
  · rw [tail_is, mid_hi i1.1 hle (Or.inl ⟨h1, h2⟩)]
    unfold nowG
    rw [put_o (by omega), chaG_lo (by omega)]
theorem stE_ticks {s : oSt} {h : Nat} {t0 : Int} (hT : tkI s) (hnow : s.1 0 < 109000) (h0 : 0 ≤ t0) (ht : t0 ≤ s.1 0) (hE : stE h t0 s.1) : ∀ n, n ≤ 1000 → stE h t0 (tkN s n).1
  | 0, _ => hE
  | n + 1, hn => by
    obtain ⟨a, b, c⟩ := tkN_I hT hnow n (by omega)
    exact stE_tick a h0 (by omega) (stE_ticks hT hnow h0 ht hE n (by omega))
theorem stE_0 {g : Nat → Int} {t0 : Int} {h : Nat} (h6 : g 6 = (h : Int)) : stE h t0 g := ⟨by omega, fun i h1 h2 => by omega⟩
