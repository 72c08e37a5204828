/-! ===== the next change, the first fit ===== -/
/-- a loop under an invariant -/
theorem sWh_inv {c : eB} {b u : sC} (Inv : Nat → pLo × pM → Prop) (n : Nat) (hn : n < 1000000) (s0 : pLo × pM) (h0 : Inv 0 s0) (hs : ∀ i, i < n → ∀ s, Inv i s → c s.1 s.2 = some (true, s.2) ∧ ∃ s', sStep b u s.1 s.2 = some s' ∧ Inv (i + 1) s') (he : ∀ s, Inv n s → c s.1 s.2 = some (false, s.2)) : ∃ s, sWh c b u s0.1 s0.2 = some (.inl s) ∧ Inv n s := by
  have key : ∀ (m k N : Nat) (s : pLo × pM), k + m = n → m < N → Inv k s → ∃ s', sIt N c b u s.1 s.2 = some (.inl s') ∧ Inv n s' := by
    intro m
    induction m with
    | zero =>
      intro k N s hk hN hi
      obtain ⟨N, rfl⟩ : ∃ N', N = N' + 1 := ⟨N - 1, by omega⟩
      have hkn : k = n := by omega
      subst hkn
      exact ⟨s, by simp only [sIt, he s hi, Option.bind_some, Bool.false_eq_true, if_false], hi⟩
    | succ m ih =>
      intro k N s hk hN hi
      obtain ⟨N, rfl⟩ : ∃ N', N = N' + 1 := ⟨N - 1, by omega⟩
      obtain ⟨h1, s', h2, h3⟩ := hs k (by omega) s hi
      obtain ⟨s2, h4, h5⟩ := ih (k + 1) N s' (by omega) (by omega) h3
      exact ⟨s2, by rw [sIt_go h1 h2, h4], h5⟩
  exact key n 0 1000000 s0 (by omega) hn h0
/-- the soonest of those behind t -/
def soonInv (t best : Int) (P : Int → Prop) : Prop := (best = -1 ∨ t < best) ∧ best < 2147483648 ∧ ∀ v, P v → t < v → 0 ≤ best ∧ best ≤ v
theorem soonInv_0 {t : Int} : soonInv t (-1) (fun _ => False) := ⟨Or.inl rfl, by omega, fun v h => h.elim⟩
theorem soonInv_s {t best v : Int} {P : Int → Prop} (h : soonInv t best P) (ht : 0 ≤ t) (hv : v < 2147483648) : soonInv t (soonerF v t best) (fun w => P w ∨ w = v) := by
  obtain ⟨h1, h2, h3⟩ := h
  unfold soonerF
  split
  · rename_i hc
    simp only [Bool.and_eq_true, Bool.or_eq_true, decide_eq_true_eq] at hc
    refine ⟨Or.inr hc.1, hv, fun w hw hlt => ?_⟩
    rcases hw with hw | rfl
    · have := h3 w hw hlt
      omega
    · omega
  · rename_i hc
    simp only [Bool.and_eq_true, Bool.or_eq_true, decide_eq_true_eq] at hc
    refine ⟨h1, h2, fun w hw hlt => ?_⟩
    rcases hw with hw | rfl
    · exact h3 w hw hlt
    · omega
theorem soonInv_m {t best : Int} {P Q : Int → Prop} (h : soonInv t best P) (hq : ∀ v, Q v → P v) : soonInv t best Q := ⟨h.1, h.2.1, fun v hv => h.2.2 v (hq v hv)⟩
