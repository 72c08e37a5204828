/-! ===== a tick of the law, at the machine ===== -/
theorem eNeS {L : pLo} {σ τ υ : pM} {x : Int} {a b : eI} (ha : a L σ = some (Int32.ofInt x, τ)) (hb : b L τ = some (Int32.ofInt x, υ)) : mI .ne a b L σ = some (false, υ) := by
  simp only [mI, ha, hb, Option.bind_some, pCb]
  simp
def fl (G G' : Nat → Nat → Int) (i : Nat) : Prop := (∀ x, x ≠ 199 → G' x = G x) ∧ ∀ b, b < i → G' 199 b = -2
theorem fl_s {G G' : Nat → Nat → Int} {i : Nat} (h : fl G G' i) : fl G (upZ G' 199 i (-2)) (i + 1) := by
  refine ⟨fun x hx => ?_, fun b hb => ?_⟩
  · rw [← h.1 x hx]
    funext y
    exact if_neg fun q => hx q.1
  · by_cases e : b = i
    · subst e
      exact if_pos ⟨rfl, rfl⟩
    · have e1 : upZ G' 199 i (-2) 199 b = G' 199 b := if_neg fun z => e z.2
      rw [e1]
      exact h.2 b (by omega)
theorem up_fill {G U : Nat → Nat → Int} {i : Nat} {x v : Int32} (hx : x.toNatClampNeg = i) (hv : v = Int32.ofInt (-2)) : up1 (zM G U) 199 x.toNatClampNeg v = zM (upZ G 199 i (-2)) U := by
  rw [hx, hv, up1_zM]
section TK
variable {p : Program} {l : Launch} {e : Env} {R : Room} {s : State} {m : MethodId} {args : Array Value} {below : List Frame} {meth : Method} {c : Code} {Q : State → Prop} {E0 : cEnv} {b k : Nat} {xs : Nat → Int32} {RT : Option pV → pM → Prop}
/-- a place of the law -/
abbrev PG (p : Program) (l : Launch) (e : Env) (R : Room) (s : State) (m : MethodId) (args : Array Value) (below : List Frame) (meth : Method) (c : Code) (Q : State → Prop) (E0 : cEnv) (b : Nat) (X : Nat → Nat) (cells slots pc : Nat) (st : pSt) : Prop := pG p l e R s m args below meth c Q (E2 E0 b X) s.heap 23 cells slots pc st
def lwR (p : Program) (l : Launch) (e : Env) (R : Room) (s : State) (m : MethodId) (args : Array Value) (below : List Frame) (meth : Method) (c : Code) (Q : State → Prop) (E0 : cEnv) (b k : Nat) (xs : Nat → Int32) (RT : Option pV → pM → Prop) : Prop := (∀ (X : Nat → Nat) (cells slots : Nat), cells ≤ R.cells → slots ≤ R.slots → pCx p R s m args meth c (E2 E0 b X) s.heap RL cL_law 23 9 cells slots (some (5000, k, xs))) ∧ (∀ (X : Nat → Nat) (cells slots : Nat), cells ≤ R.cells → slots ≤ R.slots → pRules RL cL_law (some (5000, k, xs)) (pRun l (E2 E0 b X) 9) RT (fun pc st => PG p l e R s m args below meth c Q E0 b X cells slots pc st)) ∧ cOkE E0 ∧ E0.1 ≤ s.heap.size

theorem fill16 (hw : lwR p l e R s m args below meth c Q E0 b k xs RT) {X : Nat → Nat} {cells slots : Nat} (hc : cells ≤ R.cells) (hs : slots ≤ R.slots) {L : pLo} {G0 U : Nat → Nat → Int} (kk : ∀ Gb, (∀ x, x ≠ 199 → Gb x = G0 x) → (∀ z, z < 16 → Gb 199 z = -2) → PG p l e R s m args below meth c Q E0 b X cells slots 728 (L, [pR 199], zM Gb U)) : PG p l e R s m args below meth c Q E0 b X cells slots 638 (L, [pR 199], zM G0 U) := by
  have hr := hw.2.1 X cells slots hc hs
  have h0 : fl G0 G0 0 := ⟨fun _ _ => rfl, fun z hz => absurd hz (Nat.not_lt_zero z)⟩
  refine hr.1 _ _ _ _ _ _ dL_law_638 ⟨rfl, _, _, rfl, rfl, ?_⟩
  refine hr.1 _ _ _ _ _ _ dL_law_639 ⟨rfl, ?_⟩
  refine hr.1 _ _ _ _ _ _ dL_law_640 ⟨rfl, ?_⟩
  refine hr.1 _ _ _ _ _ _ dL_law_642 ⟨rfl, 199, _, _, _, rfl, by rw [ln199]; decide, ?_⟩
  rw [up_fill (i := 0) (by decide) (by decide)]
  have h1 := fl_s h0
  generalize upZ G0 199 0 (-2) = G1 at h1 ⊢
  refine hr.1 _ _ _ _ _ _ dL_law_643 ⟨rfl, _, _, rfl, rfl, ?_⟩
  refine hr.1 _ _ _ _ _ _ dL_law_644 ⟨rfl, ?_⟩
  refine hr.1 _ _ _ _ _ _ dL_law_645 ⟨rfl, ?_⟩
  refine hr.1 _ _ _ _ _ _ dL_law_647 ⟨rfl, 199, _, _, _, rfl, by rw [ln199]; decide, ?_⟩
  rw [up_fill (i := 1) (by decide) (by decide)]
  have h2 := fl_s h1
  generalize upZ G1 199 1 (-2) = G2 at h2 ⊢
  refine hr.1 _ _ _ _ _ _ dL_law_648 ⟨rfl, _, _, rfl, rfl, ?_⟩
  refine hr.1 _ _ _ _ _ _ dL_law_649 ⟨rfl, ?_⟩
  refine hr.1 _ _ _ _ _ _ dL_law_650 ⟨rfl, ?_⟩
  refine hr.1 _ _ _ _ _ _ dL_law_652 ⟨rfl, 199, _, _, _, rfl, by rw [ln199]; decide, ?_⟩
  rw [up_fill (i := 2) (by decide) (by decide)]
  have h3 := fl_s h2
  generalize upZ G2 199 2 (-2) = G3 at h3 ⊢
  refine hr.1 _ _ _ _ _ _ dL_law_653 ⟨rfl, _, _, rfl, rfl, ?_⟩
  refine hr.1 _ _ _ _ _ _ dL_law_654 ⟨rfl, ?_⟩
  refine hr.1 _ _ _ _ _ _ dL_law_655 ⟨rfl, ?_⟩
  refine hr.1 _ _ _ _ _ _ dL_law_657 ⟨rfl, 199, _, _, _, rfl, by rw [ln199]; decide, ?_⟩
  rw [up_fill (i := 3) (by decide) (by decide)]
  have h4 := fl_s h3
  generalize upZ G3 199 3 (-2) = G4 at h4 ⊢
  refine hr.1 _ _ _ _ _ _ dL_law_658 ⟨rfl, _, _, rfl, rfl, ?_⟩
  refine hr.1 _ _ _ _ _ _ dL_law_659 ⟨rfl, ?_⟩
  refine hr.1 _ _ _ _ _ _ dL_law_660 ⟨rfl, ?_⟩
  refine hr.1 _ _ _ _ _ _ dL_law_662 ⟨rfl, 199, _, _, _, rfl, by rw [ln199]; decide, ?_⟩
  rw [up_fill (i := 4) (by decide) (by decide)]
  have h5 := fl_s h4
  generalize upZ G4 199 4 (-2) = G5 at h5 ⊢
  refine hr.1 _ _ _ _ _ _ dL_law_663 ⟨rfl, _, _, rfl, rfl, ?_⟩
  refine hr.1 _ _ _ _ _ _ dL_law_664 ⟨rfl, ?_⟩
  refine hr.1 _ _ _ _ _ _ dL_law_665 ⟨rfl, ?_⟩
  refine hr.1 _ _ _ _ _ _ dL_law_667 ⟨rfl, 199, _, _, _, rfl, by rw [ln199]; decide, ?_⟩
  rw [up_fill (i := 5) (by decide) (by decide)]
  have h6 := fl_s h5
  generalize upZ G5 199 5 (-2) = G6 at h6 ⊢
  refine hr.1 _ _ _ _ _ _ dL_law_668 ⟨rfl, _, _, rfl, rfl, ?_⟩
  refine hr.1 _ _ _ _ _ _ dL_law_669 ⟨rfl, ?_⟩
  refine hr.1 _ _ _ _ _ _ dL_law_671 ⟨rfl, ?_⟩
  refine hr.1 _ _ _ _ _ _ dL_law_673 ⟨rfl, 199, _, _, _, rfl, by rw [ln199]; decide, ?_⟩
  rw [up_fill (i := 6) (by decide) (by decide)]
  have h7 := fl_s h6
  generalize upZ G6 199 6 (-2) = G7 at h7 ⊢
  refine hr.1 _ _ _ _ _ _ dL_law_674 ⟨rfl, _, _, rfl, rfl, ?_⟩
  refine hr.1 _ _ _ _ _ _ dL_law_675 ⟨rfl, ?_⟩
  refine hr.1 _ _ _ _ _ _ dL_law_677 ⟨rfl, ?_⟩
  refine hr.1 _ _ _ _ _ _ dL_law_679 ⟨rfl, 199, _, _, _, rfl, by rw [ln199]; decide, ?_⟩
  rw [up_fill (i := 7) (by decide) (by decide)]
  have h8 := fl_s h7
  generalize upZ G7 199 7 (-2) = G8 at h8 ⊢
  refine hr.1 _ _ _ _ _ _ dL_law_680 ⟨rfl, _, _, rfl, rfl, ?_⟩
  refine hr.1 _ _ _ _ _ _ dL_law_681 ⟨rfl, ?_⟩
  refine hr.1 _ _ _ _ _ _ dL_law_683 ⟨rfl, ?_⟩
  refine hr.1 _ _ _ _ _ _ dL_law_685 ⟨rfl, 199, _, _, _, rfl, by rw [ln199]; decide, ?_⟩
  rw [up_fill (i := 8) (by decide) (by decide)]
  have h9 := fl_s h8
  generalize upZ G8 199 8 (-2) = G9 at h9 ⊢
  refine hr.1 _ _ _ _ _ _ dL_law_686 ⟨rfl, _, _, rfl, rfl, ?_⟩
  refine hr.1 _ _ _ _ _ _ dL_law_687 ⟨rfl, ?_⟩
  refine hr.1 _ _ _ _ _ _ dL_law_689 ⟨rfl, ?_⟩
  refine hr.1 _ _ _ _ _ _ dL_law_691 ⟨rfl, 199, _, _, _, rfl, by rw [ln199]; decide, ?_⟩
  rw [up_fill (i := 9) (by decide) (by decide)]
  have h10 := fl_s h9
  generalize upZ G9 199 9 (-2) = G10 at h10 ⊢
  refine hr.1 _ _ _ _ _ _ dL_law_692 ⟨rfl, _, _, rfl, rfl, ?_⟩
  refine hr.1 _ _ _ _ _ _ dL_law_693 ⟨rfl, ?_⟩
  refine hr.1 _ _ _ _ _ _ dL_law_695 ⟨rfl, ?_⟩
  refine hr.1 _ _ _ _ _ _ dL_law_697 ⟨rfl, 199, _, _, _, rfl, by rw [ln199]; decide, ?_⟩
  rw [up_fill (i := 10) (by decide) (by decide)]
  have h11 := fl_s h10
  generalize upZ G10 199 10 (-2) = G11 at h11 ⊢
  refine hr.1 _ _ _ _ _ _ dL_law_698 ⟨rfl, _, _, rfl, rfl, ?_⟩
  refine hr.1 _ _ _ _ _ _ dL_law_699 ⟨rfl, ?_⟩
  refine hr.1 _ _ _ _ _ _ dL_law_701 ⟨rfl, ?_⟩
  refine hr.1 _ _ _ _ _ _ dL_law_703 ⟨rfl, 199, _, _, _, rfl, by rw [ln199]; decide, ?_⟩
  rw [up_fill (i := 11) (by decide) (by decide)]
  have h12 := fl_s h11
  generalize upZ G11 199 11 (-2) = G12 at h12 ⊢
  refine hr.1 _ _ _ _ _ _ dL_law_704 ⟨rfl, _, _, rfl, rfl, ?_⟩
  refine hr.1 _ _ _ _ _ _ dL_law_705 ⟨rfl, ?_⟩
  refine hr.1 _ _ _ _ _ _ dL_law_707 ⟨rfl, ?_⟩
  refine hr.1 _ _ _ _ _ _ dL_law_709 ⟨rfl, 199, _, _, _, rfl, by rw [ln199]; decide, ?_⟩
  rw [up_fill (i := 12) (by decide) (by decide)]
  have h13 := fl_s h12
  generalize upZ G12 199 12 (-2) = G13 at h13 ⊢
  refine hr.1 _ _ _ _ _ _ dL_law_710 ⟨rfl, _, _, rfl, rfl, ?_⟩
  refine hr.1 _ _ _ _ _ _ dL_law_711 ⟨rfl, ?_⟩
  refine hr.1 _ _ _ _ _ _ dL_law_713 ⟨rfl, ?_⟩
  refine hr.1 _ _ _ _ _ _ dL_law_715 ⟨rfl, 199, _, _, _, rfl, by rw [ln199]; decide, ?_⟩
  rw [up_fill (i := 13) (by decide) (by decide)]
  have h14 := fl_s h13
  generalize upZ G13 199 13 (-2) = G14 at h14 ⊢
  refine hr.1 _ _ _ _ _ _ dL_law_716 ⟨rfl, _, _, rfl, rfl, ?_⟩
  refine hr.1 _ _ _ _ _ _ dL_law_717 ⟨rfl, ?_⟩
  refine hr.1 _ _ _ _ _ _ dL_law_719 ⟨rfl, ?_⟩
  refine hr.1 _ _ _ _ _ _ dL_law_721 ⟨rfl, 199, _, _, _, rfl, by rw [ln199]; decide, ?_⟩
  rw [up_fill (i := 14) (by decide) (by decide)]
  have h15 := fl_s h14
  generalize upZ G14 199 14 (-2) = G15 at h15 ⊢
  refine hr.1 _ _ _ _ _ _ dL_law_722 ⟨rfl, _, _, rfl, rfl, ?_⟩
  refine hr.1 _ _ _ _ _ _ dL_law_723 ⟨rfl, ?_⟩
  refine hr.1 _ _ _ _ _ _ dL_law_725 ⟨rfl, ?_⟩
  refine hr.1 _ _ _ _ _ _ dL_law_727 ⟨rfl, 199, _, _, _, rfl, by rw [ln199]; decide, ?_⟩
  rw [up_fill (i := 15) (by decide) (by decide)]
  have h16 := fl_s h15
  generalize upZ G15 199 15 (-2) = G16 at h16 ⊢
  exact kk G16 h16.1 h16.2
end TK
