/-! ===== a tick of the law, at the machine ===== -/
theorem eNeS {L : pLo} {σ τ υ : pM} {x : Int} {a b : eI} (ha : a L σ = some (Int32.ofInt x, τ)) (hb : b L τ = some (Int32.ofInt x, υ)) : mI .ne a b L σ = some (false, υ) := by
  simp only [mI, ha, hb, Option.bind_some, pCb]
  simp
def fl (G G' : Nat → Nat → Int) (i : Nat) : Prop := (∀ x, x ≠ 199 → G' x = G x) ∧ ∀ b, b < i → G' 199 b = -2
theorem fl_s {G G' : Nat → Nat → Int} {i : Nat} (h : fl G G' i) : fl G (upZ G' 199 i (-2)) (i + 1) := by
  refine ⟨fun x hx => ?_, fun b hb => ?_⟩
  · rw [← h.1 x hx]
    funext y
    exact if_neg fun q => hx q.1
  · by_cases e : b = i
    · subst e
      exact if_pos ⟨rfl, rfl⟩
    · have e1 : upZ G' 199 i (-2) 199 b = G' 199 b := if_neg fun z => e z.2
      rw [e1]
      exact h.2 b (by omega)
theorem up_fill {G U : Nat → Nat → Int} {i : Nat} {x v : Int32} (hx : x.toNatClampNeg = i) (hv : v = Int32.ofInt (-2)) : up1 (zM G U) 199 x.toNatClampNeg v = zM (upZ G 199 i (-2)) U := by
  rw [hx, hv, up1_zM]
section TK
variable {p : Program} {l : Launch} {e : Env} {R : Room} {s : State} {m : MethodId} {args : Array Value} {below : List Frame} {meth : Method} {c : Code} {Q : State → Prop} {E0 : cEnv} {b k : Nat} {xs : Nat → Int32} {RT : Option pV → pM → Prop}
/-- a place of the law -/
abbrev PG (p : Program) (l : Launch) (e : Env) (R : Room) (s : State) (m : MethodId) (args : Array Value) (below : List Frame) (meth : Method) (c : Code) (Q : State → Prop) (E0 : cEnv) (b : Nat) (X : Nat → Nat) (cells slots pc : Nat) (st : pSt) : Prop := pG p l e R s m args below meth c Q (E2 E0 b X) s.heap 23 cells slots pc st
def lwR (p : Program) (l : Launch) (e : Env) (R : Room) (s : State) (m : MethodId) (args : Array Value) (below : List Frame) (meth : Method) (c : Code) (Q : State → Prop) (E0 : cEnv) (b k : Nat) (xs : Nat → Int32) (RT : Option pV → pM → Prop) : Prop := (∀ (X : Nat → Nat) (cells slots : Nat), cells ≤ R.cells → slots ≤ R.slots → pCx p R s m args meth c (E2 E0 b X) s.heap RL cL_law 23 9 cells slots (some (5000, k, xs))) ∧ (∀ (X : Nat → Nat) (cells slots : Nat), cells ≤ R.cells → slots ≤ R.slots → pRules RL cL_law (some (5000, k, xs)) (pRun l (E2 E0 b X) 9) RT (fun pc st => PG p l e R s m args below meth c Q E0 b X cells slots pc st)) ∧ cOkE E0 ∧ E0.1 ≤ s.heap.size

theorem fill16 (hw : lwR p l e R s m args below meth c Q E0 b k xs RT) {X : Nat → Nat} {cells slots : Nat} (hc : cells ≤ R.cells) (hs : slots ≤ R.slots) {L : pLo} {G0 U : Nat → Nat → Int} (kk : ∀ Gb, (∀ x, x ≠ 199 → Gb x = G0 x) → (∀ z, z < 16 → Gb 199 z = -2) → PG p l e R s m args below meth c Q E0 b X cells slots 728 (L, [pR 199], zM Gb U)) : PG p l e R s m args below meth c Q E0 b X cells slots 638 (L, [pR 199], zM G0 U) := by
  have hr := hw.2.1 X cells slots hc hs
  have h0 : fl G0 G0 0 := ⟨fun _ _ => rfl, fun z hz => absurd hz (Nat.not_lt_zero z)⟩
  refine hr.1 _ _ _ _ _ _ dL_law_638 ⟨rfl, _, _, rfl, rfl, ?_⟩
  refine hr.1 _ _ _ _ _ _ dL_law_639 ⟨rfl, ?_⟩
  refine hr.1 _ _ _ _ _ _ dL_law_640 ⟨rfl, ?_⟩
  refine hr.1 _ _ _ _ _ _ dL_law_642 ⟨rfl, 199, _, _, _, rfl, by rw [ln199]; decide, ?_⟩
  rw [up_fill (i := 0) (by decide) (by decide)]
  have h1 := fl_s h0
  generalize upZ G0 199 0 (-2) = G1 at h1 ⊢
  refine hr.1 _ _ _ _ _ _ dL_law_643 ⟨rfl, _, _, rfl, rfl, ?_⟩
  refine hr.1 _ _ _ _ _ _ dL_law_644 ⟨rfl, ?_⟩
  refine hr.1 _ _ _ _ _ _ dL_law_645 ⟨rfl, ?_⟩
  refine hr.1 _ _ _ _ _ _ dL_law_647 ⟨rfl, 199, _, _, _, rfl, by rw [ln199]; decide, ?_⟩
  rw [up_fill (i := 1) (by decide) (by decide)]
  have h2 := fl_s h1
  generalize upZ G1 199 1 (-2) = G2 at h2 ⊢
  refine hr.1 _ _ _ _ _ _ dL_law_648 ⟨rfl, _, _, rfl, rfl, ?_⟩
  refine hr.1 _ _ _ _ _ _ dL_law_649 ⟨rfl, ?_⟩
  refine hr.1 _ _ _ _ _ _ dL_law_650 ⟨rfl, ?_⟩
  refine hr.1 _ _ _ _ _ _ dL_law_652 ⟨rfl, 199, _, _, _, rfl, by rw [ln199]; decide, ?_⟩
  rw [up_fill (i := 2) (by decide) (by decide)]
  have h3 := fl_s h2
  generalize upZ G2 199 2 (-2) = G3 at h3 ⊢
  refine hr.1 _ _ _ _ _ _ dL_law_653 ⟨rfl, _, _, rfl, rfl, ?_⟩
  refine hr.1 _ _ _ _ _ _ dL_law_654 ⟨rfl, ?_⟩
  refine hr.1 _ _ _ _ _ _ dL_law_655 ⟨rfl, ?_⟩
  refine hr.1 _ _ _ _ _ _ dL_law_657 ⟨rfl, 199, _, _, _, rfl, by rw [ln199]; decide, ?_⟩
  rw [up_fill (i := 3) (by decide) (by decide)]
  have h4 := fl_s h3
  generalize upZ G3 199 3 (-2) = G4 at h4 ⊢
  refine hr.1 _ _ _ _ _ _ dL_law_658 ⟨rfl, _, _, rfl, rfl, ?_⟩
  refine hr.1 _ _ _ _ _ _ dL_law_659 ⟨rfl, ?_⟩
  refine hr.1 _ _ _ _ _ _ dL_law_660 ⟨rfl, ?_⟩
  refine hr.1 _ _ _ _ _ _ dL_law_662 ⟨rfl, 199, _, _, _, rfl, by rw [ln199]; decide, ?_⟩
  rw [up_fill (i := 4) (by decide) (by decide)]
  have h5 := fl_s h4
  generalize upZ G4 199 4 (-2) = G5 at h5 ⊢
  refine hr.1 _ _ _ _ _ _ dL_law_663 ⟨rfl, _, _, rfl, rfl, ?_⟩
  refine hr.1 _ _ _ _ _ _ dL_law_664 ⟨rfl, ?_⟩
  refine hr.1 _ _ _ _ _ _ dL_law_665 ⟨rfl, ?_⟩
  refine hr.1 _ _ _ _ _ _ dL_law_667 ⟨rfl, 199, _, _, _, rfl, by rw [ln199]; decide, ?_⟩
  rw [up_fill (i := 5) (by decide) (by decide)]
  have h6 := fl_s h5
  generalize upZ G5 199 5 (-2) = G6 at h6 ⊢
  refine hr.1 _ _ _ _ _ _ dL_law_668 ⟨rfl, _, _, rfl, rfl, ?_⟩
  refine hr.1 _ _ _ _ _ _ dL_law_669 ⟨rfl, ?_⟩
  refine hr.1 _ _ _ _ _ _ dL_law_671 ⟨rfl, ?_⟩
  refine hr.1 _ _ _ _ _ _ dL_law_673 ⟨rfl, 199, _, _, _, rfl, by rw [ln199]; decide, ?_⟩
  rw [up_fill (i := 6) (by decide) (by decide)]
  have h7 := fl_s h6
  generalize upZ G6 199 6 (-2) = G7 at h7 ⊢
  refine hr.1 _ _ _ _ _ _ dL_law_674 ⟨rfl, _, _, rfl, rfl, ?_⟩
  refine hr.1 _ _ _ _ _ _ dL_law_675 ⟨rfl, ?_⟩
  refine hr.1 _ _ _ _ _ _ dL_law_677 ⟨rfl, ?_⟩
  refine hr.1 _ _ _ _ _ _ dL_law_679 ⟨rfl, 199, _, _, _, rfl, by rw [ln199]; decide, ?_⟩
  rw [up_fill (i := 7) (by decide) (by decide)]
  have h8 := fl_s h7
  generalize upZ G7 199 7 (-2) = G8 at h8 ⊢
  refine hr.1 _ _ _ _ _ _ dL_law_680 ⟨rfl, _, _, rfl, rfl, ?_⟩
  refine hr.1 _ _ _ _ _ _ dL_law_681 ⟨rfl, ?_⟩
  refine hr.1 _ _ _ _ _ _ dL_law_683 ⟨rfl, ?_⟩
  refine hr.1 _ _ _ _ _ _ dL_law_685 ⟨rfl, 199, _, _, _, rfl, by rw [ln199]; decide, ?_⟩
  rw [up_fill (i := 8) (by decide) (by decide)]
  have h9 := fl_s h8
  generalize upZ G8 199 8 (-2) = G9 at h9 ⊢
  refine hr.1 _ _ _ _ _ _ dL_law_686 ⟨rfl, _, _, rfl, rfl, ?_⟩
  refine hr.1 _ _ _ _ _ _ dL_law_687 ⟨rfl, ?_⟩
  refine hr.1 _ _ _ _ _ _ dL_law_689 ⟨rfl, ?_⟩
  refine hr.1 _ _ _ _ _ _ dL_law_691 ⟨rfl, 199, _, _, _, rfl, by rw [ln199]; decide, ?_⟩
  rw [up_fill (i := 9) (by decide) (by decide)]
  have h10 := fl_s h9
  generalize upZ G9 199 9 (-2) = G10 at h10 ⊢
  refine hr.1 _ _ _ _ _ _ dL_law_692 ⟨rfl, _, _, rfl, rfl, ?_⟩
  refine hr.1 _ _ _ _ _ _ dL_law_693 ⟨rfl, ?_⟩
  refine hr.1 _ _ _ _ _ _ dL_law_695 ⟨rfl, ?_⟩
  refine hr.1 _ _ _ _ _ _ dL_law_697 ⟨rfl, 199, _, _, _, rfl, by rw [ln199]; decide, ?_⟩
  rw [up_fill (i := 10) (by decide) (by decide)]
  have h11 := fl_s h10
  generalize upZ G10 199 10 (-2) = G11 at h11 ⊢
  refine hr.1 _ _ _ _ _ _ dL_law_698 ⟨rfl, _, _, rfl, rfl, ?_⟩
  refine hr.1 _ _ _ _ _ _ dL_law_699 ⟨rfl, ?_⟩
  refine hr.1 _ _ _ _ _ _ dL_law_701 ⟨rfl, ?_⟩
  refine hr.1 _ _ _ _ _ _ dL_law_703 ⟨rfl, 199, _, _, _, rfl, by rw [ln199]; decide, ?_⟩
  rw [up_fill (i := 11) (by decide) (by decide)]
  have h12 := fl_s h11
  generalize upZ G11 199 11 (-2) = G12 at h12 ⊢
  refine hr.1 _ _ _ _ _ _ dL_law_704 ⟨rfl, _, _, rfl, rfl, ?_⟩
  refine hr.1 _ _ _ _ _ _ dL_law_705 ⟨rfl, ?_⟩
  refine hr.1 _ _ _ _ _ _ dL_law_707 ⟨rfl, ?_⟩
  refine hr.1 _ _ _ _ _ _ dL_law_709 ⟨rfl, 199, _, _, _, rfl, by rw [ln199]; decide, ?_⟩
  rw [up_fill (i := 12) (by decide) (by decide)]
  have h13 := fl_s h12
  generalize upZ G12 199 12 (-2) = G13 at h13 ⊢
  refine hr.1 _ _ _ _ _ _ dL_law_710 ⟨rfl, _, _, rfl, rfl, ?_⟩
  refine hr.1 _ _ _ _ _ _ dL_law_711 ⟨rfl, ?_⟩
  refine hr.1 _ _ _ _ _ _ dL_law_713 ⟨rfl, ?_⟩
  refine hr.1 _ _ _ _ _ _ dL_law_715 ⟨rfl, 199, _, _, _, rfl, by rw [ln199]; decide, ?_⟩
  rw [up_fill (i := 13) (by decide) (by decide)]
  have h14 := fl_s h13
  generalize upZ G13 199 13 (-2) = G14 at h14 ⊢
  refine hr.1 _ _ _ _ _ _ dL_law_716 ⟨rfl, _, _, rfl, rfl, ?_⟩
  refine hr.1 _ _ _ _ _ _ dL_law_717 ⟨rfl, ?_⟩
  refine hr.1 _ _ _ _ _ _ dL_law_719 ⟨rfl, ?_⟩
  refine hr.1 _ _ _ _ _ _ dL_law_721 ⟨rfl, 199, _, _, _, rfl, by rw [ln199]; decide, ?_⟩
  rw [up_fill (i := 14) (by decide) (by decide)]
  have h15 := fl_s h14
  generalize upZ G14 199 14 (-2) = G15 at h15 ⊢
  refine hr.1 _ _ _ _ _ _ dL_law_722 ⟨rfl, _, _, rfl, rfl, ?_⟩
  refine hr.1 _ _ _ _ _ _ dL_law_723 ⟨rfl, ?_⟩
  refine hr.1 _ _ _ _ _ _ dL_law_725 ⟨rfl, ?_⟩
  refine hr.1 _ _ _ _ _ _ dL_law_727 ⟨rfl, 199, _, _, _, rfl, by rw [ln199]; decide, ?_⟩
  rw [up_fill (i := 15) (by decide) (by decide)]
  have h16 := fl_s h15
  generalize upZ G15 199 15 (-2) = G16 at h16 ⊢
  exact kk G16 h16.1 h16.2
def LWI (c bN n : Nat) (sp : Nat → Nat → Int) (per mst id : Int) (G U : Nat → Nat → Int) : Prop := allI c G U ∧ G 168 0 = 0 ∧ lawI bN n sp (G 180) (U 183) ∧ (∀ a : Nat, a < 8 → U 196 a = U 183 a) ∧ U 183 14 = id ∧ G 180 4 = per ∧ G 180 (16 + bN) = mst ∧ spR G n sp ∧ (n ≤ 4 ∧ (n : Int) ≤ G 180 5) ∧ G 182 0 = 0 ∧ G 182 1 = 0 ∧ ∀ a : Nat, a < 8 → U 185 a = 0
abbrev LL (per bnd mst : Int) (n : Nat) (id i v now tt : Int) (a14 a15 a16 : Option pV) : pLo := [some (pR 5000), some (pR 0), some (pR 196), some (pI (Int32.ofInt per)), some (pI (Int32.ofInt bnd)), some (pI (Int32.ofInt mst)), some (pR 197), some (pI (Int32.ofInt (n : Int))), some (pJ (Int64.ofInt id)), none, some (pI (Int32.ofInt i)), some (pI (Int32.ofInt v)), some (pI (Int32.ofInt now)), some (pI (Int32.ofInt tt)), a14, a15, a16, none, none, none, none, none, none]
set_option maxHeartbeats 2000000 in
theorem tick_G (hw : lwR p l e R s m args below meth c Q E0 b k xs RT) {X : Nat → Nat} {cells slots cn bN n : Nat} {sp : Nat → Nat → Int} {per mst id i v now tt : Int} {G U : Nat → Nat → Int} (hwi : LWI cn bN n sp per mst id G U) (hcn : cn ≤ 599) (hnow : G 180 0 < 99999) (hbN : bN < 8) (hc : cells + 1 ≤ R.cells) (hs : slots + 16 ≤ R.slots)
    (kk : ∀ (X' : Nat → Nat) (G' U' : Nat → Nat → Int) (id' : Int), LWI (cn + 1) bN n sp per mst id' G' U' → G' 180 0 = G 180 0 + 1 → G' 180 1 = G 180 1 → PG p l e R s m args below meth c Q E0 b X' (cells + 1) (slots + 16) 1265 (LL per (bN : Int) mst n id' i v now tt none none none, [], zM G' U')) : PG p l e R s m args below meth c Q E0 b X cells slots 612 (LL per (bN : Int) mst n id i v now tt none none none, [], zM G U) := by
  have hw2 := hw
  obtain ⟨hC, hRu, hE, hb0⟩ := hw2
  obtain ⟨hg, h168, hlw, h196, hid, h4, h16, hsp, ⟨hn4, hn5⟩, h182, h1821, h185⟩ := hwi
  have hok : ∀ X, pOkE (E2 E0 b X) := fun X => hE
  have hr := hRu X cells slots (by omega) (by omega)
  obtain ⟨eI, -, -, hI, hPp, hn9, hub⟩ := hg.1
  have hrow := hI.1
  have h7 := xr_count hg (t := 7) (by decide)
  rw [show cntV (G 180) (G 168 0) 7 = G 180 0 from rfl] at h7
  simp only [Int.cast_ofNat_Int] at h7
  obtain ⟨r, τ, hF, rfl, G1, U1, rfl, G2, U2, g0, g196, g1, g180, g183, g182, g185, g168⟩ := xs_step (by omega) hg hnow
  have hT : tkI (G 180, U) := ⟨hI, hPp, hub⟩
  obtain ⟨P, i1, i2, i3, i4, i5, i6, i7, i8, i9⟩ := law_tick (a := bN) (n := n) (sp := sp) hbN hT (by omega) hlw
  obtain ⟨j1, j2, j3, j4⟩ := i9
  rw [← g180] at i4 i5 i8 j1 j2 j3
  rw [← g183] at i8 j3 j4
  obtain ⟨pB, pC, sLO⟩ := s_LO hr rfl ((ok_X_count (hok X)).mono (by decide)) ((ok_X_step (hok X)).mono (by decide))
  refine sx_wp sLO ?_
  unfold B_LO
  refine wSeq (wAsI (eCI (eAR (eLR rfl) (eAI eK eAN)) ckx0 h7) (Nat.le_of_ble_eq_true rfl) ?_)
  refine wIf ⟨false, _, eNeS (eCIr (eAR (eLR rfl) (eAI eK eAN)) ckx0 hF) (eAdd (eL rfl) eK), fun h => (by cases h), fun _ => wSkip ?_⟩
  refine pG_re g0 ?_
  have hI2 := g1.1.choose_spec.2.2.1
  obtain ⟨-, q0, qb⟩ := tkF_I hT (by show G 180 0 < 110000; omega)
  have t0 : G2 180 0 = G 180 0 + 1 := by rw [g180]; exact q0
  have t1 : G2 180 1 = G 180 1 := by rw [g180]; exact qb 1 (by omega) (by omega) (by omega) (by omega)
  have t4 : G2 180 4 = per := by rw [g180, ← h4]; exact qb 4 (by omega) (by omega) (by omega) (by omega)
  have t5 : G2 180 5 = G 180 5 := by rw [g180]; exact qb 5 (by omega) (by omega) (by omega) (by omega)
  have t16 : G2 180 (16 + bN) = mst := by rw [g180, ← h16]; exact qb (16 + bN) (by omega) (by omega) (by omega) (by omega)
  clear q0 qb
  -- the table
  show PG p l e R s m args below meth c Q E0 b X cells slots 634 (LL per (bN : Int) mst n id i v now tt (some (pI (Int32.ofInt (G 180 0)))) none none, [], zM G2 U2)
  refine hr.1 _ _ _ _ _ _ dL_law_634 ⟨rfl, ?_⟩
  rw [show (Int8.ofInt 16).toInt32 = Int32.ofNat 16 by decide]
  refine pG_newI (hC X cells slots (by omega) (by omega)) (k := 199) (by decide) (by decide +kernel) (by decide) hb0 dL_law_636 ⟨fun j x hj => ?_, fun x hx => by simp at hx⟩ hc hs (fun a => ?_)
  · have := List.mem_of_getElem? hj
    simp at this
    omega
  have hr2 := hRu (Xn X 199 a) (cells + 1) (slots + 16) hc hs
  refine fill16 hw hc hs (fun Gb hGb hGb2 => ?_)
  refine hr2.1 _ _ _ _ _ _ dL_law_728 ⟨rfl, _, _, rfl, Nat.le_of_ble_eq_true rfl, ?_⟩
  have eGb : ∀ x, x ≠ 199 → Gb x = G2 x := fun x hx => by
    rw [hGb x hx]
    funext y
    exact if_neg hx
  have eUb : ∀ x, x ≠ 199 → zR U2 199 x = U2 x := fun x hx => by
    funext y
    exact if_neg hx
  have hgb : allI (cn + 1) Gb (zR U2 199) := allI_own g1 (fun x hx => eGb x (by omega)) (fun x hx => eUb x (by omega))
  generalize zR U2 199 = Ub at *
  obtain ⟨pB2, pC2, sLP⟩ := s_LP hr2 rfl ((ok_X_count (hok _)).mono (by decide)) ((ok_X_of (hok _)).mono (by decide)) ((ok_X_arm (hok _)).mono (by decide))
  refine sx_wp sLP ?_
  have e180 : Gb 180 = G2 180 := eGb 180 (by omega)
  have hP1 : P 1 = G2 180 1 := by rw [t1]; exact i2
  have hPx : ∀ x w, x < (G2 180 1).toNat → w < 32 → w ≠ 5 → w ≠ 7 → mAt (G2 180) x w = mAt P x w := fun x w hx => i4 x w (by rw [t1] at hx; exact hx)
  have hnow0 : 0 ≤ G 180 0 := hrow.2.1.1
  refine by_j (P := P) (t := G 180 0) hgb i1.2.2.1 (by rw [e180]; exact hP1) (fun x hx => ?_) (by rw [e180]; exact j2) (by rw [e180]; exact i8.1) (by rw [e180]; exact t0) hnow0 hGb2 (fun G3 hG3 hby => ?_)
  · rw [e180] at hx ⊢
    unfold mArms
    rw [hPx x 4 hx (by omega) (by omega) (by omega)]
  have eG3 : ∀ x, x ≠ 199 → G3 x = G2 x := fun x hx => (hG3 x hx).trans (eGb x hx)
  have hg3 : allI (cn + 1) G3 Ub := allI_own g1 (fun x hx => eG3 x (by omega)) (fun x hx => eUb x (by omega))
  have e3 : G3 180 = G2 180 := eG3 180 (by omega)
  have hsp3 : spR G3 n sp := fun z hz y hy => by
    rw [eG3 197 (by omega), (g196 197 (by omega)).1]
    exact hsp z hz y hy
  obtain ⟨pB3, pC3, sLQ⟩ := s_LQ hr2 rfl ((ok_X_chart (hok _)).mono (by decide)) ((ok_X_of (hok _)).mono (by decide))
  refine sx_wp sLQ ?_
  refine lq_c (P := P) (t := G 180 0) (bnd := (bN : Int)) (n := n) (sp := sp) (id := id) hg3 i1 (by rw [e3]; exact hP1) (by rw [e3]; exact hPx) (by rw [e3]; exact j2) i7 (by omega) (by omega) hn4 hsp3 i6 (by rw [e3]; exact j1) hby (fun U3 _ _ hU3 hu3 => ?_)
  have hub8 : ∀ a : Nat, a < 8 → Ub 196 a = U 183 a := fun a ha => by
    rw [eUb 196 (by omega), (g196 196 (by omega)).2]
    exact h196 a ha
  have hg4 : allI (cn + 1) G3 U3 := allI_own g1 (fun x hx => eG3 x (by omega)) (fun x hx => (hU3 x (by omega)).trans (eUb x (by omega)))
  have e183 : U3 183 = U2 183 := (hU3 183 (by omega)).trans (eUb 183 (by omega))
  have hper : 0 ≤ per ∧ per ≤ 100 := by
    rw [← h4]
    exact hrow.2.2.2.2.2.1
  have hmst : mst ≤ 16 := by
    rw [← h16]
    exact (hrow.2.2.2.2.2.2.2.2.2.2.1 bN hbN).2
  obtain ⟨pB4, pC4, sLR⟩ := s_LR hr2 rfl ((ok_X_used (hok _)).mono (by decide))
  refine sx_wp sLR ?_
  refine lr_all (t := G 180 0) (per := per) (ob := heldTo P (bN : Int) 16) hg4 hper (by omega) (fun a ha => ?_) (fun a ha => ?_) (fun U4 hU4 hu4 => ?_)
  · rw [hu3 a ha, hub8 a ha]
    have z1 := hub a ha
    have z2 := heldTo_rg (g := P) (acc := (a : Int)) (n := 16)
    omega
  · rw [e183, hu3 a ha, hub8 a ha, j3 a ha, t4]
  have hg5 : allI (cn + 1) G3 U4 := allI_own g1 (fun x hx => eG3 x (by omega)) (fun x hx => (hU4 x (by omega)).trans ((hU3 x (by omega)).trans (eUb x (by omega))))
  have e183' : U4 183 = U2 183 := (hU4 183 (by omega)).trans e183
  have hid4 : U4 183 14 = id + idTo P 16 := by
    rw [e183', j4, hid]
    rfl
  obtain ⟨pB5, pC5, sLS⟩ := s_LS hr2 rfl ((ok_X_led (hok _)).mono (by decide))
  refine sx_wp sLS ?_
  refine ls_all (ob := heldTo P (bN : Int) 16) (mst := mst) (id := id + idTo P 16) hg5 ⟨(heldTo_rg (g := P) (acc := (bN : Int)) (n := 16)).1, by rw [t16] at i5; exact i5, hmst⟩ hid4 ?_
  refine hr2.2 _ _ (LL per (bN : Int) mst n (id + idTo P 16) i v now tt none none none) _ _ rfl (fun j y hj => ?_) ?_
  · match j, hj with
    | 0, hj => exact hj
    | 1, hj => exact hj
    | 2, hj => exact hj
    | 3, hj => exact hj
    | 4, hj => exact hj
    | 5, hj => exact hj
    | 6, hj => exact hj
    | 7, hj => exact hj
    | 8, hj => exact hj
    | 9, hj => cases hj
    | 10, hj => exact hj
    | 11, hj => exact hj
    | 12, hj => exact hj
    | 13, hj => exact hj
    | 14, hj => cases hj
    | 15, hj => cases hj
    | 16, hj => cases hj
    | 17, hj => cases hj
    | 18, hj => cases hj
    | 19, hj => cases hj
    | 20, hj => cases hj
    | 21, hj => cases hj
    | 22, hj => cases hj
    | j + 23, hj => simp at hj
  refine kk _ G3 U4 (id + idTo P 16) ⟨hg5, by rw [eG3 168 (by omega), g168]; exact h168, by rw [e3, e183']; exact i8, fun a ha => by rw [hu4 a ha, e183, e183'], hid4, by rw [e3]; exact t4, by rw [e3]; exact t16, hsp3, ⟨hn4, by rw [e3, t5]; exact hn5⟩, by rw [eG3 182 (by omega), g182]; exact h182, by rw [eG3 182 (by omega), g182]; exact h1821, fun a ha => ?_⟩ (by rw [e3]; exact t0) (by rw [e3]; exact t1)
  rw [hU4 185 (by omega), hU3 185 (by omega), eUb 185 (by omega), g185]
  exact h185 a ha
end TK
