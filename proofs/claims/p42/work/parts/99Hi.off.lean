/-! ===== the law's cases: a job goes off, or is held back ===== -/
section OFF
variable {p : Program} {l : Launch} {e : Env} {R : Room} {s : State} {m : MethodId} {args : Array Value} {below : List Frame} {meth : Method} {c : Code} {Q : State → Prop} {E0 : cEnv} {b k : Nat} {xs : Nat → Int32} {RT : Option pV → pM → Prop}
/-- what such a call leaves -/
def ohP (cn bN n : Nat) (sp : Nat → Nat → Int) (per mst idl : Int) (G U : Nat → Nat → Int) (how t : Int) (G1 U1 : Nat → Nat → Int) : Prop := ∃ G2 U2, gh G1 U1 G2 U2 ∧ LWI (cn + 1) bN n sp per mst idl G2 U2 ∧ G2 180 0 = G 180 0 ∧ G2 180 1 = G 180 1 ∧ (0 < G 180 1 → 1 < how → t = -5)
theorem oh_same {cn bN n : Nat} {sp : Nat → Nat → Int} {per mst idl how t : Int} {G U : Nat → Nat → Int} (hwi : LWI cn bN n sp per mst idl G U) (ht : 0 < G 180 1 → 1 < how → t = -5) : ohP cn bN n sp per mst idl G U how t G U := ⟨G, U, gh_rf, LWI_nx hwi (allI_up hwi.1) (fun _ _ => ⟨rfl, rfl⟩) rfl rfl hwi.2.1 hwi.2.2.1 (fun _ _ => rfl) rfl rfl rfl (Int.le_refl _), rfl, rfl, ht⟩
theorem oh_off {cn bN n : Nat} {sp : Nat → Nat → Int} {per mst idl : Int} {G U : Nat → Nat → Int} {j : Nat} {how : Int} (hwi : LWI cn bN n sp per mst idl G U) (hcn : cn ≤ 599) (hbN : bN < 8) (hj : (0 < G 180 1 ∧ j < (G 180 1).toNat ∧ how = mAt (G 180) j 5) ∨ (G 180 1 = 0 ∧ j = 0)) : ∃ (t : Int) (G1 U1 : Nat → Nat → Int), F_X_off [pR 0, pI (Int32.ofInt (j : Int))] (zM G U) = some (some (pI (Int32.ofInt t)), zM G1 U1) ∧ ohP cn bN n sp per mst idl G U how t G1 U1 := by
  have hg := hwi.1
  have hI := hg.1.choose_spec.2.2.1
  rcases hj with ⟨h0, hj, hh⟩ | ⟨h0, hj⟩
  · by_cases h1 : 1 < mAt (G 180) j 5
    · exact ⟨-5, G, U, xs_off_no hg hj h1, oh_same hwi fun _ _ => rfl⟩
    · obtain ⟨r, τ, hF, t, rfl, G1, U1, rfl, G2, U2, g0, g196, g1, g180, g183, g182, g185, g168⟩ := xs_off (by omega) hg hj (by omega)
      have hk := offF_keep 100 (G 180, U) j hI hj
      have hu : (offF 100 (G 180, U) j).1.2 = upZ U 183 11 (U 183 11 + (offF 100 (G 180, U) j).2) := (offF_V 100 (G 180, U) (G 180, U) j rfl).2.2.1
      have hlow : ∀ y, y < 96 → y ≠ 7 → G2 180 y = G 180 y := fun y h1 h2 => by rw [g180]; exact hk.2.1 y h1 h2
      have hus : ∀ y, y ≠ 11 → U2 183 y = U 183 y := fun y hy => by
        rw [g183, hu]
        exact if_neg fun z => hy z.2
      refine ⟨t, G1, U1, hF, G2, U2, g0, LWI_nx hwi g1 g196 g182 g185 (by rw [g168]; exact hwi.2.1) ?_ (fun y hy => hus y (by omega)) (hus 14 (by omega)) (hlow 4 (by omega) (by omega)) (hlow _ (by omega) (by omega)) (by rw [hlow 5 (by omega) (by omega)]; exact Int.le_refl _), hlow 0 (by omega) (by omega), hlow 1 (by omega) (by omega), fun _ h => absurd h (by omega)⟩
      rw [g180, g183]
      exact law_off hbN hI hj (by omega) hwi.2.2.1
  · subst hj
    exact ⟨-1, G, U, xs_off_0 hg h0, oh_same hwi fun h => absurd h (by omega)⟩
theorem oh_hold {cn bN n : Nat} {sp : Nat → Nat → Int} {per mst idl : Int} {G U : Nat → Nat → Int} {j : Nat} {how w : Int} (hw : w = 0 ∨ w = 1) (hwi : LWI cn bN n sp per mst idl G U) (hbN : bN < 8) (hj : (0 < G 180 1 ∧ j < (G 180 1).toNat ∧ how = mAt (G 180) j 5) ∨ (G 180 1 = 0 ∧ j = 0)) : ∃ (t : Int) (G1 U1 : Nat → Nat → Int), F_X_hold [pR 0, pI (Int32.ofInt (j : Int)), pI (Int32.ofInt w)] (zM G U) = some (some (pI (Int32.ofInt t)), zM G1 U1) ∧ ohP cn bN n sp per mst idl G U how t G1 U1 := by
  have hg := hwi.1
  have hI := hg.1.choose_spec.2.2.1
  rcases hj with ⟨h0, hj, hh⟩ | ⟨h0, hj⟩
  · by_cases h1 : mAt (G 180) j 5 = 0
    · obtain ⟨r, τ, hF, t, rfl, G1, rfl, G2, U2, g0, g196, g1, g180, g183, g182, g185, g168⟩ := xs_hold hg hw hj h1
      have hI2 : rowI (G2 180) := g1.1.choose_spec.2.2.1
      have hlow : ∀ y, y < 96 → G2 180 y = G 180 y := fun y h1 => by
        rw [g180]
        unfold holdF
        split
        · exact jput_lo h1
        · rw [jput_lo h1, jput_lo h1]
      refine ⟨t, G1, U, hF, G2, U2, g0, LWI_nx hwi g1 g196 g182 g185 (by rw [g168]; exact hwi.2.1) ?_ (fun y hy => by rw [g183]) (by rw [g183]) (hlow 4 (by omega)) (hlow _ (by omega)) (by rw [hlow 5 (by omega)]; exact Int.le_refl _), hlow 0 (by omega), hlow 1 (by omega), fun _ h => absurd h (by omega)⟩
      rw [g183]
      rw [g180] at hI2 ⊢
      exact law_hold hbN hj hI hI2 hwi.2.2.1
    · exact ⟨-5, G, U, xs_hold_no hg hw hj h1, oh_same hwi fun _ _ => rfl⟩
  · subst hj
    exact ⟨-1, G, U, xs_hold_0 hg hw h0, oh_same hwi fun h => absurd h (by omega)⟩
abbrev LOf (per bnd mst : Int) (n : Nat) (idl i v now : Int) (a18 a19 a20 : Option pV) : pLo := [some (pR 5000), some (pR 0), some (pR 196), some (pI (Int32.ofInt per)), some (pI (Int32.ofInt bnd)), some (pI (Int32.ofInt mst)), some (pR 197), some (pI (Int32.ofInt (n : Int))), some (pJ (Int64.ofInt idl)), none, some (pI (Int32.ofInt i)), some (pI (Int32.ofInt v)), some (pI (Int32.ofInt now)), none, none, none, none, none, a18, a19, a20, none, none]
set_option maxHeartbeats 4000000 in
theorem off_G (hw : lwR p l e R s m args below meth c Q E0 b k xs RT) {X : Nat → Nat} {cells slots cn bN n v : Nat} {sp : Nat → Nat → Int} {per mst idl i now : Int} {G U : Nat → Nat → Int} (hwi : LWI cn bN n sp per mst idl G U) (hcn : cn ≤ 599) (hbN : bN < 8) (hv : v < 2 ^ 24) (hc : cells ≤ R.cells) (hs : slots ≤ R.slots)
    (kk : ∀ (G' U' : Nat → Nat → Int), LWI (cn + 1) bN n sp per mst idl G' U' → G' 180 0 = G 180 0 → G' 180 1 = G 180 1 → PG p l e R s m args below meth c Q E0 b X cells slots 595 (L0 per (bN : Int) mst n idl i (v : Int) now none, [], zM G' U')) : PG p l e R s m args below meth c Q E0 b X cells slots 471 (L0 per (bN : Int) mst n idl i (v : Int) now none, [], zM G U) := by
  have hw2 := hw
  obtain ⟨hC, hRu, hE, hb0⟩ := hw2
  have hg := hwi.1
  have hok : ∀ X, pOkE (E2 E0 b X) := fun X => hE
  have hr := hRu X cells slots hc hs
  have hI := hg.1.choose_spec.2.2.1
  have hrow := hI.1
  have h1r := hrow.2.2.1
  have h0 := xr_count hg (t := 0) (by decide)
  rw [show cntV (G 180) (G 168 0) 0 = G 180 1 from rfl] at h0
  simp only [Int.cast_ofNat_Int] at h0
  have h11 : v / 2 ^ 11 % 2 ^ 1 < 2 := by omega
  -- j and how
  have hjh : ∃ (j : Nat) (how : Int), ((0 < G 180 1 ∧ j < (G 180 1).toNat ∧ how = mAt (G 180) j 5) ∨ (G 180 1 = 0 ∧ j = 0)) ∧ rg how ∧ F_X_of [pR 0, pI (Int32.ofInt (j : Int)), pI (Int32.ofInt 0)] (zM G U) = some (some (pI (Int32.ofInt how)), zM G U) ∧ (cE (mI .eq (vC 11 F_X_count rI (aCR (lR 1) (aCI (kI 0) aN))) (kI 0)) (kI 0) (dI (fun x y => x - x / y * y) (bI (fun x y => x >>> (y &&& 31)) (lI 11) (kI 3)) (vC 11 F_X_count rI (aCR (lR 1) (aCI (kI 0) aN)))) : eI) (L0 per (bN : Int) mst n idl i (v : Int) now none) (zM G U) = some (Int32.ofInt (j : Int), zM G U) := by
    have hcnt : (mI .eq (vC 11 F_X_count rI (aCR (lR 1) (aCI (kI 0) aN))) (kI 0)) (L0 per (bN : Int) mst n idl i (v : Int) now none) (zM G U) = some (decide (G 180 1 = 0), zM G U) := eEq (eCI (eAR (eLR rfl) (eAI eK eAN)) ckx0 h0) eK (by unfold rg; omega) (by unfold rg; omega)
    by_cases hz : G 180 1 = 0
    · have ho := xr_of_no hg (t := 0) (by decide) hz
      simp only [Int.cast_ofNat_Int] at ho
      refine ⟨0, -1, Or.inr ⟨hz, rfl⟩, by unfold rg; omega, ho, ?_⟩
      simp only [cE, hcnt, Option.bind_some]
      rw [if_pos (decide_eq_true hz)]
      rfl
    · obtain ⟨cnt, hcn2⟩ : ∃ cnt : Nat, G 180 1 = (cnt : Int) := ⟨(G 180 1).toNat, by omega⟩
      have hjl : v / 2 ^ 3 % cnt < cnt := Nat.mod_lt _ (by omega)
      have ho := xr_of hg (k := v / 2 ^ 3 % cnt) (t := 0) (by omega) (by decide)
      rw [show ofV (G 180) (v / 2 ^ 3 % cnt) 0 = mAt (G 180) (v / 2 ^ 3 % cnt) 5 from rfl] at ho
      simp only [Int.cast_ofNat_Int] at ho
      have h55 := (row_j hrow (show v / 2 ^ 3 % cnt < (G 180 1).toNat by omega)).2.2.2.2.2.1
      refine ⟨v / 2 ^ 3 % cnt, mAt (G 180) (v / 2 ^ 3 % cnt) 5, Or.inl ⟨by omega, by omega, rfl⟩, by unfold rg; omega, ho, ?_⟩
      simp only [cE, hcnt, Option.bind_some]
      rw [if_neg (by rw [decide_eq_true_eq]; exact hz)]
      rw [hcn2] at h0
      exact eRmV (eShV (eL rfl) (by decide) (by omega)) (eCI (eAR (eLR rfl) (eAI eK eAN)) ckx0 h0) (by omega) (by omega) (by omega)
  obtain ⟨j, how, hj, hrh, hof, hje⟩ := hjh
  obtain ⟨pB, pC, sK1⟩ := s_LK1 hr rfl ((ok_X_count (hok X)).mono (by decide)) ((ok_X_of (hok X)).mono (by decide))
  refine sx_wp sK1 ?_
  unfold B_LK1
  refine wSeq (wAsI hje (Nat.le_of_ble_eq_true rfl) ?_)
  show WpS _ (LOf per (bN : Int) mst n idl i (v : Int) now (some (pI (Int32.ofInt (j : Int)))) none none) _ _ _ _ _
  refine wAsI (eCI (eAR (eLR rfl) (eAI (eL rfl) (eAI eK eAN))) ckx0 hof) (Nat.le_of_ble_eq_true rfl) ?_
  show PG p l e R s m args below meth c Q E0 b X cells slots 504 (LOf per (bN : Int) mst n idl i (v : Int) now (some (pI (Int32.ofInt (j : Int)))) (some (pI (Int32.ofInt how))) none, [], zM G U)
  -- behind the call
  have hend : ∀ (t : Int) (G1 U1 : Nat → Nat → Int), ohP cn bN n sp per mst idl G U how t G1 U1 → PG p l e R s m args below meth c Q E0 b X cells slots 536 (LOf per (bN : Int) mst n idl i (v : Int) now (some (pI (Int32.ofInt (j : Int)))) (some (pI (Int32.ofInt how))) none, [pI (Int32.ofInt t)], zM G1 U1) := by
    rintro t G1 U1 ⟨G2, U2, g0, hwi2, e0, e1, ht⟩
    refine pG_re g0 ?_
    refine hr.1 _ _ _ _ _ _ dL_law_536 ⟨rfl, _, _, rfl, Nat.le_of_ble_eq_true rfl, ?_⟩
    show PG p l e R s m args below meth c Q E0 b X cells slots 538 (LOf per (bN : Int) mst n idl i (v : Int) now (some (pI (Int32.ofInt (j : Int)))) (some (pI (Int32.ofInt how))) (some (pI (Int32.ofInt t))), [], zM G2 U2)
    have h2 := xr_count hwi2.1 (t := 0) (by decide)
    rw [show cntV (G2 180) (G2 168 0) 0 = G2 180 1 from rfl, e1] at h2
    simp only [Int.cast_ofNat_Int] at h2
    obtain ⟨pB5, pC5, sK5⟩ := s_LK5 hr rfl ((ok_X_count (hok X)).mono (by decide))
    refine sx_wp sK5 ?_
    unfold B_LK5
    refine wIf ⟨false, zM G2 U2, ?_, fun h => (by cases h), fun _ => wSkip ?_⟩
    · by_cases hz : 0 < G 180 1
      · by_cases hh : 1 < how
        · have ht5 := ht hz hh
          subst ht5
          exact eAndT (eAndT (by rw [eGt (eCI (eAR (eLR rfl) (eAI eK eAN)) ckx0 h2) eK (by unfold rg; omega) (by unfold rg; omega), decide_eq_true hz]) (by rw [eGt (eL rfl) eK hrh (by unfold rg; omega), decide_eq_true hh])) (eNeB (eL rfl) eK (by unfold rg; omega) (by unfold rg; omega) (by decide))
        · exact eAndF (eAndT (by rw [eGt (eCI (eAR (eLR rfl) (eAI eK eAN)) ckx0 h2) eK (by unfold rg; omega) (by unfold rg; omega), decide_eq_true hz]) (by rw [eGt (eL rfl) eK hrh (by unfold rg; omega), decide_eq_false hh]))
      · exact eAndF (eAndF (by rw [eGt (eCI (eAR (eLR rfl) (eAI eK eAN)) ckx0 h2) eK (by unfold rg; omega) (by unfold rg; omega), decide_eq_false hz]))
    refine hr.2 _ _ (L0 per (bN : Int) mst n idl i (v : Int) now none) _ _ rfl (fun j y hj => ?_) (kk G2 U2 hwi2 e0 e1)
    match j, hj with
    | 0, hj => exact hj
    | 1, hj => exact hj
    | 2, hj => exact hj
    | 3, hj => exact hj
    | 4, hj => exact hj
    | 5, hj => exact hj
    | 6, hj => exact hj
    | 7, hj => exact hj
    | 8, hj => exact hj
    | 9, hj => cases hj
    | 10, hj => exact hj
    | 11, hj => exact hj
    | 12, hj => exact hj
    | 13, hj => cases hj
    | 14, hj => cases hj
    | 15, hj => cases hj
    | 16, hj => cases hj
    | 17, hj => cases hj
    | 18, hj => cases hj
    | 19, hj => cases hj
    | 20, hj => cases hj
    | 21, hj => cases hj
    | 22, hj => cases hj
    | j + 23, hj => simp at hj
  have hcond : C_LK2 (LOf per (bN : Int) mst n idl i (v : Int) now (some (pI (Int32.ofInt (j : Int)))) (some (pI (Int32.ofInt how))) none) (zM G U) = some (decide (((v / 2 ^ 9 % 2 ^ 2 : Nat) : Int) = 0), zM G U) := by
    unfold C_LK2
    exact eEq (eAnV (eShV (eL rfl) (by decide) (by omega)) (by decide) (by omega)) eK (by unfold rg; omega) (by unfold rg; omega)
  refine xb_wp (s_LK2 hr rfl) ⟨_, _, hcond, fun _ => ?_, fun _ => ?_⟩
  · obtain ⟨t, G1, U1, hF, hoh⟩ := oh_off hwi hcn hbN hj
    refine s_LK3 hr rfl ((ok_X_off (hok X)).mono (by decide)) _ [] _ _ _ (by decide) (eCIr (eAR (eLR rfl) (eAI (eL rfl) eAN)) ckx0 hF) ?_
    refine hr.1 _ _ _ _ _ _ dL_law_520 ⟨rfl, 536, rfl, ?_⟩
    exact hend t G1 U1 hoh
  · obtain ⟨t, G1, U1, hF, hoh⟩ := oh_hold (w := ((v / 2 ^ 11 % 2 ^ 1 : Nat) : Int)) (by omega) hwi hbN hj
    refine s_LK4 hr rfl ((ok_X_hold (hok X)).mono (by decide)) _ [] _ _ _ (by decide) (eCIr (eAR (eLR rfl) (eAI (eL rfl) (eAI (eAnV (eShV (eL rfl) (by decide) (by omega)) (by decide) (by omega)) eAN))) ckx0 hF) ?_
    exact hend t G1 U1 hoh
end OFF
