/-! ===== the law's end ===== -/
theorem endTo_b (g : Nat → Int) (n : Nat) : 0 ≤ endTo g n ∧ endTo g n ≤ 1 * (n : Int) := by
  refine sumTo_rg (fun i _ => ?_)
  split <;> omega
theorem staTo_b (g : Nat → Int) (n : Nat) : 0 ≤ staTo g n ∧ staTo g n ≤ 1 * (n : Int) := by
  refine sumTo_rg (fun i _ => ?_)
  split <;> omega
theorem eNJi {L : pLo} {σ τ : pM} {x : Int} {a : eJ} (ha : a L σ = some (Int64.ofInt x, τ)) : nJ a L σ = some (Int32.ofInt x, τ) := by
  simp only [nJ, ha, Option.bind_some]
  rw [Int64.toInt32_ofInt]
theorem endTo_s (g : Nat → Int) (j : Nat) : endTo g (j + 1) = endTo g j + (if (decide (mAt g j 5 = 2) || decide (mAt g j 5 = 3)) = true then 1 else 0) := by
  show endTo g j + (if decide (mAt g j 5 = 2 ∨ mAt g j 5 = 3) = true then 1 else 0) = _
  congr 1
  by_cases h2 : mAt g j 5 = 2 <;> by_cases h3 : mAt g j 5 = 3 <;> simp [h2, h3]
section FIN
variable {p : Program} {l : Launch} {e : Env} {R : Room} {s : State} {m : MethodId} {args : Array Value} {below : List Frame} {meth : Method} {c : Code} {Q : State → Prop} {E0 : cEnv} {b k : Nat} {xs : Nat → Int32} {RT : Option pV → pM → Prop}
abbrev LHe (per bnd mst : Int) (n : Nat) (idl z : Int) (a11 : Option pV) : pLo := [some (pR 5000), some (pR 0), some (pR 196), some (pI (Int32.ofInt per)), some (pI (Int32.ofInt bnd)), some (pI (Int32.ofInt mst)), some (pR 197), some (pI (Int32.ofInt (n : Int))), some (pJ (Int64.ofInt idl)), none, some (pI (Int32.ofInt z)), a11, none, none, none, none, none, none, none, none, none, none, none]
set_option maxHeartbeats 2000000 in
theorem end_G (hw : lwR p l e R s m args below meth c Q E0 b k xs RT) {X : Nat → Nat} {cells slots cn bN n : Nat} {sp : Nat → Nat → Int} {per mst idl i : Int} {G U : Nat → Nat → Int} (hwi : LWI cn bN n sp per mst idl G U) (hct : G 180 1 < 80) (hbN : bN < 8) (hc : cells ≤ R.cells) (hs : slots ≤ R.slots) (hRT : ∀ σ, RT (some (pI (Int32.ofInt 1))) σ) : PG p l e R s m args below meth c Q E0 b X cells slots 1277 (LH per (bN : Int) mst n idl i, [], zM G U) := by
  have hw2 := hw
  obtain ⟨hC, hRu, hE, hb0⟩ := hw2
  obtain ⟨hg, h168, hlw, h196, hid, h4, h16, hsp, ⟨hn4, hn5⟩, h182, h1821, h185⟩ := hwi
  have hok : ∀ X, pOkE (E2 E0 b X) := fun X => hE
  have hr := hRu X cells slots hc hs
  have hI : rowI (G 180) := hg.1.choose_spec.2.2.1
  have hrow := hI.1
  have h1r := hrow.2.2.1
  have h6 : G 180 6 = staTo (G 180) (G 180 1).toNat := hI.2.2.2.2
  have h0 := xr_count hg (t := 0) (by decide)
  rw [show cntV (G 180) (G 168 0) 0 = G 180 1 from rfl] at h0
  simp only [Int.cast_ofNat_Int] at h0
  obtain ⟨cnt, hcnt⟩ : ∃ cnt : Nat, (G 180 1).toNat = cnt := ⟨_, rfl⟩
  have hc1 : G 180 1 = (cnt : Int) := by omega
  have hsb := staTo_b (G 180) cnt
  have heb := endTo_b (G 180) cnt
  rw [hcnt] at h6
  obtain ⟨hl1, hl2, ⟨hl8, hl9⟩, hl4⟩ := hlw
  rw [hcnt] at hl9
  obtain ⟨pB, pC, sZ1⟩ := s_LZ1 hr rfl ((ok_X_count (hok X)).mono (by decide)) ((ok_X_of (hok X)).mono (by decide))
  refine sx_wp sZ1 ?_
  unfold B_LZ1
  refine wSeq (wAsI (x := 0) eK (Nat.le_of_ble_eq_true rfl) ?_)
  show WpS _ (LHe per (bN : Int) mst n idl 0 none) _ _ _ _ _
  refine wSeq (wSeq (wAsI (x := 0) eK (Nat.le_of_ble_eq_true rfl) ?_))
  show WpS _ (LHe per (bN : Int) mst n idl 0 (some (pI (Int32.ofInt 0)))) _ _ _ _ _
  refine wWh (fun j L σ => L = LHe per (bN : Int) mst n idl (endTo (G 180) j) (some (pI (Int32.ofInt (j : Int)))) ∧ σ = zM G U) cnt (by omega) ⟨rfl, rfl⟩ ?_
  rintro j _ _ hj ⟨rfl, rfl⟩
  have hcond : (mI .lt (lI 11) (vC 11 F_X_count rI (aCR (lR 1) (aCI (kI 0) aN)))) (LHe per (bN : Int) mst n idl (endTo (G 180) j) (some (pI (Int32.ofInt (j : Int))))) (zM G U) = some (decide ((j : Int) < G 180 1), zM G U) := eLt (eL rfl) (eCI (eAR (eLR rfl) (eAI eK eAN)) ckx0 h0) (by unfold rg; omega) (by unfold rg; omega)
  rcases Nat.lt_or_ge j cnt with hlt | hge
  · refine ⟨true, zM G U, by rw [hcond, decide_eq_true (by omega)], fun _ => ⟨hlt, ?_⟩, fun h => (by cases h)⟩
    have ho := xr_of hg (k := j) (t := 0) (by omega) (by decide)
    rw [show ofV (G 180) j 0 = mAt (G 180) j 5 from rfl] at ho
    simp only [Int.cast_ofNat_Int] at ho
    have h55 := (row_j hrow (show j < (G 180 1).toNat by omega)).2.2.2.2.2.1
    have hrg5 : rg (mAt (G 180) j 5) := by unfold rg; omega
    refine wAsI (x := endTo (G 180) (j + 1)) (τ := zM G U) ?_ (Nat.le_of_ble_eq_true rfl) ?_
    · rw [endTo_s]
      exact eAdd (eL rfl) (eIteI (eOrB (eEq (eCI (eAR (eLR rfl) (eAI (eL rfl) (eAI eK eAN))) ckx0 ho) eK hrg5 (by unfold rg; omega)) (fun _ => eEq (eCI (eAR (eLR rfl) (eAI (eL rfl) (eAI eK eAN))) ckx0 ho) eK hrg5 (by unfold rg; omega))) (fun _ => eK) (fun _ => eK))
    show WpS _ (LHe per (bN : Int) mst n idl (endTo (G 180) (j + 1)) (some (pI (Int32.ofInt (j : Int))))) _ _ _ _ _
    exact wInc rfl ⟨rfl, rfl⟩
  · refine ⟨false, zM G U, by rw [hcond, decide_eq_false (by omega)], fun h => (by cases h), fun _ => ?_⟩
    obtain rfl : j = cnt := by omega
    refine wKil ?_
    show PG p l e R s m args below meth c Q E0 b X cells slots 1331 (LHe per (bN : Int) mst n idl (endTo (G 180) j) none, [], zM G U)
    refine xb_wp (s_LZ2 hr rfl ((ok_X_led (hok X)).mono (by decide)) ((ok_X_started (hok X)).mono (by decide))) ?_
    have l0 := xr_led hg (k := 0) (by decide)
    have l1 := xr_led hg (k := 1) (by decide)
    have l2 := xr_led hg (k := 2) (by decide)
    simp only [Int.cast_ofNat_Int] at l0 l1 l2
    obtain ⟨sm, hsm⟩ : ∃ sm : Nat, G 180 6 = (sm : Int) := ⟨(G 180 6).toNat, by omega⟩
    have hst := xr_started hg sm hsm
    have hl8' : U 183 (8 + 0) = (sm : Int) := by rw [← hsm]; exact hl8
    rw [hl8'] at l0
    have hsum : U 183 (8 + 1) + U 183 (8 + 2) = endTo (G 180) j := hl9
    refine ⟨true, zM G U, ?_, fun _ => ?_, fun h => (by cases h)⟩
    · show C_LZ2 _ _ = _
      unfold C_LZ2
      refine eAndT (eJEqS (eJAdd (eCJr (eAR (eLR rfl) (eAI eK eAN)) ckx0 l1) (eCJr (eAR (eLR rfl) (eAI eK eAN)) ckx0 l2)) ?_) ?_
      · rw [hsum]
        exact eWJ (eL rfl) (by unfold rg; omega)
      · exact eEq (x := -2) (y := -2) (eCI (eAR (eLR rfl) (eAI (eNJi (eCJr (eAR (eLR rfl) (eAI eK eAN)) ckx0 l0)) eAN)) ckx0 hst) eK (by unfold rg; omega) (by unfold rg; omega)
    obtain ⟨r, τ, hF, rfl, G1, U1, rfl, G2, U2, g0, g196, g1, g180, g183⟩ := xs_back hg
    rw [h182] at hF
    refine s_LZ3 hr rfl ((ok_X_back (hok X)).mono (by decide)) _ [] _ _ _ (by decide) (eCIr (eAR (eLR rfl) eAN) ckx0 hF) ?_
    refine pG_re g0 ?_
    refine hr.1 _ _ _ _ _ _ dL_law_1368 ⟨rfl, 1394, _, _, rfl, rfl, fun h => absurd rfl h, fun _ => ?_⟩
    have c0 := xr_count g1 (t := 0) (by decide)
    rw [show cntV (G2 180) (G2 168 0) 0 = G2 180 1 from rfl, g180 1 (by omega), h1821] at c0
    simp only [Int.cast_ofNat_Int] at c0
    have u0 := xr_used g1 (k := bN) hbN
    rw [g183 bN (by omega), h185 bN hbN] at u0
    refine xb_wp (s_LZ4 hr rfl ((ok_X_count (hok X)).mono (by decide)) ((ok_X_used (hok X)).mono (by decide))) ?_
    refine ⟨true, zM G2 U2, ?_, fun _ => ?_, fun h => (by cases h)⟩
    · show C_LZ4 _ _ = _
      unfold C_LZ4
      refine eAndT (eEq (x := 0) (y := 0) (eCI (eAR (eLR rfl) (eAI eK eAN)) ckx0 c0) eK (by unfold rg; omega) (by unfold rg; omega)) ?_
      exact eJEqS (x := 0) (eCJr (eAR (eLR rfl) (eAI (eL rfl) eAN)) ckx0 u0) rfl
    refine hr.1 _ _ _ _ _ _ dL_law_1390 ⟨rfl, ?_⟩
    refine hr.1 _ _ _ _ _ _ dL_law_1391 ⟨rfl, 1395, rfl, ?_⟩
    exact hr.1 _ _ _ _ _ _ dL_law_1395 ⟨rfl, _, rfl, hRT _⟩
end FIN
