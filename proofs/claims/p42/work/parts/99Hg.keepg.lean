/-! ===== the law's cases: a span is told, at the machine ===== -/
theorem eAndF {L : pLo} {σ : pM} {a b : eB} (ha : a L σ = some (false, σ)) : bAnd a b L σ = some (false, σ) := by
  simp only [bAnd, ha, Option.bind_some]
  simp
theorem eAndT {L : pLo} {σ : pM} {a b : eB} {p : Bool} (ha : a L σ = some (true, σ)) (hb : b L σ = some (p, σ)) : bAnd a b L σ = some (p, σ) := by
  simp only [bAnd, ha, hb, Option.bind_some, if_true]
theorem eCEf {L : pLo} {σ : pM} {cc a b : eB} {p : Bool} (hc : cc L σ = some (false, σ)) (hb : b L σ = some (p, σ)) : cE cc a b L σ = some (p, σ) := by
  simp only [cE, hc, hb, Option.bind_some]
  simp
theorem eCEt {L : pLo} {σ : pM} {cc a b : eB} {p : Bool} (hc : cc L σ = some (true, σ)) (ha : a L σ = some (p, σ)) : cE cc a b L σ = some (p, σ) := by
  simp only [cE, hc, ha, Option.bind_some, if_true]
theorem eGeB {L : pLo} {σ : pM} {a b : eI} {x y : Int} {p : Bool} (ha : a L σ = some (Int32.ofInt x, σ)) (hb : b L σ = some (Int32.ofInt y, σ)) (hx : rg x) (hy : rg y) (hp : decide (y ≤ x) = p) : mI .ge a b L σ = some (p, σ) := by
  rw [← hp]
  exact eGe ha hb hx hy
theorem eLtB {L : pLo} {σ : pM} {a b : eI} {x y : Int} {p : Bool} (ha : a L σ = some (Int32.ofInt x, σ)) (hb : b L σ = some (Int32.ofInt y, σ)) (hx : rg x) (hy : rg y) (hp : decide (x < y) = p) : mI .lt a b L σ = some (p, σ) := by
  rw [← hp]
  exact eLt ha hb hx hy
theorem eNeB {L : pLo} {σ : pM} {a b : eI} {x y : Int} {p : Bool} (ha : a L σ = some (Int32.ofInt x, σ)) (hb : b L σ = some (Int32.ofInt y, σ)) (hx : rg x) (hy : rg y) (hp : (!decide (x = y)) = p) : mI .ne a b L σ = some (p, σ) := by
  rw [← hp]
  exact eNe ha hb hx hy
section KPG
variable {p : Program} {l : Launch} {e : Env} {R : Room} {s : State} {m : MethodId} {args : Array Value} {below : List Frame} {meth : Method} {c : Code} {Q : State → Prop} {E0 : cEnv} {b k : Nat} {xs : Nat → Int32} {RT : Option pV → pM → Prop}
abbrev LGp (per bnd mst : Int) (n : Nat) (idl i v now : Int) (a13 a14 a15 a16 a17 : Option pV) : pLo := [some (pR 5000), some (pR 0), some (pR 196), some (pI (Int32.ofInt per)), some (pI (Int32.ofInt bnd)), some (pI (Int32.ofInt mst)), some (pR 197), some (pI (Int32.ofInt (n : Int))), some (pJ (Int64.ofInt idl)), none, some (pI (Int32.ofInt i)), some (pI (Int32.ofInt v)), some (pI (Int32.ofInt now)), a13, a14, a15, a16, a17, none, none, none, none, none]
theorem lj_end (hw : lwR p l e R s m args below meth c Q E0 b k xs RT) {X : Nat → Nat} {cells slots n v : Nat} {per bnd mst idl i now av bv fv tv is : Int} {a18 : Option pV} {σ : pM} (hc : cells ≤ R.cells) (hs : slots ≤ R.slots) (hn : n ≤ 10) (hrg : rg is) (his : is = -3 ∨ is = -5 ∨ (0 ≤ is ∧ (n : Int) - 1 ≤ is)) (hk : PG p l e R s m args below meth c Q E0 b X cells slots 595 (L0 per bnd mst n idl i (v : Int) now none, [], σ)) : PG p l e R s m args below meth c Q E0 b X cells slots 438 (LKp per bnd mst n idl i (v : Int) now av bv fv tv is a18 none, [], σ) := by
  have hr := hw.2.1 X cells slots hc hs
  obtain ⟨pB, pC, sLJ⟩ := s_LJ hr rfl
  refine sx_wp sLJ ?_
  unfold B_LJ
  refine wIf ⟨false, σ, ?_, fun h => (by cases h), fun _ => wSkip ?_⟩
  · rcases his with h | h | ⟨h1, h2⟩
    · subst h
      exact eCEf (eGeB (eL rfl) eK (by unfold rg; omega) (by unfold rg; omega) (by decide)) (eAndT (eNeB (eL rfl) eK (by unfold rg; omega) (by unfold rg; omega) (by decide)) (eNeB (eL rfl) eK (by unfold rg; omega) (by unfold rg; omega) (by decide)))
    · subst h
      exact eCEf (eGeB (eL rfl) eK (by unfold rg; omega) (by unfold rg; omega) (by decide)) (eAndF (eNeB (eL rfl) eK (by unfold rg; omega) (by unfold rg; omega) (by decide)))
    · exact eCEt (eGeB (eL rfl) eK hrg (by unfold rg; omega) (decide_eq_true h1)) (eLtB (eL rfl) (eSub (eL rfl) eK) hrg (by unfold rg; omega) (decide_eq_false (by omega)))
  refine hr.2 _ _ (L0 per bnd mst n idl i (v : Int) now none) _ _ rfl (fun j y hj => ?_) hk
  match j, hj with
  | 0, hj => exact hj
  | 1, hj => exact hj
  | 2, hj => exact hj
  | 3, hj => exact hj
  | 4, hj => exact hj
  | 5, hj => exact hj
  | 6, hj => exact hj
  | 7, hj => exact hj
  | 8, hj => exact hj
  | 9, hj => cases hj
  | 10, hj => exact hj
  | 11, hj => exact hj
  | 12, hj => exact hj
  | 13, hj => cases hj
  | 14, hj => cases hj
  | 15, hj => cases hj
  | 16, hj => cases hj
  | 17, hj => cases hj
  | 18, hj => cases hj
  | 19, hj => cases hj
  | 20, hj => cases hj
  | 21, hj => cases hj
  | 22, hj => cases hj
  | j + 23, hj => simp at hj
set_option maxHeartbeats 4000000 in
theorem keep_G (hw : lwR p l e R s m args below meth c Q E0 b k xs RT) {X : Nat → Nat} {cells slots cn bN n v : Nat} {sp : Nat → Nat → Int} {per mst idl i now : Int} {G U : Nat → Nat → Int} (hwi : LWI cn bN n sp per mst idl G U) (hnw : now = G 180 0) (hn9 : G 180 0 ≤ 9000) (hcn : cn ≤ 599) (hbN : bN < 8) (hv : v < 2 ^ 24) (hc : cells + 1 ≤ R.cells) (hs : slots + 6 ≤ R.slots)
    (kk : ∀ (X' : Nat → Nat) (n' : Nat) (sp' : Nat → Nat → Int) (G' U' : Nat → Nat → Int), LWI (cn + 1) bN n' sp' per mst idl G' U' → G' 180 0 = G 180 0 → G' 180 1 = G 180 1 → PG p l e R s m args below meth c Q E0 b X' (cells + 1) (slots + 6) 595 (L0 per (bN : Int) mst n' idl i (v : Int) now none, [], zM G' U')) : PG p l e R s m args below meth c Q E0 b X cells slots 266 (L0 per (bN : Int) mst n idl i (v : Int) now none, [], zM G U) := by
  have hw2 := hw
  obtain ⟨hC, hRu, hE, hb0⟩ := hw2
  have hwi2 := hwi
  obtain ⟨hg, h168, hlw, h196, hid, h4, h16, hsp, ⟨hn4, hn5⟩, h182, h1821, h185⟩ := hwi2
  have hok : ∀ X, pOkE (E2 E0 b X) := fun X => hE
  have hr := hRu X cells slots (by omega) (by omega)
  have hI := hg.1.choose_spec.2.2.1
  have hrow := hI.1
  have hnow0 := hrow.2.1.1
  have h5r := hrow.2.2.2.2.2.2.1
  have ha : v / 2 ^ 3 % 2 ^ 4 < 16 := by omega
  have hd : v / 2 ^ 7 % 2 ^ 2 < 4 := by omega
  have h9 : v / 2 ^ 9 % 2 ^ 4 < 16 := by omega
  have h13 : v / 2 ^ 13 % 2 ^ 4 < 16 := by omega
  have h17 : v / 2 ^ 17 % 2 ^ 3 < 8 := by omega
  obtain ⟨av, hav⟩ : ∃ av : Int, av = ((v / 2 ^ 3 % 2 ^ 4 : Nat) : Int) := ⟨_, rfl⟩
  obtain ⟨bv, hbv⟩ : ∃ bv : Int, bv = min 15 (av + ((v / 2 ^ 7 % 2 ^ 2 : Nat) : Int)) := ⟨_, rfl⟩
  obtain ⟨fv, hfv⟩ : ∃ fv : Int, fv = now + ((v / 2 ^ 9 % 2 ^ 4 : Nat) : Int) := ⟨_, rfl⟩
  obtain ⟨tv, htv⟩ : ∃ tv : Int, tv = fv + 1 + ((v / 2 ^ 13 % 2 ^ 4 : Nat) : Int) := ⟨_, rfl⟩
  obtain ⟨kv, hkv⟩ : ∃ kv : Int, kv = ((v / 2 ^ 17 % 2 ^ 3 : Nat) : Int) - 1 := ⟨_, rfl⟩
  have hab : 0 ≤ av ∧ av ≤ bv ∧ bv ≤ 15 := by omega
  have hB : spanB (G 180) (100 * av + bv) fv tv kv = true := by
    unfold spanB colsB
    simp only [Bool.and_eq_true, decide_eq_true_eq]
    omega
  obtain ⟨r, τ, hF, hcase⟩ := xs_keep (by omega) hg (by unfold rg; omega) (by unfold rg; omega) (by unfold rg; omega) (by unfold rg; omega) hB
  obtain ⟨is, hr0, hisr⟩ : ∃ is : Int, r = some (pI (Int32.ofInt is)) ∧ rg is := by
    rcases hcase with ⟨h | h, -⟩ | ⟨-, -, h, -⟩
    · exact ⟨_, h, by unfold rg; omega⟩
    · exact ⟨_, h, by unfold rg; omega⟩
    · exact ⟨_, h, by unfold rg; omega⟩
  subst hr0
  obtain ⟨pB, pC, sLG⟩ := s_LG hr rfl ((ok_X_keep (hok X)).mono (by decide))
  refine sx_wp sLG ?_
  unfold B_LG
  refine wSeq (wAsI (x := av) (by rw [hav]; exact eAnV (eShV (eL rfl) (by decide) (by omega)) (by decide) (by omega)) (Nat.le_of_ble_eq_true rfl) ?_)
  show WpS _ (LGp per (bN : Int) mst n idl i (v : Int) now (some (pI (Int32.ofInt av))) none none none none) _ _ _ _ _
  refine wSeq (wAsI (x := bv) (by rw [hbv]; exact eMin eK (eAdd (eL rfl) (eAnV (eShV (eL rfl) (by decide) (by omega)) (by decide) (by omega))) (by unfold rg; omega) (by unfold rg; omega)) (Nat.le_of_ble_eq_true rfl) ?_)
  show WpS _ (LGp per (bN : Int) mst n idl i (v : Int) now (some (pI (Int32.ofInt av))) (some (pI (Int32.ofInt bv))) none none none) _ _ _ _ _
  refine wSeq (wAsI (x := fv) (by rw [hfv]; exact eAdd (eL rfl) (eAnV (eShV (eL rfl) (by decide) (by omega)) (by decide) (by omega))) (Nat.le_of_ble_eq_true rfl) ?_)
  show WpS _ (LGp per (bN : Int) mst n idl i (v : Int) now (some (pI (Int32.ofInt av))) (some (pI (Int32.ofInt bv))) (some (pI (Int32.ofInt fv))) none none) _ _ _ _ _
  refine wSeq (wAsI (x := tv) (by rw [htv]; exact eAdd (eAdd (eL rfl) eK) (eAnV (eShV (eL rfl) (by decide) (by omega)) (by decide) (by omega))) (Nat.le_of_ble_eq_true rfl) ?_)
  show WpS _ (LGp per (bN : Int) mst n idl i (v : Int) now (some (pI (Int32.ofInt av))) (some (pI (Int32.ofInt bv))) (some (pI (Int32.ofInt fv))) (some (pI (Int32.ofInt tv))) none) _ _ _ _ _
  refine wAsI (x := is) (eCIr (eAR (eLR rfl) (eAI (eAdd (eMul eK (eL rfl)) (eL rfl)) (eAI (eL rfl) (eAI (eL rfl) (eAI (e := bI (fun x y => x - y) (bI (fun x y => x &&& y) (bI (fun x y => x >>> (y &&& 31)) (lI 11) (kI 17)) (kI 7)) (kI 1)) (by rw [show Int32.ofInt kv = Int32.ofInt (((v / 2 ^ 17 % 2 ^ 3 : Nat) : Int) - 1) by rw [hkv]]; exact eSub (eAnV (eShV (eL rfl) (by decide) (by omega)) (by decide) (by omega)) eK) eAN))))) ckx0 hF) (Nat.le_of_ble_eq_true rfl) ?_
  show PG p l e R s m args below meth c Q E0 b X cells slots 348 (LKp per (bN : Int) mst n idl i (v : Int) now av bv fv tv is none none, [], τ)
  rcases hcase with ⟨hr35, rfl⟩ | ⟨hs12, hov, hr5, G1, rfl, G2, U2, g0, g196, g1, g180, g183, g182, g185, g168⟩
  · have his : is = -3 ∨ is = -5 := by
      rcases hr35 with h | h
      · have h1 : Int32.ofInt is = Int32.ofInt (-3) := by injection h with h; injection h
        rw [iI_eq hisr (by omega)] at h1
        exact Or.inl h1
      · have h1 : Int32.ofInt is = Int32.ofInt (-5) := by injection h with h; injection h
        rw [iI_eq hisr (by omega)] at h1
        exact Or.inr h1
    refine xb_wp (s_LH hr rfl) ⟨false, _, eAndF (eGeB (eL rfl) eK hisr (by unfold rg; omega) (decide_eq_false (by omega))), fun h => (by cases h), fun _ => ?_⟩
    refine lj_end hw (by omega) (by omega) (by omega) hisr (by omega) ?_
    exact pG_widen (by omega) (by omega) (kk X n sp G U (LWI_nx hwi (allI_up hg) (fun _ _ => ⟨rfl, rfl⟩) rfl rfl h168 hlw (fun _ _ => rfl) rfl rfl rfl (Int.le_refl _)) rfl rfl)
  · have his : is = G 180 5 := by
      have h1 : Int32.ofInt is = Int32.ofInt (G 180 5) := by injection hr5 with h; injection h
      rw [iI_eq hisr (by omega)] at h1
      exact h1
    refine pG_re g0 ?_
    have hI2 : rowI (G2 180) := g1.1.choose_spec.2.2.1
    have hsl : slotF (G 180) < 12 := slot_lt hs12
    have k5 : G2 180 5 = G 180 5 + 1 := by rw [g180]; exact keep_5
    have klow : ∀ y, y < 24 → y ≠ 5 → G2 180 y = G 180 y := fun y h1 h2 => by rw [g180]; exact keep_o hsl (Or.inl h1) h2
    by_cases hn : n < 4
    · refine xb_wp (s_LH hr rfl) ⟨true, _, eAndT (eGeB (eL rfl) eK hisr (by unfold rg; omega) (decide_eq_true (by omega))) (eLtB (eL rfl) eK (by unfold rg; omega) (by unfold rg; omega) (decide_eq_true (by omega))), fun _ => ?_, fun h => (by cases h)⟩
      refine hr.1 _ _ _ _ _ _ dL_law_359 ⟨rfl, ?_⟩
      rw [show (Int8.ofInt 6).toInt32 = Int32.ofNat 6 by decide]
      refine pG_newI (hC X cells slots (by omega) (by omega)) (k := 198) (by decide) (by decide +kernel) (by decide) hb0 dL_law_361 ⟨fun j x hj => ?_, fun x hx => by simp at hx⟩ hc hs (fun a => ?_)
      · have := List.mem_of_getElem? hj
        simp at this
        omega
      have hr2 := hRu (Xn X 198 a) (cells + 1) (slots + 6) hc hs
      refine told6 hw hc hs hv hkv (fun Gb hGb hGb2 => ?_)
      refine hr2.1 _ _ _ _ _ _ dL_law_401 ⟨rfl, _, _, rfl, Nat.le_of_ble_eq_true rfl, ?_⟩
      show PG p l e R s m args below meth c Q E0 b (Xn X 198 a) (cells + 1) (slots + 6) 403 (LKp per (bN : Int) mst n idl i (v : Int) now av bv fv tv is (some (pR 198)) none, [], zM Gb (zR U2 198))
      have eGb : ∀ x, x ≠ 198 → Gb x = G2 x := fun x hx => by
        rw [hGb x hx]
        funext y
        exact if_neg hx
      have eUb : ∀ x, x ≠ 198 → zR U2 198 x = U2 x := fun x hx => by
        funext y
        exact if_neg hx
      generalize zR U2 198 = Ub at *
      obtain ⟨pB2, pC2, sLI⟩ := s_LI hr2 rfl
      refine sx_wp sLI ?_
      refine li_all hn (fun G3 hG3 hG3r => ?_)
      have eG3 : ∀ x, x ≠ 197 → x ≠ 198 → G3 x = G2 x := fun x h1 h2 => (hG3 x h1).trans (eGb x h2)
      have e3 : G3 180 = G2 180 := eG3 180 (by omega) (by omega)
      have hg3 : allI (cn + 1) G3 Ub := allI_own g1 (fun x hx => eG3 x (by omega) (by omega)) (fun x hx => eUb x (by omega))
      refine lj_end hw hc hs (n := n + 1) (by omega) hisr (Or.inr (Or.inr ⟨by omega, by omega⟩)) ?_
      obtain ⟨sp', hsp'⟩ : ∃ sp' : Nat → Nat → Int, sp' = fun z => if z = n then (fun y => Gb 198 y) else sp z := ⟨_, rfl⟩
      have hspn : sp' n = fun y => Gb 198 y := by rw [hsp']; exact if_pos rfl
      have hspo : ∀ z, z < n → sp' z = sp z := fun z hz => by rw [hsp']; exact if_neg (by omega)
      have hlaw : lawI bN (n + 1) sp' (G2 180) (U 183) := by
        rw [g180]
        rw [g180] at hI2
        refine law_keep1 hbN hI hI2 hs12 hlw hspo ?_ (by omega)
        rw [hspn]
        obtain ⟨z0, z1, z2, z3, z4, z5⟩ := hGb2
        refine ⟨by show Gb 198 0 = _; rw [z0]; omega, by show Gb 198 1 = _; rw [z1]; omega, z2, z3, z4, by show Gb 198 5 = _; rw [z5]; exact hnw⟩
      refine kk _ (n + 1) sp' G3 Ub ⟨hg3, by rw [eG3 168 (by omega) (by omega), g168]; exact h168, by rw [e3, eUb 183 (by omega), g183]; exact hlaw, fun y hy => ?_, by rw [eUb 183 (by omega), g183]; exact hid, by rw [e3, klow 4 (by omega) (by omega)]; exact h4, by rw [e3, klow (16 + bN) (by omega) (by omega)]; exact h16, fun z hz y hy => ?_, ⟨by omega, by rw [e3, k5]; omega⟩, by rw [eG3 182 (by omega) (by omega), g182]; exact h182, by rw [eG3 182 (by omega) (by omega), g182]; exact h1821, fun y hy => by rw [eUb 185 (by omega), g185]; exact h185 y hy⟩ (by rw [e3]; exact klow 0 (by omega) (by omega)) (by rw [e3]; exact klow 1 (by omega) (by omega))
      · rw [eUb 196 (by omega), (g196 196 (by omega)).2, eUb 183 (by omega), g183]
        exact h196 y hy
      · rw [hG3r]
        by_cases hzn : z = n
        · subst hzn
          rw [if_pos (by omega), hspn, show 6 * z + y - 6 * z = y by omega]
          refine ⟨rfl, ?_⟩
          obtain ⟨z0, z1, z2, z3, z4, z5⟩ := hGb2
          rcases (by omega : y = 0 ∨ y = 1 ∨ y = 2 ∨ y = 3 ∨ y = 4 ∨ y = 5) with rfl | rfl | rfl | rfl | rfl | rfl
          · show rg (Gb 198 0); rw [z0]; omega
          · show rg (Gb 198 1); rw [z1]; omega
          · show rg (Gb 198 2); rw [z2]; omega
          · show rg (Gb 198 3); rw [z3]; omega
          · show rg (Gb 198 4); rw [z4]; omega
          · show rg (Gb 198 5); rw [z5]; omega
        · rw [if_neg (by omega), hspo z (by omega), eGb 197 (by omega), (g196 197 (by omega)).1]
          exact hsp z (by omega) y hy
    · refine xb_wp (s_LH hr rfl) ⟨false, _, eAndT (eGeB (eL rfl) eK hisr (by unfold rg; omega) (decide_eq_true (by omega))) (eLtB (eL rfl) eK (by unfold rg; omega) (by unfold rg; omega) (decide_eq_false (by omega))), fun h => (by cases h), fun _ => ?_⟩
      refine lj_end hw (by omega) (by omega) (by omega) hisr (Or.inr (Or.inr ⟨by omega, by omega⟩)) ?_
      have hlaw : lawI bN n sp (G2 180) (U2 183) := by
        rw [g183, g180]
        rw [g180] at hI2
        exact law_keep hbN hI hI2 hs12 hlw
      exact pG_widen (by omega) (by omega) (kk X n sp G2 U2 (LWI_nx hwi g1 g196 g182 g185 (by rw [g168]; exact h168) hlaw (fun _ _ => by rw [g183]) (by rw [g183]) (klow 4 (by omega) (by omega)) (klow (16 + bN) (by omega) (by omega)) (by rw [k5]; omega)) (klow 0 (by omega) (by omega)) (klow 1 (by omega) (by omega)))
end KPG
