/-! ===== the law's head ===== -/
def HI (c a : Nat) (per : Int) (G U : Nat → Nat → Int) : Prop := allI c G U ∧ G 168 0 = 0 ∧ (G 180 0 = 0 ∧ G 180 1 = 0 ∧ 0 ≤ G 180 5 ∧ G 180 6 = 0 ∧ G 180 4 = per) ∧ (∀ b : Nat, a ≤ b → b < 8 → G 180 (8 + b) = 10) ∧ (∀ b : Nat, b < 8 → G 180 (16 + b) = 16) ∧ G 182 0 = 0 ∧ G 182 1 = 0 ∧ (∀ b : Nat, U 183 b = 0) ∧ ∀ b : Nat, U 185 b = 0
theorem HI_put {c c' a a' k : Nat} {per per' w : Int} {G U G2 U2 : Nat → Nat → Int} (h : HI c a per G U) (hg : allI c' G2 U2) (h180 : G2 180 = put (G 180) k w) (h183 : U2 183 = U 183) (h182 : G2 182 = G 182) (h185 : U2 185 = U 185) (h168 : G2 168 0 = G 168 0) (hk : 2 ≤ k ∧ k < 16 ∧ k ≠ 5 ∧ k ≠ 6) (h4 : put (G 180) k w 4 = per') (hw : ∀ b : Nat, a' ≤ b → b < 8 → put (G 180) k w (8 + b) = 10) : HI c' a' per' G2 U2 := by
  obtain ⟨b1, b2, ⟨b3, b4, b5, b6, b7⟩, b8, b9, b10, b11, b12, b13⟩ := h
  refine ⟨hg, by rw [h168]; exact b2, ⟨?_, ?_, ?_, ?_, by rw [h180]; exact h4⟩, fun b x y => by rw [h180]; exact hw b x y, fun b hb => ?_, by rw [h182]; exact b10, by rw [h182]; exact b11, fun b => by rw [h183]; exact b12 b, fun b => by rw [h185]; exact b13 b⟩
  · rw [h180, put_o (by omega)]; exact b3
  · rw [h180, put_o (by omega)]; exact b4
  · rw [h180, put_o (by omega)]; exact b5
  · rw [h180, put_o (by omega)]; exact b6
  · rw [h180, put_o (by omega)]; exact b9 b hb
theorem zR_o {G : Nat → Nat → Int} {k a : Nat} (h : a ≠ k) : zR G k a = G a := by
  funext b
  exact if_neg h
theorem zR_at {G : Nat → Nat → Int} {k b : Nat} : zR G k k b = 0 := if_pos rfl
theorem HI_zR {c a : Nat} {per : Int} {G U : Nat → Nat → Int} {k : Nat} (hk : 196 ≤ k) (h : HI c a per G U) : HI c a per (zR G k) (zR U k) := by
  obtain ⟨b1, b2⟩ := h
  refine ⟨allI_own b1 (fun x hx => zR_o (by omega)) (fun x hx => zR_o (by omega)), ?_⟩
  rw [zR_o (G := G) (a := 168) (by omega), zR_o (G := G) (a := 180) (by omega), zR_o (G := G) (a := 182) (by omega), zR_o (G := U) (a := 183) (by omega), zR_o (G := U) (a := 185) (by omega)]
  exact b2
section HEAD
variable {p : Program} {l : Launch} {e : Env} {R : Room} {s : State} {m : MethodId} {args : Array Value} {below : List Frame} {meth : Method} {c : Code} {Q : State → Prop} {E0 : cEnv} {b k : Nat} {xs : Nat → Int32} {RT : Option pV → pM → Prop}
abbrev LHd (a2 a3 a4 a5 a6 : Option pV) : pLo := [some (pR 5000), some (pR 0), a2, a3, a4, a5, a6, none, none, none, none, none, none, none, none, none, none, none, none, none, none, none, none]
set_option maxHeartbeats 2000000 in
theorem head2_G (hw : lwR p l e R s m args below meth c Q E0 b k xs RT) {q : xA} (hq : lwQ E0 R s q) {X : Nat → Nat} {cells slots cn : Nat} {per : Int} {a4 : Option pV} {G U : Nat → Nat → Int} (h : HI cn 8 per G U) (h196 : ∀ b, U 196 b = 0) (hcn : cn ≤ 12) (hc : cells + 1 + 28 * 24 ≤ R.cells) (hs : slots + 24 + 808 * 24 ≤ R.slots) (hRT : ∀ σ, RT (some (pI (Int32.ofInt 1))) σ) : PG p l e R s m args below meth c Q E0 b X cells slots 92 (LHd (some (pR 196)) (some (pI (Int32.ofInt per))) a4 none none, [], zM G U) := by
  have hw2 := hw
  obtain ⟨hC, hRu, hE, hb0⟩ := hw2
  have hok : ∀ X, pOkE (E2 E0 b X) := fun X => hE
  have hr := hRu X cells slots (by omega) (by omega)
  obtain ⟨v, hv, hcell⟩ := cell_v k xs (z := 2) (by omega)
  obtain ⟨bN, hbN⟩ : ∃ bN : Nat, v % 2 ^ 3 = bN := ⟨_, rfl⟩
  have hb8 : bN < 8 := by omega
  obtain ⟨mst, hmst⟩ : ∃ mst : Int, mst = 4 + ((v % 13 : Nat) : Int) := ⟨_, rfl⟩
  have hm13 : v % 13 < 13 := Nat.mod_lt _ (by decide)
  obtain ⟨pB, pC, sA6⟩ := s_LA6 hr rfl
  refine sx_wp sA6 ?_
  unfold B_LA6
  refine wSeq (wAsI (x := (bN : Int)) (τ := zM G U) (by rw [← hbN]; exact eAnV (q := 3) (eQ (z := 2) (eLR rfl) rfl (by omega) hcell) (by decide) (by omega)) (Nat.le_of_ble_eq_true rfl) ?_)
  show WpS _ (LHd (some (pR 196)) (some (pI (Int32.ofInt per))) (some (pI (Int32.ofInt (bN : Int)))) none none) _ _ _ _ _
  refine wAsI (x := mst) (τ := zM G U) (by rw [hmst]; exact eAdd eK (eRmV (v := v) (d := 13) (eQ (z := 2) (eLR rfl) rfl (by omega) hcell) rfl (by omega) (by decide) (by decide))) (Nat.le_of_ble_eq_true rfl) ?_
  show PG p l e R s m args below meth c Q E0 b X cells slots 114 (LHd (some (pR 196)) (some (pI (Int32.ofInt per))) (some (pI (Int32.ofInt (bN : Int)))) (some (pI (Int32.ofInt mst))) none, [], zM G U)
  obtain ⟨b1, b2, ⟨b3, b4, b5, b6, b7⟩, b8, b9, b10, b11, b12, b13⟩ := h
  obtain ⟨r, τ, hF, rfl, G1, rfl, G2, U2, g0, g196, g1, g180, g183, g182, g185, g168⟩ := xs_limit b1 (k := bN) (w := mst) hb8 (by omega)
  rw [b9 bN hb8] at hF
  refine s_LA7 hr rfl ((ok_X_limit (hok X)).mono (by decide)) _ [] _ _ _ (by decide) (eCIr (eAR (eLR rfl) (eAI (eL rfl) (eAI (eL rfl) eAN))) ckx0 hF) ?_
  refine pG_re g0 ?_
  refine hr.1 _ _ _ _ _ _ dL_law_122 ⟨rfl, ?_⟩
  refine hr.1 _ _ _ _ _ _ dL_law_124 ⟨rfl, 129, _, _, _, rfl, rfl, fun _ => ?_, fun h => absurd rfl h⟩
  refine hr.1 _ _ _ _ _ _ dL_law_129 ⟨rfl, ?_⟩
  refine pG_newI (hC X cells slots (by omega) (by omega)) (k := 197) (N := 24) (by decide) (by decide +kernel) (by decide) hb0 dL_law_131 ⟨fun j x hj => ?_, fun x hx => by simp at hx⟩ (by omega) (by omega) (fun a => ?_)
  · have := List.mem_of_getElem? hj
    simp at this
    omega
  have hr2 := hRu (Xn X 197 a) (cells + 1) (slots + 24) (by omega) (by omega)
  refine hr2.1 _ _ _ _ _ _ dL_law_133 ⟨rfl, _, _, rfl, Nat.le_of_ble_eq_true rfl, ?_⟩
  obtain ⟨pB2, pC2, sB⟩ := s_LB hr2 rfl
  refine sx_wp sB ?_
  unfold B_LB
  refine wSeq (wAsI (x := 0) eK (Nat.le_of_ble_eq_true rfl) ?_)
  refine wSeq (wAsJ (x := 0) eKJ (Nat.le_of_ble_eq_true rfl) ?_)
  refine wAsI (x := 0) eK (Nat.le_of_ble_eq_true rfl) ?_
  have hlow : ∀ y, y < 16 → G2 180 y = G 180 y := fun y hy => by rw [g180, put_o (by omega)]
  have hlw : LWI (cn + 1) bN 0 (fun _ _ => 0) per mst 0 (zR G2 197) (zR U2 197) := by
    refine ⟨allI_own g1 (fun x hx => zR_o (by omega)) (fun x hx => zR_o (by omega)), ?_⟩
    rw [zR_o (G := G2) (a := 168) (by omega), zR_o (G := G2) (a := 180) (by omega), zR_o (G := G2) (a := 182) (by omega), zR_o (G := U2) (a := 183) (by omega), zR_o (G := U2) (a := 185) (by omega), zR_o (G := U2) (a := 196) (by omega)]
    refine ⟨by rw [g168]; exact b2, law_start (by rw [hlow 1 (by omega)]; exact b4) (by rw [hlow 6 (by omega)]; exact b6) (by rw [g180, put_at]; omega) (by rw [g183]; exact ⟨b12 _, b12 _, b12 _⟩), fun a ha => by rw [(g196 196 (by omega)).2, g183, h196, b12], by rw [g183]; exact b12 14, by rw [hlow 4 (by omega)]; exact b7, by rw [g180, put_at], fun s hs => absurd hs (Nat.not_lt_zero s), ⟨by omega, by rw [hlow 5 (by omega)]; exact b5⟩, by rw [g182]; exact b10, by rw [g182]; exact b11, fun a ha => by rw [g185]; exact b13 a⟩
  have h0n : zR G2 197 180 0 = 0 := by rw [zR_o (by omega), hlow 0 (by omega)]; exact b3
  have h1n : zR G2 197 180 1 = 0 := by rw [zR_o (by omega), hlow 1 (by omega)]; exact b4
  have := loop_G hw hq hb8 (per := per) (mst := mst) (fun X' n' sp' id' G' U' c' cells' slots' k1 k2 k3 k4 k5 k6 => end_G hw k4 k6 hb8 k1 k2 hRT) 24 0 rfl (Xn X 197 a) (cells + 1) (slots + 24) (cn + 1) 0 (fun _ _ => 0) 0 (zR G2 197) (zR U2 197) hlw (by omega) (by rw [h0n]; decide) (by rw [h1n]; decide) hc hs
  exact this
set_option maxHeartbeats 2000000 in
theorem head_G (hw : lwR p l e R s m args below meth c Q E0 b k xs RT) {q : xA} (hq : lwQ E0 R s q) {X : Nat → Nat} {cells slots : Nat} {G U : Nat → Nat → Int} (h : HI 0 0 0 G U) (h2 : G 180 2 = 1) (hc : cells + 2 + 28 * 24 ≤ R.cells) (hs : slots + 32 + 808 * 24 ≤ R.slots) (hRT : ∀ σ, RT (some (pI (Int32.ofInt 1))) σ) : PG p l e R s m args below meth c Q E0 b X cells slots 8 (LHd none none none none none, [], zM G U) := by
  have hw2 := hw
  obtain ⟨hC, hRu, hE, hb0⟩ := hw2
  have hok : ∀ X, pOkE (E2 E0 b X) := fun X => hE
  have hr := hRu X cells slots (by omega) (by omega)
  refine hr.1 _ _ _ _ _ _ dL_law_8 ⟨rfl, ?_⟩
  refine pG_newJ (hC X cells slots (by omega) (by omega)) (k := 196) (N := 8) (by decide) (by decide +kernel) (by decide) hb0 dL_law_10 ⟨fun j x hj => ?_, fun x hx => by simp at hx⟩ (by omega) (by omega) (fun a => ?_)
  · have := List.mem_of_getElem? hj
    simp at this
    omega
  have hI := HI_zR (k := 196) (by omega) h
  have h2z : zR G 196 180 2 = 1 := by rw [zR_o (by omega)]; exact h2
  have h196 : ∀ b, zR U 196 196 b = 0 := fun b => zR_at
  generalize zR G 196 = Ga at hI h2z ⊢
  generalize zR U 196 = Ua at hI h196 ⊢
  generalize Xn X 196 a = Xa
  have hr := hRu Xa (cells + 1) (slots + 8) (by omega) (by omega)
  refine hr.1 _ _ _ _ _ _ dL_law_12 ⟨rfl, _, _, rfl, Nat.le_of_ble_eq_true rfl, ?_⟩
  obtain ⟨v, hv, hcell⟩ := cell_v k xs (z := 0) (by omega)
  obtain ⟨v1, hv1, hcell1⟩ := cell_v k xs (z := 1) (by omega)
  obtain ⟨per, hper⟩ : ∃ per : Int, per = ((v % 12 : Nat) : Int) := ⟨_, rfl⟩
  have hm12 : v % 12 < 12 := Nat.mod_lt _ (by decide)
  obtain ⟨pB, pC, sA⟩ := s_LA hr rfl
  refine sx_wp sA ?_
  unfold B_LA
  refine wAsI (x := per) (τ := zM Ga Ua) (by rw [hper]; exact eRmV (v := v) (d := 12) (eQ (z := 0) (eLR rfl) rfl (by omega) hcell) rfl (by omega) (by decide) (by decide)) (Nat.le_of_ble_eq_true rfl) ?_
  show PG p l e R s m args below meth c Q E0 b Xa (cells + 1) (slots + 8) 22 (LHd (some (pR 196)) (some (pI (Int32.ofInt per))) none none none, [], zM Ga Ua)
  have hR2 : isRuleF ((2 : Nat) : Int) per = true := by
    show (decide (0 ≤ per ∧ per ≤ 100)) = true
    exact decide_eq_true (by omega)
  obtain ⟨r, τ, hF, rfl, G1, rfl, G2, U2, g0, g196, g1, g180, g183, g182, g185, g168⟩ := xs_rule hI.1 (k := 2) (w := per) (by unfold rg; omega) hR2
  rw [show Ga 180 (2 + 2) = 0 from hI.2.2.1.2.2.2.2] at hF
  refine s_LA2 hr rfl ((ok_X_rule (hok Xa)).mono (by decide)) _ [] _ _ _ (by decide) (eCIr (eAR (eLR rfl) (eAI eK (eAI (eL rfl) eAN))) ckx0 hF) ?_
  refine pG_re g0 ?_
  refine hr.1 _ _ _ _ _ _ dL_law_28 ⟨rfl, 49, _, _, rfl, rfl, fun h => absurd rfl h, fun _ => ?_⟩
  have hI2 : HI 1 0 per G2 U2 := HI_put hI g1 g180 g183 g182 g185 g168 (by omega) put_at (fun b x y => by rw [put_o (by omega)]; exact hI.2.2.2.1 b x y)
  have h2z2 : G2 180 2 = 1 := by rw [g180, put_o (by omega)]; exact h2z
  have h1962 : ∀ b, U2 196 b = 0 := fun b => by rw [(g196 196 (by omega)).2]; exact h196 b
  have h42 : v / 2 ^ 4 % 2 ^ 2 < 4 := by omega
  have hR0 : isRuleF ((0 : Nat) : Int) ((v / 2 ^ 4 % 2 ^ 2 : Nat) : Int) = true := by
    show (decide (0 ≤ ((v / 2 ^ 4 % 2 ^ 2 : Nat) : Int) ∧ ((v / 2 ^ 4 % 2 ^ 2 : Nat) : Int) ≤ 4)) = true
    exact decide_eq_true (by omega)
  obtain ⟨r, τ, hF3, rfl, G3, rfl, G4, U4, f0, f196, f1, f180, f183, f182, f185, f168⟩ := xs_rule hI2.1 (k := 0) (w := ((v / 2 ^ 4 % 2 ^ 2 : Nat) : Int)) (by unfold rg; omega) hR0
  rw [show G2 180 (2 + 0) = 1 from h2z2] at hF3
  refine s_LA3 hr rfl ((ok_X_rule (hok Xa)).mono (by decide)) _ [] _ _ _ (by decide) (eCIr (eAR (eLR rfl) (eAI eK (eAI (eAnV (q := 2) (eShV (q := 4) (eQ (z := 0) (eLR rfl) rfl (by omega) hcell) (by decide) (by omega)) (by decide) (by omega)) eAN))) ckx0 hF3) ?_
  refine pG_re f0 ?_
  refine hr.1 _ _ _ _ _ _ dL_law_45 ⟨rfl, ?_⟩
  refine hr.1 _ _ _ _ _ _ dL_law_46 ⟨rfl, 51, _, _, _, rfl, rfl, fun _ => ?_, fun h => absurd rfl h⟩
  have hI4 : HI 2 0 per G4 U4 := HI_put hI2 f1 f180 f183 f182 f185 f168 (by omega) (by rw [put_o (by omega)]; exact hI2.2.2.1.2.2.2.2) (fun b x y => by rw [put_o (by omega)]; exact hI2.2.2.2.1 b x y)
  have h1964 : ∀ b, U4 196 b = 0 := fun b => by rw [(f196 196 (by omega)).2]; exact h1962 b
  refine hr.1 _ _ _ _ _ _ dL_law_51 ⟨rfl, ?_⟩
  refine hr.1 _ _ _ _ _ _ dL_law_52 ⟨rfl, _, _, rfl, Nat.le_of_ble_eq_true rfl, ?_⟩
  have hloop : ∀ (q1 a : Nat), a + q1 = 8 → ∀ (G' U' : Nat → Nat → Int), HI (2 + a) a per G' U' → (∀ b, U' 196 b = 0) → PG p l e R s m args below meth c Q E0 b Xa (cells + 1) (slots + 8) 54 (LHd (some (pR 196)) (some (pI (Int32.ofInt per))) (some (pI (Int32.ofInt (a : Int)))) none none, [], zM G' U') := by
    intro q1
    induction q1 with
    | zero =>
      intro a ha G' U' k1 k2
      obtain rfl : a = 8 := by omega
      refine xb_wp (s_LA4 hr rfl) ?_
      refine ⟨false, zM G' U', ?_, fun h => (by cases h), fun _ => head2_G hw hq k1 k2 (by omega) (by omega) (by omega) hRT⟩
      unfold C_LA4
      rw [eLt (x := (8 : Int)) (y := 8) (eL rfl) eK (by unfold rg; omega) (by unfold rg; omega), decide_eq_false (by omega)]
    | succ q1 ih =>
      intro a ha G' U' k1 k2
      refine xb_wp (s_LA4 hr rfl) ?_
      refine ⟨true, zM G' U', ?_, fun _ => ?_, fun h => (by cases h)⟩
      · show C_LA4 _ _ = _
        unfold C_LA4
        rw [eLt (x := (a : Int)) (y := 8) (eL rfl) eK (by unfold rg; omega) (by unfold rg; omega), decide_eq_true (by omega)]
      have hmod : v1 % (a + 2) < a + 2 := Nat.mod_lt _ (by omega)
      obtain ⟨wv, hwv⟩ : ∃ wv : Int, wv = 1 + ((v1 % (a + 2) : Nat) : Int) := ⟨_, rfl⟩
      obtain ⟨r, τ, hF5, rfl, G5, rfl, G6, U6, d0, d196, d1, d180, d183, d182, d185, d168⟩ := xs_weight k1.1 (k := a) (w := wv) (by omega) (by omega)
      rw [k1.2.2.2.1 a (Nat.le_refl _) (by omega)] at hF5
      refine s_LA5 hr rfl ((ok_X_weight (hok Xa)).mono (by decide)) _ [] _ _ _ (by decide) (eCIr (eAR (eLR rfl) (eAI (eL rfl) (eAI (x := wv) (by rw [hwv]; exact eAdd eK (eRmV (v := v1) (d := a + 2) (eQ (z := 1) (eLR rfl) rfl (by omega) hcell1) (by have z := eAdd (x := (a : Int)) (y := 2) (L := LHd (some (pR 196)) (some (pI (Int32.ofInt per))) (some (pI (Int32.ofInt (a : Int)))) none none) (σ := zM G' U') (a := lI 4) (b := kI 2) (eL rfl) eK; rw [show (((a + 2 : Nat)) : Int) = (a : Int) + 2 by omega]; exact z) (by omega) (by omega) (by omega))) eAN))) ckx0 hF5) ?_
      refine pG_re d0 ?_
      refine hr.1 _ _ _ _ _ _ dL_law_79 ⟨rfl, ?_⟩
      refine hr.1 _ _ _ _ _ _ dL_law_81 ⟨rfl, 86, _, _, _, rfl, rfl, fun _ => ?_, fun h => absurd rfl h⟩
      refine hr.1 _ _ _ _ _ _ dL_law_86 ⟨rfl, _, rfl, ?_⟩
      rw [iI_add]
      refine hr.1 _ _ _ _ _ _ dL_law_89 ⟨rfl, 54, rfl, ?_⟩
      have := ih (a + 1) (by omega) G6 U6 (HI_put k1 d1 d180 d183 d182 d185 d168 (by omega) (by rw [put_o (by omega)]; exact k1.2.2.1.2.2.2.2) (fun b x y => by rw [put_o (by omega)]; exact k1.2.2.2.1 b (by omega) y)) (fun b => by rw [(d196 196 (by omega)).2]; exact k2 b)
      exact this
  exact hloop 8 0 rfl G4 U4 hI4 h1964
end HEAD
