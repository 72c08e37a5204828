theorem nI_iI (n : Nat) : nI n = Int32.ofInt (n : Int) := by
  first
    | exact (Int32.ofInt_natCast n).symm
    | exact (Int32.ofInt_ofNat n).symm
    | (apply Int32.toBitVec_inj.mp; simp [nI, Int32.ofNat, Int32.ofInt, BitVec.ofInt_natCast])
def tlPre (E : pEnv) (q : xA) (b sv : Nat) (tx : Tx) (As : List pV) (σ : pM) : Array Value → State → Prop := va_Pc (As.map (pv E.1)) (fun U => pHp E σ U.heap ∧ va_K E.2.1 classes E.2.2.2.1 U ∧ pNw U ∧ tSd E q b sv tx U)
def exPost (E : pEnv) (r : Option pV) (Φ : pM → Prop) : Array Value → State → Outcome → State → Prop := fun _ st oc t => oc = .returned (r.map (pv E.1)) ∧ (∃ τ, Φ τ ∧ pHp E τ t.heap) ∧ va_F E.2.2.2.2.2 st t
def tlF (c : Nat) (G U : Nat → Nat → Int) (tx : Tx) (n : Nat) (G' : Nat → Nat → Int) : Prop := allI c G' U ∧ G' 180 = G 180 ∧ G' 182 = G 182 ∧ (∀ k, 196 ≤ k → G' k = G k) ∧ G' 168 0 = (n : Int) ∧ ∀ j, j < n → G' 169 j = (tx.1 j : Int)
set_option maxHeartbeats 2000000 in
theorem met_tell {l : Launch} {E : pEnv} (hE : pOkE E) {q : xA} {b sv c : Nat} {tx : Tx} {G U : Nat → Nat → Int} (hg : allI c G U) (h0 : G 168 0 = 0) (hn : tx.2 ≤ 40) (h8 : tx8 tx) (hL : txR tx) : Met l yL_tell (Cond.code yL_tell cL_tell 3 (some .boolean) :: tb) (cRm 6 0 0) (tlPre E q b sv tx [pR 0, pR 6000] (zM G U)) (exPost E (some (pI 1)) (fun τ => ∃ G', τ = zM G' U ∧ tlF c G U tx tx.2 G')) 0 0 E.2.2.2.2.2 := by
  refine Met.ofW (cc := cL_tell) (maxL := 3) (ret := some .boolean) (by decide +kernel) rfl ?_
  intro p e s m args below meth cd s₁ B hml hv
  obtain ⟨rfl, hH, hK, hnw, hsd⟩ := hv
  have hts : ∀ w ∈ tb, w.before ([pR 0, pR 6000].map (pv E.1)).toArray s = true := fun w hw => atoms_spec (ws := Cond.code yL_tell cL_tell 3 (some .boolean) :: tb) B.pre w (List.mem_cons_of_mem _ hw)
  have hr := B.returns
  have hx := B.exec
  have hb := B.bytes
  have hlocks := B.notSynchronized
  have C : pCx p (headSpec (Cond.code yL_tell cL_tell 3 (some .boolean) :: tb) (cRm 6 0 0)).room s m ([pR 0, pR 6000].map (pv E.1)).toArray meth cd E s.heap RL cL_tell 3 5 0 0 none :=
    ⟨hx, hb, hml, findClass_of_methodNamed B.named, hts, hK, hE, Nat.le_refl _, Nat.le_refl _, Nat.zero_le _, Nat.zero_le _, hlocks, hnw, fun a k xs z => by cases z⟩
  have hRu := pG_sound (l := l) (e := e) (below := below) (Q := MQ below (exPost E (some (pI 1)) (fun τ => ∃ G', τ = zM G' U ∧ tlF c G U tx tx.2 G')) ([pR 0, pR 6000].map (pv E.1)).toArray s 0 0 E.2.2.2.2.2) (RT := fun v τ => v = some (pI 1) ∧ ∃ G', τ = zM G' U ∧ tlF c G U tx tx.2 G') C
    (by
      intro pc L τ v hd hv hlen2 hR ls H locs hl hH1 hS
      obtain ⟨hv1, hΦ⟩ := hv
      cases hv1
      rcases hd with ⟨hd, x, hxx⟩ | ⟨hd, x, hxx⟩ | ⟨hd, x, hxx⟩
      · exact W.zret hx hb hr rfl (fun t ht _ => ⟨rfl, ⟨τ, hΦ, by rw [ht]; exact hH1⟩, hS.F ht⟩) hS.2.2 hd hlocks
      · cases hxx
      · cases hxx)
    (by
      intro pc L τ hd hv
      cases hv.1)
  have hfin : ∀ G', tlF c G U tx tx.2 G' → pG p l e (headSpec (Cond.code yL_tell cL_tell 3 (some .boolean) :: tb) (cRm 6 0 0)).room s m ([pR 0, pR 6000].map (pv E.1)).toArray below meth cd (MQ below (exPost E (some (pI 1)) (fun τ => ∃ G', τ = zM G' U ∧ tlF c G U tx tx.2 G')) ([pR 0, pR 6000].map (pv E.1)).toArray s 0 0 E.2.2.2.2.2) E s.heap 3 0 0 33 ([some (pR 0), some (pR 6000), some (pI (nI tx.2))], [], zM G' U) := by
    intro G' hG'
    obtain ⟨f1, f2, f3, f4, f5, f6⟩ := id hG'
    refine hRu.1 _ _ _ _ _ _ dL_tell_33 ⟨rfl, _, rfl, ?_⟩
    refine hRu.1 _ _ _ _ _ _ dL_tell_34 ⟨rfl, ?_⟩
    have hcnt := xr_count f1 (t := 5) (by decide)
    have hcv : cntV (G' 180) (G' 168 0) 5 = (tx.2 : Int) := by rw [f5]; rfl
    rw [hcv] at hcnt
    refine hRu.1 _ _ _ _ _ _ dL_tell_35 ⟨rfl, yX11_count, 1, 11, 0, [pI (Int32.ofInt ((5 : Nat) : Int))], [], _, _, cv_L_24, rfl, rfl, by decide +kernel, by decide, (ok_X_count hE).mono (by decide) _ _ _ _ hcnt, ?_⟩
    refine hRu.1 _ _ _ _ _ _ dL_tell_38 ⟨rfl, _, rfl, ?_⟩
    refine pG_str (As := []) (rest := [pI (Int32.ofInt (tx.2 : Int))]) (x := nI tx.2) C hsd dL_tell_39 jc_L_8 rfl (Or.inl rfl) (Nat.le_of_ble_eq_true rfl) (fun Et hok e1 e2 => by rw [← e1]; exact tm_strLength hok) (by decide) (by decide) ?_
    refine hRu.1 _ _ _ _ _ _ dL_tell_42 ⟨rfl, 49, _, _, _, rfl, rfl, fun h => absurd (nI_iI tx.2).symm h, fun _ => ?_⟩
    refine hRu.1 _ _ _ _ _ _ dL_tell_45 ⟨rfl, ?_⟩
    refine hRu.1 _ _ _ _ _ _ dL_tell_46 ⟨rfl, 50, rfl, ?_⟩
    exact hRu.1 _ _ _ _ _ _ dL_tell_50 ⟨rfl, _, rfl, rfl, G', rfl, hG'⟩
  have hloop : ∀ (k i : Nat), i + k = tx.2 → ∀ G', tlF c G U tx i G' → pG p l e (headSpec (Cond.code yL_tell cL_tell 3 (some .boolean) :: tb) (cRm 6 0 0)).room s m ([pR 0, pR 6000].map (pv E.1)).toArray below meth cd (MQ below (exPost E (some (pI 1)) (fun τ => ∃ G', τ = zM G' U ∧ tlF c G U tx tx.2 G')) ([pR 0, pR 6000].map (pv E.1)).toArray s 0 0 E.2.2.2.2.2) E s.heap 3 0 0 2 ([some (pR 0), some (pR 6000), some (pI (nI i))], [], zM G' U) := by
    intro k
    induction k with
    | zero =>
      intro i hi G' hG'
      have ei : i = tx.2 := by omega
      subst ei
      refine hRu.1 _ _ _ _ _ _ dL_tell_2 ⟨rfl, _, rfl, ?_⟩
      refine hRu.1 _ _ _ _ _ _ dL_tell_3 ⟨rfl, _, rfl, ?_⟩
      refine pG_str (As := []) (rest := [pI (nI tx.2)]) (x := nI tx.2) C hsd dL_tell_4 jc_L_8 rfl (Or.inl rfl) (Nat.le_of_ble_eq_true rfl) (fun Et hok e1 e2 => by rw [← e1]; exact tm_strLength hok) (by decide) (by decide) ?_
      exact hRu.1 _ _ _ _ _ _ dL_tell_7 ⟨rfl, 33, _, _, _, rfl, rfl, fun _ => hfin G' hG', fun h => absurd (show nI tx.2 ≤ nI tx.2 from nI_le (Nat.le_refl _) (by omega)) h⟩
    | succ k ih =>
      intro i hi G' hG'
      obtain ⟨f1, f2, f3, f4, f5, f6⟩ := id hG'
      have hlt : i < tx.2 := by omega
      refine hRu.1 _ _ _ _ _ _ dL_tell_2 ⟨rfl, _, rfl, ?_⟩
      refine hRu.1 _ _ _ _ _ _ dL_tell_3 ⟨rfl, _, rfl, ?_⟩
      refine pG_str (As := []) (rest := [pI (nI i)]) (x := nI tx.2) C hsd dL_tell_4 jc_L_8 rfl (Or.inl rfl) (Nat.le_of_ble_eq_true rfl) (fun Et hok e1 e2 => by rw [← e1]; exact tm_strLength hok) (by decide) (by decide) ?_
      refine hRu.1 _ _ _ _ _ _ dL_tell_7 ⟨rfl, 33, _, _, _, rfl, rfl, fun h => absurd h (nI_ge hlt (by omega)), fun _ => ?_⟩
      refine hRu.1 _ _ _ _ _ _ dL_tell_10 ⟨rfl, _, rfl, ?_⟩
      refine hRu.1 _ _ _ _ _ _ dL_tell_11 ⟨rfl, _, rfl, ?_⟩
      refine hRu.1 _ _ _ _ _ _ dL_tell_12 ⟨rfl, _, rfl, ?_⟩
      refine pG_str (As := [pI (nI i)]) (rest := [pR 0]) (x := nI (tx.1 i)) C hsd dL_tell_13 jc_L_14 rfl (Or.inr ⟨_, rfl⟩) (Nat.le_of_ble_eq_true rfl) (fun Et hok e1 e2 => tm_strAt hok (fun j hj => ⟨h8 j (by rw [← e1]; exact hj), e2 j (by rw [← e1]; exact hj)⟩) (by rw [e1]; exact hlt) (by rw [e1]; omega)) (by decide) (by decide) ?_
      rw [nI_iI (tx.1 i)]
      obtain ⟨r, τ, hF, hr1, G1, rfl, G2, g1, g2, g3, g4, g5, g6, g7⟩ := xs_feed f1 (n := i) (v := (tx.1 i : Int)) f5 (by omega) ⟨by have := (hL i hlt).1; omega, by have := (hL i hlt).2; omega⟩
      subst hr1
      refine hRu.1 _ _ _ _ _ _ dL_tell_16 ⟨rfl, yX11_feed, 1, 11, 0, [pI (Int32.ofInt (tx.1 i : Int))], [], _, _, cv_L_18, rfl, rfl, by decide +kernel, by decide, (ok_X_feed hE).mono (by decide) _ _ _ _ hF, ?_⟩
      refine pG_re g1 ?_
      refine hRu.1 _ _ _ _ _ _ dL_tell_19 ⟨rfl, _, rfl, ?_⟩
      refine hRu.1 _ _ _ _ _ _ dL_tell_20 ⟨rfl, ?_⟩
      rw [show Int32.ofInt 1 = nI 1 from rfl]
      refine hRu.1 _ _ _ _ _ _ dL_tell_21 ⟨rfl, _, _, _, rfl, ?_⟩
      rw [nI_add]
      refine hRu.1 _ _ _ _ _ _ dL_tell_22 ⟨rfl, 27, _, _, _, rfl, rfl, fun _ => ?_, fun h => absurd (show Int32.ofInt ((i : Int) + 1) = nI (i + 1) from by rw [nI_iI]; rfl) h⟩
      refine hRu.1 _ _ _ _ _ _ dL_tell_27 ⟨rfl, _, rfl, ?_⟩
      rw [show Int32.ofInt 1 = nI 1 from rfl, nI_add]
      refine hRu.1 _ _ _ _ _ _ dL_tell_30 ⟨rfl, 2, rfl, ?_⟩
      refine ih (i + 1) (by omega) G2 ⟨g3, g4.trans f2, g5.trans f3, fun k hk => (g2 k hk).trans (f4 k hk), by rw [g6]; omega, fun j hj => ?_⟩
      rw [g7 j]
      by_cases ej : j = i
      · rw [if_pos ej, ej]
      · rw [if_neg ej]
        exact f6 j (by omega)
  have hg0 : pG p l e (headSpec (Cond.code yL_tell cL_tell 3 (some .boolean) :: tb) (cRm 6 0 0)).room s m ([pR 0, pR 6000].map (pv E.1)).toArray below meth cd (MQ below (exPost E (some (pI 1)) (fun τ => ∃ G', τ = zM G' U ∧ tlF c G U tx tx.2 G')) ([pR 0, pR 6000].map (pv E.1)).toArray s 0 0 E.2.2.2.2.2) E s.heap 3 0 0 0 ([some (pR 0), some (pR 6000), none], [], zM G U) := by
    refine hRu.1 _ _ _ _ _ _ dL_tell_0 ⟨rfl, ?_⟩
    refine hRu.1 _ _ _ _ _ _ dL_tell_1 ⟨rfl, _, _, rfl, Nat.le_of_ble_eq_true rfl, ?_⟩
    exact hloop tx.2 0 (by omega) G ⟨hg, rfl, rfl, fun _ _ => rfl, h0, fun j hj => absurd hj (Nat.not_lt_zero j)⟩
  rw [lg_entry_eq]
  have hent := lv_entry ([pR 0, pR 6000].map (pv E.1)) (n := 3) (by rw [pEnt_len]; exact Nat.le_of_ble_eq_true rfl)
  refine hg0 rfl ⟨RLo_L0 (As := [pR 0, pR 6000]) (n := 3) ⟨Or.inl (by decide), Or.inr (Or.inl (by decide)), trivial⟩, trivial⟩ _ s.heap [] ?_ hH va_S.rf
  show lv_has _ 3 (pll E.1 0 (pL0 [pR 0, pR 6000] 3))
  rw [pL0, pll_ent]
  exact hent
