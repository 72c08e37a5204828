/-! ===== the law, call by call ===== -/
theorem pB_1 {n : Nat} {body : sC} {As : List pV} {σ τ : pM} {r : Option pV} (h : pBody 1 n body As σ = some (r, τ)) : ∃ x, r = some (pI x) := by
  unfold pBody at h
  split at h
  · split at h
    · split at h
      · rename_i hn
        cases h
        have hn2 : narK 1 r = true := hn
        match r, hn2 with
        | some (.inl x), _ => exact ⟨x, rfl⟩
        | none, hn => cases hn
        | some (.inr (.inl x)), hn => cases hn
        | some (.inr (.inr x)), hn => cases hn
      · cases h
    · cases h
  · cases h
theorem pB_3 {n : Nat} {body : sC} {As : List pV} {σ τ : pM} {r : Option pV} (h : pBody 3 n body As σ = some (r, τ)) : ∃ x, r = some (pJ x) := by
  unfold pBody at h
  split at h
  · split at h
    · split at h
      · rename_i hn
        cases h
        have hn2 : narK 3 r = true := hn
        match r, hn2 with
        | some (.inr (.inl x)), _ => exact ⟨x, rfl⟩
        | none, hn => cases hn
        | some (.inl x), hn => cases hn
        | some (.inr (.inr x)), hn => cases hn
      · cases h
    · cases h
  · cases h
theorem law_c {c : Nat} {FX FM : pF} {nX : Nat} {bX : sC} {As : List pV} {aX aM : eA} {L : pLo} {G U : Nat → Nat → Int} (hop : opR c FX FM As) (hX : FX = pBody 1 nX bX) (h1 : aX L (zM G U) = some (pR 0 :: As, zM G U)) (h2 : ∀ σ, aM L σ = some (pR 179 :: As, σ)) (hg : allI c G U) : ∃ G' U', sSeq (sIf (mI .ne (vC 11 FX rI aX) (vC 12 FM rI aM)) (sRZ (kZ false)) sSkip) sBrk L (zM G U) = some (.inr (.inl (L, zM G' U'))) ∧ allI (c + 1) G' U' := by
  obtain ⟨r, τ, e1, r', τ', e2, rfl, G', U', rfl, h⟩ := hop G U hg
  obtain ⟨x, rfl⟩ := pB_1 (by rw [hX] at e1; exact e1)
  refine ⟨G', U', ?_, h⟩
  have k1 : ckV 11 (pR 0 :: As) = true := rfl
  have k2 : ckV 12 (pR 179 :: As) = true := rfl
  have v1 : vC 11 FX rI aX L (zM G U) = some (x, τ) := by simp only [vC, h1, Option.bind_some, k1, if_true, e1, rI, Option.map_some]
  have v2 : vC 12 FM rI aM L τ = some (x, zM G' U') := by simp only [vC, h2, Option.bind_some, k2, if_true, e2, rI, Option.map_some]
  have v3 : mI .ne (vC 11 FX rI aX) (vC 12 FM rI aM) L (zM G U) = some (false, zM G' U') := by
    have : pCb .ne x x = false := by simp [pCb]
    simp only [mI, v1, v2, Option.bind_some, this]
  simp only [sSeq, sIf, v3, Option.bind_some, Bool.false_eq_true, if_false, sSkip, sBrk]
theorem law_cJ {c : Nat} {FX FM : pF} {nX : Nat} {bX : sC} {As : List pV} {aX aM : eA} {L : pLo} {G U : Nat → Nat → Int} (hop : opR c FX FM As) (hX : FX = pBody 3 nX bX) (h1 : aX L (zM G U) = some (pR 0 :: As, zM G U)) (h2 : ∀ σ, aM L σ = some (pR 179 :: As, σ)) (hg : allI c G U) : ∃ G' U', sSeq (sIf (mJ .ne (vC 11 FX rJ aX) (vC 12 FM rJ aM)) (sRZ (kZ false)) sSkip) sBrk L (zM G U) = some (.inr (.inl (L, zM G' U'))) ∧ allI (c + 1) G' U' := by
  obtain ⟨r, τ, e1, r', τ', e2, rfl, G', U', rfl, h⟩ := hop G U hg
  obtain ⟨x, rfl⟩ := pB_3 (by rw [hX] at e1; exact e1)
  refine ⟨G', U', ?_, h⟩
  have k1 : ckV 11 (pR 0 :: As) = true := rfl
  have k2 : ckV 12 (pR 179 :: As) = true := rfl
  have v1 : vC 11 FX rJ aX L (zM G U) = some (x, τ) := by simp only [vC, h1, Option.bind_some, k1, if_true, e1, rJ, Option.map_some]
  have v2 : vC 12 FM rJ aM L τ = some (x, zM G' U') := by simp only [vC, h2, Option.bind_some, k2, if_true, e2, rJ, Option.map_some]
  have v3 : mJ .ne (vC 11 FX rJ aX) (vC 12 FM rJ aM) L (zM G U) = some (false, zM G' U') := by
    have : pCj .ne x x = false := by simp [pCj]
    simp only [mJ, v1, v2, Option.bind_some, this]
  simp only [sSeq, sIf, v3, Option.bind_some, Bool.false_eq_true, if_false, sSkip, sBrk]
theorem law_at {k i j : Nat} {xs : Nat → Int32} {σ σ' : pM} {cs : List sC} (he : bI (fun x y => x &&& y) (qI k xs (lR 0) (lI 3)) (kI 63) (lawL i) σ = some (nI j, σ)) (hj : j < 64) (hs : ((cs[j]?).getD sBrk) (lawL i) σ = some (.inr (.inl (lawL i, σ')))) : sSeq (sBlk (sSw (bI (fun x y => x &&& y) (qI k xs (lR 0) (lI 3)) (kI 63)) 0 cs sBrk)) (sInc 3 7) (lawL i) σ = some (oN (lawL (i + 7)) σ') := by
  have e1 : (nI j).toInt = (j : Int) := nI_toInt (by omega)
  have e2 : sSw (bI (fun x y => x &&& y) (qI k xs (lR 0) (lI 3)) (kI 63)) 0 cs sBrk (lawL i) σ = some (.inr (.inl (lawL i, σ'))) := by
    simp only [sSw, he, Option.bind_some, e1]
    rw [if_neg (by omega), show ((j : Int) - 0).toNat = j by omega]
    exact hs
  have e3 : sInc 3 7 (lawL i) σ' = some (oN (lawL (i + 7)) σ') := by
    have hn7 : pSet1 (lawL i) 3 (pI (nI i + Int32.ofInt 7)) = lawL (i + 7) := by
      rw [show Int32.ofInt 7 = nI 7 from rfl, nI_add]; rfl
    rw [← hn7]
    rfl
  have e4 : sBlk (sSw (bI (fun x y => x &&& y) (qI k xs (lR 0) (lI 3)) (kI 63)) 0 cs sBrk) (lawL i) σ = some (oN (lawL i) σ') := by
    simp only [sBlk, e2, Option.bind_some]
  simp only [sSeq, e4, Option.bind_some, e3]
theorem law_q0 {k i : Nat} {xs : Nat → Int32} {σ : pM} (hi : i < k) (hk : k < 2 ^ 20) : qI k xs (lR 0) (lI 3) (lawL i) σ = some (xs i, σ) := by
  have h1 : lR 0 (lawL i) σ = some (5000, σ) := rfl
  have h2 : lI 3 (lawL i) σ = some (nI i, σ) := rfl
  have h3 : (nI i).toNatClampNeg = i := nI_clamp (by omega)
  have h4 : ¬ (nI i < 0) := nI_pos (by omega)
  have h5 : ¬ (nI i < 0 ∨ k ≤ (nI i).toNatClampNeg) := fun h => h.elim h4 (fun h => by rw [h3] at h; omega)
  simp only [qI, h1, h2, Option.bind_some, if_true]
  rw [if_neg h5, h3]
theorem law_q1 {k i : Nat} {xs : Nat → Int32} {σ : pM} (hi : i + 1 < k) (hk : k < 2 ^ 20) : qI k xs (lR 0) (bI (fun x y => x + y) (lI 3) (kI 1)) (lawL i) σ = some (Int32.ofInt (xs (i + 1)).toInt, σ) := by
  have h1 : lR 0 (lawL i) σ = some (5000, σ) := rfl
  have h2 : bI (fun x y => x + y) (lI 3) (kI 1) (lawL i) σ = some (nI (i + 1), σ) := by
    show some (nI i + Int32.ofInt 1, σ) = _
    rw [show Int32.ofInt 1 = nI 1 from rfl, nI_add]
  have h3 : (nI (i + 1)).toNatClampNeg = i + 1 := nI_clamp (by omega)
  have h4 : ¬ (nI (i + 1) < 0) := nI_pos (by omega)
  have h5 : ¬ (nI (i + 1) < 0 ∨ k ≤ (nI (i + 1)).toNatClampNeg) := fun h => h.elim h4 (fun h => by rw [h3] at h; omega)
  simp only [qI, h1, h2, Option.bind_some, if_true]
  rw [if_neg h5, h3, Int32.ofInt_toInt]
theorem law_q2 {k i : Nat} {xs : Nat → Int32} {σ : pM} (hi : i + 2 < k) (hk : k < 2 ^ 20) : qI k xs (lR 0) (bI (fun x y => x + y) (lI 3) (kI 2)) (lawL i) σ = some (Int32.ofInt (xs (i + 2)).toInt, σ) := by
  have h1 : lR 0 (lawL i) σ = some (5000, σ) := rfl
  have h2 : bI (fun x y => x + y) (lI 3) (kI 2) (lawL i) σ = some (nI (i + 2), σ) := by
    show some (nI i + Int32.ofInt 2, σ) = _
    rw [show Int32.ofInt 2 = nI 2 from rfl, nI_add]
  have h3 : (nI (i + 2)).toNatClampNeg = i + 2 := nI_clamp (by omega)
  have h4 : ¬ (nI (i + 2) < 0) := nI_pos (by omega)
  have h5 : ¬ (nI (i + 2) < 0 ∨ k ≤ (nI (i + 2)).toNatClampNeg) := fun h => h.elim h4 (fun h => by rw [h3] at h; omega)
  simp only [qI, h1, h2, Option.bind_some, if_true]
  rw [if_neg h5, h3, Int32.ofInt_toInt]
theorem law_q3 {k i : Nat} {xs : Nat → Int32} {σ : pM} (hi : i + 3 < k) (hk : k < 2 ^ 20) : qI k xs (lR 0) (bI (fun x y => x + y) (lI 3) (kI 3)) (lawL i) σ = some (Int32.ofInt (xs (i + 3)).toInt, σ) := by
  have h1 : lR 0 (lawL i) σ = some (5000, σ) := rfl
  have h2 : bI (fun x y => x + y) (lI 3) (kI 3) (lawL i) σ = some (nI (i + 3), σ) := by
    show some (nI i + Int32.ofInt 3, σ) = _
    rw [show Int32.ofInt 3 = nI 3 from rfl, nI_add]
  have h3 : (nI (i + 3)).toNatClampNeg = i + 3 := nI_clamp (by omega)
  have h4 : ¬ (nI (i + 3) < 0) := nI_pos (by omega)
  have h5 : ¬ (nI (i + 3) < 0 ∨ k ≤ (nI (i + 3)).toNatClampNeg) := fun h => h.elim h4 (fun h => by rw [h3] at h; omega)
  simp only [qI, h1, h2, Option.bind_some, if_true]
  rw [if_neg h5, h3, Int32.ofInt_toInt]
theorem law_q4 {k i : Nat} {xs : Nat → Int32} {σ : pM} (hi : i + 4 < k) (hk : k < 2 ^ 20) : qI k xs (lR 0) (bI (fun x y => x + y) (lI 3) (kI 4)) (lawL i) σ = some (Int32.ofInt (xs (i + 4)).toInt, σ) := by
  have h1 : lR 0 (lawL i) σ = some (5000, σ) := rfl
  have h2 : bI (fun x y => x + y) (lI 3) (kI 4) (lawL i) σ = some (nI (i + 4), σ) := by
    show some (nI i + Int32.ofInt 4, σ) = _
    rw [show Int32.ofInt 4 = nI 4 from rfl, nI_add]
  have h3 : (nI (i + 4)).toNatClampNeg = i + 4 := nI_clamp (by omega)
  have h4 : ¬ (nI (i + 4) < 0) := nI_pos (by omega)
  have h5 : ¬ (nI (i + 4) < 0 ∨ k ≤ (nI (i + 4)).toNatClampNeg) := fun h => h.elim h4 (fun h => by rw [h3] at h; omega)
  simp only [qI, h1, h2, Option.bind_some, if_true]
  rw [if_neg h5, h3, Int32.ofInt_toInt]
theorem law_q5 {k i : Nat} {xs : Nat → Int32} {σ : pM} (hi : i + 5 < k) (hk : k < 2 ^ 20) : qI k xs (lR 0) (bI (fun x y => x + y) (lI 3) (kI 5)) (lawL i) σ = some (Int32.ofInt (xs (i + 5)).toInt, σ) := by
  have h1 : lR 0 (lawL i) σ = some (5000, σ) := rfl
  have h2 : bI (fun x y => x + y) (lI 3) (kI 5) (lawL i) σ = some (nI (i + 5), σ) := by
    show some (nI i + Int32.ofInt 5, σ) = _
    rw [show Int32.ofInt 5 = nI 5 from rfl, nI_add]
  have h3 : (nI (i + 5)).toNatClampNeg = i + 5 := nI_clamp (by omega)
  have h4 : ¬ (nI (i + 5) < 0) := nI_pos (by omega)
  have h5 : ¬ (nI (i + 5) < 0 ∨ k ≤ (nI (i + 5)).toNatClampNeg) := fun h => h.elim h4 (fun h => by rw [h3] at h; omega)
  simp only [qI, h1, h2, Option.bind_some, if_true]
  rw [if_neg h5, h3, Int32.ofInt_toInt]
theorem law_q6 {k i : Nat} {xs : Nat → Int32} {σ : pM} (hi : i + 6 < k) (hk : k < 2 ^ 20) : qI k xs (lR 0) (bI (fun x y => x + y) (lI 3) (kI 6)) (lawL i) σ = some (Int32.ofInt (xs (i + 6)).toInt, σ) := by
  have h1 : lR 0 (lawL i) σ = some (5000, σ) := rfl
  have h2 : bI (fun x y => x + y) (lI 3) (kI 6) (lawL i) σ = some (nI (i + 6), σ) := by
    show some (nI i + Int32.ofInt 6, σ) = _
    rw [show Int32.ofInt 6 = nI 6 from rfl, nI_add]
  have h3 : (nI (i + 6)).toNatClampNeg = i + 6 := nI_clamp (by omega)
  have h4 : ¬ (nI (i + 6) < 0) := nI_pos (by omega)
  have h5 : ¬ (nI (i + 6) < 0 ∨ k ≤ (nI (i + 6)).toNatClampNeg) := fun h => h.elim h4 (fun h => by rw [h3] at h; omega)
  simp only [qI, h1, h2, Option.bind_some, if_true]
  rw [if_neg h5, h3, Int32.ofInt_toInt]
theorem law_sw {k i : Nat} {xs : Nat → Int32} (hi : i < k) (hk : k < 2 ^ 20) : ∃ j, j < 64 ∧ ∀ σ, bI (fun x y => x &&& y) (qI k xs (lR 0) (lI 3)) (kI 63) (lawL i) σ = some (nI j, σ) := by
  obtain ⟨j, hj, e⟩ := pk_andE (xs i) (m := 63) 6 (by decide)
  refine ⟨j, by omega, fun σ => ?_⟩
  simp only [bI, law_q0 hi hk, Option.bind_some, kI]
  rw [← e]
  rfl
theorem law_l1 {i : Nat} {σ : pM} : lR 1 (lawL i) σ = some (0, σ) := rfl
theorem law_l2 {i : Nat} {σ : pM} : lR 2 (lawL i) σ = some (179, σ) := rfl
theorem rg_t {x : Int32} : rg x.toInt := ⟨Int32.le_toInt x, Int32.toInt_lt x⟩

theorem case_0 {c k i : Nat} {xs : Nat → Int32} {G U : Nat → Nat → Int} (hc : c ≤ 600) (hi7 : i + 7 ≤ k) (hk : k < 2 ^ 20) (he : bI (fun x y => x &&& y) (qI k xs (lR 0) (lI 3)) (kI 63) (lawL i) (zM G U) = some (nI 0, zM G U)) (hg : allI c G U) : ∃ G' U', B_law (fun _ _ => none) k xs (lawL i) (zM G U) = some (oN (lawL (i + 7)) (zM G' U')) ∧ allI (c + 1) G' U' := by
  obtain ⟨G', U', s1, s2⟩ := law_c (L := lawL i) (op_weight (c := c) rg_t rg_t) rfl (eAR law_l1 (eAI (law_q1 (by omega) hk) (eAI (law_q2 (by omega) hk) eAN))) (fun σ => eAR law_l2 (eAI (law_q1 (by omega) hk) (eAI (law_q2 (by omega) hk) eAN))) hg
  refine ⟨G', U', ?_, s2⟩
  unfold B_law
  refine law_at he (by omega) ?_
  simp only [List.getElem?_cons_succ, List.getElem?_cons_zero, Option.getD_some]
  exact s1
theorem case_1 {c k i : Nat} {xs : Nat → Int32} {G U : Nat → Nat → Int} (hc : c ≤ 600) (hi7 : i + 7 ≤ k) (hk : k < 2 ^ 20) (he : bI (fun x y => x &&& y) (qI k xs (lR 0) (lI 3)) (kI 63) (lawL i) (zM G U) = some (nI 1, zM G U)) (hg : allI c G U) : ∃ G' U', B_law (fun _ _ => none) k xs (lawL i) (zM G U) = some (oN (lawL (i + 7)) (zM G' U')) ∧ allI (c + 1) G' U' := by
  obtain ⟨G', U', s1, s2⟩ := law_c (L := lawL i) (op_limit (c := c) rg_t rg_t) rfl (eAR law_l1 (eAI (law_q1 (by omega) hk) (eAI (law_q2 (by omega) hk) eAN))) (fun σ => eAR law_l2 (eAI (law_q1 (by omega) hk) (eAI (law_q2 (by omega) hk) eAN))) hg
  refine ⟨G', U', ?_, s2⟩
  unfold B_law
  refine law_at he (by omega) ?_
  simp only [List.getElem?_cons_succ, List.getElem?_cons_zero, Option.getD_some]
  exact s1
theorem case_2 {c k i : Nat} {xs : Nat → Int32} {G U : Nat → Nat → Int} (hc : c ≤ 600) (hi7 : i + 7 ≤ k) (hk : k < 2 ^ 20) (he : bI (fun x y => x &&& y) (qI k xs (lR 0) (lI 3)) (kI 63) (lawL i) (zM G U) = some (nI 2, zM G U)) (hg : allI c G U) : ∃ G' U', B_law (fun _ _ => none) k xs (lawL i) (zM G U) = some (oN (lawL (i + 7)) (zM G' U')) ∧ allI (c + 1) G' U' := by
  obtain ⟨G', U', s1, s2⟩ := law_c (L := lawL i) (op_ranked (c := c) rg_t) rfl (eAR law_l1 (eAI (law_q1 (by omega) hk) eAN)) (fun σ => eAR law_l2 (eAI (law_q1 (by omega) hk) eAN)) hg
  refine ⟨G', U', ?_, s2⟩
  unfold B_law
  refine law_at he (by omega) ?_
  simp only [List.getElem?_cons_succ, List.getElem?_cons_zero, Option.getD_some]
  exact s1
theorem case_3 {c k i : Nat} {xs : Nat → Int32} {G U : Nat → Nat → Int} (hc : c ≤ 600) (hi7 : i + 7 ≤ k) (hk : k < 2 ^ 20) (he : bI (fun x y => x &&& y) (qI k xs (lR 0) (lI 3)) (kI 63) (lawL i) (zM G U) = some (nI 3, zM G U)) (hg : allI c G U) : ∃ G' U', B_law (fun _ _ => none) k xs (lawL i) (zM G U) = some (oN (lawL (i + 7)) (zM G' U')) ∧ allI (c + 1) G' U' := by
  obtain ⟨G', U', s1, s2⟩ := law_c (L := lawL i) (op_rule (c := c) rg_t rg_t) rfl (eAR law_l1 (eAI (law_q1 (by omega) hk) (eAI (law_q2 (by omega) hk) eAN))) (fun σ => eAR law_l2 (eAI (law_q1 (by omega) hk) (eAI (law_q2 (by omega) hk) eAN))) hg
  refine ⟨G', U', ?_, s2⟩
  unfold B_law
  refine law_at he (by omega) ?_
  simp only [List.getElem?_cons_succ, List.getElem?_cons_zero, Option.getD_some]
  exact s1
theorem case_4 {c k i : Nat} {xs : Nat → Int32} {G U : Nat → Nat → Int} (hc : c ≤ 600) (hi7 : i + 7 ≤ k) (hk : k < 2 ^ 20) (he : bI (fun x y => x &&& y) (qI k xs (lR 0) (lI 3)) (kI 63) (lawL i) (zM G U) = some (nI 4, zM G U)) (hg : allI c G U) : ∃ G' U', B_law (fun _ _ => none) k xs (lawL i) (zM G U) = some (oN (lawL (i + 7)) (zM G' U')) ∧ allI (c + 1) G' U' := by
  obtain ⟨G', U', s1, s2⟩ := law_cJ (L := lawL i) (op_used (c := c) rg_t) rfl (eAR law_l1 (eAI (law_q1 (by omega) hk) eAN)) (fun σ => eAR law_l2 (eAI (law_q1 (by omega) hk) eAN)) hg
  refine ⟨G', U', ?_, s2⟩
  unfold B_law
  refine law_at he (by omega) ?_
  simp only [List.getElem?_cons_succ, List.getElem?_cons_zero, Option.getD_some]
  exact s1
theorem case_5 {c k i : Nat} {xs : Nat → Int32} {G U : Nat → Nat → Int} (hc : c ≤ 600) (hi7 : i + 7 ≤ k) (hk : k < 2 ^ 20) (he : bI (fun x y => x &&& y) (qI k xs (lR 0) (lI 3)) (kI 63) (lawL i) (zM G U) = some (nI 5, zM G U)) (hg : allI c G U) : ∃ G' U', B_law (fun _ _ => none) k xs (lawL i) (zM G U) = some (oN (lawL (i + 7)) (zM G' U')) ∧ allI (c + 1) G' U' := by
  obtain ⟨G', U', s1, s2⟩ := law_c (L := lawL i) (op_feed (c := c) rg_t) rfl (eAR law_l1 (eAI (law_q1 (by omega) hk) eAN)) (fun σ => eAR law_l2 (eAI (law_q1 (by omega) hk) eAN)) hg
  refine ⟨G', U', ?_, s2⟩
  unfold B_law
  refine law_at he (by omega) ?_
  simp only [List.getElem?_cons_succ, List.getElem?_cons_zero, Option.getD_some]
  exact s1
theorem case_6 {c k i : Nat} {xs : Nat → Int32} {G U : Nat → Nat → Int} (hc : c ≤ 600) (hi7 : i + 7 ≤ k) (hk : k < 2 ^ 20) (he : bI (fun x y => x &&& y) (qI k xs (lR 0) (lI 3)) (kI 63) (lawL i) (zM G U) = some (nI 6, zM G U)) (hg : allI c G U) : ∃ G' U', B_law (fun _ _ => none) k xs (lawL i) (zM G U) = some (oN (lawL (i + 7)) (zM G' U')) ∧ allI (c + 1) G' U' := by
  obtain ⟨G', U', s1, s2⟩ := law_c (L := lawL i) (op_job (c := c) hc rg_t rg_t rg_t rg_t) rfl (eAR law_l1 (eAI (law_q1 (by omega) hk) (eAI (law_q2 (by omega) hk) (eAI (law_q3 (by omega) hk) (eAI (law_q4 (by omega) hk) eAN))))) (fun σ => eAR law_l2 (eAI (law_q1 (by omega) hk) (eAI (law_q2 (by omega) hk) (eAI (law_q3 (by omega) hk) (eAI (law_q4 (by omega) hk) eAN))))) hg
  refine ⟨G', U', ?_, s2⟩
  unfold B_law
  refine law_at he (by omega) ?_
  simp only [List.getElem?_cons_succ, List.getElem?_cons_zero, Option.getD_some]
  exact s1
theorem case_7 {c k i : Nat} {xs : Nat → Int32} {G U : Nat → Nat → Int} (hc : c ≤ 600) (hi7 : i + 7 ≤ k) (hk : k < 2 ^ 20) (he : bI (fun x y => x &&& y) (qI k xs (lR 0) (lI 3)) (kI 63) (lawL i) (zM G U) = some (nI 7, zM G U)) (hg : allI c G U) : ∃ G' U', B_law (fun _ _ => none) k xs (lawL i) (zM G U) = some (oN (lawL (i + 7)) (zM G' U')) ∧ allI (c + 1) G' U' := by
  obtain ⟨G', U', s1, s2⟩ := law_c (L := lawL i) (op_off (c := c) hc rg_t) rfl (eAR law_l1 (eAI (law_q1 (by omega) hk) eAN)) (fun σ => eAR law_l2 (eAI (law_q1 (by omega) hk) eAN)) hg
  refine ⟨G', U', ?_, s2⟩
  unfold B_law
  refine law_at he (by omega) ?_
  simp only [List.getElem?_cons_succ, List.getElem?_cons_zero, Option.getD_some]
  exact s1
theorem case_8 {c k i : Nat} {xs : Nat → Int32} {G U : Nat → Nat → Int} (hc : c ≤ 600) (hi7 : i + 7 ≤ k) (hk : k < 2 ^ 20) (he : bI (fun x y => x &&& y) (qI k xs (lR 0) (lI 3)) (kI 63) (lawL i) (zM G U) = some (nI 8, zM G U)) (hg : allI c G U) : ∃ G' U', B_law (fun _ _ => none) k xs (lawL i) (zM G U) = some (oN (lawL (i + 7)) (zM G' U')) ∧ allI (c + 1) G' U' := by
  obtain ⟨G', U', s1, s2⟩ := law_c (L := lawL i) (op_of (c := c) rg_t rg_t) rfl (eAR law_l1 (eAI (law_q1 (by omega) hk) (eAI (law_q2 (by omega) hk) eAN))) (fun σ => eAR law_l2 (eAI (law_q1 (by omega) hk) (eAI (law_q2 (by omega) hk) eAN))) hg
  refine ⟨G', U', ?_, s2⟩
  unfold B_law
  refine law_at he (by omega) ?_
  simp only [List.getElem?_cons_succ, List.getElem?_cons_zero, Option.getD_some]
  exact s1
theorem case_9 {c k i : Nat} {xs : Nat → Int32} {G U : Nat → Nat → Int} (hc : c ≤ 600) (hi7 : i + 7 ≤ k) (hk : k < 2 ^ 20) (he : bI (fun x y => x &&& y) (qI k xs (lR 0) (lI 3)) (kI 63) (lawL i) (zM G U) = some (nI 9, zM G U)) (hg : allI c G U) : ∃ G' U', B_law (fun _ _ => none) k xs (lawL i) (zM G U) = some (oN (lawL (i + 7)) (zM G' U')) ∧ allI (c + 1) G' U' := by
  obtain ⟨G', U', s1, s2⟩ := law_c (L := lawL i) (op_arm (c := c) rg_t rg_t rg_t) rfl (eAR law_l1 (eAI (law_q1 (by omega) hk) (eAI (law_q2 (by omega) hk) (eAI (law_q3 (by omega) hk) eAN)))) (fun σ => eAR law_l2 (eAI (law_q1 (by omega) hk) (eAI (law_q2 (by omega) hk) (eAI (law_q3 (by omega) hk) eAN)))) hg
  refine ⟨G', U', ?_, s2⟩
  unfold B_law
  refine law_at he (by omega) ?_
  simp only [List.getElem?_cons_succ, List.getElem?_cons_zero, Option.getD_some]
  exact s1
theorem case_10 {c k i : Nat} {xs : Nat → Int32} {G U : Nat → Nat → Int} (hc : c ≤ 600) (hi7 : i + 7 ≤ k) (hk : k < 2 ^ 20) (he : bI (fun x y => x &&& y) (qI k xs (lR 0) (lI 3)) (kI 63) (lawL i) (zM G U) = some (nI 10, zM G U)) (hg : allI c G U) : ∃ G' U', B_law (fun _ _ => none) k xs (lawL i) (zM G U) = some (oN (lawL (i + 7)) (zM G' U')) ∧ allI (c + 1) G' U' := by
  obtain ⟨G', U', s1, s2⟩ := law_c (L := lawL i) (op_line (c := c) rg_t) rfl (eAR law_l1 (eAI (law_q1 (by omega) hk) eAN)) (fun σ => eAR law_l2 (eAI (law_q1 (by omega) hk) eAN)) hg
  refine ⟨G', U', ?_, s2⟩
  unfold B_law
  refine law_at he (by omega) ?_
  simp only [List.getElem?_cons_succ, List.getElem?_cons_zero, Option.getD_some]
  exact s1
theorem case_11 {c k i : Nat} {xs : Nat → Int32} {G U : Nat → Nat → Int} (hc : c ≤ 600) (hi7 : i + 7 ≤ k) (hk : k < 2 ^ 20) (he : bI (fun x y => x &&& y) (qI k xs (lR 0) (lI 3)) (kI 63) (lawL i) (zM G U) = some (nI 11, zM G U)) (hg : allI c G U) : ∃ G' U', B_law (fun _ _ => none) k xs (lawL i) (zM G U) = some (oN (lawL (i + 7)) (zM G' U')) ∧ allI (c + 1) G' U' := by
  obtain ⟨G', U', s1, s2⟩ := law_c (L := lawL i) (op_rank (c := c) rg_t rg_t) rfl (eAR law_l1 (eAI (law_q1 (by omega) hk) (eAI (law_q2 (by omega) hk) eAN))) (fun σ => eAR law_l2 (eAI (law_q1 (by omega) hk) (eAI (law_q2 (by omega) hk) eAN))) hg
  refine ⟨G', U', ?_, s2⟩
  unfold B_law
  refine law_at he (by omega) ?_
  simp only [List.getElem?_cons_succ, List.getElem?_cons_zero, Option.getD_some]
  exact s1
theorem case_12 {c k i : Nat} {xs : Nat → Int32} {G U : Nat → Nat → Int} (hc : c ≤ 600) (hi7 : i + 7 ≤ k) (hk : k < 2 ^ 20) (he : bI (fun x y => x &&& y) (qI k xs (lR 0) (lI 3)) (kI 63) (lawL i) (zM G U) = some (nI 12, zM G U)) (hg : allI c G U) : ∃ G' U', B_law (fun _ _ => none) k xs (lawL i) (zM G U) = some (oN (lawL (i + 7)) (zM G' U')) ∧ allI (c + 1) G' U' := by
  obtain ⟨G', U', s1, s2⟩ := law_c (L := lawL i) (op_hold (c := c) rg_t rg_t) rfl (eAR law_l1 (eAI (law_q1 (by omega) hk) (eAI (law_q2 (by omega) hk) eAN))) (fun σ => eAR law_l2 (eAI (law_q1 (by omega) hk) (eAI (law_q2 (by omega) hk) eAN))) hg
  refine ⟨G', U', ?_, s2⟩
  unfold B_law
  refine law_at he (by omega) ?_
  simp only [List.getElem?_cons_succ, List.getElem?_cons_zero, Option.getD_some]
  exact s1
theorem case_14 {c k i : Nat} {xs : Nat → Int32} {G U : Nat → Nat → Int} (hc : c ≤ 600) (hi7 : i + 7 ≤ k) (hk : k < 2 ^ 20) (he : bI (fun x y => x &&& y) (qI k xs (lR 0) (lI 3)) (kI 63) (lawL i) (zM G U) = some (nI 14, zM G U)) (hg : allI c G U) : ∃ G' U', B_law (fun _ _ => none) k xs (lawL i) (zM G U) = some (oN (lawL (i + 7)) (zM G' U')) ∧ allI (c + 1) G' U' := by
  obtain ⟨G', U', s1, s2⟩ := law_c (L := lawL i) (op_keep (c := c) hc rg_t rg_t rg_t rg_t) rfl (eAR law_l1 (eAI (law_q1 (by omega) hk) (eAI (law_q2 (by omega) hk) (eAI (law_q3 (by omega) hk) (eAI (law_q4 (by omega) hk) eAN))))) (fun σ => eAR law_l2 (eAI (law_q1 (by omega) hk) (eAI (law_q2 (by omega) hk) (eAI (law_q3 (by omega) hk) (eAI (law_q4 (by omega) hk) eAN))))) hg
  refine ⟨G', U', ?_, s2⟩
  unfold B_law
  refine law_at he (by omega) ?_
  simp only [List.getElem?_cons_succ, List.getElem?_cons_zero, Option.getD_some]
  exact s1
theorem case_15 {c k i : Nat} {xs : Nat → Int32} {G U : Nat → Nat → Int} (hc : c ≤ 600) (hi7 : i + 7 ≤ k) (hk : k < 2 ^ 20) (he : bI (fun x y => x &&& y) (qI k xs (lR 0) (lI 3)) (kI 63) (lawL i) (zM G U) = some (nI 15, zM G U)) (hg : allI c G U) : ∃ G' U', B_law (fun _ _ => none) k xs (lawL i) (zM G U) = some (oN (lawL (i + 7)) (zM G' U')) ∧ allI (c + 1) G' U' := by
  obtain ⟨G', U', s1, s2⟩ := law_c (L := lawL i) (op_every (c := c) hc rg_t rg_t rg_t rg_t rg_t rg_t) rfl (eAR law_l1 (eAI (law_q1 (by omega) hk) (eAI (law_q2 (by omega) hk) (eAI (law_q3 (by omega) hk) (eAI (law_q4 (by omega) hk) (eAI (law_q5 (by omega) hk) (eAI (law_q6 (by omega) hk) eAN))))))) (fun σ => eAR law_l2 (eAI (law_q1 (by omega) hk) (eAI (law_q2 (by omega) hk) (eAI (law_q3 (by omega) hk) (eAI (law_q4 (by omega) hk) (eAI (law_q5 (by omega) hk) (eAI (law_q6 (by omega) hk) eAN))))))) hg
  refine ⟨G', U', ?_, s2⟩
  unfold B_law
  refine law_at he (by omega) ?_
  simp only [List.getElem?_cons_succ, List.getElem?_cons_zero, Option.getD_some]
  exact s1
theorem case_16 {c k i : Nat} {xs : Nat → Int32} {G U : Nat → Nat → Int} (hc : c ≤ 600) (hi7 : i + 7 ≤ k) (hk : k < 2 ^ 20) (he : bI (fun x y => x &&& y) (qI k xs (lR 0) (lI 3)) (kI 63) (lawL i) (zM G U) = some (nI 16, zM G U)) (hg : allI c G U) : ∃ G' U', B_law (fun _ _ => none) k xs (lawL i) (zM G U) = some (oN (lawL (i + 7)) (zM G' U')) ∧ allI (c + 1) G' U' := by
  obtain ⟨G', U', s1, s2⟩ := law_c (L := lawL i) (op_free (c := c) rg_t) rfl (eAR law_l1 (eAI (law_q1 (by omega) hk) eAN)) (fun σ => eAR law_l2 (eAI (law_q1 (by omega) hk) eAN)) hg
  refine ⟨G', U', ?_, s2⟩
  unfold B_law
  refine law_at he (by omega) ?_
  simp only [List.getElem?_cons_succ, List.getElem?_cons_zero, Option.getD_some]
  exact s1
theorem case_17 {c k i : Nat} {xs : Nat → Int32} {G U : Nat → Nat → Int} (hc : c ≤ 600) (hi7 : i + 7 ≤ k) (hk : k < 2 ^ 20) (he : bI (fun x y => x &&& y) (qI k xs (lR 0) (lI 3)) (kI 63) (lawL i) (zM G U) = some (nI 17, zM G U)) (hg : allI c G U) : ∃ G' U', B_law (fun _ _ => none) k xs (lawL i) (zM G U) = some (oN (lawL (i + 7)) (zM G' U')) ∧ allI (c + 1) G' U' := by
  obtain ⟨G', U', s1, s2⟩ := law_c (L := lawL i) (op_step (c := c) hc rg_t) rfl (eAR law_l1 (eAI (law_q1 (by omega) hk) eAN)) (fun σ => eAR law_l2 (eAI (law_q1 (by omega) hk) eAN)) hg
  refine ⟨G', U', ?_, s2⟩
  unfold B_law
  refine law_at he (by omega) ?_
  simp only [List.getElem?_cons_succ, List.getElem?_cons_zero, Option.getD_some]
  exact s1
theorem case_18 {c k i : Nat} {xs : Nat → Int32} {G U : Nat → Nat → Int} (hc : c ≤ 600) (hi7 : i + 7 ≤ k) (hk : k < 2 ^ 20) (he : bI (fun x y => x &&& y) (qI k xs (lR 0) (lI 3)) (kI 63) (lawL i) (zM G U) = some (nI 18, zM G U)) (hg : allI c G U) : ∃ G' U', B_law (fun _ _ => none) k xs (lawL i) (zM G U) = some (oN (lawL (i + 7)) (zM G' U')) ∧ allI (c + 1) G' U' := by
  obtain ⟨G', U', s1, s2⟩ := law_c (L := lawL i) (op_pass (c := c) hc) rfl (eAR law_l1 eAN) (fun σ => eAR law_l2 eAN) hg
  refine ⟨G', U', ?_, s2⟩
  unfold B_law
  refine law_at he (by omega) ?_
  simp only [List.getElem?_cons_succ, List.getElem?_cons_zero, Option.getD_some]
  exact s1
theorem case_19 {c k i : Nat} {xs : Nat → Int32} {G U : Nat → Nat → Int} (hc : c ≤ 600) (hi7 : i + 7 ≤ k) (hk : k < 2 ^ 20) (he : bI (fun x y => x &&& y) (qI k xs (lR 0) (lI 3)) (kI 63) (lawL i) (zM G U) = some (nI 19, zM G U)) (hg : allI c G U) : ∃ G' U', B_law (fun _ _ => none) k xs (lawL i) (zM G U) = some (oN (lawL (i + 7)) (zM G' U')) ∧ allI (c + 1) G' U' := by
  obtain ⟨G', U', s1, s2⟩ := law_c (L := lawL i) (op_holder (c := c) rg_t) rfl (eAR law_l1 (eAI (law_q1 (by omega) hk) eAN)) (fun σ => eAR law_l2 (eAI (law_q1 (by omega) hk) eAN)) hg
  refine ⟨G', U', ?_, s2⟩
  unfold B_law
  refine law_at he (by omega) ?_
  simp only [List.getElem?_cons_succ, List.getElem?_cons_zero, Option.getD_some]
  exact s1
theorem case_20 {c k i : Nat} {xs : Nat → Int32} {G U : Nat → Nat → Int} (hc : c ≤ 600) (hi7 : i + 7 ≤ k) (hk : k < 2 ^ 20) (he : bI (fun x y => x &&& y) (qI k xs (lR 0) (lI 3)) (kI 63) (lawL i) (zM G U) = some (nI 20, zM G U)) (hg : allI c G U) : ∃ G' U', B_law (fun _ _ => none) k xs (lawL i) (zM G U) = some (oN (lawL (i + 7)) (zM G' U')) ∧ allI (c + 1) G' U' := by
  obtain ⟨G', U', s1, s2⟩ := law_c (L := lawL i) (op_promised (c := c) rg_t rg_t) rfl (eAR law_l1 (eAI (law_q1 (by omega) hk) (eAI (law_q2 (by omega) hk) eAN))) (fun σ => eAR law_l2 (eAI (law_q1 (by omega) hk) (eAI (law_q2 (by omega) hk) eAN))) hg
  refine ⟨G', U', ?_, s2⟩
  unfold B_law
  refine law_at he (by omega) ?_
  simp only [List.getElem?_cons_succ, List.getElem?_cons_zero, Option.getD_some]
  exact s1
theorem case_21 {c k i : Nat} {xs : Nat → Int32} {G U : Nat → Nat → Int} (hc : c ≤ 600) (hi7 : i + 7 ≤ k) (hk : k < 2 ^ 20) (he : bI (fun x y => x &&& y) (qI k xs (lR 0) (lI 3)) (kI 63) (lawL i) (zM G U) = some (nI 21, zM G U)) (hg : allI c G U) : ∃ G' U', B_law (fun _ _ => none) k xs (lawL i) (zM G U) = some (oN (lawL (i + 7)) (zM G' U')) ∧ allI (c + 1) G' U' := by
  obtain ⟨G', U', s1, s2⟩ := law_c (L := lawL i) (op_foretell (c := c) hc rg_t) rfl (eAR law_l1 (eAI (law_q1 (by omega) hk) eAN)) (fun σ => eAR law_l2 (eAI (law_q1 (by omega) hk) eAN)) hg
  refine ⟨G', U', ?_, s2⟩
  unfold B_law
  refine law_at he (by omega) ?_
  simp only [List.getElem?_cons_succ, List.getElem?_cons_zero, Option.getD_some]
  exact s1
theorem case_22 {c k i : Nat} {xs : Nat → Int32} {G U : Nat → Nat → Int} (hc : c ≤ 600) (hi7 : i + 7 ≤ k) (hk : k < 2 ^ 20) (he : bI (fun x y => x &&& y) (qI k xs (lR 0) (lI 3)) (kI 63) (lawL i) (zM G U) = some (nI 22, zM G U)) (hg : allI c G U) : ∃ G' U', B_law (fun _ _ => none) k xs (lawL i) (zM G U) = some (oN (lawL (i + 7)) (zM G' U')) ∧ allI (c + 1) G' U' := by
  obtain ⟨G', U', s1, s2⟩ := law_c (L := lawL i) (op_plan (c := c) hc rg_t) rfl (eAR law_l1 (eAI (law_q1 (by omega) hk) eAN)) (fun σ => eAR law_l2 (eAI (law_q1 (by omega) hk) eAN)) hg
  refine ⟨G', U', ?_, s2⟩
  unfold B_law
  refine law_at he (by omega) ?_
  simp only [List.getElem?_cons_succ, List.getElem?_cons_zero, Option.getD_some]
  exact s1
theorem case_23 {c k i : Nat} {xs : Nat → Int32} {G U : Nat → Nat → Int} (hc : c ≤ 600) (hi7 : i + 7 ≤ k) (hk : k < 2 ^ 20) (he : bI (fun x y => x &&& y) (qI k xs (lR 0) (lI 3)) (kI 63) (lawL i) (zM G U) = some (nI 23, zM G U)) (hg : allI c G U) : ∃ G' U', B_law (fun _ _ => none) k xs (lawL i) (zM G U) = some (oN (lawL (i + 7)) (zM G' U')) ∧ allI (c + 1) G' U' := by
  obtain ⟨G', U', s1, s2⟩ := law_c (L := lawL i) (op_byRule (c := c) hc rg_t rg_t rg_t) rfl (eAR law_l1 (eAI (law_q1 (by omega) hk) (eAI (law_q2 (by omega) hk) (eAI (law_q3 (by omega) hk) eAN)))) (fun σ => eAR law_l2 (eAI (law_q1 (by omega) hk) (eAI (law_q2 (by omega) hk) (eAI (law_q3 (by omega) hk) eAN)))) hg
  refine ⟨G', U', ?_, s2⟩
  unfold B_law
  refine law_at he (by omega) ?_
  simp only [List.getElem?_cons_succ, List.getElem?_cons_zero, Option.getD_some]
  exact s1
theorem case_24 {c k i : Nat} {xs : Nat → Int32} {G U : Nat → Nat → Int} (hc : c ≤ 600) (hi7 : i + 7 ≤ k) (hk : k < 2 ^ 20) (he : bI (fun x y => x &&& y) (qI k xs (lR 0) (lI 3)) (kI 63) (lawL i) (zM G U) = some (nI 24, zM G U)) (hg : allI c G U) : ∃ G' U', B_law (fun _ _ => none) k xs (lawL i) (zM G U) = some (oN (lawL (i + 7)) (zM G' U')) ∧ allI (c + 1) G' U' := by
  obtain ⟨G', U', s1, s2⟩ := law_c (L := lawL i) (op_shrunk (c := c) rg_t) rfl (eAR law_l1 (eAI (law_q1 (by omega) hk) eAN)) (fun σ => eAR law_l2 (eAI (law_q1 (by omega) hk) eAN)) hg
  refine ⟨G', U', ?_, s2⟩
  unfold B_law
  refine law_at he (by omega) ?_
  simp only [List.getElem?_cons_succ, List.getElem?_cons_zero, Option.getD_some]
  exact s1
theorem case_25 {c k i : Nat} {xs : Nat → Int32} {G U : Nat → Nat → Int} (hc : c ≤ 600) (hi7 : i + 7 ≤ k) (hk : k < 2 ^ 20) (he : bI (fun x y => x &&& y) (qI k xs (lR 0) (lI 3)) (kI 63) (lawL i) (zM G U) = some (nI 25, zM G U)) (hg : allI c G U) : ∃ G' U', B_law (fun _ _ => none) k xs (lawL i) (zM G U) = some (oN (lawL (i + 7)) (zM G' U')) ∧ allI (c + 1) G' U' := by
  obtain ⟨G', U', s1, s2⟩ := law_c (L := lawL i) (op_moves (c := c) rg_t) rfl (eAR law_l1 (eAI (law_q1 (by omega) hk) eAN)) (fun σ => eAR law_l2 (eAI (law_q1 (by omega) hk) eAN)) hg
  refine ⟨G', U', ?_, s2⟩
  unfold B_law
  refine law_at he (by omega) ?_
  simp only [List.getElem?_cons_succ, List.getElem?_cons_zero, Option.getD_some]
  exact s1
theorem case_26 {c k i : Nat} {xs : Nat → Int32} {G U : Nat → Nat → Int} (hc : c ≤ 600) (hi7 : i + 7 ≤ k) (hk : k < 2 ^ 20) (he : bI (fun x y => x &&& y) (qI k xs (lR 0) (lI 3)) (kI 63) (lawL i) (zM G U) = some (nI 26, zM G U)) (hg : allI c G U) : ∃ G' U', B_law (fun _ _ => none) k xs (lawL i) (zM G U) = some (oN (lawL (i + 7)) (zM G' U')) ∧ allI (c + 1) G' U' := by
  obtain ⟨G', U', s1, s2⟩ := law_c (L := lawL i) (op_together (c := c) rg_t rg_t) rfl (eAR law_l1 (eAI (law_q1 (by omega) hk) (eAI (law_q2 (by omega) hk) eAN))) (fun σ => eAR law_l2 (eAI (law_q1 (by omega) hk) (eAI (law_q2 (by omega) hk) eAN))) hg
  refine ⟨G', U', ?_, s2⟩
  unfold B_law
  refine law_at he (by omega) ?_
  simp only [List.getElem?_cons_succ, List.getElem?_cons_zero, Option.getD_some]
  exact s1
theorem case_27 {c k i : Nat} {xs : Nat → Int32} {G U : Nat → Nat → Int} (hc : c ≤ 600) (hi7 : i + 7 ≤ k) (hk : k < 2 ^ 20) (he : bI (fun x y => x &&& y) (qI k xs (lR 0) (lI 3)) (kI 63) (lawL i) (zM G U) = some (nI 27, zM G U)) (hg : allI c G U) : ∃ G' U', B_law (fun _ _ => none) k xs (lawL i) (zM G U) = some (oN (lawL (i + 7)) (zM G' U')) ∧ allI (c + 1) G' U' := by
  obtain ⟨G', U', s1, s2⟩ := law_c (L := lawL i) (op_gap (c := c) rg_t rg_t rg_t) rfl (eAR law_l1 (eAI (law_q1 (by omega) hk) (eAI (law_q2 (by omega) hk) (eAI (law_q3 (by omega) hk) eAN)))) (fun σ => eAR law_l2 (eAI (law_q1 (by omega) hk) (eAI (law_q2 (by omega) hk) (eAI (law_q3 (by omega) hk) eAN)))) hg
  refine ⟨G', U', ?_, s2⟩
  unfold B_law
  refine law_at he (by omega) ?_
  simp only [List.getElem?_cons_succ, List.getElem?_cons_zero, Option.getD_some]
  exact s1
theorem case_28 {c k i : Nat} {xs : Nat → Int32} {G U : Nat → Nat → Int} (hc : c ≤ 600) (hi7 : i + 7 ≤ k) (hk : k < 2 ^ 20) (he : bI (fun x y => x &&& y) (qI k xs (lR 0) (lI 3)) (kI 63) (lawL i) (zM G U) = some (nI 28, zM G U)) (hg : allI c G U) : ∃ G' U', B_law (fun _ _ => none) k xs (lawL i) (zM G U) = some (oN (lawL (i + 7)) (zM G' U')) ∧ allI (c + 1) G' U' := by
  obtain ⟨G', U', s1, s2⟩ := law_c (L := lawL i) (op_orders (c := c) rg_t rg_t) rfl (eAR law_l1 (eAI (law_q1 (by omega) hk) (eAI (law_q2 (by omega) hk) eAN))) (fun σ => eAR law_l2 (eAI (law_q1 (by omega) hk) (eAI (law_q2 (by omega) hk) eAN))) hg
  refine ⟨G', U', ?_, s2⟩
  unfold B_law
  refine law_at he (by omega) ?_
  simp only [List.getElem?_cons_succ, List.getElem?_cons_zero, Option.getD_some]
  exact s1
theorem case_29 {c k i : Nat} {xs : Nat → Int32} {G U : Nat → Nat → Int} (hc : c ≤ 600) (hi7 : i + 7 ≤ k) (hk : k < 2 ^ 20) (he : bI (fun x y => x &&& y) (qI k xs (lR 0) (lI 3)) (kI 63) (lawL i) (zM G U) = some (nI 29, zM G U)) (hg : allI c G U) : ∃ G' U', B_law (fun _ _ => none) k xs (lawL i) (zM G U) = some (oN (lawL (i + 7)) (zM G' U')) ∧ allI (c + 1) G' U' := by
  obtain ⟨G', U', s1, s2⟩ := law_c (L := lawL i) (op_costs (c := c) hc rg_t rg_t rg_t) rfl (eAR law_l1 (eAI (law_q1 (by omega) hk) (eAI (law_q2 (by omega) hk) (eAI (law_q3 (by omega) hk) eAN)))) (fun σ => eAR law_l2 (eAI (law_q1 (by omega) hk) (eAI (law_q2 (by omega) hk) (eAI (law_q3 (by omega) hk) eAN)))) hg
  refine ⟨G', U', ?_, s2⟩
  unfold B_law
  refine law_at he (by omega) ?_
  simp only [List.getElem?_cons_succ, List.getElem?_cons_zero, Option.getD_some]
  exact s1
theorem case_30 {c k i : Nat} {xs : Nat → Int32} {G U : Nat → Nat → Int} (hc : c ≤ 600) (hi7 : i + 7 ≤ k) (hk : k < 2 ^ 20) (he : bI (fun x y => x &&& y) (qI k xs (lR 0) (lI 3)) (kI 63) (lawL i) (zM G U) = some (nI 30, zM G U)) (hg : allI c G U) : ∃ G' U', B_law (fun _ _ => none) k xs (lawL i) (zM G U) = some (oN (lawL (i + 7)) (zM G' U')) ∧ allI (c + 1) G' U' := by
  obtain ⟨G', U', s1, s2⟩ := law_c (L := lawL i) (op_earliest (c := c) hc rg_t) rfl (eAR law_l1 (eAI (law_q1 (by omega) hk) eAN)) (fun σ => eAR law_l2 (eAI (law_q1 (by omega) hk) eAN)) hg
  refine ⟨G', U', ?_, s2⟩
  unfold B_law
  refine law_at he (by omega) ?_
  simp only [List.getElem?_cons_succ, List.getElem?_cons_zero, Option.getD_some]
  exact s1
theorem case_31 {c k i : Nat} {xs : Nat → Int32} {G U : Nat → Nat → Int} (hc : c ≤ 600) (hi7 : i + 7 ≤ k) (hk : k < 2 ^ 20) (he : bI (fun x y => x &&& y) (qI k xs (lR 0) (lI 3)) (kI 63) (lawL i) (zM G U) = some (nI 31, zM G U)) (hg : allI c G U) : ∃ G' U', B_law (fun _ _ => none) k xs (lawL i) (zM G U) = some (oN (lawL (i + 7)) (zM G' U')) ∧ allI (c + 1) G' U' := by
  obtain ⟨G', U', s1, s2⟩ := law_c (L := lawL i) (op_holes (c := c) rg_t rg_t rg_t) rfl (eAR law_l1 (eAI (law_q1 (by omega) hk) (eAI (law_q2 (by omega) hk) (eAI (law_q3 (by omega) hk) eAN)))) (fun σ => eAR law_l2 (eAI (law_q1 (by omega) hk) (eAI (law_q2 (by omega) hk) (eAI (law_q3 (by omega) hk) eAN)))) hg
  refine ⟨G', U', ?_, s2⟩
  unfold B_law
  refine law_at he (by omega) ?_
  simp only [List.getElem?_cons_succ, List.getElem?_cons_zero, Option.getD_some]
  exact s1
theorem case_32 {c k i : Nat} {xs : Nat → Int32} {G U : Nat → Nat → Int} (hc : c ≤ 600) (hi7 : i + 7 ≤ k) (hk : k < 2 ^ 20) (he : bI (fun x y => x &&& y) (qI k xs (lR 0) (lI 3)) (kI 63) (lawL i) (zM G U) = some (nI 32, zM G U)) (hg : allI c G U) : ∃ G' U', B_law (fun _ _ => none) k xs (lawL i) (zM G U) = some (oN (lawL (i + 7)) (zM G' U')) ∧ allI (c + 1) G' U' := by
  obtain ⟨G', U', s1, s2⟩ := law_cJ (L := lawL i) (op_led (c := c) rg_t) rfl (eAR law_l1 (eAI (law_q1 (by omega) hk) eAN)) (fun σ => eAR law_l2 (eAI (law_q1 (by omega) hk) eAN)) hg
  refine ⟨G', U', ?_, s2⟩
  unfold B_law
  refine law_at he (by omega) ?_
  simp only [List.getElem?_cons_succ, List.getElem?_cons_zero, Option.getD_some]
  exact s1
theorem case_33 {c k i : Nat} {xs : Nat → Int32} {G U : Nat → Nat → Int} (hc : c ≤ 600) (hi7 : i + 7 ≤ k) (hk : k < 2 ^ 20) (he : bI (fun x y => x &&& y) (qI k xs (lR 0) (lI 3)) (kI 63) (lawL i) (zM G U) = some (nI 33, zM G U)) (hg : allI c G U) : ∃ G' U', B_law (fun _ _ => none) k xs (lawL i) (zM G U) = some (oN (lawL (i + 7)) (zM G' U')) ∧ allI (c + 1) G' U' := by
  obtain ⟨G', U', s1, s2⟩ := law_c (L := lawL i) (op_chart (c := c) rg_t rg_t) rfl (eAR law_l1 (eAI (law_q1 (by omega) hk) (eAI (law_q2 (by omega) hk) eAN))) (fun σ => eAR law_l2 (eAI (law_q1 (by omega) hk) (eAI (law_q2 (by omega) hk) eAN))) hg
  refine ⟨G', U', ?_, s2⟩
  unfold B_law
  refine law_at he (by omega) ?_
  simp only [List.getElem?_cons_succ, List.getElem?_cons_zero, Option.getD_some]
  exact s1
theorem case_34 {c k i : Nat} {xs : Nat → Int32} {G U : Nat → Nat → Int} (hc : c ≤ 600) (hi7 : i + 7 ≤ k) (hk : k < 2 ^ 20) (he : bI (fun x y => x &&& y) (qI k xs (lR 0) (lI 3)) (kI 63) (lawL i) (zM G U) = some (nI 34, zM G U)) (hg : allI c G U) : ∃ G' U', B_law (fun _ _ => none) k xs (lawL i) (zM G U) = some (oN (lawL (i + 7)) (zM G' U')) ∧ allI (c + 1) G' U' := by
  obtain ⟨G', U', s1, s2⟩ := law_c (L := lawL i) (op_event (c := c) hc rg_t rg_t) rfl (eAR law_l1 (eAI (law_q1 (by omega) hk) (eAI (law_q2 (by omega) hk) eAN))) (fun σ => eAR law_l2 (eAI (law_q1 (by omega) hk) (eAI (law_q2 (by omega) hk) eAN))) hg
  refine ⟨G', U', ?_, s2⟩
  unfold B_law
  refine law_at he (by omega) ?_
  simp only [List.getElem?_cons_succ, List.getElem?_cons_zero, Option.getD_some]
  exact s1
theorem case_35 {c k i : Nat} {xs : Nat → Int32} {G U : Nat → Nat → Int} (hc : c ≤ 600) (hi7 : i + 7 ≤ k) (hk : k < 2 ^ 20) (he : bI (fun x y => x &&& y) (qI k xs (lR 0) (lI 3)) (kI 63) (lawL i) (zM G U) = some (nI 35, zM G U)) (hg : allI c G U) : ∃ G' U', B_law (fun _ _ => none) k xs (lawL i) (zM G U) = some (oN (lawL (i + 7)) (zM G' U')) ∧ allI (c + 1) G' U' := by
  obtain ⟨G', U', s1, s2⟩ := law_c (L := lawL i) (op_started (c := c) rg_t) rfl (eAR law_l1 (eAI (law_q1 (by omega) hk) eAN)) (fun σ => eAR law_l2 (eAI (law_q1 (by omega) hk) eAN)) hg
  refine ⟨G', U', ?_, s2⟩
  unfold B_law
  refine law_at he (by omega) ?_
  simp only [List.getElem?_cons_succ, List.getElem?_cons_zero, Option.getD_some]
  exact s1
theorem case_36 {c k i : Nat} {xs : Nat → Int32} {G U : Nat → Nat → Int} (hc : c ≤ 600) (hi7 : i + 7 ≤ k) (hk : k < 2 ^ 20) (he : bI (fun x y => x &&& y) (qI k xs (lR 0) (lI 3)) (kI 63) (lawL i) (zM G U) = some (nI 36, zM G U)) (hg : allI c G U) : ∃ G' U', B_law (fun _ _ => none) k xs (lawL i) (zM G U) = some (oN (lawL (i + 7)) (zM G' U')) ∧ allI (c + 1) G' U' := by
  obtain ⟨G', U', s1, s2⟩ := law_c (L := lawL i) (op_image (c := c)) rfl (eAR law_l1 eAN) (fun σ => eAR law_l2 eAN) hg
  refine ⟨G', U', ?_, s2⟩
  unfold B_law
  refine law_at he (by omega) ?_
  simp only [List.getElem?_cons_succ, List.getElem?_cons_zero, Option.getD_some]
  exact s1
theorem case_37 {c k i : Nat} {xs : Nat → Int32} {G U : Nat → Nat → Int} (hc : c ≤ 600) (hi7 : i + 7 ≤ k) (hk : k < 2 ^ 20) (he : bI (fun x y => x &&& y) (qI k xs (lR 0) (lI 3)) (kI 63) (lawL i) (zM G U) = some (nI 37, zM G U)) (hg : allI c G U) : ∃ G' U', B_law (fun _ _ => none) k xs (lawL i) (zM G U) = some (oN (lawL (i + 7)) (zM G' U')) ∧ allI (c + 1) G' U' := by
  obtain ⟨G', U', s1, s2⟩ := law_c (L := lawL i) (op_back (c := c)) rfl (eAR law_l1 eAN) (fun σ => eAR law_l2 eAN) hg
  refine ⟨G', U', ?_, s2⟩
  unfold B_law
  refine law_at he (by omega) ?_
  simp only [List.getElem?_cons_succ, List.getElem?_cons_zero, Option.getD_some]
  exact s1
theorem case_38 {c k i : Nat} {xs : Nat → Int32} {G U : Nat → Nat → Int} (hc : c ≤ 600) (hi7 : i + 7 ≤ k) (hk : k < 2 ^ 20) (he : bI (fun x y => x &&& y) (qI k xs (lR 0) (lI 3)) (kI 63) (lawL i) (zM G U) = some (nI 38, zM G U)) (hg : allI c G U) : ∃ G' U', B_law (fun _ _ => none) k xs (lawL i) (zM G U) = some (oN (lawL (i + 7)) (zM G' U')) ∧ allI (c + 1) G' U' := by
  obtain ⟨G', U', s1, s2⟩ := law_c (L := lawL i) (op_count (c := c) rg_t) rfl (eAR law_l1 (eAI (law_q1 (by omega) hk) eAN)) (fun σ => eAR law_l2 (eAI (law_q1 (by omega) hk) eAN)) hg
  refine ⟨G', U', ?_, s2⟩
  unfold B_law
  refine law_at he (by omega) ?_
  simp only [List.getElem?_cons_succ, List.getElem?_cons_zero, Option.getD_some]
  exact s1
theorem case_39 {c k i j : Nat} {xs : Nat → Int32} {G U : Nat → Nat → Int} (hj : j < 64) (h39 : 39 ≤ j) (he : bI (fun x y => x &&& y) (qI k xs (lR 0) (lI 3)) (kI 63) (lawL i) (zM G U) = some (nI j, zM G U)) (hg : allI c G U) : ∃ G' U', B_law (fun _ _ => none) k xs (lawL i) (zM G U) = some (oN (lawL (i + 7)) (zM G' U')) ∧ allI (c + 1) G' U' := by
  refine ⟨G, U, ?_, allI_up hg⟩
  unfold B_law
  refine law_at he hj ?_
  rw [List.getElem?_eq_none (by simp only [List.length_cons, List.length_nil]; omega)]
  rfl
def textR (l : Launch) (c : Nat) : Prop := ∀ (G U : Nat → Nat → Int) (a b : Int), rg a → rg b → allI c G U → ∃ r : Int32, TextRun l [pR 0, pI (Int32.ofInt a), pI (Int32.ofInt b)] (zM G U) r ∧ ∃ G' U', F_M_text [pR 179, pI (Int32.ofInt a), pI (Int32.ofInt b)] (zM G U) = some (some (pI r), zM G' U') ∧ allI (c + 1) G' U'
theorem iter_ok {l : Launch} {c k i : Nat} {xs : Nat → Int32} {G U : Nat → Nat → Int} (hT : textR l c) (hc : c ≤ 600) (hi : i + 7 ≤ k) (hk : k < 2 ^ 20) (hg : allI c G U) : ∃ G' U', IterOK l k xs i (zM G U) (zM G' U') ∧ allI (c + 1) G' U' := by
  obtain ⟨j, hj, he⟩ := law_sw (xs := xs) (k := k) (i := i) (by omega) hk
  have q1 := fun σ => law_q1 (xs := xs) (k := k) (i := i) (σ := σ) (by omega) hk
  have q2 := fun σ => law_q2 (xs := xs) (k := k) (i := i) (σ := σ) (by omega) hk
  have q3 := fun σ => law_q3 (xs := xs) (k := k) (i := i) (σ := σ) (by omega) hk
  have q4 := fun σ => law_q4 (xs := xs) (k := k) (i := i) (σ := σ) (by omega) hk
  have q5 := fun σ => law_q5 (xs := xs) (k := k) (i := i) (σ := σ) (by omega) hk
  have q6 := fun σ => law_q6 (xs := xs) (k := k) (i := i) (σ := σ) (by omega) hk
  by_cases h13 : j = 13
  · subst h13
    obtain ⟨r, t1, G', U', t2, t3⟩ := hT G U (xs (i + 1)).toInt (xs (i + 2)).toInt rg_t rg_t hg
    refine ⟨G', U', Or.inr ⟨r, _, _, he (zM G U), eAR law_l1 (eAI (q1 _) (eAI (q2 _) eAN)), t1, ?_⟩, t3⟩
    have a2 : (aCR (lR 2) (aCI (qI k xs (lR 0) (bI (fun x y => x + y) (lI 3) (kI 1))) (aCI (qI k xs (lR 0) (bI (fun x y => x + y) (lI 3) (kI 2))) aN))) (lawL i) (zM G U) = some ([pR 179, pI (Int32.ofInt (xs (i + 1)).toInt), pI (Int32.ofInt (xs (i + 2)).toInt)], zM G U) := eAR law_l2 (eAI (q1 _) (eAI (q2 _) eAN))
    have k2 : ckV 12 [pR 179, pI (Int32.ofInt (xs (i + 1)).toInt), pI (Int32.ofInt (xs (i + 2)).toInt)] = true := rfl
    show vC 12 F_M_text rI (aCR (lR 2) (aCI (qI k xs (lR 0) (bI (fun x y => x + y) (lI 3) (kI 1))) (aCI (qI k xs (lR 0) (bI (fun x y => x + y) (lI 3) (kI 2))) aN))) (lawL i) (zM G U) = some (r, zM G' U')
    simp only [vC, a2, Option.bind_some, k2, if_true, t2, rI, Option.map_some]
  · have hleft : ∃ G' U', B_law (fun _ _ => none) k xs (lawL i) (zM G U) = some (oN (lawL (i + 7)) (zM G' U')) ∧ allI (c + 1) G' U' := by
      have he := he (zM G U)
      rcases (by omega : j = 0 ∨ j = 1 ∨ j = 2 ∨ j = 3 ∨ j = 4 ∨ j = 5 ∨ j = 6 ∨ j = 7 ∨ j = 8 ∨ j = 9 ∨ j = 10 ∨ j = 11 ∨ j = 12 ∨ j = 14 ∨ j = 15 ∨ j = 16 ∨ j = 17 ∨ j = 18 ∨ j = 19 ∨ j = 20 ∨ j = 21 ∨ j = 22 ∨ j = 23 ∨ j = 24 ∨ j = 25 ∨ j = 26 ∨ j = 27 ∨ j = 28 ∨ j = 29 ∨ j = 30 ∨ j = 31 ∨ j = 32 ∨ j = 33 ∨ j = 34 ∨ j = 35 ∨ j = 36 ∨ j = 37 ∨ j = 38 ∨ 39 ≤ j) with rfl | rfl | rfl | rfl | rfl | rfl | rfl | rfl | rfl | rfl | rfl | rfl | rfl | rfl | rfl | rfl | rfl | rfl | rfl | rfl | rfl | rfl | rfl | rfl | rfl | rfl | rfl | rfl | rfl | rfl | rfl | rfl | rfl | rfl | rfl | rfl | rfl | rfl | h39
      · exact case_0 hc hi hk he hg
      · exact case_1 hc hi hk he hg
      · exact case_2 hc hi hk he hg
      · exact case_3 hc hi hk he hg
      · exact case_4 hc hi hk he hg
      · exact case_5 hc hi hk he hg
      · exact case_6 hc hi hk he hg
      · exact case_7 hc hi hk he hg
      · exact case_8 hc hi hk he hg
      · exact case_9 hc hi hk he hg
      · exact case_10 hc hi hk he hg
      · exact case_11 hc hi hk he hg
      · exact case_12 hc hi hk he hg
      · exact case_14 hc hi hk he hg
      · exact case_15 hc hi hk he hg
      · exact case_16 hc hi hk he hg
      · exact case_17 hc hi hk he hg
      · exact case_18 hc hi hk he hg
      · exact case_19 hc hi hk he hg
      · exact case_20 hc hi hk he hg
      · exact case_21 hc hi hk he hg
      · exact case_22 hc hi hk he hg
      · exact case_23 hc hi hk he hg
      · exact case_24 hc hi hk he hg
      · exact case_25 hc hi hk he hg
      · exact case_26 hc hi hk he hg
      · exact case_27 hc hi hk he hg
      · exact case_28 hc hi hk he hg
      · exact case_29 hc hi hk he hg
      · exact case_30 hc hi hk he hg
      · exact case_31 hc hi hk he hg
      · exact case_32 hc hi hk he hg
      · exact case_33 hc hi hk he hg
      · exact case_34 hc hi hk he hg
      · exact case_35 hc hi hk he hg
      · exact case_36 hc hi hk he hg
      · exact case_37 hc hi hk he hg
      · exact case_38 hc hi hk he hg
      · exact case_39 hj h39 he hg
    obtain ⟨G', U', h1, h2⟩ := hleft
    exact ⟨G', U', Or.inl h1, h2⟩
theorem law_pure_of {l : Launch} {L : Nat} {xs : Nat → Int32} (hT : ∀ c, c ≤ 600 → textR l c) (hL : L ≤ 3584) (h0 : allI 0 GF U0) : LawPure l L xs := by
  have step : ∀ (k : Nat) (s : {p : (Nat → Nat → Int) × (Nat → Nat → Int) // 7 * k ≤ L → allI k p.1 p.2}), ∃ s' : {p : (Nat → Nat → Int) × (Nat → Nat → Int) // 7 * (k + 1) ≤ L → allI (k + 1) p.1 p.2}, 7 * k + 7 ≤ L → IterOK l L xs (7 * k) (zM s.1.1 s.1.2) (zM s'.1.1 s'.1.2) := by
    intro k s
    by_cases h : 7 * k + 7 ≤ L
    · obtain ⟨G', U', h1, h2⟩ := iter_ok (xs := xs) (hT k (by omega)) (by omega) h (by omega) (s.2 (by omega))
      exact ⟨⟨(G', U'), fun _ => h2⟩, fun _ => h1⟩
    · exact ⟨⟨s.1, fun h2 => absurd h2 (by omega)⟩, fun h2 => absurd h2 h⟩
  let T : ∀ k, {p : (Nat → Nat → Int) × (Nat → Nat → Int) // 7 * k ≤ L → allI k p.1 p.2} := fun k => Nat.rec ⟨(GF, U0), fun _ => h0⟩ (fun k s => (step k s).choose) k
  exact ⟨fun k => zM (T k).1.1 (T k).1.2, ctor_eq, fun k hk => (step k (T k)).choose_spec hk⟩
