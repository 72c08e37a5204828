/-! ===== the law's look at every column ===== -/
theorem ln197 : lenOf 0 197 = 24 := by decide +kernel
theorem ln196 : lenOf 2 196 = 8 := by decide +kernel
theorem tn60 {s : Nat} : (6 * (s : Int)).toNat = 6 * s := by omega
theorem tn61 {s : Nat} : (6 * (s : Int) + 1).toNat = 6 * s + 1 := by omega
theorem tn62 {s : Nat} : (6 * (s : Int) + 2).toNat = 6 * s + 2 := by omega
theorem tn63 {s : Nat} : (6 * (s : Int) + 3).toNat = 6 * s + 3 := by omega
theorem tn64 {s : Nat} : (6 * (s : Int) + 4).toNat = 6 * s + 4 := by omega
theorem tn65 {s : Nat} : (6 * (s : Int) + 5).toNat = 6 * s + 5 := by omega
section CL
variable {c : Nat} {G U : Nat → Nat → Int} {N B C : pQ} {R : Option pV → pM → Prop} {l0 l3 l9 l10 l11 l12 l13 l20 l21 l22 : Option pV} {t bnd mst : Int} {n : Nat}
abbrev LQc (l0 l3 l9 l10 l11 l12 l13 : Option pV) (bnd : Int) (l5 : Option pV) (n : Nat) (id : Int) (t : Int) (a b d e l20 l21 l22 : Option pV) : pLo := [l0, some (pR 0), some (pR 196), l3, some (pI (Int32.ofInt bnd)), l5, some (pR 197), some (pI (Int32.ofInt (n : Int))), some (pJ (Int64.ofInt id)), l9, l10, l11, l12, l13, some (pI (Int32.ofInt t)), some (pR 199), a, b, d, e, l20, l21, l22]
/-- the row of spans told -/
def spR (G : Nat → Nat → Int) (n : Nat) (sp : Nat → Nat → Int) : Prop := ∀ s, s < n → ∀ b, b < 6 → G 197 (6 * s + b) = sp s b ∧ rg (sp s b)
theorem lq_s {sp : Nat → Nat → Int} {x cc : Nat} {acc st id ob : Int} {l5 : Option pV} (hn4 : n ≤ 4) (hsp : spR G n sp) (hcc : cc < 16) (hx : x < 80) (hst : rg st) (hacc : rg acc) (ht : rg t) (hby : G 199 cc = (x : Int)) (hof : F_X_of [pR 0, pI (Int32.ofInt (x : Int)), pI (Int32.ofInt 6)] (zM G U) = some (some (pI (Int32.ofInt st)), zM G U)) (hok : ∀ s, s < n → ¬ (sp s 0 ≤ (cc : Int) ∧ (cc : Int) ≤ sp s 1 ∧ sp s 2 ≤ t ∧ t < sp s 3 ∧ sp s 5 ≤ st ∧ acc ≠ sp s 4))
    (hN : N (LQc l0 l3 l9 l10 l11 l12 l13 bnd l5 n id t (some (pI (Int32.ofInt ob))) (some (pI (Int32.ofInt (cc : Int)))) (some (pI (Int32.ofInt acc))) (some (pI (Int32.ofInt (n : Int)))) l20 l21 l22) (zM G U)) : WpS (sWh (mI .lt (lI 19) (lI 7)) (sIf (bAnd (bAnd (bAnd (bAnd (bAnd (mI .ge (lI 17) (aI 0 (lR 6) (bI (fun x y => x * y) (kI 6) (lI 19)))) (mI .le (lI 17) (aI 0 (lR 6) (bI (fun x y => x + y) (bI (fun x y => x * y) (kI 6) (lI 19)) (kI 1))))) (mI .ge (lI 14) (aI 0 (lR 6) (bI (fun x y => x + y) (bI (fun x y => x * y) (kI 6) (lI 19)) (kI 2))))) (mI .lt (lI 14) (aI 0 (lR 6) (bI (fun x y => x + y) (bI (fun x y => x * y) (kI 6) (lI 19)) (kI 3))))) (mI .ge (vC 11 F_X_of rI (aCR (lR 1) (aCI (aI 0 (lR 15) (lI 17)) (aCI (kI 6) aN)))) (aI 0 (lR 6) (bI (fun x y => x + y) (bI (fun x y => x * y) (kI 6) (lI 19)) (kI 5))))) (mI .ne (lI 18) (aI 0 (lR 6) (bI (fun x y => x + y) (bI (fun x y => x * y) (kI 6) (lI 19)) (kI 4))))) (sRZ (kZ false)) sSkip) (sInc 19 1)) (LQc l0 l3 l9 l10 l11 l12 l13 bnd l5 n id t (some (pI (Int32.ofInt ob))) (some (pI (Int32.ofInt (cc : Int)))) (some (pI (Int32.ofInt acc))) (some (pI (Int32.ofInt 0))) l20 l21 l22) (zM G U) N B C R := by
  refine wWh (fun i L σ => L = LQc l0 l3 l9 l10 l11 l12 l13 bnd l5 n id t (some (pI (Int32.ofInt ob))) (some (pI (Int32.ofInt (cc : Int)))) (some (pI (Int32.ofInt acc))) (some (pI (Int32.ofInt (i : Int)))) l20 l21 l22 ∧ σ = zM G U) n (by omega) ⟨rfl, rfl⟩ ?_
  rintro i _ _ hi ⟨rfl, rfl⟩
  have k7 := ln197
  have k9 := ln199
  rcases Nat.lt_or_ge i n with hlt | hge
  · have hs := hsp i hlt
    obtain ⟨v0, r0⟩ := hs 0 (by decide)
    obtain ⟨v1, r1⟩ := hs 1 (by decide)
    obtain ⟨v2, r2⟩ := hs 2 (by decide)
    obtain ⟨v3, r3⟩ := hs 3 (by decide)
    obtain ⟨v4, r4⟩ := hs 4 (by decide)
    obtain ⟨v5, r5⟩ := hs 5 (by decide)
    rw [Nat.add_zero] at v0
    have hno := hok i hlt
    repeat' first | with_reducible apply wSeq | with_reducible apply wSkip | with_reducible apply wIf | with_reducible apply wAsI | with_reducible apply wAsJ | ((with_reducible apply wInc); rfl) | with_reducible apply wKil | with_reducible apply wCnt | with_reducible apply wRZ | with_reducible apply wLmdA2 | with_reducible apply wB_e | (intro h; try simp only [Bool.and_eq_true, Bool.or_eq_true, Bool.not_eq_true', Bool.not_eq_false', Bool.and_eq_false_imp, Bool.or_eq_false_iff, decide_eq_true_eq, decide_eq_false_iff_not, Bool.not_true, Bool.not_false, Bool.true_eq_false, Bool.false_eq_true, Bool.not_not] at h) | with_reducible apply wN1 | with_reducible apply wN2 | with_reducible apply wN3 | with_reducible apply wN4 | with_reducible apply wN0 | with_reducible apply wE0 | with_reducible apply wXI | with_reducible apply wXB | with_reducible exact hof | with_reducible exact ckx0 | with_reducible exact k7 | with_reducible exact k9 | with_reducible exact tn60 | with_reducible exact tn61 | with_reducible exact tn62 | with_reducible exact tn63 | with_reducible exact tn64 | with_reducible exact tn65 | with_reducible exact v0 | with_reducible exact v1 | with_reducible exact v2 | with_reducible exact v3 | with_reducible exact v4 | with_reducible exact v5 | with_reducible exact hby | with_reducible exact eK | with_reducible exact eKJ | ((with_reducible apply eL); rfl) | ((with_reducible apply eLJ); rfl) | ((with_reducible apply eLR); rfl) | with_reducible exact eAN | with_reducible apply eAdd | with_reducible apply eMul | with_reducible apply eLt | with_reducible apply eLe | with_reducible apply eGe | with_reducible apply eEq | with_reducible apply eNe | with_reducible apply eJAdd | with_reducible apply eAnd | with_reducible apply eIteI | with_reducible apply eIteJ | with_reducible apply eIte | with_reducible exact eKZ | with_reducible apply eArr2 | with_reducible apply eAI | with_reducible apply eAR | with_reducible apply eCI | with_reducible apply eCZ | with_reducible apply wRc | with_reducible exact C_X | with_reducible exact Int.toNat_natCast _ | with_reducible exact tn0 | with_reducible exact tn1 | with_reducible exact tn2 | with_reducible exact tn3 | with_reducible exact tn4 | with_reducible exact tn5 | with_reducible exact tn6 | with_reducible exact tn7 | with_reducible exact tn8 | with_reducible exact tn9 | with_reducible exact tn10 | with_reducible exact tn11 | with_reducible exact tn12 | with_reducible exact tn13 | with_reducible exact tn14 | with_reducible exact tn15 | with_reducible exact tn16 | with_reducible exact tnK0 | with_reducible exact tnK4 | with_reducible exact tnK8 | with_reducible exact tnK12 | with_reducible exact tnK16 | with_reducible exact tnK20 | with_reducible exact tnK24 | with_reducible exact tnK28 | with_reducible exact tnK32 | with_reducible exact tnJA | with_reducible exact tnA | with_reducible exact upR_s | ((with_reducible apply upR_a); (first | decide | omega)) | ((with_reducible apply upR_b); (first | decide | omega)) | ((with_reducible apply cpR_o); (first | decide | omega)) | with_reducible apply lt_pSet1 | with_reducible apply lt_kil | exact Nat.le_of_ble_eq_true rfl | with_reducible assumption | with_reducible exact rfl | omega | with_reducible apply wAnd | decide +kernel
    all_goals first | exact ⟨rfl, rfl⟩ | skip
    all_goals skip
  · have ei : i = n := by omega
    subst ei
    repeat' first | with_reducible apply wSeq | with_reducible apply wSkip | with_reducible apply wIf | with_reducible apply wAsI | with_reducible apply wAsJ | ((with_reducible apply wInc); rfl) | with_reducible apply wKil | with_reducible apply wCnt | with_reducible apply wRZ | with_reducible apply wLmdA2 | with_reducible apply wB_e | (intro h; try simp only [Bool.and_eq_true, Bool.or_eq_true, Bool.not_eq_true', Bool.not_eq_false', Bool.and_eq_false_imp, Bool.or_eq_false_iff, decide_eq_true_eq, decide_eq_false_iff_not, Bool.not_true, Bool.not_false, Bool.true_eq_false, Bool.false_eq_true, Bool.not_not] at h) | with_reducible apply wN1 | with_reducible apply wN2 | with_reducible apply wN3 | with_reducible apply wN4 | with_reducible apply wN0 | with_reducible apply wE0 | with_reducible apply wXI | with_reducible apply wXB | with_reducible exact eK | with_reducible exact eKJ | ((with_reducible apply eL); rfl) | ((with_reducible apply eLJ); rfl) | ((with_reducible apply eLR); rfl) | with_reducible exact eAN | with_reducible apply eAdd | with_reducible apply eMul | with_reducible apply eLt | with_reducible apply eLe | with_reducible apply eGe | with_reducible apply eEq | with_reducible apply eNe | with_reducible apply eJAdd | with_reducible apply eAnd | with_reducible apply eIteI | with_reducible apply eIteJ | with_reducible apply eIte | with_reducible exact eKZ | with_reducible apply eArr2 | with_reducible apply eAI | with_reducible apply eAR | with_reducible apply eCI | with_reducible apply eCZ | with_reducible apply wRc | with_reducible exact C_X | with_reducible exact Int.toNat_natCast _ | with_reducible exact tn0 | with_reducible exact tn1 | with_reducible exact tn2 | with_reducible exact tn3 | with_reducible exact tn4 | with_reducible exact tn5 | with_reducible exact tn6 | with_reducible exact tn7 | with_reducible exact tn8 | with_reducible exact tn9 | with_reducible exact tn10 | with_reducible exact tn11 | with_reducible exact tn12 | with_reducible exact tn13 | with_reducible exact tn14 | with_reducible exact tn15 | with_reducible exact tn16 | with_reducible exact tnK0 | with_reducible exact tnK4 | with_reducible exact tnK8 | with_reducible exact tnK12 | with_reducible exact tnK16 | with_reducible exact tnK20 | with_reducible exact tnK24 | with_reducible exact tnK28 | with_reducible exact tnK32 | with_reducible exact tnJA | with_reducible exact tnA | with_reducible exact upR_s | ((with_reducible apply upR_a); (first | decide | omega)) | ((with_reducible apply upR_b); (first | decide | omega)) | ((with_reducible apply cpR_o); (first | decide | omega)) | with_reducible apply lt_pSet1 | with_reducible apply lt_kil | exact Nat.le_of_ble_eq_true rfl | with_reducible assumption | with_reducible exact rfl | omega | with_reducible apply wAnd | decide +kernel
    all_goals first | exact hN | (exfalso; omega)
def idTo (P : Nat → Int) (i : Nat) : Int := sumTo (fun c => if holderF P c < 0 then 1 else 0) i
theorem idTo_s (P : Nat → Int) (i : Nat) : idTo P (i + 1) = idTo P i + (if holderF P i < 0 then 1 else 0) := rfl
theorem heldTo_s (P : Nat → Int) (a : Int) (i : Nat) : heldTo P a (i + 1) = heldTo P a i + (if hoAcc P a i = true then 1 else 0) := rfl
set_option maxHeartbeats 1000000 in
theorem lq_c (hg : allI c G U) {P : Nat → Int} {sp : Nat → Nat → Int} {id : Int} {l5 : Option pV} (hI : rowI P) (hP1 : P 1 = G 180 1) (hPx : ∀ x w, x < (G 180 1).toNat → w < 32 → w ≠ 5 → w ≠ 7 → mAt (G 180) x w = mAt P x w) (hH : hoI P (G 180) t) (hAP : armI P (t + 1)) (ht : 0 ≤ t ∧ t ≤ 100000) (hbnd : 0 ≤ bnd ∧ bnd ≤ 7) (hn4 : n ≤ 4) (hsp : spR G n sp) (hspI : ∀ s, s < n → spI1 P (sp s)) (hch : ∀ b, b < 16 → chV (G 180) b = orN (holderF P b)) (hby : ∀ b, b < 16 → G 199 b = orN (holderF P b))
    (hN : ∀ (U1 : Nat → Nat → Int) (x y : Option pV), (∀ x, x ≠ 196 → U1 x = U x) → (∀ a : Nat, a < 8 → U1 196 a = U 196 a + heldTo P (a : Int) 16) → N (LQc l0 l3 none l10 l11 l12 l13 bnd l5 n (id + idTo P 16) t (some (pI (Int32.ofInt (heldTo P bnd 16)))) none none none l20 l21 l22) (zM G U1)) : WpS B_LQ (LQc l0 l3 none l10 l11 l12 l13 bnd l5 n id t none none none none l20 l21 l22) (zM G U) N B C R := by
  have hd : disj P := hI.2.2.1
  have hrow := hI.1
  unfold B_LQ
  refine wSeq (wAsI eK (Nat.le_of_ble_eq_true rfl) ?_)
  refine wSeqM (fun L σ => ∃ U1, (∀ x, x ≠ 196 → U1 x = U x) ∧ (∀ a : Nat, a < 8 → U1 196 a = U 196 a + heldTo P (a : Int) 16) ∧ L = LQc l0 l3 none l10 l11 l12 l13 bnd l5 n (id + idTo P 16) t (some (pI (Int32.ofInt (heldTo P bnd 16)))) (some (pI (Int32.ofInt 16))) none none l20 l21 l22 ∧ σ = zM G U1) ?_ ?_
  · refine wSeq (wAsI eK (Nat.le_of_ble_eq_true rfl) ?_)
    refine wWh (fun i L σ => ∃ U1, (∀ x, x ≠ 196 → U1 x = U x) ∧ (∀ a : Nat, a < 8 → U1 196 a = U 196 a + heldTo P (a : Int) i) ∧ L = LQc l0 l3 none l10 l11 l12 l13 bnd l5 n (id + idTo P i) t (some (pI (Int32.ofInt (heldTo P bnd i)))) (some (pI (Int32.ofInt (i : Int)))) none none l20 l21 l22 ∧ σ = zM G U1) 16 (by omega) ⟨U, fun _ _ => rfl, fun a _ => by show U 196 a = U 196 a + 0; omega, by rw [show id + idTo P 0 = id from by show id + 0 = id; omega, show heldTo P bnd 0 = 0 from rfl]; rfl, rfl⟩ ?_
    rintro i _ _ hi ⟨U1, hf, hu, rfl, rfl⟩
    have hg1 := allI_own (G1 := G) hg (fun _ _ => rfl) (fun x hx => hf x (by omega))
    have k9 := ln199
    have k6 := ln196
    rcases Nat.lt_or_ge i 16 with hlt | hge
    · have h1 := xr_chart hg1 (k := i) hlt
      rw [hch i hlt] at h1
      have hb := hby i hlt
      have hrgh := holderF_rg (g := P) (c := i)
      have hP80 := hrow.2.2.1
      rw [if_pos hP80.1] at hrgh
      rw [orN_ge hrgh.1] at h1 hb
      have hob := heldTo_rg (g := P) (acc := bnd) (n := i)
      by_cases hx : holderF P i < 0
      · rw [if_pos hx] at h1 hb
        repeat' first | with_reducible apply wSeq | with_reducible apply wSkip | with_reducible apply wIf | with_reducible apply wAsI | with_reducible apply wAsJ | ((with_reducible apply wInc); rfl) | with_reducible apply wKil | with_reducible apply wCnt | with_reducible apply wRZ | with_reducible apply wLmdA2 | with_reducible apply wB_e | (intro h; try simp only [Bool.and_eq_true, Bool.or_eq_true, Bool.not_eq_true', Bool.not_eq_false', Bool.and_eq_false_imp, Bool.or_eq_false_iff, decide_eq_true_eq, decide_eq_false_iff_not, Bool.not_true, Bool.not_false, Bool.true_eq_false, Bool.false_eq_true, Bool.not_not] at h) | with_reducible apply wN1 | with_reducible apply wN2 | with_reducible apply wN3 | with_reducible apply wN4 | with_reducible apply wN0 | with_reducible apply wE0 | with_reducible apply wXI | with_reducible apply wXB | with_reducible exact h1 | with_reducible exact ckx0 | with_reducible exact k9 | with_reducible exact hb | with_reducible exact eK | with_reducible exact eKJ | ((with_reducible apply eL); rfl) | ((with_reducible apply eLJ); rfl) | ((with_reducible apply eLR); rfl) | with_reducible exact eAN | with_reducible apply eAdd | with_reducible apply eMul | with_reducible apply eLt | with_reducible apply eLe | with_reducible apply eGe | with_reducible apply eEq | with_reducible apply eNe | with_reducible apply eJAdd | with_reducible apply eAnd | with_reducible apply eIteI | with_reducible apply eIteJ | with_reducible apply eIte | with_reducible exact eKZ | with_reducible apply eArr2 | with_reducible apply eAI | with_reducible apply eAR | with_reducible apply eCI | with_reducible apply eCZ | with_reducible apply wRc | with_reducible exact C_X | with_reducible exact Int.toNat_natCast _ | with_reducible exact tn0 | with_reducible exact tn1 | with_reducible exact tn2 | with_reducible exact tn3 | with_reducible exact tn4 | with_reducible exact tn5 | with_reducible exact tn6 | with_reducible exact tn7 | with_reducible exact tn8 | with_reducible exact tn9 | with_reducible exact tn10 | with_reducible exact tn11 | with_reducible exact tn12 | with_reducible exact tn13 | with_reducible exact tn14 | with_reducible exact tn15 | with_reducible exact tn16 | with_reducible exact tnK0 | with_reducible exact tnK4 | with_reducible exact tnK8 | with_reducible exact tnK12 | with_reducible exact tnK16 | with_reducible exact tnK20 | with_reducible exact tnK24 | with_reducible exact tnK28 | with_reducible exact tnK32 | with_reducible exact tnJA | with_reducible exact tnA | with_reducible exact upR_s | ((with_reducible apply upR_a); (first | decide | omega)) | ((with_reducible apply upR_b); (first | decide | omega)) | ((with_reducible apply cpR_o); (first | decide | omega)) | with_reducible apply lt_pSet1 | with_reducible apply lt_kil | exact Nat.le_of_ble_eq_true rfl | with_reducible assumption | with_reducible exact rfl | omega | with_reducible apply wAnd | decide +kernel
        all_goals first | (exfalso; omega) | exact absurd trivial h | skip
        have hfa : ∀ z : Int, ¬ hoAcc P z i = true := fun z => by unfold hoAcc; simp; omega
        refine ⟨U1, hf, fun a ha => ?_, ?_, rfl⟩
        · rw [hu a ha, heldTo_s, if_neg (hfa _)]
          omega
        · rw [heldTo_s P bnd, if_neg (hfa _), Int.add_zero, idTo_s, if_pos hx, ← Int.add_assoc]
          rfl
      · rw [if_neg hx] at h1 hb
        obtain ⟨x, hxx⟩ : ∃ x : Nat, holderF P i = (x : Int) := ⟨(holderF P i).toNat, by omega⟩
        rw [hxx] at h1 hb
        have hxn : x < (G 180 1).toNat := by rw [← hP1]; omega
        have hjo := row_j hrow (show x < (P 1).toNat by omega)
        obtain ⟨an, han⟩ : ∃ an : Nat, (an : Int) = mAt P x 0 := ⟨(mAt P x 0).toNat, by have := hjo.1; omega⟩
        have han8 : an < 8 := by have := hjo.1; omega
        obtain ⟨k, hk⟩ : ∃ k, hoC P i x k := by
          rcases hold_cases (c := i) hd with ⟨j, k, g1, g2⟩ | ⟨-, g2⟩
          · rw [hxx] at g2
            have : x = j := by omega
            subst this
            exact ⟨k, g1⟩
          · omega
        have hm4 : mArms (G 180) x = mArms P x := by
          unfold mArms
          rw [hPx x 4 hxn (by omega) (by omega) (by omega)]
        have hk4 := (jo_4 hjo).2.1
        have hkP := hk.2.1
        have hcell := (hH x k i hxn (by omega) hlt).mp hk
        rw [hPx x 6 hxn (by omega) (by omega) (by omega), hPx x (24 + k) hxn (by omega) (by omega) (by omega), hPx x (20 + k) hxn (by omega) (by omega) (by omega), hPx x (12 + k) hxn (by omega) (by omega) (by omega)] at hcell
        obtain ⟨c1, c2, c3, c4⟩ := hcell
        have hst := (hAP x (by omega) c1).2.1
        have y1 := xr_of hg1 (k := x) (t := 1) hxn (by decide)
        rw [show ofV (G 180) x 1 = mAt (G 180) x 0 from rfl, hPx x 0 hxn (by omega) (by omega) (by omega), ← han] at y1
        have hg2 := allI_own (G1 := G) (U1 := upZ U1 196 an (U1 196 an + 1)) hg (fun _ _ => rfl) (fun z hz => by
          have e1 : upZ U1 196 an (U1 196 an + 1) z = U1 z := by funext y; exact if_neg fun q => by omega
          rw [e1, hf z (by omega)])
        have y6 := xr_of hg2 (k := x) (t := 6) hxn (by decide)
        rw [show ofV (G 180) x 6 = orN (mAt (G 180) x 6) from rfl, hPx x 6 hxn (by omega) (by omega) (by omega), orN_ge (by omega), if_neg (by omega)] at y6
        simp only [Int.cast_ofNat_Int] at y1 y6
        have hok : ∀ s, s < n → ¬ (sp s 0 ≤ (i : Int) ∧ (i : Int) ≤ sp s 1 ∧ sp s 2 ≤ t ∧ t < sp s 3 ∧ sp s 5 ≤ mAt P x 6 ∧ (an : Int) ≠ sp s 4) := fun s hs hh => by
          have := (hspI s hs).2.2 x (by omega) c1 hh.2.2.2.2.1 k (i : Int) t hkP c3 c4 hh.1 hh.2.1 (by omega) c2 hh.2.2.1 hh.2.2.2.1
          exact hh.2.2.2.2.2 (by rw [han]; exact this)
        repeat' first | with_reducible apply wSeq | with_reducible apply wSkip | with_reducible apply wIf | with_reducible apply wAsI | with_reducible apply wAsJ | ((with_reducible apply wInc); rfl) | with_reducible apply wKil | with_reducible apply wCnt | with_reducible apply wRZ | with_reducible apply wLmdA2 | with_reducible apply wB_e | (intro h; try simp only [Bool.and_eq_true, Bool.or_eq_true, Bool.not_eq_true', Bool.not_eq_false', Bool.and_eq_false_imp, Bool.or_eq_false_iff, decide_eq_true_eq, decide_eq_false_iff_not, Bool.not_true, Bool.not_false, Bool.true_eq_false, Bool.false_eq_true, Bool.not_not] at h) | with_reducible apply wN1 | with_reducible apply wN2 | with_reducible apply wN3 | with_reducible apply wN4 | with_reducible apply wN0 | with_reducible apply wE0 | with_reducible apply wXI | with_reducible apply wXB | with_reducible exact h1 | with_reducible exact y1 | with_reducible exact ckx0 | with_reducible exact k9 | with_reducible exact k6 | with_reducible exact hb | with_reducible exact eK | with_reducible exact eKJ | ((with_reducible apply eL); rfl) | ((with_reducible apply eLJ); rfl) | ((with_reducible apply eLR); rfl) | with_reducible exact eAN | with_reducible apply eAdd | with_reducible apply eMul | with_reducible apply eLt | with_reducible apply eLe | with_reducible apply eGe | with_reducible apply eEq | with_reducible apply eNe | with_reducible apply eJAdd | with_reducible apply eAnd | with_reducible apply eIteI | with_reducible apply eIteJ | with_reducible apply eIte | with_reducible exact eKZ | with_reducible apply eArr2 | with_reducible apply eAI | with_reducible apply eAR | with_reducible apply eCI | with_reducible apply eCZ | with_reducible apply wRc | with_reducible exact C_X | with_reducible exact Int.toNat_natCast _ | with_reducible exact tn0 | with_reducible exact tn1 | with_reducible exact tn2 | with_reducible exact tn3 | with_reducible exact tn4 | with_reducible exact tn5 | with_reducible exact tn6 | with_reducible exact tn7 | with_reducible exact tn8 | with_reducible exact tn9 | with_reducible exact tn10 | with_reducible exact tn11 | with_reducible exact tn12 | with_reducible exact tn13 | with_reducible exact tn14 | with_reducible exact tn15 | with_reducible exact tn16 | with_reducible exact tnK0 | with_reducible exact tnK4 | with_reducible exact tnK8 | with_reducible exact tnK12 | with_reducible exact tnK16 | with_reducible exact tnK20 | with_reducible exact tnK24 | with_reducible exact tnK28 | with_reducible exact tnK32 | with_reducible exact tnJA | with_reducible exact tnA | with_reducible exact upR_s | ((with_reducible apply upR_a); (first | decide | omega)) | ((with_reducible apply upR_b); (first | decide | omega)) | ((with_reducible apply cpR_o); (first | decide | omega)) | with_reducible apply lt_pSet1 | with_reducible apply lt_kil | exact Nat.le_of_ble_eq_true rfl | with_reducible assumption | with_reducible exact rfl | omega | with_reducible apply wAnd | decide +kernel
        all_goals first | (exfalso; omega) | exact absurd trivial h | skip
        refine lq_s (x := x) (cc := i) (acc := (an : Int)) (st := mAt P x 6) hn4 hsp hlt (by omega) (by unfold rg; omega) (by unfold rg; omega) (by unfold rg; omega) hb y6 hok ?_
        repeat' first | with_reducible apply wSeq | with_reducible apply wSkip | with_reducible apply wIf | with_reducible apply wAsI | with_reducible apply wAsJ | ((with_reducible apply wInc); rfl) | with_reducible apply wKil | with_reducible apply wCnt | with_reducible apply wRZ | with_reducible apply wLmdA2 | with_reducible apply wB_e | (intro h; try simp only [Bool.and_eq_true, Bool.or_eq_true, Bool.not_eq_true', Bool.not_eq_false', Bool.and_eq_false_imp, Bool.or_eq_false_iff, decide_eq_true_eq, decide_eq_false_iff_not, Bool.not_true, Bool.not_false, Bool.true_eq_false, Bool.false_eq_true, Bool.not_not] at h) | with_reducible apply wN1 | with_reducible apply wN2 | with_reducible apply wN3 | with_reducible apply wN4 | with_reducible apply wN0 | with_reducible apply wE0 | with_reducible apply wXI | with_reducible apply wXB | with_reducible exact eK | with_reducible exact eKJ | ((with_reducible apply eL); rfl) | ((with_reducible apply eLJ); rfl) | ((with_reducible apply eLR); rfl) | with_reducible exact eAN | with_reducible apply eAdd | with_reducible apply eMul | with_reducible apply eLt | with_reducible apply eLe | with_reducible apply eGe | with_reducible apply eEq | with_reducible apply eNe | with_reducible apply eJAdd | with_reducible apply eAnd | with_reducible apply eIteI | with_reducible apply eIteJ | with_reducible apply eIte | with_reducible exact eKZ | with_reducible apply eArr2 | with_reducible apply eAI | with_reducible apply eAR | with_reducible apply eCI | with_reducible apply eCZ | with_reducible apply wRc | with_reducible exact C_X | with_reducible exact Int.toNat_natCast _ | with_reducible exact tn0 | with_reducible exact tn1 | with_reducible exact tn2 | with_reducible exact tn3 | with_reducible exact tn4 | with_reducible exact tn5 | with_reducible exact tn6 | with_reducible exact tn7 | with_reducible exact tn8 | with_reducible exact tn9 | with_reducible exact tn10 | with_reducible exact tn11 | with_reducible exact tn12 | with_reducible exact tn13 | with_reducible exact tn14 | with_reducible exact tn15 | with_reducible exact tn16 | with_reducible exact tnK0 | with_reducible exact tnK4 | with_reducible exact tnK8 | with_reducible exact tnK12 | with_reducible exact tnK16 | with_reducible exact tnK20 | with_reducible exact tnK24 | with_reducible exact tnK28 | with_reducible exact tnK32 | with_reducible exact tnJA | with_reducible exact tnA | with_reducible exact upR_s | ((with_reducible apply upR_a); (first | decide | omega)) | ((with_reducible apply upR_b); (first | decide | omega)) | ((with_reducible apply cpR_o); (first | decide | omega)) | with_reducible apply lt_pSet1 | with_reducible apply lt_kil | exact Nat.le_of_ble_eq_true rfl | with_reducible assumption | with_reducible exact rfl | omega | with_reducible apply wAnd | decide +kernel
        refine ⟨upZ U1 196 an (U1 196 an + 1), fun z hz => ?_, fun a ha => ?_, ?_, rfl⟩
        · rw [← hf z hz]
          funext y
          exact if_neg fun q => hz q.1
        · have hacc : (hoAcc P (a : Int) i = true) ↔ a = an := by
            unfold hoAcc
            rw [hxx, Int.toNat_natCast, ← han]
            simp only [Bool.and_eq_true, decide_eq_true_eq]
            omega
          rw [heldTo_s]
          by_cases ea : a = an
          · subst ea
            rw [if_pos (hacc.mpr rfl)]
            have e1 : upZ U1 196 a (U1 196 a + 1) 196 a = U1 196 a + 1 := if_pos ⟨rfl, rfl⟩
            rw [e1, hu a ha]
            omega
          · rw [if_neg fun z => ea (hacc.mp z)]
            have e1 : upZ U1 196 an (U1 196 an + 1) 196 a = U1 196 a := if_neg fun z => ea z.2
            rw [e1, hu a ha]
            omega
        · have hacc : (hoAcc P bnd i = true) ↔ (an : Int) = bnd := by
            unfold hoAcc
            rw [hxx, Int.toNat_natCast, ← han]
            simp only [Bool.and_eq_true, decide_eq_true_eq]
            omega
          rw [heldTo_s P bnd, idTo_s, if_neg hx, Int.add_zero]
          by_cases ea : (an : Int) = bnd
          · rw [if_pos (hacc.mpr ea), ← ea]
            simp
            rfl
          · rw [if_neg fun z => ea (hacc.mp z)]
            simp [ea]
            rfl
    · have ei : i = 16 := by omega
      subst ei
      repeat' first | with_reducible apply wSeq | with_reducible apply wSkip | with_reducible apply wIf | with_reducible apply wAsI | with_reducible apply wAsJ | ((with_reducible apply wInc); rfl) | with_reducible apply wKil | with_reducible apply wCnt | with_reducible apply wRZ | with_reducible apply wLmdA2 | with_reducible apply wB_e | (intro h; try simp only [Bool.and_eq_true, Bool.or_eq_true, Bool.not_eq_true', Bool.not_eq_false', Bool.and_eq_false_imp, Bool.or_eq_false_iff, decide_eq_true_eq, decide_eq_false_iff_not, Bool.not_true, Bool.not_false, Bool.true_eq_false, Bool.false_eq_true, Bool.not_not] at h) | with_reducible apply wN1 | with_reducible apply wN2 | with_reducible apply wN3 | with_reducible apply wN4 | with_reducible apply wN0 | with_reducible apply wE0 | with_reducible apply wXI | with_reducible apply wXB | with_reducible exact eK | with_reducible exact eKJ | ((with_reducible apply eL); rfl) | ((with_reducible apply eLJ); rfl) | ((with_reducible apply eLR); rfl) | with_reducible exact eAN | with_reducible apply eAdd | with_reducible apply eMul | with_reducible apply eLt | with_reducible apply eLe | with_reducible apply eGe | with_reducible apply eEq | with_reducible apply eNe | with_reducible apply eJAdd | with_reducible apply eAnd | with_reducible apply eIteI | with_reducible apply eIteJ | with_reducible apply eIte | with_reducible exact eKZ | with_reducible apply eArr2 | with_reducible apply eAI | with_reducible apply eAR | with_reducible apply eCI | with_reducible apply eCZ | with_reducible apply wRc | with_reducible exact C_X | with_reducible exact Int.toNat_natCast _ | with_reducible exact tn0 | with_reducible exact tn1 | with_reducible exact tn2 | with_reducible exact tn3 | with_reducible exact tn4 | with_reducible exact tn5 | with_reducible exact tn6 | with_reducible exact tn7 | with_reducible exact tn8 | with_reducible exact tn9 | with_reducible exact tn10 | with_reducible exact tn11 | with_reducible exact tn12 | with_reducible exact tn13 | with_reducible exact tn14 | with_reducible exact tn15 | with_reducible exact tn16 | with_reducible exact tnK0 | with_reducible exact tnK4 | with_reducible exact tnK8 | with_reducible exact tnK12 | with_reducible exact tnK16 | with_reducible exact tnK20 | with_reducible exact tnK24 | with_reducible exact tnK28 | with_reducible exact tnK32 | with_reducible exact tnJA | with_reducible exact tnA | with_reducible exact upR_s | ((with_reducible apply upR_a); (first | decide | omega)) | ((with_reducible apply upR_b); (first | decide | omega)) | ((with_reducible apply cpR_o); (first | decide | omega)) | with_reducible apply lt_pSet1 | with_reducible apply lt_kil | exact Nat.le_of_ble_eq_true rfl | with_reducible assumption | with_reducible exact rfl | omega | with_reducible apply wAnd | decide +kernel
      all_goals first | exact ⟨U1, hf, hu, rfl, rfl⟩ | (exfalso; omega)
  · rintro _ _ ⟨U1, hf, hu, rfl, rfl⟩
    exact wKil (hN U1 none none hf hu)
end CL
