/-! ===== two jobs side by side: the reference ===== -/
theorem M_tookE {G U : Nat → Nat → Int} {g : Nat → Int} {j : Nat} (d180 : G 180 = g) (hrow : rowOk g) (hj : j < (g 1).toNat) : ∃ G3, F_M_takes [pR 179, pI (Int32.ofInt (j : Int))] (zM G U) = some (none, zM G3 U) ∧ (∀ x, x ≠ 179 → x ≠ 187 → x ≠ 188 → G3 x = G x) ∧ (∀ b, b ≠ 8 → b ≠ 9 → G3 179 b = G 179 b) ∧ G3 179 9 = (mArms g j : Int) ∧ G3 179 8 = mAt g j 0 ∧ (∀ a, a < mArms g j → G3 187 a = mAt g j (12 + a) ∧ G3 188 a = mAt g j (16 + a)) ∧ (gRange (G 179) → gRange (G3 179)) := by
  have hj8 := row_n hrow hj
  have hjo := row_j hrow hj
  have h4 := jo_4 hjo
  have hm4 : ((mArms g j : Nat) : Int) = mAt g j 4 := h4.2.2
  have htk := M_takes (G := G) (U := U) (j := j) hj8 (by rw [d180]; exact h4.2.1) (by rw [d180]; omega)
  rw [d180] at htk
  have t39 : tookG G j (mArms g j) 179 9 = (mArms g j : Int) := by rw [hm4]; simp [tookG, d180]
  have t38 : tookG G j (mArms g j) 179 8 = mAt g j 0 := by simp [tookG, d180]
  have t3i : ∀ b, b ≠ 8 → b ≠ 9 → tookG G j (mArms g j) 179 b = G 179 b := fun b h1 h2 => by simp [tookG, h1, h2]
  refine ⟨_, htk, fun x h1 h2 h3 => by funext b; simp [tookG, h1, h2, h3], t3i, t39, t38, fun a ha => by simp [tookG, d180, ha], fun hr b => ?_⟩
  by_cases c8 : b = 8
  · rw [c8, t38]; exact hrow.1 _
  · by_cases c9 : b = 9
    · rw [c9, t39]; omega
    · rw [t3i b c8 c9]; exact hr b
/-- the reference's state while it asks -/
def askS (G : Nat → Nat → Int) (g : Nat → Int) (A B : Int) : Prop := G 180 = g ∧ gRange (G 179) ∧ G 179 13 = A ∧ G 179 14 = B ∧ G 179 15 = -1 ∧ G 179 16 = -1 ∧ G 179 17 = 0
theorem gfitG_M {G : Nat → Nat → Int} {g : Nat → Int} {n m own : Nat} {t acc gA gB sA sB : Int} {w k : Nat → Int} (h17 : G 179 17 = (m : Int)) (hown : orTo (byMore G t) m = own) (h180 : G 180 = g) (h13 : G 179 13 = sA) (h14 : G 179 14 = sB) (h15 : G 179 15 = gA) (h16 : G 179 16 = gB) (h9 : G 179 9 = (n : Int)) (h8 : G 179 8 = acc) (h1 : ∀ a, a < n → G 187 a = w a ∧ G 188 a = k a) : gfitG G t = gfit n (cut 0 n w) (cut 0 n fun a => bzX g t (t + k a) acc gA gB sA sB ||| own) n := by
  have e : (G 179 9).toNat = n := by omega
  have e17 : (G 179 17).toNat = m := by omega
  unfold gfitG busyA
  rw [e, h8]
  congr 1
  · exact cut_eq fun a ha => (h1 a ha).1
  · refine cut_eq fun a ha => ?_
    unfold busyN
    rw [e17, hown, (h1 a ha).2, h180, h13, h14, h15, h16]
    rfl
theorem mOk_more {G : Nat → Nat → Int} (h : rowOk (G 180)) (q1 : gRange (G 179)) (hm : mMoreOk G) : mOk G := by
  obtain ⟨h1, h2, h3, -, -, -, -, -, -, -, -, h4, h5, -⟩ := h
  refine ⟨h1, q1, h3.1, h3.2, fun j hj => jOk_mJob h2 (h4 j hj), fun s hs hn => ?_, hm⟩
  obtain ⟨-, s2, s3, s4, -⟩ := (h5 s hs).2 hn
  exact ⟨s2, s3, s4⟩
set_option maxHeartbeats 2000000 in
theorem M_fitBothW {G U : Nat → Nat → Int} {a b : Nat} {A B : Int} {g : Nat → Int} {R : Option pV → pM → Prop} (hI : rowI g) (hS : askS G g A B) (ha : a < (g 1).toNat) (hb : b < (g 1).toNat) (hR : ∀ G', askFr G G' → askS G' g A B → R (some (pI (zI (siB g a b A B)))) (zM G' U)) : WpF F_M_fitBoth [pR 179, pI (Int32.ofInt (a : Int)), pI (Int32.ofInt (b : Int))] (zM G U) R := by
  have hrow := hI.1
  have h0 := hrow.2.1
  have hja := row_j hrow ha
  have hjb := row_j hrow hb
  have h4a := jo_4 hja
  have h4b := jo_4 hjb
  have haa := fun x hx => jo_a hja (a := x) hx
  have hab := fun x hx => jo_a hjb (a := x) hx
  obtain ⟨s0, s1, s2, s3, s4, s5, s6⟩ := hS
  obtain ⟨G1, htk, t1, t2, t3, t4, t5, t6⟩ := M_tookE (U := U) s0 hrow ha
  have d180 : G1 180 = g := (t1 180 (by omega) (by omega) (by omega)).trans s0
  have hr1 := t6 s1
  have i17 : G1 179 17 = 0 := (t2 17 (by omega) (by omega)).trans s6
  have n0 : G1 180 0 = g 0 := by rw [d180]
  have hg1 : gfitG G1 (g 0) = siF g a A B 0 := gfitG_M (m := 0) (n := mArms g a) (w := fun x => mAt g a (12 + x)) (k := fun x => mAt g a (16 + x)) i17 rfl d180 ((t2 13 (by omega) (by omega)).trans s2) ((t2 14 (by omega) (by omega)).trans s3) ((t2 15 (by omega) (by omega)).trans s4) ((t2 16 (by omega) (by omega)).trans s5) t3 t4 t5
  have hm1 : mOk G1 := mOk_as (by rw [d180]; exact hrow) hr1 i17
  have hk1 : gangOk G1 := ⟨by omega, by omega, fun x hx => by
    have hx2 : x < mArms g a := by rw [t3] at hx; omega
    rw [(t5 x hx2).1, (t5 x hx2).2]
    have h1 := (haa x hx2).1
    have h2 := (haa x hx2).2.1
    omega⟩
  unfold F_M_fitBoth B_M_fitBoth
  apply wBody (Nat.le_of_ble_eq_true rfl)
  repeat' first | with_reducible apply wAsIc (F := F_M_fits) | with_reducible apply wAsZc (F := F_M_fits) | with_reducible apply wRIc (F := F_M_fits) | with_reducible apply wRZc (F := F_M_fits) | with_reducible apply wBc (F := F_M_fits) | with_reducible apply wIc (F := F_M_fits) | with_reducible apply wF_e (F := F_M_takes) | with_reducible apply wB_and | with_reducible apply wB_or | with_reducible apply wB_not | with_reducible apply wI_ite | with_reducible apply wI_add | with_reducible apply wI_sub | with_reducible apply wSeq | with_reducible apply wSkip | with_reducible apply wIf | ((with_reducible apply wInc); rfl) | with_reducible apply wKil | with_reducible apply wPut | with_reducible apply wAst2 | with_reducible apply wVd | with_reducible apply wAsIw | with_reducible apply wAsZw | with_reducible apply wRIw | with_reducible apply wRZw | with_reducible apply wB_e | with_reducible apply wI_e | (intro h; try simp only [Bool.and_eq_true, Bool.or_eq_true, Bool.not_eq_true', Bool.not_eq_false', Bool.and_eq_false_imp, Bool.or_eq_false_iff, decide_eq_true_eq, decide_eq_false_iff_not, Bool.not_true, Bool.not_false, Bool.true_eq_false, Bool.false_eq_true, Bool.not_not] at h) | with_reducible apply wN1 | with_reducible apply wN2 | with_reducible apply wN3 | with_reducible apply wN4 | with_reducible apply wN0 | with_reducible apply wE0 | with_reducible apply wXI | with_reducible apply wXB | with_reducible exact htk | with_reducible exact n0 | with_reducible exact eK | ((with_reducible apply eL); rfl) | ((with_reducible apply eLR); rfl) | ((with_reducible apply eLZ); rfl) | with_reducible exact eAN | with_reducible apply eAdd | with_reducible apply eLt | with_reducible apply eNot | with_reducible exact eKZ | with_reducible apply eArr2 | with_reducible apply eFld2 | with_reducible apply eAI | with_reducible apply eAR | with_reducible apply eCI | with_reducible apply eCZ | with_reducible apply wRc | with_reducible exact ckv179 | with_reducible exact ckv99 | with_reducible apply R_M_g | with_reducible apply R_M_wide | with_reducible apply R_M_asks | with_reducible apply R_M_found | with_reducible apply R_M_moreBits | with_reducible apply R_M_moreEnd | with_reducible exact N_M_g | with_reducible exact K_M_armMany | with_reducible exact N_M_wide | with_reducible exact N_M_asks | with_reducible exact N_M_found | with_reducible exact K_M_moreMany | with_reducible exact N_M_moreBits | with_reducible exact N_M_moreEnd | with_reducible exact M_takes (by omega) (by omega) (by omega) | with_reducible exact Int.toNat_natCast _ | with_reducible exact tn0 | with_reducible exact tn1 | with_reducible exact tn2 | with_reducible exact tn3 | with_reducible exact tn4 | with_reducible exact tn5 | with_reducible exact tn6 | with_reducible exact tn7 | with_reducible exact tn8 | with_reducible exact tn9 | with_reducible exact tn10 | with_reducible exact tn11 | with_reducible exact tn12 | with_reducible exact tn13 | with_reducible exact tn14 | with_reducible exact tn15 | with_reducible exact tn16 | with_reducible exact tnK0 | with_reducible exact tnK4 | with_reducible exact tnK8 | with_reducible exact tnK12 | with_reducible exact tnK16 | with_reducible exact tnK20 | with_reducible exact tnK24 | with_reducible exact tnK28 | with_reducible exact tnK32 | with_reducible exact tnJA | with_reducible exact tnA | with_reducible exact upR_s | ((with_reducible apply upR_a); (first | decide | omega)) | ((with_reducible apply upR_b); (first | decide | omega)) | ((with_reducible apply cpR_o); (first | decide | omega)) | with_reducible apply lt_pSet1 | with_reducible apply lt_kil | exact Nat.le_of_ble_eq_true rfl | with_reducible assumption | with_reducible exact rfl | omega | with_reducible apply wAnd | decide +kernel
  all_goals first | (exfalso; omega) | exact absurd trivial (by assumption) | exact absurd rfl (by assumption) | skip
  refine W_fits hm1 hk1 (by unfold rg; omega) (fun s F q1 qF => ⟨true, rfl, And.intro (fun _ => ?_) (fun h => absurd h (by decide))⟩) (fun F q1 => ⟨false, rfl, And.intro (fun h => absurd h (by decide)) (fun _ => ?_)⟩)
  · rw [hg1] at q1
    rw [show (G1 179 9).toNat = mArms g a by omega] at qF
    obtain ⟨G2, hG2⟩ : ∃ G2, G2 = setRow G1 189 F := ⟨_, rfl⟩
    have g2o : ∀ x, x ≠ 189 → G2 x = G1 x := fun x hx => by rw [hG2, setRow_o hx]
    have g2f : ∀ x, x < mArms g a → G2 189 x = s.2 x := fun x hx => by rw [hG2, setRow_at]; exact qF x hx
    rw [← hG2]
    clear hG2 hg1 hm1 hk1
    have n9 : G2 179 9 = (mArms g a : Int) := by rw [g2o 179 (by omega)]; exact t3
    repeat' first | with_reducible apply wAsIc (F := F_M_fits) | with_reducible apply wAsZc (F := F_M_fits) | with_reducible apply wRIc (F := F_M_fits) | with_reducible apply wRZc (F := F_M_fits) | with_reducible apply wBc (F := F_M_fits) | with_reducible apply wIc (F := F_M_fits) | with_reducible apply wF_e (F := F_M_takes) | with_reducible apply wB_and | with_reducible apply wB_or | with_reducible apply wB_not | with_reducible apply wI_ite | with_reducible apply wI_add | with_reducible apply wI_sub | with_reducible apply wSeq | with_reducible apply wSkip | with_reducible apply wIf | ((with_reducible apply wInc); rfl) | with_reducible apply wKil | with_reducible apply wPut | with_reducible apply wAst2 | with_reducible apply wVd | with_reducible apply wAsIw | with_reducible apply wAsZw | with_reducible apply wRIw | with_reducible apply wRZw | with_reducible apply wB_e | with_reducible apply wI_e | (intro h; try simp only [Bool.and_eq_true, Bool.or_eq_true, Bool.not_eq_true', Bool.not_eq_false', Bool.and_eq_false_imp, Bool.or_eq_false_iff, decide_eq_true_eq, decide_eq_false_iff_not, Bool.not_true, Bool.not_false, Bool.true_eq_false, Bool.false_eq_true, Bool.not_not] at h) | with_reducible apply wN1 | with_reducible apply wN2 | with_reducible apply wN3 | with_reducible apply wN4 | with_reducible apply wN0 | with_reducible apply wE0 | with_reducible apply wXI | with_reducible apply wXB | with_reducible exact n9 | with_reducible exact eK | ((with_reducible apply eL); rfl) | ((with_reducible apply eLR); rfl) | ((with_reducible apply eLZ); rfl) | with_reducible exact eAN | with_reducible apply eAdd | with_reducible apply eLt | with_reducible apply eNot | with_reducible exact eKZ | with_reducible apply eArr2 | with_reducible apply eFld2 | with_reducible apply eAI | with_reducible apply eAR | with_reducible apply eCI | with_reducible apply eCZ | with_reducible apply wRc | with_reducible exact ckv179 | with_reducible exact ckv99 | with_reducible apply R_M_g | with_reducible apply R_M_wide | with_reducible apply R_M_asks | with_reducible apply R_M_found | with_reducible apply R_M_moreBits | with_reducible apply R_M_moreEnd | with_reducible exact N_M_g | with_reducible exact K_M_armMany | with_reducible exact N_M_wide | with_reducible exact N_M_asks | with_reducible exact N_M_found | with_reducible exact K_M_moreMany | with_reducible exact N_M_moreBits | with_reducible exact N_M_moreEnd | with_reducible exact M_takes (by omega) (by omega) (by omega) | with_reducible exact Int.toNat_natCast _ | with_reducible exact tn0 | with_reducible exact tn1 | with_reducible exact tn2 | with_reducible exact tn3 | with_reducible exact tn4 | with_reducible exact tn5 | with_reducible exact tn6 | with_reducible exact tn7 | with_reducible exact tn8 | with_reducible exact tn9 | with_reducible exact tn10 | with_reducible exact tn11 | with_reducible exact tn12 | with_reducible exact tn13 | with_reducible exact tn14 | with_reducible exact tn15 | with_reducible exact tn16 | with_reducible exact tnK0 | with_reducible exact tnK4 | with_reducible exact tnK8 | with_reducible exact tnK12 | with_reducible exact tnK16 | with_reducible exact tnK20 | with_reducible exact tnK24 | with_reducible exact tnK28 | with_reducible exact tnK32 | with_reducible exact tnJA | with_reducible exact tnA | with_reducible exact upR_s | ((with_reducible apply upR_a); (first | decide | omega)) | ((with_reducible apply upR_b); (first | decide | omega)) | ((with_reducible apply cpR_o); (first | decide | omega)) | with_reducible apply lt_pSet1 | with_reducible apply lt_kil | exact Nat.le_of_ble_eq_true rfl | with_reducible assumption | with_reducible exact rfl | omega | with_reducible apply wAnd | decide +kernel
    refine wWh (fun k L σ => ∃ G3, L = [some (pR 179), some (pI (Int32.ofInt (a : Int))), some (pI (Int32.ofInt (b : Int))), some (pI (Int32.ofInt (k : Int)))] ∧ σ = zM G3 U ∧ (∀ x, x ≠ 190 → x ≠ 191 → G3 x = G2 x) ∧ ∀ x, x < k → G3 190 x = ((bitsN (s.2 x).toNat (mAt g a (12 + x)).toNat : Nat) : Int) ∧ G3 191 x = g 0 + mAt g a (16 + x)) (mArms g a) (by omega) ⟨G2, rfl, rfl, fun _ _ _ => rfl, fun x h => absurd h (Nat.not_lt_zero x)⟩ ?_
    rintro k _ _ hk ⟨G3, rfl, rfl, k1, k2⟩
    have n93 : G3 179 9 = (mArms g a : Int) := by rw [k1 179 (by omega) (by omega)]; exact n9
    rcases Nat.lt_or_ge k (mArms g a) with hlt | hge
    · have hin := fit_inX hrow ha q1 hlt
      have hw := (haa k hlt).1
      have hkk := (haa k hlt).2.1
      have e1 : G3 189 k = s.2 k := by rw [k1 189 (by omega) (by omega)]; exact g2f k hlt
      have e2 : G3 187 k = mAt g a (12 + k) := by rw [k1 187 (by omega) (by omega), g2o 187 (by omega)]; exact (t5 k hlt).1
      have e3 : G3 188 k = mAt g a (16 + k) := by rw [k1 188 (by omega) (by omega), g2o 188 (by omega)]; exact (t5 k hlt).2
      have e4 : G3 180 0 = g 0 := by rw [k1 180 (by omega) (by omega), g2o 180 (by omega)]; exact n0
      have hmb : ∀ σ, F_M_bits [pI (Int32.ofInt (s.2 k)), pI (Int32.ofInt (mAt g a (12 + k)))] σ = some (some (pI (Int32.ofInt ((bitsN (s.2 k).toNat (mAt g a (12 + k)).toNat : Nat) : Int))), σ) := fun σ => M_bitsZ (by omega) (by omega)
      repeat' first | with_reducible apply wAsIc (F := F_M_fits) | with_reducible apply wAsZc (F := F_M_fits) | with_reducible apply wRIc (F := F_M_fits) | with_reducible apply wRZc (F := F_M_fits) | with_reducible apply wBc (F := F_M_fits) | with_reducible apply wIc (F := F_M_fits) | with_reducible apply wF_e (F := F_M_takes) | with_reducible apply wB_and | with_reducible apply wB_or | with_reducible apply wB_not | with_reducible apply wI_ite | with_reducible apply wI_add | with_reducible apply wI_sub | with_reducible apply wSeq | with_reducible apply wSkip | with_reducible apply wIf | ((with_reducible apply wInc); rfl) | with_reducible apply wKil | with_reducible apply wPut | with_reducible apply wAst2 | with_reducible apply wVd | with_reducible apply wAsIw | with_reducible apply wAsZw | with_reducible apply wRIw | with_reducible apply wRZw | with_reducible apply wB_e | with_reducible apply wI_e | (intro h; try simp only [Bool.and_eq_true, Bool.or_eq_true, Bool.not_eq_true', Bool.not_eq_false', Bool.and_eq_false_imp, Bool.or_eq_false_iff, decide_eq_true_eq, decide_eq_false_iff_not, Bool.not_true, Bool.not_false, Bool.true_eq_false, Bool.false_eq_true, Bool.not_not] at h) | with_reducible apply wN1 | with_reducible apply wN2 | with_reducible apply wN3 | with_reducible apply wN4 | with_reducible apply wN0 | with_reducible apply wE0 | with_reducible apply wXI | with_reducible apply wXB | with_reducible exact n93 | with_reducible exact e1 | with_reducible exact e2 | with_reducible exact e3 | with_reducible exact e4 | with_reducible exact hmb _ | with_reducible exact eK | ((with_reducible apply eL); rfl) | ((with_reducible apply eLR); rfl) | ((with_reducible apply eLZ); rfl) | with_reducible exact eAN | with_reducible apply eAdd | with_reducible apply eLt | with_reducible apply eNot | with_reducible exact eKZ | with_reducible apply eArr2 | with_reducible apply eFld2 | with_reducible apply eAI | with_reducible apply eAR | with_reducible apply eCI | with_reducible apply eCZ | with_reducible apply wRc | with_reducible exact ckv179 | with_reducible exact ckv99 | with_reducible apply R_M_g | with_reducible apply R_M_wide | with_reducible apply R_M_asks | with_reducible apply R_M_found | with_reducible apply R_M_moreBits | with_reducible apply R_M_moreEnd | with_reducible exact N_M_g | with_reducible exact K_M_armMany | with_reducible exact N_M_wide | with_reducible exact N_M_asks | with_reducible exact N_M_found | with_reducible exact K_M_moreMany | with_reducible exact N_M_moreBits | with_reducible exact N_M_moreEnd | with_reducible exact M_takes (by omega) (by omega) (by omega) | with_reducible exact Int.toNat_natCast _ | with_reducible exact tn0 | with_reducible exact tn1 | with_reducible exact tn2 | with_reducible exact tn3 | with_reducible exact tn4 | with_reducible exact tn5 | with_reducible exact tn6 | with_reducible exact tn7 | with_reducible exact tn8 | with_reducible exact tn9 | with_reducible exact tn10 | with_reducible exact tn11 | with_reducible exact tn12 | with_reducible exact tn13 | with_reducible exact tn14 | with_reducible exact tn15 | with_reducible exact tn16 | with_reducible exact tnK0 | with_reducible exact tnK4 | with_reducible exact tnK8 | with_reducible exact tnK12 | with_reducible exact tnK16 | with_reducible exact tnK20 | with_reducible exact tnK24 | with_reducible exact tnK28 | with_reducible exact tnK32 | with_reducible exact tnJA | with_reducible exact tnA | with_reducible exact upR_s | ((with_reducible apply upR_a); (first | decide | omega)) | ((with_reducible apply upR_b); (first | decide | omega)) | ((with_reducible apply cpR_o); (first | decide | omega)) | with_reducible apply lt_pSet1 | with_reducible apply lt_kil | exact Nat.le_of_ble_eq_true rfl | with_reducible assumption | with_reducible exact rfl | omega | with_reducible apply wAnd | decide +kernel
      all_goals first | (exfalso; omega) | exact absurd trivial (by assumption) | exact absurd rfl (by assumption) | skip
      refine ⟨_, rfl, rfl, fun x h1 h2 => by rw [upZ_ne h2, upZ_ne h1]; exact k1 x h1 h2, fun x hx => ?_⟩
      by_cases cx : x = k
      · subst cx
        exact ⟨by rw [upZ_ne (by omega), upR_s], by rw [upR_s]⟩
      · obtain ⟨p1, p2⟩ := k2 x (by omega)
        rw [upZ_ne (by omega)]
        have e5 : ∀ (o : Nat) (v : Int) (H : Nat → Nat → Int), upZ H o k v o x = H o x := fun o v H => by simp [upZ, cx]
        rw [e5, e5, upZ_ne (by omega)]
        exact ⟨p1, p2⟩
    · have ek : k = mArms g a := by omega
      subst ek
      have c180 : G3 180 = g := by rw [k1 180 (by omega) (by omega), g2o 180 (by omega)]; exact d180
      have c179 : G3 179 = G1 179 := by rw [k1 179 (by omega) (by omega), g2o 179 (by omega)]
      have hrr : gRange (upZ G3 179 17 ((mArms g a : Nat) : Int) 179) := fun x => by
        by_cases cx : x = 17
        · rw [cx, upR_s]; omega
        · have : upZ G3 179 17 ((mArms g a : Nat) : Int) 179 x = G3 179 x := by simp [upZ, cx]
          rw [this, c179]
          exact hr1 x
      obtain ⟨G5, htk2, u1, u2, u3, u4, u5, u6⟩ := M_tookE (G := upZ G3 179 17 ((mArms g a : Nat) : Int)) (U := U) (g := g) (j := b) (by rw [upZ_ne (by omega)]; exact c180) hrow hb
      have c5 : ∀ x, x ≠ 8 → x ≠ 9 → x ≠ 17 → G5 179 x = G 179 x := fun x h1 h2 h3 => by
        have e6 : upZ G3 179 17 ((mArms g a : Nat) : Int) 179 x = G3 179 x := by simp [upZ, h3]
        rw [u2 x h1 h2, e6, c179]
        exact t2 x h1 h2
      have c17 : G5 179 17 = ((mArms g a : Nat) : Int) := by rw [u2 17 (by omega) (by omega), upR_s]
      have o180 : G5 180 = g := by rw [u1 180 (by omega) (by omega) (by omega), upZ_ne (by omega)]; exact c180
      have o190 : ∀ x, x < mArms g a → G5 190 x = ((bitsN (s.2 x).toNat (mAt g a (12 + x)).toNat : Nat) : Int) ∧ G5 191 x = g 0 + mAt g a (16 + x) := fun x hx => by
        rw [u1 190 (by omega) (by omega) (by omega), u1 191 (by omega) (by omega) (by omega), upZ_ne (by omega), upZ_ne (by omega)]
        exact k2 x hx
      have hown : orTo (byMore G5 (g 0)) (mArms g a) = s.1 := by
        rw [gfit_found q1]
        refine orTo_congr fun x hx => ?_
        obtain ⟨p1, p2⟩ := o190 x hx
        have h16 := (haa x hx).2.1
        unfold byMore
        rw [p1, p2, if_pos (decide_eq_true (by omega)), Int.toNat_natCast, cut_at hx]
      have hg5 : gfitG G5 (g 0) = siF g b A B s.1 := gfitG_M (m := mArms g a) (n := mArms g b) (w := fun x => mAt g b (12 + x)) (k := fun x => mAt g b (16 + x)) c17 hown o180 ((c5 13 (by omega) (by omega) (by omega)).trans s2) ((c5 14 (by omega) (by omega) (by omega)).trans s3) ((c5 15 (by omega) (by omega) (by omega)).trans s4) ((c5 16 (by omega) (by omega) (by omega)).trans s5) u3 u4 u5
      have hm5 : mOk G5 := mOk_more (by rw [o180]; exact hrow) (u6 hrr) ⟨by omega, by omega, fun x hx => by
        have hx2 : x < mArms g a := by rw [c17] at hx; omega
        obtain ⟨p1, p2⟩ := o190 x hx2
        have h16 := (haa x hx2).2.1
        have h12 := (haa x hx2).1
        have hin := fit_inX hrow ha q1 hx2
        have hbl : bitsN (s.2 x).toNat (mAt g a (12 + x)).toNat < 65536 := bitsN_lt (by omega)
        rw [p1, p2]
        exact ⟨by unfold rg; omega, by omega, by omega⟩⟩
      have hk5 : gangOk G5 := ⟨by omega, by omega, fun x hx => by
        have hx2 : x < mArms g b := by rw [u3] at hx; omega
        rw [(u5 x hx2).1, (u5 x hx2).2]
        have h1 := (hab x hx2).1
        have h2 := (hab x hx2).2.1
        omega⟩
      have n50 : G5 180 0 = g 0 := by rw [o180]
      have hsB : siB g a b A B = (siF g b A B s.1).isSome := by
        unfold siB
        rw [q1]
      have hfin : ∀ F, R (some (pI (zI (siB g a b A B)))) (zM (upZ (setRow G5 189 F) 179 17 0) U) := fun F => by
        have e7 : ∀ x, x ≠ 17 → upZ (setRow G5 189 F) 179 17 0 179 x = G5 179 x := fun x hx => by
          have : upZ (setRow G5 189 F) 179 17 0 179 x = setRow G5 189 F 179 x := by simp [upZ, hx]
          rw [this, setRow_o (by omega)]
        refine hR _ ⟨fun x h1 h2 h3 h4 h5 h6 => by rw [upZ_ne h1, setRow_o h4, u1 x h1 h2 h3, upZ_ne h1, k1 x h5 h6, g2o x h4]; exact t1 x h1 h2 h3, fun x h1 h2 h3 h4 h5 h6 h7 => by rw [e7 x h7]; exact c5 x h1 h2 h7⟩ ⟨by rw [upZ_ne (by omega), setRow_o (by omega)]; exact o180, fun x => ?_, by rw [e7 _ (by omega)]; exact (c5 13 (by omega) (by omega) (by omega)).trans s2, by rw [e7 _ (by omega)]; exact (c5 14 (by omega) (by omega) (by omega)).trans s3, by rw [e7 _ (by omega)]; exact (c5 15 (by omega) (by omega) (by omega)).trans s4, by rw [e7 _ (by omega)]; exact (c5 16 (by omega) (by omega) (by omega)).trans s5, upR_s⟩
        by_cases cx : x = 17
        · rw [cx, upR_s]; omega
        · rw [e7 x cx]; exact u6 hrr x
      clear hR hown hrr k2 u6 c5
      repeat' first | with_reducible apply wAsIc (F := F_M_fits) | with_reducible apply wAsZc (F := F_M_fits) | with_reducible apply wRIc (F := F_M_fits) | with_reducible apply wRZc (F := F_M_fits) | with_reducible apply wBc (F := F_M_fits) | with_reducible apply wIc (F := F_M_fits) | with_reducible apply wF_e (F := F_M_takes) | with_reducible apply wB_and | with_reducible apply wB_or | with_reducible apply wB_not | with_reducible apply wI_ite | with_reducible apply wI_add | with_reducible apply wI_sub | with_reducible apply wSeq | with_reducible apply wSkip | with_reducible apply wIf | ((with_reducible apply wInc); rfl) | with_reducible apply wKil | with_reducible apply wPut | with_reducible apply wAst2 | with_reducible apply wVd | with_reducible apply wAsIw | with_reducible apply wAsZw | with_reducible apply wRIw | with_reducible apply wRZw | with_reducible apply wB_e | with_reducible apply wI_e | (intro h; try simp only [Bool.and_eq_true, Bool.or_eq_true, Bool.not_eq_true', Bool.not_eq_false', Bool.and_eq_false_imp, Bool.or_eq_false_iff, decide_eq_true_eq, decide_eq_false_iff_not, Bool.not_true, Bool.not_false, Bool.true_eq_false, Bool.false_eq_true, Bool.not_not] at h) | with_reducible apply wN1 | with_reducible apply wN2 | with_reducible apply wN3 | with_reducible apply wN4 | with_reducible apply wN0 | with_reducible apply wE0 | with_reducible apply wXI | with_reducible apply wXB | with_reducible exact n93 | with_reducible exact htk2 | with_reducible exact n50 | with_reducible exact eK | ((with_reducible apply eL); rfl) | ((with_reducible apply eLR); rfl) | ((with_reducible apply eLZ); rfl) | with_reducible exact eAN | with_reducible apply eAdd | with_reducible apply eLt | with_reducible apply eNot | with_reducible exact eKZ | with_reducible apply eArr2 | with_reducible apply eFld2 | with_reducible apply eAI | with_reducible apply eAR | with_reducible apply eCI | with_reducible apply eCZ | with_reducible apply wRc | with_reducible exact ckv179 | with_reducible exact ckv99 | with_reducible apply R_M_g | with_reducible apply R_M_wide | with_reducible apply R_M_asks | with_reducible apply R_M_found | with_reducible apply R_M_moreBits | with_reducible apply R_M_moreEnd | with_reducible exact N_M_g | with_reducible exact K_M_armMany | with_reducible exact N_M_wide | with_reducible exact N_M_asks | with_reducible exact N_M_found | with_reducible exact K_M_moreMany | with_reducible exact N_M_moreBits | with_reducible exact N_M_moreEnd | with_reducible exact M_takes (by omega) (by omega) (by omega) | with_reducible exact Int.toNat_natCast _ | with_reducible exact tn0 | with_reducible exact tn1 | with_reducible exact tn2 | with_reducible exact tn3 | with_reducible exact tn4 | with_reducible exact tn5 | with_reducible exact tn6 | with_reducible exact tn7 | with_reducible exact tn8 | with_reducible exact tn9 | with_reducible exact tn10 | with_reducible exact tn11 | with_reducible exact tn12 | with_reducible exact tn13 | with_reducible exact tn14 | with_reducible exact tn15 | with_reducible exact tn16 | with_reducible exact tnK0 | with_reducible exact tnK4 | with_reducible exact tnK8 | with_reducible exact tnK12 | with_reducible exact tnK16 | with_reducible exact tnK20 | with_reducible exact tnK24 | with_reducible exact tnK28 | with_reducible exact tnK32 | with_reducible exact tnJA | with_reducible exact tnA | with_reducible exact upR_s | ((with_reducible apply upR_a); (first | decide | omega)) | ((with_reducible apply upR_b); (first | decide | omega)) | ((with_reducible apply cpR_o); (first | decide | omega)) | with_reducible apply lt_pSet1 | with_reducible apply lt_kil | exact Nat.le_of_ble_eq_true rfl | with_reducible assumption | with_reducible exact rfl | omega | with_reducible apply wAnd | decide +kernel
      all_goals first | (exfalso; omega) | exact absurd trivial (by assumption) | exact absurd rfl (by assumption) | skip
      sorry
  · rw [hg1] at q1
    have hsB : siB g a b A B = false := by
      unfold siB
      rw [q1]
    have hRR := hR (setRow G1 189 F) ⟨fun x h1 h2 h3 h4 _ _ => by rw [setRow_o h4]; exact t1 x h1 h2 h3, fun x h1 h2 _ _ _ _ _ => by rw [setRow_o (by omega)]; exact t2 x h1 h2⟩ ⟨by rw [setRow_o (by omega)]; exact d180, by rw [setRow_o (by omega)]; exact hr1, by rw [setRow_o (by omega)]; exact (t2 13 (by omega) (by omega)).trans s2, by rw [setRow_o (by omega)]; exact (t2 14 (by omega) (by omega)).trans s3, by rw [setRow_o (by omega)]; exact (t2 15 (by omega) (by omega)).trans s4, by rw [setRow_o (by omega)]; exact (t2 16 (by omega) (by omega)).trans s5, by rw [setRow_o (by omega)]; exact i17⟩
    rw [hsB] at hRR
    repeat' first | with_reducible apply wAsIc (F := F_M_fits) | with_reducible apply wAsZc (F := F_M_fits) | with_reducible apply wRIc (F := F_M_fits) | with_reducible apply wRZc (F := F_M_fits) | with_reducible apply wBc (F := F_M_fits) | with_reducible apply wIc (F := F_M_fits) | with_reducible apply wF_e (F := F_M_takes) | with_reducible apply wB_and | with_reducible apply wB_or | with_reducible apply wB_not | with_reducible apply wI_ite | with_reducible apply wI_add | with_reducible apply wI_sub | with_reducible apply wSeq | with_reducible apply wSkip | with_reducible apply wIf | ((with_reducible apply wInc); rfl) | with_reducible apply wKil | with_reducible apply wPut | with_reducible apply wAst2 | with_reducible apply wVd | with_reducible apply wAsIw | with_reducible apply wAsZw | with_reducible apply wRIw | with_reducible apply wRZw | with_reducible apply wB_e | with_reducible apply wI_e | (intro h; try simp only [Bool.and_eq_true, Bool.or_eq_true, Bool.not_eq_true', Bool.not_eq_false', Bool.and_eq_false_imp, Bool.or_eq_false_iff, decide_eq_true_eq, decide_eq_false_iff_not, Bool.not_true, Bool.not_false, Bool.true_eq_false, Bool.false_eq_true, Bool.not_not] at h) | with_reducible apply wN1 | with_reducible apply wN2 | with_reducible apply wN3 | with_reducible apply wN4 | with_reducible apply wN0 | with_reducible apply wE0 | with_reducible apply wXI | with_reducible apply wXB | with_reducible exact eK | ((with_reducible apply eL); rfl) | ((with_reducible apply eLR); rfl) | ((with_reducible apply eLZ); rfl) | with_reducible exact eAN | with_reducible apply eAdd | with_reducible apply eLt | with_reducible apply eNot | with_reducible exact eKZ | with_reducible apply eArr2 | with_reducible apply eFld2 | with_reducible apply eAI | with_reducible apply eAR | with_reducible apply eCI | with_reducible apply eCZ | with_reducible apply wRc | with_reducible exact ckv179 | with_reducible exact ckv99 | with_reducible apply R_M_g | with_reducible apply R_M_wide | with_reducible apply R_M_asks | with_reducible apply R_M_found | with_reducible apply R_M_moreBits | with_reducible apply R_M_moreEnd | with_reducible exact N_M_g | with_reducible exact K_M_armMany | with_reducible exact N_M_wide | with_reducible exact N_M_asks | with_reducible exact N_M_found | with_reducible exact K_M_moreMany | with_reducible exact N_M_moreBits | with_reducible exact N_M_moreEnd | with_reducible exact M_takes (by omega) (by omega) (by omega) | with_reducible exact Int.toNat_natCast _ | with_reducible exact tn0 | with_reducible exact tn1 | with_reducible exact tn2 | with_reducible exact tn3 | with_reducible exact tn4 | with_reducible exact tn5 | with_reducible exact tn6 | with_reducible exact tn7 | with_reducible exact tn8 | with_reducible exact tn9 | with_reducible exact tn10 | with_reducible exact tn11 | with_reducible exact tn12 | with_reducible exact tn13 | with_reducible exact tn14 | with_reducible exact tn15 | with_reducible exact tn16 | with_reducible exact tnK0 | with_reducible exact tnK4 | with_reducible exact tnK8 | with_reducible exact tnK12 | with_reducible exact tnK16 | with_reducible exact tnK20 | with_reducible exact tnK24 | with_reducible exact tnK28 | with_reducible exact tnK32 | with_reducible exact tnJA | with_reducible exact tnA | with_reducible exact upR_s | ((with_reducible apply upR_a); (first | decide | omega)) | ((with_reducible apply upR_b); (first | decide | omega)) | ((with_reducible apply cpR_o); (first | decide | omega)) | with_reducible apply lt_pSet1 | with_reducible apply lt_kil | exact Nat.le_of_ble_eq_true rfl | with_reducible assumption | with_reducible exact rfl | omega | with_reducible apply wAnd | decide +kernel
    all_goals first | (exfalso; omega) | exact absurd trivial (by assumption) | exact absurd rfl (by assumption) | exact hRR
