/-! ===== p42: calls that change what stands ===== -/
/-- alike but for the ghost rows -/
def gh (G1 U1 G2 U2 : Nat → Nat → Int) : Prop := ∀ k, (k < 179 ∨ 196 ≤ k) → G2 k = G1 k ∧ U2 k = U1 k
/-- behind a call that began at G, U, the class's memory is G1, U1: ghosts can be laid so that all holds of the row g, the sums u, a tape of q -/
def nx (c : Nat) (G U G1 U1 : Nat → Nat → Int) (g u : Nat → Int) (q : Int) : Prop := ∃ G2 U2, gh G1 U1 G2 U2 ∧ (∀ k, 196 ≤ k → G2 k = G k ∧ U2 k = U k) ∧ allI c G2 U2 ∧ G2 180 = g ∧ U2 183 = u ∧ G2 182 = G 182 ∧ U2 185 = U 185 ∧ G2 168 0 = q
theorem gh_rf {G U : Nat → Nat → Int} : gh G U G U := fun _ _ => ⟨rfl, rfl⟩
theorem nx_same {c : Nat} {G U : Nat → Nat → Int} (hg : allI c G U) : nx (c + 1) G U G U (G 180) (U 183) (G 168 0) := ⟨G, U, gh_rf, fun _ _ => ⟨rfl, rfl⟩, allI_up hg, rfl, rfl, rfl, rfl, rfl⟩
theorem nx_low {c o k b : Nat} {G U : Nat → Nat → Int} {w : Int} (ho : o < 40) (hend : allI (c + 1) (upZ (upZ G o k w) 180 b w) U) : nx (c + 1) G U (upZ G o k w) U (put (G 180) b w) (U 183) (G 168 0) := by
  refine ⟨_, U, fun x hx => ⟨upZ_ne (by omega), rfl⟩, fun x hx => ⟨by rw [upZ_ne (by omega), upZ_ne (by omega)], rfl⟩, hend, ?_, rfl, by rw [upZ_ne (by omega), upZ_ne (by omega)], rfl, by rw [upZ_ne (by omega), upZ_ne (by omega)]⟩
  funext x
  have e : upZ (upZ G o k w) 180 b w 180 x = if x = b then w else G 180 x := by
    by_cases cb : x = b
    · subst cb; rw [if_pos rfl, upR_s]
    · rw [if_neg cb]
      have : upZ (upZ G o k w) 180 b w 180 x = upZ G o k w 180 x := by simp [upZ, cb]
      rw [this, upZ_ne (by omega)]
  rw [e]
  rfl
section XS
variable {c : Nat} {G U : Nat → Nat → Int}
set_option maxHeartbeats 1000000 in
theorem xs_rule (hg : allI c G U) {k : Nat} {w : Int} (hw : rg w) (hR : isRuleF (k : Int) w = true) : WpF F_X_rule [pR 0, pI (Int32.ofInt (k : Int)), pI (Int32.ofInt w)] (zM G U) (fun r τ => r = some (pI (Int32.ofInt (G 180 (2 + k)))) ∧ ∃ G1, τ = zM G1 U ∧ nx (c + 1) G U G1 U (put (G 180) (2 + k) w) (U 183) (G 168 0)) := by
  have i1 := is1
  have hc := isRuleF_rg hR
  have ha : rg (k : Int) := by unfold rg; omega
  have hv : lowOk (2 + k) w := by
    unfold isRuleF at hR
    rcases (by omega : k = 0 ∨ k = 1 ∨ k = 2) with rfl | rfl | rfl
    · rw [if_pos (by decide), decide_eq_true_eq] at hR
      unfold lowOk; omega
    · rw [if_neg (by decide), if_pos (by decide), decide_eq_true_eq] at hR
      unfold lowOk; omega
    · unfold lowOk; omega
  have hu : G 5 k = G 180 (2 + k) := hg.1.choose_spec.2.1.1.2.1.2.2.2.2 k (by omega)
  have hend := low_all (b := 2 + k) (v := w) (G' := upZ (upZ G 5 k w) 180 (2 + k) w) (by unfold lowB; omega) hv hg (fun u h => by
    obtain ⟨q1, q2, q3, q4, q5⟩ := h
    have e : ∀ x, x ≠ 180 → upZ (upZ G 5 k w) 180 (2 + k) w x = upZ G 5 k w x := fun x hx => upZ_ne hx
    refine ⟨?_, fun x hx => ?_, fun x hx => ?_, fun x hx => q4 x hx, fun x hx => ?_⟩
    · rw [e _ (by omega), upZ_ne (by omega), put_o (by omega)]; exact q1
    · rw [e _ (by omega), upZ_ne (by omega), put_o (by omega)]; exact q2 x hx
    · rw [e _ (by omega), upZ_ne (by omega), put_o (by omega)]; exact q3 x hx
    · rw [e _ (by omega)]
      by_cases cx : x = k
      · subst cx; rw [put_at, upR_s]
      · rw [put_o (by omega), ← q5 x hx]; simp [upZ, cx]) (fun x _ _ h1 h4 => by rw [upZ_ne h4, upZ_ne h1]) (by funext b; by_cases cb : b = 2 + k <;> simp [upZ, put, cb])
  have hX : ∀ σ, F_X_isRule [pI (Int32.ofInt (k : Int)), pI (Int32.ofInt w)] σ = some (some (pI (zI true)), σ) := fun σ => by rw [Xc_isRule ha hw, hR]
  unfold F_X_rule B_X_rule
  apply wBody (Nat.le_of_ble_eq_true rfl)
  repeat' first | with_reducible apply wSeq | with_reducible apply wSkip | with_reducible apply wIf | with_reducible apply wAsI | with_reducible apply wRI | with_reducible apply wAst2 | with_reducible apply wB_e | (intro h; try simp only [Bool.and_eq_true, Bool.or_eq_true, Bool.not_eq_true', Bool.not_eq_false', Bool.and_eq_false_imp, Bool.or_eq_false_iff, decide_eq_true_eq, decide_eq_false_iff_not, Bool.not_true, Bool.not_false, Bool.true_eq_false, Bool.false_eq_true, Bool.not_not] at h) | with_reducible apply wN1 | with_reducible apply wN2 | with_reducible apply wN3 | with_reducible apply wN4 | with_reducible apply wN0 | with_reducible apply wE0 | with_reducible apply wXI | with_reducible apply wXB | with_reducible exact hX _ | with_reducible exact hu | with_reducible exact eK | ((with_reducible apply eL); rfl) | ((with_reducible apply eLR); rfl) | with_reducible exact eAN | with_reducible apply eNot | with_reducible apply eArr2 | with_reducible apply eAI | with_reducible apply eCI | with_reducible apply eCZ | with_reducible apply wRc | with_reducible exact ckv99 | with_reducible apply R_X_scene | with_reducible apply R_Scene_rules | with_reducible exact isScene_1 | with_reducible exact C_Scene isScene_1 | with_reducible exact N_Scene_rules (by assumption) | with_reducible exact Int.toNat_natCast _ | with_reducible exact tn0 | with_reducible exact tn1 | with_reducible exact tn2 | with_reducible exact tn3 | with_reducible exact tn4 | with_reducible exact tn5 | with_reducible exact tn6 | with_reducible exact tn7 | with_reducible exact tn8 | with_reducible exact tn9 | with_reducible exact tn10 | with_reducible exact tn11 | with_reducible exact tn12 | with_reducible exact tn13 | with_reducible exact tn14 | with_reducible exact tn15 | with_reducible exact tn16 | with_reducible exact tnK0 | with_reducible exact tnK4 | with_reducible exact tnK8 | with_reducible exact tnK12 | with_reducible exact tnK16 | with_reducible exact tnK20 | with_reducible exact tnK24 | with_reducible exact tnK28 | with_reducible exact tnK32 | with_reducible exact tnJA | with_reducible exact tnA | with_reducible exact upR_s | ((with_reducible apply upR_a); (first | decide | omega)) | ((with_reducible apply upR_b); (first | decide | omega)) | ((with_reducible apply cpR_o); (first | decide | omega)) | with_reducible apply lt_pSet1 | with_reducible apply lt_kil | exact Nat.le_of_ble_eq_true rfl | with_reducible assumption | with_reducible exact rfl | omega | with_reducible apply wAnd | decide +kernel
  all_goals first | (exfalso; omega) | exact absurd trivial (by assumption) | exact absurd rfl (by assumption) | exact ⟨rfl, _, rfl, nx_low (by omega) hend⟩ | exact ⟨_, rfl, nx_low (by omega) hend⟩
set_option maxHeartbeats 1000000 in
theorem xs_weight (hg : allI c G U) {k : Nat} {w : Int} (hk : k < 8) (hw : 1 ≤ w ∧ w ≤ 100) : WpF F_X_weight [pR 0, pI (Int32.ofInt (k : Int)), pI (Int32.ofInt w)] (zM G U) (fun r τ => r = some (pI (Int32.ofInt (G 180 (8 + k)))) ∧ ∃ G1, τ = zM G1 U ∧ nx (c + 1) G U G1 U (put (G 180) (8 + k) w) (U 183) (G 168 0)) := by
  have i1 := is1
  have rgk : rg (k : Int) := by unfold rg; omega
  have rgw : rg w := by unfold rg; omega
  have hu : G 2 k = G 180 (8 + k) := hg.1.choose_spec.2.1.1.2.1.2.1 k (by omega)
  have hend := low_all (b := 8 + k) (v := w) (G' := upZ (upZ G 2 k w) 180 (8 + k) w) (by unfold lowB; omega) (by unfold lowOk; omega) hg (fun u h => by
    obtain ⟨q1, q2, q3, q4, q5⟩ := h
    have e : ∀ x, x ≠ 180 → upZ (upZ G 2 k w) 180 (8 + k) w x = upZ G 2 k w x := fun x hx => upZ_ne hx
    refine ⟨?_, fun x hx => ?_, fun x hx => ?_, fun x hx => q4 x hx, fun x hx => ?_⟩
    · rw [e _ (by omega), upZ_ne (by omega), put_o (by omega)]; exact q1
    · rw [e _ (by omega)]
      by_cases cx : x = k
      · subst cx; rw [put_at, upR_s]
      · rw [put_o (by omega), ← q2 x hx]; simp [upZ, cx]
    · rw [e _ (by omega), upZ_ne (by omega), put_o (by omega)]; exact q3 x hx
    · rw [e _ (by omega), upZ_ne (by omega), put_o (by omega)]; exact q5 x hx) (fun x h1 _ _ h4 => by rw [upZ_ne h4, upZ_ne h1]) (by funext b; by_cases cb : b = 8 + k <;> simp [upZ, put, cb])
  unfold F_X_weight B_X_weight
  apply wBody (Nat.le_of_ble_eq_true rfl)
  repeat' first | with_reducible apply wSeq | with_reducible apply wSkip | with_reducible apply wIf | with_reducible apply wAsI | with_reducible apply wRI | with_reducible apply wAst2 | with_reducible apply wB_e | (intro h; try simp only [Bool.and_eq_true, Bool.or_eq_true, Bool.not_eq_true', Bool.not_eq_false', Bool.and_eq_false_imp, Bool.or_eq_false_iff, decide_eq_true_eq, decide_eq_false_iff_not, Bool.not_true, Bool.not_false, Bool.true_eq_false, Bool.false_eq_true, Bool.not_not] at h) | with_reducible apply wN1 | with_reducible apply wN2 | with_reducible apply wN3 | with_reducible apply wN4 | with_reducible apply wN0 | with_reducible apply wE0 | with_reducible apply wXI | with_reducible apply wXB | with_reducible exact hu | with_reducible exact eK | ((with_reducible apply eL); rfl) | ((with_reducible apply eLR); rfl) | with_reducible exact eAN | with_reducible apply eLt | with_reducible apply eGt | with_reducible apply eOrB | with_reducible apply eNot | with_reducible apply eArr2 | with_reducible apply eAI | with_reducible apply eCI | with_reducible apply eCZ | with_reducible apply wRc | with_reducible exact ckv99 | with_reducible apply R_X_scene | with_reducible apply R_Scene_weights | with_reducible exact isScene_1 | with_reducible exact C_Scene isScene_1 | with_reducible exact N_Scene_weights (by assumption) | with_reducible exact Xc_isAccount (by assumption) | with_reducible exact Int.toNat_natCast _ | with_reducible exact tn0 | with_reducible exact tn1 | with_reducible exact tn2 | with_reducible exact tn3 | with_reducible exact tn4 | with_reducible exact tn5 | with_reducible exact tn6 | with_reducible exact tn7 | with_reducible exact tn8 | with_reducible exact tn9 | with_reducible exact tn10 | with_reducible exact tn11 | with_reducible exact tn12 | with_reducible exact tn13 | with_reducible exact tn14 | with_reducible exact tn15 | with_reducible exact tn16 | with_reducible exact tnK0 | with_reducible exact tnK4 | with_reducible exact tnK8 | with_reducible exact tnK12 | with_reducible exact tnK16 | with_reducible exact tnK20 | with_reducible exact tnK24 | with_reducible exact tnK28 | with_reducible exact tnK32 | with_reducible exact tnJA | with_reducible exact tnA | with_reducible exact upR_s | ((with_reducible apply upR_a); (first | decide | omega)) | ((with_reducible apply upR_b); (first | decide | omega)) | ((with_reducible apply cpR_o); (first | decide | omega)) | with_reducible apply lt_pSet1 | with_reducible apply lt_kil | exact Nat.le_of_ble_eq_true rfl | with_reducible assumption | with_reducible exact rfl | omega | with_reducible apply wAnd | decide +kernel
  all_goals first | (exfalso; omega) | exact absurd trivial (by assumption) | exact absurd rfl (by assumption) | exact ⟨rfl, _, rfl, nx_low (by omega) hend⟩ | exact ⟨_, rfl, nx_low (by omega) hend⟩
set_option maxHeartbeats 1000000 in
theorem xs_limit (hg : allI c G U) {k : Nat} {w : Int} (hk : k < 8) (hw : 0 ≤ w ∧ w ≤ 16) : WpF F_X_limit [pR 0, pI (Int32.ofInt (k : Int)), pI (Int32.ofInt w)] (zM G U) (fun r τ => r = some (pI (Int32.ofInt (G 180 (16 + k)))) ∧ ∃ G1, τ = zM G1 U ∧ nx (c + 1) G U G1 U (put (G 180) (16 + k) w) (U 183) (G 168 0)) := by
  have i1 := is1
  have rgk : rg (k : Int) := by unfold rg; omega
  have rgw : rg w := by unfold rg; omega
  have hu : G 3 k = G 180 (16 + k) := hg.1.choose_spec.2.1.1.2.1.2.2.1 k (by omega)
  have hend := low_all (b := 16 + k) (v := w) (G' := upZ (upZ G 3 k w) 180 (16 + k) w) (by unfold lowB; omega) (by unfold lowOk; omega) hg (fun u h => by
    obtain ⟨q1, q2, q3, q4, q5⟩ := h
    have e : ∀ x, x ≠ 180 → upZ (upZ G 3 k w) 180 (16 + k) w x = upZ G 3 k w x := fun x hx => upZ_ne hx
    refine ⟨?_, fun x hx => ?_, fun x hx => ?_, fun x hx => q4 x hx, fun x hx => ?_⟩
    · rw [e _ (by omega), upZ_ne (by omega), put_o (by omega)]; exact q1
    · rw [e _ (by omega), upZ_ne (by omega), put_o (by omega)]; exact q2 x hx
    · rw [e _ (by omega)]
      by_cases cx : x = k
      · subst cx; rw [put_at, upR_s]
      · rw [put_o (by omega), ← q3 x hx]; simp [upZ, cx]
    · rw [e _ (by omega), upZ_ne (by omega), put_o (by omega)]; exact q5 x hx) (fun x _ h1 _ h4 => by rw [upZ_ne h4, upZ_ne h1]) (by funext b; by_cases cb : b = 16 + k <;> simp [upZ, put, cb])
  unfold F_X_limit B_X_limit
  apply wBody (Nat.le_of_ble_eq_true rfl)
  repeat' first | with_reducible apply wSeq | with_reducible apply wSkip | with_reducible apply wIf | with_reducible apply wAsI | with_reducible apply wRI | with_reducible apply wAst2 | with_reducible apply wB_e | (intro h; try simp only [Bool.and_eq_true, Bool.or_eq_true, Bool.not_eq_true', Bool.not_eq_false', Bool.and_eq_false_imp, Bool.or_eq_false_iff, decide_eq_true_eq, decide_eq_false_iff_not, Bool.not_true, Bool.not_false, Bool.true_eq_false, Bool.false_eq_true, Bool.not_not] at h) | with_reducible apply wN1 | with_reducible apply wN2 | with_reducible apply wN3 | with_reducible apply wN4 | with_reducible apply wN0 | with_reducible apply wE0 | with_reducible apply wXI | with_reducible apply wXB | with_reducible exact hu | with_reducible exact eK | ((with_reducible apply eL); rfl) | ((with_reducible apply eLR); rfl) | with_reducible exact eAN | with_reducible apply eLt | with_reducible apply eGt | with_reducible apply eOrB | with_reducible apply eNot | with_reducible apply eArr2 | with_reducible apply eAI | with_reducible apply eCI | with_reducible apply eCZ | with_reducible apply wRc | with_reducible exact ckv99 | with_reducible apply R_X_scene | with_reducible apply R_Scene_limits | with_reducible exact isScene_1 | with_reducible exact C_Scene isScene_1 | with_reducible exact N_Scene_limits (by assumption) | with_reducible exact Xc_isAccount (by assumption) | with_reducible exact Int.toNat_natCast _ | with_reducible exact tn0 | with_reducible exact tn1 | with_reducible exact tn2 | with_reducible exact tn3 | with_reducible exact tn4 | with_reducible exact tn5 | with_reducible exact tn6 | with_reducible exact tn7 | with_reducible exact tn8 | with_reducible exact tn9 | with_reducible exact tn10 | with_reducible exact tn11 | with_reducible exact tn12 | with_reducible exact tn13 | with_reducible exact tn14 | with_reducible exact tn15 | with_reducible exact tn16 | with_reducible exact tnK0 | with_reducible exact tnK4 | with_reducible exact tnK8 | with_reducible exact tnK12 | with_reducible exact tnK16 | with_reducible exact tnK20 | with_reducible exact tnK24 | with_reducible exact tnK28 | with_reducible exact tnK32 | with_reducible exact tnJA | with_reducible exact tnA | with_reducible exact upR_s | ((with_reducible apply upR_a); (first | decide | omega)) | ((with_reducible apply upR_b); (first | decide | omega)) | ((with_reducible apply cpR_o); (first | decide | omega)) | with_reducible apply lt_pSet1 | with_reducible apply lt_kil | exact Nat.le_of_ble_eq_true rfl | with_reducible assumption | with_reducible exact rfl | omega | with_reducible apply wAnd | decide +kernel
  all_goals first | (exfalso; omega) | exact absurd trivial (by assumption) | exact absurd rfl (by assumption) | exact ⟨rfl, _, rfl, nx_low (by omega) hend⟩ | exact ⟨_, rfl, nx_low (by omega) hend⟩
set_option maxHeartbeats 1000000 in
theorem xs_feed (hg : allI c G U) {n : Nat} {v : Int} (hn : G 168 0 = (n : Int)) (h60 : n < 60) (hc : 32 ≤ v ∧ v ≤ 126) : WpF F_X_feed [pR 0, pI (Int32.ofInt v)] (zM G U) (fun r τ => r = some (pI (Int32.ofInt ((n : Int) + 1))) ∧ ∃ G1, τ = zM G1 U ∧ ∃ G2, gh G1 U G2 U ∧ (∀ k, 196 ≤ k → G2 k = G k) ∧ allI c G2 U ∧ G2 180 = G 180 ∧ G2 182 = G 182 ∧ G2 168 0 = (n : Int) + 1 ∧ ∀ i, G2 169 i = if i = n then v else G 169 i) := by
  have hv : rg v := by unfold rg; omega
  obtain ⟨n', h60', h168, h179, hTT, hok⟩ := hg.2.2.2.1
  have enn : n' = n := by omega
  subst enn
  obtain ⟨G1, hG1⟩ : ∃ G1, G1 = upZ (upZ G 169 n' v) 168 0 ((n' : Int) + 1) := ⟨_, rfl⟩
  have hG : ∀ x, x ≠ 168 → x ≠ 169 → upZ (upZ G 169 n' v) 168 0 ((n' : Int) + 1) x = G x := fun x a b => by rw [upZ_ne a, upZ_ne b]
  unfold F_X_feed B_X_feed
  apply wBody (Nat.le_of_ble_eq_true rfl)
  repeat' first | with_reducible apply wAsIc (F := F_Tape_put) | with_reducible apply wAsZc (F := F_Tape_put) | with_reducible apply wRIc (F := F_Tape_put) | with_reducible apply wRZc (F := F_Tape_put) | with_reducible apply wBc (F := F_Tape_put) | with_reducible apply wIc (F := F_Tape_put) | with_reducible apply wB_and | with_reducible apply wB_or | with_reducible apply wB_not | with_reducible apply wI_ite | with_reducible apply wI_add | with_reducible apply wI_sub | with_reducible apply wSeq | with_reducible apply wSkip | with_reducible apply wIf | with_reducible apply wAsIw | with_reducible apply wAsZw | with_reducible apply wRIw | with_reducible apply wRZw | with_reducible apply wB_e | with_reducible apply wI_e | (intro h; try simp only [Bool.and_eq_true, Bool.or_eq_true, Bool.not_eq_true', Bool.not_eq_false', Bool.and_eq_false_imp, Bool.or_eq_false_iff, decide_eq_true_eq, decide_eq_false_iff_not, Bool.not_true, Bool.not_false, Bool.true_eq_false, Bool.false_eq_true, Bool.not_not] at h) | with_reducible apply wN1 | with_reducible apply wN2 | with_reducible apply wN3 | with_reducible apply wN4 | with_reducible apply wN0 | with_reducible apply wE0 | with_reducible apply wXI | with_reducible apply wXB | with_reducible exact eK | ((with_reducible apply eL); rfl) | ((with_reducible apply eLR); rfl) | with_reducible exact eAN | with_reducible apply eLt | with_reducible apply eGt | with_reducible apply eOrB | with_reducible apply eIteI | with_reducible apply eIteJ | with_reducible apply eIte | with_reducible apply eFld2 | with_reducible apply eAI | with_reducible apply eAR | with_reducible apply eCI | with_reducible apply eCZ | with_reducible apply wRc | with_reducible apply R_X_tape | with_reducible exact C_Tape | with_reducible exact K_Tape_size | with_reducible exact upR_s | ((with_reducible apply upR_a); (first | decide | omega)) | ((with_reducible apply upR_b); (first | decide | omega)) | ((with_reducible apply cpR_o); (first | decide | omega)) | with_reducible apply lt_pSet1 | with_reducible apply lt_kil | exact Nat.le_of_ble_eq_true rfl | with_reducible assumption | with_reducible exact rfl | omega | with_reducible apply wAnd | decide +kernel
  all_goals first | (exfalso; omega) | skip
  refine wF_e (Tp_put h168 (by omega) hv) ⟨true, rfl, And.intro (fun _ => ?_) (fun h => absurd h (by decide))⟩
  have g168 : upZ (upZ G 169 n' v) 168 0 ((n' : Int) + 1) 168 0 = (n' : Int) + 1 := upR_s
  have g169 : ∀ i, upZ (upZ G 169 n' v) 168 0 ((n' : Int) + 1) 169 i = if i = n' then v else G 169 i := fun i => by rw [upZ_ne (by omega)]; by_cases ci : i = n' <;> simp [upZ, ci]
  rw [← hG1] at g168 g169 hG ⊢
  have g179 : G1 179 7 = (n' : Int) := by rw [hG _ (by omega) (by omega)]; exact h179
  repeat' first | with_reducible apply wAsIc (F := F_Tape_put) | with_reducible apply wAsZc (F := F_Tape_put) | with_reducible apply wRIc (F := F_Tape_put) | with_reducible apply wRZc (F := F_Tape_put) | with_reducible apply wBc (F := F_Tape_put) | with_reducible apply wIc (F := F_Tape_put) | with_reducible apply wB_and | with_reducible apply wB_or | with_reducible apply wB_not | with_reducible apply wI_ite | with_reducible apply wI_add | with_reducible apply wI_sub | with_reducible apply wSeq | with_reducible apply wSkip | with_reducible apply wIf | with_reducible apply wAsIw | with_reducible apply wAsZw | with_reducible apply wRIw | with_reducible apply wRZw | with_reducible apply wB_e | with_reducible apply wI_e | (intro h; try simp only [Bool.and_eq_true, Bool.or_eq_true, Bool.not_eq_true', Bool.not_eq_false', Bool.and_eq_false_imp, Bool.or_eq_false_iff, decide_eq_true_eq, decide_eq_false_iff_not, Bool.not_true, Bool.not_false, Bool.true_eq_false, Bool.false_eq_true, Bool.not_not] at h) | with_reducible apply wN1 | with_reducible apply wN2 | with_reducible apply wN3 | with_reducible apply wN4 | with_reducible apply wN0 | with_reducible apply wE0 | with_reducible apply wXI | with_reducible apply wXB | with_reducible exact g168 | with_reducible exact eK | ((with_reducible apply eL); rfl) | ((with_reducible apply eLR); rfl) | with_reducible exact eAN | with_reducible apply eLt | with_reducible apply eGt | with_reducible apply eOrB | with_reducible apply eIteI | with_reducible apply eIteJ | with_reducible apply eIte | with_reducible apply eFld2 | with_reducible apply eAI | with_reducible apply eAR | with_reducible apply eCI | with_reducible apply eCZ | with_reducible apply wRc | with_reducible apply R_X_tape | with_reducible exact C_Tape | with_reducible exact K_Tape_size | with_reducible exact upR_s | ((with_reducible apply upR_a); (first | decide | omega)) | ((with_reducible apply upR_b); (first | decide | omega)) | ((with_reducible apply cpR_o); (first | decide | omega)) | with_reducible apply lt_pSet1 | with_reducible apply lt_kil | exact Nat.le_of_ble_eq_true rfl | with_reducible assumption | with_reducible exact rfl | omega | with_reducible apply wAnd | decide +kernel
  have hfr : ∀ x, x ≠ 168 → x ≠ 169 → x ≠ 179 → x ≠ 186 → upZ (upZ G1 186 n' v) 179 7 ((n' : Int) + 1) x = G x := fun x a b d f => by rw [upZ_ne d, upZ_ne f]; exact hG x a b
  have hend : allI c (upZ (upZ G1 186 n' v) 179 7 ((n' : Int) + 1)) U := by
    obtain ⟨s1, s2, q, -, h193, h98⟩ := hg
    have e179 : ∀ i, upZ (upZ G1 186 n' v) 179 7 ((n' : Int) + 1) 179 i = if i = 7 then (n' : Int) + 1 else G 179 i := fun i => by
      by_cases ci : i = 7
      · subst ci; rw [upR_s, if_pos rfl]
      · rw [if_neg ci, ← hG 179 (by omega) (by omega)]; simp [upZ, ci]
    refine ⟨sideI_fr s1 (by omega) (fun x _ _ => hfr x (by omega) (by omega) (by omega) (by omega)) (hfr _ (by omega) (by omega) (by omega) (by omega)) rfl rfl rfl, sideI_fr s2 (by omega) (fun x _ _ => hfr x (by omega) (by omega) (by omega) (by omega)) (hfr _ (by omega) (by omega) (by omega) (by omega)) rfl rfl rfl, ?_, ⟨n' + 1, by omega, ?_, ?_, ?_, ?_⟩, fun x => by rw [hfr _ (by omega) (by omega) (by omega) (by omega)]; exact h193 x, aheadI_fr h98 (by omega) (by rw [hfr _ (by omega) (by omega) (by omega) (by omega)]) (by rw [hfr _ (by omega) (by omega) (by omega) (by omega)])⟩
    · obtain ⟨r, a, b, d, f, k⟩ := q
      refine ⟨fun i => ?_, by rw [e179, if_neg (by omega)]; exact a, by rw [e179, if_neg (by omega)]; exact b, by rw [e179, if_neg (by omega)]; exact d, by rw [e179, if_neg (by omega)]; exact f, by rw [e179, if_neg (by omega)]; exact k⟩
      rw [e179]
      split
      · omega
      · exact r i
    · rw [upZ_ne (by omega), upZ_ne (by omega), g168]; omega
    · rw [upR_s]; omega
    · funext i
      rw [upZ_ne (by omega), upZ_ne (by omega), g169, upZ_ne (by omega), hTT, ← hG 186 (by omega) (by omega)]
      by_cases ci : i = n' <;> simp [upZ, ci]
    · intro i hi
      rw [upZ_ne (by omega), upZ_ne (by omega), g169]
      split
      · omega
      · exact hok i (by omega)
  exact ⟨rfl, _, rfl, _, fun x hx => ⟨by rw [upZ_ne (by omega), upZ_ne (by omega)], rfl⟩, fun x hx => hfr x (by omega) (by omega) (by omega) (by omega), hend, hfr _ (by omega) (by omega) (by omega) (by omega), hfr _ (by omega) (by omega) (by omega) (by omega), by rw [upZ_ne (by omega), upZ_ne (by omega)]; exact g168, fun i => by rw [upZ_ne (by omega), upZ_ne (by omega)]; exact g169 i⟩
set_option maxHeartbeats 1000000 in
theorem xs_off (hc : c ≤ 600) (hg : allI c G U) {k : Nat} (hk : k < (G 180 1).toNat) (h1 : mAt (G 180) k 5 ≤ 1) : WpF F_X_off [pR 0, pI (Int32.ofInt (k : Int))] (zM G U) (fun r τ => ∃ t : Int, r = some (pI (Int32.ofInt t)) ∧ ∃ G1 U1, τ = zM G1 U1 ∧ nx (c + 1) G U G1 U1 (offF 100 (G 180, U) k).1.1 ((offF 100 (G 180, U) k).1.2 183) (G 168 0)) := by
  obtain ⟨⟨e, he, hS, hI, hP, hnow, hub⟩, hside2, hq, htp, h193, h98⟩ := id hg
  have hrow := hI.1
  have hn := hrow.2.2.1
  have h6 : G 6 0 = G 180 1 := hS.1.2.2.1.1
  have i6 : isJobs 6 := S_Scene_jobs is1
  have i1 := is1
  have i79 := is79
  have hk8 := row_n hrow hk
  have rgk : rg (k : Int) := by unfold rg; omega
  have hst : G 7 k = mAt (G 180) k 5 := (hS.1.2.2.1.2 k hk).1
  have h5 := (row_j hrow hk).2.2.2.2.2.1
  have hT : WpF F_Scheduler_takeOff [pR 79, pR 1, pI (Int32.ofInt (k : Int))] (zM G U) (fun r σ' => ∃ x, r = some (pI (Int32.ofInt x)) ∧ narK 1 (some (pI (Int32.ofInt x))) = true ∧ ∃ t : Int, some (pI (Int32.ofInt x)) = some (pI (Int32.ofInt t)) ∧ ∃ G1 U1, σ' = zM G1 U1 ∧ nx (c + 1) G U G1 U1 (offF 100 (G 180, U) k).1.1 ((offF 100 (G 180, U) k).1.2 183) (G 168 0)) := by
    refine Sd_takeOff (V := U) i1 i79 (by omega) hI hk h1 hS (by omega) fun G1 U1 t ht h2 f1 f2 r1 s1 => ⟨(t : Int), rfl, rfl, (t : Int), rfl, G1, U1, rfl, ?_⟩
    have e180 : G1 180 = G 180 := f1 180 (by omega) (by omega)
    obtain ⟨q1, q2, q3, q4⟩ := offF_V 100 (G 180, U) (G 180, U1) k rfl
    have hkp := offF_keep 100 (G 180, U) k hI hk
    have hRP := offF_ind (P := rowP) (fun g j a b d => of1_rowP a b d) 100 (G 180, U) k hI hk hP
    have u183 : U1 183 = U 183 := f2 183 (by omega)
    have hfr : ∀ x, x ≠ 180 → setRow G1 180 (offF 100 (G 180, U1) k).1.1 x = G1 x := fun x hx => setRow_o hx
    have hUo : ∀ x, x ≠ 183 → (offF 100 (G 180, U1) k).1.2 x = U1 x := fun x hx => by rw [q4]; exact upZ_ne hx
    have h183 : (offF 100 (G 180, U1) k).1.2 183 = (offF 100 (G 180, U) k).1.2 183 := by
      rw [q3, q4]
      show upZ U1 183 11 (U1 183 11 + _) 183 = upZ U 183 11 (U 183 11 + _) 183
      funext b
      unfold upZ
      rw [u183]
    have hend : allI (c + 1) (setRow G1 180 (offF 100 (G 180, U1) k).1.1) (offF 100 (G 180, U1) k).1.2 := by
      refine ⟨⟨e + t, ⟨by omega, by rw [setRow_at, ← q1, hkp.2.1 5 (by omega) (by omega)]; have := he.2; show G 180 5 ≤ _; omega⟩, ?_, ?_, ?_, ?_, fun a ha => ?_⟩, ?_, ?_, ?_, ?_⟩
      · have hh := scR_fr (G' := setRow G1 180 (offF 100 (G 180, U1) k).1.1) (U' := (offF 100 (G 180, U1) k).1.2) s1 (fun x _ _ => hfr x (by omega)) (hUo _ (by omega)) (hUo _ (by omega))
        rw [setRow_at, h183]
        rw [q1] at hh
        exact hh
      · rw [setRow_at, ← q1]; exact r1
      · rw [setRow_at, ← q1]; exact hRP
      · rw [setRow_at, ← q1, hkp.2.1 0 (by omega) (by omega)]; exact hnow
      · rw [setRow_at, ← q1, hkp.2.1 0 (by omega) (by omega), q4]
        have : upZ (G 180, U1).2 183 11 ((G 180, U1).2 183 11 + (offF 100 (G 180, U) k).2) 183 a = U 183 a := by
          show upZ U1 183 11 (U1 183 11 + _) 183 a = _
          unfold upZ
          rw [if_neg (by omega), u183]
        rw [this]
        exact hub a ha
      · exact sideI_fr hside2 (by omega) (fun x _ _ => by rw [hfr x (by omega)]; exact f1 x (by omega) (by omega)) (by rw [hfr _ (by omega)]; exact f1 _ (by omega) (by omega)) (by rw [hUo _ (by omega)]; exact f2 _ (by omega)) (by rw [hUo _ (by omega)]; exact f2 _ (by omega)) (by rw [hUo _ (by omega)]; exact f2 _ (by omega))
      · exact quiet_fr hq (by rw [hfr _ (by omega)]; exact f1 _ (by omega) (by omega))
      · exact tapesI_fr htp (by rw [hfr _ (by omega)]; exact f1 _ (by omega) (by omega)) (by rw [hfr _ (by omega)]; exact f1 _ (by omega) (by omega)) (by rw [hfr _ (by omega)]; exact f1 _ (by omega) (by omega)) (by rw [hfr _ (by omega)]; exact f1 _ (by omega) (by omega))
      · refine ⟨fun x => ?_, aheadI_fr h98 (by omega) (by rw [hfr _ (by omega), f1 _ (by omega) (by omega)]) (by rw [hfr _ (by omega), f1 _ (by omega) (by omega)])⟩
        rw [hfr _ (by omega), f1 _ (by omega) (by omega)]
        exact h193 x
    exact ⟨_, _, fun x hx => ⟨hfr x (by omega), hUo x (by omega)⟩, fun x hx => ⟨by rw [hfr x (by omega)]; exact f1 x (by omega) (by omega), by rw [hUo x (by omega)]; exact f2 x (by omega)⟩, hend, by rw [setRow_at, ← q1], h183, by rw [hfr _ (by omega)]; exact f1 _ (by omega) (by omega), by rw [hUo _ (by omega)]; exact f2 _ (by omega), by rw [hfr _ (by omega), f1 _ (by omega) (by omega)]⟩
  clear hside2 hq htp h193 h98 hS hub
  unfold F_X_off B_X_off
  apply wBody (Nat.le_of_ble_eq_true rfl)
  repeat' first | with_reducible apply wAsIc (F := F_Scheduler_takeOff) | with_reducible apply wAsZc (F := F_Scheduler_takeOff) | with_reducible apply wRIc (F := F_Scheduler_takeOff) | with_reducible apply wRZc (F := F_Scheduler_takeOff) | with_reducible apply wBc (F := F_Scheduler_takeOff) | with_reducible apply wIc (F := F_Scheduler_takeOff) | with_reducible apply wB_and | with_reducible apply wB_or | with_reducible apply wB_not | with_reducible apply wI_ite | with_reducible apply wI_add | with_reducible apply wI_sub | with_reducible apply wSeq | with_reducible apply wSkip | with_reducible apply wIf | with_reducible apply wAsIw | with_reducible apply wAsZw | with_reducible apply wRIw | with_reducible apply wRZw | with_reducible apply wB_e | with_reducible apply wI_e | (intro h; try simp only [Bool.and_eq_true, Bool.or_eq_true, Bool.not_eq_true', Bool.not_eq_false', Bool.and_eq_false_imp, Bool.or_eq_false_iff, decide_eq_true_eq, decide_eq_false_iff_not, Bool.not_true, Bool.not_false, Bool.true_eq_false, Bool.false_eq_true, Bool.not_not] at h) | with_reducible apply wN1 | with_reducible apply wN2 | with_reducible apply wN3 | with_reducible apply wN4 | with_reducible apply wN0 | with_reducible apply wE0 | with_reducible apply wXI | with_reducible apply wXB | with_reducible exact hst | with_reducible exact eK | ((with_reducible apply eL); rfl) | ((with_reducible apply eLR); rfl) | with_reducible exact eAN | with_reducible apply eEq | with_reducible apply eOrB | with_reducible apply eNot | with_reducible apply eIteI | with_reducible apply eIteJ | with_reducible apply eIte | with_reducible apply eArr2 | with_reducible apply eAI | with_reducible apply eAR | with_reducible apply eCI | with_reducible apply eCZ | with_reducible apply wRc | with_reducible apply R_X_scene | with_reducible apply R_X_scheduler | with_reducible apply R_Scene_jobs | with_reducible apply R_Jobs_state | with_reducible exact C_X | with_reducible exact isScene_1 | with_reducible exact C_Scene isScene_1 | with_reducible exact isScheduler_79 | with_reducible exact C_Scheduler isScheduler_79 | with_reducible exact S_Scene_jobs (by assumption) | with_reducible exact C_Jobs (S_Scene_jobs (by assumption)) | with_reducible exact N_Jobs_state (by assumption) | with_reducible exact C_Scheduler (by assumption) | with_reducible exact Xc_isJob (by assumption) (by assumption) (by assumption) | with_reducible exact Int.toNat_natCast _ | with_reducible exact tn0 | with_reducible exact tn1 | with_reducible exact tn2 | with_reducible exact tn3 | with_reducible exact tn4 | with_reducible exact tn5 | with_reducible exact tn6 | with_reducible exact tn7 | with_reducible exact tn8 | with_reducible exact tn9 | with_reducible exact tn10 | with_reducible exact tn11 | with_reducible exact tn12 | with_reducible exact tn13 | with_reducible exact tn14 | with_reducible exact tn15 | with_reducible exact tn16 | with_reducible exact tnK0 | with_reducible exact tnK4 | with_reducible exact tnK8 | with_reducible exact tnK12 | with_reducible exact tnK16 | with_reducible exact tnK20 | with_reducible exact tnK24 | with_reducible exact tnK28 | with_reducible exact tnK32 | with_reducible exact tnJA | with_reducible exact tnA | with_reducible exact upR_s | ((with_reducible apply upR_a); (first | decide | omega)) | ((with_reducible apply upR_b); (first | decide | omega)) | ((with_reducible apply cpR_o); (first | decide | omega)) | with_reducible apply lt_pSet1 | with_reducible apply lt_kil | exact Nat.le_of_ble_eq_true rfl | with_reducible assumption | with_reducible exact rfl | omega | with_reducible apply wAnd | decide +kernel
  all_goals first | with_reducible exact hT | (exfalso; omega)
set_option maxHeartbeats 1000000 in
theorem xs_off_no (hg : allI c G U) {k : Nat} (hk : k < (G 180 1).toNat) (h1 : 1 < mAt (G 180) k 5) : F_X_off [pR 0, pI (Int32.ofInt (k : Int))] (zM G U) = some (some (pI (Int32.ofInt (-5))), zM G U) := by
  obtain ⟨⟨e, he, hS, hI, hP, hnow, hub⟩, -⟩ := id hg
  have hrow := hI.1
  have hn := hrow.2.2.1
  have h6 : G 6 0 = G 180 1 := hS.1.2.2.1.1
  have i6 : isJobs 6 := S_Scene_jobs is1
  have i1 := is1
  have i79 := is79
  have hk8 := row_n hrow hk
  have rgk : rg (k : Int) := by unfold rg; omega
  have hst : G 7 k = mAt (G 180) k 5 := (hS.1.2.2.1.2 k hk).1
  have h5 := (row_j hrow hk).2.2.2.2.2.1
  apply wF_to
  unfold F_X_off B_X_off
  apply wBody (Nat.le_of_ble_eq_true rfl)
  repeat' first | with_reducible apply wAsIc (F := F_Scheduler_takeOff) | with_reducible apply wAsZc (F := F_Scheduler_takeOff) | with_reducible apply wRIc (F := F_Scheduler_takeOff) | with_reducible apply wRZc (F := F_Scheduler_takeOff) | with_reducible apply wBc (F := F_Scheduler_takeOff) | with_reducible apply wIc (F := F_Scheduler_takeOff) | with_reducible apply wB_and | with_reducible apply wB_or | with_reducible apply wB_not | with_reducible apply wI_ite | with_reducible apply wI_add | with_reducible apply wI_sub | with_reducible apply wSeq | with_reducible apply wSkip | with_reducible apply wIf | with_reducible apply wAsIw | with_reducible apply wAsZw | with_reducible apply wRIw | with_reducible apply wRZw | with_reducible apply wB_e | with_reducible apply wI_e | (intro h; try simp only [Bool.and_eq_true, Bool.or_eq_true, Bool.not_eq_true', Bool.not_eq_false', Bool.and_eq_false_imp, Bool.or_eq_false_iff, decide_eq_true_eq, decide_eq_false_iff_not, Bool.not_true, Bool.not_false, Bool.true_eq_false, Bool.false_eq_true, Bool.not_not] at h) | with_reducible apply wN1 | with_reducible apply wN2 | with_reducible apply wN3 | with_reducible apply wN4 | with_reducible apply wN0 | with_reducible apply wE0 | with_reducible apply wXI | with_reducible apply wXB | with_reducible exact hst | with_reducible exact eK | ((with_reducible apply eL); rfl) | ((with_reducible apply eLR); rfl) | with_reducible exact eAN | with_reducible apply eEq | with_reducible apply eOrB | with_reducible apply eNot | with_reducible apply eIteI | with_reducible apply eIteJ | with_reducible apply eIte | with_reducible apply eArr2 | with_reducible apply eAI | with_reducible apply eAR | with_reducible apply eCI | with_reducible apply eCZ | with_reducible apply wRc | with_reducible apply R_X_scene | with_reducible apply R_X_scheduler | with_reducible apply R_Scene_jobs | with_reducible apply R_Jobs_state | with_reducible exact C_X | with_reducible exact isScene_1 | with_reducible exact C_Scene isScene_1 | with_reducible exact isScheduler_79 | with_reducible exact C_Scheduler isScheduler_79 | with_reducible exact S_Scene_jobs (by assumption) | with_reducible exact C_Jobs (S_Scene_jobs (by assumption)) | with_reducible exact N_Jobs_state (by assumption) | with_reducible exact C_Scheduler (by assumption) | with_reducible exact Xc_isJob (by assumption) (by assumption) (by assumption) | with_reducible exact Int.toNat_natCast _ | with_reducible exact tn0 | with_reducible exact tn1 | with_reducible exact tn2 | with_reducible exact tn3 | with_reducible exact tn4 | with_reducible exact tn5 | with_reducible exact tn6 | with_reducible exact tn7 | with_reducible exact tn8 | with_reducible exact tn9 | with_reducible exact tn10 | with_reducible exact tn11 | with_reducible exact tn12 | with_reducible exact tn13 | with_reducible exact tn14 | with_reducible exact tn15 | with_reducible exact tn16 | with_reducible exact tnK0 | with_reducible exact tnK4 | with_reducible exact tnK8 | with_reducible exact tnK12 | with_reducible exact tnK16 | with_reducible exact tnK20 | with_reducible exact tnK24 | with_reducible exact tnK28 | with_reducible exact tnK32 | with_reducible exact tnJA | with_reducible exact tnA | with_reducible exact upR_s | ((with_reducible apply upR_a); (first | decide | omega)) | ((with_reducible apply upR_b); (first | decide | omega)) | ((with_reducible apply cpR_o); (first | decide | omega)) | with_reducible apply lt_pSet1 | with_reducible apply lt_kil | exact Nat.le_of_ble_eq_true rfl | with_reducible assumption | with_reducible exact rfl | omega | with_reducible apply wAnd | decide +kernel
  all_goals first | (exfalso; omega) | exact ⟨rfl, rfl⟩
set_option maxHeartbeats 1000000 in
theorem xs_off_0 (hg : allI c G U) (h1 : G 180 1 = 0) : F_X_off [pR 0, pI (Int32.ofInt 0)] (zM G U) = some (some (pI (Int32.ofInt (-1))), zM G U) := by
  obtain ⟨⟨e, he, hS, hI, hP, hnow, hub⟩, -⟩ := id hg
  have h6 : G 6 0 = G 180 1 := hS.1.2.2.1.1
  have i6 : isJobs 6 := S_Scene_jobs is1
  have i1 := is1
  have hn := hI.1.2.2.1
  have rg0 : rg 0 := by unfold rg; omega
  have hm0 : rg (G 180 1) := by unfold rg; omega
  apply wF_to
  unfold F_X_off B_X_off
  apply wBody (Nat.le_of_ble_eq_true rfl)
  repeat' first | with_reducible apply wAsIc (F := F_Scheduler_takeOff) | with_reducible apply wAsZc (F := F_Scheduler_takeOff) | with_reducible apply wRIc (F := F_Scheduler_takeOff) | with_reducible apply wRZc (F := F_Scheduler_takeOff) | with_reducible apply wBc (F := F_Scheduler_takeOff) | with_reducible apply wIc (F := F_Scheduler_takeOff) | with_reducible apply wB_and | with_reducible apply wB_or | with_reducible apply wB_not | with_reducible apply wI_ite | with_reducible apply wI_add | with_reducible apply wI_sub | with_reducible apply wSeq | with_reducible apply wSkip | with_reducible apply wIf | with_reducible apply wAsIw | with_reducible apply wAsZw | with_reducible apply wRIw | with_reducible apply wRZw | with_reducible apply wB_e | with_reducible apply wI_e | (intro h; try simp only [Bool.and_eq_true, Bool.or_eq_true, Bool.not_eq_true', Bool.not_eq_false', Bool.and_eq_false_imp, Bool.or_eq_false_iff, decide_eq_true_eq, decide_eq_false_iff_not, Bool.not_true, Bool.not_false, Bool.true_eq_false, Bool.false_eq_true, Bool.not_not] at h) | with_reducible apply wN1 | with_reducible apply wN2 | with_reducible apply wN3 | with_reducible apply wN4 | with_reducible apply wN0 | with_reducible apply wE0 | with_reducible apply wXI | with_reducible apply wXB | with_reducible exact eK | ((with_reducible apply eL); rfl) | ((with_reducible apply eLR); rfl) | with_reducible exact eAN | with_reducible apply eEq | with_reducible apply eOrB | with_reducible apply eNot | with_reducible apply eIteI | with_reducible apply eIteJ | with_reducible apply eIte | with_reducible apply eArr2 | with_reducible apply eAI | with_reducible apply eAR | with_reducible apply eCI | with_reducible apply eCZ | with_reducible apply wRc | with_reducible apply R_X_scene | with_reducible apply R_X_scheduler | with_reducible apply R_Scene_jobs | with_reducible apply R_Jobs_state | with_reducible exact C_X | with_reducible exact isScene_1 | with_reducible exact C_Scene isScene_1 | with_reducible exact isScheduler_79 | with_reducible exact C_Scheduler isScheduler_79 | with_reducible exact S_Scene_jobs (by assumption) | with_reducible exact C_Jobs (S_Scene_jobs (by assumption)) | with_reducible exact N_Jobs_state (by assumption) | with_reducible exact C_Scheduler (by assumption) | with_reducible exact Xc_isJob (by assumption) (by assumption) (by assumption) | with_reducible exact Int.toNat_natCast _ | with_reducible exact tn0 | with_reducible exact tn1 | with_reducible exact tn2 | with_reducible exact tn3 | with_reducible exact tn4 | with_reducible exact tn5 | with_reducible exact tn6 | with_reducible exact tn7 | with_reducible exact tn8 | with_reducible exact tn9 | with_reducible exact tn10 | with_reducible exact tn11 | with_reducible exact tn12 | with_reducible exact tn13 | with_reducible exact tn14 | with_reducible exact tn15 | with_reducible exact tn16 | with_reducible exact tnK0 | with_reducible exact tnK4 | with_reducible exact tnK8 | with_reducible exact tnK12 | with_reducible exact tnK16 | with_reducible exact tnK20 | with_reducible exact tnK24 | with_reducible exact tnK28 | with_reducible exact tnK32 | with_reducible exact tnJA | with_reducible exact tnA | with_reducible exact upR_s | ((with_reducible apply upR_a); (first | decide | omega)) | ((with_reducible apply upR_b); (first | decide | omega)) | ((with_reducible apply cpR_o); (first | decide | omega)) | with_reducible apply lt_pSet1 | with_reducible apply lt_kil | exact Nat.le_of_ble_eq_true rfl | with_reducible assumption | with_reducible exact rfl | omega | with_reducible apply wAnd | decide +kernel
  all_goals first | (exfalso; omega) | exact ⟨rfl, rfl⟩
set_option maxHeartbeats 1000000 in
theorem xs_hold_no (hg : allI c G U) {k : Nat} {b : Int} (hb : b = 0 ∨ b = 1) (hk : k < (G 180 1).toNat) (h1 : mAt (G 180) k 5 ≠ 0) : F_X_hold [pR 0, pI (Int32.ofInt (k : Int)), pI (Int32.ofInt b)] (zM G U) = some (some (pI (Int32.ofInt (-5))), zM G U) := by
  have i1 := is1
  have i6 : isJobs 6 := S_Scene_jobs is1
  obtain ⟨⟨e, he, hS, hI, hP, hnow, hub⟩, -⟩ := id hg
  have hrow := hI.1
  have hr1 : gRange (G 180) := hrow.1
  have hn := hrow.2.2.1
  have h6 : G 6 0 = G 180 1 := hS.1.2.2.1.1
  have hb0 : rg (G 180 1) := hr1 _
  have hk8 := row_n hrow hk
  have rgk : rg (k : Int) := by unfold rg; omega
  have rgb : rg b := by unfold rg; omega
  obtain ⟨x5, x0, x1, x2, x3, x4, xc, x10, x11, x6, x7⟩ := hS.1.2.2.1.2 k hk
  have hW := Xc_isWaiting (G := G) (U := U) hk8 x5 (hr1 _)
  apply wF_to
  unfold F_X_hold B_X_hold
  apply wBody (Nat.le_of_ble_eq_true rfl)
  repeat' first | with_reducible apply wSeq | with_reducible apply wSkip | with_reducible apply wIf | with_reducible apply wAsI | with_reducible apply wRI | with_reducible apply wAst2 | with_reducible apply wB_e | (intro h; try simp only [Bool.and_eq_true, Bool.or_eq_true, Bool.not_eq_true', Bool.not_eq_false', Bool.and_eq_false_imp, Bool.or_eq_false_iff, decide_eq_true_eq, decide_eq_false_iff_not, Bool.not_true, Bool.not_false, Bool.true_eq_false, Bool.false_eq_true, Bool.not_not] at h) | with_reducible apply wN1 | with_reducible apply wN2 | with_reducible apply wN3 | with_reducible apply wN4 | with_reducible apply wN0 | with_reducible apply wE0 | with_reducible apply wXI | with_reducible apply wXB | with_reducible exact hW | with_reducible exact x10 | with_reducible exact eK | ((with_reducible apply eL); rfl) | ((with_reducible apply eLR); rfl) | with_reducible exact eAN | with_reducible apply eLt | with_reducible apply eGt | with_reducible apply eEq | with_reducible apply eOrB | with_reducible apply eNot | with_reducible apply eArr2 | with_reducible apply eAI | with_reducible apply eAR | with_reducible apply eCI | with_reducible apply eCZ | with_reducible apply wRc | with_reducible apply R_X_scene | with_reducible apply R_Scene_jobs | with_reducible apply R_Jobs_heldBack | with_reducible apply R_Jobs_promise | with_reducible exact C_X | with_reducible exact isScene_1 | with_reducible exact C_Scene isScene_1 | with_reducible exact S_Scene_jobs (by assumption) | with_reducible exact C_Jobs (S_Scene_jobs (by assumption)) | with_reducible exact N_Jobs_heldBack (by assumption) | with_reducible exact N_Jobs_promise (by assumption) | with_reducible exact Xc_isJob (by assumption) (by assumption) (by assumption) | with_reducible exact Int.toNat_natCast _ | with_reducible exact tn0 | with_reducible exact tn1 | with_reducible exact tn2 | with_reducible exact tn3 | with_reducible exact tn4 | with_reducible exact tn5 | with_reducible exact tn6 | with_reducible exact tn7 | with_reducible exact tn8 | with_reducible exact tn9 | with_reducible exact tn10 | with_reducible exact tn11 | with_reducible exact tn12 | with_reducible exact tn13 | with_reducible exact tn14 | with_reducible exact tn15 | with_reducible exact tn16 | with_reducible exact tnK0 | with_reducible exact tnK4 | with_reducible exact tnK8 | with_reducible exact tnK12 | with_reducible exact tnK16 | with_reducible exact tnK20 | with_reducible exact tnK24 | with_reducible exact tnK28 | with_reducible exact tnK32 | with_reducible exact tnJA | with_reducible exact tnA | with_reducible exact upR_s | ((with_reducible apply upR_a); (first | decide | omega)) | ((with_reducible apply upR_b); (first | decide | omega)) | ((with_reducible apply cpR_o); (first | decide | omega)) | with_reducible apply lt_pSet1 | with_reducible apply lt_kil | exact Nat.le_of_ble_eq_true rfl | with_reducible assumption | with_reducible exact rfl | omega | with_reducible apply wAnd | decide +kernel
  all_goals first | (exfalso; omega) | exact ⟨rfl, rfl⟩
set_option maxHeartbeats 1000000 in
theorem xs_hold_0 (hg : allI c G U) {b : Int} (hb : b = 0 ∨ b = 1) (h1 : G 180 1 = 0) : F_X_hold [pR 0, pI (Int32.ofInt 0), pI (Int32.ofInt b)] (zM G U) = some (some (pI (Int32.ofInt (-1))), zM G U) := by
  have i1 := is1
  have i6 : isJobs 6 := S_Scene_jobs is1
  obtain ⟨⟨e, he, hS, hI, hP, hnow, hub⟩, -⟩ := id hg
  have h6 : G 6 0 = G 180 1 := hS.1.2.2.1.1
  have hb0 : rg (G 180 1) := hI.1.1 _
  have hn := hI.1.2.2.1
  have rg0 : rg 0 := by unfold rg; omega
  have rgb : rg b := by unfold rg; omega
  apply wF_to
  unfold F_X_hold B_X_hold
  apply wBody (Nat.le_of_ble_eq_true rfl)
  repeat' first | with_reducible apply wSeq | with_reducible apply wSkip | with_reducible apply wIf | with_reducible apply wAsI | with_reducible apply wRI | with_reducible apply wAst2 | with_reducible apply wB_e | (intro h; try simp only [Bool.and_eq_true, Bool.or_eq_true, Bool.not_eq_true', Bool.not_eq_false', Bool.and_eq_false_imp, Bool.or_eq_false_iff, decide_eq_true_eq, decide_eq_false_iff_not, Bool.not_true, Bool.not_false, Bool.true_eq_false, Bool.false_eq_true, Bool.not_not] at h) | with_reducible apply wN1 | with_reducible apply wN2 | with_reducible apply wN3 | with_reducible apply wN4 | with_reducible apply wN0 | with_reducible apply wE0 | with_reducible apply wXI | with_reducible apply wXB | with_reducible exact eK | ((with_reducible apply eL); rfl) | ((with_reducible apply eLR); rfl) | with_reducible exact eAN | with_reducible apply eLt | with_reducible apply eGt | with_reducible apply eEq | with_reducible apply eOrB | with_reducible apply eNot | with_reducible apply eArr2 | with_reducible apply eAI | with_reducible apply eAR | with_reducible apply eCI | with_reducible apply eCZ | with_reducible apply wRc | with_reducible apply R_X_scene | with_reducible apply R_Scene_jobs | with_reducible apply R_Jobs_heldBack | with_reducible apply R_Jobs_promise | with_reducible exact C_X | with_reducible exact isScene_1 | with_reducible exact C_Scene isScene_1 | with_reducible exact S_Scene_jobs (by assumption) | with_reducible exact C_Jobs (S_Scene_jobs (by assumption)) | with_reducible exact N_Jobs_heldBack (by assumption) | with_reducible exact N_Jobs_promise (by assumption) | with_reducible exact Xc_isJob (by assumption) (by assumption) (by assumption) | with_reducible exact Int.toNat_natCast _ | with_reducible exact tn0 | with_reducible exact tn1 | with_reducible exact tn2 | with_reducible exact tn3 | with_reducible exact tn4 | with_reducible exact tn5 | with_reducible exact tn6 | with_reducible exact tn7 | with_reducible exact tn8 | with_reducible exact tn9 | with_reducible exact tn10 | with_reducible exact tn11 | with_reducible exact tn12 | with_reducible exact tn13 | with_reducible exact tn14 | with_reducible exact tn15 | with_reducible exact tn16 | with_reducible exact tnK0 | with_reducible exact tnK4 | with_reducible exact tnK8 | with_reducible exact tnK12 | with_reducible exact tnK16 | with_reducible exact tnK20 | with_reducible exact tnK24 | with_reducible exact tnK28 | with_reducible exact tnK32 | with_reducible exact tnJA | with_reducible exact tnA | with_reducible exact upR_s | ((with_reducible apply upR_a); (first | decide | omega)) | ((with_reducible apply upR_b); (first | decide | omega)) | ((with_reducible apply cpR_o); (first | decide | omega)) | with_reducible apply lt_pSet1 | with_reducible apply lt_kil | exact Nat.le_of_ble_eq_true rfl | with_reducible assumption | with_reducible exact rfl | omega | with_reducible apply wAnd | decide +kernel
  all_goals first | (exfalso; omega) | exact ⟨rfl, rfl⟩
/-- the row behind a holding back -/
def holdF (g : Nat → Int) (k : Nat) (b : Int) : Nat → Int := if b = 0 then jput g k 10 0 else jput (jput g k 10 1) k 9 (-1)
set_option maxHeartbeats 1000000 in
theorem xs_hold (hg : allI c G U) {k : Nat} {b : Int} (hb : b = 0 ∨ b = 1) (hk : k < (G 180 1).toNat) (h5 : mAt (G 180) k 5 = 0) : WpF F_X_hold [pR 0, pI (Int32.ofInt (k : Int)), pI (Int32.ofInt b)] (zM G U) (fun r τ => ∃ t : Int, r = some (pI (Int32.ofInt t)) ∧ ∃ G1, τ = zM G1 U ∧ nx (c + 1) G U G1 U (holdF (G 180) k b) (U 183) (G 168 0)) := by
  have i1 := is1
  have i6 : isJobs 6 := S_Scene_jobs is1
  obtain ⟨⟨e, he, hS, hI, hP, hnow, hub⟩, -⟩ := id hg
  have hrow := hI.1
  have hr1 : gRange (G 180) := hrow.1
  have hn := hrow.2.2.1
  have h6 : G 6 0 = G 180 1 := hS.1.2.2.1.1
  have hb0 : rg (G 180 1) := hr1 _
  have hk8 := row_n hrow hk
  have rgk : rg (k : Int) := by unfold rg; omega
  obtain ⟨x5, x0, x1, x2, x3, x4, xc, x10, x11, x6, x7⟩ := hS.1.2.2.1.2 k hk
  have hW := Xc_isWaiting (G := G) (U := U) hk8 x5 (hr1 _)
  have hn8 : ∀ i, i < (G 180 1).toNat → i < 80 := fun i hi => row_n hrow hi
  unfold holdF
  rcases hb with rfl | rfl
  · rw [if_pos rfl]
    obtain ⟨G1, hG1⟩ : ∃ G1, G1 = upZ G 14 k 0 := ⟨_, rfl⟩
    have hGo : ∀ x, x ≠ 14 → G1 x = G x := fun x hx => by rw [hG1, upZ_ne hx]
    have hG14 : ∀ i, G1 14 i = if i = k then 0 else G 14 i := fun i => by rw [hG1]; by_cases ci : i = k <;> simp [upZ, ci]
    have e180 := hGo 180 (by omega)
    have hend : allI (c + 1) (setRow G1 180 (jput (G 180) k 10 0)) U := by
      have hcell : ∀ i w, i < 80 → w < 32 → ¬ (i = k ∧ w = 10) → mAt (jput (G 180) k 10 0) i w = mAt (G 180) i w := fun i w _ hw h => put_o (by omega)
      have hk1 : mAt (jput (G 180) k 10 0) k 10 = 0 := put_at
      refine near_all hg setRow_at (fun x _ a _ d => by rw [setRow_o d]; exact hGo x a) (gRange_jput hr1 (by unfold rg; omega)) (fun b hb => jput_lo hb) (fun b hb => jput_hi hk8 (by omega) hb) (fun i w hi hw _ _ a => hcell i w (hn8 i hi) hw (by omega)) (fun i w hi hi8 hw => hcell i w hi8 hw (by omega)) (fun i hi => ?_) (fun i hi => ?_) (fun i hi => ?_)
      · rw [setRow_o (by omega), hGo _ (by omega), hcell i 1 (hn8 i hi) (by omega) (by omega)]
        exact ⟨(hS.1.2.2.1.2 i hi).2.2.1, (row_j hrow hi).2.1⟩
      · rw [setRow_o (by omega), hG14]
        by_cases ci : i = k
        · subst ci
          rw [if_pos rfl, hk1]
          omega
        · rw [if_neg ci, hcell i 10 (hn8 i hi) (by omega) (by omega)]
          exact ⟨(hS.1.2.2.1.2 i hi).2.2.2.2.2.2.2.1, (row_j hrow hi).2.2.2.2.2.2.2.2.2.2.1⟩
      · rw [setRow_o (by omega), hGo _ (by omega), hcell i 9 (hn8 i hi) (by omega) (by omega)]
        exact ⟨(hS.2 i hi).1, Or.inr rfl⟩
    have hnx : nx (c + 1) G U G1 U (jput (G 180) k 10 0) (U 183) (G 168 0) := ⟨_, U, fun x hx => ⟨setRow_o (by omega), rfl⟩, fun x hx => ⟨by rw [setRow_o (by omega), hGo _ (by omega)], rfl⟩, hend, setRow_at, rfl, by rw [setRow_o (by omega), hGo _ (by omega)], rfl, by rw [setRow_o (by omega), hGo _ (by omega)]⟩
    clear hend
    subst hG1
    unfold F_X_hold B_X_hold
    apply wBody (Nat.le_of_ble_eq_true rfl)
    repeat' first | with_reducible apply wSeq | with_reducible apply wSkip | with_reducible apply wIf | with_reducible apply wAsI | with_reducible apply wRI | with_reducible apply wAst2 | with_reducible apply wB_e | (intro h; try simp only [Bool.and_eq_true, Bool.or_eq_true, Bool.not_eq_true', Bool.not_eq_false', Bool.and_eq_false_imp, Bool.or_eq_false_iff, decide_eq_true_eq, decide_eq_false_iff_not, Bool.not_true, Bool.not_false, Bool.true_eq_false, Bool.false_eq_true, Bool.not_not] at h) | with_reducible apply wN1 | with_reducible apply wN2 | with_reducible apply wN3 | with_reducible apply wN4 | with_reducible apply wN0 | with_reducible apply wE0 | with_reducible apply wXI | with_reducible apply wXB | with_reducible exact hW | with_reducible exact x10 | with_reducible exact eK | ((with_reducible apply eL); rfl) | ((with_reducible apply eLR); rfl) | with_reducible exact eAN | with_reducible apply eLt | with_reducible apply eGt | with_reducible apply eEq | with_reducible apply eOrB | with_reducible apply eNot | with_reducible apply eArr2 | with_reducible apply eAI | with_reducible apply eAR | with_reducible apply eCI | with_reducible apply eCZ | with_reducible apply wRc | with_reducible apply R_X_scene | with_reducible apply R_Scene_jobs | with_reducible apply R_Jobs_heldBack | with_reducible apply R_Jobs_promise | with_reducible exact C_X | with_reducible exact isScene_1 | with_reducible exact C_Scene isScene_1 | with_reducible exact S_Scene_jobs (by assumption) | with_reducible exact C_Jobs (S_Scene_jobs (by assumption)) | with_reducible exact N_Jobs_heldBack (by assumption) | with_reducible exact N_Jobs_promise (by assumption) | with_reducible exact Xc_isJob (by assumption) (by assumption) (by assumption) | with_reducible exact Int.toNat_natCast _ | with_reducible exact tn0 | with_reducible exact tn1 | with_reducible exact tn2 | with_reducible exact tn3 | with_reducible exact tn4 | with_reducible exact tn5 | with_reducible exact tn6 | with_reducible exact tn7 | with_reducible exact tn8 | with_reducible exact tn9 | with_reducible exact tn10 | with_reducible exact tn11 | with_reducible exact tn12 | with_reducible exact tn13 | with_reducible exact tn14 | with_reducible exact tn15 | with_reducible exact tn16 | with_reducible exact tnK0 | with_reducible exact tnK4 | with_reducible exact tnK8 | with_reducible exact tnK12 | with_reducible exact tnK16 | with_reducible exact tnK20 | with_reducible exact tnK24 | with_reducible exact tnK28 | with_reducible exact tnK32 | with_reducible exact tnJA | with_reducible exact tnA | with_reducible exact upR_s | ((with_reducible apply upR_a); (first | decide | omega)) | ((with_reducible apply upR_b); (first | decide | omega)) | ((with_reducible apply cpR_o); (first | decide | omega)) | with_reducible apply lt_pSet1 | with_reducible apply lt_kil | exact Nat.le_of_ble_eq_true rfl | with_reducible assumption | with_reducible exact rfl | omega | with_reducible apply wAnd | decide +kernel
    all_goals first | (exfalso; omega) | exact absurd trivial (by assumption) | exact absurd rfl (by assumption) | exact ⟨_, rfl, _, rfl, hnx⟩ | exact ⟨_, rfl, hnx⟩
  · rw [if_neg (by decide)]
    obtain ⟨G1, hG1⟩ : ∃ G1, G1 = upZ (upZ G 14 k 1) 19 k (-1) := ⟨_, rfl⟩
    have hGo : ∀ x, x ≠ 14 → x ≠ 19 → G1 x = G x := fun x hx hy => by rw [hG1, upZ_ne hy, upZ_ne hx]
    have hG14 : ∀ i, G1 14 i = if i = k then 1 else G 14 i := fun i => by rw [hG1, upZ_ne (by omega)]; by_cases ci : i = k <;> simp [upZ, ci]
    have hG19 : ∀ i, G1 19 i = if i = k then -1 else G 19 i := fun i => by rw [hG1]; by_cases ci : i = k <;> simp [upZ, ci]
    have e180 := hGo 180 (by omega) (by omega)
    have hend : allI (c + 1) (setRow G1 180 (jput (jput (G 180) k 10 1) k 9 (-1))) U := by
      have hcell : ∀ i w, i < 80 → w < 32 → ¬ (i = k ∧ (w = 9 ∨ w = 10)) → mAt (jput (jput (G 180) k 10 1) k 9 (-1)) i w = mAt (G 180) i w := fun i w _ hw h => (put_o (by omega)).trans (put_o (by omega))
      have hk1 : mAt (jput (jput (G 180) k 10 1) k 9 (-1)) k 10 = 1 := (put_o (by omega)).trans put_at
      have hk9 : mAt (jput (jput (G 180) k 10 1) k 9 (-1)) k 9 = -1 := put_at
      refine near_all hg setRow_at (fun x _ a a2 d => by rw [setRow_o d]; exact hGo x a a2) (gRange_jput (gRange_jput hr1 (by unfold rg; omega)) (by unfold rg; omega)) (fun b hb => (jput_lo hb).trans (jput_lo hb)) (fun b hb => (jput_hi hk8 (by omega) hb).trans (jput_hi hk8 (by omega) hb)) (fun i w hi hw _ _ a => hcell i w (hn8 i hi) hw (by omega)) (fun i w hi hi8 hw => hcell i w hi8 hw (by omega)) (fun i hi => ?_) (fun i hi => ?_) (fun i hi => ?_)
      · rw [setRow_o (by omega), hGo _ (by omega) (by omega), hcell i 1 (hn8 i hi) (by omega) (by omega)]
        exact ⟨(hS.1.2.2.1.2 i hi).2.2.1, (row_j hrow hi).2.1⟩
      · rw [setRow_o (by omega), hG14]
        by_cases ci : i = k
        · subst ci
          rw [if_pos rfl, hk1]
          omega
        · rw [if_neg ci, hcell i 10 (hn8 i hi) (by omega) (by omega)]
          exact ⟨(hS.1.2.2.1.2 i hi).2.2.2.2.2.2.2.1, (row_j hrow hi).2.2.2.2.2.2.2.2.2.2.1⟩
      · rw [setRow_o (by omega), hG19]
        by_cases ci : i = k
        · subst ci
          rw [if_pos rfl, hk9]
          exact ⟨rfl, Or.inl rfl⟩
        · rw [if_neg ci, hcell i 9 (hn8 i hi) (by omega) (by omega)]
          exact ⟨(hS.2 i hi).1, Or.inr rfl⟩
    have hnx : nx (c + 1) G U G1 U (jput (jput (G 180) k 10 1) k 9 (-1)) (U 183) (G 168 0) := ⟨_, U, fun x hx => ⟨setRow_o (by omega), rfl⟩, fun x hx => ⟨by rw [setRow_o (by omega), hGo _ (by omega) (by omega)], rfl⟩, hend, setRow_at, rfl, by rw [setRow_o (by omega), hGo _ (by omega) (by omega)], rfl, by rw [setRow_o (by omega), hGo _ (by omega) (by omega)]⟩
    clear hend
    subst hG1
    unfold F_X_hold B_X_hold
    apply wBody (Nat.le_of_ble_eq_true rfl)
    repeat' first | with_reducible apply wSeq | with_reducible apply wSkip | with_reducible apply wIf | with_reducible apply wAsI | with_reducible apply wRI | with_reducible apply wAst2 | with_reducible apply wB_e | (intro h; try simp only [Bool.and_eq_true, Bool.or_eq_true, Bool.not_eq_true', Bool.not_eq_false', Bool.and_eq_false_imp, Bool.or_eq_false_iff, decide_eq_true_eq, decide_eq_false_iff_not, Bool.not_true, Bool.not_false, Bool.true_eq_false, Bool.false_eq_true, Bool.not_not] at h) | with_reducible apply wN1 | with_reducible apply wN2 | with_reducible apply wN3 | with_reducible apply wN4 | with_reducible apply wN0 | with_reducible apply wE0 | with_reducible apply wXI | with_reducible apply wXB | with_reducible exact hW | with_reducible exact x10 | with_reducible exact eK | ((with_reducible apply eL); rfl) | ((with_reducible apply eLR); rfl) | with_reducible exact eAN | with_reducible apply eLt | with_reducible apply eGt | with_reducible apply eEq | with_reducible apply eOrB | with_reducible apply eNot | with_reducible apply eArr2 | with_reducible apply eAI | with_reducible apply eAR | with_reducible apply eCI | with_reducible apply eCZ | with_reducible apply wRc | with_reducible apply R_X_scene | with_reducible apply R_Scene_jobs | with_reducible apply R_Jobs_heldBack | with_reducible apply R_Jobs_promise | with_reducible exact C_X | with_reducible exact isScene_1 | with_reducible exact C_Scene isScene_1 | with_reducible exact S_Scene_jobs (by assumption) | with_reducible exact C_Jobs (S_Scene_jobs (by assumption)) | with_reducible exact N_Jobs_heldBack (by assumption) | with_reducible exact N_Jobs_promise (by assumption) | with_reducible exact Xc_isJob (by assumption) (by assumption) (by assumption) | with_reducible exact Int.toNat_natCast _ | with_reducible exact tn0 | with_reducible exact tn1 | with_reducible exact tn2 | with_reducible exact tn3 | with_reducible exact tn4 | with_reducible exact tn5 | with_reducible exact tn6 | with_reducible exact tn7 | with_reducible exact tn8 | with_reducible exact tn9 | with_reducible exact tn10 | with_reducible exact tn11 | with_reducible exact tn12 | with_reducible exact tn13 | with_reducible exact tn14 | with_reducible exact tn15 | with_reducible exact tn16 | with_reducible exact tnK0 | with_reducible exact tnK4 | with_reducible exact tnK8 | with_reducible exact tnK12 | with_reducible exact tnK16 | with_reducible exact tnK20 | with_reducible exact tnK24 | with_reducible exact tnK28 | with_reducible exact tnK32 | with_reducible exact tnJA | with_reducible exact tnA | with_reducible exact upR_s | ((with_reducible apply upR_a); (first | decide | omega)) | ((with_reducible apply upR_b); (first | decide | omega)) | ((with_reducible apply cpR_o); (first | decide | omega)) | with_reducible apply lt_pSet1 | with_reducible apply lt_kil | exact Nat.le_of_ble_eq_true rfl | with_reducible assumption | with_reducible exact rfl | omega | with_reducible apply wAnd | decide +kernel
    all_goals first | (exfalso; omega) | exact absurd trivial (by assumption) | exact absurd rfl (by assumption) | exact ⟨_, rfl, _, rfl, hnx⟩ | exact ⟨_, rfl, hnx⟩
end XS
