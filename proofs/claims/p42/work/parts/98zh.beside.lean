/-! ===== two jobs side by side ===== -/
theorem brN_add {l : List bR} {m : Nat} {f t acc x y : Int} (h1 : x < t) (h2 : f - x < y) (h0 : 0 ≤ acc) : brN (l ++ [(m, f, t, -1)]) acc x y = brN l acc x y ||| m := by
  refine Nat.eq_of_testBit_eq fun c => ?_
  have e1 := brN_test (l := l ++ [(m, f, t, -1)]) (acc := acc) (x := x) (y := y) (c := c)
  have e2 := brN_test (l := l) (acc := acc) (x := x) (y := y) (c := c)
  rw [Nat.testBit_or]
  have hC : brC (m, f, t, -1) acc x y = true := by
    unfold brC bR.t bR.f bR.a
    simp only [Bool.and_eq_true, Bool.or_eq_true, decide_eq_true_eq, Bool.not_eq_true', decide_eq_false_iff_not]
    omega
  apply Bool.eq_iff_iff.mpr
  rw [e1, Bool.or_eq_true, e2]
  constructor
  · rintro ⟨r, hr, h3, h4⟩
    rw [List.mem_append, List.mem_singleton] at hr
    rcases hr with hr | rfl
    · exact Or.inl ⟨r, hr, h3, h4⟩
    · exact Or.inr h4
  · rintro (⟨r, hr, h3, h4⟩ | h)
    · exact ⟨r, List.mem_append.mpr (Or.inl hr), h3, h4⟩
    · exact ⟨_, List.mem_append.mpr (Or.inr (List.mem_singleton.mpr rfl)), hC, h⟩
theorem bzX_swap {g : Nat → Int} {x y acc gA gB sA sB : Int} : bzX g x y acc gA gB sA sB = bzX g x y acc gA gB sB sA := by
  unfold bzX
  congr 1
  refine orTo_congr fun j hj => ?_
  unfold byJob
  refine orTo_congr fun a ha => ?_
  have hc : cProm g x y sA sB j a = cProm g x y sB sA j a := by
    unfold cProm
    cases decide (0 ≤ mAt g j 9) <;> cases decide ((j : Int) = sA) <;> cases decide ((j : Int) = sB) <;> rfl
  unfold byArm
  rw [hc]
/-- a gang of a job at once, when so much is taken already -/
def siF (g : Nat → Int) (j : Nat) (sA sB : Int) (own : Nat) : Option (Nat × (Nat → Int)) := gfit (mArms g j) (cut 0 (mArms g j) fun a => mAt g j (12 + a)) (cut 0 (mArms g j) fun a => bzX g (g 0) (g 0 + mAt g j (16 + a)) (mAt g j 0) (-1) (-1) sA sB ||| own) (mArms g j)
def siB (g : Nat → Int) (a b : Nat) (sA sB : Int) : Bool := match siF g a sA sB 0 with
  | some s => (siF g b sA sB s.1).isSome
  | none => false
theorem Bd_loadPromN {N : Nat} {G U : Nat → Nat → Int} {b s : Nat} {sA sB : Int} {g : Nat → Int} {l : List bR} {R : Option pV → pM → Prop} (hb : isBoard b) (hs : isScene s) (hd : s + 39 ≤ b) (hrow : rowOk g) (hJ : relJ G s g) (hA : relA G s g) (hQ : relQ G s g) (hpm : promTo g (g 1).toNat ≤ 4) (hsA : rg sA) (hsB : rg sB) (hbl : boardIs G b l) (hok : allOk l) (hN : N ≤ 28) (hlen : l.length ≤ N)
    (hR : ∀ G' l', frm b (b + 5) G G' → boardIs G' b l' → allOk l' → l'.length ≤ N + 16 → (∀ r, r ∈ l' ↔ r ∈ l ∨ isPr g sA sB r) → R none (zM G' U)) : WpF F_Board_loadPromises [pR b, pR s, pI (Int32.ofInt sA), pI (Int32.ofInt sB)] (zM G U) R := by
  have hsj := S_Scene_jobs hs
  have hsa := S_Scene_arms hs
  obtain ⟨w1, w2, w3, -, -, -, -, -, -, -, -, w12, -, -⟩ := id hrow
  unfold F_Board_loadPromises B_Board_loadPromises
  apply wBody (Nat.le_of_ble_eq_true rfl)
  repeat' first | with_reducible apply wSeq | with_reducible apply wSkip | with_reducible apply wIf | with_reducible apply wAsI | ((with_reducible apply wInc); rfl) | with_reducible apply wKil | with_reducible apply wRV | with_reducible apply wVd | with_reducible apply wB_e | (intro h; try simp only [Bool.and_eq_true, Bool.or_eq_true, Bool.not_eq_true', Bool.not_eq_false', Bool.and_eq_false_imp, Bool.or_eq_false_iff, decide_eq_true_eq, decide_eq_false_iff_not, Bool.not_true, Bool.not_false, Bool.true_eq_false, Bool.false_eq_true, Bool.not_not] at h) | with_reducible apply wN1 | with_reducible apply wN2 | with_reducible apply wN3 | with_reducible apply wN4 | with_reducible apply wN0 | with_reducible apply wE0 | with_reducible apply wXI | with_reducible apply wXB | with_reducible exact eK | ((with_reducible apply eL); rfl) | ((with_reducible apply eLR); rfl) | with_reducible exact eAN | with_reducible apply eLt | with_reducible apply eNe | with_reducible apply eAnd | with_reducible apply eArr2 | with_reducible apply eFld2 | with_reducible apply eAI | with_reducible apply eAR | with_reducible apply eCI | with_reducible apply eCZ | with_reducible apply wRc | with_reducible apply R_Scene_jobs | with_reducible apply R_Jobs_promise | with_reducible exact S_Scene_jobs (by assumption) | with_reducible exact C_Jobs (S_Scene_jobs (by assumption)) | with_reducible exact K_Jobs_size (by assumption) | with_reducible exact N_Jobs_promise (by assumption) | with_reducible exact C_Board (by assumption) | with_reducible exact Int.toNat_natCast _ | with_reducible exact tn0 | with_reducible exact tn1 | with_reducible exact tn2 | with_reducible exact tn3 | with_reducible exact tn4 | with_reducible exact tn5 | with_reducible exact tn6 | with_reducible exact tn7 | with_reducible exact tn8 | with_reducible exact tn9 | with_reducible exact tn10 | with_reducible exact tn11 | with_reducible exact tn12 | with_reducible exact tn13 | with_reducible exact tn14 | with_reducible exact tn15 | with_reducible exact tn16 | with_reducible exact tnK0 | with_reducible exact tnK4 | with_reducible exact tnK8 | with_reducible exact tnK12 | with_reducible exact tnK16 | with_reducible exact tnK20 | with_reducible exact tnK24 | with_reducible exact tnK28 | with_reducible exact tnK32 | with_reducible exact tnJA | with_reducible exact tnA | with_reducible exact upR_s | ((with_reducible apply upR_a); (first | decide | omega)) | ((with_reducible apply upR_b); (first | decide | omega)) | ((with_reducible apply cpR_o); (first | decide | omega)) | with_reducible apply lt_pSet1 | with_reducible apply lt_kil | exact Nat.le_of_ble_eq_true rfl | with_reducible assumption | with_reducible exact rfl | omega | with_reducible apply wAnd | decide +kernel
  refine wWh (fun j L σ => ∃ (G' : Nat → Nat → Int) (l' : List bR), L = [some (pR b), some (pR s), some (pI (Int32.ofInt sA)), some (pI (Int32.ofInt sB)), some (pI (Int32.ofInt (j : Int)))] ∧ σ = zM G' U ∧ frm b (b + 5) G G' ∧ boardIs G' b l' ∧ allOk l' ∧ (l'.length : Int) ≤ (N : Int) + 4 * promTo g j ∧ ∀ r, r ∈ l' ↔ r ∈ l ∨ ∃ i a : Nat, i < j ∧ a < mArms g i ∧ 0 ≤ mAt g i 9 ∧ ¬ (i : Int) = sA ∧ ¬ (i : Int) = sB ∧ r = prRow g i a) (g 1).toNat (by omega) ⟨G, l, rfl, rfl, frm_0, hbl, hok, by simp [promTo, sumTo]; omega, fun r => ⟨Or.inl, fun h => h.elim id fun ⟨c, a, hc, _⟩ => absurd hc (Nat.not_lt_zero c)⟩⟩ ?_
  rintro j _ _ hj ⟨G1, l', rfl, rfl, hf, hbl1, hok1, hlen1, hmem⟩
  have sf := scFr_frm hf (s := s) (by omega)
  have hJ1 := relJ_fr hJ sf
  have hA1 := relA_fr hA sf
  have hQ1 := relQ_fr hQ sf
  have e0 := hJ1.1
  rcases Nat.lt_or_ge j (g 1).toNat with hlt | hge
  · obtain ⟨e18, q18⟩ := hQ1 j hlt
    have hjo := w12 j hlt
    have em : mArms g j = (mAt g j 4).toNat := rfl
    have h4 := hjo.2.2.2.2.1
    have h9 := hjo.2.2.2.2.2.2.2.2.2.1
    have hps : promTo g (j + 1) = promTo g j + (if decide (0 ≤ mAt g j 9) = true then 1 else 0) := rfl
    have hple := promTo_le (g := g) (n := j + 1) (m := (g 1).toNat) (by omega)
    have hno : ∀ G2, frm b (b + 5) G G2 → boardIs G2 b l' → (0 ≤ mAt g j 9 → (j : Int) = sA ∨ (j : Int) = sB) → ∃ (G' : Nat → Nat → Int) (l2 : List bR), [some (pR b), some (pR s), some (pI (Int32.ofInt sA)), some (pI (Int32.ofInt sB)), some (pI (Int32.ofInt ((j + 1 : Nat) : Int)))] = [some (pR b), some (pR s), some (pI (Int32.ofInt sA)), some (pI (Int32.ofInt sB)), some (pI (Int32.ofInt ((j + 1 : Nat) : Int)))] ∧ zM G2 U = zM G' U ∧ frm b (b + 5) G G' ∧ boardIs G' b l2 ∧ allOk l2 ∧ (l2.length : Int) ≤ (N : Int) + 4 * promTo g (j + 1) ∧ ∀ r, r ∈ l2 ↔ r ∈ l ∨ ∃ i a : Nat, i < j + 1 ∧ a < mArms g i ∧ 0 ≤ mAt g i 9 ∧ ¬ (i : Int) = sA ∧ ¬ (i : Int) = sB ∧ r = prRow g i a := by
      intro G2 hf2 hbl2 hex
      refine ⟨G2, l', rfl, rfl, hf2, hbl2, hok1, by rw [hps]; split <;> omega, fun r => (hmem r).trans ⟨fun h => h.elim Or.inl fun ⟨i, a, h1, h2, h3, h4, h5, h6⟩ => Or.inr ⟨i, a, by omega, h2, h3, h4, h5, h6⟩, fun h => h.elim Or.inl fun ⟨i, a, y1, y2, y3, y4, y5, y6⟩ => Or.inr ⟨i, a, ?_, y2, y3, y4, y5, y6⟩⟩⟩
      by_cases e : i = j
      · subst e
        rcases hex y3 with h | h
        · exact absurd h y4
        · exact absurd h y5
      · omega
    generalize promTo g (j + 1) = z1 at *
    generalize promTo g j = z at *
    repeat' first | with_reducible apply wSeq | with_reducible apply wSkip | with_reducible apply wIf | with_reducible apply wAsI | ((with_reducible apply wInc); rfl) | with_reducible apply wKil | with_reducible apply wRV | with_reducible apply wVd | with_reducible apply wB_e | (intro h; try simp only [Bool.and_eq_true, Bool.or_eq_true, Bool.not_eq_true', Bool.not_eq_false', Bool.and_eq_false_imp, Bool.or_eq_false_iff, decide_eq_true_eq, decide_eq_false_iff_not, Bool.not_true, Bool.not_false, Bool.true_eq_false, Bool.false_eq_true, Bool.not_not] at h) | with_reducible apply wN1 | with_reducible apply wN2 | with_reducible apply wN3 | with_reducible apply wN4 | with_reducible apply wN0 | with_reducible apply wE0 | with_reducible apply wXI | with_reducible apply wXB | with_reducible exact eK | ((with_reducible apply eL); rfl) | ((with_reducible apply eLR); rfl) | with_reducible exact eAN | with_reducible apply eLt | with_reducible apply eNe | with_reducible apply eAnd | with_reducible apply eArr2 | with_reducible apply eFld2 | with_reducible apply eAI | with_reducible apply eAR | with_reducible apply eCI | with_reducible apply eCZ | with_reducible apply wRc | with_reducible apply R_Scene_jobs | with_reducible apply R_Jobs_promise | with_reducible exact S_Scene_jobs (by assumption) | with_reducible exact C_Jobs (S_Scene_jobs (by assumption)) | with_reducible exact K_Jobs_size (by assumption) | with_reducible exact N_Jobs_promise (by assumption) | with_reducible exact C_Board (by assumption) | with_reducible exact Int.toNat_natCast _ | with_reducible exact tn0 | with_reducible exact tn1 | with_reducible exact tn2 | with_reducible exact tn3 | with_reducible exact tn4 | with_reducible exact tn5 | with_reducible exact tn6 | with_reducible exact tn7 | with_reducible exact tn8 | with_reducible exact tn9 | with_reducible exact tn10 | with_reducible exact tn11 | with_reducible exact tn12 | with_reducible exact tn13 | with_reducible exact tn14 | with_reducible exact tn15 | with_reducible exact tn16 | with_reducible exact tnK0 | with_reducible exact tnK4 | with_reducible exact tnK8 | with_reducible exact tnK12 | with_reducible exact tnK16 | with_reducible exact tnK20 | with_reducible exact tnK24 | with_reducible exact tnK28 | with_reducible exact tnK32 | with_reducible exact tnJA | with_reducible exact tnA | with_reducible exact upR_s | ((with_reducible apply upR_a); (first | decide | omega)) | ((with_reducible apply upR_b); (first | decide | omega)) | ((with_reducible apply cpR_o); (first | decide | omega)) | with_reducible apply lt_pSet1 | with_reducible apply lt_kil | exact Nat.le_of_ble_eq_true rfl | with_reducible assumption | with_reducible exact rfl | omega | with_reducible apply wAnd | decide +kernel
    · have h90 : 0 ≤ mAt g j 9 := by omega
      rw [if_pos (by simpa using h90)] at hps
      have hpo := fun a (ha : a < mArms g j) => pr_ok hrow hlt ha h90
      refine Bd_addPromise (t := mAt g j 9) (p := fun a => mAt g j (28 + a)) hb hs hd hrow hJ1 hA1 hlt e18 (by omega) (fun a ha => ⟨q18 h90 a ha, by have := hpo a ha; omega, by have := hpo a ha; omega⟩) hbl1 hok1 (by omega) (fun G2 l2 hf2 hbl2 hok2 hlen2 hmem2 => ⟨rfl, ?_⟩)
      repeat' first | with_reducible apply wSeq | with_reducible apply wSkip | with_reducible apply wIf | with_reducible apply wAsI | ((with_reducible apply wInc); rfl) | with_reducible apply wKil | with_reducible apply wRV | with_reducible apply wVd | with_reducible apply wB_e | (intro h; try simp only [Bool.and_eq_true, Bool.or_eq_true, Bool.not_eq_true', Bool.not_eq_false', Bool.and_eq_false_imp, Bool.or_eq_false_iff, decide_eq_true_eq, decide_eq_false_iff_not, Bool.not_true, Bool.not_false, Bool.true_eq_false, Bool.false_eq_true, Bool.not_not] at h) | with_reducible apply wN1 | with_reducible apply wN2 | with_reducible apply wN3 | with_reducible apply wN4 | with_reducible apply wN0 | with_reducible apply wE0 | with_reducible apply wXI | with_reducible apply wXB | with_reducible exact eK | ((with_reducible apply eL); rfl) | ((with_reducible apply eLR); rfl) | with_reducible exact eAN | with_reducible apply eLt | with_reducible apply eNe | with_reducible apply eAnd | with_reducible apply eArr2 | with_reducible apply eFld2 | with_reducible apply eAI | with_reducible apply eAR | with_reducible apply eCI | with_reducible apply eCZ | with_reducible apply wRc | with_reducible apply R_Scene_jobs | with_reducible apply R_Jobs_promise | with_reducible exact S_Scene_jobs (by assumption) | with_reducible exact C_Jobs (S_Scene_jobs (by assumption)) | with_reducible exact K_Jobs_size (by assumption) | with_reducible exact N_Jobs_promise (by assumption) | with_reducible exact C_Board (by assumption) | with_reducible exact Int.toNat_natCast _ | with_reducible exact tn0 | with_reducible exact tn1 | with_reducible exact tn2 | with_reducible exact tn3 | with_reducible exact tn4 | with_reducible exact tn5 | with_reducible exact tn6 | with_reducible exact tn7 | with_reducible exact tn8 | with_reducible exact tn9 | with_reducible exact tn10 | with_reducible exact tn11 | with_reducible exact tn12 | with_reducible exact tn13 | with_reducible exact tn14 | with_reducible exact tn15 | with_reducible exact tn16 | with_reducible exact tnK0 | with_reducible exact tnK4 | with_reducible exact tnK8 | with_reducible exact tnK12 | with_reducible exact tnK16 | with_reducible exact tnK20 | with_reducible exact tnK24 | with_reducible exact tnK28 | with_reducible exact tnK32 | with_reducible exact tnJA | with_reducible exact tnA | with_reducible exact upR_s | ((with_reducible apply upR_a); (first | decide | omega)) | ((with_reducible apply upR_b); (first | decide | omega)) | ((with_reducible apply cpR_o); (first | decide | omega)) | with_reducible apply lt_pSet1 | with_reducible apply lt_kil | exact Nat.le_of_ble_eq_true rfl | with_reducible assumption | with_reducible exact rfl | omega | with_reducible apply wAnd | decide +kernel
      refine ⟨G2, l2, rfl, rfl, frm_t hf hf2, hbl2, hok2, by omega, fun r => ?_⟩
      rw [hmem2 r, hmem r]
      constructor
      · rintro ((h | ⟨i, a, h1, h2, h3, h4, h5, h6⟩) | ⟨a, ha, rfl⟩)
        · exact Or.inl h
        · exact Or.inr ⟨i, a, by omega, h2, h3, h4, h5, h6⟩
        · exact Or.inr ⟨j, a, by omega, ha, h90, by omega, by omega, rfl⟩
      · rintro (h | ⟨i, a, h1, h2, h3, h4, h5, h6⟩)
        · exact Or.inl (Or.inl h)
        · by_cases e : i = j
          · subst e; exact Or.inr ⟨a, h2, h6⟩
          · exact Or.inl (Or.inr ⟨i, a, by omega, h2, h3, h4, h5, h6⟩)
    · exact hno G1 hf hbl1 (by omega)
  · have e : j = (g 1).toNat := by omega
    repeat' first | with_reducible apply wSeq | with_reducible apply wSkip | with_reducible apply wIf | with_reducible apply wAsI | ((with_reducible apply wInc); rfl) | with_reducible apply wKil | with_reducible apply wRV | with_reducible apply wVd | with_reducible apply wB_e | (intro h; try simp only [Bool.and_eq_true, Bool.or_eq_true, Bool.not_eq_true', Bool.not_eq_false', Bool.and_eq_false_imp, Bool.or_eq_false_iff, decide_eq_true_eq, decide_eq_false_iff_not, Bool.not_true, Bool.not_false, Bool.true_eq_false, Bool.false_eq_true, Bool.not_not] at h) | with_reducible apply wN1 | with_reducible apply wN2 | with_reducible apply wN3 | with_reducible apply wN4 | with_reducible apply wN0 | with_reducible apply wE0 | with_reducible apply wXI | with_reducible apply wXB | with_reducible exact eK | ((with_reducible apply eL); rfl) | ((with_reducible apply eLR); rfl) | with_reducible exact eAN | with_reducible apply eLt | with_reducible apply eNe | with_reducible apply eAnd | with_reducible apply eArr2 | with_reducible apply eFld2 | with_reducible apply eAI | with_reducible apply eAR | with_reducible apply eCI | with_reducible apply eCZ | with_reducible apply wRc | with_reducible apply R_Scene_jobs | with_reducible apply R_Jobs_promise | with_reducible exact S_Scene_jobs (by assumption) | with_reducible exact C_Jobs (S_Scene_jobs (by assumption)) | with_reducible exact K_Jobs_size (by assumption) | with_reducible exact N_Jobs_promise (by assumption) | with_reducible exact C_Board (by assumption) | with_reducible exact Int.toNat_natCast _ | with_reducible exact tn0 | with_reducible exact tn1 | with_reducible exact tn2 | with_reducible exact tn3 | with_reducible exact tn4 | with_reducible exact tn5 | with_reducible exact tn6 | with_reducible exact tn7 | with_reducible exact tn8 | with_reducible exact tn9 | with_reducible exact tn10 | with_reducible exact tn11 | with_reducible exact tn12 | with_reducible exact tn13 | with_reducible exact tn14 | with_reducible exact tn15 | with_reducible exact tn16 | with_reducible exact tnK0 | with_reducible exact tnK4 | with_reducible exact tnK8 | with_reducible exact tnK12 | with_reducible exact tnK16 | with_reducible exact tnK20 | with_reducible exact tnK24 | with_reducible exact tnK28 | with_reducible exact tnK32 | with_reducible exact tnJA | with_reducible exact tnA | with_reducible exact upR_s | ((with_reducible apply upR_a); (first | decide | omega)) | ((with_reducible apply upR_b); (first | decide | omega)) | ((with_reducible apply cpR_o); (first | decide | omega)) | with_reducible apply lt_pSet1 | with_reducible apply lt_kil | exact Nat.le_of_ble_eq_true rfl | with_reducible assumption | with_reducible exact rfl | omega | with_reducible apply wAnd | decide +kernel
    rw [e] at hlen1 hmem
    refine hR G1 l' hf hbl1 hok1 (by omega) fun r => (hmem r).trans ⟨fun h => h.elim Or.inl fun ⟨i, a, h1, h2, h3, h4, h5, h6⟩ => Or.inr ⟨i, a, h1, h2, h3, h4, h5, h6⟩, fun h => h.elim Or.inl fun ⟨i, a, h1, h2, h3, h4, h5, h6⟩ => Or.inr ⟨i, a, h1, h2, h3, h4, h5, h6⟩⟩
set_option maxHeartbeats 1000000 in
theorem Th_loadN {G U : Nat → Nat → Int} {e : Nat} {sA sB : Int} {g u : Nat → Int} {R : Option pV → pM → Prop} (hI : rowI g) (hP : rowP g) (hS : scR false 0 e G U 1 g u) (hsA : rg sA) (hsB : rg sB) (hR : ∀ G' l, frm 156 161 G G' → boardIs G' 156 l → allOk l → (l.length : Int) + idleF g ≤ 44 → (∀ r, r ∈ l ↔ isRow g (-1) (-1) sA sB r) → R none (zM G' U)) : WpF F_Thoughts_loadWithout [pR 97, pR 1, pI (Int32.ofInt sA), pI (Int32.ofInt sB)] (zM G U) R := by
  have ib := ib156
  have hrow := hI.1
  have rm1 : rg (-1) := by unfold rg; omega
  have hidr : 0 ≤ idleF g ∧ idleF g ≤ 1 * ((16 : Nat) : Int) := sumTo_rg (fun i _ => by (try dsimp only); split <;> omega)
  have hsr := spansF_rg (g := g)
  unfold F_Thoughts_loadWithout B_Thoughts_loadWithout
  apply wBody (Nat.le_of_ble_eq_true rfl)
  repeat' first | with_reducible apply wB_and | with_reducible apply wB_or | with_reducible apply wB_not | with_reducible apply wI_ite | with_reducible apply wI_add | with_reducible apply wI_sub | with_reducible apply wSeq | with_reducible apply wRV | with_reducible apply wVd | with_reducible apply wAsIw | with_reducible apply wAsZw | with_reducible apply wRIw | with_reducible apply wRZw | with_reducible apply wB_e | with_reducible apply wI_e | (intro h; try simp only [Bool.and_eq_true, Bool.or_eq_true, Bool.not_eq_true', Bool.not_eq_false', Bool.and_eq_false_imp, Bool.or_eq_false_iff, decide_eq_true_eq, decide_eq_false_iff_not, Bool.not_true, Bool.not_false, Bool.true_eq_false, Bool.false_eq_true, Bool.not_not] at h) | with_reducible apply wN1 | with_reducible apply wN2 | with_reducible apply wN3 | with_reducible apply wN4 | with_reducible apply wN0 | with_reducible apply wE0 | with_reducible apply wXI | with_reducible apply wXB | with_reducible exact eK | ((with_reducible apply eL); rfl) | ((with_reducible apply eLR); rfl) | with_reducible exact eAN | with_reducible apply eAI | with_reducible apply eAR | with_reducible apply eCI | with_reducible apply eCZ | with_reducible apply wRc | with_reducible apply R_Thoughts_board | with_reducible exact C_Board (by assumption) | with_reducible exact isBoard_156 | with_reducible exact C_Board isBoard_156 | with_reducible exact upR_s | ((with_reducible apply upR_a); (first | decide | omega)) | ((with_reducible apply upR_b); (first | decide | omega)) | ((with_reducible apply cpR_o); (first | decide | omega)) | with_reducible apply lt_pSet1 | with_reducible apply lt_kil | exact Nat.le_of_ble_eq_true rfl | with_reducible assumption | with_reducible exact rfl | omega | with_reducible apply wAnd | decide +kernel
  refine Bd_loadHeld (gA := -1) (gB := -1) ib156 is1 (by omega) hrow hI.2.1 hS.1.2.1 hS.1.2.2.1 hS.1.2.2.2.1 hS.1.2.2.2.2.1 hS.1.2.2.2.2.2.1 rm1 rm1 (fun G1 l f1 b1 o1 n1 m1 => ⟨rfl, ?_⟩)
  have fr1 : scFr 1 G G1 := scFr_frm f1 (by omega)
  repeat' first | with_reducible apply wB_and | with_reducible apply wB_or | with_reducible apply wB_not | with_reducible apply wI_ite | with_reducible apply wI_add | with_reducible apply wI_sub | with_reducible apply wSeq | with_reducible apply wRV | with_reducible apply wVd | with_reducible apply wAsIw | with_reducible apply wAsZw | with_reducible apply wRIw | with_reducible apply wRZw | with_reducible apply wB_e | with_reducible apply wI_e | (intro h; try simp only [Bool.and_eq_true, Bool.or_eq_true, Bool.not_eq_true', Bool.not_eq_false', Bool.and_eq_false_imp, Bool.or_eq_false_iff, decide_eq_true_eq, decide_eq_false_iff_not, Bool.not_true, Bool.not_false, Bool.true_eq_false, Bool.false_eq_true, Bool.not_not] at h) | with_reducible apply wN1 | with_reducible apply wN2 | with_reducible apply wN3 | with_reducible apply wN4 | with_reducible apply wN0 | with_reducible apply wE0 | with_reducible apply wXI | with_reducible apply wXB | with_reducible exact eK | ((with_reducible apply eL); rfl) | ((with_reducible apply eLR); rfl) | with_reducible exact eAN | with_reducible apply eAI | with_reducible apply eAR | with_reducible apply eCI | with_reducible apply eCZ | with_reducible apply wRc | with_reducible apply R_Thoughts_board | with_reducible exact C_Board (by assumption) | with_reducible exact isBoard_156 | with_reducible exact C_Board isBoard_156 | with_reducible exact upR_s | ((with_reducible apply upR_a); (first | decide | omega)) | ((with_reducible apply upR_b); (first | decide | omega)) | ((with_reducible apply cpR_o); (first | decide | omega)) | with_reducible apply lt_pSet1 | with_reducible apply lt_kil | exact Nat.le_of_ble_eq_true rfl | with_reducible assumption | with_reducible exact rfl | omega | with_reducible apply wAnd | decide +kernel
  refine Bd_loadPromN (N := l.length) ib156 is1 (by omega) hrow (relJ_fr hS.1.2.2.1 fr1) (relA_fr hS.1.2.2.2.1 fr1) (relQ_fr hS.2 fr1) hP.2.1 hsA hsB b1 o1 (by omega) (Nat.le_refl _) (fun G2 l2 f2 b2 o2 n2 m2 => ⟨rfl, ?_⟩)
  repeat' first | with_reducible apply wB_and | with_reducible apply wB_or | with_reducible apply wB_not | with_reducible apply wI_ite | with_reducible apply wI_add | with_reducible apply wI_sub | with_reducible apply wSeq | with_reducible apply wRV | with_reducible apply wVd | with_reducible apply wAsIw | with_reducible apply wAsZw | with_reducible apply wRIw | with_reducible apply wRZw | with_reducible apply wB_e | with_reducible apply wI_e | (intro h; try simp only [Bool.and_eq_true, Bool.or_eq_true, Bool.not_eq_true', Bool.not_eq_false', Bool.and_eq_false_imp, Bool.or_eq_false_iff, decide_eq_true_eq, decide_eq_false_iff_not, Bool.not_true, Bool.not_false, Bool.true_eq_false, Bool.false_eq_true, Bool.not_not] at h) | with_reducible apply wN1 | with_reducible apply wN2 | with_reducible apply wN3 | with_reducible apply wN4 | with_reducible apply wN0 | with_reducible apply wE0 | with_reducible apply wXI | with_reducible apply wXB | with_reducible exact eK | ((with_reducible apply eL); rfl) | ((with_reducible apply eLR); rfl) | with_reducible exact eAN | with_reducible apply eAI | with_reducible apply eAR | with_reducible apply eCI | with_reducible apply eCZ | with_reducible apply wRc | with_reducible apply R_Thoughts_board | with_reducible exact C_Board (by assumption) | with_reducible exact isBoard_156 | with_reducible exact C_Board isBoard_156 | with_reducible exact upR_s | ((with_reducible apply upR_a); (first | decide | omega)) | ((with_reducible apply upR_b); (first | decide | omega)) | ((with_reducible apply cpR_o); (first | decide | omega)) | with_reducible apply lt_pSet1 | with_reducible apply lt_kil | exact Nat.le_of_ble_eq_true rfl | with_reducible assumption | with_reducible exact rfl | omega | with_reducible apply wAnd | decide +kernel
  refine hR G2 l2 (frm_t f1 f2) b2 o2 (by omega) (fun r => ?_)
  rw [m2 r, m1 r]
  unfold isRow
  exact or_assoc
theorem ho_bX {g : Nat → Int} {c j a : Nat} {y acc sA sB : Int} (hrow : rowOk g) (h : hoC g c j a) : (bzX g (g 0) y acc (-1) (-1) sA sB).testBit c = true := by
  obtain ⟨h1, h2, h3, h4⟩ := h
  obtain ⟨-, -, -, -, -, -, -, -, -, -, -, w12, -, -⟩ := id hrow
  have hao := (w12 j h1).2.2.2.2.2.2.2.2.2.2.2.2.2.2.2 a h2
  obtain ⟨e5, e0⟩ := holds_1 h3
  have q5 := hao.2.2.2.2.1 e5
  unfold bzX
  rw [Nat.testBit_or, Bool.or_eq_true, orTo_test]
  left
  refine ⟨j, h1, byJob_test.mpr ⟨a, h2, Or.inl ⟨?_, h4⟩⟩⟩
  unfold cHeld
  rw [h3]
  simp only [Bool.and_eq_true, decide_eq_true_eq, Bool.not_eq_true', decide_eq_false_iff_not]
  exact ⟨⟨⟨trivial, by omega⟩, by omega⟩, by omega⟩
theorem sumTo_ge {f : Nat → Int} : ∀ {n : Nat}, (∀ i, i < n → 1 ≤ f i) → (n : Int) ≤ sumTo f n
  | 0, _ => Int.le_refl _
  | n + 1, h => by
    have ih := sumTo_ge (f := f) (n := n) fun i hi => h i (by omega)
    have := h n (by omega)
    rw [sumTo]
    omega
theorem fit_idleX {g : Nat → Int} {j own : Nat} {sA sB : Int} {s : Nat × (Nat → Int)} (hrow : rowOk g) (hj : j < (g 1).toNat) (h : siF g j sA sB own = some s) : 1 ≤ idleF g := by
  obtain ⟨-, -, -, -, -, -, -, -, -, -, -, w12, -, -⟩ := id hrow
  have hjo := w12 j hj
  have h4 := jo_4 hjo
  have hao := hjo.2.2.2.2.2.2.2.2.2.2.2.2.2.2.2
  have hw : ∀ a, a < mArms g j → 0 ≤ (cut 0 (mArms g j) fun a => mAt g j (12 + a)) a := fun a ha => by
    rw [cut_at ha]
    have := (hao a ha).1
    omega
  unfold siF at h
  have h1 := gfit_all hw h
  have e1 : sumTo (cut 0 (mArms g j) fun a => mAt g j (12 + a)) (mArms g j) = colsF g j := by
    unfold colsF
    exact sumTo_congr fun a ha => cut_at ha
  have h2 : ∀ c j' a', s.1.testBit c = true → ¬ hoC g c j' a' := by
    intro c j' a' hc hx
    obtain ⟨a, ha, hb⟩ := (gfit_own (c := c) _ (Nat.le_refl _) s h).mp hc
    have hal := plW_bit _ (Nat.le_refl _) ha
    have := (gfit_free hw (c := c) _ (Nat.le_refl _) s h a ha hb).1
    rw [cut_at hal, Nat.testBit_or, ho_bX hrow hx] at this
    cases this
  have h3 : colsF g j ≤ idleF g := by
    rw [← e1, ← h1]
    refine sumTo_le fun c _ => ?_
    try dsimp only
    by_cases hc : s.1.testBit c = true
    · rw [if_pos hc, if_pos (by rw [decide_eq_true_eq]; exact hold_none.mpr fun j' a' => h2 c j' a' hc)]
      exact Int.le_refl _
    · rw [if_neg hc]
      split <;> omega
  have h5 : ((mArms g j : Nat) : Int) ≤ colsF g j := sumTo_ge fun a ha => (hao a ha).1.1
  omega
