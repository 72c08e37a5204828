/-! ===== scenes: what each relation reads ===== -/
section RR
variable {G G' U U' : Nat → Nat → Int} {s h e : Nat} {g g' u u' : Nat → Int}
theorem relB_r (hh : relB G U s g u) (h1 : G' s 1 = G s 1) (hf : ∀ k, s + 1 ≤ k → k ≤ s + 4 → G' k = G k) (hu : U' (s + 3) = U (s + 3)) : relB G' U' s g u := by
  unfold relB at *
  rw [h1, hf (s + 1) (by omega) (by omega), hf (s + 2) (by omega) (by omega), hf (s + 4) (by omega) (by omega), hu]
  exact hh
theorem relJ_r (hh : relJ G s g) (hf : ∀ k, s + 5 ≤ k → k ≤ s + 16 → G' k = G k) : relJ G' s g := by
  unfold relJ at *
  rw [hf (s + 5) (by omega) (by omega), hf (s + 6) (by omega) (by omega), hf (s + 7) (by omega) (by omega), hf (s + 8) (by omega) (by omega), hf (s + 9) (by omega) (by omega), hf (s + 10) (by omega) (by omega), hf (s + 11) (by omega) (by omega), hf (s + 12) (by omega) (by omega), hf (s + 13) (by omega) (by omega), hf (s + 14) (by omega) (by omega), hf (s + 15) (by omega) (by omega), hf (s + 16) (by omega) (by omega)]
  exact hh
theorem relA_r (hh : relA G s g) (hf : ∀ k, s + 20 ≤ k → k ≤ s + 23 → G' k = G k) : relA G' s g := by
  unfold relA at *
  rw [hf (s + 20) (by omega) (by omega), hf (s + 21) (by omega) (by omega), hf (s + 22) (by omega) (by omega), hf (s + 23) (by omega) (by omega)]
  exact hh
theorem relQ_r (hh : relQ G s g) (h1 : G' (s + 18) = G (s + 18)) (h2 : G' (s + 24) = G (s + 24)) : relQ G' s g := by
  unfold relQ at *
  rw [h1, h2]
  exact hh
theorem relF_r (hh : relF G s g) (h1 : G' (s + 17) = G (s + 17)) : relF G' s g := by
  unfold relF at *
  rw [h1]
  exact hh
theorem relO_r (hh : relO G s g) (h1 : G' (s + 25) = G (s + 25)) : relO G' s g := by
  unfold relO at *
  rw [h1]
  exact hh
theorem relSf_r {f : Nat → Nat} (hh : relSf G s g f) (hf : ∀ k, s + 26 ≤ k → k ≤ s + 31 → G' k = G k) : relSf G' s g f := by
  unfold relSf at *
  rw [hf (s + 26) (by omega) (by omega), hf (s + 27) (by omega) (by omega), hf (s + 28) (by omega) (by omega), hf (s + 29) (by omega) (by omega), hf (s + 30) (by omega) (by omega), hf (s + 31) (by omega) (by omega)]
  exact hh
theorem relS_r (hh : relS G s g) (hf : ∀ k, s + 26 ≤ k → k ≤ s + 31 → G' k = G k) : relS G' s g := hh.elim fun f hh => ⟨f, relSf_r hh hf⟩
theorem relT_r (hh : relT G s h g) (h1 : G' (s + 32) 0 = G (s + 32) 0) (h2 : G' (s + 34) = G (s + 34)) : relT G' s h g := by
  unfold relT at *
  rw [h1, h2]
  exact hh
theorem relE_r (hh : relE G s e g) (hf : ∀ k, s + 35 ≤ k → k ≤ s + 37 → G' k = G k) : relE G' s e g := by
  unfold relE at *
  rw [hf (s + 35) (by omega) (by omega), hf (s + 36) (by omega) (by omega), hf (s + 37) (by omega) (by omega)]
  exact hh
theorem relC_r (hh : relC G s g) (h1 : G' (s + 38) = G (s + 38)) : relC G' s g := by
  unfold relC at *
  rw [h1]
  exact hh
/-! the row that they speak of -/
theorem relB_g (hh : relB G U s g u) (h0 : g' 0 = g 0) (h2 : ∀ b, 2 ≤ b → b < 24 → b ≠ 5 → b ≠ 6 → b ≠ 7 → g' b = g b) (hu : ∀ a, a < 8 → u' a = u a) : relB G U s g' u' := by
  obtain ⟨a, b, c, d, f⟩ := hh
  exact ⟨by rw [h0]; exact a, fun x hx => by rw [h2 (8 + x) (by omega) (by omega) (by omega) (by omega) (by omega)]; exact b x hx, fun x hx => by rw [h2 (16 + x) (by omega) (by omega) (by omega) (by omega) (by omega)]; exact c x hx, fun x hx => by rw [hu x hx]; exact d x hx, fun x hx => by rw [h2 (2 + x) (by omega) (by omega) (by omega) (by omega) (by omega)]; exact f x hx⟩
theorem colsF_g {j : Nat} (h4 : mAt g' j 4 = mAt g j 4) (h5 : mArms g j ≤ 4) (he : ∀ w, 12 ≤ w → w < 16 → mAt g' j w = mAt g j w) : colsF g' j = colsF g j := by
  unfold colsF
  have em : mArms g' j = mArms g j := by unfold mArms; rw [h4]
  rw [em]
  exact sumTo_congr fun a ha => he _ (by omega) (by omega)
theorem relJ_g (hh : relJ G s g) (h1 : g' 1 = g 1) (h4 : ∀ j, j < (g 1).toNat → mArms g j ≤ 4) (he : ∀ j w, j < (g 1).toNat → w < 16 → w ≠ 8 → w ≠ 9 → mAt g' j w = mAt g j w) : relJ G s g' := by
  unfold relJ at *
  rw [h1]
  refine ⟨hh.1, fun j hj => ?_⟩
  rw [he j 5 hj (by omega) (by omega) (by omega), he j 0 hj (by omega) (by omega) (by omega), he j 1 hj (by omega) (by omega) (by omega), he j 2 hj (by omega) (by omega) (by omega), he j 3 hj (by omega) (by omega) (by omega), he j 4 hj (by omega) (by omega) (by omega), he j 10 hj (by omega) (by omega) (by omega), he j 11 hj (by omega) (by omega) (by omega), he j 6 hj (by omega) (by omega) (by omega), he j 7 hj (by omega) (by omega) (by omega), colsF_g (he j 4 hj (by omega) (by omega) (by omega)) (h4 j hj) (fun w h1 h2 => he j w hj (by omega) (by omega) (by omega))]
  exact hh.2 j hj
theorem relA_g (hh : relA G s g) (h1 : g' 1 = g 1) (h4 : ∀ j, j < (g 1).toNat → mArms g j ≤ 4 ∧ mAt g' j 4 = mAt g j 4) (he : ∀ j w, j < (g 1).toNat → 12 ≤ w → w < 28 → mAt g' j w = mAt g j w) : relA G s g' := by
  intro j a hj ha
  rw [h1] at hj
  have em : mArms g' j = mArms g j := by unfold mArms; rw [(h4 j hj).2]
  have := (h4 j hj).1
  rw [em] at ha
  rw [he j (12 + a) hj (by omega) (by omega), he j (16 + a) hj (by omega) (by omega), he j (20 + a) hj (by omega) (by omega), he j (24 + a) hj (by omega) (by omega)]
  exact hh j a hj ha
theorem relO_g (hh : relO G s g) (he : ∀ c j a, hoC g' c j a ↔ hoC g c j a) : relO G s g' := fun c hc => ⟨fun j a h => (hh c hc).1 j a ((he c j a).mp h), fun h => (hh c hc).2 fun j a h2 => h j a ((he c j a).mpr h2)⟩
theorem spansF_g (he : ∀ b, 24 ≤ b → b < 96 → g' b = g b) : spansF g' = spansF g := by
  unfold spansF
  exact sumTo_congr fun s hs => by
    have : mSpan g' s 0 = mSpan g s 0 := he _ (by omega) (by omega)
    rw [this]
theorem relS_g (hh : relS G s g) (h5 : g' 5 = g 5) (he : ∀ b, 24 ≤ b → b < 96 → g' b = g b) : relS G s g' := by
  obtain ⟨f, hf⟩ := hh
  refine ⟨f, ?_⟩
  have hm : ∀ i w, i < 12 → w < 6 → mSpan g' i w = mSpan g i w := fun i w hi hw => he _ (by omega) (by omega)
  unfold relSf at *
  rw [spansF_g he, h5]
  obtain ⟨a, b, c, d, f2⟩ := hf
  refine ⟨a, b, fun i hi => ?_, fun k hk h0 => d k hk (by rw [hm k 0 hk (by omega)] at h0; exact h0), fun i k hik hk => ?_⟩
  · have := c i hi
    have h12 := this.1
    have eb : mSpanBits g' (f i) = mSpanBits g (f i) := by unfold mSpanBits; rw [hm _ 1 h12 (by omega), hm _ 2 h12 (by omega)]
    rw [hm _ 0 h12 (by omega), hm _ 3 h12 (by omega), hm _ 4 h12 (by omega), hm _ 5 h12 (by omega), eb]
    exact this
  · have h1 := (c i (by omega)).1
    have h2 := (c k hk).1
    rw [hm _ 0 h1 (by omega), hm _ 0 h2 (by omega)]
    exact f2 i k hik hk
theorem relT_g (hh : relT G s h g) (h6 : g' 6 = g 6) (h6b : g 6 ≤ 80) (he : ∀ b, 2656 ≤ b → b < 2736 → g' b = g b) : relT G s h g' := by
  unfold relT at *
  rw [h6]
  exact ⟨hh.1, hh.2.1, fun i hi => by rw [he _ (by omega) (by omega)]; exact hh.2.2 i hi⟩
theorem relE_g (hh : relE G s e g) (h7 : g' 7 = g 7) (he : ∀ b, 2736 ≤ b → b < 2916 → g' b = g b) : relE G s e g' := by
  unfold relE at *
  rw [h7]
  exact ⟨hh.1, fun i hi => by rw [he _ (by omega) (by omega), he _ (by omega) (by omega), he _ (by omega) (by omega)]; exact hh.2 i hi⟩
theorem relC_g (hh : relC G s g) (he : ∀ b, 2916 ≤ b → b < 3940 → g' b = g b) : relC G s g' := fun i hi => by rw [he _ (by omega) (by omega)]; exact hh i hi
theorem relF_g (hh : relF G s g) (h1 : g' 1 = g 1) (he : ∀ j, j < (g 1).toNat → mAt g' j 8 = mAt g j 8) : relF G s g' := fun j hj => by
  rw [h1] at hj
  rw [he j hj]
  exact hh j hj
theorem relL_g (hh : relL U s u) (he : ∀ k, 8 ≤ k → k < 16 → u' k = u k) : relL U s u' := fun k hk => by rw [he _ (by omega) (by omega)]; exact hh k hk
theorem relQ_g (hh : relQ G s g) (h1 : g' 1 = g 1) (h4 : ∀ j, j < (g 1).toNat → mArms g j ≤ 4 ∧ mAt g' j 4 = mAt g j 4) (he : ∀ j w, j < (g 1).toNat → w = 9 ∨ (28 ≤ w ∧ w < 32) → mAt g' j w = mAt g j w) : relQ G s g' := by
  intro j hj
  rw [h1] at hj
  have em : mArms g' j = mArms g j := by unfold mArms; rw [(h4 j hj).2]
  have := (h4 j hj).1
  rw [he j 9 hj (Or.inl rfl), em]
  obtain ⟨q1, q2⟩ := hh j hj
  exact ⟨q1, fun h9 a ha => by rw [he j (28 + a) hj (by omega)]; exact q2 h9 a ha⟩
end RR
/-- the book's two counts after e events ever; the memory behind one more of them -/
def evE (r : Nat → Int) (e : Nat) : Prop := r 3 = ((min e 60 : Nat) : Int) ∧ r 4 = ((e % 60 : Nat) : Int)
def noteZ (G : Nat → Nat → Int) (o e : Nat) : Nat → Nat → Int := upZ (upZ G o 4 (((e + 1) % 60 : Nat) : Int)) o 3 ((min (e + 1) 60 : Nat) : Int)
/-- a scene of the class: all but the promises; with them -/
def scN (th : Bool) (h e : Nat) (G U : Nat → Nat → Int) (s : Nat) (g u : Nat → Int) : Prop := G s 0 = (if th = true then 1 else 0) ∧ relB G U s g u ∧ relJ G s g ∧ relA G s g ∧ relO G s g ∧ relS G s g ∧ relT G s h g ∧ evE (G (s + 32)) e ∧ (th = false → relK G U s e g u)
def scR (th : Bool) (h e : Nat) (G U : Nat → Nat → Int) (s : Nat) (g u : Nat → Int) : Prop := scN th h e G U s g u ∧ relQ G s g
theorem scN_fr {th : Bool} {h e s : Nat} {G G' U U' : Nat → Nat → Int} {g u : Nat → Int} (hh : scN th h e G U s g u) (hf : scFr s G G') (h3 : U' (s + 3) = U (s + 3)) (h33 : U' (s + 33) = U (s + 33)) : scN th h e G' U' s g u := by
  obtain ⟨a, b, c, d, f, k, l, m, n⟩ := hh
  exact ⟨by rw [hf s (by omega) (by omega)]; exact a, relB_fr b hf h3, relJ_fr c hf, relA_fr d hf, relO_fr f hf, relS_fr k hf, relT_fr l hf, by rw [hf (s + 32) (by omega) (by omega)]; exact m, fun ht => relK_fr (n ht) hf h33⟩
theorem scR_fr {th : Bool} {h e s : Nat} {G G' U U' : Nat → Nat → Int} {g u : Nat → Int} (hh : scR th h e G U s g u) (hf : scFr s G G') (h3 : U' (s + 3) = U (s + 3)) (h33 : U' (s + 33) = U (s + 33)) : scR th h e G' U' s g u := ⟨scN_fr hh.1 hf h3 h33, relQ_fr hh.2 hf⟩
/-! ===== the book: events, who started ===== -/
theorem noteZ_ne {G : Nat → Nat → Int} {o e x : Nat} (h : x ≠ o) : noteZ G o e x = G x := by
  unfold noteZ upZ
  funext y
  rw [if_neg fun q => h q.1, if_neg fun q => h q.1]
theorem noteR_a {G : Nat → Nat → Int} {o e a b : Nat} {w : Int} (h : a ≠ o) (h2 : G a b = w) : noteZ G o e a b = w := by
  rw [noteZ_ne h]
  exact h2
theorem noteR_b {G : Nat → Nat → Int} {o e b : Nat} {w : Int} (h : b ≠ 3 ∧ b ≠ 4) (h2 : G o b = w) : noteZ G o e o b = w := by
  simp [noteZ, upZ, h.1, h.2, h2]
theorem noteZ_ev {G : Nat → Nat → Int} {o e : Nat} : evE (noteZ G o e o) (e + 1) := by simp [evE, noteZ, upZ]
set_option maxHeartbeats 1000000 in
theorem Bk_note {G U : Nat → Nat → Int} {o e : Nat} {t k j : Int} (ho : isBook o) (he : evE (G o) e) (hlt : e < 2000000000) : F_Book_note [pR o, pI (Int32.ofInt t), pI (Int32.ofInt k), pI (Int32.ofInt j)] (zM G U) = some (none, zM (noteZ (upZ (upZ (upZ G (o + 3) (e % 60) t) (o + 4) (e % 60) k) (o + 5) (e % 60) j) o e) U) := by
  obtain ⟨h3, h4⟩ := he
  have n1 : (((e + 1) % 60 : Nat) : Int) = (((e % 60 : Nat) : Int) + 1) % 60 := by omega
  have n2 : ((min (e + 1) 60 : Nat) : Int) = min (((min e 60 : Nat) : Int) + 1) 60 := by omega
  unfold noteZ
  rw [n1, n2]
  have hm : e % 60 < 60 := Nat.mod_lt _ (by omega)
  have hq : min e 60 ≤ 60 := Nat.min_le_right _ _
  generalize e % 60 = m at *
  generalize min e 60 = q at *
  clear n1 n2
  apply wF_to
  unfold F_Book_note B_Book_note
  apply wBody (Nat.le_of_ble_eq_true rfl)
  repeat' first | with_reducible apply wSeq | with_reducible apply wRV | with_reducible apply wPut | with_reducible apply wAst2 | with_reducible apply wB_e | (intro h; try simp only [Bool.and_eq_true, Bool.or_eq_true, Bool.not_eq_true', Bool.not_eq_false', Bool.and_eq_false_imp, Bool.or_eq_false_iff, decide_eq_true_eq, decide_eq_false_iff_not, Bool.not_true, Bool.not_false, Bool.true_eq_false, Bool.false_eq_true, Bool.not_not] at h) | with_reducible apply wN1 | with_reducible apply wN2 | with_reducible apply wN3 | with_reducible apply wN4 | with_reducible apply wN0 | with_reducible apply wE0 | with_reducible apply wXI | with_reducible apply wXB | with_reducible exact eK | ((with_reducible apply eL); rfl) | ((with_reducible apply eLR); rfl) | with_reducible exact eAN | with_reducible apply eAdd | with_reducible apply eDiv | with_reducible apply eRem | with_reducible apply eMin | with_reducible apply eFld2 | with_reducible apply R_Book_eventTick | with_reducible apply R_Book_eventKind | with_reducible apply R_Book_eventJob | with_reducible exact K_Book_eventsKept (by assumption) | with_reducible exact K_Book_nextEvent (by assumption) | with_reducible exact N_Book_eventTick (by assumption) | with_reducible exact N_Book_eventKind (by assumption) | with_reducible exact N_Book_eventJob (by assumption) | with_reducible exact Int.toNat_natCast _ | with_reducible exact tn0 | with_reducible exact tn1 | with_reducible exact tn2 | with_reducible exact tn3 | with_reducible exact tn4 | with_reducible exact tn5 | with_reducible exact tn6 | with_reducible exact tn7 | with_reducible exact tn8 | with_reducible exact tn9 | with_reducible exact tn10 | with_reducible exact tn11 | with_reducible exact tn12 | with_reducible exact tn13 | with_reducible exact tn14 | with_reducible exact tn15 | with_reducible exact tn16 | with_reducible exact tnK0 | with_reducible exact tnK4 | with_reducible exact tnK8 | with_reducible exact tnK12 | with_reducible exact tnK16 | with_reducible exact tnK20 | with_reducible exact tnK24 | with_reducible exact tnK28 | with_reducible exact tnK32 | with_reducible exact tnJA | with_reducible exact tnA | with_reducible exact upR_s | ((with_reducible apply upR_a); (first | decide | omega)) | ((with_reducible apply upR_b); (first | decide | omega)) | exact Nat.le_of_ble_eq_true rfl | with_reducible assumption | with_reducible exact rfl | omega | with_reducible apply wAnd | decide +kernel
theorem Bk_start {G U : Nat → Nat → Int} {o z : Nat} {j : Int} (ho : isBook o) (hz : G o 0 = (z : Int)) (hlt : z < 80) : F_Book_addStarted [pR o, pI (Int32.ofInt j)] (zM G U) = some (none, zM (upZ (upZ G (o + 2) z j) o 0 ((z : Int) + 1)) U) := by
  apply wF_to
  unfold F_Book_addStarted B_Book_addStarted
  apply wBody (Nat.le_of_ble_eq_true rfl)
  repeat' first | with_reducible apply wSeq | with_reducible apply wSkip | with_reducible apply wIf | with_reducible apply wRV | with_reducible apply wModA2 | with_reducible apply wModS2 | with_reducible apply wModO2 | with_reducible apply wAst2 | with_reducible apply wB_e | (intro h; try simp only [Bool.and_eq_true, Bool.or_eq_true, Bool.not_eq_true', Bool.not_eq_false', Bool.and_eq_false_imp, Bool.or_eq_false_iff, decide_eq_true_eq, decide_eq_false_iff_not, Bool.not_true, Bool.not_false, Bool.true_eq_false, Bool.false_eq_true, Bool.not_not] at h) | with_reducible apply wN1 | with_reducible apply wN2 | with_reducible apply wN3 | with_reducible apply wN4 | with_reducible apply wN0 | with_reducible apply wE0 | with_reducible apply wXI | with_reducible apply wXB | with_reducible exact eK | ((with_reducible apply eL); rfl) | ((with_reducible apply eLR); rfl) | with_reducible exact eAN | with_reducible apply eAdd | with_reducible apply eLt | with_reducible apply eFld2 | with_reducible apply R_Book_startedJobs | with_reducible exact K_Book_startedSize (by assumption) | with_reducible exact N_Book_startedJobs (by assumption) | with_reducible exact Int.toNat_natCast _ | with_reducible exact tn0 | with_reducible exact tn1 | with_reducible exact tn2 | with_reducible exact tn3 | with_reducible exact tn4 | with_reducible exact tn5 | with_reducible exact tn6 | with_reducible exact tn7 | with_reducible exact tn8 | with_reducible exact tn9 | with_reducible exact tn10 | with_reducible exact tn11 | with_reducible exact tn12 | with_reducible exact tn13 | with_reducible exact tn14 | with_reducible exact tn15 | with_reducible exact tn16 | with_reducible exact tnK0 | with_reducible exact tnK4 | with_reducible exact tnK8 | with_reducible exact tnK12 | with_reducible exact tnK16 | with_reducible exact tnK20 | with_reducible exact tnK24 | with_reducible exact tnK28 | with_reducible exact tnK32 | with_reducible exact tnJA | with_reducible exact tnA | with_reducible exact upR_s | ((with_reducible apply upR_a); (first | decide | omega)) | ((with_reducible apply upR_b); (first | decide | omega)) | exact Nat.le_of_ble_eq_true rfl | with_reducible assumption | with_reducible exact rfl | omega | with_reducible apply wAnd | decide +kernel
theorem ev_at {g : Nat → Int} {kind j : Int} {i r : Nat} (h7 : 0 ≤ g 7 ∧ g 7 ≤ 60) (hr : r < 3) : hapF g kind j (2736 + 3 * i + r) = if 3 * i + r < 3 * (evRoom g 7).toNat then (if g 7 = 60 then g (2736 + 3 * i + r + 3) else g (2736 + 3 * i + r)) else if i = (evRoom g 7).toNat then (if r = 0 then g 0 else if r = 1 then kind else j) else hapF g kind j (2736 + 3 * i + r) := by
  have hv := evRoom_7 h7
  split
  · rename_i h
    unfold hapF
    rw [put_o (by omega), put_o (by omega), put_o (by omega), put_o (by omega)]
    unfold evRoom
    split
    · rename_i h6
      rw [put_o (by omega)]
      unfold evLay
      have e : (evRoom g 7) = 59 := by unfold evRoom; rw [if_pos h6, put_at]
      rw [e] at h
      rw [if_pos (by omega)]
    · rfl
  · split
    · rename_i h1 h2
      subst h2
      unfold hapF
      rw [put_o (by omega)]
      by_cases r0 : r = 0
      · subst r0
        rw [put_o (by omega), put_o (by omega), if_pos rfl, Nat.add_zero, put_at]
      · rw [if_neg r0]
        by_cases r1 : r = 1
        · subst r1
          rw [put_o (by omega), if_pos rfl, put_at]
        · have r2 : r = 2 := by omega
          subst r2
          rw [if_neg (by omega), put_at]
    · rfl
theorem relE_note {G G' : Nat → Nat → Int} {s e : Nat} {g : Nat → Int} {k j : Int} (hh : relE G s e g) (h35 : ∀ i, i < 60 → G' (s + 35) i = if i = e % 60 then g 0 else G (s + 35) i) (h36 : ∀ i, i < 60 → G' (s + 36) i = if i = e % 60 then k else G (s + 36) i) (h37 : ∀ i, i < 60 → G' (s + 37) i = if i = e % 60 then j else G (s + 37) i) : relE G' s (e + 1) (hapF g k j) := by
  obtain ⟨h7, hi⟩ := hh
  have h7r : 0 ≤ g 7 ∧ g 7 ≤ 60 := by omega
  have hev : (evRoom g 7).toNat = min e 59 := by
    unfold evRoom
    split
    · rw [put_at]; omega
    · omega
  refine ⟨by rw [hapF_7 h7r]; split <;> omega, fun i hi1 => ?_⟩
  have e0 := ev_at (g := g) (kind := k) (j := j) (i := i) (r := 0) h7r (by omega)
  have e1 := ev_at (g := g) (kind := k) (j := j) (i := i) (r := 1) h7r (by omega)
  have e2 := ev_at (g := g) (kind := k) (j := j) (i := i) (r := 2) h7r (by omega)
  rw [hev] at e0 e1 e2
  rw [Nat.add_zero] at e0
  rw [h35 _ (Nat.mod_lt _ (by omega)), h36 _ (Nat.mod_lt _ (by omega)), h37 _ (Nat.mod_lt _ (by omega))]
  by_cases c : i < min e 59
  · have hne : ¬ (e + 1 - min (e + 1) 60 + i) % 60 = e % 60 := by omega
    rw [if_neg hne, if_neg hne, if_neg hne]
    rw [if_pos (by omega)] at e0 e1 e2
    by_cases c6 : g 7 = 60
    · rw [if_pos c6] at e0 e1 e2
      have := hi (i + 1) (by omega)
      rw [show e - min e 60 + (i + 1) = e + 1 - min (e + 1) 60 + i by omega, show 2736 + 3 * (i + 1) = 2736 + 3 * i + 3 by omega] at this
      rw [e0, e1, e2, show 2736 + 3 * i + 1 + 3 = 2736 + 3 * i + 3 + 1 by omega, show 2736 + 3 * i + 2 + 3 = 2736 + 3 * i + 3 + 2 by omega]
      exact this
    · rw [if_neg c6] at e0 e1 e2
      have := hi i (by omega)
      rw [show e - min e 60 + i = e + 1 - min (e + 1) 60 + i by omega] at this
      rw [e0, e1, e2]
      exact this
  · have ei : i = min e 59 := by omega
    have heq : (e + 1 - min (e + 1) 60 + i) % 60 = e % 60 := by omega
    rw [if_neg (by omega), if_pos ei] at e0 e1 e2
    rw [if_pos heq, if_pos heq, if_pos heq, e0, e1, e2]
    simp
