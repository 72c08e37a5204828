/-! ===== the class takes jobs off, one behind the other ===== -/
def stkIs (f : Nat → Int) : List Nat → Prop
  | [] => True
  | x :: l => f l.length = (x : Int) ∧ stkIs f l
theorem stkIs_congr {f f' : Nat → Int} : ∀ l : List Nat, (∀ i, i < l.length → f' i = f i) → stkIs f l → stkIs f' l
  | [], _, _ => trivial
  | x :: l, h, hs => ⟨by rw [h l.length (by rw [List.length_cons]; omega)]; exact hs.1, stkIs_congr l (fun i hi => h i (by rw [List.length_cons]; omega)) hs.2⟩
def offInv (g0 : Nat → Int) (V0 : Nat → Nat → Int) (j0 i : Nat) (S : oSt) (l : List Nat) : Prop := rowI S.1 ∧ S.1 1 = g0 1 ∧ l.Nodup ∧ (∀ r, r ∈ l → r < (g0 1).toNat ∧ mAt S.1 r 5 ≤ 1 ∧ (l = [j0] ∨ mAt S.1 (mAt S.1 r 3).toNat 5 = 4)) ∧ (i : Int) + liveF S.1 (g0 1).toNat ≤ 80 ∧ (offFold 100 l S).1 = (offF 100 (g0, V0) j0).1 ∧ (i : Int) + (offFold 100 l S).2 = (offF 100 (g0, V0) j0).2
theorem liveF_le {g : Nat → Int} : ∀ n, liveF g n ≤ n
  | 0 => Int.le_refl 0
  | n + 1 => by
    have ih := liveF_le (g := g) n
    have h : liveF g (n + 1) = liveF g n + (if decide (mAt g n 5 ≤ 1) = true then (1 : Int) else 0) := rfl
    have h1 : (if decide (mAt g n 5 ≤ 1) = true then (1 : Int) else 0) ≤ 1 := by split <;> omega
    omega
theorem offInv_0 {g : Nat → Int} {V : Nat → Nat → Int} {j : Nat} (hI : rowI g) (hj : j < (g 1).toNat) (h5 : mAt g j 5 ≤ 1) : offInv g V j 0 (g, V) [j] := by
  have hn := hI.1.2.2.1
  refine ⟨hI, rfl, by simp, fun r hr => ?_, ?_, rfl, ?_⟩
  · rw [List.mem_singleton] at hr
    subst hr
    exact ⟨hj, h5, Or.inl rfl⟩
  · have := liveF_le (g := g) (g 1).toNat
    show (0 : Int) + liveF g (g 1).toNat ≤ 80
    omega
  · show ((0 : Nat) : Int) + ((offF 100 (g, V) j).2 + 0) = _
    omega
theorem of1_after {g : Nat → Int} {j r : Nat} (hI : rowI g) (hj : j < (g 1).toNat) (hr : r < (g 1).toNat) (h : mAt g (mAt g r 3).toNat 5 = 4) : mAt (of1 g j) (mAt (of1 g j) r 3).toNat 5 = 4 := by
  have hrow := hI.1
  have h3 := (row_j hrow hr).2.2.2.1
  have hr8 := row_n hrow hr
  rw [of1_o hrow hj hr8 (by omega) (by omega)]
  by_cases c : (mAt g r 3).toNat = j
  · rw [c, of1_cell hrow hj (row_n hrow hj) (by omega), if_neg (by omega), if_neg (by omega), if_pos ⟨rfl, rfl⟩]
  · rw [of1_o hrow hj (by omega) (by omega) (Or.inl c)]
    exact h
/-- those on the stack once some of them that wait are put on it -/
theorem off_list {g0 : Nat → Int} {V0 : Nat → Nat → Int} {j0 i j : Nat} {S : oSt} {l : List Nat} (h : offInv g0 V0 j0 i S (j :: l)) {a c : Nat} (ha : j < a) (hc : a + c ≤ (g0 1).toNat) : (kidI (of1 S.1 j) j a c ++ l).Nodup ∧ ∀ r, r ∈ kidI (of1 S.1 j) j a c ++ l → r < (g0 1).toNat ∧ mAt (of1 S.1 j) r 5 ≤ 1 ∧ mAt (of1 S.1 j) (mAt (of1 S.1 j) r 3).toNat 5 = 4 := by
  obtain ⟨hI, h1, hd, hm, -, -, -⟩ := h
  have hrow := hI.1
  obtain ⟨hjn, hj5, -⟩ := hm j (by simp)
  rw [← h1] at hjn hc
  rw [List.nodup_cons] at hd
  have hl : ∀ r, r ∈ l → r < (S.1 1).toNat ∧ mAt S.1 r 5 ≤ 1 ∧ mAt S.1 (mAt S.1 r 3).toNat 5 = 4 := fun r hr => by
    obtain ⟨a1, a2, a3⟩ := hm r (by simp [hr])
    rw [← h1] at a1
    refine ⟨a1, a2, ?_⟩
    rcases a3 with e | e
    · have : l = [] := by injection e
      rw [this] at hr
      simp at hr
    · exact e
  have hk : ∀ r, r ∈ kidI (of1 S.1 j) j a c → r < (S.1 1).toNat ∧ mAt (of1 S.1 j) r 5 = 0 ∧ mAt (of1 S.1 j) r 3 = (j : Int) := fun r hr => by
    have := kidI_mem c hr
    exact ⟨by omega, this.2.2⟩
  rw [← h1]
  refine ⟨?_, fun r hr => ?_⟩
  · rw [List.nodup_append]
    refine ⟨kidI_nodup c, hd.2, fun x hx y hy e => ?_⟩
    subst e
    obtain ⟨k1, k2, k3⟩ := hk x hx
    obtain ⟨l1, l2, l3⟩ := hl x hy
    rw [of1_o hrow hjn (row_n hrow k1) (by omega) (by omega)] at k3
    rw [k3, Int.toNat_natCast] at l3
    omega
  · rw [List.mem_append] at hr
    rcases hr with hr | hr
    · obtain ⟨k1, k2, k3⟩ := hk r hr
      refine ⟨k1, by omega, ?_⟩
      rw [k3, Int.toNat_natCast, of1_cell hrow hjn (row_n hrow hjn) (by omega), if_neg (by omega), if_neg (by omega), if_pos ⟨rfl, rfl⟩]
    · obtain ⟨l1, l2, l3⟩ := hl r hr
      have hne : r ≠ j := fun e => hd.1 (by rw [← e]; exact hr)
      refine ⟨l1, ?_, of1_after hI hjn l1 l3⟩
      rw [of1_o hrow hjn (row_n hrow l1) (by omega) (Or.inl hne)]
      exact l2
theorem off_len {g0 : Nat → Int} {V0 : Nat → Nat → Int} {j0 i j : Nat} {S : oSt} {l : List Nat} (h : offInv g0 V0 j0 i S (j :: l)) {a c : Nat} (ha : j < a) (hc : a + c ≤ (g0 1).toNat) : ((kidI (of1 S.1 j) j a c ++ l).length : Int) + i + 1 ≤ 80 := by
  obtain ⟨q1, q2⟩ := off_list h ha hc
  obtain ⟨hI, h1, hd, hm, hb, -, -⟩ := h
  obtain ⟨hjn, hj5, -⟩ := hm j (by simp)
  have hv := live_off hI (j := j) (by rw [h1]; exact hjn) hj5
  rw [h1] at hv
  have := nodup_le (P := fun _ => true) (n := (g0 1).toNat) _ (fun x => if decide (mAt (of1 S.1 j) x 5 ≤ 1) = true then (1 : Int) else 0) q1 (fun x hx => ⟨(q2 x hx).1, by rw [if_pos (decide_eq_true (q2 x hx).2.1)]⟩) (fun x => by (try dsimp only); split <;> omega)
  unfold liveF at hv hb
  omega
theorem off_step {g0 : Nat → Int} {V0 : Nat → Nat → Int} {j0 i j : Nat} {S : oSt} {l : List Nat} (h : offInv g0 V0 j0 i S (j :: l)) : offInv g0 V0 j0 (i + 1) (of1 S.1 j, of1U S.2) (kidI (of1 S.1 j) j (j + 1) ((g0 1).toNat - (j + 1)) ++ l) := by
  have hjn := (h.2.2.2.1 j (by simp)).1
  obtain ⟨q1, q2⟩ := off_list h (a := j + 1) (c := (g0 1).toNat - (j + 1)) (by omega) (by omega)
  obtain ⟨hI, h1, hd, hm, hb, hf, ht⟩ := h
  obtain ⟨-, hj5, -⟩ := hm j (by simp)
  rw [← h1] at hjn
  have hv := live_off hI (j := j) hjn hj5
  have e1 : of1 S.1 j 1 = S.1 1 := of1_lo (by omega) (by omega)
  have hp := off_pop (l := l) (s := S) hI hjn
  rw [h1] at hp hv
  refine ⟨of1_row hI hjn, e1.trans h1, q1, fun r hr => ⟨(q2 r hr).1, (q2 r hr).2.1, Or.inr (q2 r hr).2.2⟩, ?_, ?_, ?_⟩
  · show ((i + 1 : Nat) : Int) + liveF (of1 S.1 j) (g0 1).toNat ≤ 80
    omega
  · rw [← hf, hp]
  · rw [← ht, hp]
    show _ = (i : Int) + (1 + _)
    omega
set_option maxHeartbeats 1000000 in
theorem Sd_takeOff {G U V : Nat → Nat → Int} {e s k j : Nat} {g : Nat → Int} {R : Option pV → pM → Prop} (hs : isScene s) (hk : isScheduler k) (hd : s + 39 ≤ k) (hI : rowI g) (hj : j < (g 1).toNat) (h5 : mAt g j 5 ≤ 1) (hS : scR false 0 e G U s g (V 183)) (he : e + 100 < 2000000000)
    (hR : ∀ G' U' (t : Nat), t ≤ 80 → (offF 100 (g, V) j).2 = (t : Int) → (∀ x, (x < s ∨ s + 39 ≤ x) → x ≠ k + 17 → G' x = G x) → (∀ x, x ≠ s + 33 → U' x = U x) → rowI (offF 100 (g, V) j).1.1 → scR false 0 (e + t) G' U' s (offF 100 (g, V) j).1.1 ((offF 100 (g, V) j).1.2 183) → R (some (pI (Int32.ofInt (t : Int)))) (zM G' U')) : WpF F_Scheduler_takeOff [pR k, pR s, pI (Int32.ofInt (j : Int))] (zM G U) R := by
  have hsj := S_Scene_jobs hs
  have hrow := hI.1
  have hn := row_n hrow hj
  have hn8 := hrow.2.2.1
  unfold F_Scheduler_takeOff B_Scheduler_takeOff
  apply wBody (Nat.le_of_ble_eq_true rfl)
  repeat' first | with_reducible apply wSeq | with_reducible apply wSkip | with_reducible apply wIf | with_reducible apply wAsI | ((with_reducible apply wInc); rfl) | with_reducible apply wKil | with_reducible apply wRI | with_reducible apply wAst2 | with_reducible apply wVd | with_reducible apply wB_e | (intro h; try simp only [Bool.and_eq_true, Bool.or_eq_true, Bool.not_eq_true', Bool.not_eq_false', Bool.and_eq_false_imp, Bool.or_eq_false_iff, decide_eq_true_eq, decide_eq_false_iff_not, Bool.not_true, Bool.not_false, Bool.true_eq_false, Bool.false_eq_true, Bool.not_not] at h) | with_reducible apply wN1 | with_reducible apply wN2 | with_reducible apply wN3 | with_reducible apply wN4 | with_reducible apply wN0 | with_reducible apply wE0 | with_reducible apply wXI | with_reducible apply wXB | with_reducible exact eK | ((with_reducible apply eL); rfl) | ((with_reducible apply eLR); rfl) | with_reducible exact eAN | with_reducible apply eSub | with_reducible apply eLt | with_reducible apply eGt | with_reducible apply eEq | with_reducible apply eAnd | with_reducible apply eArr2 | with_reducible apply eFld2 | with_reducible apply eAI | with_reducible apply eAR | with_reducible apply eCI | with_reducible apply eCZ | with_reducible apply wRc | with_reducible apply R_Scene_jobs | with_reducible apply R_Jobs_state | with_reducible apply R_Jobs_after | with_reducible apply R_Scheduler_toTakeOff | with_reducible exact S_Scene_jobs (by assumption) | with_reducible exact C_Jobs (S_Scene_jobs (by assumption)) | with_reducible exact K_Jobs_size (by assumption) | with_reducible exact N_Jobs_state (by assumption) | with_reducible exact N_Jobs_after (by assumption) | with_reducible exact C_Scheduler (by assumption) | with_reducible exact N_Scheduler_toTakeOff (by assumption) | with_reducible exact Int.toNat_natCast _ | with_reducible exact tn0 | with_reducible exact tn1 | with_reducible exact tn2 | with_reducible exact tn3 | with_reducible exact tn4 | with_reducible exact tn5 | with_reducible exact tn6 | with_reducible exact tn7 | with_reducible exact tn8 | with_reducible exact tn9 | with_reducible exact tn10 | with_reducible exact tn11 | with_reducible exact tn12 | with_reducible exact tn13 | with_reducible exact tn14 | with_reducible exact tn15 | with_reducible exact tn16 | with_reducible exact tnK0 | with_reducible exact tnK4 | with_reducible exact tnK8 | with_reducible exact tnK12 | with_reducible exact tnK16 | with_reducible exact tnK20 | with_reducible exact tnK24 | with_reducible exact tnK28 | with_reducible exact tnK32 | with_reducible exact tnJA | with_reducible exact tnA | with_reducible exact upR_s | ((with_reducible apply upR_a); (first | decide | omega)) | ((with_reducible apply upR_b); (first | decide | omega)) | ((with_reducible apply cpR_o); (first | decide | omega)) | with_reducible apply lt_pSet1 | with_reducible apply lt_kil | exact Nat.le_of_ble_eq_true rfl | with_reducible assumption | with_reducible exact rfl | omega | with_reducible apply wAnd | decide +kernel
  refine wWh (fun i L σ => ∃ (S : oSt) (l : List Nat) (m : Nat) (G' U' : Nat → Nat → Int), l.length = m ∧ L = [some (pR k), some (pR s), some (pI (Int32.ofInt (j : Int))), some (pI (Int32.ofInt (i : Int))), some (pI (Int32.ofInt (m : Int))), none, none] ∧ σ = zM G' U' ∧ (∀ x, (x < s ∨ s + 39 ≤ x) → x ≠ k + 17 → G' x = G x) ∧ (∀ x, x ≠ s + 33 → U' x = U x) ∧ stkIs (G' (k + 17)) l ∧ offInv g V j i S l ∧ scR false 0 (e + i) G' U' s S.1 (S.2 183)) 80 (by omega) ⟨(g, V), [j], 1, upZ G (k + 17) 0 (j : Int), U, rfl, rfl, rfl, fun x _ h => upZ_ne h, fun _ _ => rfl, ⟨upR_s, trivial⟩, offInv_0 hI hj h5, scR_fr hS (fun x _ _ => upZ_ne (by omega)) rfl rfl⟩ ?_
  rintro i _ _ hi ⟨S, l, m, G1, U1, hm, rfl, rfl, f1, f2, f3, f4, f5⟩
  cases l with
  | nil =>
    have hm0 : m = 0 := hm.symm
    subst hm0
    repeat' first | with_reducible apply wSeq | with_reducible apply wSkip | with_reducible apply wIf | with_reducible apply wAsI | ((with_reducible apply wInc); rfl) | with_reducible apply wKil | with_reducible apply wRI | with_reducible apply wAst2 | with_reducible apply wVd | with_reducible apply wB_e | (intro h; try simp only [Bool.and_eq_true, Bool.or_eq_true, Bool.not_eq_true', Bool.not_eq_false', Bool.and_eq_false_imp, Bool.or_eq_false_iff, decide_eq_true_eq, decide_eq_false_iff_not, Bool.not_true, Bool.not_false, Bool.true_eq_false, Bool.false_eq_true, Bool.not_not] at h) | with_reducible apply wN1 | with_reducible apply wN2 | with_reducible apply wN3 | with_reducible apply wN4 | with_reducible apply wN0 | with_reducible apply wE0 | with_reducible apply wXI | with_reducible apply wXB | with_reducible exact eK | ((with_reducible apply eL); rfl) | ((with_reducible apply eLR); rfl) | with_reducible exact eAN | with_reducible apply eSub | with_reducible apply eLt | with_reducible apply eGt | with_reducible apply eEq | with_reducible apply eAnd | with_reducible apply eArr2 | with_reducible apply eFld2 | with_reducible apply eAI | with_reducible apply eAR | with_reducible apply eCI | with_reducible apply eCZ | with_reducible apply wRc | with_reducible apply R_Scene_jobs | with_reducible apply R_Jobs_state | with_reducible apply R_Jobs_after | with_reducible apply R_Scheduler_toTakeOff | with_reducible exact S_Scene_jobs (by assumption) | with_reducible exact C_Jobs (S_Scene_jobs (by assumption)) | with_reducible exact K_Jobs_size (by assumption) | with_reducible exact N_Jobs_state (by assumption) | with_reducible exact N_Jobs_after (by assumption) | with_reducible exact C_Scheduler (by assumption) | with_reducible exact N_Scheduler_toTakeOff (by assumption) | with_reducible exact Int.toNat_natCast _ | with_reducible exact tn0 | with_reducible exact tn1 | with_reducible exact tn2 | with_reducible exact tn3 | with_reducible exact tn4 | with_reducible exact tn5 | with_reducible exact tn6 | with_reducible exact tn7 | with_reducible exact tn8 | with_reducible exact tn9 | with_reducible exact tn10 | with_reducible exact tn11 | with_reducible exact tn12 | with_reducible exact tn13 | with_reducible exact tn14 | with_reducible exact tn15 | with_reducible exact tn16 | with_reducible exact tnK0 | with_reducible exact tnK4 | with_reducible exact tnK8 | with_reducible exact tnK12 | with_reducible exact tnK16 | with_reducible exact tnK20 | with_reducible exact tnK24 | with_reducible exact tnK28 | with_reducible exact tnK32 | with_reducible exact tnJA | with_reducible exact tnA | with_reducible exact upR_s | ((with_reducible apply upR_a); (first | decide | omega)) | ((with_reducible apply upR_b); (first | decide | omega)) | ((with_reducible apply cpR_o); (first | decide | omega)) | with_reducible apply lt_pSet1 | with_reducible apply lt_kil | exact Nat.le_of_ble_eq_true rfl | with_reducible assumption | with_reducible exact rfl | omega | with_reducible apply wAnd | decide +kernel
    obtain ⟨a1, a2, a3, a4, a5, a6, a7⟩ := f4
    have a6' : S = (offF 100 (g, V) j).1 := a6
    have a7' : (i : Int) + 0 = (offF 100 (g, V) j).2 := a7
    rw [a6'] at f5 a1
    exact hR G1 U1 i hi (by omega) f1 f2 a1 f5
  | cons r l =>
    have hlen := off_len f4 (a := r + 1) (c := 0) (by omega) (by have := (f4.2.2.2.1 r (by simp)).1; omega)
    rw [kidI, List.nil_append] at hlen
    obtain ⟨a1, a2, a3, a4, a5, a6, a7⟩ := id f4
    obtain ⟨b1, b2, b3⟩ := a4 r (by simp)
    have hr8 := row_n hrow b1
    have hr1 : r < (S.1 1).toNat := by rw [a2]; exact b1
    obtain ⟨q, hq⟩ : ∃ q, l.length = q := ⟨_, rfl⟩
    have hmq : m = q + 1 := by rw [← hm, List.length_cons, hq]
    subst hmq
    have tk : (((q + 1 : Nat) : Int) + -1).toNat = q := by omega
    rw [hq] at hlen
    have f30 := f3.1
    rw [hq] at f30
    repeat' first | with_reducible apply wSeq | with_reducible apply wSkip | with_reducible apply wIf | with_reducible apply wAsI | ((with_reducible apply wInc); rfl) | with_reducible apply wKil | with_reducible apply wRI | with_reducible apply wAst2 | with_reducible apply wVd | with_reducible apply wB_e | (intro h; try simp only [Bool.and_eq_true, Bool.or_eq_true, Bool.not_eq_true', Bool.not_eq_false', Bool.and_eq_false_imp, Bool.or_eq_false_iff, decide_eq_true_eq, decide_eq_false_iff_not, Bool.not_true, Bool.not_false, Bool.true_eq_false, Bool.false_eq_true, Bool.not_not] at h) | with_reducible apply wN1 | with_reducible apply wN2 | with_reducible apply wN3 | with_reducible apply wN4 | with_reducible apply wN0 | with_reducible apply wE0 | with_reducible apply wXI | with_reducible apply wXB | with_reducible exact tk | with_reducible exact eK | ((with_reducible apply eL); rfl) | ((with_reducible apply eLR); rfl) | with_reducible exact eAN | with_reducible apply eSub | with_reducible apply eLt | with_reducible apply eGt | with_reducible apply eEq | with_reducible apply eAnd | with_reducible apply eArr2 | with_reducible apply eFld2 | with_reducible apply eAI | with_reducible apply eAR | with_reducible apply eCI | with_reducible apply eCZ | with_reducible apply wRc | with_reducible apply R_Scene_jobs | with_reducible apply R_Jobs_state | with_reducible apply R_Jobs_after | with_reducible apply R_Scheduler_toTakeOff | with_reducible exact S_Scene_jobs (by assumption) | with_reducible exact C_Jobs (S_Scene_jobs (by assumption)) | with_reducible exact K_Jobs_size (by assumption) | with_reducible exact N_Jobs_state (by assumption) | with_reducible exact N_Jobs_after (by assumption) | with_reducible exact C_Scheduler (by assumption) | with_reducible exact N_Scheduler_toTakeOff (by assumption) | with_reducible exact Int.toNat_natCast _ | with_reducible exact tn0 | with_reducible exact tn1 | with_reducible exact tn2 | with_reducible exact tn3 | with_reducible exact tn4 | with_reducible exact tn5 | with_reducible exact tn6 | with_reducible exact tn7 | with_reducible exact tn8 | with_reducible exact tn9 | with_reducible exact tn10 | with_reducible exact tn11 | with_reducible exact tn12 | with_reducible exact tn13 | with_reducible exact tn14 | with_reducible exact tn15 | with_reducible exact tn16 | with_reducible exact tnK0 | with_reducible exact tnK4 | with_reducible exact tnK8 | with_reducible exact tnK12 | with_reducible exact tnK16 | with_reducible exact tnK20 | with_reducible exact tnK24 | with_reducible exact tnK28 | with_reducible exact tnK32 | with_reducible exact tnJA | with_reducible exact tnA | with_reducible exact upR_s | ((with_reducible apply upR_a); (first | decide | omega)) | ((with_reducible apply upR_b); (first | decide | omega)) | ((with_reducible apply cpR_o); (first | decide | omega)) | with_reducible apply lt_pSet1 | with_reducible apply lt_kil | exact Nat.le_of_ble_eq_true rfl | with_reducible assumption | with_reducible exact rfl | omega | with_reducible apply wAnd | decide +kernel
    refine Sd_offAlone hs hk a1 hr1 f5 (by omega) fun G2 U2 p1 p2 p3 => ⟨rfl, ?_⟩
    have f3b : stkIs (G2 (k + 17)) l := by rw [p1 _ (by omega)]; exact f3.2
    have q1 : ∀ x, (x < s ∨ s + 39 ≤ x) → x ≠ k + 17 → G2 x = G x := fun x a b => (p1 x a).trans (f1 x a b)
    have q2 : ∀ x, x ≠ s + 33 → U2 x = U x := fun x a => (p2 x a).trans (f2 x a)
    have e1 : of1 S.1 r 1 = g 1 := (of1_lo (by omega) (by omega)).trans a2
    have hJ0 : G2 (s + 5) 0 = g 1 := by rw [← e1]; exact p3.1.2.2.1.1
    clear hR f1 f2 f3 f5 p1 p2
    repeat' first | with_reducible apply wSeq | with_reducible apply wSkip | with_reducible apply wIf | with_reducible apply wAsI | ((with_reducible apply wInc); rfl) | with_reducible apply wKil | with_reducible apply wRI | with_reducible apply wAst2 | with_reducible apply wVd | with_reducible apply wB_e | (intro h; try simp only [Bool.and_eq_true, Bool.or_eq_true, Bool.not_eq_true', Bool.not_eq_false', Bool.and_eq_false_imp, Bool.or_eq_false_iff, decide_eq_true_eq, decide_eq_false_iff_not, Bool.not_true, Bool.not_false, Bool.true_eq_false, Bool.false_eq_true, Bool.not_not] at h) | with_reducible apply wN1 | with_reducible apply wN2 | with_reducible apply wN3 | with_reducible apply wN4 | with_reducible apply wN0 | with_reducible apply wE0 | with_reducible apply wXI | with_reducible apply wXB | with_reducible exact eK | ((with_reducible apply eL); rfl) | ((with_reducible apply eLR); rfl) | with_reducible exact eAN | with_reducible apply eSub | with_reducible apply eLt | with_reducible apply eGt | with_reducible apply eEq | with_reducible apply eAnd | with_reducible apply eArr2 | with_reducible apply eFld2 | with_reducible apply eAI | with_reducible apply eAR | with_reducible apply eCI | with_reducible apply eCZ | with_reducible apply wRc | with_reducible apply R_Scene_jobs | with_reducible apply R_Jobs_state | with_reducible apply R_Jobs_after | with_reducible apply R_Scheduler_toTakeOff | with_reducible exact S_Scene_jobs (by assumption) | with_reducible exact C_Jobs (S_Scene_jobs (by assumption)) | with_reducible exact K_Jobs_size (by assumption) | with_reducible exact N_Jobs_state (by assumption) | with_reducible exact N_Jobs_after (by assumption) | with_reducible exact C_Scheduler (by assumption) | with_reducible exact N_Scheduler_toTakeOff (by assumption) | with_reducible exact Int.toNat_natCast _ | with_reducible exact tn0 | with_reducible exact tn1 | with_reducible exact tn2 | with_reducible exact tn3 | with_reducible exact tn4 | with_reducible exact tn5 | with_reducible exact tn6 | with_reducible exact tn7 | with_reducible exact tn8 | with_reducible exact tn9 | with_reducible exact tn10 | with_reducible exact tn11 | with_reducible exact tn12 | with_reducible exact tn13 | with_reducible exact tn14 | with_reducible exact tn15 | with_reducible exact tn16 | with_reducible exact tnK0 | with_reducible exact tnK4 | with_reducible exact tnK8 | with_reducible exact tnK12 | with_reducible exact tnK16 | with_reducible exact tnK20 | with_reducible exact tnK24 | with_reducible exact tnK28 | with_reducible exact tnK32 | with_reducible exact tnJA | with_reducible exact tnA | with_reducible exact upR_s | ((with_reducible apply upR_a); (first | decide | omega)) | ((with_reducible apply upR_b); (first | decide | omega)) | ((with_reducible apply cpR_o); (first | decide | omega)) | with_reducible apply lt_pSet1 | with_reducible apply lt_kil | exact Nat.le_of_ble_eq_true rfl | with_reducible assumption | with_reducible exact rfl | omega | with_reducible apply wAnd | decide +kernel
    refine wWh (fun t L σ => ∃ (G3 : Nat → Nat → Int) (m : Nat), (kidI (of1 S.1 r) r ((g 1).toNat - t) t ++ l).length = m ∧ L = [some (pR k), some (pR s), some (pI (Int32.ofInt (j : Int))), some (pI (Int32.ofInt ((i : Int) + 1))), some (pI (Int32.ofInt (m : Int))), some (pI (Int32.ofInt (r : Int))), some (pI (Int32.ofInt (g 1 - 1 - (t : Int))))] ∧ σ = zM G3 U2 ∧ (∀ x, x ≠ k + 17 → G3 x = G2 x) ∧ stkIs (G3 (k + 17)) (kidI (of1 S.1 r) r ((g 1).toNat - t) t ++ l)) ((g 1).toNat - (r + 1)) (by omega) ⟨G2, q, hq, by rw [show ((q + 1 : Nat) : Int) + -1 = (q : Int) by omega, show g 1 - 1 - ((0 : Nat) : Int) = g 1 - 1 by omega]; rfl, rfl, fun _ _ => rfl, f3b⟩ ?_
    rintro t _ _ ht ⟨G3, m, hm3, rfl, rfl, t1, t2⟩
    have hlen3 := off_len f4 (a := (g 1).toNat - t) (c := t) (by omega) (by omega)
    rw [hm3] at hlen3
    have hJ3 : G3 (s + 5) 0 = g 1 := by rw [t1 _ (by omega)]; exact hJ0
    rcases Nat.lt_or_ge t ((g 1).toNat - (r + 1)) with hlt | hge
    · obtain ⟨x, hx⟩ : ∃ x, (g 1).toNat = x + (t + 1) := ⟨(g 1).toNat - (t + 1), by omega⟩
      have tkx : (g 1 - 1 - (t : Int)).toNat = x := by omega
      obtain ⟨x5, -, -, -, x3, -⟩ := p3.1.2.2.1.2 x (by rw [e1]; omega)
      rw [← t1 _ (by omega)] at x5 x3
      have hkc := kidI_cons (g := of1 S.1 r) (j := r) t x
      rw [show x + 1 = (g 1).toNat - t by omega] at hkc
      rw [show (g 1).toNat - (t + 1) = x by omega, hkc]
      by_cases hk2 : kidB (of1 S.1 r) r x = true
      · have hk3 := hk2
        unfold kidB at hk3
        simp only [Bool.and_eq_true, decide_eq_true_eq] at hk3
        rw [if_pos hk2]
        rw [hk3.1] at x5
        rw [hk3.2] at x3
        have hm80 : (m : Int) < 80 := by omega
        repeat' first | with_reducible apply wSeq | with_reducible apply wSkip | with_reducible apply wIf | with_reducible apply wAsI | ((with_reducible apply wInc); rfl) | with_reducible apply wKil | with_reducible apply wRI | with_reducible apply wAst2 | with_reducible apply wVd | with_reducible apply wB_e | (intro h; try simp only [Bool.and_eq_true, Bool.or_eq_true, Bool.not_eq_true', Bool.not_eq_false', Bool.and_eq_false_imp, Bool.or_eq_false_iff, decide_eq_true_eq, decide_eq_false_iff_not, Bool.not_true, Bool.not_false, Bool.true_eq_false, Bool.false_eq_true, Bool.not_not] at h) | with_reducible apply wN1 | with_reducible apply wN2 | with_reducible apply wN3 | with_reducible apply wN4 | with_reducible apply wN0 | with_reducible apply wE0 | with_reducible apply wXI | with_reducible apply wXB | with_reducible exact tkx | with_reducible exact eK | ((with_reducible apply eL); rfl) | ((with_reducible apply eLR); rfl) | with_reducible exact eAN | with_reducible apply eSub | with_reducible apply eLt | with_reducible apply eGt | with_reducible apply eEq | with_reducible apply eAnd | with_reducible apply eArr2 | with_reducible apply eFld2 | with_reducible apply eAI | with_reducible apply eAR | with_reducible apply eCI | with_reducible apply eCZ | with_reducible apply wRc | with_reducible apply R_Scene_jobs | with_reducible apply R_Jobs_state | with_reducible apply R_Jobs_after | with_reducible apply R_Scheduler_toTakeOff | with_reducible exact S_Scene_jobs (by assumption) | with_reducible exact C_Jobs (S_Scene_jobs (by assumption)) | with_reducible exact K_Jobs_size (by assumption) | with_reducible exact N_Jobs_state (by assumption) | with_reducible exact N_Jobs_after (by assumption) | with_reducible exact C_Scheduler (by assumption) | with_reducible exact N_Scheduler_toTakeOff (by assumption) | with_reducible exact Int.toNat_natCast _ | with_reducible exact tn0 | with_reducible exact tn1 | with_reducible exact tn2 | with_reducible exact tn3 | with_reducible exact tn4 | with_reducible exact tn5 | with_reducible exact tn6 | with_reducible exact tn7 | with_reducible exact tn8 | with_reducible exact tn9 | with_reducible exact tn10 | with_reducible exact tn11 | with_reducible exact tn12 | with_reducible exact tn13 | with_reducible exact tn14 | with_reducible exact tn15 | with_reducible exact tn16 | with_reducible exact tnK0 | with_reducible exact tnK4 | with_reducible exact tnK8 | with_reducible exact tnK12 | with_reducible exact tnK16 | with_reducible exact tnK20 | with_reducible exact tnK24 | with_reducible exact tnK28 | with_reducible exact tnK32 | with_reducible exact tnJA | with_reducible exact tnA | with_reducible exact upR_s | ((with_reducible apply upR_a); (first | decide | omega)) | ((with_reducible apply upR_b); (first | decide | omega)) | ((with_reducible apply cpR_o); (first | decide | omega)) | with_reducible apply lt_pSet1 | with_reducible apply lt_kil | exact Nat.le_of_ble_eq_true rfl | with_reducible assumption | with_reducible exact rfl | omega | with_reducible apply wAnd | decide +kernel
        · exact ⟨_, m + 1, by rw [List.append_assoc, List.singleton_append, List.length_cons, hm3], by rw [show g 1 - 1 - (t : Int) + -1 = g 1 - 1 - ((t + 1 : Nat) : Int) by omega, show ((m + 1 : Nat) : Int) = (m : Int) + 1 by omega]; rfl, rfl, fun y hy => by rw [upZ_ne hy]; exact t1 y hy, by
            rw [List.append_assoc, List.singleton_append]
            refine ⟨by rw [hm3, upR_s]; omega, stkIs_congr _ (fun y hy => ?_) t2⟩
            rw [hm3] at hy
            unfold upZ
            rw [if_neg (by omega)]⟩
        · exact absurd hm80 (h ⟨trivial, trivial⟩)
      · rw [if_neg hk2]
        have hk3 : ¬ (mAt (of1 S.1 r) x 5 = 0 ∧ mAt (of1 S.1 r) x 3 = (r : Int)) := fun h => hk2 (by unfold kidB; simp [h.1, h.2])
        have hxn : x < (of1 S.1 r 1).toNat := by rw [e1]; omega
        have hjo := row_j (of1_row a1 hr1).1 hxn
        have r5 : rg (mAt (of1 S.1 r) x 5) := by have := hjo.2.2.2.2.2.1; unfold rg; omega
        have r3 : rg (mAt (of1 S.1 r) x 3) := by have := hjo.2.2.2.1; have := row_n (of1_row a1 hr1).1 hxn; unfold rg; omega
        repeat' first | with_reducible apply wSeq | with_reducible apply wSkip | with_reducible apply wIf | with_reducible apply wAsI | ((with_reducible apply wInc); rfl) | with_reducible apply wKil | with_reducible apply wRI | with_reducible apply wAst2 | with_reducible apply wVd | with_reducible apply wB_e | (intro h; try simp only [Bool.and_eq_true, Bool.or_eq_true, Bool.not_eq_true', Bool.not_eq_false', Bool.and_eq_false_imp, Bool.or_eq_false_iff, decide_eq_true_eq, decide_eq_false_iff_not, Bool.not_true, Bool.not_false, Bool.true_eq_false, Bool.false_eq_true, Bool.not_not] at h) | with_reducible apply wN1 | with_reducible apply wN2 | with_reducible apply wN3 | with_reducible apply wN4 | with_reducible apply wN0 | with_reducible apply wE0 | with_reducible apply wXI | with_reducible apply wXB | with_reducible exact tkx | with_reducible exact eK | ((with_reducible apply eL); rfl) | ((with_reducible apply eLR); rfl) | with_reducible exact eAN | with_reducible apply eSub | with_reducible apply eLt | with_reducible apply eGt | with_reducible apply eEq | with_reducible apply eAnd | with_reducible apply eArr2 | with_reducible apply eFld2 | with_reducible apply eAI | with_reducible apply eAR | with_reducible apply eCI | with_reducible apply eCZ | with_reducible apply wRc | with_reducible apply R_Scene_jobs | with_reducible apply R_Jobs_state | with_reducible apply R_Jobs_after | with_reducible apply R_Scheduler_toTakeOff | with_reducible exact S_Scene_jobs (by assumption) | with_reducible exact C_Jobs (S_Scene_jobs (by assumption)) | with_reducible exact K_Jobs_size (by assumption) | with_reducible exact N_Jobs_state (by assumption) | with_reducible exact N_Jobs_after (by assumption) | with_reducible exact C_Scheduler (by assumption) | with_reducible exact N_Scheduler_toTakeOff (by assumption) | with_reducible exact Int.toNat_natCast _ | with_reducible exact tn0 | with_reducible exact tn1 | with_reducible exact tn2 | with_reducible exact tn3 | with_reducible exact tn4 | with_reducible exact tn5 | with_reducible exact tn6 | with_reducible exact tn7 | with_reducible exact tn8 | with_reducible exact tn9 | with_reducible exact tn10 | with_reducible exact tn11 | with_reducible exact tn12 | with_reducible exact tn13 | with_reducible exact tn14 | with_reducible exact tn15 | with_reducible exact tn16 | with_reducible exact tnK0 | with_reducible exact tnK4 | with_reducible exact tnK8 | with_reducible exact tnK12 | with_reducible exact tnK16 | with_reducible exact tnK20 | with_reducible exact tnK24 | with_reducible exact tnK28 | with_reducible exact tnK32 | with_reducible exact tnJA | with_reducible exact tnA | with_reducible exact upR_s | ((with_reducible apply upR_a); (first | decide | omega)) | ((with_reducible apply upR_b); (first | decide | omega)) | ((with_reducible apply cpR_o); (first | decide | omega)) | with_reducible apply lt_pSet1 | with_reducible apply lt_kil | exact Nat.le_of_ble_eq_true rfl | with_reducible assumption | with_reducible exact rfl | omega | with_reducible apply wAnd | decide +kernel
        all_goals first | exact absurd h.1 hk3 | exact ⟨G3, m, hm3, by rw [show g 1 - 1 - (t : Int) + -1 = g 1 - 1 - ((t + 1 : Nat) : Int) by omega]; rfl, rfl, t1, t2⟩
    · have et : t = (g 1).toNat - (r + 1) := by omega
      subst et
      rw [show (g 1).toNat - ((g 1).toNat - (r + 1)) = r + 1 by omega] at hm3 t2
      repeat' first | with_reducible apply wSeq | with_reducible apply wSkip | with_reducible apply wIf | with_reducible apply wAsI | ((with_reducible apply wInc); rfl) | with_reducible apply wKil | with_reducible apply wRI | with_reducible apply wAst2 | with_reducible apply wVd | with_reducible apply wB_e | (intro h; try simp only [Bool.and_eq_true, Bool.or_eq_true, Bool.not_eq_true', Bool.not_eq_false', Bool.and_eq_false_imp, Bool.or_eq_false_iff, decide_eq_true_eq, decide_eq_false_iff_not, Bool.not_true, Bool.not_false, Bool.true_eq_false, Bool.false_eq_true, Bool.not_not] at h) | with_reducible apply wN1 | with_reducible apply wN2 | with_reducible apply wN3 | with_reducible apply wN4 | with_reducible apply wN0 | with_reducible apply wE0 | with_reducible apply wXI | with_reducible apply wXB | with_reducible exact eK | ((with_reducible apply eL); rfl) | ((with_reducible apply eLR); rfl) | with_reducible exact eAN | with_reducible apply eSub | with_reducible apply eLt | with_reducible apply eGt | with_reducible apply eEq | with_reducible apply eAnd | with_reducible apply eArr2 | with_reducible apply eFld2 | with_reducible apply eAI | with_reducible apply eAR | with_reducible apply eCI | with_reducible apply eCZ | with_reducible apply wRc | with_reducible apply R_Scene_jobs | with_reducible apply R_Jobs_state | with_reducible apply R_Jobs_after | with_reducible apply R_Scheduler_toTakeOff | with_reducible exact S_Scene_jobs (by assumption) | with_reducible exact C_Jobs (S_Scene_jobs (by assumption)) | with_reducible exact K_Jobs_size (by assumption) | with_reducible exact N_Jobs_state (by assumption) | with_reducible exact N_Jobs_after (by assumption) | with_reducible exact C_Scheduler (by assumption) | with_reducible exact N_Scheduler_toTakeOff (by assumption) | with_reducible exact Int.toNat_natCast _ | with_reducible exact tn0 | with_reducible exact tn1 | with_reducible exact tn2 | with_reducible exact tn3 | with_reducible exact tn4 | with_reducible exact tn5 | with_reducible exact tn6 | with_reducible exact tn7 | with_reducible exact tn8 | with_reducible exact tn9 | with_reducible exact tn10 | with_reducible exact tn11 | with_reducible exact tn12 | with_reducible exact tn13 | with_reducible exact tn14 | with_reducible exact tn15 | with_reducible exact tn16 | with_reducible exact tnK0 | with_reducible exact tnK4 | with_reducible exact tnK8 | with_reducible exact tnK12 | with_reducible exact tnK16 | with_reducible exact tnK20 | with_reducible exact tnK24 | with_reducible exact tnK28 | with_reducible exact tnK32 | with_reducible exact tnJA | with_reducible exact tnA | with_reducible exact upR_s | ((with_reducible apply upR_a); (first | decide | omega)) | ((with_reducible apply upR_b); (first | decide | omega)) | ((with_reducible apply cpR_o); (first | decide | omega)) | with_reducible apply lt_pSet1 | with_reducible apply lt_kil | exact Nat.le_of_ble_eq_true rfl | with_reducible assumption | with_reducible exact rfl | omega | with_reducible apply wAnd | decide +kernel
      have hst := off_step f4
      exact ⟨_, _, m, G3, U2, hm3, by rw [show ((i + 1 : Nat) : Int) = (i : Int) + 1 by omega]; rfl, rfl, fun x a b => (t1 x b).trans (q1 x a b), q2, t2, hst, scR_fr p3 (fun x _ _ => t1 x (by omega)) rfl rfl⟩
