/-! ===== a call of both: a rule or a number of an account is set ===== -/
def lowB (b : Nat) : Prop := b < 24 ∧ b ≠ 0 ∧ b ≠ 1 ∧ b ≠ 5 ∧ b ≠ 6 ∧ b ≠ 7
theorem low_at {g : Nat → Int} {b : Nat} {v : Int} (h : lowB b) (j w : Nat) : mAt (put g b v) j w = mAt g j w := by
  have := h.1
  unfold mAt
  exact put_o (by omega)
theorem low_sp {g : Nat → Int} {b : Nat} {v : Int} (h : lowB b) (j w : Nat) : mSpan (put g b v) j w = mSpan g j w := by
  have := h.1
  unfold mSpan
  exact put_o (by omega)
theorem low_0 {g : Nat → Int} {b : Nat} {v : Int} (h : lowB b) : put g b v 0 = g 0 ∧ put g b v 1 = g 1 ∧ put g b v 5 = g 5 ∧ put g b v 6 = g 6 ∧ put g b v 7 = g 7 := by
  obtain ⟨a, b, c, d, e, f⟩ := h
  exact ⟨put_o (by omega), put_o (by omega), put_o (by omega), put_o (by omega), put_o (by omega)⟩
theorem low_ho {g : Nat → Int} {b c j a : Nat} {v : Int} (h : lowB b) : hoC (put g b v) c j a ↔ hoC g c j a := by
  obtain ⟨a0, a1, -⟩ := low_0 (g := g) (v := v) h
  unfold hoC mHolds mHeldBits mArms
  simp only [low_at h, a0, a1]
def lowOk (b : Nat) (v : Int) : Prop := (b = 2 → 0 ≤ v ∧ v ≤ 4) ∧ (b = 3 → 0 ≤ v ∧ v ≤ 80) ∧ (b = 4 → 0 ≤ v ∧ v ≤ 100) ∧ (8 ≤ b → b < 16 → 1 ≤ v ∧ v ≤ 100) ∧ (16 ≤ b → b < 24 → 0 ≤ v ∧ v ≤ 16)
theorem low_row {g : Nat → Int} {b : Nat} {v : Int} (h : lowB b) (hv : lowOk b v) (hI : rowI g) : rowI (put g b v) := by
  obtain ⟨a0, a1, a5, a6, a7⟩ := low_0 (g := g) (v := v) h
  obtain ⟨⟨r1, r2, r3, r4, r5, r6, r7, r8, r9, r10, r11, r12, r13, r14⟩, hcol, hdis, hrun, hsta⟩ := hI
  obtain ⟨v2, v3, v4, v8, v16⟩ := hv
  have hb := h
  obtain ⟨b1, b2, b3, b4, b5, b6⟩ := h
  have hc : ∀ x, x ≠ b → put g b v x = g x := fun x hx => put_o hx
  have hbv : put g b v b = v := put_at
  refine ⟨⟨fun x => ?_, by rw [a0]; exact r2, by rw [a1]; exact r3, ?_, ?_, ?_, by rw [a5]; exact r7, by rw [a6]; exact r8, by rw [a7]; exact r9, fun a ha => ?_, fun a ha => ?_, fun j hj => ?_, fun s hs => ?_, fun j hj h5 => ?_⟩, ?_, ?_, ?_, ?_⟩
  · by_cases c : x = b
    · subst c
      rw [hbv]
      by_cases c8 : x < 8
      · have : x = 2 ∨ x = 3 ∨ x = 4 := by omega
        rcases this with e | e | e
        · have := v2 e; omega
        · have := v3 e; omega
        · have := v4 e; omega
      · by_cases c16 : x < 16
        · have := v8 (by omega) c16; omega
        · have := v16 (by omega) b1; omega
    · rw [hc x c]; exact r1 x
  · by_cases c : 2 = b
    · rw [c, hbv]; exact v2 c.symm
    · rw [hc 2 c]; exact r4
  · by_cases c : 3 = b
    · rw [c, hbv]; exact v3 c.symm
    · rw [hc 3 c]; exact r5
  · by_cases c : 4 = b
    · rw [c, hbv]; exact v4 c.symm
    · rw [hc 4 c]; exact r6
  · by_cases c : 8 + a = b
    · rw [c, hbv]; exact v8 (by omega) (by omega)
    · rw [hc _ c]; exact r10 a ha
  · by_cases c : 16 + a = b
    · rw [c, hbv]; exact v16 (by omega) (by omega)
    · rw [hc _ c]; exact r11 a ha
  · rw [a1] at hj
    have := r12 j hj
    unfold jOk aOk mArms at *
    simp only [low_at hb, a0]
    exact this
  · have := r13 s hs
    unfold spOk at *
    simp only [low_sp hb, a0, a5]
    exact this
  · rw [a1] at hj
    rw [low_at hb] at h5
    rw [a6]
    exact r14 j hj h5
  · intro j a hj ha
    rw [a1] at hj
    unfold mArms at ha
    rw [low_at hb] at ha
    rw [low_at hb, low_at hb]
    exact hcol j a hj ha
  · intro c j a j' a' h1 h2
    exact hdis c j a j' a' ((low_ho hb).mp h1) ((low_ho hb).mp h2)
  · intro j hj h5
    rw [a1] at hj
    rw [low_at hb] at h5
    obtain ⟨a, q1, q2⟩ := hrun j hj h5
    refine ⟨a, ?_, by rw [a0, low_at hb]; exact q2⟩
    unfold mArms at *
    rw [low_at hb]
    exact q1
  · unfold staTo at *
    simp only [low_at hb, a1, a6]
    exact hsta
theorem low_rowP {g : Nat → Int} {b : Nat} {v : Int} (h : lowB b) (hP : rowP g) : rowP (put g b v) := by
  obtain ⟨a0, a1, -⟩ := low_0 (g := g) (v := v) h
  obtain ⟨p2, p3, p4⟩ := hP
  refine ⟨?_, ?_, fun x hx hx2 => by rw [put_o (by have := h.1; omega)]; exact p4 x hx hx2⟩
  · unfold arms4 at *
    simp only [low_at h]
    exact p2
  · unfold promTo at *
    simp only [low_at h, a1]
    exact p3
theorem low_sc {G G' U U' : Nat → Nat → Int} {e s b : Nat} {g u : Nat → Int} {v : Int} (h : lowB b) (hI : rowI g) (hS : scR false 0 e G U s g u) (hB : relB G' U' s (put g b v) u) (hG : ∀ x, s ≤ x → x < s + 39 → x ≠ s + 1 → x ≠ s + 2 → x ≠ s + 4 → G' x = G x) (h33 : U' (s + 33) = U (s + 33)) : scR false 0 e G' U' s (put g b v) u := by
  obtain ⟨⟨z0, hSB, hSJ, hSA, hSO, hSS, hST, hSe, hSK⟩, hSQ⟩ := hS
  obtain ⟨a0, a1, a5, a6, a7⟩ := low_0 (g := g) (v := v) h
  have hrow := hI.1
  have a4 : ∀ x, x < (g 1).toNat → mArms g x ≤ 4 := fun x hx => (jo_4 (row_j hrow hx)).2.1
  have hhi : ∀ x, 24 ≤ x → put g b v x = g x := fun x hx => put_o (by have := h.1; omega)
  obtain ⟨kF, kL, kE, kC⟩ := hSK rfl
  refine ⟨⟨by rw [hG s (by omega) (by omega) (by omega) (by omega) (by omega)]; exact z0, hB, ?_, ?_, ?_, ?_, ?_, by rw [hG _ (by omega) (by omega) (by omega) (by omega) (by omega)]; exact hSe, fun _ => ⟨?_, ?_, ?_, ?_⟩⟩, ?_⟩
  · exact relJ_g (relJ_r hSJ fun x _ _ => hG x (by omega) (by omega) (by omega) (by omega) (by omega)) a1 a4 (fun x w _ _ _ _ => low_at h x w)
  · exact relA_g (relA_r hSA fun x _ _ => hG x (by omega) (by omega) (by omega) (by omega) (by omega)) a1 (fun x hx => ⟨a4 x hx, low_at h x 4⟩) (fun x w _ _ _ => low_at h x w)
  · exact relO_g (relO_r hSO (hG _ (by omega) (by omega) (by omega) (by omega) (by omega))) fun c x a => low_ho h
  · exact relS_g (relS_r hSS fun x _ _ => hG x (by omega) (by omega) (by omega) (by omega) (by omega)) a5 (fun b h1 _ => hhi b h1)
  · exact relT_g (relT_r hST (by rw [hG _ (by omega) (by omega) (by omega) (by omega) (by omega)]) (hG _ (by omega) (by omega) (by omega) (by omega) (by omega))) a6 hrow.2.2.2.2.2.2.2.1.2 (fun b h1 _ => hhi b (by omega))
  · exact relF_g (relF_r kF (hG _ (by omega) (by omega) (by omega) (by omega) (by omega))) a1 (fun x _ => low_at h x 8)
  · intro i hi
    rw [h33]
    exact kL i hi
  · exact relE_g (relE_r kE fun x _ _ => hG x (by omega) (by omega) (by omega) (by omega) (by omega)) a7 (fun b h1 _ => hhi b (by omega))
  · exact relC_g (relC_r kC (hG _ (by omega) (by omega) (by omega) (by omega) (by omega))) (fun b h1 _ => hhi b (by omega))
  · intro j hj
    rw [a1] at hj
    obtain ⟨k1, k2⟩ := hSQ j hj
    unfold mArms at *
    simp only [low_at h]
    rw [hG (s + 18) (by omega) (by omega) (by omega) (by omega) (by omega), hG (s + 24) (by omega) (by omega) (by omega) (by omega) (by omega)]
    exact ⟨k1, k2⟩
/-- a low cell of the row and of the scene set: what holds goes on -/
theorem low_all {c b : Nat} {G G' U : Nat → Nat → Int} {v : Int} (h : lowB b) (hv : lowOk b v) (hg : allI c G U) (hB : ∀ u, relB G U 1 (G 180) u → relB G' U 1 (put (G 180) b v) u) (hG : ∀ x, x ≠ 2 → x ≠ 3 → x ≠ 5 → x ≠ 180 → G' x = G x) (h180 : G' 180 = put (G 180) b v) : allI (c + 1) G' U := by
  obtain ⟨⟨e, he, hS, hI, hP, hnow, hub⟩, hside2, hq, htp, h193, h98⟩ := hg
  obtain ⟨a0, -⟩ := low_0 (g := G 180) (v := v) h
  refine ⟨⟨e, ⟨by omega, by rw [h180, (low_0 (g := G 180) (v := v) h).2.2.1]; omega⟩, ?_, by rw [h180]; exact low_row h hv hI, by rw [h180]; exact low_rowP h hP, by rw [h180, a0]; exact hnow, by rw [h180, a0]; exact hub⟩, ?_, quiet_fr hq (hG _ (by omega) (by omega) (by omega) (by omega)), tapesI_fr htp (hG _ (by omega) (by omega) (by omega) (by omega)) (hG _ (by omega) (by omega) (by omega) (by omega)) (hG _ (by omega) (by omega) (by omega) (by omega)) (hG _ (by omega) (by omega) (by omega) (by omega)), fun k => by rw [hG _ (by omega) (by omega) (by omega) (by omega)]; exact h193 k, aheadI_fr h98 (by omega) (by rw [hG _ (by omega) (by omega) (by omega) (by omega)]) (by rw [hG _ (by omega) (by omega) (by omega) (by omega)])⟩
  · rw [h180]
    exact low_sc h hI hS (hB _ hS.1.2.1) (fun x _ _ _ _ _ => hG x (by omega) (by omega) (by omega) (by omega)) rfl
  · exact sideI_fr hside2 (by omega) (fun x _ _ => hG x (by omega) (by omega) (by omega) (by omega)) (hG _ (by omega) (by omega) (by omega) (by omega)) rfl rfl rfl
