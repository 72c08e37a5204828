/-! ===== p42: what the law knows between two calls; what a tick does to it ===== -/
def endTo (g : Nat → Int) (n : Nat) : Int := sumTo (fun j => if decide (mAt g j 5 = 2 ∨ mAt g j 5 = 3) = true then 1 else 0) n
def lawI (a n : Nat) (sp : Nat → Nat → Int) (g u : Nat → Int) : Prop := armI g (g 0) ∧ limI g a ∧ (u 8 = g 6 ∧ u 9 + u 10 = endTo g (g 1).toNat) ∧ ∀ s, s < n → spI1 g (sp s)
theorem endTo_congr {g g' : Nat → Int} {n : Nat} (h : ∀ j, j < n → (mAt g' j 5 = 2 ∨ mAt g' j 5 = 3 ↔ mAt g j 5 = 2 ∨ mAt g j 5 = 3)) : endTo g' n = endTo g n := by
  unfold endTo
  exact sumTo_congr fun j hj => by (try dsimp only); rw [decide_eq_decide.mpr (h j hj)]
/-- what holds behind a pass -/
def pasI (t : Int) (m a n : Nat) (sp : Nat → Nat → Int) (U : Nat → Nat → Int) (s : Nat → Int) (V : Nat → Nat → Int) : Prop := armI s (t + 1) ∧ limI s a ∧ (V 183 8 = s 6 ∧ V 183 9 + V 183 10 = endTo s m ∧ V 183 14 = U 183 14) ∧ ∀ i, i < n → spI1 s (sp i)
theorem law_pass {a n : Nat} {sp : Nat → Nat → Int} {g old : Nat → Int} {U : Nat → Nat → Int} (ha : a < 8) (hI : rowI g) (h : lawI a n sp g (U 183)) : pasI (g 0) (g 1).toNat a n sp U (passAll g U old).1 (passAll g U old).2.1 := by
  obtain ⟨hA, hL, ⟨hu8, hu9⟩, hS⟩ := h
  have hrow := hI.1
  refine pass_ind (P := pasI (g 0) (g 1).toNat a n sp U) hI ?_ ?_ ?_
  · have hI0 : rowI (p0G g) := (pass_all (U := U) (old := old) hI 0 (Nat.zero_le _)).1
    have e1 : p0G g 1 = g 1 := p0_lo (by omega)
    refine ⟨armI_le hI0.1 (by omega) (armI_p0 hrow hA), limI_less hI hI0 (fun j hj _ => p0_at (by omega) (by omega)) (by rw [e1]; exact Nat.le_refl _) (fun c j a h => (p0_ho hrow).mp h) (p0_lo (by omega)) hL, ⟨?_, ?_, ?_⟩, fun i hi => spI_p0 hrow (hS i hi)⟩
    · unfold p0U upZ
      rw [if_neg (by omega), p0_lo (by omega)]
      exact hu8
    · unfold p0U upZ
      rw [if_neg (by omega), if_neg (by omega), endTo_congr (g := g) (fun j hj => by rw [p0_at (by omega) (by omega)])]
      exact hu9
    · unfold p0U upZ
      rw [if_neg (by omega)]
  · intro s V j f w z hIs eb hj h5 h9 ho hf ⟨q1, q2, ⟨q3, q4, q5⟩, q6⟩
    have e0 : s 0 = g 0 := eb 0 (by omega) (by omega) (by omega)
    have hrs := hIs.1
    have hjo := row_j hrs hj
    have h4 := jo_4 hjo
    have hn := row_n hrs hj
    have h6n : mAt s j 6 = -1 := hjo.2.2.2.2.2.2.2.2.2.2.2.2.1 h5
    have r6 : 0 ≤ s 6 ∧ s 6 < 80 := ⟨hrs.2.2.2.2.2.2.2.1.1, row_6 hIs hj (by omega)⟩
    have e1 : s 1 = g 1 := eb 1 (by omega) (by omega) (by omega)
    have hV : ∀ x, x ≠ 8 → x ≠ 13 → x ≠ 12 → upZ (starU V w) 183 12 z 183 x = V 183 x := fun x h1 h2 h3 => by
      unfold starU
      simp [upZ, h1, h2, h3]
    refine ⟨armI_star hIs hj h5 hf (by omega) q1, limI_star ha hIs hj h5 h9 ho hf q2, ⟨?_, ?_, ?_⟩, fun i hi => spI_star hIs hj h5 hf (q6 i hi)⟩
    · rw [starF_6, ← q3]
      unfold starU
      simp [upZ]
    · rw [hV 9 (by omega) (by omega) (by omega), hV 10 (by omega) (by omega) (by omega), q4]
      refine (endTo_congr fun x hx => ?_).symm
      rw [← e1] at hx
      by_cases ex : x = j
      · rw [ex, star_5 hn h4.2.1 r6, h5]
        omega
      · rw [star_at hn (row_n hrs hx) (by omega) h4.2.1 r6 (Or.inl ex)]
    · rw [hV 14 (by omega) (by omega) (by omega)]
      exact q5
  · intro s V j t was f hIs eb hj ⟨q1, q2, ⟨q3, q4, q5⟩, q6⟩
    have hrs := hIs.1
    have h4 := (jo_4 (row_j hrs hj)).2.1
    have e1 : s 1 = g 1 := eb 1 (by omega) (by omega) (by omega)
    refine ⟨armI_prom hrs hj q1, ?_, ⟨by rw [promF_lo (by omega) (by omega)]; exact q3, ?_, q5⟩, fun i hi => spI_prom hrs hj (q6 i hi)⟩
    · unfold limI heldF at *
      rw [promF_lo (by omega) (by omega), promF_lo (by omega) (by omega)]
      refine Int.le_trans (Int.le_of_eq ?_) q2
      refine sumTo_congr fun x hx => ?_
      have hx8 := row_n hrs hx
      have hx4 := (jo_4 (row_j hrs hx)).2.1
      have em : mArms (promF s j t (mArms s j) f.2 was) x = mArms s x := congrArg Int.toNat (prom_o hx8 (by omega) h4 (Or.inr (by omega)))
      (try dsimp only)
      rw [em]
      refine sumTo_congr fun b hb => ?_
      unfold heldArm mHolds
      rw [promF_lo (by omega) (by omega), prom_o hx8 (by omega) h4 (Or.inr (by omega)), prom_o hx8 (by omega) h4 (Or.inr (by omega)), prom_o hx8 (by omega) h4 (Or.inr (by omega)), prom_o hx8 (by omega) h4 (Or.inr (by omega))]
    · rw [q4]
      refine (endTo_congr fun x hx => ?_).symm
      rw [← e1] at hx
      rw [prom_o (row_n hrs hx) (by omega) h4 (Or.inr (by omega))]
/-! the sums behind a tick -/
theorem useU_is {g : Nat → Int} {V : Nat → Nat → Int} (hrow : rowOk g) : ∀ n, (∀ k : Nat, k < 8 → useU g V n 183 k = V 183 k + heldTo g (k : Int) n) ∧ useU g V n 183 14 = V 183 14 + sumTo (fun c => if holderF g c < 0 then 1 else 0) n ∧ ∀ x, x = 8 ∨ x = 9 ∨ x = 10 → useU g V n 183 x = V 183 x
  | 0 => by
    refine ⟨fun k _ => ?_, ?_, fun x _ => rfl⟩
    · show V 183 k = V 183 k + 0
      omega
    · show V 183 14 = V 183 14 + 0
      omega
  | n + 1 => by
    obtain ⟨i1, i2, i3⟩ := useU_is (V := V) hrow n
    have hh : ∀ k : Nat, heldTo g (k : Int) (n + 1) = heldTo g (k : Int) n + (if hoAcc g (k : Int) n = true then 1 else 0) := fun k => rfl
    have hi : sumTo (fun c => if holderF g c < 0 then (1 : Int) else 0) (n + 1) = sumTo (fun c => if holderF g c < 0 then (1 : Int) else 0) n + (if holderF g n < 0 then 1 else 0) := rfl
    by_cases c : holderF g n < 0
    · refine ⟨fun k hk => ?_, ?_, fun x hx => ?_⟩
      · rw [useU_s, if_pos c, if_neg (by omega), i1 k hk, hh k, if_neg (by unfold hoAcc; simp; omega)]
        omega
      · rw [useU_s, if_pos c, if_pos rfl, i2, hi, if_pos c]
        omega
      · rw [useU_s, if_pos c, if_neg (by omega)]
        exact i3 x hx
    · have h1 := holderF_rg (g := g) (c := n)
      have hn := hrow.2.2.1
      rw [if_pos hn.1] at h1
      have h0 := (row_j hrow (j := (holderF g n).toNat) (by omega)).1
      refine ⟨fun k hk => ?_, ?_, fun x hx => ?_⟩
      · rw [useU_s, if_neg c, hh k, i1 k hk]
        by_cases e : k = (mAt g (holderF g n).toNat 0).toNat
        · rw [if_pos e, if_pos (by unfold hoAcc; simp only [Bool.and_eq_true, decide_eq_true_eq]; omega)]
          omega
        · rw [if_neg e, if_neg (by unfold hoAcc; simp only [Bool.and_eq_true, decide_eq_true_eq]; omega)]
          omega
      · rw [useU_s, if_neg c, if_neg (by omega), i2, hi, if_neg c]
        omega
      · rw [useU_s, if_neg c, if_neg (by omega)]
        exact i3 x hx
def gonT (g : Nat → Int) (n : Nat) : Int := sumTo (fun k => if goneB g k = true then 1 else 0) n
theorem endR_sums {g : Nat → Int} {V : Nat → Nat → Int} (hrow : rowOk g) : ∀ i, i ≤ (g 1).toNat → (∀ x, x ≠ 9 → x ≠ 10 → (endR (nowG g, V) i).2 183 x = V 183 x) ∧ (endR (nowG g, V) i).2 183 9 + (endR (nowG g, V) i).2 183 10 = V 183 9 + V 183 10 + gonT g i
  | 0, _ => ⟨fun _ _ _ => rfl, by show V 183 9 + V 183 10 = V 183 9 + V 183 10 + 0; omega⟩
  | i + 1, hi => by
    obtain ⟨i1, i2⟩ := endR_sums (V := V) hrow i (by omega)
    have hg : gonT g (i + 1) = gonT g i + (if goneB g i = true then 1 else 0) := rfl
    rw [endR_turn hrow (by omega), hg]
    by_cases c : goneB g i = true
    · rw [if_pos c, if_pos c]
      (try dsimp only)
      have hk : (cutK g i = 2 ∧ 8 + (cutK g i - 1).toNat = 9) ∨ (cutK g i = 3 ∧ 8 + (cutK g i - 1).toNat = 10) := by
        unfold cutK
        split
        · exact Or.inr ⟨rfl, rfl⟩
        · exact Or.inl ⟨rfl, rfl⟩
      rcases hk with ⟨-, hk⟩ | ⟨-, hk⟩
      · rw [hk]
        refine ⟨fun x h1 h2 => ?_, ?_⟩
        · have : ∀ v : Int, upZ (endR (nowG g, V) i).2 183 9 v 183 x = (endR (nowG g, V) i).2 183 x := fun v => by simp [upZ, h1]
          rw [this]
          exact i1 x h1 h2
        · have e9 : ∀ v : Int, upZ (endR (nowG g, V) i).2 183 9 v 183 9 = v := fun v => by simp [upZ]
          have e10 : ∀ v : Int, upZ (endR (nowG g, V) i).2 183 9 v 183 10 = (endR (nowG g, V) i).2 183 10 := fun v => by simp [upZ]
          rw [e9, e10]
          omega
      · rw [hk]
        refine ⟨fun x h1 h2 => ?_, ?_⟩
        · have : ∀ v : Int, upZ (endR (nowG g, V) i).2 183 10 v 183 x = (endR (nowG g, V) i).2 183 x := fun v => by simp [upZ, h2]
          rw [this]
          exact i1 x h1 h2
        · have e9 : ∀ v : Int, upZ (endR (nowG g, V) i).2 183 10 v 183 10 = v := fun v => by simp [upZ]
          have e10 : ∀ v : Int, upZ (endR (nowG g, V) i).2 183 10 v 183 9 = (endR (nowG g, V) i).2 183 9 := fun v => by simp [upZ]
          rw [e9, e10]
          omega
    · rw [if_neg c, if_neg c]
      exact ⟨i1, by omega⟩
theorem gon_end {g g' : Nat → Int} : ∀ n, (∀ k, k < n → mAt g' k 5 = if goneB g k = true then cutK g k else mAt g k 5) → endTo g' n = endTo g n + gonT g n
  | 0, _ => rfl
  | n + 1, h => by
    have ih := gon_end n fun k hk => h k (by omega)
    have e1 : endTo g' (n + 1) = endTo g' n + (if decide (mAt g' n 5 = 2 ∨ mAt g' n 5 = 3) = true then 1 else 0) := rfl
    have e2 : endTo g (n + 1) = endTo g n + (if decide (mAt g n 5 = 2 ∨ mAt g n 5 = 3) = true then 1 else 0) := rfl
    have e3 : gonT g (n + 1) = gonT g n + (if goneB g n = true then 1 else 0) := rfl
    have hn := h n (by omega)
    rw [e1, e2, e3, ih]
    by_cases c : goneB g n = true
    · rw [if_pos c] at hn ⊢
      have h5 : mAt g n 5 = 1 := by
        unfold goneB at c
        rw [Bool.and_eq_true] at c
        exact of_decide_eq_true c.1
      have hc : cutK g n = 2 ∨ cutK g n = 3 := by unfold cutK; split <;> simp
      rw [if_pos (decide_eq_true (by omega)), if_neg (by rw [h5]; decide)]
      omega
    · rw [if_neg c] at hn ⊢
      rw [hn]
      omega
/-- what the law reads off behind a tick -/
def tickR (t : Int) (P g' u u' : Nat → Int) : Prop := (∀ c : Nat, c < 16 → chV g' c = orN (holderF P c)) ∧ (∀ x k c : Nat, x < (g' 1).toNat → k < mArms g' x → c < 16 → (hoC P c x k ↔ 0 ≤ mAt g' x 6 ∧ t < mAt g' x (24 + k) ∧ mAt g' x (20 + k) ≤ (c : Int) ∧ (c : Int) < mAt g' x (20 + k) + mAt g' x (12 + k))) ∧ (∀ k : Nat, k < 8 → u' k = if 0 < g' 4 ∧ (t + 1) % g' 4 = 0 then (u k + heldTo P (k : Int) 16) / 2 else u k + heldTo P (k : Int) 16) ∧ u' 14 = u 14 + sumTo (fun c => if holderF P c < 0 then 1 else 0) 16
theorem law_tick {a n : Nat} {sp : Nat → Nat → Int} {g : Nat → Int} {U : Nat → Nat → Int} (ha : a < 8) (hT : tkI (g, U)) (hnow : g 0 < 110000) (h : lawI a n sp g (U 183)) : ∃ P, rowI P ∧ P 1 = g 1 ∧ P 0 = g 0 ∧ (∀ x w, x < (g 1).toNat → w < 32 → w ≠ 5 → w ≠ 7 → mAt (tkF (g, U)).1 x w = mAt P x w) ∧ heldTo P (a : Int) 16 ≤ (tkF (g, U)).1 (16 + a) ∧ (∀ s, s < n → spI1 P (sp s)) ∧ armI P (g 0 + 1) ∧ lawI a n sp (tkF (g, U)).1 ((tkF (g, U)).2 183) ∧ tickR (g 0) P (tkF (g, U)).1 (U 183) ((tkF (g, U)).2 183) := by
  have hI : rowI g := hT.1
  obtain ⟨i1, i2, i3, i4, -, -, i7⟩ := passAll_ok (U := U) (old := fun _ => 0) hI
  obtain ⟨q1, q2, ⟨q3, q4, q5⟩, q6⟩ := law_pass (old := fun _ => 0) ha hI h
  have e0 := i3 0 (by omega) (by omega) (by omega)
  have e1 := i3 1 (by omega) (by omega) (by omega)
  have e4 := i3 4 (by omega) (by omega) (by omega)
  have hK := tkF_I hT hnow
  have hI' := hK.1.1
  have hT1 : (tkF (g, U)).1 = tailG (passAll g U (fun _ => 0)).1 (passAll g U (fun _ => 0)).2.1 := rfl
  have hT2 : (tkF (g, U)).2 = tailU (passAll g U (fun _ => 0)).1 (passAll g U (fun _ => 0)).2.1 := rfl
  rw [hT1] at hI' ⊢
  rw [hT2]
  clear hK hT1 hT2
  generalize (passAll g U (fun _ => 0)).2.1 = V at *
  generalize (passAll g U (fun _ => 0)).1 = P at *
  have hrow := i1.1
  have hle := Nat.le_refl (P 1).toNat
  have hti : tailG P V = midG P (useU P V 16) (P 1).toNat := tail_is
  have t1 : tailG P V 1 = P 1 := by rw [hti]; exact mid_lo hrow hle (by omega) (by omega) (by omega)
  have t0 : tailG P V 0 = P 0 + 1 := by rw [hti]; exact mid_0 hrow hle
  have t4 : tailG P V 4 = P 4 := by rw [hti]; exact mid_lo hrow hle (by omega) (by omega) (by omega)
  have t6 : tailG P V 6 = P 6 := by rw [hti]; exact mid_lo hrow hle (by omega) (by omega) (by omega)
  have tl : tailG P V (16 + a) = P (16 + a) := by rw [hti]; exact mid_lo hrow hle (by omega) (by omega) (by omega)
  have tm : ∀ x w, x < 80 → w < 32 → w ≠ 5 → w ≠ 7 → mAt (tailG P V) x w = mAt P x w := fun x w h1 h2 h3 h4 => by rw [hti]; exact mid_at hrow hle h1 h2 h3 h4
  have tho : ∀ c k b, hoC (tailG P V) c k b ↔ hoN P c k b := fun c k b => by rw [hti]; exact mid_ho hrow hle
  have hA' := armI_tail (U := V) i1 (by rw [e0]; exact q1)
  have hlim : heldTo P (a : Int) 16 ≤ P (16 + a) := by
    rw [← heldF_is hrow i1.2.2.1]
    exact q2
  obtain ⟨u1, u2, u3⟩ := useU_is (V := V) hrow 16
  have hend := endR_sums (V := useU P V 16) hrow (P 1).toNat hle
  have hE : endS P V = endR (nowG P, useU P V 16) (P 1).toNat := rfl
  have c0 : (endS P V).1 0 = P 0 + 1 := by
    have := (endR_fact (g := nowG P) (U := useU P V 16) (by rw [now_lo (by omega) (by omega)]; exact hrow.2.2.2.2.2.2.2.2.1) (P 1).toNat (by have := hrow.2.2.1; omega)).1 0 (by omega) (by omega)
    rw [hE, this, now_0]
  have c4 : (endS P V).1 4 = P 4 := by
    have := (endR_fact (g := nowG P) (U := useU P V 16) (by rw [now_lo (by omega) (by omega)]; exact hrow.2.2.2.2.2.2.2.2.1) (P 1).toNat (by have := hrow.2.2.1; omega)).1 4 (by omega) (by omega)
    rw [hE, this, now_lo (by omega) (by omega)]
  have hU8 : ∀ x, 8 ≤ x → tailU P V 183 x = (endS P V).2 183 x := fun x hx => by
    unfold tailU
    split
    · exact (halU_o 8 x).2 hx
    · rfl
  have hUk : ∀ k : Nat, k < 8 → tailU P V 183 k = if 0 < P 4 ∧ (g 0 + 1) % P 4 = 0 then (U 183 k + heldTo P (k : Int) 16) / 2 else U 183 k + heldTo P (k : Int) 16 := fun k hk => by
    have hv : (endS P V).2 183 k = U 183 k + heldTo P (k : Int) 16 := by
      rw [hE, hend.1 k (by omega) (by omega), u1 k hk, i4 k hk]
    unfold tailU
    rw [c0, c4, e0]
    split
    · rw [(halU_o 8 k).1 hk, hv]
    · exact hv
  refine ⟨P, i1, e1, e0, fun x w hx hw h5 h7 => ?_, by rw [tl]; exact hlim, q6, q1, ⟨hA', ?_, ⟨?_, ?_⟩, fun s hs => spI_tail i1 (q6 s hs)⟩, ?_, ?_, fun k hk => by rw [t4]; exact hUk k hk, ?_⟩
  · rw [← e1] at hx
    exact tm x w (row_n hrow hx) hw h5 h7
  · exact limI_less i1 hI' (fun j hj _ => by rw [t1] at hj; exact tm j 0 (row_n hrow hj) (by omega) (by omega) (by omega)) (by rw [t1]; exact Nat.le_refl _) (fun c j b h => hoN_hoC ((tho c j b).mp h)) tl q2
  · rw [hU8 8 (by omega), hE, hend.1 8 (by omega) (by omega), u3 8 (by omega), q3, t6]
  · rw [hU8 9 (by omega), hU8 10 (by omega), hE, hend.2, u3 9 (by omega), u3 10 (by omega), q4, t1, ← e1]
    refine (gon_end _ fun k hk => ?_).symm
    have := mid_57 (U := useU P V 16) hrow hle hk (w := 5) (Or.inl rfl)
    rw [if_pos rfl] at this
    rw [hti, this]
    by_cases c : goneB P k = true
    · rw [if_pos ⟨hk, c⟩, if_pos c]
    · rw [if_neg fun h => c h.2, if_neg c]
  · intro c hc
    have hp0 := hrow.2.1
    unfold chV
    rw [t0, if_neg (by omega), show P 0 + 1 - 1 = P 0 by omega]
    congr 1
    rw [hti, mid_hi hrow hle (Or.inr (by omega))]
    unfold nowG
    rw [put_o (by omega)]
    unfold chaG chRow
    rw [if_pos (by omega)]
    congr 1
    omega
  · intro x k c hx hk hc
    rw [t1] at hx
    have hx8 := row_n hrow hx
    have em : mArms (tailG P V) x = mArms P x := by unfold mArms; rw [tm x 4 hx8 (by omega) (by omega) (by omega)]
    rw [em] at hk
    have hjo := row_j hrow hx
    have hk4 : k < 4 := by have := (jo_4 hjo).2.1; omega
    have hao := jo_a hjo hk
    rw [tm x 6 hx8 (by omega) (by omega) (by omega), tm x (24 + k) hx8 (by omega) (by omega) (by omega), tm x (20 + k) hx8 (by omega) (by omega) (by omega), tm x (12 + k) hx8 (by omega) (by omega) (by omega)]
    constructor
    · rintro ⟨-, -, h3, h4⟩
      obtain ⟨h5, h6⟩ := holds_1 h3
      have h7 := hao.2.2.2.2.1 h5
      unfold mHeldBits at h4
      rw [bitsN_test, Bool.and_eq_true, decide_eq_true_eq, decide_eq_true_eq] at h4
      exact ⟨hjo.2.2.2.2.2.2.2.2.2.2.2.2.2.1 h5, by omega, by omega, by omega⟩
    · rintro ⟨h1, h2, h3, h4⟩
      obtain ⟨p5, p6, pa⟩ := q1 x hx h1
      obtain ⟨r1, r2, r3, r4, r5⟩ := pa k hk
      have h5 : mAt P x 5 = 1 := by
        by_cases q : mAt P x 5 = 1
        · exact q
        · have := r5 q
          omega
      refine ⟨hx, hk, holds_2 ⟨h5, by omega⟩, ?_⟩
      unfold mHeldBits
      rw [bitsN_test, Bool.and_eq_true, decide_eq_true_eq, decide_eq_true_eq]
      omega
  · rw [hU8 14 (by omega), hE, hend.1 14 (by omega) (by omega), u2, q5]
/-! what other calls leave of it -/
theorem law_of1 {a n : Nat} {sp : Nat → Nat → Int} {g u : Nat → Int} {j : Nat} (ha : a < 8) (hI : rowI g) (hj : j < (g 1).toNat) (h1 : mAt g j 5 ≤ 1) (h : lawI a n sp g u) : lawI a n sp (of1 g j) u := by
  obtain ⟨hA, hL, ⟨hu8, hu9⟩, hS⟩ := h
  have hrow := hI.1
  have e1 : of1 g j 1 = g 1 := of1_lo (by omega) (by omega)
  have hIo := of1_row hI hj
  refine ⟨by rw [of1_lo (by omega) (by omega)]; exact armI_of1 hI hj (Int.le_refl _) hA, limI_less hI hIo (fun x hx _ => by rw [e1] at hx; exact of1_o hrow hj (row_n hrow hx) (by omega) (Or.inr (by omega))) (by rw [e1]; exact Nat.le_refl _) (fun c x b h => ((of1_ho hrow hj).mp h).1) (of1_lo (by omega) (by omega)) hL, ⟨by rw [of1_lo (by omega) (by omega)]; exact hu8, ?_⟩, fun s hs => spI_of1 hI hj (hS s hs)⟩
  rw [e1, hu9]
  refine (endTo_congr fun x hx => ?_).symm
  by_cases ex : x = j
  · rw [ex, of1_cell hrow hj (row_n hrow hj) (by omega), if_neg (by omega), if_neg (by omega), if_pos ⟨rfl, rfl⟩]
    omega
  · rw [of1_o hrow hj (row_n hrow hx) (by omega) (Or.inl ex)]
