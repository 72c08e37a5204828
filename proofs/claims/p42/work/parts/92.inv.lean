/-! ===== what holds between two calls ===== -/
theorem offL_ind {P : (Nat → Int) → Prop} {rec : oSt → Nat → oSt × Int} {j : Nat} {s0 : oSt × Int} (hrec : ∀ s k, rowI s.1 → k < (s.1 1).toNat → P s.1 → P (rec s k).1.1) (hk : ∀ s k, rowI s.1 → k < (s.1 1).toNat → offKeep k s.1 (rec s k).1.1) (hI : rowI s0.1.1) (h0 : P s0.1.1) : ∀ i, j + 1 + i ≤ (s0.1.1 1).toNat → P (offL rec j s0 i).1.1
  | 0, _ => h0
  | i + 1, hi => by
    have ih := offL_ind (j := j) hrec hk hI h0 i (by omega)
    obtain ⟨a, b, -⟩ := offL_keep (j := j) hk hI i (by omega)
    have e1 := b 1 (by omega) (by omega)
    have hn : (offL rec j s0 (i + 1)) = if mAt (offL rec j s0 i).1.1 (j + 1 + i) 5 = 0 ∧ mAt (offL rec j s0 i).1.1 (j + 1 + i) 3 = (j : Int) then ((rec (offL rec j s0 i).1 (j + 1 + i)).1, (offL rec j s0 i).2 + (rec (offL rec j s0 i).1 (j + 1 + i)).2) else offL rec j s0 i := rfl
    rw [hn]
    clear hn
    generalize offL rec j s0 i = S at *
    split
    · exact hrec S.1 (j + 1 + i) a (by rw [e1]; omega) ih
    · exact ih
theorem offF_ind {P : (Nat → Int) → Prop} (h1 : ∀ g j, rowI g → j < (g 1).toNat → P g → P (of1 g j)) : ∀ f (s : oSt) j, rowI s.1 → j < (s.1 1).toNat → P s.1 → P (offF f s j).1.1
  | 0, _, _, _, _, h => h
  | f + 1, s, j, hI, hj, h => by
    have e1 : of1 s.1 j 1 = s.1 1 := of1_lo (by omega) (by omega)
    exact offL_ind (rec := offF f) (j := j) (s0 := ((of1 s.1 j, of1U s.2), 1)) (fun s k a b c => offF_ind h1 f s k a b c) (fun s k a b => offF_keep f s k a b) (of1_row hI hj) (h1 _ _ hI hj h) _ (by show _ ≤ (of1 s.1 j 1).toNat; rw [e1]; omega)
/-- the sums of a taking off: one number goes up by how many -/
theorem offU_2 {V : Nat → Nat → Int} {a b : Int} : upZ (upZ V 183 11 (V 183 11 + a)) 183 11 (upZ V 183 11 (V 183 11 + a) 183 11 + b) = upZ V 183 11 (V 183 11 + (a + b)) := by
  rw [upR_s, upZ_2, Int.add_assoc]
def offVs (V V' : Nat → Nat → Int) (S S' : oSt × Int) : Prop := S.1.1 = S'.1.1 ∧ S.2 = S'.2 ∧ S.1.2 = upZ V 183 11 (V 183 11 + S.2) ∧ S'.1.2 = upZ V' 183 11 (V' 183 11 + S.2)
theorem offL_V {rec : oSt → Nat → oSt × Int} {j : Nat} {V V' : Nat → Nat → Int} (hrec : ∀ (s s' : oSt) k, s.1 = s'.1 → offVs s.2 s'.2 (rec s k) (rec s' k)) {s0 s0' : oSt × Int} (h0 : offVs V V' s0 s0') : ∀ i, offVs V V' (offL rec j s0 i) (offL rec j s0' i)
  | 0 => h0
  | i + 1 => by
    have ih := offL_V (j := j) hrec h0 i
    have hn : ∀ s : oSt × Int, (offL rec j s (i + 1)) = if mAt (offL rec j s i).1.1 (j + 1 + i) 5 = 0 ∧ mAt (offL rec j s i).1.1 (j + 1 + i) 3 = (j : Int) then ((rec (offL rec j s i).1 (j + 1 + i)).1, (offL rec j s i).2 + (rec (offL rec j s i).1 (j + 1 + i)).2) else offL rec j s i := fun _ => rfl
    rw [hn s0, hn s0']
    clear hn
    generalize offL rec j s0 i = S at *
    generalize offL rec j s0' i = S' at *
    obtain ⟨a, b, c, d⟩ := ih
    rw [← a]
    split
    · obtain ⟨q1, q2, q3, q4⟩ := hrec S.1 S'.1 (j + 1 + i) a
      refine ⟨q1, by (try dsimp only); rw [b, q2], ?_, ?_⟩
      · show (rec S.1 (j + 1 + i)).1.2 = upZ V 183 11 (V 183 11 + (S.2 + (rec S.1 (j + 1 + i)).2))
        rw [q3, c, offU_2]
      · show (rec S'.1 (j + 1 + i)).1.2 = upZ V' 183 11 (V' 183 11 + (S.2 + (rec S.1 (j + 1 + i)).2))
        rw [q4, d, offU_2]
    · exact ⟨a, b, c, d⟩
theorem offF_V : ∀ f (s s' : oSt) j, s.1 = s'.1 → offVs s.2 s'.2 (offF f s j) (offF f s' j)
  | 0, s, s', j, h => ⟨h, rfl, by show s.2 = upZ s.2 183 11 (s.2 183 11 + 0); rw [Int.add_zero]; funext a b; unfold upZ; split <;> simp_all, by show s'.2 = upZ s'.2 183 11 (s'.2 183 11 + 0); rw [Int.add_zero]; funext a b; unfold upZ; split <;> simp_all⟩
  | f + 1, s, s', j, h => by
    have := offL_V (rec := offF f) (j := j) (V := s.2) (V' := s'.2) (fun s s' k hh => offF_V f s s' k hh) (s0 := ((of1 s.1 j, of1U s.2), 1)) (s0' := ((of1 s'.1 j, of1U s'.2), 1)) ⟨by (try dsimp only); rw [h], rfl, rfl, rfl⟩ ((s.1 1).toNat - (j + 1))
    rw [offF, offF, ← h]
    rw [← h] at this
    exact this
def arms4 (g : Nat → Int) : Prop := ∀ k, k < 80 → 0 ≤ mAt g k 4 ∧ mAt g k 4 ≤ 4
def rowP (g : Nat → Int) : Prop := arms4 g ∧ promTo g (g 1).toNat ≤ 4 ∧ ∀ b, 2916 ≤ b → b < 3940 → -1 ≤ g b
theorem of1_rowP {g : Nat → Int} {j : Nat} (hI : rowI g) (hj : j < (g 1).toNat) (h : rowP g) : rowP (of1 g j) := by
  have hrow := hI.1
  have e1 : of1 g j 1 = g 1 := of1_lo (by omega) (by omega)
  have e0 : of1 g j 0 = g 0 := of1_lo (by omega) (by omega)
  have h9 : ∀ x, x < (g 1).toNat → 0 ≤ mAt (of1 g j) x 9 → x ≠ j ∧ mAt (of1 g j) x 9 = mAt g x 9 := fun x hx h0 => by
    by_cases c : x = j
    · subst c
      rw [of1_cell hrow hj (row_n hrow hj) (by omega), if_pos ⟨rfl, rfl⟩] at h0
      omega
    · exact ⟨c, of1_o hrow hj (row_n hrow hx) (by omega) (Or.inl c)⟩
  refine ⟨fun k hk => ?_, ?_, fun b hb hb2 => by rw [of1_hi hrow hj (by omega)]; exact h.2.2 b hb hb2⟩
  · rw [of1_o hrow hj hk (by omega) (by omega)]
    exact h.1 k hk
  · rw [e1]
    refine Int.le_trans (sumTo_le fun x hx => ?_) h.2.1
    (try dsimp only)
    by_cases c : 0 ≤ mAt (of1 g j) x 9
    · have h2 := (h9 x hx c).2
      rw [if_pos (decide_eq_true c), if_pos (decide_eq_true (by rw [← h2]; exact c))]
      exact Int.le_refl 1
    · rw [if_neg (by simpa using c)]
      split <;> omega
/-- a scene of the class is a row of the reference -/
def sideI (c : Nat) (G U : Nat → Nat → Int) (s r u : Nat) : Prop := ∃ e, (e ≤ 100000 * c ∧ G r 5 ≤ 1000 * (c : Int)) ∧ scR false 0 e G U s (G r) (U u) ∧ rowI (G r) ∧ rowP (G r) ∧ G r 0 ≤ 99999 ∧ ∀ a, a < 8 → 0 ≤ U u a ∧ U u a ≤ 16 * G r 0
theorem sideI_fr {c c' : Nat} {G G' U U' : Nat → Nat → Int} {s r u : Nat} (h : sideI c G U s r u) (hc : c ≤ c') (hf : ∀ x, s ≤ x → x < s + 39 → G' x = G x) (hr : G' r = G r) (h3 : U' (s + 3) = U (s + 3)) (h33 : U' (s + 33) = U (s + 33)) (hu : U' u = U u) : sideI c' G' U' s r u := by
  obtain ⟨e, a, b, d, f, g, k⟩ := h
  refine ⟨e, ⟨by omega, by rw [hr]; omega⟩, ?_, by rw [hr]; exact d, by rw [hr]; exact f, by rw [hr]; exact g, fun a ha => by rw [hu, hr]; exact k a ha⟩
  rw [hr, hu]
  exact scR_fr b hf h3 h33
def tapesI (G : Nat → Nat → Int) : Prop := ∃ n : Nat, n ≤ 60 ∧ G 168 0 = (n : Int) ∧ G 179 7 = (n : Int) ∧ G 169 = G 186 ∧ tapeOk (G 169) n
/-- the scene of the thoughts, between two calls -/
def aheadI (c : Nat) (G : Nat → Nat → Int) : Prop := G 98 0 = 1 ∧ ∃ e : Nat, e ≤ 100000 * c ∧ evE (G 130) e
theorem aheadI_fr {c c' : Nat} {G G' : Nat → Nat → Int} (h : aheadI c G) (hc : c ≤ c') (h1 : G' 98 = G 98) (h2 : G' 130 = G 130) : aheadI c' G' := by
  obtain ⟨a, e, b, d⟩ := h
  exact ⟨by rw [h1]; exact a, e, by omega, by rw [h2]; exact d⟩
def allI (c : Nat) (G U : Nat → Nat → Int) : Prop := sideI c G U 1 180 183 ∧ sideI c G U 40 182 185 ∧ quiet G ∧ tapesI G ∧ (∀ k, rg (G 193 k)) ∧ aheadI c G
/-- one call of both: the same answer, and what holds goes on to hold -/
def opR (c : Nat) (FX FM : pF) (As : List pV) : Prop := ∀ G U, allI c G U → WpF FX (pR 0 :: As) (zM G U) (fun r τ => WpF FM (pR 179 :: As) τ (fun r' τ' => r' = r ∧ ∃ G' U', τ' = zM G' U' ∧ allI (c + 1) G' U'))
