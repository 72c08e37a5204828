/-! ===== jobs taken off one behind the other: the class's stack is the reference's recursion ===== -/
abbrev oSt : Type := (Nat → Int) × (Nat → Nat → Int)
def kidB (g : Nat → Int) (j k : Nat) : Bool := decide (mAt g k 5 = 0) && decide (mAt g k 3 = (j : Int))
def kidI (g : Nat → Int) (j a : Nat) : Nat → List Nat
  | 0 => []
  | c + 1 => kidI g j a c ++ (if kidB g j (a + c) = true then [a + c] else [])
theorem kidI_cons {g : Nat → Int} {j : Nat} : ∀ c a, kidI g j a (c + 1) = (if kidB g j a = true then [a] else []) ++ kidI g j (a + 1) c
  | 0, a => by
    rw [kidI, kidI, kidI, Nat.add_zero]
    simp
  | c + 1, a => by
    rw [kidI, kidI_cons c a, kidI, show a + (c + 1) = a + 1 + c by omega, List.append_assoc]
theorem kidI_mem {g : Nat → Int} {j a x : Nat} : ∀ c, x ∈ kidI g j a c → a ≤ x ∧ x < a + c ∧ mAt g x 5 = 0 ∧ mAt g x 3 = (j : Int)
  | 0, h => by simp [kidI] at h
  | c + 1, h => by
    rw [kidI, List.mem_append] at h
    rcases h with h | h
    · have := kidI_mem c h
      exact ⟨this.1, by omega, this.2.2⟩
    · by_cases hb : kidB g j (a + c) = true
      · rw [if_pos hb, List.mem_singleton] at h
        subst h
        unfold kidB at hb
        simp only [Bool.and_eq_true, decide_eq_true_eq] at hb
        exact ⟨by omega, by omega, hb⟩
      · rw [if_neg hb] at h
        simp at h
theorem kidI_nodup {g : Nat → Int} {j a : Nat} : ∀ c, (kidI g j a c).Nodup
  | 0 => by simp [kidI]
  | c + 1 => by
    rw [kidI]
    have ih := kidI_nodup (g := g) (j := j) (a := a) c
    split
    · rw [List.nodup_append]
      refine ⟨ih, by simp, fun x hx y hy => ?_⟩
      have := kidI_mem c hx
      rw [List.mem_singleton] at hy
      omega
    · rw [List.append_nil]
      exact ih
def offFold (f : Nat) : List Nat → oSt → oSt × Int
  | [], s => (s, 0)
  | k :: l, s => ((offFold f l (offF f s k).1).1, (offF f s k).2 + (offFold f l (offF f s k).1).2)
theorem offFold_app {f : Nat} : ∀ (l1 l2 : List Nat) (s : oSt), offFold f (l1 ++ l2) s = ((offFold f l2 (offFold f l1 s).1).1, (offFold f l1 s).2 + (offFold f l2 (offFold f l1 s).1).2)
  | [], l2, s => by
    show offFold f l2 s = ((offFold f l2 s).1, 0 + (offFold f l2 s).2)
    rw [Int.zero_add]
  | k :: l, l2, s => by
    show ((offFold f (l ++ l2) (offF f s k).1).1, (offF f s k).2 + (offFold f (l ++ l2) (offF f s k).1).2) = _
    rw [offFold_app l l2]
    show _ = ((offFold f l2 (offFold f l (offF f s k).1).1).1, (offF f s k).2 + (offFold f l (offF f s k).1).2 + (offFold f l2 (offFold f l (offF f s k).1).1).2)
    rw [Int.add_assoc]
/-- what taking a job off leaves as it is -/
def offKeep (j : Nat) (g g' : Nat → Int) : Prop := rowI g' ∧ (∀ b, b < 96 → b ≠ 7 → g' b = g b) ∧ (∀ x, x < (g 1).toNat → mAt g' x 3 = mAt g x 3) ∧ ∀ x, x < (g 1).toNat → x ≠ j → mAt g x 3 < j → mAt g' x 5 = mAt g x 5
theorem of1_keep {g : Nat → Int} {j : Nat} (hI : rowI g) (hj : j < (g 1).toNat) : offKeep j g (of1 g j) := ⟨of1_row hI hj, fun b h h7 => of1_lo h h7, fun x hx => of1_o hI.1 hj (row_n hI.1 hx) (by omega) (by omega), fun x hx hne _ => of1_o hI.1 hj (row_n hI.1 hx) (by omega) (Or.inl hne)⟩
theorem offL_keep {rec : oSt → Nat → oSt × Int} {j : Nat} {s0 : oSt × Int} (hrec : ∀ s k, rowI s.1 → k < (s.1 1).toNat → offKeep k s.1 (rec s k).1.1) (hI : rowI s0.1.1) : ∀ i, j + 1 + i ≤ (s0.1.1 1).toNat → rowI (offL rec j s0 i).1.1 ∧ (∀ b, b < 96 → b ≠ 7 → (offL rec j s0 i).1.1 b = s0.1.1 b) ∧ (∀ x, x < (s0.1.1 1).toNat → mAt (offL rec j s0 i).1.1 x 3 = mAt s0.1.1 x 3) ∧ (∀ x, x < (s0.1.1 1).toNat → mAt s0.1.1 x 3 < j → mAt (offL rec j s0 i).1.1 x 5 = mAt s0.1.1 x 5) ∧ ∀ x, x < (s0.1.1 1).toNat → j + 1 + i ≤ x → mAt s0.1.1 x 3 = (j : Int) → mAt (offL rec j s0 i).1.1 x 5 = mAt s0.1.1 x 5
  | 0, _ => ⟨hI, fun _ _ _ => rfl, fun _ _ => rfl, fun _ _ _ => rfl, fun _ _ _ _ => rfl⟩
  | i + 1, hi => by
    obtain ⟨a, b, c, d, e⟩ := offL_keep (j := j) hrec hI i (by omega)
    have e1 := b 1 (by omega) (by omega)
    have hn : (offL rec j s0 (i + 1)) = if mAt (offL rec j s0 i).1.1 (j + 1 + i) 5 = 0 ∧ mAt (offL rec j s0 i).1.1 (j + 1 + i) 3 = (j : Int) then ((rec (offL rec j s0 i).1 (j + 1 + i)).1, (offL rec j s0 i).2 + (rec (offL rec j s0 i).1 (j + 1 + i)).2) else offL rec j s0 i := rfl
    rw [hn]
    clear hn
    generalize offL rec j s0 i = S at *
    split
    · rename_i hc
      obtain ⟨k1, k2, k3, k4⟩ := hrec S.1 (j + 1 + i) a (by rw [e1]; omega)
      rw [e1] at k3 k4
      refine ⟨k1, fun x h h7 => (k2 x h h7).trans (b x h h7), fun x hx => (k3 x hx).trans (c x hx), fun x hx h => ?_, fun x hx h1 h2 => ?_⟩
      · rw [k4 x hx (fun e2 => by rw [e2, ← c _ (by omega), hc.2] at h; omega) (by rw [c x hx]; omega)]
        exact d x hx h
      · rw [k4 x hx (by omega) (by rw [c x hx, h2]; omega)]
        exact e x hx (by omega) h2
    · exact ⟨a, b, c, d, fun x hx h1 h2 => e x hx (by omega) h2⟩
theorem offF_keep : ∀ f (s : oSt) j, rowI s.1 → j < (s.1 1).toNat → offKeep j s.1 (offF f s j).1.1
  | 0, s, j, hI, hj => ⟨hI, fun _ _ _ => rfl, fun _ _ => rfl, fun _ _ _ _ => rfl⟩
  | f + 1, s, j, hI, hj => by
    obtain ⟨k1, k2, k3, k4⟩ := of1_keep hI hj
    have e1 := k2 1 (by omega) (by omega)
    obtain ⟨a, b, c, d, e⟩ := offL_keep (rec := offF f) (j := j) (s0 := ((of1 s.1 j, of1U s.2), 1)) (fun s k h1 h2 => offF_keep f s k h1 h2) k1 ((s.1 1).toNat - (j + 1)) (by show _ ≤ (of1 s.1 j 1).toNat; rw [e1]; omega)
    change ∀ x, x < (of1 s.1 j 1).toNat → _ at c
    change ∀ x, x < (of1 s.1 j 1).toNat → _ at d
    rw [e1] at c d
    exact ⟨a, fun x h h7 => (b x h h7).trans (k2 x h h7), fun x hx => (c x hx).trans (k3 x hx), fun x hx hne h => (d x hx (by show mAt (of1 s.1 j) x 3 < _; rw [k3 x hx]; exact h)).trans (k4 x hx hne h)⟩
/-- the loop over those that wait for it is a fold -/
theorem offL_fold {f j : Nat} {s0 : oSt × Int} (hI : rowI s0.1.1) : ∀ i, j + 1 + i ≤ (s0.1.1 1).toNat → offL (offF f) j s0 i = ((offFold f (kidI s0.1.1 j (j + 1) i) s0.1).1, s0.2 + (offFold f (kidI s0.1.1 j (j + 1) i) s0.1).2)
  | 0, _ => by
    show s0 = (s0.1, s0.2 + 0)
    rw [Int.add_zero]
  | i + 1, hi => by
    have ih := offL_fold (f := f) (j := j) hI i (by omega)
    obtain ⟨a, b, c, d, e⟩ := offL_keep (rec := offF f) (j := j) (fun s k h1 h2 => offF_keep f s k h1 h2) hI i (by omega)
    have hx : j + 1 + i < (s0.1.1 1).toNat := by omega
    have h3 := c (j + 1 + i) hx
    have h5 := e (j + 1 + i) hx (Nat.le_refl _)
    have hn : (offL (offF f) j s0 (i + 1)) = if mAt (offL (offF f) j s0 i).1.1 (j + 1 + i) 5 = 0 ∧ mAt (offL (offF f) j s0 i).1.1 (j + 1 + i) 3 = (j : Int) then ((offF f (offL (offF f) j s0 i).1 (j + 1 + i)).1, (offL (offF f) j s0 i).2 + (offF f (offL (offF f) j s0 i).1 (j + 1 + i)).2) else offL (offF f) j s0 i := rfl
    rw [hn, kidI]
    by_cases hk : kidB s0.1.1 j (j + 1 + i) = true
    · have hk2 := hk
      unfold kidB at hk2
      simp only [Bool.and_eq_true, decide_eq_true_eq] at hk2
      rw [if_pos ⟨by rw [h5 hk2.2]; exact hk2.1, by rw [h3]; exact hk2.2⟩, if_pos hk, offFold_app, ih]
      show _ = ((offF f (offFold f (kidI s0.1.1 j (j + 1) i) s0.1).1 (j + 1 + i)).1, s0.2 + ((offFold f (kidI s0.1.1 j (j + 1) i) s0.1).2 + ((offF f (offFold f (kidI s0.1.1 j (j + 1) i) s0.1).1 (j + 1 + i)).2 + 0)))
      rw [Int.add_zero, Int.add_assoc]
    · rw [if_neg, if_neg hk, List.append_nil]
      · exact ih
      · rintro ⟨q1, q2⟩
        rw [h3] at q2
        rw [h5 q2] at q1
        apply hk
        unfold kidB
        simp [q1, q2]
theorem offF_fold {f j : Nat} {s : oSt} (hI : rowI s.1) (hj : j < (s.1 1).toNat) : offF (f + 1) s j = ((offFold f (kidI (of1 s.1 j) j (j + 1) ((s.1 1).toNat - (j + 1))) (of1 s.1 j, of1U s.2)).1, 1 + (offFold f (kidI (of1 s.1 j) j (j + 1) ((s.1 1).toNat - (j + 1))) (of1 s.1 j, of1U s.2)).2) := by
  have e1 : of1 s.1 j 1 = s.1 1 := of1_lo (by omega) (by omega)
  rw [offF]
  exact offL_fold (s0 := ((of1 s.1 j, of1U s.2), 1)) (of1_row hI hj) _ (by show _ ≤ (of1 s.1 j 1).toNat; rw [e1]; omega)
theorem offFold_keep {f : Nat} : ∀ (l : List Nat) (s : oSt), rowI s.1 → (∀ x, x ∈ l → x < (s.1 1).toNat) → rowI (offFold f l s).1.1 ∧ ∀ b, b < 96 → b ≠ 7 → (offFold f l s).1.1 b = s.1 b
  | [], s, hI, _ => ⟨hI, fun _ _ _ => rfl⟩
  | k :: l, s, hI, h => by
    obtain ⟨k1, k2, -, -⟩ := offF_keep f s k hI (h k (by simp))
    obtain ⟨q1, q2⟩ := offFold_keep l (offF f s k).1 k1 (fun x hx => by rw [k2 1 (by omega) (by omega)]; exact h x (by simp [hx]))
    exact ⟨q1, fun b hb h7 => (q2 b hb h7).trans (k2 b hb h7)⟩
theorem offFold_congr {f f' : Nat} (hf : ∀ (s : oSt) k, rowI s.1 → k < (s.1 1).toNat → (s.1 1).toNat ≤ k + f → offF f' s k = offF f s k) : ∀ (l : List Nat) (s : oSt), rowI s.1 → (∀ x, x ∈ l → x < (s.1 1).toNat ∧ (s.1 1).toNat ≤ x + f) → offFold f' l s = offFold f l s
  | [], s, _, _ => rfl
  | k :: l, s, hI, h => by
    have hk := h k (by simp)
    have e := hf s k hI hk.1 hk.2
    obtain ⟨k1, k2, -, -⟩ := offF_keep f s k hI hk.1
    have e1 := k2 1 (by omega) (by omega)
    have ih := offFold_congr hf l (offF f s k).1 k1 (fun x hx => by rw [e1]; exact h x (by simp [hx]))
    show ((offFold f' l (offF f' s k).1).1, (offF f' s k).2 + (offFold f' l (offF f' s k).1).2) = _
    rw [e, ih]
    rfl
/-- fuel enough is fuel enough -/
theorem offF_fuel : ∀ f (s : oSt) j, rowI s.1 → j < (s.1 1).toNat → (s.1 1).toNat ≤ j + f → offF (f + 1) s j = offF f s j
  | 0, s, j, _, hj, h => by omega
  | f + 1, s, j, hI, hj, h => by
    have e1 : of1 s.1 j 1 = s.1 1 := of1_lo (by omega) (by omega)
    rw [offF_fold hI hj, offF_fold hI hj]
    have := offFold_congr (f := f) (f' := f + 1) (fun s k h1 h2 h3 => offF_fuel f s k h1 h2 h3) (kidI (of1 s.1 j) j (j + 1) ((s.1 1).toNat - (j + 1))) (of1 s.1 j, of1U s.2) (of1_row hI hj) (fun x hx => by
      have := kidI_mem _ hx
      show x < (of1 s.1 j 1).toNat ∧ (of1 s.1 j 1).toNat ≤ x + f
      rw [e1]
      omega)
    rw [this]
/-- one job off the stack: those that wait for it come on top -/
theorem off_pop {j : Nat} {l : List Nat} {s : oSt} (hI : rowI s.1) (hj : j < (s.1 1).toNat) : offFold 100 (j :: l) s = ((offFold 100 (kidI (of1 s.1 j) j (j + 1) ((s.1 1).toNat - (j + 1)) ++ l) (of1 s.1 j, of1U s.2)).1, 1 + (offFold 100 (kidI (of1 s.1 j) j (j + 1) ((s.1 1).toNat - (j + 1)) ++ l) (of1 s.1 j, of1U s.2)).2) := by
  have hn := hI.1.2.2.1
  have e1 : of1 s.1 j 1 = s.1 1 := of1_lo (by omega) (by omega)
  have hf : offF 100 s j = ((offFold 100 (kidI (of1 s.1 j) j (j + 1) ((s.1 1).toNat - (j + 1))) (of1 s.1 j, of1U s.2)).1, 1 + (offFold 100 (kidI (of1 s.1 j) j (j + 1) ((s.1 1).toNat - (j + 1))) (of1 s.1 j, of1U s.2)).2) := by
    rw [← offF_fuel 100 s j hI hj (by omega)]
    exact offF_fold hI hj
  rw [offFold_app]
  show ((offFold 100 l (offF 100 s j).1).1, (offF 100 s j).2 + (offFold 100 l (offF 100 s j).1).2) = _
  rw [hf]
  show (_, 1 + _ + _) = _
  rw [Int.add_assoc]
/-- those that may still be taken off -/
def liveF (g : Nat → Int) (n : Nat) : Int := sumTo (fun j => if decide (mAt g j 5 ≤ 1) = true then 1 else 0) n
theorem nodup_le {P : Nat → Bool} {n : Nat} : ∀ (l : List Nat) (f : Nat → Int), l.Nodup → (∀ x, x ∈ l → x < n ∧ f x = 1) → (∀ i, 0 ≤ f i) → (l.length : Int) ≤ sumTo f n
  | [], f, _, _, h0 => by
    have : 0 ≤ sumTo f n := by
      have := sumTo_le (f := fun _ => 0) (g := f) (n := n) (fun i _ => h0 i)
      rwa [sumTo_zero (fun _ _ => rfl)] at this
    simpa using this
  | x :: l, f, hd, h, h0 => by
    rw [List.nodup_cons] at hd
    obtain ⟨hx, h1⟩ := h x (by simp)
    have hu := sumTo_upd (f := fun i => if i = x then 0 else f i) (g := f) (z := x) (d := 1) (by (try dsimp only); rw [if_pos rfl, h1]; rfl) (fun i hi => by (try dsimp only); rw [if_neg hi]) (n := n)
    rw [if_pos hx] at hu
    have ih := nodup_le (P := P) (n := n) l (fun i => if i = x then 0 else f i) hd.2 (fun y hy => by
      have := h y (by simp [hy])
      refine ⟨this.1, ?_⟩
      have hne : y ≠ x := fun e => hd.1 (by rw [← e]; exact hy)
      rw [if_neg hne]
      exact this.2) (fun i => by (try dsimp only); split; omega; exact h0 i)
    rw [hu, List.length_cons]
    omega
theorem live_off {g : Nat → Int} {j : Nat} (hI : rowI g) (hj : j < (g 1).toNat) (h : mAt g j 5 ≤ 1) : liveF (of1 g j) (g 1).toNat = liveF g (g 1).toNat - 1 := by
  have hrow := hI.1
  have hn := row_n hrow hj
  have hc : liveF g (g 1).toNat = sumTo (fun i => if i = j then (1 : Int) else if decide (mAt (of1 g j) i 5 ≤ 1) = true then (1 : Int) else 0) (g 1).toNat := by
    unfold liveF
    refine sumTo_congr fun i hi => ?_
    by_cases e : i = j
    · subst e
      rw [if_pos rfl, if_pos (by simpa using h)]
    · rw [if_neg e, of1_o hrow hj (row_n hrow hi) (by omega) (Or.inl e)]
  have h4 : mAt (of1 g j) j 5 = 4 := by rw [of1_cell hrow hj hn (by omega), if_neg (by omega), if_neg (by omega), if_pos ⟨rfl, rfl⟩]
  rw [hc]
  unfold liveF
  rw [sumTo_upd (f := fun i => if decide (mAt (of1 g j) i 5 ≤ 1) = true then (1 : Int) else 0) (g := fun i => if i = j then (1 : Int) else if decide (mAt (of1 g j) i 5 ≤ 1) = true then (1 : Int) else 0) (z := j) (d := 1) (by (try dsimp only); rw [if_pos rfl, h4]; rfl) (fun i hi => by (try dsimp only); rw [if_neg hi]), if_pos hj]
  omega
