/-! ===== what always holds of a row ===== -/
def aOk (g : Nat → Int) (j a : Nat) : Prop := (1 ≤ mAt g j (12 + a) ∧ mAt g j (12 + a) ≤ 16) ∧ (1 ≤ mAt g j (16 + a) ∧ mAt g j (16 + a) ≤ 200) ∧ (-1 ≤ mAt g j (20 + a) ∧ mAt g j (20 + a) ≤ 16) ∧ (-1 ≤ mAt g j (24 + a) ∧ mAt g j (24 + a) ≤ 1000000) ∧ (mAt g j 5 = 1 → 0 ≤ mAt g j (20 + a) ∧ mAt g j (20 + a) + mAt g j (12 + a) ≤ 16 ∧ mAt g j (24 + a) ≤ mAt g j 6 + mAt g j (16 + a)) ∧ (0 ≤ mAt g j 9 → 0 ≤ mAt g j (28 + a) ∧ mAt g j (28 + a) + mAt g j (12 + a) ≤ 16)
def jOk (g : Nat → Int) (j : Nat) : Prop := (0 ≤ mAt g j 0 ∧ mAt g j 0 ≤ 7) ∧ (0 ≤ mAt g j 1 ∧ mAt g j 1 ≤ 9) ∧ (1 ≤ mAt g j 2 ∧ mAt g j 2 ≤ 150) ∧ (-1 ≤ mAt g j 3 ∧ mAt g j 3 < j) ∧ (1 ≤ mAt g j 4 ∧ mAt g j 4 ≤ 4) ∧ (0 ≤ mAt g j 5 ∧ mAt g j 5 ≤ 4) ∧ (-1 ≤ mAt g j 6 ∧ mAt g j 6 ≤ g 0) ∧ (-1 ≤ mAt g j 7 ∧ mAt g j 7 ≤ g 0) ∧ (-1 ≤ mAt g j 8 ∧ mAt g j 8 ≤ 1000000) ∧ (-1 ≤ mAt g j 9 ∧ mAt g j 9 ≤ g 0 + 20000) ∧ (0 ≤ mAt g j 10 ∧ mAt g j 10 ≤ 1) ∧ (0 ≤ mAt g j 11 ∧ mAt g j 11 ≤ g 0) ∧ (mAt g j 5 = 0 → mAt g j 6 = -1) ∧ (mAt g j 5 = 1 → 0 ≤ mAt g j 6) ∧ (0 ≤ mAt g j 9 → mAt g j 5 = 0 ∧ g 0 ≤ mAt g j 9) ∧ ∀ a, a < mArms g j → aOk g j a
def spOk (g : Nat → Int) (s : Nat) : Prop := -1 ≤ mSpan g s 0 ∧ (0 ≤ mSpan g s 0 → mSpan g s 0 < g 5 ∧ 0 ≤ mSpan g s 1 ∧ mSpan g s 1 ≤ mSpan g s 2 ∧ mSpan g s 2 ≤ 15 ∧ 0 ≤ mSpan g s 3 ∧ mSpan g s 3 < mSpan g s 4 ∧ mSpan g s 4 ≤ 1000000 ∧ g 0 < mSpan g s 4 ∧ -1 ≤ mSpan g s 5 ∧ mSpan g s 5 ≤ 7)
def rowOk (g : Nat → Int) : Prop := gRange g ∧ (0 ≤ g 0 ∧ g 0 ≤ 110000) ∧ (0 ≤ g 1 ∧ g 1 ≤ 80) ∧ (0 ≤ g 2 ∧ g 2 ≤ 4) ∧ (0 ≤ g 3 ∧ g 3 ≤ 80) ∧ (0 ≤ g 4 ∧ g 4 ≤ 100) ∧ (0 ≤ g 5 ∧ g 5 ≤ 1000000) ∧ (0 ≤ g 6 ∧ g 6 ≤ 80) ∧ (0 ≤ g 7 ∧ g 7 ≤ 60) ∧ (∀ a, a < 8 → 1 ≤ g (8 + a) ∧ g (8 + a) ≤ 100) ∧ (∀ a, a < 8 → 0 ≤ g (16 + a) ∧ g (16 + a) ≤ 16) ∧ (∀ j, j < (g 1).toNat → jOk g j) ∧ (∀ s, s < 12 → spOk g s) ∧ ∀ j, j < (g 1).toNat → mAt g j 5 = 0 → g 6 < 80
/-- the fields of the reference that are as between two calls -/
def quiet (G : Nat → Nat → Int) : Prop := gRange (G 179) ∧ G 179 13 = -1 ∧ G 179 14 = -1 ∧ G 179 15 = -1 ∧ G 179 16 = -1 ∧ G 179 17 = 0
theorem jOk_mJob {g : Nat → Int} {j : Nat} (h0 : 0 ≤ g 0 ∧ g 0 ≤ 110000) (h : jOk g j) : mJobOk g j := by
  obtain ⟨h1, h2, h3, h4, h5, h6, h7, h8, h9, h10, h11, h12, h13, h14, h15, h16⟩ := h
  refine ⟨by omega, by omega, fun a ha => ?_⟩
  obtain ⟨a1, a2, a3, a4, a5, a6⟩ := h16 a ha
  refine ⟨by omega, ⟨by omega, by omega⟩, ⟨by omega, by omega⟩, fun hh => ?_, fun hp => ?_⟩
  · unfold mHolds at hh
    simp only [Bool.and_eq_true, decide_eq_true_eq] at hh
    have := a5 hh.1
    omega
  · have := a6 hp
    omega
theorem rowOk_mOk {G : Nat → Nat → Int} (h : rowOk (G 180)) (hq : quiet G) : mOk G := by
  obtain ⟨h1, h2, h3, -, -, -, -, -, -, -, -, h4, h5, -⟩ := h
  obtain ⟨q1, q2, q3, q4, q5, q6⟩ := hq
  refine ⟨h1, q1, h3.1, h3.2, fun j hj => jOk_mJob h2 (h4 j hj), fun s hs hn => ?_, by omega, by omega, fun k hk => by rw [q6] at hk; omega⟩
  obtain ⟨-, s2, s3, s4, -⟩ := (h5 s hs).2 hn
  exact ⟨s2, s3, s4⟩
theorem rowOk_near {G : Nat → Nat → Int} (h : rowOk (G 180)) : nearOk G := by
  obtain ⟨h1, h2, h3, -, -, -, -, -, -, -, -, h4, h5, -⟩ := h
  refine ⟨fun j hj => ?_, fun s hs hn => ?_⟩
  · obtain ⟨-, -, -, -, -, -, -, -, -, q, -⟩ := h4 j hj
    omega
  · obtain ⟨-, -, -, -, q1, q2, q3, -⟩ := (h5 s hs).2 hn
    omega
def bzG (g : Nat → Int) (x y acc : Int) : Nat := orTo (byJob g x y (-1) (-1) (-1) (-1)) (g 1).toNat ||| orTo (bySpan g x y acc) 12
theorem busyN_bz {G : Nat → Nat → Int} {x y acc : Int} (hq : quiet G) : busyN G x y acc = bzG (G 180) x y acc := by
  obtain ⟨q1, q2, q3, q4, q5, q6⟩ := hq
  unfold busyN bzG
  rw [q2, q3, q4, q5, q6]
  show _ ||| 0 = _
  rw [Nat.or_zero]
/-- the fit of a job at a tick -/
def gfitJ (g : Nat → Int) (j : Nat) (t : Int) : Option (Nat × (Nat → Int)) := gfit (mArms g j) (cut 0 (mArms g j) fun a => mAt g j (12 + a)) (cut 0 (mArms g j) fun a => bzG g t (t + mAt g j (16 + a)) (mAt g j 0)) (mArms g j)
/-- the arms that are to be placed are the job's -/
def took (G : Nat → Nat → Int) (g : Nat → Int) (j : Nat) : Prop := G 179 9 = mAt g j 4 ∧ G 179 8 = mAt g j 0 ∧ ∀ a, a < mArms g j → G 187 a = mAt g j (12 + a) ∧ G 188 a = mAt g j (16 + a)
theorem gfitG_took {G : Nat → Nat → Int} {j : Nat} {t : Int} (hq : quiet G) (h : took G (G 180) j) : gfitG G t = gfitJ (G 180) j t := by
  obtain ⟨h1, h2, h3⟩ := h
  have e : (G 179 9).toNat = mArms (G 180) j := by rw [h1]; rfl
  unfold gfitG gfitJ busyA
  rw [e, h2]
  congr 1
  · exact cut_eq fun a ha => (h3 a ha).1
  · refine cut_eq fun a ha => ?_
    rw [busyN_bz hq, (h3 a ha).2]
theorem took_gang {G : Nat → Nat → Int} {g : Nat → Int} {j : Nat} (h : took G g j) (hj : jOk g j) : gangOk G := by
  obtain ⟨h1, h2, h3⟩ := h
  obtain ⟨-, -, -, -, h5, -, -, -, -, -, -, -, -, -, -, h16⟩ := hj
  refine ⟨by omega, by omega, fun a ha => ?_⟩
  have hm : a < mArms g j := by rw [h1] at ha; exact ha
  obtain ⟨a1, a2, -⟩ := h16 a hm
  rw [(h3 a hm).1, (h3 a hm).2]
  omega
/-- what taking, placing leave as it was -/
def passFr (Gb Gs : Nat → Nat → Int) : Prop := (∀ k, k ≠ 179 → k ≠ 180 → k ≠ 187 → k ≠ 188 → k ≠ 189 → Gs k = Gb k) ∧ ∀ b, b ≠ 8 → b ≠ 9 → Gs 179 b = Gb 179 b
theorem passFr_0 {G : Nat → Nat → Int} : passFr G G := ⟨fun _ _ _ _ _ _ => rfl, fun _ _ _ => rfl⟩
theorem passFr_t {A B C : Nat → Nat → Int} (h : passFr A B) (h2 : passFr B C) : passFr A C := ⟨fun k a b c d e => (h2.1 k a b c d e).trans (h.1 k a b c d e), fun k a b => (h2.2 k a b).trans (h.2 k a b)⟩
theorem passFr_189 {G : Nat → Nat → Int} {F : Nat → Int} : passFr G (setRow G 189 F) := ⟨fun k a b c d e => setRow_o e, fun b _ _ => by rw [setRow_o (by decide)]⟩
theorem passFr_180 {G : Nat → Nat → Int} {F : Nat → Int} : passFr G (setRow G 180 F) := ⟨fun k a b c d e => setRow_o b, fun b _ _ => by rw [setRow_o (by decide)]⟩
theorem passFr_took {G : Nat → Nat → Int} {j i : Nat} : passFr G (tookG G j i) := by
  refine ⟨fun k a b c d e => ?_, fun b h1 h2 => ?_⟩
  · funext x; simp [tookG, a, c, d]
  · simp [tookG, h1, h2]
theorem tookG_took {G : Nat → Nat → Int} {j : Nat} : took (tookG G j (mArms (G 180) j)) (G 180) j := by
  refine ⟨by simp [tookG], by simp [tookG], fun a ha => ⟨by simp [tookG, ha], by simp [tookG, ha]⟩⟩
theorem passFr_quiet {A B : Nat → Nat → Int} (h : passFr A B) (hq : quiet A) (h8 : rg (B 179 8)) (h9 : rg (B 179 9)) : quiet B := by
  obtain ⟨q1, q2, q3, q4, q5, q6⟩ := hq
  have e := h.2
  refine ⟨fun b => ?_, ?_, ?_, ?_, ?_, ?_⟩
  · by_cases e8 : b = 8
    · subst e8; exact h8
    · by_cases e9 : b = 9
      · subst e9; exact h9
      · rw [e b e8 e9]; exact q1 b
  all_goals (rw [e _ (by decide) (by decide)]; assumption)
def firstF {α : Type} (P : Int → Option α) (t : Int) : Nat → Option Int
  | 0 => none
  | n + 1 => match P t with
    | some _ => some t
    | none => firstF P (t + 1) n
theorem firstF_some {α : Type} {P : Int → Option α} : ∀ (n : Nat) (t u : Int), t ≤ u → u < t + n → (P u).isSome = true → (∀ v, t ≤ v → v < u → P v = none) → firstF P t n = some u
  | 0, t, u, h1, h2, _, _ => by omega
  | n + 1, t, u, h1, h2, h3, h4 => by
    rw [firstF]
    by_cases e : u = t
    · subst e
      cases hp : P u with
      | some _ => rfl
      | none => rw [hp] at h3; cases h3
    · rw [h4 t (by omega) (by omega)]
      exact firstF_some n (t + 1) u (by omega) (by omega) h3 fun v a b => h4 v (by omega) b
theorem firstF_none {α : Type} {P : Int → Option α} : ∀ (n : Nat) (t : Int), (∀ v, t ≤ v → v < t + n → P v = none) → firstF P t n = none
  | 0, _, _ => rfl
  | n + 1, t, h => by
    rw [firstF, h t (by omega) (by omega)]
    exact firstF_none n (t + 1) fun v a b => h v (by omega) (by omega)
theorem firstF_is {α : Type} {P : Int → Option α} : ∀ (n : Nat) (t u : Int), firstF P t n = some u → t ≤ u ∧ u < t + n ∧ (P u).isSome = true ∧ ∀ v, t ≤ v → v < u → P v = none
  | 0, t, u, h => by cases h
  | n + 1, t, u, h => by
    rw [firstF] at h
    cases hp : P t with
    | some x =>
      rw [hp] at h
      cases h
      exact ⟨by omega, by omega, by rw [hp]; rfl, fun v a b => by omega⟩
    | none =>
      rw [hp] at h
      obtain ⟨a, b, c, d⟩ := firstF_is n (t + 1) u h
      refine ⟨by omega, by omega, c, fun v e f => ?_⟩
      by_cases e2 : v = t
      · subst e2; exact hp
      · exact d v (by omega) f
