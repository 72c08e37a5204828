/-! ===== passes and ticks of the reference, as functions of the row and of the sums ===== -/
theorem rowV {V V' : Nat → Nat → Int} (h : V 183 = V' 183) (b : Nat) : V 183 b = V' 183 b := congrFun h b
theorem passStep_V {bf bf' : Nat → Int} {s s' : pSt4} {j : Nat} (h1 : s.1 = s'.1) (h2 : s.2.1 183 = s'.2.1 183) (h3 : s.2.2 = s'.2.2) (hb : bf j = bf' j) : (passStep bf s j).1 = (passStep bf' s' j).1 ∧ (passStep bf s j).2.1 183 = (passStep bf' s' j).2.1 183 ∧ (passStep bf s j).2.2 = (passStep bf' s' j).2.2 := by
  obtain ⟨g, V, q⟩ := s
  obtain ⟨g', V', q'⟩ := s'
  change g = g' at h1
  change V 183 = V' 183 at h2
  change q = q' at h3
  subst h1 h3
  have hv := rowV h2
  unfold passStep
  (try dsimp only)
  by_cases c : overF g j = true
  · rw [if_pos c, if_pos c]
    exact ⟨rfl, h2, rfl⟩
  · rw [if_neg c, if_neg c]
    cases gfitJ g j (g 0) with
    | some f =>
      refine ⟨rfl, ?_, rfl⟩
      funext b
      simp only [starU, upZ, hv]
    | none =>
      (try dsimp only)
      cases (if decide (q.2.1 < g 2) = true then firstF (gfitJ g j) (g 0 + 1) 20000 else none) with
      | some t => exact ⟨by (try dsimp only); rw [hb], h2, rfl⟩
      | none => exact ⟨rfl, h2, rfl⟩
theorem passRun_V {bf bf' : Nat → Int} {L : Nat → Nat} {s s' : pSt4} (h1 : s.1 = s'.1) (h2 : s.2.1 183 = s'.2.1 183) (h3 : s.2.2 = s'.2.2) : ∀ i, (∀ k, k < i → bf (L k) = bf' (L k)) → (passRun bf L s i).1 = (passRun bf' L s' i).1 ∧ (passRun bf L s i).2.1 183 = (passRun bf' L s' i).2.1 183 ∧ (passRun bf L s i).2.2 = (passRun bf' L s' i).2.2
  | 0, _ => ⟨h1, h2, h3⟩
  | i + 1, hb => by
    have ih := passRun_V h1 h2 h3 i (fun k hk => hb k (by omega))
    rw [passRun, passRun, ih.2.2]
    split
    · exact ih
    · exact passStep_V ih.1 ih.2.1 ih.2.2 (hb i (by omega))
theorem mLine_V {G U U' : Nat → Nat → Int} {i : Nat} (h : U 183 = U' 183) : mLine G U i = mLine G U' i := by
  have hb : ∀ a b, byShareF G U a b = byShareF G U' a b := fun a b => by unfold byShareF; rw [h]
  have e : aheadF G U = aheadF G U' := funext fun j => funext fun x => by unfold aheadF; simp only [hb]
  unfold mLine
  rw [e]
theorem passAll_V {g old old' : Nat → Int} {V V' : Nat → Nat → Int} (h : V 183 = V' 183) : (passAll g V old).1 = (passAll g V' old').1 ∧ (passAll g V old).2.1 183 = (passAll g V' old').2.1 183 ∧ (passAll g V old).2.2 = (passAll g V' old').2.2 := by
  have hp : p0U V 183 = p0U V' 183 := by
    funext b
    simp only [p0U, upZ, h]
  have hl := line_ok (G := rowG (p0G g)) (U := p0U V) (g := p0G g) rfl
  rw [p0_lo (by omega)] at hl
  unfold passAll
  rw [← mLine_V (G := rowG (p0G g)) hp]
  refine passRun_V (s := (p0G g, p0U V, 0, 0, -1)) (s' := (p0G g, p0U V', 0, 0, -1)) rfl hp rfl _ fun k hk => ?_
  have := hl.1.1 k hk
  rw [p0_lo (by omega)] at this
  unfold befF
  rw [if_pos this, if_pos this]
theorem useU_V {g : Nat → Int} {V V' : Nat → Nat → Int} (h : V 183 = V' 183) : ∀ k, useU g V k 183 = useU g V' k 183
  | 0 => h
  | k + 1 => by
    have ih := rowV (useU_V (g := g) h k)
    rw [useU, useU]
    split <;> (funext b; simp only [upZ, ih])
theorem endR_V {g : Nat → Int} {V V' : Nat → Nat → Int} (h : V 183 = V' 183) : ∀ i, (endR (g, V) i).1 = (endR (g, V') i).1 ∧ (endR (g, V) i).2 183 = (endR (g, V') i).2 183
  | 0 => ⟨rfl, h⟩
  | i + 1 => by
    have ih := endR_V (g := g) h i
    rw [endR, endR, ← ih.1]
    split
    · refine ⟨rfl, ?_⟩
      (try dsimp only)
      unfold endU
      split
      · funext b
        simp only [upZ, rowV ih.2]
      · exact ih.2
    · exact ⟨ih.1, ih.2⟩
theorem halU_V {V V' : Nat → Nat → Int} (h : V 183 = V' 183) : ∀ k, halU V k 183 = halU V' k 183
  | 0 => h
  | k + 1 => by
    have ih := rowV (halU_V h k)
    rw [halU, halU]
    funext b
    simp only [upZ, ih]
theorem tail_V {g : Nat → Int} {V V' : Nat → Nat → Int} (h : V 183 = V' 183) : tailG g V = tailG g V' ∧ tailU g V 183 = tailU g V' 183 := by
  have he := endR_V (g := nowG g) (useU_V (g := g) h 16) (g 1).toNat
  unfold tailG tailU
  have e1 : (endS g V).1 = (endS g V').1 := he.1
  have e2 : (endS g V).2 183 = (endS g V').2 183 := he.2
  rw [e1]
  refine ⟨rfl, ?_⟩
  split
  · exact halU_V e2 8
  · exact e2
/-! the other sums -/
theorem passRun_o {bf : Nat → Int} {L : Nat → Nat} {s : pSt4} {x : Nat} (hx : x ≠ 183) : ∀ i, (passRun bf L s i).2.1 x = s.2.1 x
  | 0 => rfl
  | i + 1 => by
    have ih := passRun_o (bf := bf) (L := L) (s := s) hx i
    rw [passRun]
    split
    · exact ih
    · rw [← ih]
      generalize passRun bf L s i = S
      unfold passStep
      split
      · rfl
      · split
        · (try dsimp only)
          rw [upZ_ne hx]
          unfold starU
          rw [upZ_ne hx, upZ_ne hx]
        · split <;> rfl
theorem passAll_o {g old : Nat → Int} {V : Nat → Nat → Int} {x : Nat} (hx : x ≠ 183) : (passAll g V old).2.1 x = V x := by
  unfold passAll
  rw [passRun_o hx]
  exact upZ_ne hx
theorem useU_x {g : Nat → Int} {V : Nat → Nat → Int} {x : Nat} (hx : x ≠ 183) : ∀ k, useU g V k x = V x
  | 0 => rfl
  | k + 1 => by
    rw [useU]
    split
    · rw [upZ_ne hx]; exact useU_x hx k
    · rw [upZ_ne hx]; exact useU_x hx k
theorem endR_x {g : Nat → Int} {V : Nat → Nat → Int} {x : Nat} (hx : x ≠ 183) : ∀ i, (endR (g, V) i).2 x = V x
  | 0 => rfl
  | i + 1 => by
    have ih := endR_x (g := g) (V := V) hx i
    rw [endR]
    split
    · (try dsimp only)
      unfold endU
      split
      · rw [upZ_ne hx]; exact ih
      · exact ih
    · exact ih
theorem halU_x {V : Nat → Nat → Int} {x : Nat} (hx : x ≠ 183) : ∀ k, halU V k x = V x
  | 0 => rfl
  | k + 1 => by rw [halU, upZ_ne hx]; exact halU_x hx k
theorem tailU_x {g : Nat → Int} {V : Nat → Nat → Int} {x : Nat} (hx : x ≠ 183) : tailU g V x = V x := by
  have e : (endS g V).2 x = V x := by
    show (endR (nowG g, useU g V 16) _).2 x = _
    rw [endR_x hx, useU_x hx]
  unfold tailU
  split
  · rw [halU_x hx]; exact e
  · exact e
theorem useU_le {g : Nat → Int} {V : Nat → Nat → Int} {a : Nat} (ha : a < 8) : ∀ k, V 183 a ≤ useU g V k 183 a ∧ useU g V k 183 a ≤ V 183 a + k
  | 0 => by rw [useU]; omega
  | k + 1 => by
    have := useU_le (g := g) (V := V) ha k
    rw [useU]
    split
    · unfold upZ
      rw [if_neg (by omega)]
      omega
    · unfold upZ
      split
      · rename_i h
        rw [← h.2]
        omega
      · omega
theorem tailU_le {g : Nat → Int} {V : Nat → Nat → Int} {a : Nat} (hrow : rowOk g) (ha : a < 8) (h0 : 0 ≤ V 183 a) : 0 ≤ tailU g V 183 a ∧ tailU g V 183 a ≤ V 183 a + 16 := by
  have h1 := useU_le (g := g) (V := V) ha 16
  have n7 : 0 ≤ nowG g 7 ∧ nowG g 7 ≤ 60 := by rw [now_lo (by omega) (by omega)]; exact hrow.2.2.2.2.2.2.2.2.1
  have hn := hrow.2.2.1
  obtain ⟨-, -, -, -, f5⟩ := endR_fact (g := nowG g) (U := useU g V 16) n7 (g 1).toNat (by omega)
  have e : (endS g V).2 183 a = useU g V 16 183 a := f5 a ha
  unfold tailU
  split
  · rw [(halU_o (U := (endS g V).2) 8 a).1 ha, e]
    omega
  · rw [e]
    omega
/-! what a pass and a tick leave -/
def kp4 (g g' : Nat → Int) : Prop := (∀ k, k < 80 → mAt g' k 4 = mAt g k 4) ∧ ∀ b, 2916 ≤ b → g' b = g b
theorem step_kp {g0 : Nat → Int} {U : Nat → Nat → Int} {L : Nat → Nat} {n i : Nat} {bf : Nat → Int} {s : pSt4} (hL : lineOk g0 L n) (h : passOk g0 U L n i s) (hi : i < n) (hk : kp4 g0 s.1) : kp4 g0 (passStep bf s (L i)).1 := by
  have hI := h.1
  have hrow := hI.1
  have e1 : s.1 1 = g0 1 := h.2.1 1 (by omega) (by omega) (by omega)
  have hj : L i < (s.1 1).toNat := by rw [e1]; exact hL.1 i hi
  have hj8 := row_n hrow hj
  have hjo := row_j hrow hj
  have h4 := (jo_4 hjo).2.1
  have h7 := hrow.2.2.2.2.2.2.2.2.1
  have h5 := (h.2.2.2.2.2.1 i (Nat.le_refl _) hi).1
  have h6 : 0 ≤ s.1 6 ∧ s.1 6 < 80 := ⟨hrow.2.2.2.2.2.2.2.1.1, row_6 hI hj (by have := hjo.2.2.2.2.2.2.2.2.2.2.2.2.1 h5; omega)⟩
  cases c : overF s.1 (L i) with
  | true => rw [ps_over c]; exact hk
  | false =>
    cases hg : gfitJ s.1 (L i) (s.1 0) with
    | some f =>
      rw [ps_star c hg]
      refine ⟨fun k hk8 => ?_, fun b hb => ?_⟩
      · (try dsimp only)
        rw [star_at hj8 hk8 (by omega) h4 h6 (Or.inr (by omega))]
        exact hk.1 k hk8
      · (try dsimp only)
        rw [starF_hi hj8 h4 hb h6 h7]
        exact hk.2 b hb
    | none =>
      by_cases c2 : s.2.2.2.1 < s.1 2
      · cases hff : firstF (gfitJ s.1 (L i)) (s.1 0 + 1) 20000 with
        | none => rw [ps_none c hg fun _ => hff]; exact hk
        | some t =>
          obtain ⟨ht, f, hf, hf2⟩ := first_is hff
          rw [ps_prom c hg c2 hff hf]
          refine ⟨fun k hk8 => ?_, fun b hb => ?_⟩
          · (try dsimp only)
            rw [prom_o hk8 (by omega) h4 (Or.inr (by omega))]
            exact hk.1 k hk8
          · (try dsimp only)
            rw [promF_hi hj8 h4 (Or.inr hb) h7]
            exact hk.2 b hb
      · rw [ps_none c hg fun h => absurd h c2]; exact hk
theorem pass_kp {g old : Nat → Int} {U : Nat → Nat → Int} (hI : rowI g) : kp4 g (passAll g U old).1 := by
  have hall := pass_all (U := U) (old := old) hI
  have hl := line_ok (G := rowG (p0G g)) (U := p0U U) (g := p0G g) rfl
  rw [p0_lo (by omega)] at hl
  have hn := hI.1.2.2.1
  have h0 : kp4 g (p0G g) := ⟨fun k hk => p0_at (by omega) (by omega), fun b hb => clrP_hi (by omega) _ (by omega)⟩
  have hgo : ∀ i, i ≤ (mLine (rowG (p0G g)) (p0U U) (g 1).toNat).1 → kp4 (p0G g) (passRun (befF g old (g 1).toNat) (mLine (rowG (p0G g)) (p0U U) (g 1).toNat).2 (p0G g, p0U U, 0, 0, -1) i).1 := by
    intro i
    induction i with
    | zero => exact fun _ => ⟨fun _ _ => rfl, fun _ _ => rfl⟩
    | succ i ih =>
      intro hi
      have ih := ih (by omega)
      rw [passRun]
      split
      · exact ih
      · exact step_kp hl.1 (hall i (by omega)) (by omega) ih
  have h1 := hgo _ (Nat.le_refl _)
  exact ⟨fun k hk => (h1.1 k hk).trans (h0.1 k hk), fun b hb => (h1.2 b hb).trans (h0.2 b hb)⟩
theorem pass_rowP {g old : Nat → Int} {U : Nat → Nat → Int} (hI : rowI g) (hP : rowP g) : rowP (passAll g U old).1 := by
  obtain ⟨k1, k2⟩ := pass_kp (U := U) (old := old) hI
  obtain ⟨-, -, b, -, d, -⟩ := passAll_ok (U := U) (old := old) hI
  refine ⟨fun k hk => by rw [k1 k hk]; exact hP.1 k hk, by rw [b 1 (by omega) (by omega) (by omega)]; exact d, fun x hx hx2 => by rw [k2 x hx]; exact hP.2.2 x hx hx2⟩
theorem tail_is {g : Nat → Int} {U : Nat → Nat → Int} : tailG g U = midG g (useU g U 16) (g 1).toNat := rfl
theorem tail_rowP {g : Nat → Int} {U : Nat → Nat → Int} (hrow : rowOk g) (hP : rowP g) : rowP (tailG g U) := by
  rw [tail_is]
  have hle := Nat.le_refl (g 1).toNat
  have e1 : midG g (useU g U 16) (g 1).toNat 1 = g 1 := mid_lo hrow hle (by omega) (by omega) (by omega)
  refine ⟨fun k hk => by rw [mid_at hrow hle hk (by omega) (by omega) (by omega)]; exact hP.1 k hk, ?_, fun b hb hb2 => ?_⟩
  · rw [e1]
    refine Int.le_trans (sumTo_le fun x hx => ?_) hP.2.1
    (try dsimp only)
    rw [mid_at hrow hle (row_n hrow hx) (by omega) (by omega) (by omega)]
    exact Int.le_refl _
  · rw [mid_hi hrow hle (Or.inr hb)]
    unfold nowG
    rw [put_o (by omega)]
    unfold chaG
    split
    · have := holderF_rg (g := g) (c := b - chRow g)
      omega
    · exact hP.2.2 b hb hb2
/-- a tick -/
def tkF (s : oSt) : oSt := (tailG (passAll s.1 s.2 (fun _ => 0)).1 (passAll s.1 s.2 (fun _ => 0)).2.1, tailU (passAll s.1 s.2 (fun _ => 0)).1 (passAll s.1 s.2 (fun _ => 0)).2.1)
def tkN (s : oSt) : Nat → oSt
  | 0 => s
  | n + 1 => tkF (tkN s n)
theorem tk_old {g old : Nat → Int} {V : Nat → Nat → Int} : tailG (passAll g V old).1 (passAll g V old).2.1 = (tkF (g, V)).1 ∧ tailU (passAll g V old).1 (passAll g V old).2.1 183 = (tkF (g, V)).2 183 := by
  obtain ⟨a, b, -⟩ := passAll_V (g := g) (old := old) (old' := fun _ => 0) (V := V) (V' := V) rfl
  have := tail_V (g := (passAll g V old).1) b
  unfold tkF
  (try dsimp only)
  rw [← a]
  exact this
theorem tkF_V {s s' : oSt} (h1 : s.1 = s'.1) (h2 : s.2 183 = s'.2 183) : (tkF s).1 = (tkF s').1 ∧ (tkF s).2 183 = (tkF s').2 183 := by
  obtain ⟨a, b, -⟩ := passAll_V (g := s.1) (old := fun _ => 0) (old' := fun _ => 0) h2
  have := tail_V (g := (passAll s.1 s.2 (fun _ => 0)).1) b
  unfold tkF
  (try dsimp only)
  rw [← h1, ← a]
  exact this
theorem tkN_V {s s' : oSt} (h1 : s.1 = s'.1) (h2 : s.2 183 = s'.2 183) : ∀ n, (tkN s n).1 = (tkN s' n).1 ∧ (tkN s n).2 183 = (tkN s' n).2 183
  | 0 => ⟨h1, h2⟩
  | n + 1 => tkF_V (tkN_V h1 h2 n).1 (tkN_V h1 h2 n).2
theorem tkF_o {s : oSt} {x : Nat} (hx : x ≠ 183) : (tkF s).2 x = s.2 x := by
  unfold tkF
  (try dsimp only)
  rw [tailU_x hx, passAll_o hx]
theorem tkN_o {s : oSt} {x : Nat} (hx : x ≠ 183) : ∀ n, (tkN s n).2 x = s.2 x
  | 0 => rfl
  | n + 1 => by rw [tkN, tkF_o hx]; exact tkN_o hx n
/-- what holds of the row and of the sums, tick by tick -/
def tkI (s : oSt) : Prop := rowI s.1 ∧ rowP s.1 ∧ ∀ a, a < 8 → 0 ≤ s.2 183 a ∧ s.2 183 a ≤ 16 * s.1 0
theorem tkF_I {s : oSt} (h : tkI s) (hnow : s.1 0 < 110000) : tkI (tkF s) ∧ (tkF s).1 0 = s.1 0 + 1 ∧ ∀ b, b < 24 → b ≠ 0 → b ≠ 6 → b ≠ 7 → (tkF s).1 b = s.1 b := by
  obtain ⟨hI, hP, hu⟩ := h
  obtain ⟨i1, i2, i3, i4, -⟩ := passAll_ok (U := s.2) (old := fun _ => 0) hI
  have hp := pass_rowP (U := s.2) (old := fun _ => 0) hI hP
  have e0 := i3 0 (by omega) (by omega) (by omega)
  unfold tkF tkI
  (try dsimp only)
  generalize passAll s.1 s.2 (fun _ => 0) = P at *
  have hle := Nat.le_refl (P.1 1).toNat
  have t0 : tailG P.1 P.2.1 0 = s.1 0 + 1 := by rw [tail_is, mid_0 i1.1 hle, e0]
  have t1 : ∀ b, b < 24 → b ≠ 0 → b ≠ 6 → b ≠ 7 → tailG P.1 P.2.1 b = s.1 b := fun b h1 h2 h3 h4 => by rw [tail_is, mid_lo i1.1 hle h1 h2 h4, i3 b (by omega) h3 h4]
  refine ⟨⟨tail_row i1 i2 (by rw [e0]; exact hnow), tail_rowP i1.1 hp, fun a ha => ?_⟩, t0, t1⟩
  have h1 := hu a ha
  rw [← i4 a ha] at h1
  have := tailU_le (V := P.2.1) i1.1 ha h1.1
  rw [t0]
  omega
theorem tkN_I {s : oSt} (h : tkI s) (hnow : s.1 0 < 109000) : ∀ n, n ≤ 1000 → tkI (tkN s n) ∧ (tkN s n).1 0 = s.1 0 + n ∧ ∀ b, b < 24 → b ≠ 0 → b ≠ 6 → b ≠ 7 → (tkN s n).1 b = s.1 b
  | 0, _ => ⟨h, by rw [tkN]; omega, fun _ _ _ _ _ => rfl⟩
  | n + 1, hn => by
    obtain ⟨a, b, c⟩ := tkN_I h hnow n (by omega)
    obtain ⟨a', b', c'⟩ := tkF_I a (by omega)
    rw [tkN]
    exact ⟨a', by omega, fun b h1 h2 h3 h4 => by rw [c' b h1 h2 h3 h4, c b h1 h2 h3 h4]⟩
