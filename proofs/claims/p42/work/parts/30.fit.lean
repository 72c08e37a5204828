/-! ===== the fit as a function of widths and of what is busy ===== -/
def cut {α : Type} (d : α) (n : Nat) (f : Nat → α) : Nat → α := fun a => if a < n then f a else d
theorem cut_at {α : Type} {d : α} {n a : Nat} {f : Nat → α} (h : a < n) : cut d n f a = f a := by simp [cut, h]
theorem cut_eq {α : Type} {d : α} {n : Nat} {f g : Nat → α} (h : ∀ a, a < n → f a = g a) : cut d n f = cut d n g := by
  funext a
  unfold cut
  split
  · rename_i h1; exact h a h1
  · rfl
def pickW (w : Nat → Int) (placed : Nat) : Nat → Int
  | 0 => -1
  | i + 1 => if (!placed.testBit i && (decide (pickW w placed i < 0) || decide (w (pickW w placed i).toNat < w i))) = true then (i : Int) else pickW w placed i
theorem pickW_of {G : Nat → Nat → Int} {P : Nat} : ∀ i, pickSt G P i = pickW (G 187) P i
  | 0 => rfl
  | i + 1 => by rw [pickSt, pickW, pickW_of i]
theorem pickW_rg {w : Nat → Int} {P : Nat} : ∀ i : Nat, -1 ≤ pickW w P i ∧ pickW w P i < i
  | 0 => by simp [pickW]
  | i + 1 => by
    have := pickW_rg (w := w) (P := P) i
    rw [pickW]
    split <;> omega
theorem pickW_cut {w : Nat → Int} {P n : Nat} {d : Int} : ∀ i, i ≤ n → pickW (cut d n w) P i = pickW w P i
  | 0, _ => rfl
  | i + 1, h => by
    have r := pickW_rg (w := w) (P := P) i
    rw [pickW, pickW, pickW_cut i (by omega), cut_at (show i < n by omega)]
    by_cases c : pickW w P i < 0
    · simp [c]
    · rw [cut_at (show (pickW w P i).toNat < n by omega)]
def plW (w : Nat → Int) (n : Nat) : Nat → Nat
  | 0 => 0
  | k + 1 => plW w n k ||| 2 ^ (pickW w (plW w n k) n).toNat
def nxW (w : Nat → Int) (n k : Nat) : Nat := (pickW w (plW w n k) n).toNat
theorem plW_of {G : Nat → Nat → Int} {n : Nat} : ∀ k, plK G n k = plW (cut 0 n (G 187)) n k
  | 0 => rfl
  | k + 1 => by rw [plK, plW, plW_of k, pickW_of, pickW_cut n (Nat.le_refl _)]
theorem nxW_of {G : Nat → Nat → Int} {n k : Nat} : nxK G n k = nxW (cut 0 n (G 187)) n k := by
  rw [nxK, nxW, plW_of, pickW_of, pickW_cut n (Nat.le_refl _)]
/-- the fit: which columns are taken, and where each arm lies -/
def gfit (n : Nat) (w : Nat → Int) (b : Nat → Nat) : Nat → Option (Nat × (Nat → Int))
  | 0 => some (0, fun _ => -1)
  | k + 1 => (gfit n w b k).bind fun s => if placeN (b (nxW w n k) ||| s.1) (w (nxW w n k)) < 0 then none else some (s.1 ||| bitsN (placeN (b (nxW w n k) ||| s.1) (w (nxW w n k))).toNat (w (nxW w n k)).toNat, fun y => if y = nxW w n k then placeN (b (nxW w n k) ||| s.1) (w (nxW w n k)) else s.2 y)
def busyA (G : Nat → Nat → Int) (n : Nat) (t : Int) : Nat → Nat := cut 0 n (fun a => busyN G t (t + G 188 a) (G 179 8))
def gfitG (G : Nat → Nat → Int) (t : Int) : Option (Nat × (Nat → Int)) := gfit (G 179 9).toNat (cut 0 (G 179 9).toNat (G 187)) (busyA G (G 179 9).toNat t) (G 179 9).toNat
theorem fit_gfit {G : Nat → Nat → Int} {n : Nat} {t : Int} : ∀ k, k ≤ n → (fitSt G n t k = none ∧ gfit n (cut 0 n (G 187)) (busyA G n t) k = none) ∨ ∃ s s', fitSt G n t k = some s ∧ gfit n (cut 0 n (G 187)) (busyA G n t) k = some s' ∧ s.1 = s'.1 ∧ ∀ a, (plK G n k).testBit a = true → s.2 a = s'.2 a
  | 0, _ => Or.inr ⟨_, _, rfl, rfl, rfl, fun a h => by simp [plK] at h⟩
  | k + 1, h => by
    have hx := (nxK_lt (G := G) (n := n) (k := k) (by omega)).1
    rw [fitSt, gfit, ← nxW_of]
    have hw : cut 0 n (G 187) (nxK G n k) = G 187 (nxK G n k) := cut_at hx
    have hb : busyA G n t (nxK G n k) = busyN G t (t + G 188 (nxK G n k)) (G 179 8) := cut_at hx
    rw [hw, hb]
    rcases fit_gfit (G := G) (n := n) (t := t) k (by omega) with ⟨h1, h2⟩ | ⟨s, s', h1, h2, h3, h4⟩
    · exact Or.inl ⟨by rw [h1]; rfl, by rw [h2]; rfl⟩
    · rw [h1, h2]
      simp only [Option.bind_some]
      rw [← h3]
      split
      · exact Or.inl ⟨rfl, rfl⟩
      · refine Or.inr ⟨_, _, rfl, rfl, rfl, fun a ha => ?_⟩
        rw [plK, Nat.testBit_or, Nat.testBit_two_pow] at ha
        by_cases e : a = nxK G n k
        · simp [e]
        · have e2 : ¬ (pickSt G (plK G n k) n).toNat = a := fun h => e h.symm
          simp only [e2, decide_false, Bool.or_false] at ha
          simp only [e, if_false]
          exact h4 a ha
theorem cntB_full {P : Nat} : ∀ n, cntB P n = n → ∀ a, a < n → P.testBit a = true
  | 0, _, a, h => absurd h (by omega)
  | n + 1, h, a, ha => by
    have := cntB_le (P := P) n
    rw [cntB] at h
    split at h
    · rename_i h1
      by_cases e : a = n
      · subst e; exact h1
      · exact cntB_full n (by omega) a (by omega)
    · omega
theorem plK_all {G : Nat → Nat → Int} {n a : Nat} (h : a < n) : (plK G n n).testBit a = true := cntB_full n (plK_cnt n (Nat.le_refl _)) a h
theorem W_fits {G U : Nat → Nat → Int} {t : Int} {R : Option pV → pM → Prop} (hok : mOk G) (hg : gangOk G) (ht : rg t) (h1 : ∀ s F, gfitG G t = some s → (∀ a, a < (G 179 9).toNat → F a = s.2 a) → R (some (pI (zI true))) (zM (setRow G 189 F) U)) (h2 : ∀ F, gfitG G t = none → R (some (pI (zI false))) (zM (setRow G 189 F) U)) : WpF F_M_fits [pR 179, pI (Int32.ofInt t)] (zM G U) R := by
  obtain ⟨m1, m2⟩ := M_fits (U := U) hok hg ht
  rcases fit_gfit (G := G) (n := (G 179 9).toNat) (t := t) _ (Nat.le_refl _) with ⟨e1, e2⟩ | ⟨s, s', e1, e2, e3, e4⟩
  · obtain ⟨F, hF⟩ := m2 e1
    exact wF_e hF (h2 F e2)
  · exact wF_e (m1 s e1) (h1 s' s.2 e2 fun a ha => e4 a (plK_all ha))
theorem gfitG_row {G : Nat → Nat → Int} {F : Nat → Int} {t : Int} : gfitG (setRow G 189 F) t = gfitG G t := by
  unfold gfitG busyA
  rw [setRow_o (by decide), setRow_o (by decide), setRow_o (by decide)]
  simp only [busyN_row]
theorem orTo_congr {f g : Nat → Nat} : ∀ {n : Nat}, (∀ i, i < n → f i = g i) → orTo f n = orTo g n
  | 0, _ => rfl
  | n + 1, h => by rw [orTo, orTo, orTo_congr fun i hi => h i (by omega), h n (by omega)]
/-- between two changes what is busy is the same -/
theorem busyA_const {G : Nat → Nat → Int} {t t' : Int} (hle : t ≤ t') (hch : ∀ v, chG G v → ¬ (t < v ∧ v ≤ t')) (hmore : G 179 17 = 0) : busyA G (G 179 9).toNat t = busyA G (G 179 9).toNat t' := by
  refine cut_eq fun a ha => ?_
  unfold busyN
  rw [hmore]
  show (_ ||| _) ||| orTo _ 0 = (_ ||| _) ||| orTo _ 0
  congr 1
  congr 1
  · refine orTo_congr fun j hj => orTo_congr fun b hb => ?_
    unfold byArm
    have e1 : cHeld (G 180) t (G 179 15) (G 179 16) j b = cHeld (G 180) t' (G 179 15) (G 179 16) j b := by
      unfold cHeld
      cases h : mHolds (G 180) j b with
      | false => simp
      | true =>
        have := hch _ (Or.inl ⟨j, hj, Or.inl ⟨b, hb, Or.inl ⟨h, rfl⟩⟩⟩)
        have e : (t < mAt (G 180) j 6 + mAt (G 180) j (16 + b)) = (t' < mAt (G 180) j 6 + mAt (G 180) j (16 + b)) := propext (by omega)
        simp only [e]
    have e2 : cProm (G 180) t (t + G 188 a) (G 179 13) (G 179 14) j b = cProm (G 180) t' (t' + G 188 a) (G 179 13) (G 179 14) j b := by
      unfold cProm
      by_cases h : 0 ≤ mAt (G 180) j 9
      · have := hch _ (Or.inl ⟨j, hj, Or.inl ⟨b, hb, Or.inr ⟨h, rfl⟩⟩⟩)
        have h2 := hch _ (Or.inl ⟨j, hj, Or.inr ⟨a, ha, h, rfl⟩⟩)
        have e : (t < mAt (G 180) j 9 + mAt (G 180) j (16 + b)) = (t' < mAt (G 180) j 9 + mAt (G 180) j (16 + b)) := propext (by omega)
        have e3 : (mAt (G 180) j 9 < t + G 188 a) = (mAt (G 180) j 9 < t' + G 188 a) := propext (by omega)
        simp only [e, e3]
      · simp [h]
    rw [e1, e2]
  · refine orTo_congr fun s hs => ?_
    unfold bySpan
    by_cases h : 0 ≤ mSpan (G 180) s 0
    · have := hch _ (Or.inr ⟨s, hs, h, Or.inl rfl⟩)
      have h2 := hch _ (Or.inr ⟨s, hs, h, Or.inr ⟨a, ha, rfl⟩⟩)
      have e : (t < mSpan (G 180) s 4) = (t' < mSpan (G 180) s 4) := propext (by omega)
      have e3 : (mSpan (G 180) s 3 < t + G 188 a) = (mSpan (G 180) s 3 < t' + G 188 a) := propext (by omega)
      simp only [e, e3]
    · simp [h]
theorem gfitG_const {G : Nat → Nat → Int} {t t' : Int} (hle : t ≤ t') (hch : ∀ v, chG G v → ¬ (t < v ∧ v ≤ t')) (hmore : G 179 17 = 0) : gfitG G t = gfitG G t' := by
  unfold gfitG
  rw [busyA_const hle hch hmore]
theorem mOk_row' {G : Nat → Nat → Int} {F : Nat → Int} (h : mOk G) : mOk (setRow G 189 F) := mOk_row h
theorem gangOk_row {G : Nat → Nat → Int} {F : Nat → Int} (h : gangOk G) : gangOk (setRow G 189 F) := by
  unfold gangOk at h ⊢
  rw [setRow_o (by decide), setRow_o (by decide), setRow_o (by decide)]
  exact h
theorem nearOk_row {G : Nat → Nat → Int} {F : Nat → Int} (h : nearOk G) : nearOk (setRow G 189 F) := by
  unfold nearOk at h ⊢
  rw [setRow_o (by decide)]
  exact h
theorem chG_row {G : Nat → Nat → Int} {F : Nat → Int} : chG (setRow G 189 F) = chG G := by
  funext v
  unfold chG chJ chS chK
  rw [setRow_o (by decide), setRow_o (by decide), setRow_o (by decide)]
theorem setRow_2 {G : Nat → Nat → Int} {k : Nat} {F F' : Nat → Int} : setRow (setRow G k F) k F' = setRow G k F' := by
  funext a b
  unfold setRow
  split <;> rfl
/-- the first tick at which all arms fit -/
theorem W_first {G U : Nat → Nat → Int} {from_ : Int} {R : Option pV → pM → Prop} (hok : mOk G) (hg : gangOk G) (hn : nearOk G) (hmore : G 179 17 = 0) (hf : 0 ≤ from_ ∧ from_ < 1000000000) (hnow : 0 ≤ G 180 0 ∧ G 180 0 ≤ 500000)
    (h1 : ∀ t s F, from_ ≤ t → t ≤ G 180 0 + 20000 → gfitG G t = some s → (∀ u, from_ ≤ u → u < t → gfitG G u = none) → (∀ a, a < (G 179 9).toNat → F a = s.2 a) → R (some (pI (Int32.ofInt t))) (zM (setRow G 189 F) U))
    (h2 : ∀ F, (∀ u, from_ ≤ u → u ≤ G 180 0 + 20000 → gfitG G u = none) → R (some (pI (Int32.ofInt (-1)))) (zM (setRow G 189 F) U)) : WpF F_M_first [pR 179, pI (Int32.ofInt from_)] (zM G U) R := by
  unfold F_M_first B_M_first
  apply wBody (Nat.le_of_ble_eq_true rfl)
  repeat' first | with_reducible apply wAsIc (F := F_M_fits) | with_reducible apply wAsZc (F := F_M_fits) | with_reducible apply wRIc (F := F_M_fits) | with_reducible apply wRZc (F := F_M_fits) | with_reducible apply wBc (F := F_M_fits) | with_reducible apply wIc (F := F_M_fits) | with_reducible apply wAsIc (F := F_M_change) | with_reducible apply wAsZc (F := F_M_change) | with_reducible apply wRIc (F := F_M_change) | with_reducible apply wRZc (F := F_M_change) | with_reducible apply wBc (F := F_M_change) | with_reducible apply wIc (F := F_M_change) | with_reducible apply wSeq | with_reducible apply wSkip | with_reducible apply wIf | with_reducible apply wAsI | with_reducible apply wRI | with_reducible apply wB_e | (intro h; try simp only [Bool.and_eq_true, Bool.or_eq_true, Bool.not_eq_true', Bool.not_eq_false', Bool.and_eq_false_imp, Bool.or_eq_false_iff, decide_eq_true_eq, decide_eq_false_iff_not, Bool.not_true, Bool.not_false, Bool.true_eq_false, Bool.false_eq_true, Bool.not_not] at h) | with_reducible apply wN1 | with_reducible apply wN2 | with_reducible apply wN3 | with_reducible apply wN4 | with_reducible apply wN0 | with_reducible apply wE0 | with_reducible apply wXI | with_reducible apply wXB | with_reducible exact eK | ((with_reducible apply eL); rfl) | ((with_reducible apply eLR); rfl) | with_reducible exact eAN | with_reducible apply eAdd | with_reducible apply eLe | with_reducible apply eGe | with_reducible apply eAnd | with_reducible apply eArr2 | with_reducible apply eAI | with_reducible apply eAR | with_reducible apply eCI | with_reducible apply eCZ | with_reducible apply wRc | with_reducible exact ckv179 | with_reducible apply R_M_g | with_reducible exact N_M_g | with_reducible exact Int.toNat_natCast _ | with_reducible exact tn0 | with_reducible exact tn1 | with_reducible exact tn2 | with_reducible exact tn3 | with_reducible exact tn4 | with_reducible exact tn5 | with_reducible exact tn6 | with_reducible exact tn7 | with_reducible exact tn8 | with_reducible exact tn9 | with_reducible exact tn10 | with_reducible exact tn11 | with_reducible exact tn12 | with_reducible exact tn13 | with_reducible exact tn14 | with_reducible exact tn15 | with_reducible exact tn16 | with_reducible exact tnK0 | with_reducible exact tnK4 | with_reducible exact tnK8 | with_reducible exact tnK12 | with_reducible exact tnK16 | with_reducible exact tnK20 | with_reducible exact tnK24 | with_reducible exact tnK28 | with_reducible exact tnK32 | with_reducible exact tnJA | with_reducible exact tnA | with_reducible exact upR_s | with_reducible refine upR_a (by first | decide | omega) ?_ | with_reducible refine upR_b (by first | decide | omega) ?_ | exact Nat.le_of_ble_eq_true rfl | with_reducible assumption | with_reducible exact rfl | omega | with_reducible apply wAnd | decide +kernel
  refine wWh (fun i L σ => ∃ t F, L = [some (pR 179), some (pI (Int32.ofInt from_)), some (pI (Int32.ofInt t))] ∧ σ = zM (setRow G 189 F) U ∧ -1 ≤ t ∧ t < 2147483648 ∧ ((0 ≤ t ∧ from_ + i ≤ t ∧ ∀ u, from_ ≤ u → u < t → gfitG G u = none) ∨ (t < 0 ∧ ∀ u, from_ ≤ u → gfitG G u = none))) 600000 (by omega) ⟨from_, G 189, rfl, by rw [setRow_0], by omega, by omega, Or.inl ⟨by omega, by omega, fun u a b => by omega⟩⟩ ?_
  rintro i _ _ hi ⟨t, F, rfl, rfl, t0, t1, hb⟩
  have e0 : setRow G 189 F 180 0 = G 180 0 := by rw [setRow_o (by decide)]
  repeat' first | with_reducible apply wAsIc (F := F_M_fits) | with_reducible apply wAsZc (F := F_M_fits) | with_reducible apply wRIc (F := F_M_fits) | with_reducible apply wRZc (F := F_M_fits) | with_reducible apply wBc (F := F_M_fits) | with_reducible apply wIc (F := F_M_fits) | with_reducible apply wAsIc (F := F_M_change) | with_reducible apply wAsZc (F := F_M_change) | with_reducible apply wRIc (F := F_M_change) | with_reducible apply wRZc (F := F_M_change) | with_reducible apply wBc (F := F_M_change) | with_reducible apply wIc (F := F_M_change) | with_reducible apply wSeq | with_reducible apply wSkip | with_reducible apply wIf | with_reducible apply wAsI | with_reducible apply wRI | with_reducible apply wB_e | (intro h; try simp only [Bool.and_eq_true, Bool.or_eq_true, Bool.not_eq_true', Bool.not_eq_false', Bool.and_eq_false_imp, Bool.or_eq_false_iff, decide_eq_true_eq, decide_eq_false_iff_not, Bool.not_true, Bool.not_false, Bool.true_eq_false, Bool.false_eq_true, Bool.not_not] at h) | with_reducible apply wN1 | with_reducible apply wN2 | with_reducible apply wN3 | with_reducible apply wN4 | with_reducible apply wN0 | with_reducible apply wE0 | with_reducible apply wXI | with_reducible apply wXB | with_reducible exact eK | ((with_reducible apply eL); rfl) | ((with_reducible apply eLR); rfl) | with_reducible exact eAN | with_reducible apply eAdd | with_reducible apply eLe | with_reducible apply eGe | with_reducible apply eAnd | with_reducible apply eArr2 | with_reducible apply eAI | with_reducible apply eAR | with_reducible apply eCI | with_reducible apply eCZ | with_reducible apply wRc | with_reducible exact ckv179 | with_reducible apply R_M_g | with_reducible exact N_M_g | with_reducible exact Int.toNat_natCast _ | with_reducible exact tn0 | with_reducible exact tn1 | with_reducible exact tn2 | with_reducible exact tn3 | with_reducible exact tn4 | with_reducible exact tn5 | with_reducible exact tn6 | with_reducible exact tn7 | with_reducible exact tn8 | with_reducible exact tn9 | with_reducible exact tn10 | with_reducible exact tn11 | with_reducible exact tn12 | with_reducible exact tn13 | with_reducible exact tn14 | with_reducible exact tn15 | with_reducible exact tn16 | with_reducible exact tnK0 | with_reducible exact tnK4 | with_reducible exact tnK8 | with_reducible exact tnK12 | with_reducible exact tnK16 | with_reducible exact tnK20 | with_reducible exact tnK24 | with_reducible exact tnK28 | with_reducible exact tnK32 | with_reducible exact tnJA | with_reducible exact tnA | with_reducible exact upR_s | with_reducible refine upR_a (by first | decide | omega) ?_ | with_reducible refine upR_b (by first | decide | omega) ?_ | exact Nat.le_of_ble_eq_true rfl | with_reducible assumption | with_reducible exact rfl | omega | with_reducible apply wAnd | decide +kernel
  · refine W_fits (mOk_row hok) (gangOk_row hg) (by omega) ?_ ?_
    · intro s F' hs hF'
      rw [gfitG_row] at hs
      rw [setRow_2]
      rw [setRow_o (by decide)] at hF'
      repeat' first | with_reducible apply wAsIc (F := F_M_fits) | with_reducible apply wAsZc (F := F_M_fits) | with_reducible apply wRIc (F := F_M_fits) | with_reducible apply wRZc (F := F_M_fits) | with_reducible apply wBc (F := F_M_fits) | with_reducible apply wIc (F := F_M_fits) | with_reducible apply wAsIc (F := F_M_change) | with_reducible apply wAsZc (F := F_M_change) | with_reducible apply wRIc (F := F_M_change) | with_reducible apply wRZc (F := F_M_change) | with_reducible apply wBc (F := F_M_change) | with_reducible apply wIc (F := F_M_change) | with_reducible apply wSeq | with_reducible apply wSkip | with_reducible apply wIf | with_reducible apply wAsI | with_reducible apply wRI | with_reducible apply wB_e | (intro h; try simp only [Bool.and_eq_true, Bool.or_eq_true, Bool.not_eq_true', Bool.not_eq_false', Bool.and_eq_false_imp, Bool.or_eq_false_iff, decide_eq_true_eq, decide_eq_false_iff_not, Bool.not_true, Bool.not_false, Bool.true_eq_false, Bool.false_eq_true, Bool.not_not] at h) | with_reducible apply wN1 | with_reducible apply wN2 | with_reducible apply wN3 | with_reducible apply wN4 | with_reducible apply wN0 | with_reducible apply wE0 | with_reducible apply wXI | with_reducible apply wXB | with_reducible exact eK | ((with_reducible apply eL); rfl) | ((with_reducible apply eLR); rfl) | with_reducible exact eAN | with_reducible apply eAdd | with_reducible apply eLe | with_reducible apply eGe | with_reducible apply eAnd | with_reducible apply eArr2 | with_reducible apply eAI | with_reducible apply eAR | with_reducible apply eCI | with_reducible apply eCZ | with_reducible apply wRc | with_reducible exact ckv179 | with_reducible apply R_M_g | with_reducible exact N_M_g | with_reducible exact Int.toNat_natCast _ | with_reducible exact tn0 | with_reducible exact tn1 | with_reducible exact tn2 | with_reducible exact tn3 | with_reducible exact tn4 | with_reducible exact tn5 | with_reducible exact tn6 | with_reducible exact tn7 | with_reducible exact tn8 | with_reducible exact tn9 | with_reducible exact tn10 | with_reducible exact tn11 | with_reducible exact tn12 | with_reducible exact tn13 | with_reducible exact tn14 | with_reducible exact tn15 | with_reducible exact tn16 | with_reducible exact tnK0 | with_reducible exact tnK4 | with_reducible exact tnK8 | with_reducible exact tnK12 | with_reducible exact tnK16 | with_reducible exact tnK20 | with_reducible exact tnK24 | with_reducible exact tnK28 | with_reducible exact tnK32 | with_reducible exact tnJA | with_reducible exact tnA | with_reducible exact upR_s | with_reducible refine upR_a (by first | decide | omega) ?_ | with_reducible refine upR_b (by first | decide | omega) ?_ | exact Nat.le_of_ble_eq_true rfl | with_reducible assumption | with_reducible exact rfl | omega | with_reducible apply wAnd | decide +kernel
      rcases hb with ⟨h3, h4, h5⟩ | ⟨h3, _⟩
      · exact h1 t s F' (by omega) (by omega) hs h5 hF'
      · omega
    · intro F' hs
      rw [gfitG_row] at hs
      rw [setRow_2]
      repeat' first | with_reducible apply wAsIc (F := F_M_fits) | with_reducible apply wAsZc (F := F_M_fits) | with_reducible apply wRIc (F := F_M_fits) | with_reducible apply wRZc (F := F_M_fits) | with_reducible apply wBc (F := F_M_fits) | with_reducible apply wIc (F := F_M_fits) | with_reducible apply wAsIc (F := F_M_change) | with_reducible apply wAsZc (F := F_M_change) | with_reducible apply wRIc (F := F_M_change) | with_reducible apply wRZc (F := F_M_change) | with_reducible apply wBc (F := F_M_change) | with_reducible apply wIc (F := F_M_change) | with_reducible apply wSeq | with_reducible apply wSkip | with_reducible apply wIf | with_reducible apply wAsI | with_reducible apply wRI | with_reducible apply wB_e | (intro h; try simp only [Bool.and_eq_true, Bool.or_eq_true, Bool.not_eq_true', Bool.not_eq_false', Bool.and_eq_false_imp, Bool.or_eq_false_iff, decide_eq_true_eq, decide_eq_false_iff_not, Bool.not_true, Bool.not_false, Bool.true_eq_false, Bool.false_eq_true, Bool.not_not] at h) | with_reducible apply wN1 | with_reducible apply wN2 | with_reducible apply wN3 | with_reducible apply wN4 | with_reducible apply wN0 | with_reducible apply wE0 | with_reducible apply wXI | with_reducible apply wXB | with_reducible exact eK | ((with_reducible apply eL); rfl) | ((with_reducible apply eLR); rfl) | with_reducible exact eAN | with_reducible apply eAdd | with_reducible apply eLe | with_reducible apply eGe | with_reducible apply eAnd | with_reducible apply eArr2 | with_reducible apply eAI | with_reducible apply eAR | with_reducible apply eCI | with_reducible apply eCZ | with_reducible apply wRc | with_reducible exact ckv179 | with_reducible apply R_M_g | with_reducible exact N_M_g | with_reducible exact Int.toNat_natCast _ | with_reducible exact tn0 | with_reducible exact tn1 | with_reducible exact tn2 | with_reducible exact tn3 | with_reducible exact tn4 | with_reducible exact tn5 | with_reducible exact tn6 | with_reducible exact tn7 | with_reducible exact tn8 | with_reducible exact tn9 | with_reducible exact tn10 | with_reducible exact tn11 | with_reducible exact tn12 | with_reducible exact tn13 | with_reducible exact tn14 | with_reducible exact tn15 | with_reducible exact tn16 | with_reducible exact tnK0 | with_reducible exact tnK4 | with_reducible exact tnK8 | with_reducible exact tnK12 | with_reducible exact tnK16 | with_reducible exact tnK20 | with_reducible exact tnK24 | with_reducible exact tnK28 | with_reducible exact tnK32 | with_reducible exact tnJA | with_reducible exact tnA | with_reducible exact upR_s | with_reducible refine upR_a (by first | decide | omega) ?_ | with_reducible refine upR_b (by first | decide | omega) ?_ | exact Nat.le_of_ble_eq_true rfl | with_reducible assumption | with_reducible exact rfl | omega | with_reducible apply wAnd | decide +kernel
      refine M_change (mOk_row hok) (gangOk_row hg) (nearOk_row hn) (by omega) ?_
      intro best hbest
      rw [chG_row] at hbest
      have rb := soon_rg hbest (by omega)
      repeat' first | with_reducible apply wAsIc (F := F_M_fits) | with_reducible apply wAsZc (F := F_M_fits) | with_reducible apply wRIc (F := F_M_fits) | with_reducible apply wRZc (F := F_M_fits) | with_reducible apply wBc (F := F_M_fits) | with_reducible apply wIc (F := F_M_fits) | with_reducible apply wAsIc (F := F_M_change) | with_reducible apply wAsZc (F := F_M_change) | with_reducible apply wRIc (F := F_M_change) | with_reducible apply wRZc (F := F_M_change) | with_reducible apply wBc (F := F_M_change) | with_reducible apply wIc (F := F_M_change) | with_reducible apply wSeq | with_reducible apply wSkip | with_reducible apply wIf | with_reducible apply wAsI | with_reducible apply wRI | with_reducible apply wB_e | (intro h; try simp only [Bool.and_eq_true, Bool.or_eq_true, Bool.not_eq_true', Bool.not_eq_false', Bool.and_eq_false_imp, Bool.or_eq_false_iff, decide_eq_true_eq, decide_eq_false_iff_not, Bool.not_true, Bool.not_false, Bool.true_eq_false, Bool.false_eq_true, Bool.not_not] at h) | with_reducible apply wN1 | with_reducible apply wN2 | with_reducible apply wN3 | with_reducible apply wN4 | with_reducible apply wN0 | with_reducible apply wE0 | with_reducible apply wXI | with_reducible apply wXB | with_reducible exact eK | ((with_reducible apply eL); rfl) | ((with_reducible apply eLR); rfl) | with_reducible exact eAN | with_reducible apply eAdd | with_reducible apply eLe | with_reducible apply eGe | with_reducible apply eAnd | with_reducible apply eArr2 | with_reducible apply eAI | with_reducible apply eAR | with_reducible apply eCI | with_reducible apply eCZ | with_reducible apply wRc | with_reducible exact ckv179 | with_reducible apply R_M_g | with_reducible exact N_M_g | with_reducible exact Int.toNat_natCast _ | with_reducible exact tn0 | with_reducible exact tn1 | with_reducible exact tn2 | with_reducible exact tn3 | with_reducible exact tn4 | with_reducible exact tn5 | with_reducible exact tn6 | with_reducible exact tn7 | with_reducible exact tn8 | with_reducible exact tn9 | with_reducible exact tn10 | with_reducible exact tn11 | with_reducible exact tn12 | with_reducible exact tn13 | with_reducible exact tn14 | with_reducible exact tn15 | with_reducible exact tn16 | with_reducible exact tnK0 | with_reducible exact tnK4 | with_reducible exact tnK8 | with_reducible exact tnK12 | with_reducible exact tnK16 | with_reducible exact tnK20 | with_reducible exact tnK24 | with_reducible exact tnK28 | with_reducible exact tnK32 | with_reducible exact tnJA | with_reducible exact tnA | with_reducible exact upR_s | with_reducible refine upR_a (by first | decide | omega) ?_ | with_reducible refine upR_b (by first | decide | omega) ?_ | exact Nat.le_of_ble_eq_true rfl | with_reducible assumption | with_reducible exact rfl | omega | with_reducible apply wAnd | decide +kernel
      obtain ⟨b1, b2, b3⟩ := hbest
      have hb0 : 0 ≤ t ∧ from_ + i ≤ t ∧ ∀ u, from_ ≤ u → u < t → gfitG G u = none := by
        rcases hb with h | ⟨h, _⟩
        · exact h
        · omega
      refine ⟨best, F', rfl, rfl, by omega, by omega, ?_⟩
      by_cases c : best < 0
      · refine Or.inr ⟨c, fun u hu => ?_⟩
        by_cases c2 : u < t
        · exact hb0.2.2 u hu c2
        · rw [← gfitG_const (t := t) (by omega) (fun v hv h => by have := b3 v hv h.1; omega) hmore]
          exact hs
      · refine Or.inl ⟨by omega, by omega, fun u hu hu2 => ?_⟩
        by_cases c2 : u < t
        · exact hb0.2.2 u hu c2
        · rw [← gfitG_const (t := t) (by omega) (fun v hv h => by have := b3 v hv h.1; omega) hmore]
          exact hs
  · refine h2 F fun u h3 h4 => ?_
    rcases hb with ⟨h5, h6, h7⟩ | ⟨h5, h6⟩
    · exact h7 u h3 (by omega)
    · exact h6 u h3
