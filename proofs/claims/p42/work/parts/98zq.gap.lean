/-! ===== calls of both: gaps ===== -/
def gpC (c : Nat) (r : bR) (x : Int) : Bool := (r.m.testBit c && decide (r.f ≤ x)) && decide (x < r.t)
theorem gpC_t {c : Nat} {r : bR} {x : Int} : gpC c r x = true ↔ (r.m.testBit c = true ∧ r.f ≤ x) ∧ x < r.t := by
  unfold gpC
  rw [Bool.and_eq_true, Bool.and_eq_true, decide_eq_true_eq, decide_eq_true_eq]
theorem gpC_f {c : Nat} {r : bR} {x : Int} : gpC c r x = false ↔ ¬ ((r.m.testBit c = true ∧ r.f ≤ x) ∧ x < r.t) := by
  rw [← gpC_t]; simp
def cntL (p : bR → Bool) : List bR → Nat
  | [] => 0
  | r :: l => cntL p l + (if p r = true then 1 else 0)
theorem cntL_le {p : bR → Bool} : ∀ l, cntL p l ≤ l.length
  | [] => Nat.le_refl _
  | r :: l => by
    have := cntL_le (p := p) l
    rw [cntL, List.length_cons]
    split <;> omega
theorem cntL_mono {p q : bR → Bool} (h : ∀ r, p r = true → q r = true) : ∀ l, cntL p l ≤ cntL q l
  | [] => Nat.le_refl _
  | r :: l => by
    have := cntL_mono h l
    rw [cntL, cntL]
    by_cases c : p r = true
    · rw [if_pos c, if_pos (h r c)]; omega
    · rw [if_neg c]; omega
theorem cntL_lt {p q : bR → Bool} (h : ∀ r, p r = true → q r = true) {s : bR} (h1 : q s = true) (h2 : p s = false) : ∀ l, s ∈ l → cntL p l + 1 ≤ cntL q l
  | [], hs => by cases hs
  | r :: l, hs => by
    rw [cntL, cntL]
    rcases List.mem_cons.mp hs with rfl | hs
    · have := cntL_mono h l
      rw [if_pos h1, if_neg (by rw [h2]; simp)]
      omega
    · have := cntL_lt h h1 h2 l hs
      by_cases c : p r = true
      · rw [if_pos c, if_pos (h r c)]; omega
      · rw [if_neg c]; omega
theorem cntL_all {p : bR → Bool} : ∀ l, l.length ≤ cntL p l → ∀ r, r ∈ l → p r = true
  | [], _, r, hr => by cases hr
  | s :: l, h, r, hr => by
    have h1 := cntL_le (p := p) l
    rw [cntL, List.length_cons] at h
    by_cases c : p s = true
    · rw [if_pos c] at h
      rcases List.mem_cons.mp hr with rfl | hr
      · exact c
      · exact cntL_all l (by omega) r hr
    · rw [if_neg c] at h
      omega
/-- the first tick from t on at which nothing lies on a column -/
def gpB (l : List bR) (c : Nat) (t x : Int) : Prop := t ≤ x ∧ (∀ r, r ∈ l → gpC c r x = false) ∧ ∀ y, t ≤ y → y < x → ∃ r, r ∈ l ∧ gpC c r y = true
theorem gpB_u {l : List bR} {c : Nat} {t x x' : Int} (h1 : gpB l c t x) (h2 : gpB l c t x') : x = x' := by
  obtain ⟨a1, a2, a3⟩ := h1
  obtain ⟨b1, b2, b3⟩ := h2
  rcases Int.lt_trichotomy x x' with h | h | h
  · obtain ⟨r, hr, hc⟩ := b3 x a1 h
    rw [a2 r hr] at hc; cases hc
  · exact h
  · obtain ⟨r, hr, hc⟩ := a3 x' b1 h
    rw [b2 r hr] at hc; cases hc
def gBf (l : List bR) (c : Nat) : Nat → Int → Int
  | 0, t => t
  | f + 1, t => match l.find? (fun r => gpC c r t) with
    | none => t
    | some r => gBf l c f r.t
theorem gBf_is {l : List bR} {c : Nat} : ∀ f t, cntL (fun r => decide (t < r.t)) l ≤ f → gpB l c t (gBf l c f t)
  | 0, t, h => by
    refine ⟨Int.le_refl _, fun r hr => gpC_f.mpr fun h2 => ?_, fun y h1 h2 => by rw [gBf] at h2; omega⟩
    have := cntL_lt (p := fun _ => false) (q := fun r => decide (t < r.t)) (fun _ h => by cases h) (s := r) (decide_eq_true (by rw [gBf] at h2; exact h2.2)) rfl l hr
    omega
  | f + 1, t, h => by
    have hg : gBf l c (f + 1) t = match l.find? (fun r => gpC c r t) with
      | none => t
      | some r => gBf l c f r.t := rfl
    cases hf : l.find? (fun r => gpC c r t) with
    | none =>
      rw [hf] at hg
      simp only at hg
      rw [hg]
      refine ⟨Int.le_refl _, fun r hr => ?_, fun y h1 h2 => by omega⟩
      have := List.find?_eq_none.mp hf r hr
      simpa using this
    | some r =>
      rw [hf] at hg
      simp only at hg
      rw [hg]
      have hr := List.mem_of_find?_eq_some hf
      have hc0 : gpC c r t = true := List.find?_some (p := fun r => gpC c r t) hf
      have hc := gpC_t.mp hc0
      have hl := cntL_lt (p := fun s => decide (r.t < s.t)) (q := fun s => decide (t < s.t)) (fun s h => by rw [decide_eq_true_eq] at *; omega) (s := r) (decide_eq_true hc.2) (decide_eq_false (by omega)) l hr
      obtain ⟨a1, a2, a3⟩ := gBf_is (l := l) (c := c) f r.t (by omega)
      refine ⟨by omega, a2, fun y h1 h2 => ?_⟩
      by_cases cy : r.t ≤ y
      · exact a3 y cy h2
      · exact ⟨r, hr, gpC_t.mpr ⟨⟨hc.1.1, by omega⟩, by omega⟩⟩
def gB (l : List bR) (c : Nat) (t : Int) : Int := gBf l c l.length t
theorem gB_is {l : List bR} {c : Nat} {t : Int} : gpB l c t (gB l c t) := gBf_is _ _ (cntL_le l)
theorem gB_eq {l : List bR} {c : Nat} {t x : Int} (h : gpB l c t x) : gB l c t = x := gpB_u gB_is h
theorem gB_le {l : List bR} {c : Nat} {t m : Int} (ht : t ≤ m) (hm : ∀ r, r ∈ l → r.t ≤ m) : t ≤ gB l c t ∧ gB l c t ≤ m := by
  obtain ⟨a1, a2, a3⟩ := gB_is (l := l) (c := c) (t := t)
  refine ⟨a1, ?_⟩
  rcases Int.lt_or_le m (gB l c t) with h | h
  · obtain ⟨r, hr, hc⟩ := a3 m ht h
    have := (gpC_t.mp hc).2
    have := hm r hr
    omega
  · exact h
/-- the least of some numbers above one, or none -/
def bgP (S : Int → Prop) (t x : Int) : Prop := (x = -1 ∧ ∀ v, S v → v ≤ t) ∨ (t < x ∧ 0 ≤ x ∧ S x ∧ ∀ v, S v → t < v → x ≤ v)
theorem bgP_u {S : Int → Prop} {t x x' : Int} (h1 : bgP S t x) (h2 : bgP S t x') : x = x' := by
  rcases h1 with ⟨a1, a2⟩ | ⟨a1, a2, a3, a4⟩ <;> rcases h2 with ⟨b1, b2⟩ | ⟨b1, b2, b3, b4⟩
  · omega
  · have := a2 _ b3; omega
  · have := b2 _ a3; omega
  · have := a4 _ b3 b1
    have := b4 _ a3 a1
    omega
theorem bgP_eqv {S S' : Int → Prop} {t x : Int} (h : ∀ v, t < v → (S v ↔ S' v)) (h1 : bgP S t x) : bgP S' t x := by
  rcases h1 with ⟨a1, a2⟩ | ⟨a1, a2, a3, a4⟩
  · refine Or.inl ⟨a1, fun v hv => ?_⟩
    rcases Int.lt_or_le t v with c | c
    · have := a2 v ((h v c).mpr hv); omega
    · exact c
  · exact Or.inr ⟨a1, a2, (h x a1).mp a3, fun v hv c => a4 v ((h v c).mpr hv) c⟩
theorem bgP_add {S : Int → Prop} {t x v : Int} (h : bgP S t x) (hv : 0 ≤ v) : bgP (fun y => S y ∨ y = v) t (if (decide (t < v) && (decide (x < 0) || decide (v < x))) = true then v else x) := by
  by_cases c : (decide (t < v) && (decide (x < 0) || decide (v < x))) = true
  · rw [if_pos c]
    rw [Bool.and_eq_true, Bool.or_eq_true, decide_eq_true_eq, decide_eq_true_eq, decide_eq_true_eq] at c
    refine Or.inr ⟨c.1, hv, Or.inr rfl, fun y hy hty => ?_⟩
    rcases hy with hy | hy
    · rcases h with ⟨a1, a2⟩ | ⟨a1, a2, a3, a4⟩
      · have := a2 y hy; omega
      · have := a4 y hy hty; omega
    · omega
  · rw [if_neg c]
    rw [Bool.and_eq_true, Bool.or_eq_true, decide_eq_true_eq, decide_eq_true_eq, decide_eq_true_eq] at c
    rcases h with ⟨a1, a2⟩ | ⟨a1, a2, a3, a4⟩
    · refine Or.inl ⟨a1, fun y hy => ?_⟩
      rcases hy with hy | hy
      · exact a2 y hy
      · rcases Int.lt_or_le t v with d | d
        · exact absurd ⟨d, Or.inl (by omega)⟩ c
        · omega
    · refine Or.inr ⟨a1, a2, Or.inl a3, fun y hy hty => ?_⟩
      rcases hy with hy | hy
      · exact a4 y hy hty
      · rcases Int.lt_or_le v x with d | d
        · exact absurd ⟨by omega, Or.inr d⟩ c
        · omega
def gE (c : Nat) (t : Int) : List bR → Int
  | [] => -1
  | r :: l => if r.m.testBit c = true then (if (decide (t < r.f) && (decide (gE c t l < 0) || decide (r.f < gE c t l))) = true then r.f else gE c t l) else gE c t l
def gpS (l : List bR) (c : Nat) (v : Int) : Prop := ∃ r, r ∈ l ∧ r.m.testBit c = true ∧ r.f = v
theorem gE_is {c : Nat} {t : Int} : ∀ l : List bR, (∀ r, r ∈ l → 0 ≤ r.f) → bgP (gpS l c) t (gE c t l)
  | [], _ => Or.inl ⟨rfl, fun v ⟨r, hr, _⟩ => by cases hr⟩
  | r :: l, h => by
    have ih := gE_is (c := c) (t := t) l fun s hs => h s (List.mem_cons_of_mem _ hs)
    rw [gE]
    by_cases cb : r.m.testBit c = true
    · rw [if_pos cb]
      refine bgP_eqv (fun v _ => ?_) (bgP_add ih (h r (List.mem_cons_self ..)))
      constructor
      · rintro (⟨s, h1, h2, h3⟩ | rfl)
        · exact ⟨s, List.mem_cons_of_mem _ h1, h2, h3⟩
        · exact ⟨r, List.mem_cons_self .., cb, rfl⟩
      · rintro ⟨s, h1, h2, h3⟩
        rcases List.mem_cons.mp h1 with rfl | h1
        · exact Or.inr h3.symm
        · exact Or.inl ⟨s, h1, h2, h3⟩
    · rw [if_neg cb]
      refine bgP_eqv (fun v _ => ?_) ih
      constructor
      · rintro ⟨s, h1, h2, h3⟩
        exact ⟨s, List.mem_cons_of_mem _ h1, h2, h3⟩
      · rintro ⟨s, h1, h2, h3⟩
        rcases List.mem_cons.mp h1 with rfl | h1
        · exact absurd h2 cb
        · exact ⟨s, h1, h2, h3⟩
theorem gE_eq {c : Nat} {t x : Int} {l : List bR} (h0 : ∀ r, r ∈ l → 0 ≤ r.f) (h : bgP (gpS l c) t x) : gE c t l = x := bgP_u (gE_is l h0) h
theorem gE_rg {c : Nat} {t m : Int} {l : List bR} (h0 : ∀ r, r ∈ l → 0 ≤ r.f ∧ r.f ≤ m) (hm : 0 ≤ m) : -1 ≤ gE c t l ∧ gE c t l ≤ m ∧ (gE c t l ≠ -1 → t < gE c t l ∧ ∃ r, r ∈ l ∧ r.m.testBit c = true ∧ r.f = gE c t l) := by
  rcases gE_is (c := c) (t := t) l (fun r hr => (h0 r hr).1) with ⟨a1, a2⟩ | ⟨a1, a2, ⟨r, a3, a4, a5⟩, a6⟩
  · omega
  · have := h0 r a3
    exact ⟨by omega, by omega, fun _ => ⟨a1, r, a3, a4, a5⟩⟩
def gapR (l : List bR) (c : Nat) (w : Int) : Nat → Int → Int
  | 0, t => if w = 0 then gB l c t else if gE c (gB l c t) l = -1 then -1 else gE c (gB l c t) l - gB l c t
  | i + 1, t => if gE c (gB l c t) l = -1 then -1 else gapR l c w i (gE c (gB l c t) l)
/-- how many begin by a tick -/
abbrev cFr (l : List bR) (x : Int) : Nat := cntL (fun r => decide (r.f ≤ x)) l
abbrev cTo (l : List bR) (x : Int) : Nat := cntL (fun r => decide (r.t ≤ x)) l
theorem cFr_lt {l : List bR} {x y : Int} {r : bR} (hr : r ∈ l) (h1 : x < r.f) (h2 : r.f ≤ y) : cFr l x + 1 ≤ cFr l y := cntL_lt (fun s h => by rw [decide_eq_true_eq] at *; omega) (s := r) (decide_eq_true h2) (decide_eq_false (by omega)) l hr
theorem cTo_lt {l : List bR} {x y : Int} {r : bR} (hr : r ∈ l) (h1 : x < r.t) (h2 : r.t ≤ y) : cTo l x + 1 ≤ cTo l y := cntL_lt (fun s h => by rw [decide_eq_true_eq] at *; omega) (s := r) (decide_eq_true h2) (decide_eq_false (by omega)) l hr
theorem cFr_mono {l : List bR} {x y : Int} (h : x ≤ y) : cFr l x ≤ cFr l y := cntL_mono (fun s h => by rw [decide_eq_true_eq] at *; omega) l
theorem cTo_mono {l : List bR} {x y : Int} (h : x ≤ y) : cTo l x ≤ cTo l y := cntL_mono (fun s h => by rw [decide_eq_true_eq] at *; omega) l
set_option maxHeartbeats 1000000 in
theorem Bd_gapB {G U : Nat → Nat → Int} {b c : Nat} {t : Int} {l : List bR} (hb : isBoard b) (h : boardIs G b l) (hok : allOk l) (hl : l.length ≤ 44) (hc : c < 16) (ht : 0 ≤ t ∧ t ≤ 1000000000) : F_Board_gapBegin [pR b, pI (Int32.ofInt (c : Int)), pI (Int32.ofInt t)] (zM G U) = some (some (pI (Int32.ofInt (gB l c t))), zM G U) := by
  apply wF_to
  obtain ⟨h0, h1⟩ := h
  unfold F_Board_gapBegin B_Board_gapBegin
  apply wBody (Nat.le_of_ble_eq_true rfl)
  repeat' first | with_reducible apply wSeq | with_reducible apply wSkip | with_reducible apply wIf | with_reducible apply wAsI | ((with_reducible apply wInc); rfl) | with_reducible apply wKil | with_reducible apply wRI | with_reducible apply wB_e | (intro h; try simp only [Bool.and_eq_true, Bool.or_eq_true, Bool.not_eq_true', Bool.not_eq_false', Bool.and_eq_false_imp, Bool.or_eq_false_iff, decide_eq_true_eq, decide_eq_false_iff_not, Bool.not_true, Bool.not_false, Bool.true_eq_false, Bool.false_eq_true, Bool.not_not] at h) | with_reducible apply wN1 | with_reducible apply wN2 | with_reducible apply wN3 | with_reducible apply wN4 | with_reducible apply wN0 | with_reducible apply wE0 | with_reducible apply wXI | with_reducible apply wXB | with_reducible exact eK | ((with_reducible apply eL); rfl) | ((with_reducible apply eLR); rfl) | with_reducible exact eAN | with_reducible apply eBandN | with_reducible apply eBit1 | with_reducible apply eBitNe | with_reducible apply eBit | with_reducible apply eShr | with_reducible apply eLt | with_reducible apply eLe | with_reducible apply eNe | with_reducible apply eAnd | with_reducible apply eArr2 | with_reducible apply eFld2 | with_reducible apply R_Board_mask | with_reducible apply R_Board_from | with_reducible apply R_Board_to | with_reducible exact K_Board_size (by assumption) | with_reducible exact N_Board_mask (by assumption) | with_reducible exact N_Board_from (by assumption) | with_reducible exact N_Board_to (by assumption) | with_reducible exact Int.toNat_natCast _ | with_reducible exact tn0 | with_reducible exact tn1 | with_reducible exact tn2 | with_reducible exact tn3 | with_reducible exact tn4 | with_reducible exact tn5 | with_reducible exact tn6 | with_reducible exact tn7 | with_reducible exact tn8 | with_reducible exact tn9 | with_reducible exact tn10 | with_reducible exact tn11 | with_reducible exact tn12 | with_reducible exact tn13 | with_reducible exact tn14 | with_reducible exact tn15 | with_reducible exact tn16 | with_reducible exact tnK0 | with_reducible exact tnK4 | with_reducible exact tnK8 | with_reducible exact tnK12 | with_reducible exact tnK16 | with_reducible exact tnK20 | with_reducible exact tnK24 | with_reducible exact tnK28 | with_reducible exact tnK32 | with_reducible exact tnJA | with_reducible exact tnA | with_reducible exact upR_s | ((with_reducible apply upR_a); (first | decide | omega)) | ((with_reducible apply upR_b); (first | decide | omega)) | ((with_reducible apply cpR_o); (first | decide | omega)) | with_reducible apply lt_pSet1 | with_reducible apply lt_kil | exact Nat.le_of_ble_eq_true rfl | with_reducible assumption | with_reducible exact rfl | omega | with_reducible apply wAnd | decide +kernel
  refine wWh (fun i L σ => ∃ x : Int, L = [some (pR b), some (pI (Int32.ofInt (c : Int))), some (pI (Int32.ofInt t)), some (pI (Int32.ofInt x)), some (pI (Int32.ofInt (i : Int))), none] ∧ σ = zM G U ∧ (t ≤ x ∧ x ≤ 1000000000) ∧ (∀ y, t ≤ y → y < x → ∃ r, r ∈ l ∧ gpC c r y = true) ∧ ((∀ r, r ∈ l → gpC c r x = false) ∨ i ≤ cTo l x)) l.length (by omega) ⟨t, rfl, rfl, by omega, fun y y1 y2 => by omega, Or.inr (Nat.zero_le _)⟩ ?_
  rintro i _ _ hi ⟨x, rfl, rfl, hx, hcov, hpot⟩
  rcases Nat.lt_or_ge i l.length with hil | hge
  · repeat' first | with_reducible apply wSeq | with_reducible apply wSkip | with_reducible apply wIf | with_reducible apply wAsI | ((with_reducible apply wInc); rfl) | with_reducible apply wKil | with_reducible apply wRI | with_reducible apply wB_e | (intro h; try simp only [Bool.and_eq_true, Bool.or_eq_true, Bool.not_eq_true', Bool.not_eq_false', Bool.and_eq_false_imp, Bool.or_eq_false_iff, decide_eq_true_eq, decide_eq_false_iff_not, Bool.not_true, Bool.not_false, Bool.true_eq_false, Bool.false_eq_true, Bool.not_not] at h) | with_reducible apply wN1 | with_reducible apply wN2 | with_reducible apply wN3 | with_reducible apply wN4 | with_reducible apply wN0 | with_reducible apply wE0 | with_reducible apply wXI | with_reducible apply wXB | with_reducible exact eK | ((with_reducible apply eL); rfl) | ((with_reducible apply eLR); rfl) | with_reducible exact eAN | with_reducible apply eBandN | with_reducible apply eBit1 | with_reducible apply eBitNe | with_reducible apply eBit | with_reducible apply eShr | with_reducible apply eLt | with_reducible apply eLe | with_reducible apply eNe | with_reducible apply eAnd | with_reducible apply eArr2 | with_reducible apply eFld2 | with_reducible apply R_Board_mask | with_reducible apply R_Board_from | with_reducible apply R_Board_to | with_reducible exact K_Board_size (by assumption) | with_reducible exact N_Board_mask (by assumption) | with_reducible exact N_Board_from (by assumption) | with_reducible exact N_Board_to (by assumption) | with_reducible exact Int.toNat_natCast _ | with_reducible exact tn0 | with_reducible exact tn1 | with_reducible exact tn2 | with_reducible exact tn3 | with_reducible exact tn4 | with_reducible exact tn5 | with_reducible exact tn6 | with_reducible exact tn7 | with_reducible exact tn8 | with_reducible exact tn9 | with_reducible exact tn10 | with_reducible exact tn11 | with_reducible exact tn12 | with_reducible exact tn13 | with_reducible exact tn14 | with_reducible exact tn15 | with_reducible exact tn16 | with_reducible exact tnK0 | with_reducible exact tnK4 | with_reducible exact tnK8 | with_reducible exact tnK12 | with_reducible exact tnK16 | with_reducible exact tnK20 | with_reducible exact tnK24 | with_reducible exact tnK28 | with_reducible exact tnK32 | with_reducible exact tnJA | with_reducible exact tnA | with_reducible exact upR_s | ((with_reducible apply upR_a); (first | decide | omega)) | ((with_reducible apply upR_b); (first | decide | omega)) | ((with_reducible apply cpR_o); (first | decide | omega)) | with_reducible apply lt_pSet1 | with_reducible apply lt_kil | exact Nat.le_of_ble_eq_true rfl | with_reducible assumption | with_reducible exact rfl | omega | with_reducible apply wAnd | decide +kernel
    refine wWh (fun k L σ => ∃ z : Int, L = [some (pR b), some (pI (Int32.ofInt (c : Int))), some (pI (Int32.ofInt t)), some (pI (Int32.ofInt z)), some (pI (Int32.ofInt (i : Int))), some (pI (Int32.ofInt (k : Int)))] ∧ σ = zM G U ∧ (x ≤ z ∧ z ≤ 1000000000) ∧ (∀ y, t ≤ y → y < z → ∃ r, r ∈ l ∧ gpC c r y = true) ∧ ((z = x ∧ ∀ m r, m < k → l[m]? = some r → gpC c r x = false) ∨ ((∃ r, r ∈ l ∧ gpC c r x = true) ∧ cTo l x + 1 ≤ cTo l z))) l.length (by omega) ⟨x, rfl, rfl, by omega, hcov, Or.inl ⟨rfl, fun m r hm => absurd hm (Nat.not_lt_zero m)⟩⟩ ?_
    rintro k _ _ hk ⟨z, rfl, rfl, hz, hcv, hpo⟩
    rcases Nat.lt_or_ge k l.length with hkl | hkg
    · obtain ⟨r, hr⟩ : ∃ r, l[k]? = some r := ⟨_, List.getElem?_eq_getElem hkl⟩
      have hrm : r ∈ l := List.mem_of_getElem? hr
      obtain ⟨g1, g2, g3, g4⟩ := h1 k r hr
      obtain ⟨k1, k2, k3, k4⟩ := hok k r hr
      have hno : gpC c r z = false → ((z = x ∧ ∀ m r, m < k + 1 → l[m]? = some r → gpC c r x = false) ∨ ((∃ r, r ∈ l ∧ gpC c r x = true) ∧ cTo l x + 1 ≤ cTo l z)) := fun hf => by
        rcases hpo with ⟨e1, e2⟩ | e
        · refine Or.inl ⟨e1, fun m s hm hs => ?_⟩
          by_cases cm : m = k
          · subst cm
            rw [hr] at hs
            cases hs
            rw [← e1]; exact hf
          · exact e2 m s (by omega) hs
        · exact Or.inr e
      have hyes : gpC c r z = true → (x ≤ r.t ∧ r.t ≤ 1000000000) ∧ (∀ y, t ≤ y → y < r.t → ∃ r, r ∈ l ∧ gpC c r y = true) ∧ ((∃ r, r ∈ l ∧ gpC c r x = true) ∧ cTo l x + 1 ≤ cTo l r.t) := fun hf => by
        have hq := gpC_t.mp hf
        refine ⟨by omega, fun y y1 y2 => ?_, ?_, ?_⟩
        · by_cases cy : y < z
          · exact hcv y y1 cy
          · exact ⟨r, hrm, gpC_t.mpr ⟨⟨hq.1.1, by omega⟩, y2⟩⟩
        · rcases hpo with ⟨e1, e2⟩ | e
          · exact ⟨r, hrm, by rw [← e1]; exact hf⟩
          · exact e.1
        · have h5 := cTo_lt hrm hq.2 (Int.le_refl _)
          have h6 := cTo_mono (l := l) hz.1
          omega
      clear hpo hpot hcov
      repeat' first | with_reducible apply wSeq | with_reducible apply wSkip | with_reducible apply wIf | with_reducible apply wAsI | ((with_reducible apply wInc); rfl) | with_reducible apply wKil | with_reducible apply wRI | with_reducible apply wB_e | (intro h; try simp only [Bool.and_eq_true, Bool.or_eq_true, Bool.not_eq_true', Bool.not_eq_false', Bool.and_eq_false_imp, Bool.or_eq_false_iff, decide_eq_true_eq, decide_eq_false_iff_not, Bool.not_true, Bool.not_false, Bool.true_eq_false, Bool.false_eq_true, Bool.not_not] at h) | with_reducible apply wN1 | with_reducible apply wN2 | with_reducible apply wN3 | with_reducible apply wN4 | with_reducible apply wN0 | with_reducible apply wE0 | with_reducible apply wXI | with_reducible apply wXB | with_reducible exact eK | ((with_reducible apply eL); rfl) | ((with_reducible apply eLR); rfl) | with_reducible exact eAN | with_reducible apply eBandN | with_reducible apply eBit1 | with_reducible apply eBitNe | with_reducible apply eBit | with_reducible apply eShr | with_reducible apply eLt | with_reducible apply eLe | with_reducible apply eNe | with_reducible apply eAnd | with_reducible apply eArr2 | with_reducible apply eFld2 | with_reducible apply R_Board_mask | with_reducible apply R_Board_from | with_reducible apply R_Board_to | with_reducible exact K_Board_size (by assumption) | with_reducible exact N_Board_mask (by assumption) | with_reducible exact N_Board_from (by assumption) | with_reducible exact N_Board_to (by assumption) | with_reducible exact Int.toNat_natCast _ | with_reducible exact tn0 | with_reducible exact tn1 | with_reducible exact tn2 | with_reducible exact tn3 | with_reducible exact tn4 | with_reducible exact tn5 | with_reducible exact tn6 | with_reducible exact tn7 | with_reducible exact tn8 | with_reducible exact tn9 | with_reducible exact tn10 | with_reducible exact tn11 | with_reducible exact tn12 | with_reducible exact tn13 | with_reducible exact tn14 | with_reducible exact tn15 | with_reducible exact tn16 | with_reducible exact tnK0 | with_reducible exact tnK4 | with_reducible exact tnK8 | with_reducible exact tnK12 | with_reducible exact tnK16 | with_reducible exact tnK20 | with_reducible exact tnK24 | with_reducible exact tnK28 | with_reducible exact tnK32 | with_reducible exact tnJA | with_reducible exact tnA | with_reducible exact upR_s | ((with_reducible apply upR_a); (first | decide | omega)) | ((with_reducible apply upR_b); (first | decide | omega)) | ((with_reducible apply cpR_o); (first | decide | omega)) | with_reducible apply lt_pSet1 | with_reducible apply lt_kil | exact Nat.le_of_ble_eq_true rfl | with_reducible assumption | with_reducible exact rfl | omega | with_reducible apply wAnd | decide +kernel
      · obtain ⟨y1, y2, y3⟩ := hyes (gpC_t.mpr h)
        exact ⟨r.t, rfl, rfl, y1, y2, Or.inr y3⟩
      · exact ⟨z, rfl, rfl, hz, by assumption, hno (gpC_f.mpr (by intro h5; first | omega | exact absurd h5.2 (by have := h h5.1; omega) | exact absurd (h h5.1) (by omega)))⟩
    · have ek : k = l.length := by omega
      subst ek
      have hpot2 : (∀ r, r ∈ l → gpC c r z = false) ∨ i + 1 ≤ cTo l z := by
        rcases hpo with ⟨e1, e2⟩ | ⟨⟨r, e1, e2⟩, e3⟩
        · left
          intro r hr
          obtain ⟨m, hm, hm2⟩ := List.mem_iff_getElem.mp hr
          rw [e1]
          exact e2 m r hm (by rw [List.getElem?_eq_getElem hm, hm2])
        · rcases hpot with h5 | h5
          · rw [h5 r e1] at e2; cases e2
          · right; omega
      clear hpo hpot hcov
      repeat' first | with_reducible apply wSeq | with_reducible apply wSkip | with_reducible apply wIf | with_reducible apply wAsI | ((with_reducible apply wInc); rfl) | with_reducible apply wKil | with_reducible apply wRI | with_reducible apply wB_e | (intro h; try simp only [Bool.and_eq_true, Bool.or_eq_true, Bool.not_eq_true', Bool.not_eq_false', Bool.and_eq_false_imp, Bool.or_eq_false_iff, decide_eq_true_eq, decide_eq_false_iff_not, Bool.not_true, Bool.not_false, Bool.true_eq_false, Bool.false_eq_true, Bool.not_not] at h) | with_reducible apply wN1 | with_reducible apply wN2 | with_reducible apply wN3 | with_reducible apply wN4 | with_reducible apply wN0 | with_reducible apply wE0 | with_reducible apply wXI | with_reducible apply wXB | with_reducible exact eK | ((with_reducible apply eL); rfl) | ((with_reducible apply eLR); rfl) | with_reducible exact eAN | with_reducible apply eBandN | with_reducible apply eBit1 | with_reducible apply eBitNe | with_reducible apply eBit | with_reducible apply eShr | with_reducible apply eLt | with_reducible apply eLe | with_reducible apply eNe | with_reducible apply eAnd | with_reducible apply eArr2 | with_reducible apply eFld2 | with_reducible apply R_Board_mask | with_reducible apply R_Board_from | with_reducible apply R_Board_to | with_reducible exact K_Board_size (by assumption) | with_reducible exact N_Board_mask (by assumption) | with_reducible exact N_Board_from (by assumption) | with_reducible exact N_Board_to (by assumption) | with_reducible exact Int.toNat_natCast _ | with_reducible exact tn0 | with_reducible exact tn1 | with_reducible exact tn2 | with_reducible exact tn3 | with_reducible exact tn4 | with_reducible exact tn5 | with_reducible exact tn6 | with_reducible exact tn7 | with_reducible exact tn8 | with_reducible exact tn9 | with_reducible exact tn10 | with_reducible exact tn11 | with_reducible exact tn12 | with_reducible exact tn13 | with_reducible exact tn14 | with_reducible exact tn15 | with_reducible exact tn16 | with_reducible exact tnK0 | with_reducible exact tnK4 | with_reducible exact tnK8 | with_reducible exact tnK12 | with_reducible exact tnK16 | with_reducible exact tnK20 | with_reducible exact tnK24 | with_reducible exact tnK28 | with_reducible exact tnK32 | with_reducible exact tnJA | with_reducible exact tnA | with_reducible exact upR_s | ((with_reducible apply upR_a); (first | decide | omega)) | ((with_reducible apply upR_b); (first | decide | omega)) | ((with_reducible apply cpR_o); (first | decide | omega)) | with_reducible apply lt_pSet1 | with_reducible apply lt_kil | exact Nat.le_of_ble_eq_true rfl | with_reducible assumption | with_reducible exact rfl | omega | with_reducible apply wAnd | decide +kernel
      exact ⟨z, rfl, rfl, by omega, hcv, hpot2⟩
  · have ei : i = l.length := by omega
    subst ei
    have hun : ∀ r, r ∈ l → gpC c r x = false := by
      rcases hpot with h5 | h5
      · exact h5
      · intro r hr
        have := cntL_all l h5 r hr
        rw [decide_eq_true_eq] at this
        exact gpC_f.mpr fun h6 => by omega
    rw [gB_eq ⟨hx.1, hun, hcov⟩]
    clear hcov hpot hun
    repeat' first | with_reducible apply wSeq | with_reducible apply wSkip | with_reducible apply wIf | with_reducible apply wAsI | ((with_reducible apply wInc); rfl) | with_reducible apply wKil | with_reducible apply wRI | with_reducible apply wB_e | (intro h; try simp only [Bool.and_eq_true, Bool.or_eq_true, Bool.not_eq_true', Bool.not_eq_false', Bool.and_eq_false_imp, Bool.or_eq_false_iff, decide_eq_true_eq, decide_eq_false_iff_not, Bool.not_true, Bool.not_false, Bool.true_eq_false, Bool.false_eq_true, Bool.not_not] at h) | with_reducible apply wN1 | with_reducible apply wN2 | with_reducible apply wN3 | with_reducible apply wN4 | with_reducible apply wN0 | with_reducible apply wE0 | with_reducible apply wXI | with_reducible apply wXB | with_reducible exact eK | ((with_reducible apply eL); rfl) | ((with_reducible apply eLR); rfl) | with_reducible exact eAN | with_reducible apply eBandN | with_reducible apply eBit1 | with_reducible apply eBitNe | with_reducible apply eBit | with_reducible apply eShr | with_reducible apply eLt | with_reducible apply eLe | with_reducible apply eNe | with_reducible apply eAnd | with_reducible apply eArr2 | with_reducible apply eFld2 | with_reducible apply R_Board_mask | with_reducible apply R_Board_from | with_reducible apply R_Board_to | with_reducible exact K_Board_size (by assumption) | with_reducible exact N_Board_mask (by assumption) | with_reducible exact N_Board_from (by assumption) | with_reducible exact N_Board_to (by assumption) | with_reducible exact Int.toNat_natCast _ | with_reducible exact tn0 | with_reducible exact tn1 | with_reducible exact tn2 | with_reducible exact tn3 | with_reducible exact tn4 | with_reducible exact tn5 | with_reducible exact tn6 | with_reducible exact tn7 | with_reducible exact tn8 | with_reducible exact tn9 | with_reducible exact tn10 | with_reducible exact tn11 | with_reducible exact tn12 | with_reducible exact tn13 | with_reducible exact tn14 | with_reducible exact tn15 | with_reducible exact tn16 | with_reducible exact tnK0 | with_reducible exact tnK4 | with_reducible exact tnK8 | with_reducible exact tnK12 | with_reducible exact tnK16 | with_reducible exact tnK20 | with_reducible exact tnK24 | with_reducible exact tnK28 | with_reducible exact tnK32 | with_reducible exact tnJA | with_reducible exact tnA | with_reducible exact upR_s | ((with_reducible apply upR_a); (first | decide | omega)) | ((with_reducible apply upR_b); (first | decide | omega)) | ((with_reducible apply cpR_o); (first | decide | omega)) | with_reducible apply lt_pSet1 | with_reducible apply lt_kil | exact Nat.le_of_ble_eq_true rfl | with_reducible assumption | with_reducible exact rfl | omega | with_reducible apply wAnd | decide +kernel
    exact ⟨rfl, rfl⟩
set_option maxHeartbeats 1000000 in
theorem Bd_gapE {G U : Nat → Nat → Int} {b c : Nat} {t : Int} {l : List bR} (hb : isBoard b) (h : boardIs G b l) (hok : allOk l) (hl : l.length ≤ 44) (hc : c < 16) (ht : 0 ≤ t ∧ t ≤ 1000000000) : F_Board_gapEnd [pR b, pI (Int32.ofInt (c : Int)), pI (Int32.ofInt t)] (zM G U) = some (some (pI (Int32.ofInt (gE c t l))), zM G U) := by
  apply wF_to
  obtain ⟨h0, h1⟩ := h
  have hf0 : ∀ r, r ∈ l → 0 ≤ r.f := fun r hr => by
    obtain ⟨m, hm, hm2⟩ := List.mem_iff_getElem.mp hr
    exact (hok m r (by rw [List.getElem?_eq_getElem hm, hm2])).2.1.1
  unfold F_Board_gapEnd B_Board_gapEnd
  apply wBody (Nat.le_of_ble_eq_true rfl)
  repeat' first | with_reducible apply wSeq | with_reducible apply wSkip | with_reducible apply wIf | with_reducible apply wAsI | ((with_reducible apply wInc); rfl) | with_reducible apply wKil | with_reducible apply wRI | with_reducible apply wB_e | (intro h; try simp only [Bool.and_eq_true, Bool.or_eq_true, Bool.not_eq_true', Bool.not_eq_false', Bool.and_eq_false_imp, Bool.or_eq_false_iff, decide_eq_true_eq, decide_eq_false_iff_not, Bool.not_true, Bool.not_false, Bool.true_eq_false, Bool.false_eq_true, Bool.not_not] at h) | with_reducible apply wN1 | with_reducible apply wN2 | with_reducible apply wN3 | with_reducible apply wN4 | with_reducible apply wN0 | with_reducible apply wE0 | with_reducible apply wXI | with_reducible apply wXB | with_reducible exact eK | ((with_reducible apply eL); rfl) | ((with_reducible apply eLR); rfl) | with_reducible exact eAN | with_reducible apply eBandN | with_reducible apply eBit1 | with_reducible apply eBitNe | with_reducible apply eBit | with_reducible apply eShr | with_reducible apply eLt | with_reducible apply eGt | with_reducible apply eEq | with_reducible apply eNe | with_reducible apply eAnd | with_reducible apply eOrB | with_reducible apply eArr2 | with_reducible apply eFld2 | with_reducible apply R_Board_mask | with_reducible apply R_Board_from | with_reducible exact K_Board_size (by assumption) | with_reducible exact N_Board_mask (by assumption) | with_reducible exact N_Board_from (by assumption) | with_reducible exact Int.toNat_natCast _ | with_reducible exact tn0 | with_reducible exact tn1 | with_reducible exact tn2 | with_reducible exact tn3 | with_reducible exact tn4 | with_reducible exact tn5 | with_reducible exact tn6 | with_reducible exact tn7 | with_reducible exact tn8 | with_reducible exact tn9 | with_reducible exact tn10 | with_reducible exact tn11 | with_reducible exact tn12 | with_reducible exact tn13 | with_reducible exact tn14 | with_reducible exact tn15 | with_reducible exact tn16 | with_reducible exact tnK0 | with_reducible exact tnK4 | with_reducible exact tnK8 | with_reducible exact tnK12 | with_reducible exact tnK16 | with_reducible exact tnK20 | with_reducible exact tnK24 | with_reducible exact tnK28 | with_reducible exact tnK32 | with_reducible exact tnJA | with_reducible exact tnA | with_reducible exact upR_s | ((with_reducible apply upR_a); (first | decide | omega)) | ((with_reducible apply upR_b); (first | decide | omega)) | ((with_reducible apply cpR_o); (first | decide | omega)) | with_reducible apply lt_pSet1 | with_reducible apply lt_kil | exact Nat.le_of_ble_eq_true rfl | with_reducible assumption | with_reducible exact rfl | omega | with_reducible apply wAnd | decide +kernel
  refine wWh (fun i L σ => ∃ x : Int, L = [some (pR b), some (pI (Int32.ofInt (c : Int))), some (pI (Int32.ofInt t)), some (pI (Int32.ofInt x)), some (pI (Int32.ofInt (i : Int)))] ∧ σ = zM G U ∧ (-1 ≤ x ∧ x ≤ 1000000000) ∧ bgP (fun v => ∃ m r, m < i ∧ l[m]? = some r ∧ r.m.testBit c = true ∧ r.f = v) t x) l.length (by omega) ⟨-1, rfl, rfl, by omega, Or.inl ⟨rfl, fun v ⟨m, r, hm, _⟩ => absurd hm (Nat.not_lt_zero m)⟩⟩ ?_
  rintro i _ _ hi ⟨x, rfl, rfl, hx, hbg⟩
  rcases Nat.lt_or_ge i l.length with hil | hge
  · obtain ⟨r, hr⟩ : ∃ r, l[i]? = some r := ⟨_, List.getElem?_eq_getElem hil⟩
    obtain ⟨g1, g2, g3, g4⟩ := h1 i r hr
    obtain ⟨k1, k2, k3, k4⟩ := hok i r hr
    have hyes : r.m.testBit c = true → t < r.f → (x = -1 ∨ r.f < x) → bgP (fun v => ∃ m s, m < i + 1 ∧ l[m]? = some s ∧ s.m.testBit c = true ∧ s.f = v) t r.f := fun b1 b2 b3 => by
      have ha := bgP_add hbg k2.1
      rw [if_pos (by rw [Bool.and_eq_true, Bool.or_eq_true, decide_eq_true_eq, decide_eq_true_eq, decide_eq_true_eq]; omega)] at ha
      refine bgP_eqv (fun v _ => ?_) ha
      constructor
      · rintro (⟨m, s, e1, e2, e3, e4⟩ | rfl)
        · exact ⟨m, s, by omega, e2, e3, e4⟩
        · exact ⟨i, r, by omega, hr, b1, rfl⟩
      · rintro ⟨m, s, e1, e2, e3, e4⟩
        by_cases cm : m = i
        · subst cm
          rw [hr] at e2
          cases e2
          exact Or.inr e4.symm
        · exact Or.inl ⟨m, s, by omega, e2, e3, e4⟩
    have hno : ¬ ((r.m.testBit c = true ∧ t < r.f) ∧ (x = -1 ∨ r.f < x)) → bgP (fun v => ∃ m s, m < i + 1 ∧ l[m]? = some s ∧ s.m.testBit c = true ∧ s.f = v) t x := fun b0 => by
      by_cases cb : r.m.testBit c = true
      · have ha := bgP_add hbg k2.1
        have hx0 : x < 0 → x = -1 := fun _ => by omega
        rw [if_neg (by
          rw [Bool.and_eq_true, Bool.or_eq_true, decide_eq_true_eq, decide_eq_true_eq, decide_eq_true_eq]
          rintro ⟨c1, c2⟩
          exact b0 ⟨⟨cb, c1⟩, c2.elim (fun h => Or.inl (hx0 h)) Or.inr⟩)] at ha
        refine bgP_eqv (fun v _ => ?_) ha
        constructor
        · rintro (⟨m, s, e1, e2, e3, e4⟩ | rfl)
          · exact ⟨m, s, by omega, e2, e3, e4⟩
          · exact ⟨i, r, by omega, hr, cb, rfl⟩
        · rintro ⟨m, s, e1, e2, e3, e4⟩
          by_cases cm : m = i
          · subst cm
            rw [hr] at e2
            cases e2
            exact Or.inr e4.symm
          · exact Or.inl ⟨m, s, by omega, e2, e3, e4⟩
      · refine bgP_eqv (fun v _ => ?_) hbg
        constructor
        · rintro ⟨m, s, e1, e2, e3, e4⟩
          exact ⟨m, s, by omega, e2, e3, e4⟩
        · rintro ⟨m, s, e1, e2, e3, e4⟩
          by_cases cm : m = i
          · subst cm
            rw [hr] at e2
            cases e2
            exact absurd e3 cb
          · exact ⟨m, s, by omega, e2, e3, e4⟩
    clear hbg
    repeat' first | with_reducible apply wSeq | with_reducible apply wSkip | with_reducible apply wIf | with_reducible apply wAsI | ((with_reducible apply wInc); rfl) | with_reducible apply wKil | with_reducible apply wRI | with_reducible apply wB_e | (intro h; try simp only [Bool.and_eq_true, Bool.or_eq_true, Bool.not_eq_true', Bool.not_eq_false', Bool.and_eq_false_imp, Bool.or_eq_false_iff, decide_eq_true_eq, decide_eq_false_iff_not, Bool.not_true, Bool.not_false, Bool.true_eq_false, Bool.false_eq_true, Bool.not_not] at h) | with_reducible apply wN1 | with_reducible apply wN2 | with_reducible apply wN3 | with_reducible apply wN4 | with_reducible apply wN0 | with_reducible apply wE0 | with_reducible apply wXI | with_reducible apply wXB | with_reducible exact eK | ((with_reducible apply eL); rfl) | ((with_reducible apply eLR); rfl) | with_reducible exact eAN | with_reducible apply eBandN | with_reducible apply eBit1 | with_reducible apply eBitNe | with_reducible apply eBit | with_reducible apply eShr | with_reducible apply eLt | with_reducible apply eGt | with_reducible apply eEq | with_reducible apply eNe | with_reducible apply eAnd | with_reducible apply eOrB | with_reducible apply eArr2 | with_reducible apply eFld2 | with_reducible apply R_Board_mask | with_reducible apply R_Board_from | with_reducible exact K_Board_size (by assumption) | with_reducible exact N_Board_mask (by assumption) | with_reducible exact N_Board_from (by assumption) | with_reducible exact Int.toNat_natCast _ | with_reducible exact tn0 | with_reducible exact tn1 | with_reducible exact tn2 | with_reducible exact tn3 | with_reducible exact tn4 | with_reducible exact tn5 | with_reducible exact tn6 | with_reducible exact tn7 | with_reducible exact tn8 | with_reducible exact tn9 | with_reducible exact tn10 | with_reducible exact tn11 | with_reducible exact tn12 | with_reducible exact tn13 | with_reducible exact tn14 | with_reducible exact tn15 | with_reducible exact tn16 | with_reducible exact tnK0 | with_reducible exact tnK4 | with_reducible exact tnK8 | with_reducible exact tnK12 | with_reducible exact tnK16 | with_reducible exact tnK20 | with_reducible exact tnK24 | with_reducible exact tnK28 | with_reducible exact tnK32 | with_reducible exact tnJA | with_reducible exact tnA | with_reducible exact upR_s | ((with_reducible apply upR_a); (first | decide | omega)) | ((with_reducible apply upR_b); (first | decide | omega)) | ((with_reducible apply cpR_o); (first | decide | omega)) | with_reducible apply lt_pSet1 | with_reducible apply lt_kil | exact Nat.le_of_ble_eq_true rfl | with_reducible assumption | with_reducible exact rfl | omega | with_reducible apply wAnd | decide +kernel
    · exact ⟨r.f, rfl, rfl, by omega, hyes h.1.1 h.1.2 h.2⟩
    · exact ⟨x, rfl, rfl, hx, hno (by intro h5; first | exact absurd h5.2 (by have := h h5.1; omega) | exact absurd (h h5.1) (by have := h5.2; omega) | (have := h h5.1; omega))⟩
  · have ei : i = l.length := by omega
    subst ei
    rw [gE_eq hf0 (bgP_eqv (fun v _ => ⟨fun ⟨m, r, e1, e2, e3, e4⟩ => ⟨r, List.mem_of_getElem? e2, e3, e4⟩, fun ⟨r, e2, e3, e4⟩ => by
      obtain ⟨m, hm, hm2⟩ := List.mem_iff_getElem.mp e2
      exact ⟨m, r, hm, by rw [List.getElem?_eq_getElem hm, hm2], e3, e4⟩⟩) hbg)]
    clear hbg
    repeat' first | with_reducible apply wSeq | with_reducible apply wSkip | with_reducible apply wIf | with_reducible apply wAsI | ((with_reducible apply wInc); rfl) | with_reducible apply wKil | with_reducible apply wRI | with_reducible apply wB_e | (intro h; try simp only [Bool.and_eq_true, Bool.or_eq_true, Bool.not_eq_true', Bool.not_eq_false', Bool.and_eq_false_imp, Bool.or_eq_false_iff, decide_eq_true_eq, decide_eq_false_iff_not, Bool.not_true, Bool.not_false, Bool.true_eq_false, Bool.false_eq_true, Bool.not_not] at h) | with_reducible apply wN1 | with_reducible apply wN2 | with_reducible apply wN3 | with_reducible apply wN4 | with_reducible apply wN0 | with_reducible apply wE0 | with_reducible apply wXI | with_reducible apply wXB | with_reducible exact eK | ((with_reducible apply eL); rfl) | ((with_reducible apply eLR); rfl) | with_reducible exact eAN | with_reducible apply eBandN | with_reducible apply eBit1 | with_reducible apply eBitNe | with_reducible apply eBit | with_reducible apply eShr | with_reducible apply eLt | with_reducible apply eGt | with_reducible apply eEq | with_reducible apply eNe | with_reducible apply eAnd | with_reducible apply eOrB | with_reducible apply eArr2 | with_reducible apply eFld2 | with_reducible apply R_Board_mask | with_reducible apply R_Board_from | with_reducible exact K_Board_size (by assumption) | with_reducible exact N_Board_mask (by assumption) | with_reducible exact N_Board_from (by assumption) | with_reducible exact Int.toNat_natCast _ | with_reducible exact tn0 | with_reducible exact tn1 | with_reducible exact tn2 | with_reducible exact tn3 | with_reducible exact tn4 | with_reducible exact tn5 | with_reducible exact tn6 | with_reducible exact tn7 | with_reducible exact tn8 | with_reducible exact tn9 | with_reducible exact tn10 | with_reducible exact tn11 | with_reducible exact tn12 | with_reducible exact tn13 | with_reducible exact tn14 | with_reducible exact tn15 | with_reducible exact tn16 | with_reducible exact tnK0 | with_reducible exact tnK4 | with_reducible exact tnK8 | with_reducible exact tnK12 | with_reducible exact tnK16 | with_reducible exact tnK20 | with_reducible exact tnK24 | with_reducible exact tnK28 | with_reducible exact tnK32 | with_reducible exact tnJA | with_reducible exact tnA | with_reducible exact upR_s | ((with_reducible apply upR_a); (first | decide | omega)) | ((with_reducible apply upR_b); (first | decide | omega)) | ((with_reducible apply cpR_o); (first | decide | omega)) | with_reducible apply lt_pSet1 | with_reducible apply lt_kil | exact Nat.le_of_ble_eq_true rfl | with_reducible assumption | with_reducible exact rfl | omega | with_reducible apply wAnd | decide +kernel
    exact ⟨rfl, rfl⟩
theorem row_le {g : Nat → Int} {gA gB sA sB : Int} {r : bR} (hrow : rowOk g) (h : isRow g gA gB sA sB r) : (0 ≤ r.f ∧ r.f ≤ 1000000) ∧ r.t ≤ 1000000 := by
  have h0 := hrow.2.1
  rcases h with ⟨j, a, h1, h2, h3, h4, h5, rfl⟩ | ⟨s, h1, h2, rfl⟩ | ⟨j, a, h1, h2, h3, h4, h5, rfl⟩
  · have hjo := row_j hrow h1
    have hao := (jo_a hjo h2).2.1
    have h6 := hjo.2.2.2.2.2.2.1
    show (0 ≤ g 0 ∧ g 0 ≤ 1000000) ∧ mAt g j 6 + mAt g j (16 + a) ≤ 1000000
    omega
  · have := (row_s hrow h1).2 h2
    show (0 ≤ mSpan g s 3 ∧ mSpan g s 3 ≤ 1000000) ∧ mSpan g s 4 ≤ 1000000
    omega
  · have hjo := row_j hrow h1
    have hao := (jo_a hjo h2).2.1
    have h6 := hjo.2.2.2.2.2.2.2.2.2.1
    show (0 ≤ mAt g j 9 ∧ mAt g j 9 ≤ 1000000) ∧ mAt g j 9 + mAt g j (16 + a) ≤ 1000000
    omega
set_option maxHeartbeats 1000000 in
theorem Th_gap {G U : Nat → Nat → Int} {e c i : Nat} {w : Int} {g u : Nat → Int} {R : Option pV → pM → Prop} (hI : rowI g) (hP : rowP g) (hS : scR false 0 e G U 1 g u) (hc : c < 16) (hi : i < 2147483648) (hw : rg w) (hR : ∀ G' l, (∀ x, (x < 156 ∨ 161 ≤ x) → G' x = G x) → (∀ r, r ∈ l ↔ isRow g (-1) (-1) (-1) (-1) r) → l.length ≤ 44 → R (some (pI (Int32.ofInt (gapR l c w i (g 0))))) (zM G' U)) : WpF F_Thoughts_gapOf [pR 97, pR 1, pI (Int32.ofInt (c : Int)), pI (Int32.ofInt (i : Int)), pI (Int32.ofInt w)] (zM G U) R := by
  have i1 := is1
  have ib := ib156
  have hrow := hI.1
  have h0 := hrow.2.1
  have rm1 : rg (-1) := by unfold rg; omega
  unfold F_Thoughts_gapOf B_Thoughts_gapOf
  apply wBody (Nat.le_of_ble_eq_true rfl)
  repeat' first | with_reducible apply wAsIc (F := F_Thoughts_loadWithout) | with_reducible apply wAsZc (F := F_Thoughts_loadWithout) | with_reducible apply wRIc (F := F_Thoughts_loadWithout) | with_reducible apply wRZc (F := F_Thoughts_loadWithout) | with_reducible apply wBc (F := F_Thoughts_loadWithout) | with_reducible apply wIc (F := F_Thoughts_loadWithout) | with_reducible apply wB_and | with_reducible apply wB_or | with_reducible apply wB_not | with_reducible apply wI_ite | with_reducible apply wI_add | with_reducible apply wI_sub | with_reducible apply wSeq | with_reducible apply wSkip | with_reducible apply wIf | ((with_reducible apply wInc); rfl) | with_reducible apply wKil | with_reducible apply wVd | with_reducible apply wAsIw | with_reducible apply wAsZw | with_reducible apply wRIw | with_reducible apply wRZw | with_reducible apply wB_e | with_reducible apply wI_e | (intro h; try simp only [Bool.and_eq_true, Bool.or_eq_true, Bool.not_eq_true', Bool.not_eq_false', Bool.and_eq_false_imp, Bool.or_eq_false_iff, decide_eq_true_eq, decide_eq_false_iff_not, Bool.not_true, Bool.not_false, Bool.true_eq_false, Bool.false_eq_true, Bool.not_not] at h) | with_reducible apply wN1 | with_reducible apply wN2 | with_reducible apply wN3 | with_reducible apply wN4 | with_reducible apply wN0 | with_reducible apply wE0 | with_reducible apply wXI | with_reducible apply wXB | with_reducible exact eK | ((with_reducible apply eL); rfl) | ((with_reducible apply eLR); rfl) | with_reducible exact eAN | with_reducible apply eSub | with_reducible apply eLt | with_reducible apply eEq | with_reducible apply eIteI | with_reducible apply eIteJ | with_reducible apply eIte | with_reducible apply eFld2 | with_reducible apply eAI | with_reducible apply eAR | with_reducible apply eCI | with_reducible apply eCZ | with_reducible apply wRc | with_reducible apply R_Thoughts_board | with_reducible exact K_Scene_now (by assumption) | with_reducible exact C_Board (by assumption) | with_reducible exact C_Thoughts | with_reducible exact isBoard_156 | with_reducible exact C_Board isBoard_156 | with_reducible exact upR_s | ((with_reducible apply upR_a); (first | decide | omega)) | ((with_reducible apply upR_b); (first | decide | omega)) | ((with_reducible apply cpR_o); (first | decide | omega)) | with_reducible apply lt_pSet1 | with_reducible apply lt_kil | exact Nat.le_of_ble_eq_true rfl | with_reducible assumption | with_reducible exact rfl | omega | with_reducible apply wAnd | decide +kernel
  refine Th_load (sA := -1) (sB := -1) hI hP hS rm1 rm1 (fun G1 l f1 b1 o1 n1 m1 => ⟨rfl, ?_⟩)
  have hRR := hR G1 l (fun x hx => f1 x (by omega)) m1 n1
  clear hR
  have hle : ∀ r, r ∈ l → (0 ≤ r.f ∧ r.f ≤ 1000000) ∧ r.t ≤ 1000000 := fun r hr => row_le hrow ((m1 r).mp hr)
  have n0 : G1 1 1 = g 0 := by rw [f1 1 (by omega)]; exact hS.1.2.1.1
  have hbB : ∀ t : Int, 0 ≤ t ∧ t ≤ 1000000 → F_Board_gapBegin [pR 156, pI (Int32.ofInt (c : Int)), pI (Int32.ofInt t)] (zM G1 U) = some (some (pI (Int32.ofInt (gB l c t))), zM G1 U) := fun t ht => Bd_gapB ib156 b1 o1 n1 hc (by omega)
  have hbE : ∀ t : Int, 0 ≤ t ∧ t ≤ 1000000 → F_Board_gapEnd [pR 156, pI (Int32.ofInt (c : Int)), pI (Int32.ofInt t)] (zM G1 U) = some (some (pI (Int32.ofInt (gE c t l))), zM G1 U) := fun t ht => Bd_gapE ib156 b1 o1 n1 hc (by omega)
  have gb := fun (t : Int) (ht : 0 ≤ t ∧ t ≤ 1000000) => gB_le (l := l) (c := c) (t := t) (m := 1000000) ht.2 (fun r hr => (hle r hr).2)
  have ge := fun (t : Int) => gE_rg (c := c) (t := t) (m := 1000000) (l := l) (fun r hr => (hle r hr).1) (by omega)
  have hb0 := hbB (g 0) (by omega)
  have gb0 := gb (g 0) (by omega)
  have he0 := hbE (gB l c (g 0)) (by omega)
  have ge0 := ge (gB l c (g 0))
  have hcl : ∀ x, cFr l x ≤ l.length := fun x => cntL_le l
  repeat' first | with_reducible apply wAsIc (F := F_Thoughts_loadWithout) | with_reducible apply wAsZc (F := F_Thoughts_loadWithout) | with_reducible apply wRIc (F := F_Thoughts_loadWithout) | with_reducible apply wRZc (F := F_Thoughts_loadWithout) | with_reducible apply wBc (F := F_Thoughts_loadWithout) | with_reducible apply wIc (F := F_Thoughts_loadWithout) | with_reducible apply wB_and | with_reducible apply wB_or | with_reducible apply wB_not | with_reducible apply wI_ite | with_reducible apply wI_add | with_reducible apply wI_sub | with_reducible apply wSeq | with_reducible apply wSkip | with_reducible apply wIf | ((with_reducible apply wInc); rfl) | with_reducible apply wKil | with_reducible apply wVd | with_reducible apply wAsIw | with_reducible apply wAsZw | with_reducible apply wRIw | with_reducible apply wRZw | with_reducible apply wB_e | with_reducible apply wI_e | (intro h; try simp only [Bool.and_eq_true, Bool.or_eq_true, Bool.not_eq_true', Bool.not_eq_false', Bool.and_eq_false_imp, Bool.or_eq_false_iff, decide_eq_true_eq, decide_eq_false_iff_not, Bool.not_true, Bool.not_false, Bool.true_eq_false, Bool.false_eq_true, Bool.not_not] at h) | with_reducible apply wN1 | with_reducible apply wN2 | with_reducible apply wN3 | with_reducible apply wN4 | with_reducible apply wN0 | with_reducible apply wE0 | with_reducible apply wXI | with_reducible apply wXB | with_reducible exact n0 | with_reducible exact hb0 | with_reducible exact he0 | with_reducible exact eK | ((with_reducible apply eL); rfl) | ((with_reducible apply eLR); rfl) | with_reducible exact eAN | with_reducible apply eSub | with_reducible apply eLt | with_reducible apply eEq | with_reducible apply eIteI | with_reducible apply eIteJ | with_reducible apply eIte | with_reducible apply eFld2 | with_reducible apply eAI | with_reducible apply eAR | with_reducible apply eCI | with_reducible apply eCZ | with_reducible apply wRc | with_reducible apply R_Thoughts_board | with_reducible exact K_Scene_now (by assumption) | with_reducible exact C_Board (by assumption) | with_reducible exact C_Thoughts | with_reducible exact isBoard_156 | with_reducible exact C_Board isBoard_156 | with_reducible exact upR_s | ((with_reducible apply upR_a); (first | decide | omega)) | ((with_reducible apply upR_b); (first | decide | omega)) | ((with_reducible apply cpR_o); (first | decide | omega)) | with_reducible apply lt_pSet1 | with_reducible apply lt_kil | exact Nat.le_of_ble_eq_true rfl | with_reducible assumption | with_reducible exact rfl | omega | with_reducible apply wAnd | decide +kernel
  all_goals first | (exfalso; omega) | exact absurd trivial (by assumption) | exact absurd rfl (by assumption) | skip
  clear hb0 gb0 he0 ge0
  refine wWh (fun k L σ => ∃ t b : Int, L = [some (pR 97), some (pR 1), some (pI (Int32.ofInt (c : Int))), some (pI (Int32.ofInt (i : Int))), some (pI (Int32.ofInt w)), some (pI (Int32.ofInt b)), some (pI (Int32.ofInt (gE c b l))), some (pI (Int32.ofInt (k : Int)))] ∧ σ = zM G1 U ∧ k ≤ i ∧ (g 0 ≤ t ∧ t ≤ 1000000) ∧ b = gB l c t ∧ gapR l c w i (g 0) = gapR l c w (i - k) t ∧ k ≤ cFr l b) 45 (by omega) ⟨g 0, _, rfl, rfl, Nat.zero_le _, by omega, rfl, rfl, Nat.zero_le _⟩ ?_
  rintro k _ _ hk ⟨t, b, rfl, rfl, hki, ht, hb, hgr, hcnt⟩
  have hk44 : k ≤ 44 := by have := hcl b; omega
  have gbt := gb t (by omega)
  rw [← hb] at gbt
  have gbe := ge b
  rw [hgr] at hRR
  rcases Nat.lt_or_ge k i with hlt | hge
  · obtain ⟨m, hm⟩ : ∃ m, i - k = m + 1 := ⟨i - k - 1, by omega⟩
    rw [hm, gapR, ← hb] at hRR
    by_cases ce : gE c b l = -1
    · rw [if_pos ce] at hRR
      clear hgr
      generalize gE c b l = z at *
      repeat' first | with_reducible apply wAsIc (F := F_Thoughts_loadWithout) | with_reducible apply wAsZc (F := F_Thoughts_loadWithout) | with_reducible apply wRIc (F := F_Thoughts_loadWithout) | with_reducible apply wRZc (F := F_Thoughts_loadWithout) | with_reducible apply wBc (F := F_Thoughts_loadWithout) | with_reducible apply wIc (F := F_Thoughts_loadWithout) | with_reducible apply wB_and | with_reducible apply wB_or | with_reducible apply wB_not | with_reducible apply wI_ite | with_reducible apply wI_add | with_reducible apply wI_sub | with_reducible apply wSeq | with_reducible apply wSkip | with_reducible apply wIf | ((with_reducible apply wInc); rfl) | with_reducible apply wKil | with_reducible apply wVd | with_reducible apply wAsIw | with_reducible apply wAsZw | with_reducible apply wRIw | with_reducible apply wRZw | with_reducible apply wB_e | with_reducible apply wI_e | (intro h; try simp only [Bool.and_eq_true, Bool.or_eq_true, Bool.not_eq_true', Bool.not_eq_false', Bool.and_eq_false_imp, Bool.or_eq_false_iff, decide_eq_true_eq, decide_eq_false_iff_not, Bool.not_true, Bool.not_false, Bool.true_eq_false, Bool.false_eq_true, Bool.not_not] at h) | with_reducible apply wN1 | with_reducible apply wN2 | with_reducible apply wN3 | with_reducible apply wN4 | with_reducible apply wN0 | with_reducible apply wE0 | with_reducible apply wXI | with_reducible apply wXB | with_reducible exact eK | ((with_reducible apply eL); rfl) | ((with_reducible apply eLR); rfl) | with_reducible exact eAN | with_reducible apply eSub | with_reducible apply eLt | with_reducible apply eEq | with_reducible apply eIteI | with_reducible apply eIteJ | with_reducible apply eIte | with_reducible apply eFld2 | with_reducible apply eAI | with_reducible apply eAR | with_reducible apply eCI | with_reducible apply eCZ | with_reducible apply wRc | with_reducible apply R_Thoughts_board | with_reducible exact K_Scene_now (by assumption) | with_reducible exact C_Board (by assumption) | with_reducible exact C_Thoughts | with_reducible exact isBoard_156 | with_reducible exact C_Board isBoard_156 | with_reducible exact upR_s | ((with_reducible apply upR_a); (first | decide | omega)) | ((with_reducible apply upR_b); (first | decide | omega)) | ((with_reducible apply cpR_o); (first | decide | omega)) | with_reducible apply lt_pSet1 | with_reducible apply lt_kil | exact Nat.le_of_ble_eq_true rfl | with_reducible assumption | with_reducible exact rfl | omega | with_reducible apply wAnd | decide +kernel
      all_goals first | (exfalso; omega) | exact absurd trivial (by assumption) | exact absurd rfl (by assumption) | exact hRR | exact ⟨rfl, hRR⟩
    · rw [if_neg ce] at hRR
      obtain ⟨q1, r, q2, q3, q4⟩ := gbe.2.2 ce
      have hfin : gapR l c w i (g 0) = gapR l c w (i - (k + 1)) (gE c b l) := by
        rw [hgr, hm, gapR, ← hb, if_neg ce, show i - (k + 1) = m by omega]
      clear hgr
      generalize gE c b l = z at *
      have hb2 := hbB z (by omega)
      have gb2 := gb z (by omega)
      have he2 := hbE (gB l c z) (by omega)
      have ge2 := ge (gB l c z)
      have hc2 : k + 1 ≤ cFr l (gB l c z) := by
        have := cFr_lt q2 (x := b) (y := gB l c z) (by omega) (by omega)
        omega
      repeat' first | with_reducible apply wAsIc (F := F_Thoughts_loadWithout) | with_reducible apply wAsZc (F := F_Thoughts_loadWithout) | with_reducible apply wRIc (F := F_Thoughts_loadWithout) | with_reducible apply wRZc (F := F_Thoughts_loadWithout) | with_reducible apply wBc (F := F_Thoughts_loadWithout) | with_reducible apply wIc (F := F_Thoughts_loadWithout) | with_reducible apply wB_and | with_reducible apply wB_or | with_reducible apply wB_not | with_reducible apply wI_ite | with_reducible apply wI_add | with_reducible apply wI_sub | with_reducible apply wSeq | with_reducible apply wSkip | with_reducible apply wIf | ((with_reducible apply wInc); rfl) | with_reducible apply wKil | with_reducible apply wVd | with_reducible apply wAsIw | with_reducible apply wAsZw | with_reducible apply wRIw | with_reducible apply wRZw | with_reducible apply wB_e | with_reducible apply wI_e | (intro h; try simp only [Bool.and_eq_true, Bool.or_eq_true, Bool.not_eq_true', Bool.not_eq_false', Bool.and_eq_false_imp, Bool.or_eq_false_iff, decide_eq_true_eq, decide_eq_false_iff_not, Bool.not_true, Bool.not_false, Bool.true_eq_false, Bool.false_eq_true, Bool.not_not] at h) | with_reducible apply wN1 | with_reducible apply wN2 | with_reducible apply wN3 | with_reducible apply wN4 | with_reducible apply wN0 | with_reducible apply wE0 | with_reducible apply wXI | with_reducible apply wXB | with_reducible exact hb2 | with_reducible exact he2 | with_reducible exact eK | ((with_reducible apply eL); rfl) | ((with_reducible apply eLR); rfl) | with_reducible exact eAN | with_reducible apply eSub | with_reducible apply eLt | with_reducible apply eEq | with_reducible apply eIteI | with_reducible apply eIteJ | with_reducible apply eIte | with_reducible apply eFld2 | with_reducible apply eAI | with_reducible apply eAR | with_reducible apply eCI | with_reducible apply eCZ | with_reducible apply wRc | with_reducible apply R_Thoughts_board | with_reducible exact K_Scene_now (by assumption) | with_reducible exact C_Board (by assumption) | with_reducible exact C_Thoughts | with_reducible exact isBoard_156 | with_reducible exact C_Board isBoard_156 | with_reducible exact upR_s | ((with_reducible apply upR_a); (first | decide | omega)) | ((with_reducible apply upR_b); (first | decide | omega)) | ((with_reducible apply cpR_o); (first | decide | omega)) | with_reducible apply lt_pSet1 | with_reducible apply lt_kil | exact Nat.le_of_ble_eq_true rfl | with_reducible assumption | with_reducible exact rfl | omega | with_reducible apply wAnd | decide +kernel
      all_goals first | (exfalso; omega) | exact absurd trivial (by assumption) | exact absurd rfl (by assumption) | skip
      exact ⟨z, _, rfl, rfl, by omega, by omega, rfl, hfin, hc2⟩
  · have ek : i - k = 0 := by omega
    rw [ek, gapR, ← hb] at hRR
    clear hgr
    generalize gE c b l = z at *
    by_cases cw : w = 0
    · rw [if_pos cw] at hRR
      repeat' first | with_reducible apply wAsIc (F := F_Thoughts_loadWithout) | with_reducible apply wAsZc (F := F_Thoughts_loadWithout) | with_reducible apply wRIc (F := F_Thoughts_loadWithout) | with_reducible apply wRZc (F := F_Thoughts_loadWithout) | with_reducible apply wBc (F := F_Thoughts_loadWithout) | with_reducible apply wIc (F := F_Thoughts_loadWithout) | with_reducible apply wB_and | with_reducible apply wB_or | with_reducible apply wB_not | with_reducible apply wI_ite | with_reducible apply wI_add | with_reducible apply wI_sub | with_reducible apply wSeq | with_reducible apply wSkip | with_reducible apply wIf | ((with_reducible apply wInc); rfl) | with_reducible apply wKil | with_reducible apply wVd | with_reducible apply wAsIw | with_reducible apply wAsZw | with_reducible apply wRIw | with_reducible apply wRZw | with_reducible apply wB_e | with_reducible apply wI_e | (intro h; try simp only [Bool.and_eq_true, Bool.or_eq_true, Bool.not_eq_true', Bool.not_eq_false', Bool.and_eq_false_imp, Bool.or_eq_false_iff, decide_eq_true_eq, decide_eq_false_iff_not, Bool.not_true, Bool.not_false, Bool.true_eq_false, Bool.false_eq_true, Bool.not_not] at h) | with_reducible apply wN1 | with_reducible apply wN2 | with_reducible apply wN3 | with_reducible apply wN4 | with_reducible apply wN0 | with_reducible apply wE0 | with_reducible apply wXI | with_reducible apply wXB | with_reducible exact eK | ((with_reducible apply eL); rfl) | ((with_reducible apply eLR); rfl) | with_reducible exact eAN | with_reducible apply eSub | with_reducible apply eLt | with_reducible apply eEq | with_reducible apply eIteI | with_reducible apply eIteJ | with_reducible apply eIte | with_reducible apply eFld2 | with_reducible apply eAI | with_reducible apply eAR | with_reducible apply eCI | with_reducible apply eCZ | with_reducible apply wRc | with_reducible apply R_Thoughts_board | with_reducible exact K_Scene_now (by assumption) | with_reducible exact C_Board (by assumption) | with_reducible exact C_Thoughts | with_reducible exact isBoard_156 | with_reducible exact C_Board isBoard_156 | with_reducible exact upR_s | ((with_reducible apply upR_a); (first | decide | omega)) | ((with_reducible apply upR_b); (first | decide | omega)) | ((with_reducible apply cpR_o); (first | decide | omega)) | with_reducible apply lt_pSet1 | with_reducible apply lt_kil | exact Nat.le_of_ble_eq_true rfl | with_reducible assumption | with_reducible exact rfl | omega | with_reducible apply wAnd | decide +kernel
      all_goals first | (exfalso; omega) | exact absurd trivial (by assumption) | exact absurd rfl (by assumption) | exact hRR | exact ⟨rfl, hRR⟩
    · rw [if_neg cw] at hRR
      by_cases ce : z = -1
      · rw [if_pos ce] at hRR
        repeat' first | with_reducible apply wAsIc (F := F_Thoughts_loadWithout) | with_reducible apply wAsZc (F := F_Thoughts_loadWithout) | with_reducible apply wRIc (F := F_Thoughts_loadWithout) | with_reducible apply wRZc (F := F_Thoughts_loadWithout) | with_reducible apply wBc (F := F_Thoughts_loadWithout) | with_reducible apply wIc (F := F_Thoughts_loadWithout) | with_reducible apply wB_and | with_reducible apply wB_or | with_reducible apply wB_not | with_reducible apply wI_ite | with_reducible apply wI_add | with_reducible apply wI_sub | with_reducible apply wSeq | with_reducible apply wSkip | with_reducible apply wIf | ((with_reducible apply wInc); rfl) | with_reducible apply wKil | with_reducible apply wVd | with_reducible apply wAsIw | with_reducible apply wAsZw | with_reducible apply wRIw | with_reducible apply wRZw | with_reducible apply wB_e | with_reducible apply wI_e | (intro h; try simp only [Bool.and_eq_true, Bool.or_eq_true, Bool.not_eq_true', Bool.not_eq_false', Bool.and_eq_false_imp, Bool.or_eq_false_iff, decide_eq_true_eq, decide_eq_false_iff_not, Bool.not_true, Bool.not_false, Bool.true_eq_false, Bool.false_eq_true, Bool.not_not] at h) | with_reducible apply wN1 | with_reducible apply wN2 | with_reducible apply wN3 | with_reducible apply wN4 | with_reducible apply wN0 | with_reducible apply wE0 | with_reducible apply wXI | with_reducible apply wXB | with_reducible exact eK | ((with_reducible apply eL); rfl) | ((with_reducible apply eLR); rfl) | with_reducible exact eAN | with_reducible apply eSub | with_reducible apply eLt | with_reducible apply eEq | with_reducible apply eIteI | with_reducible apply eIteJ | with_reducible apply eIte | with_reducible apply eFld2 | with_reducible apply eAI | with_reducible apply eAR | with_reducible apply eCI | with_reducible apply eCZ | with_reducible apply wRc | with_reducible apply R_Thoughts_board | with_reducible exact K_Scene_now (by assumption) | with_reducible exact C_Board (by assumption) | with_reducible exact C_Thoughts | with_reducible exact isBoard_156 | with_reducible exact C_Board isBoard_156 | with_reducible exact upR_s | ((with_reducible apply upR_a); (first | decide | omega)) | ((with_reducible apply upR_b); (first | decide | omega)) | ((with_reducible apply cpR_o); (first | decide | omega)) | with_reducible apply lt_pSet1 | with_reducible apply lt_kil | exact Nat.le_of_ble_eq_true rfl | with_reducible assumption | with_reducible exact rfl | omega | with_reducible apply wAnd | decide +kernel
        all_goals first | (exfalso; omega) | exact absurd trivial (by assumption) | exact absurd rfl (by assumption) | exact hRR | exact ⟨rfl, hRR⟩
      · rw [if_neg ce] at hRR
        repeat' first | with_reducible apply wAsIc (F := F_Thoughts_loadWithout) | with_reducible apply wAsZc (F := F_Thoughts_loadWithout) | with_reducible apply wRIc (F := F_Thoughts_loadWithout) | with_reducible apply wRZc (F := F_Thoughts_loadWithout) | with_reducible apply wBc (F := F_Thoughts_loadWithout) | with_reducible apply wIc (F := F_Thoughts_loadWithout) | with_reducible apply wB_and | with_reducible apply wB_or | with_reducible apply wB_not | with_reducible apply wI_ite | with_reducible apply wI_add | with_reducible apply wI_sub | with_reducible apply wSeq | with_reducible apply wSkip | with_reducible apply wIf | ((with_reducible apply wInc); rfl) | with_reducible apply wKil | with_reducible apply wVd | with_reducible apply wAsIw | with_reducible apply wAsZw | with_reducible apply wRIw | with_reducible apply wRZw | with_reducible apply wB_e | with_reducible apply wI_e | (intro h; try simp only [Bool.and_eq_true, Bool.or_eq_true, Bool.not_eq_true', Bool.not_eq_false', Bool.and_eq_false_imp, Bool.or_eq_false_iff, decide_eq_true_eq, decide_eq_false_iff_not, Bool.not_true, Bool.not_false, Bool.true_eq_false, Bool.false_eq_true, Bool.not_not] at h) | with_reducible apply wN1 | with_reducible apply wN2 | with_reducible apply wN3 | with_reducible apply wN4 | with_reducible apply wN0 | with_reducible apply wE0 | with_reducible apply wXI | with_reducible apply wXB | with_reducible exact eK | ((with_reducible apply eL); rfl) | ((with_reducible apply eLR); rfl) | with_reducible exact eAN | with_reducible apply eSub | with_reducible apply eLt | with_reducible apply eEq | with_reducible apply eIteI | with_reducible apply eIteJ | with_reducible apply eIte | with_reducible apply eFld2 | with_reducible apply eAI | with_reducible apply eAR | with_reducible apply eCI | with_reducible apply eCZ | with_reducible apply wRc | with_reducible apply R_Thoughts_board | with_reducible exact K_Scene_now (by assumption) | with_reducible exact C_Board (by assumption) | with_reducible exact C_Thoughts | with_reducible exact isBoard_156 | with_reducible exact C_Board isBoard_156 | with_reducible exact upR_s | ((with_reducible apply upR_a); (first | decide | omega)) | ((with_reducible apply upR_b); (first | decide | omega)) | ((with_reducible apply cpR_o); (first | decide | omega)) | with_reducible apply lt_pSet1 | with_reducible apply lt_kil | exact Nat.le_of_ble_eq_true rfl | with_reducible assumption | with_reducible exact rfl | omega | with_reducible apply wAnd | decide +kernel
        all_goals first | (exfalso; omega) | exact absurd trivial (by assumption) | exact absurd rfl (by assumption) | exact hRR | exact ⟨rfl, hRR⟩
