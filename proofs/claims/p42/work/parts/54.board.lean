/-! ===== the class's columns and boards ===== -/
theorem iI_andn {m n : Nat} (hm : m < 65536) (hn : n < 65536) : Int32.ofInt (m : Int) &&& (Int32.ofInt (n : Int) ^^^ Int32.ofInt (-1)) = Int32.ofInt ((m &&& (65535 ^^^ n) : Nat) : Int) := by
  apply Int32.toBitVec_inj.1
  rw [Int32.toBitVec_and, Int32.toBitVec_xor]
  have e : ∀ k : Nat, (Int32.ofInt (k : Int)).toBitVec = BitVec.ofNat 32 k := fun k => BitVec.ofInt_natCast 32 k
  have e1 : (Int32.ofInt (-1)).toBitVec = BitVec.allOnes 32 := by decide
  rw [e, e, e, e1]
  apply BitVec.eq_of_getLsbD_eq
  intro i hi
  have h5 : (65535 : Nat).testBit i = decide (i < 16) := Nat.testBit_two_pow_sub_one 16 i
  simp only [BitVec.getLsbD_and, BitVec.getLsbD_xor, BitVec.getLsbD_ofNat, BitVec.getLsbD_allOnes, Nat.testBit_and, Nat.testBit_xor, h5]
  by_cases c : i < 16
  · simp [hi, c, Bool.xor_comm]
  · have : m.testBit i = false := Nat.testBit_lt_two_pow (Nat.lt_of_lt_of_le hm (Nat.pow_le_pow_right (n := 2) (i := 16) (by omega) (by omega)))
    simp [this]
theorem eAndNot {L : pLo} {σ : pM} {a b : eI} {m n : Nat} (ha : a L σ = some (Int32.ofInt (m : Int), σ)) (hb : b L σ = some (Int32.ofInt (n : Int), σ)) (hm : m < 65536) (hn : n < 65536) : bI (fun x y => x &&& y) a (bI (fun x y => x ^^^ y) b (kI (-1))) L σ = some (Int32.ofInt ((m &&& (65535 ^^^ n) : Nat) : Int), σ) := by
  simp only [bI, ha, hb, kI, Option.bind_some, iI_andn hm hn]
theorem eNot16 {L : pLo} {σ : pM} {b : eI} {n : Nat} (hb : b L σ = some (Int32.ofInt (n : Int), σ)) (hn : n < 65536) : bI (fun x y => x &&& y) (kI 65535) (bI (fun x y => x ^^^ y) b (kI (-1))) L σ = some (Int32.ofInt ((65535 ^^^ n : Nat) : Int), σ) := by
  have := eAndNot (a := kI 65535) (m := 65535) (L := L) (σ := σ) rfl hb (by omega) hn
  rw [this]
  have e : 65535 &&& (65535 ^^^ n) = 65535 ^^^ n := by
    apply Nat.eq_of_testBit_eq
    intro i
    have h5 : (65535 : Nat).testBit i = decide (i < 16) := Nat.testBit_two_pow_sub_one 16 i
    rw [Nat.testBit_and, Nat.testBit_xor, h5]
    by_cases c : i < 16
    · simp [c]
    · have : n.testBit i = false := Nat.testBit_lt_two_pow (Nat.lt_of_lt_of_le hn (Nat.pow_le_pow_right (n := 2) (i := 16) (by omega) (by omega)))
      simp [this, c]
  rw [e]
theorem xor_lt {n : Nat} (h : n < 65536) : 65535 ^^^ n < 65536 := Nat.xor_lt_two_pow (n := 16) (by decide) h
theorem xor_bit {n c : Nat} (hc : c < 16) : (65535 ^^^ n).testBit c = !n.testBit c := by
  have h5 : (65535 : Nat).testBit c = decide (c < 16) := Nat.testBit_two_pow_sub_one 16 c
  rw [Nat.testBit_xor, h5]
  simp [hc]
theorem eBitNe {L : pLo} {σ : pM} {a b : eI} {s c : Nat} (ha : a L σ = some (Int32.ofInt (s : Int), σ)) (hb : b L σ = some (Int32.ofInt (c : Int), σ)) (hs : s < 2 ^ 31) (hc : c < 32) : mI .ne (bI (fun x y => x &&& y) (bI (fun x y => x >>> (y &&& 31)) a b) (kI 1)) (kI 0) L σ = some (s.testBit c, σ) := by
  have h2 : s >>> c < 2 ^ 31 := by
    have : s >>> c ≤ s := by rw [Nat.shiftRight_eq_div_pow]; exact Nat.div_le_self _ _
    omega
  have h1 := eBand (b := kI 1) (n := 1) (eShr ha hb hs hc) eK h2 (by decide)
  have h4 : (s >>> c &&& 1) = (s.testBit c).toNat := by
    rw [Nat.testBit, Nat.and_comm]
    rcases Nat.mod_two_eq_zero_or_one (s >>> c) with h | h <;> simp [Nat.and_one_is_mod, Nat.one_and_eq_mod_two, h]
  rw [h4] at h1
  have h5 := eNe (b := kI 0) (y := 0) h1 eK (by cases s.testBit c <;> simp [rg]) (by simp [rg])
  rw [h5]
  cases s.testBit c <;> rfl
theorem X_maskOf {σ : pM} {f m : Nat} (hf : f ≤ 16) (hm : m ≤ 16) : F_X_maskOf [pI (Int32.ofInt (f : Int)), pI (Int32.ofInt (m : Int))] σ = some (some (pI (Int32.ofInt ((bitsN f m : Nat) : Int))), σ) := by
  rw [← bits_fact ⟨f, by omega⟩ ⟨m, by omega⟩]
  rfl
theorem X_maskOfZ {σ : pM} {f m : Int} (hf : 0 ≤ f ∧ f ≤ 16) (hm : 0 ≤ m ∧ m ≤ 16) : F_X_maskOf [pI (Int32.ofInt f), pI (Int32.ofInt m)] σ = some (some (pI (Int32.ofInt ((bitsN f.toNat m.toNat : Nat) : Int))), σ) := by
  have := X_maskOf (σ := σ) (f := f.toNat) (m := m.toNat) (by omega) (by omega)
  rwa [Int.toNat_of_nonneg hf.1, Int.toNat_of_nonneg hm.1] at this
theorem X_bestRun {σ : pM} {cols set : Nat} {many : Int} (hs : cols < 65536) (hb : ∀ c, c < 16 → cols.testBit c = !set.testBit c) (hm : rg many) : F_X_bestRun [pI (Int32.ofInt (cols : Int)), pI (Int32.ofInt many)] σ = some (some (pI (Int32.ofInt (placeN set many))), σ) := by
  apply wF_to
  unfold F_X_bestRun B_X_bestRun placeN
  apply wBody (Nat.le_of_ble_eq_true rfl)
  repeat' first | with_reducible apply wSeq | with_reducible apply wSkip | with_reducible apply wIf | with_reducible apply wAsI | ((with_reducible apply wInc); rfl) | with_reducible apply wKil | with_reducible apply wCnt | with_reducible apply wRI | with_reducible apply wB_e | (intro h; try simp only [Bool.and_eq_true, Bool.or_eq_true, Bool.not_eq_true', Bool.not_eq_false', Bool.and_eq_false_imp, Bool.or_eq_false_iff, decide_eq_true_eq, decide_eq_false_iff_not, Bool.not_true, Bool.not_false, Bool.true_eq_false, Bool.false_eq_true, Bool.not_not] at h) | with_reducible apply wN1 | with_reducible apply wN2 | with_reducible apply wN3 | with_reducible apply wN4 | with_reducible apply wN0 | with_reducible apply wE0 | with_reducible apply wXI | with_reducible apply wXB | with_reducible exact eK | ((with_reducible apply eL); rfl) | with_reducible exact eAN | with_reducible apply eSub | with_reducible apply eBandN | with_reducible apply eBit1 | with_reducible apply eBitNe | with_reducible apply eBit | with_reducible apply eShr | with_reducible apply eLt | with_reducible apply eLe | with_reducible apply eGe | with_reducible apply eNe | with_reducible apply eAnd | with_reducible exact upR_s | ((with_reducible apply upR_a); (first | decide | omega)) | ((with_reducible apply upR_b); (first | decide | omega)) | exact Nat.le_of_ble_eq_true rfl | with_reducible assumption | with_reducible exact rfl | omega | with_reducible apply wAnd | decide +kernel
  refine wWh (fun i L σ' => L = [some (pI (Int32.ofInt (cols : Int))), some (pI (Int32.ofInt many)), some (pI (Int32.ofInt (plSt set many i).1)), some (pI (Int32.ofInt (plSt set many i).2.1)), some (pI (Int32.ofInt (plSt set many i).2.2)), some (pI (Int32.ofInt (i : Int)))] ∧ σ' = σ) 17 (by omega) ⟨rfl, rfl⟩ ?_
  rintro i _ _ hi ⟨rfl, rfl⟩
  have hp := plSt_rg (set := set) (many := many) i
  rcases Nat.lt_or_ge i 17 with hlt | hge
  · have e1 : plSt set many (i + 1) = plStep set many i (plSt set many i) := rfl
    rw [e1]
    clear e1
    generalize plSt set many i = t at *
    obtain ⟨t1, t2, t3⟩ := t
    obtain ⟨p1, p2, p3, p4, p5, p6⟩ := hp
    simp only at p1 p2 p3 p4 p5 p6 ⊢
    repeat' first | with_reducible apply wSeq | with_reducible apply wSkip | with_reducible apply wIf | with_reducible apply wAsI | ((with_reducible apply wInc); rfl) | with_reducible apply wKil | with_reducible apply wCnt | with_reducible apply wRI | with_reducible apply wB_e | (intro h; try simp only [Bool.and_eq_true, Bool.or_eq_true, Bool.not_eq_true', Bool.not_eq_false', Bool.and_eq_false_imp, Bool.or_eq_false_iff, decide_eq_true_eq, decide_eq_false_iff_not, Bool.not_true, Bool.not_false, Bool.true_eq_false, Bool.false_eq_true, Bool.not_not] at h) | with_reducible apply wN1 | with_reducible apply wN2 | with_reducible apply wN3 | with_reducible apply wN4 | with_reducible apply wN0 | with_reducible apply wE0 | with_reducible apply wXI | with_reducible apply wXB | with_reducible exact eK | ((with_reducible apply eL); rfl) | with_reducible exact eAN | with_reducible apply eSub | with_reducible apply eBandN | with_reducible apply eBit1 | with_reducible apply eBitNe | with_reducible apply eBit | with_reducible apply eShr | with_reducible apply eLt | with_reducible apply eLe | with_reducible apply eGe | with_reducible apply eNe | with_reducible apply eAnd | with_reducible exact upR_s | ((with_reducible apply upR_a); (first | decide | omega)) | ((with_reducible apply upR_b); (first | decide | omega)) | exact Nat.le_of_ble_eq_true rfl | with_reducible assumption | with_reducible exact rfl | omega | with_reducible apply wAnd | decide +kernel
    · have e : plStep set many i (t1, t2, t3) = (t1, t2, t3 + 1) := by
        rw [plStep, if_pos (by rw [hb i (by omega)] at h; simp only [Bool.and_eq_true, decide_eq_true_eq]; exact ⟨by omega, h.2⟩)]
      rw [e]
      exact ⟨rfl, rfl⟩
    · rename_i h1
      have e : plStep set many i (t1, t2, t3) = ((i : Int) - t3, t3, 0) := by
        rw [plStep, if_neg, if_pos]
        · simp only [Bool.and_eq_true, decide_eq_true_eq]; exact h
        · intro h3
          simp only [Bool.and_eq_true, decide_eq_true_eq] at h3
          have := h1 (by omega)
          rw [hb i (by omega), h3.2] at this
          cases this
      rw [e]
      exact ⟨rfl, rfl⟩
    · rename_i h1
      have e : plStep set many i (t1, t2, t3) = (t1, t2, 0) := by
        rw [plStep, if_neg, if_neg]
        · simp only [Bool.and_eq_true, decide_eq_true_eq]; intro h4; exact absurd h4.2 (by have := h h4.1; omega)
        · intro h3
          simp only [Bool.and_eq_true, decide_eq_true_eq] at h3
          have := h1 (by omega)
          rw [hb i (by omega), h3.2] at this
          cases this
      rw [e]
      exact ⟨rfl, rfl⟩
  · have e : i = 17 := by omega
    subst e
    repeat' first | with_reducible apply wSeq | with_reducible apply wSkip | with_reducible apply wIf | with_reducible apply wAsI | ((with_reducible apply wInc); rfl) | with_reducible apply wKil | with_reducible apply wCnt | with_reducible apply wRI | with_reducible apply wB_e | (intro h; try simp only [Bool.and_eq_true, Bool.or_eq_true, Bool.not_eq_true', Bool.not_eq_false', Bool.and_eq_false_imp, Bool.or_eq_false_iff, decide_eq_true_eq, decide_eq_false_iff_not, Bool.not_true, Bool.not_false, Bool.true_eq_false, Bool.false_eq_true, Bool.not_not] at h) | with_reducible apply wN1 | with_reducible apply wN2 | with_reducible apply wN3 | with_reducible apply wN4 | with_reducible apply wN0 | with_reducible apply wE0 | with_reducible apply wXI | with_reducible apply wXB | with_reducible exact eK | ((with_reducible apply eL); rfl) | with_reducible exact eAN | with_reducible apply eSub | with_reducible apply eBandN | with_reducible apply eBit1 | with_reducible apply eBitNe | with_reducible apply eBit | with_reducible apply eShr | with_reducible apply eLt | with_reducible apply eLe | with_reducible apply eGe | with_reducible apply eNe | with_reducible apply eAnd | with_reducible exact upR_s | ((with_reducible apply upR_a); (first | decide | omega)) | ((with_reducible apply upR_b); (first | decide | omega)) | exact Nat.le_of_ble_eq_true rfl | with_reducible assumption | with_reducible exact rfl | omega | with_reducible apply wAnd | decide +kernel
    exact ⟨rfl, rfl⟩
/-- what lies on a board -/
abbrev bR : Type := Nat × Int × Int × Int
def bR.m (r : bR) : Nat := Prod.fst r
def bR.f (r : bR) : Int := r.2.1
def bR.t (r : bR) : Int := r.2.2.1
def bR.a (r : bR) : Int := r.2.2.2
def rOk (r : bR) : Prop := r.m < 65536 ∧ (0 ≤ r.f ∧ r.f ≤ 1000000000) ∧ (0 ≤ r.t ∧ r.t ≤ 1000000000) ∧ rg r.a
def allOk (l : List bR) : Prop := ∀ (i : Nat) (r : bR), l[i]? = some r → rOk r
def boardIs (G : Nat → Nat → Int) (b : Nat) (l : List bR) : Prop := G b 0 = (l.length : Int) ∧ ∀ (i : Nat) (r : bR), l[i]? = some r → G (b + 1) i = (r.m : Int) ∧ G (b + 2) i = r.f ∧ G (b + 3) i = r.t ∧ G (b + 4) i = r.a
def frm (lo hi : Nat) (G G' : Nat → Nat → Int) : Prop := ∀ k, (k < lo ∨ hi ≤ k) → G' k = G k
theorem frm_0 {lo hi : Nat} {G : Nat → Nat → Int} : frm lo hi G G := fun _ _ => rfl
theorem frm_t {lo hi : Nat} {A B C : Nat → Nat → Int} (h : frm lo hi A B) (h2 : frm lo hi B C) : frm lo hi A C := fun k hk => (h2 k hk).trans (h k hk)
theorem frm_w {lo hi lo' hi' : Nat} {A B : Nat → Nat → Int} (h : frm lo hi A B) (h1 : lo' ≤ lo) (h2 : hi ≤ hi') : frm lo' hi' A B := fun k hk => h k (by omega)
theorem frm_up {lo hi k i : Nat} {v : Int} {G : Nat → Nat → Int} (h : lo ≤ k ∧ k < hi) : frm lo hi G (upZ G k i v) := fun a ha => by
  funext b
  have : ¬ a = k := by omega
  simp [upZ, this]
theorem frm_row {lo hi k : Nat} {F : Nat → Int} {G : Nat → Nat → Int} (h : lo ≤ k ∧ k < hi) : frm lo hi G (setRow G k F) := fun a ha => setRow_o (by omega)
theorem board_frm {G G' : Nat → Nat → Int} {b lo hi : Nat} {l : List bR} (h : boardIs G b l) (hf : frm lo hi G G') (hd : b + 5 ≤ lo ∨ hi ≤ b) : boardIs G' b l := by
  have e : ∀ k, k < 5 → G' (b + k) = G (b + k) := fun k hk => hf _ (by omega)
  have e0 := e 0 (by omega)
  rw [Nat.add_zero] at e0
  refine ⟨by rw [e0]; exact h.1, fun i r hi => ?_⟩
  rw [e 1 (by omega), e 2 (by omega), e 3 (by omega), e 4 (by omega)]
  exact h.2 i r hi
/-- one more on a board -/
theorem Bd_add {G U : Nat → Nat → Int} {b m : Nat} {f t a : Int} {l : List bR} {R : Option pV → pM → Prop} (hb : isBoard b) (h : boardIs G b l) (hl : l.length < 44) (hR : ∀ G', frm b (b + 5) G G' → boardIs G' b (l ++ [(m, f, t, a)]) → R none (zM G' U)) : WpF F_Board_add [pR b, pI (Int32.ofInt (m : Int)), pI (Int32.ofInt f), pI (Int32.ofInt t), pI (Int32.ofInt a)] (zM G U) R := by
  obtain ⟨h0, h1⟩ := h
  unfold F_Board_add B_Board_add
  apply wBody (Nat.le_of_ble_eq_true rfl)
  repeat' first | with_reducible apply wSeq | with_reducible apply wSkip | with_reducible apply wIf | with_reducible apply wRV | with_reducible apply wModA2 | with_reducible apply wModS2 | with_reducible apply wModO2 | with_reducible apply wAst2 | with_reducible apply wB_e | (intro h; try simp only [Bool.and_eq_true, Bool.or_eq_true, Bool.not_eq_true', Bool.not_eq_false', Bool.and_eq_false_imp, Bool.or_eq_false_iff, decide_eq_true_eq, decide_eq_false_iff_not, Bool.not_true, Bool.not_false, Bool.true_eq_false, Bool.false_eq_true, Bool.not_not] at h) | with_reducible apply wN1 | with_reducible apply wN2 | with_reducible apply wN3 | with_reducible apply wN4 | with_reducible apply wN0 | with_reducible apply wE0 | with_reducible apply wXI | with_reducible apply wXB | with_reducible exact eK | ((with_reducible apply eL); rfl) | ((with_reducible apply eLR); rfl) | with_reducible exact eAN | with_reducible apply eAdd | with_reducible apply eLt | with_reducible apply eFld2 | with_reducible apply R_Board_mask | with_reducible apply R_Board_from | with_reducible apply R_Board_to | with_reducible apply R_Board_freeFor | with_reducible exact K_Board_size (by assumption) | with_reducible exact N_Board_mask (by assumption) | with_reducible exact N_Board_from (by assumption) | with_reducible exact N_Board_to (by assumption) | with_reducible exact N_Board_freeFor (by assumption) | with_reducible exact Int.toNat_natCast _ | with_reducible exact tn0 | with_reducible exact tn1 | with_reducible exact tn2 | with_reducible exact tn3 | with_reducible exact tn4 | with_reducible exact tn5 | with_reducible exact tn6 | with_reducible exact tn7 | with_reducible exact tn8 | with_reducible exact tn9 | with_reducible exact tn10 | with_reducible exact tn11 | with_reducible exact tn12 | with_reducible exact tn13 | with_reducible exact tn14 | with_reducible exact tn15 | with_reducible exact tn16 | with_reducible exact tnK0 | with_reducible exact tnK4 | with_reducible exact tnK8 | with_reducible exact tnK12 | with_reducible exact tnK16 | with_reducible exact tnK20 | with_reducible exact tnK24 | with_reducible exact tnK28 | with_reducible exact tnK32 | with_reducible exact tnJA | with_reducible exact tnA | with_reducible exact upR_s | ((with_reducible apply upR_a); (first | decide | omega)) | ((with_reducible apply upR_b); (first | decide | omega)) | exact Nat.le_of_ble_eq_true rfl | with_reducible assumption | with_reducible exact rfl | omega | with_reducible apply wAnd | decide +kernel
  refine hR _ (frm_t (frm_up (by omega)) (frm_t (frm_up (by omega)) (frm_t (frm_up (by omega)) (frm_t (frm_up (by omega)) (frm_up (by omega)))))) ⟨?_, fun i r hi => ?_⟩
  · simp [upZ]
  · rw [List.getElem?_append] at hi
    split at hi
    · rename_i hlt
      have := h1 i r hi
      have e : ¬ i = l.length := by omega
      simpa [upZ, e] using this
    · have e : i = l.length := by
        by_cases c : i - l.length < 1
        · omega
        · rw [List.getElem?_eq_none (by simp; omega)] at hi; cases hi
      subst e
      rw [Nat.sub_self] at hi
      cases hi
      simp [upZ, bR.m, bR.f, bR.t, bR.a]
def brC (r : bR) (acc x y : Int) : Bool := (decide (x < r.t) && decide (r.f - x < y)) && (decide (acc = -1) || !decide (r.a = acc))
def brM (l : List bR) (acc x y : Int) (i : Nat) : Nat := match l[i]? with
  | some r => if brC r acc x y = true then r.m else 0
  | none => 0
def brN (l : List bR) (acc x y : Int) : Nat := orTo (brM l acc x y) l.length
theorem brM_lt {l : List bR} {acc x y : Int} {i : Nat} (h : allOk l) : brM l acc x y i < 65536 := by
  unfold brM
  split
  · rename_i r e
    have := (h i r e).1
    split <;> omega
  · omega
theorem brN_lt {l : List bR} {acc x y : Int} (h : allOk l) : brN l acc x y < 65536 := orTo_lt fun _ _ => brM_lt h
theorem Bd_free {G U : Nat → Nat → Int} {b : Nat} {acc x y : Int} {l : List bR} (hb : isBoard b) (h : boardIs G b l) (hok : allOk l) (hl : l.length ≤ 44) (ha : rg acc) (hx : 0 ≤ x ∧ x ≤ 1000000000) (hy : rg y) : F_Board_freeColumns [pR b, pI (Int32.ofInt acc), pI (Int32.ofInt x), pI (Int32.ofInt y)] (zM G U) = some (some (pI (Int32.ofInt ((65535 ^^^ brN l acc x y : Nat) : Int))), zM G U) := by
  apply wF_to
  obtain ⟨h0, h1⟩ := h
  have hlt := fun i => brM_lt (acc := acc) (x := x) (y := y) (i := i) hok
  unfold F_Board_freeColumns B_Board_freeColumns brN
  apply wBody (Nat.le_of_ble_eq_true rfl)
  repeat' first | with_reducible apply wSeq | with_reducible apply wSkip | with_reducible apply wIf | with_reducible apply wAsI | ((with_reducible apply wInc); rfl) | with_reducible apply wKil | with_reducible apply wRI | with_reducible apply wB_e | (intro h; try simp only [Bool.and_eq_true, Bool.or_eq_true, Bool.not_eq_true', Bool.not_eq_false', Bool.and_eq_false_imp, Bool.or_eq_false_iff, decide_eq_true_eq, decide_eq_false_iff_not, Bool.not_true, Bool.not_false, Bool.true_eq_false, Bool.false_eq_true, Bool.not_not] at h) | with_reducible apply wN1 | with_reducible apply wN2 | with_reducible apply wN3 | with_reducible apply wN4 | with_reducible apply wN0 | with_reducible apply wE0 | with_reducible apply wXI | with_reducible apply wXB | with_reducible exact eK | ((with_reducible apply eL); rfl) | ((with_reducible apply eLR); rfl) | with_reducible exact eAN | with_reducible apply eSub | with_reducible apply eOr | with_reducible apply eNot16 | with_reducible apply eAndNot | with_reducible apply eBandN | with_reducible apply eLt | with_reducible apply eEq | with_reducible apply eNe | with_reducible apply eAnd | with_reducible apply eOrB | with_reducible apply eArr2 | with_reducible apply eFld2 | with_reducible apply R_Board_mask | with_reducible apply R_Board_from | with_reducible apply R_Board_to | with_reducible apply R_Board_freeFor | with_reducible exact K_Board_size (by assumption) | with_reducible exact N_Board_mask (by assumption) | with_reducible exact N_Board_from (by assumption) | with_reducible exact N_Board_to (by assumption) | with_reducible exact N_Board_freeFor (by assumption) | with_reducible exact Int.toNat_natCast _ | with_reducible exact tn0 | with_reducible exact tn1 | with_reducible exact tn2 | with_reducible exact tn3 | with_reducible exact tn4 | with_reducible exact tn5 | with_reducible exact tn6 | with_reducible exact tn7 | with_reducible exact tn8 | with_reducible exact tn9 | with_reducible exact tn10 | with_reducible exact tn11 | with_reducible exact tn12 | with_reducible exact tn13 | with_reducible exact tn14 | with_reducible exact tn15 | with_reducible exact tn16 | with_reducible exact tnK0 | with_reducible exact tnK4 | with_reducible exact tnK8 | with_reducible exact tnK12 | with_reducible exact tnK16 | with_reducible exact tnK20 | with_reducible exact tnK24 | with_reducible exact tnK28 | with_reducible exact tnK32 | with_reducible exact tnJA | with_reducible exact tnA | with_reducible exact upR_s | ((with_reducible apply upR_a); (first | decide | omega)) | ((with_reducible apply upR_b); (first | decide | omega)) | exact Nat.le_of_ble_eq_true rfl | with_reducible assumption | with_reducible exact rfl | omega | with_reducible apply wAnd | decide +kernel
  refine wWh (fun i L σ' => L = [some (pR b), some (pI (Int32.ofInt acc)), some (pI (Int32.ofInt x)), some (pI (Int32.ofInt y)), some (pI (Int32.ofInt ((orTo (brM l acc x y) i : Nat) : Int))), some (pI (Int32.ofInt (i : Int)))] ∧ σ' = zM G U) l.length (by omega) ⟨rfl, rfl⟩ ?_
  rintro i _ _ hi ⟨rfl, rfl⟩
  have hB : orTo (brM l acc x y) i < 65536 := orTo_lt fun j _ => hlt j
  rcases Nat.lt_or_ge i l.length with hil | hge
  · obtain ⟨r, hr⟩ : ∃ r, l[i]? = some r := ⟨_, List.getElem?_eq_getElem hil⟩
    obtain ⟨g1, g2, g3, g4⟩ := h1 i r hr
    obtain ⟨k1, k2, k3, k4⟩ := hok i r hr
    have hs : orTo (brM l acc x y) (i + 1) = orTo (brM l acc x y) i ||| (if brC r acc x y = true then r.m else 0) := by
      have : brM l acc x y i = (if brC r acc x y = true then r.m else 0) := by unfold brM; rw [hr]
      rw [orTo, this]
    rw [hs]
    clear hs
    generalize orTo (brM l acc x y) i = B at *
    repeat' first | with_reducible apply wSeq | with_reducible apply wSkip | with_reducible apply wIf | with_reducible apply wAsI | ((with_reducible apply wInc); rfl) | with_reducible apply wKil | with_reducible apply wRI | with_reducible apply wB_e | (intro h; try simp only [Bool.and_eq_true, Bool.or_eq_true, Bool.not_eq_true', Bool.not_eq_false', Bool.and_eq_false_imp, Bool.or_eq_false_iff, decide_eq_true_eq, decide_eq_false_iff_not, Bool.not_true, Bool.not_false, Bool.true_eq_false, Bool.false_eq_true, Bool.not_not] at h) | with_reducible apply wN1 | with_reducible apply wN2 | with_reducible apply wN3 | with_reducible apply wN4 | with_reducible apply wN0 | with_reducible apply wE0 | with_reducible apply wXI | with_reducible apply wXB | with_reducible exact eK | ((with_reducible apply eL); rfl) | ((with_reducible apply eLR); rfl) | with_reducible exact eAN | with_reducible apply eSub | with_reducible apply eOr | with_reducible apply eNot16 | with_reducible apply eAndNot | with_reducible apply eBandN | with_reducible apply eLt | with_reducible apply eEq | with_reducible apply eNe | with_reducible apply eAnd | with_reducible apply eOrB | with_reducible apply eArr2 | with_reducible apply eFld2 | with_reducible apply R_Board_mask | with_reducible apply R_Board_from | with_reducible apply R_Board_to | with_reducible apply R_Board_freeFor | with_reducible exact K_Board_size (by assumption) | with_reducible exact N_Board_mask (by assumption) | with_reducible exact N_Board_from (by assumption) | with_reducible exact N_Board_to (by assumption) | with_reducible exact N_Board_freeFor (by assumption) | with_reducible exact Int.toNat_natCast _ | with_reducible exact tn0 | with_reducible exact tn1 | with_reducible exact tn2 | with_reducible exact tn3 | with_reducible exact tn4 | with_reducible exact tn5 | with_reducible exact tn6 | with_reducible exact tn7 | with_reducible exact tn8 | with_reducible exact tn9 | with_reducible exact tn10 | with_reducible exact tn11 | with_reducible exact tn12 | with_reducible exact tn13 | with_reducible exact tn14 | with_reducible exact tn15 | with_reducible exact tn16 | with_reducible exact tnK0 | with_reducible exact tnK4 | with_reducible exact tnK8 | with_reducible exact tnK12 | with_reducible exact tnK16 | with_reducible exact tnK20 | with_reducible exact tnK24 | with_reducible exact tnK28 | with_reducible exact tnK32 | with_reducible exact tnJA | with_reducible exact tnA | with_reducible exact upR_s | ((with_reducible apply upR_a); (first | decide | omega)) | ((with_reducible apply upR_b); (first | decide | omega)) | exact Nat.le_of_ble_eq_true rfl | with_reducible assumption | with_reducible exact rfl | omega | with_reducible apply wAnd | decide +kernel
    · rw [if_pos (by simp only [brC, Bool.and_eq_true, Bool.or_eq_true, decide_eq_true_eq, Bool.not_eq_true', decide_eq_false_iff_not]; exact h)]
      exact ⟨rfl, rfl⟩
    · rw [if_neg (by simp only [brC, Bool.and_eq_true, Bool.or_eq_true, decide_eq_true_eq, Bool.not_eq_true', decide_eq_false_iff_not]; intro h5; have := h h5.1; omega), Nat.or_zero]
      exact ⟨rfl, rfl⟩
  · have e : i = l.length := by omega
    subst e
    generalize orTo (brM l acc x y) l.length = B at *
    repeat' first | with_reducible apply wSeq | with_reducible apply wSkip | with_reducible apply wIf | with_reducible apply wAsI | ((with_reducible apply wInc); rfl) | with_reducible apply wKil | with_reducible apply wRI | with_reducible apply wB_e | (intro h; try simp only [Bool.and_eq_true, Bool.or_eq_true, Bool.not_eq_true', Bool.not_eq_false', Bool.and_eq_false_imp, Bool.or_eq_false_iff, decide_eq_true_eq, decide_eq_false_iff_not, Bool.not_true, Bool.not_false, Bool.true_eq_false, Bool.false_eq_true, Bool.not_not] at h) | with_reducible apply wN1 | with_reducible apply wN2 | with_reducible apply wN3 | with_reducible apply wN4 | with_reducible apply wN0 | with_reducible apply wE0 | with_reducible apply wXI | with_reducible apply wXB | with_reducible exact eK | ((with_reducible apply eL); rfl) | ((with_reducible apply eLR); rfl) | with_reducible exact eAN | with_reducible apply eSub | with_reducible apply eOr | with_reducible apply eNot16 | with_reducible apply eAndNot | with_reducible apply eBandN | with_reducible apply eLt | with_reducible apply eEq | with_reducible apply eNe | with_reducible apply eAnd | with_reducible apply eOrB | with_reducible apply eArr2 | with_reducible apply eFld2 | with_reducible apply R_Board_mask | with_reducible apply R_Board_from | with_reducible apply R_Board_to | with_reducible apply R_Board_freeFor | with_reducible exact K_Board_size (by assumption) | with_reducible exact N_Board_mask (by assumption) | with_reducible exact N_Board_from (by assumption) | with_reducible exact N_Board_to (by assumption) | with_reducible exact N_Board_freeFor (by assumption) | with_reducible exact Int.toNat_natCast _ | with_reducible exact tn0 | with_reducible exact tn1 | with_reducible exact tn2 | with_reducible exact tn3 | with_reducible exact tn4 | with_reducible exact tn5 | with_reducible exact tn6 | with_reducible exact tn7 | with_reducible exact tn8 | with_reducible exact tn9 | with_reducible exact tn10 | with_reducible exact tn11 | with_reducible exact tn12 | with_reducible exact tn13 | with_reducible exact tn14 | with_reducible exact tn15 | with_reducible exact tn16 | with_reducible exact tnK0 | with_reducible exact tnK4 | with_reducible exact tnK8 | with_reducible exact tnK12 | with_reducible exact tnK16 | with_reducible exact tnK20 | with_reducible exact tnK24 | with_reducible exact tnK28 | with_reducible exact tnK32 | with_reducible exact tnJA | with_reducible exact tnA | with_reducible exact upR_s | ((with_reducible apply upR_a); (first | decide | omega)) | ((with_reducible apply upR_b); (first | decide | omega)) | exact Nat.le_of_ble_eq_true rfl | with_reducible assumption | with_reducible exact rfl | omega | with_reducible apply wAnd | decide +kernel
    exact ⟨rfl, rfl⟩
