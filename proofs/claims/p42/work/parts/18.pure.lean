/-! ===== the pure side: integers, loops, the first state ===== -/
abbrev iI (z : Int) : Int32 := Int32.ofInt z
def okZ (z : Int) : Prop := -2147483648 ≤ z ∧ z < 2147483648
theorem iI_toInt {z : Int} (h : -2147483648 ≤ z ∧ z < 2147483648) : (iI z).toInt = z := by
  rw [show (iI z).toInt = z.bmod (2 ^ 32) from Int32.toInt_ofInt]
  exact Int.bmod_eq_of_le (by omega) (by omega)
theorem iI_toInt' (x : Int32) : iI x.toInt = x := Int32.ofInt_toInt x
theorem iI_add (a b : Int) : iI a + iI b = iI (a + b) := (Int32.ofInt_add a b).symm
theorem iI_sub (a b : Int) : iI a - iI b = iI (a - b) := (Int32.ofInt_sub a b).symm
theorem iI_mul (a b : Int) : iI a * iI b = iI (a * b) := (Int32.ofInt_mul a b).symm
theorem iI_neg (a : Int) : -iI a = iI (-a) := (Int32.ofInt_neg a).symm
theorem iI_lt {a b : Int} (ha : -2147483648 ≤ a ∧ a < 2147483648) (hb : -2147483648 ≤ b ∧ b < 2147483648) : (iI a < iI b) = (a < b) := by
  rw [Int32.lt_iff_toInt_lt, iI_toInt ha, iI_toInt hb]
theorem iI_le {a b : Int} (ha : -2147483648 ≤ a ∧ a < 2147483648) (hb : -2147483648 ≤ b ∧ b < 2147483648) : (iI a ≤ iI b) = (a ≤ b) := by
  rw [Int32.le_iff_toInt_le, iI_toInt ha, iI_toInt hb]
theorem iI_eq {a b : Int} (ha : -2147483648 ≤ a ∧ a < 2147483648) (hb : -2147483648 ≤ b ∧ b < 2147483648) : (iI a = iI b) = (a = b) := by
  apply propext
  constructor
  · intro h
    have := congrArg Int32.toInt h
    rwa [iI_toInt ha, iI_toInt hb] at this
  · intro h; rw [h]
theorem iI_nat {a : Int} (h : 0 ≤ a ∧ a < 2147483648) : (iI a).toNatClampNeg = a.toNat := by
  rw [Int32.toNatClampNeg, iI_toInt ⟨by omega, h.2⟩]
theorem iI_neg0 {a : Int} (h : -2147483648 ≤ a ∧ a < 2147483648) : (iI a < 0) = (a < 0) := by
  have := iI_lt (a := a) (b := 0) h (by omega)
  exact this
theorem iI_ix {a : Int} {n : Nat} (h : 0 ≤ a ∧ a < n) (hn : n ≤ 100000) : ¬ (iI a < 0 ∨ n ≤ (iI a).toNatClampNeg) := by
  rw [iI_neg0 (by omega), iI_nat (by omega)]
  omega
/-- one turn of a loop that goes on -/
def sStep (b u : sC) (L : pLo) (σ : pM) : Option (pLo × pM) := (b L σ).bind fun o => match o with
  | .inl q => (u q.1 q.2).bind fun o2 => match o2 with
    | .inl r => some r
    | _ => none
  | .inr (.inr (.inl q)) => (u q.1 q.2).bind fun o2 => match o2 with
    | .inl r => some r
    | _ => none
  | _ => none
theorem sIt_go {c : eB} {b u : sC} {N : Nat} {L L1 : pLo} {σ σ1 : pM} (h1 : c L σ = some (true, σ)) (h2 : sStep b u L σ = some (L1, σ1)) : sIt (N + 1) c b u L σ = sIt N c b u L1 σ1 := by
  simp only [sIt, h1, Option.bind_some, if_true]
  unfold sStep at h2
  cases hb : b L σ with
  | none => simp [hb] at h2
  | some o =>
    simp only [hb, Option.bind_some] at h2 ⊢
    match o, h2 with
    | .inl q, h2 =>
      cases hu : u q.1 q.2 with
      | none => simp [hu] at h2
      | some o2 =>
        simp only [hu, Option.bind_some] at h2 ⊢
        match o2, h2 with
        | .inl r, h2 => cases h2; rfl
    | .inr (.inr (.inl q)), h2 =>
      cases hu : u q.1 q.2 with
      | none => simp [hu] at h2
      | some o2 =>
        simp only [hu, Option.bind_some] at h2 ⊢
        match o2, h2 with
        | .inl r, h2 => cases h2; rfl
theorem sIt_steps {c : eB} {b u : sC} (f : Nat → pLo × pM) : ∀ (n N : Nat) (i : Nat), (∀ j, i ≤ j → j < i + n → c (f j).1 (f j).2 = some (true, (f j).2) ∧ sStep b u (f j).1 (f j).2 = some (f (j + 1))) → sIt (N + n) c b u (f i).1 (f i).2 = sIt N c b u (f (i + n)).1 (f (i + n)).2
  | 0, N, i, _ => rfl
  | n + 1, N, i, h => by
    obtain ⟨h1, h2⟩ := h i (Nat.le_refl i) (by omega)
    have hi := sIt_steps (c := c) (b := b) (u := u) f n N (i + 1) (fun j h1 h2 => h j (by omega) (by omega))
    rw [show i + (n + 1) = i + 1 + n by omega, ← hi, show N + (n + 1) = N + n + 1 by omega]
    exact sIt_go h1 h2
/-- a loop through the states f, to its end -/
theorem sWh_iter {c : eB} {b u : sC} (f : Nat → pLo × pM) (n : Nat) (hn : n < 1000000) (h : ∀ j, j < n → c (f j).1 (f j).2 = some (true, (f j).2) ∧ sStep b u (f j).1 (f j).2 = some (f (j + 1))) (he : c (f n).1 (f n).2 = some (false, (f n).2)) : sWh c b u (f 0).1 (f 0).2 = some (.inl (f n)) := by
  have h0 := sIt_steps (c := c) (b := b) (u := u) f n (1000000 - n) 0 (fun j h1 h2 => h j (by omega))
  rw [Nat.zero_add, show 1000000 - n + n = 1000000 by omega] at h0
  rw [sWh, h0]
  obtain ⟨m, hm⟩ : ∃ m, 1000000 - n = m + 1 := ⟨1000000 - n - 1, by omega⟩
  rw [hm]
  simp [sIt, he]
/-- a loop that is left in its turn n: by break or by return -/
theorem sWh_out {c : eB} {b u : sC} (f : Nat → pLo × pM) (n : Nat) (hn : n < 1000000) (h : ∀ j, j < n → c (f j).1 (f j).2 = some (true, (f j).2) ∧ sStep b u (f j).1 (f j).2 = some (f (j + 1))) (he : c (f n).1 (f n).2 = some (true, (f n).2)) :
    (∀ q, b (f n).1 (f n).2 = some (.inr (.inl q)) → sWh c b u (f 0).1 (f 0).2 = some (.inl q)) ∧ (∀ r, b (f n).1 (f n).2 = some (.inr (.inr (.inr r))) → sWh c b u (f 0).1 (f 0).2 = some (.inr (.inr (.inr r)))) := by
  have h0 := sIt_steps (c := c) (b := b) (u := u) f n (1000000 - n) 0 (fun j h1 h2 => h j (by omega))
  rw [Nat.zero_add, show 1000000 - n + n = 1000000 by omega] at h0
  obtain ⟨m, hm⟩ : ∃ m, 1000000 - n = m + 1 := ⟨1000000 - n - 1, by omega⟩
  refine ⟨fun q hq => ?_, fun r hr => ?_⟩
  · rw [sWh, h0, hm]
    simp [sIt, he, hq]
  · rw [sWh, h0, hm]
    simp [sIt, he, hr]
/-- memory by integers: every memory is of this form -/
def zM (G U : Nat → Nat → Int) : pM := (fun a b => Int32.ofInt (G a b), fun a b => Int64.ofInt (U a b))
def upZ (G : Nat → Nat → Int) (k j : Nat) (v : Int) : Nat → Nat → Int := fun a b => if a = k ∧ b = j then v else G a b
theorem up1_zM {G U : Nat → Nat → Int} {k j : Nat} {v : Int} : up1 (zM G U) k j (Int32.ofInt v) = zM (upZ G k j v) U := by
  refine Prod.ext (funext fun a => funext fun b => ?_) rfl
  show (if a = k ∧ b = j then Int32.ofInt v else Int32.ofInt (G a b)) = Int32.ofInt (if a = k ∧ b = j then v else G a b)
  split <;> rfl
theorem up2_zM {G U : Nat → Nat → Int} {k j : Nat} {v : Int} : up2 (zM G U) k j (Int64.ofInt v) = zM G (upZ U k j v) := by
  refine Prod.ext rfl (funext fun a => funext fun b => ?_)
  show (if a = k ∧ b = j then Int64.ofInt v else Int64.ofInt (U a b)) = Int64.ofInt (if a = k ∧ b = j then v else U a b)
  split <;> rfl
theorem zM_of (σ : pM) : σ = zM (fun a b => (σ.1 a b).toInt) (fun a b => (σ.2 a b).toInt) := by
  refine Prod.ext (funext fun a => funext fun b => ?_) (funext fun a => funext fun b => ?_)
  · exact (Int32.ofInt_toInt _).symm
  · exact (Int64.ofInt_toInt _).symm
theorem zM1 {G U : Nat → Nat → Int} {a b : Nat} : (zM G U).1 a b = Int32.ofInt (G a b) := rfl
theorem zM2 {G U : Nat → Nat → Int} {a b : Nat} : (zM G U).2 a b = Int64.ofInt (U a b) := rfl
/-- laying ints: from k to k2 -/
def layG (G : Nat → Nat → Int) (k k2 n : Nat) : Nat → Nat → Int := fun a b => if a = k2 ∧ b < n then G k b else G a b
theorem layG_0 {G : Nat → Nat → Int} {k k2 : Nat} : layG G k k2 0 = G := by
  funext a b
  simp [layG]
theorem layG_s {G : Nat → Nat → Int} {k k2 n : Nat} (h : k ≠ k2) : upZ (layG G k k2 n) k2 n (G k n) = layG G k k2 (n + 1) := by
  funext a b
  unfold upZ layG
  by_cases h1 : a = k2
  · subst h1
    by_cases h2 : b = n
    · subst h2; simp
    · simp only [h2, and_false, if_false]
      have : (b < n) = (b < n + 1) := propext (by omega)
      simp [this]
  · simp [h1]
theorem layG_at {G : Nat → Nat → Int} {k k2 n b : Nat} (h : k ≠ k2) : layG G k k2 n k b = G k b := by
  simp [layG, h]
theorem F_M_lays_eq {k k2 : Nat} (G U : Nat → Nat → Int) (h : k ≠ k2) (h1 : lenOf 0 k = 3940) (h2 : lenOf 0 k2 = 3940) : F_M_lays [pR k, pR k2] (zM G U) = some (none, zM (layG G k k2 3940) U) := by
  have hl := sWh_iter (c := mI .lt (lI 2) (kI 3940)) (b := sAst (lR 1) (lI 2) (aI 0 (lR 0) (lI 2))) (u := sInc 2 1) (fun i => ([some (pR k), some (pR k2), some (pI (Int32.ofInt (i : Int)))], zM (layG G k k2 i) U)) 3940 (by decide) (fun j hj => ?_) ?_
  · simp only [layG_0] at hl
    unfold F_M_lays pBody B_M_lays
    simp [sSeq, sI, kI, pL0, pEnt, pSet1, pClr, sKil, sRV, narK]
    erw [hl]
    simp [kil, narK]
  · have n1 := iI_ix (a := (j : Int)) (n := 3940) (by omega) (by omega)
    have n2 : (Int32.ofInt (j : Int)).toNatClampNeg = j := iI_nat (a := (j : Int)) (by omega)
    have n3 := iI_lt (a := (j : Int)) (b := 3940) (by omega) (by omega)
    rw [n2] at n1
    refine ⟨?_, ?_⟩
    · have n4 : (j : Int) < 3940 := by omega
      simp only [mI, lI, kI, pCb, Option.bind_some, List.getElem?_cons_zero, List.getElem?_cons_succ, n3, n4, decide_true]
    · simp [sStep, sAst, lR, lI, aI, h1, h2, n1, n2, zM1, up1_zM, layG_at h, layG_s h, sInc, pSet1, pClr, iI_add]
  · have n3 := iI_lt (a := (3940 : Int)) (b := 3940) (by omega) (by omega)
    simp [mI, lI, kI, pCb]
