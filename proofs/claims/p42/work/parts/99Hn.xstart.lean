/-! ===== what stands at the law's start ===== -/
theorem x_ref {t : Term} {args : Array Value} {s : State} (h : (Cond.isRef t).before args s = true) : ∃ v, t.eval args s none [] s = some v ∧ v.isRef = true := Cond.isRef_spec h
def sOnes : Term := .static "java/lang/Integer" "DigitOnes" "[B"
def sTens : Term := .static "java/lang/Integer" "DigitTens" "[B"
def sFmt : Term := .static "jdk/internal/util/Preconditions" "SIOOBE_FORMATTER" "Ljava/util/function/BiFunction;"
def kStr (i : Nat) : Term := .string RL (xIx i)
def sVal (i : Nat) : Term := .field (kStr i) "java/lang/String" "value" "[B"
abbrev gvn : List Cond := flatC (Jvm.Cond.and given_1 narrow_1)
set_option maxRecDepth 100000 in
theorem g_ones : ∀ j, j < 100 → Cond.eq (.elem sOnes (.int (Int32.ofNat j))) (.int (sb_b (48 + j % 10))) ∈ gvn := va_run (p := 12) (f := fun j => Cond.eq (.elem sOnes (.int (Int32.ofNat j))) (.int (sb_b (48 + j % 10)))) (by decide +kernel)
set_option maxRecDepth 100000 in
theorem g_tens : ∀ j, j < 100 → Cond.eq (.elem sTens (.int (Int32.ofNat j))) (.int (sb_b (48 + j / 10))) ∈ gvn := va_run (p := 115) (f := fun j => Cond.eq (.elem sTens (.int (Int32.ofNat j))) (.int (sb_b (48 + j / 10)))) (by decide +kernel)
set_option maxRecDepth 100000 in
theorem g_len : Cond.arrayOf sOnes .byte ∈ gvn ∧ Cond.eq (.length sOnes) (.int (Int32.ofNat 100)) ∈ gvn ∧ Cond.arrayOf sTens .byte ∈ gvn ∧ Cond.eq (.length sTens) (.int (Int32.ofNat 100)) ∈ gvn ∧ Cond.isRef sFmt ∈ gvn := by decide +kernel
set_option maxRecDepth 100000 in
theorem g_str : ∀ i, i < 2 → Cond.exactly (kStr i) "java/lang/String" ∈ gvn ∧ Cond.eq (.field (kStr i) "java/lang/String" "coder" "B") (.int 0) ∈ gvn ∧ Cond.arrayOf (sVal i) .byte ∈ gvn ∧ Cond.eq (.length (sVal i)) (.int (Int32.ofNat 1)) ∈ gvn ∧ ∀ j, j < 1 → Cond.eq (.elem (sVal i) (.int (Int32.ofNat j))) (.int (sb_b (xB i))) ∈ gvn := by decide +kernel
set_option maxRecDepth 100000 in
theorem g_ne : ∀ i, i < 2 → ∀ j, j < 2 → i ≠ j → Cond.not (Cond.eq (kStr i) (kStr j)) ∈ gvn ∨ Cond.not (Cond.eq (kStr j) (kStr i)) ∈ gvn := by decide +kernel
set_option maxRecDepth 100000 in
theorem g_tbl : (∀ y ∈ tPriv, Cond.privateMethod y ∈ lw_tbl) ∧ Cond.laysStatic "java/lang/Integer" "DigitOnes" "[B" ∈ lw_tbl ∧ Cond.laysStatic "java/lang/Integer" "DigitTens" "[B" ∈ lw_tbl ∧ Cond.laysStatic "jdk/internal/util/Preconditions" "SIOOBE_FORMATTER" "Ljava/util/function/BiFunction;" ∈ lw_tbl ∧ Cond.initialized "java/lang/Integer" ∈ lw_tbl ∧ Cond.initialized "jdk/internal/util/Preconditions" ∈ lw_tbl ∧ ∀ i, i < 2 → Cond.stringRef RL (xIx i) (xTx i) ∈ lw_tbl := by decide +kernel
theorem x_start {b : Nat} {s : State} {E : cEnv} (hts0 : ∀ w ∈ lw_tbl, w.before #[Value.ref b] s = true) (hgv : (Jvm.Cond.and given_1 narrow_1).before #[Value.ref b] s = true) (hfr : ∀ a : Nat, a < s.heap.size → ¬ cFree E a) (hst : cSt E s s.heap) : ∃ q, xFx E q s s.heap := by
  have hg := flat_of_before _ hgv
  obtain ⟨l1, l2, l3, l4, l5⟩ := g_len
  obtain ⟨t1, t2, t3, t4, t5, t6, t7⟩ := g_tbl
  obtain ⟨o, ho, hTo⟩ := va_Tof (tm := sOnes) (ty := .byte) (N := 100) (f := fun j => .int (sb_b (48 + j % 10))) (by decide) (hg _ l1) (va_eqt (hg _ l2)) (fun j hj => va_eqt (hg _ (g_ones j hj))) hfr
  obtain ⟨t, ht, hTt⟩ := va_Tof (tm := sTens) (ty := .byte) (N := 100) (f := fun j => .int (sb_b (48 + j / 10))) (by decide) (hg _ l3) (va_eqt (hg _ l4)) (fun j hj => va_eqt (hg _ (g_tens j hj))) hfr
  obtain ⟨v, hv, hvr⟩ := x_ref (hg _ l5)
  obtain ⟨adK, adV, ⟨hS, -⟩, hE⟩ := vk_Sof (s := s) (N := 2) (tm := kStr) (len := [1, 1]) (byt := [[120], [44]]) (A := cFree E) (fun i hi => by (rcases (by omega : i = 0 ∨ i = 1) with rfl | rfl) <;> decide) (fun i hi => hg _ (g_str i hi).1) (fun i hi => hg _ (g_str i hi).2.1) (fun i hi => hg _ (g_str i hi).2.2.1) (fun i hi => by
      have h := hg _ (g_str i hi).2.2.2.1
      (rcases (by omega : i = 0 ∨ i = 1) with rfl | rfl) <;> exact h) (fun i hi j hj => by
      have h := fun hj2 => hg _ ((g_str i hi).2.2.2.2 j hj2)
      (rcases (by omega : i = 0 ∨ i = 1) with rfl | rfl) <;> (have hj2 : j < 1 := hj) <;> (obtain rfl : j = 0 := by omega) <;> exact h hj2) (fun i j hi hj hij => (g_ne i hi j hj hij).imp (fun h => hg _ h) (fun h => hg _ h)) hfr
  refine ⟨((o, t), adK, adV), fun y hy => va_tabs (c := Cond.privateMethod y) rfl rfl (hts0 _ (t1 y hy)), hst, ⟨va_Zref (hts0 _ t2) (hts0 _ t5) ho hfr, hTo⟩, ⟨va_Zref (hts0 _ t3) (hts0 _ t5) ht hfr, hTt⟩, ⟨v, hvr, va_Zof (hts0 _ t4) (hts0 _ t6) hv hfr⟩, fun i hi => ?_⟩
  obtain ⟨k1, k2, k3, k4⟩ := hS i hi
  refine ⟨vk_R.of (hts0 _ (t7 i hi)) (hE i hi), k1, k2, k3, ?_⟩
  (rcases (by omega : i = 0 ∨ i = 1) with rfl | rfl)
  all_goals
    obtain ⟨cell, c1, c2, c3, c4, c5, c6, c7⟩ := k4
    refine ⟨cell, c1, c2, c3, c4, c5, fun j hj => ?_, c7⟩
    have h := c6 j hj
    obtain rfl : j = 0 := by omega
    exact h
