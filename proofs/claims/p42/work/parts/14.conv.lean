/-! the plain machine's world out of the making machine's -/
def posL (k : Nat) : Nat := if k < 179 then k else k + 2
def posR (k : Nat) : Nat := if k = 900 then 179 else posL k
/-- the StringBuilder and its bytes -/
def SBP (E : cEnv) (w : va_W) : Prop := ∃ (v n m : Nat) (ml : Int32) (f : Nat → Int32), w = [(E.1 + 179, .inr (13, [.ref v, .int 0, .int ml, .int (nI n)])), (v, .inl (E.2.2.1.2.1, m, .inl f))] ∧ n ≤ m ∧ m ≤ 65536 ∧ sb_Fit f
/-- addresses: the class's objects one behind the other, the script, what X says -/
def E2 (E : cEnv) (b : Nat) (X : Nat → Nat) : pEnv := (fun k => if k = 5000 then b else if k = 900 then E.1 + 179 else if k < 179 then E.1 + k else X k, E.2.1, E.2.2.1, E.2.2.2, SBP E, cFree E)
def σOf (cs : cM) : pM := (fun k j => match cs[posL k]? with
  | some (.inl (_, _, f)) => f j
  | some (.inr (_, fs)) => (match fs[j]? with
    | some (some (.inl x)) => x
    | _ => 0)
  | none => 0, fun _ _ => 0)
def fchk (fs : List (Option pV)) (gs : List (Option Nat)) : Bool := fs.length == gs.length && (List.range gs.length).all fun j => match fs[j]?, gs[j]? with
  | some (some (.inl _)), some none => true
  | some (some (.inr (.inr p))), some (some d) => (decide (d < 179) && p == d) || (d == 900 && p == 179)
  | _, _ => false
def chk (cs : cM) (k : Nat) : Bool := match cs[posL k]?, kd[k]? with
  | some (.inl (t, n, _)), some (.inl (t', n')) => t == t' && n == n'
  | some (.inr (c, fs)), some (.inr (c', gs)) => c == c' && fchk fs gs
  | _, _ => false
theorem fchk_spec {E : cEnv} {b : Nat} {X : Nat → Nat} {f : Nat → Int32} {fs : List (Option pV)} {gs : List (Option Nat)} (h : fchk fs gs = true) (hf : ∀ j x, fs[j]? = some (some (.inl x)) → f j = x) : fs.map (cv E.1) = pfs (E2 E b X).1 f 0 gs := by
  simp only [fchk, Bool.and_eq_true, beq_iff_eq, List.all_eq_true, List.mem_range] at h
  refine List.ext_getElem? fun j => ?_
  rw [List.getElem?_map, pfs_get]
  by_cases hj : j < gs.length
  · have h1 := h.2 j hj
    cases hfs : fs[j]? with
    | none => rw [hfs] at h1; simp at h1
    | some o =>
      cases hgs : gs[j]? with
      | none => rw [hfs, hgs] at h1; simp at h1
      | some o2 =>
        rw [hfs, hgs] at h1
        rcases o with _ | x | x | x <;> rcases o2 with _ | dd <;> simp at h1
        · have := hf j x hfs
          simp [cv, pv, this]
        · rcases h1 with ⟨h0, h1⟩ | ⟨h0, h1⟩
          · subst h1; simp [cv, pv, cad, E2, h0, show ¬ x = 5000 by omega, show ¬ x = 900 by omega]
          · subst h0; subst h1; simp [cv, pv, cad, E2]
  · rw [List.getElem?_eq_none_iff.mpr (by rw [h.1]; omega), List.getElem?_eq_none_iff.mpr (by omega)]; rfl
theorem chk_spec {E : cEnv} {b : Nat} {X : Nat → Nat} {cs : cM} {k : Nat} (h : chk cs k = true) : ∃ (e : cEt) (q : pK), cs[posL k]? = some e ∧ kd[k]? = some q ∧ cEn E e = pE (E2 E b X) (σOf cs) k q := by
  unfold chk at h
  split at h
  · rename_i t n f t' n' h1 h2
    simp at h
    obtain ⟨rfl, rfl⟩ := h
    refine ⟨_, _, h1, h2, ?_⟩
    have hs : (σOf cs).1 k = f := by funext j; simp [σOf, h1]
    match t with
    | 0 => simp [cEn, pE, E2, hs]
    | 1 => simp [cEn, pE, E2, hs]
    | t + 2 => simp [cEn, pE, E2, σOf]
  · rename_i c fs c' gs h1 h2
    simp at h
    obtain ⟨rfl, h3⟩ := h
    refine ⟨_, _, h1, h2, ?_⟩
    show (Sum.inr (_, fs.map (cv E.1)) : va_E) = Sum.inr (_, pfs (E2 E b X).1 ((σOf cs).1 k) 0 gs)
    rw [fchk_spec (E := E) (b := b) (X := X) (f := (σOf cs).1 k) h3 (fun j x hx => by simp [σOf, h1, hx])]
  · cases h
/-- the cells of the class, and ghosts behind them -/
def cs0 : cM := blk_GangColumns 0 ++ (.inr (12, [some (pR (181 + 1)), some (pR (181 + 2)), some (pR (181 + 3)), some (pR (181 + 4)), some (pR (181 + 5)), some (pR (181 + 6)), some (pR (181 + 7)), some (pI 0), some (pI 0), some (pI 0), some (pR (181 + 8)), some (pR (181 + 9)), some (pR (181 + 10)), some (pI (Int32.ofInt (-1))), some (pI (Int32.ofInt (-1))), some (pI (Int32.ofInt (-1))), some (pI (Int32.ofInt (-1))), some (pI 0), some (pR (181 + 11)), some (pR (181 + 12)), some (pR (181 + 13)), some (pR (181 + 14)), some (pR (181 + 15)), some (pI 0), some (pR (181 + 16)), some (pI 0)]) :: [.inl (0, 3940, fun _ => 0), .inl (0, 3940, fun _ => 0), .inl (0, 3940, fun _ => 0), .inl (2, 16, fun _ => 0), .inl (2, 16, fun _ => 0), .inl (2, 16, fun _ => 0), .inl (1, 60, fun _ => 0), .inl (0, 4, fun _ => 0), .inl (0, 4, fun _ => 0), .inl (0, 4, fun _ => 0), .inl (0, 4, fun _ => 0), .inl (0, 4, fun _ => 0), .inl (0, 80, fun _ => 0), .inl (0, 80, fun _ => 0), .inl (0, 80, fun _ => 0), .inl (0, 80, fun _ => 0)])
theorem cs0_chk : (List.range 179).all (chk cs0) = true := by decide +kernel
theorem cs0_lo : ∀ k, k < 181 → cs0[k]? = (blk_GangColumns 0)[k]? := fun k hk => by
  unfold cs0
  rw [List.getElem?_append_left (by rw [len_GangColumns]; exact hk)]
theorem conv {E : cEnv} {b : Nat} {X : Nat → Nat} {H : Heap} (hX : ∀ k, X (10000 + k) ≠ 1) {ml : Int32} {f : Nat → Int32} (h1 : (blk_GangColumns 0)[179]? = some (.inr (13, [some (pR 180), some (pI 0), some (pI ml), some (pI 0)]))) (h2 : (blk_GangColumns 0)[180]? = some (.inl (1, 16, f))) (hf : sb_Fit f) (h : cHp E (blk_GangColumns 0) H) : pHp (E2 E b X) (σOf cs0) H := by
  have hc : ∀ k, k < 179 → chk cs0 k = true := fun k hk => List.all_eq_true.mp cs0_chk k (List.mem_range.mpr hk)
  have hxs : xsOf (E2 E b X).1 = [] := by
    unfold xsOf
    rw [List.filter_eq_nil_iff]
    intro k hk
    simp at hk
    have hX2 := hX k
    simp only [beq_iff_eq]
    show ¬ (if 10000 + k = 5000 then b else if 10000 + k = 900 then E.1 + 179 else if 10000 + k < 179 then E.1 + (10000 + k) else X (10000 + k)) = 1
    rw [if_neg (by omega), if_neg (by omega), if_neg (by omega)]
    exact hX2
  have hrl : rls (E2 E b X).1 = List.range 179 := by unfold rls; rw [hxs, List.append_nil]
  have key : ∀ (k : Nat) (q : Nat × va_E), (pW (E2 E b X) [(E.1 + 179, .inr (13, [.ref (E.1 + 180), .int 0, .int ml, .int (nI 0)])), (E.1 + 180, .inl (E.2.2.1.2.1, 16, .inl f))] (σOf cs0))[k]? = some q → (cWl E 0 (blk_GangColumns 0))[k]? = some q ∧ q.1 = E.1 + k := by
    intro k q hk
    unfold pW at hk
    rw [hrl] at hk
    by_cases hkl : k < 179
    · rw [List.getElem?_append_left (by rw [List.length_map, List.length_range]; exact hkl), List.getElem?_map, List.getElem?_range hkl] at hk
      obtain ⟨e, q0, g1, g2, g3⟩ := chk_spec (E := E) (b := b) (X := X) (hc k hkl)
      have hp : posL k = k := by unfold posL; rw [if_pos hkl]
      rw [hp, cs0_lo k (by omega)] at g1
      rw [cWl_at g1, g3]
      rw [Option.map_some, kdd_of g2] at hk
      injection hk with hk
      subst hk
      have ha : (E2 E b X).1 k = E.1 + k := by simp [E2, show ¬ k = 5000 by omega, show ¬ k = 900 by omega, hkl]
      exact ⟨by rw [ha], ha⟩
    · rw [List.getElem?_append_right (by rw [List.length_map, List.length_range]; omega), List.length_map, List.length_range] at hk
      have hk2 : k - 179 < 2 := (List.getElem?_eq_some_iff.mp hk).1
      rcases (show k = 179 ∨ k = 180 by omega) with rfl | rfl
      · cases hk
        exact ⟨by rw [cWl_at h1]; rfl, rfl⟩
      · cases hk
        exact ⟨by rw [cWl_at h2]; rfl, rfl⟩
  refine ⟨_, ⟨E.1 + 180, 0, 16, ml, f, rfl, by decide, by decide, hf⟩, fun k q hk => h.1 k q (key k q hk).1, ⟨fun i j p q hi hj hpq => ?_, fun k q hk => ?_⟩⟩
  · have h1 := (key i p hi).2
    have h2 := (key j q hj).2
    omega
  · have h1 := (key k q hk).2
    show E.1 ≤ q.1
    omega
def B_M_ctor : sC := sSeq (sSeq (sAst (gR 12 0 1 (lR 0)) (kI 2) (kI 1)) (sSeq (sAst (gR 12 0 1 (lR 0)) (kI 3) (kI 80)) (sSeq (sSeq (sSeq (sI 1 (kI 0)) (sWh (mI .lt (lI 1) (kI 8)) (sSeq (sAst (gR 12 0 1 (lR 0)) (bI (fun x y => x + y) (kI 8) (lI 1)) (kI 10)) (sAst (gR 12 0 1 (lR 0)) (bI (fun x y => x + y) (kI 16) (lI 1)) (kI 16))) (sInc 1 1))) (sKil [1])) (sSeq (sSeq (sSeq (sI 1 (kI 0)) (sWh (mI .lt (lI 1) (kI 12)) (sAst (gR 12 0 1 (lR 0)) (bI (fun x y => x + y) (kI 24) (bI (fun x y => x * y) (lI 1) (kI 6))) (kI (-1))) (sInc 1 1))) (sKil [1])) (sVd (vC 99 F_M_lays rN (aCR (gR 12 0 1 (lR 0)) (aCR (gR 12 2 3 (lR 0)) aN)))))))) sRV
