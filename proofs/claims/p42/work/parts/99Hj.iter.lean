/-! ===== one turn of the law's loop ===== -/
theorem cell_in : ∀ z : Fin 28, ¬ (Int32.ofInt ((z.1 : Nat) : Int) < 0) ∧ Int32.ofInt ((z.1 : Nat) : Int) * 9151 = Int32.ofInt (((z.1 * 9151 : Nat)) : Int) := by decide +kernel
theorem and_v (x : Int32) : ∃ v : Nat, v < 2 ^ 24 ∧ x &&& 16777215 = Int32.ofInt (v : Int) := by
  refine ⟨(x &&& 16777215).toBitVec.toNat, ?_, ?_⟩
  · rw [Int32.toBitVec_and, BitVec.toNat_and]
    have := Nat.and_le_right (n := x.toBitVec.toNat) (m := (16777215 : Int32).toBitVec.toNat)
    have e : (16777215 : Int32).toBitVec.toNat = 16777215 := by decide
    omega
  · apply Int32.toBitVec_inj.1
    apply BitVec.eq_of_toNat_eq
    show _ = (BitVec.ofInt 32 _).toNat
    rw [BitVec.ofInt_natCast, BitVec.toNat_ofNat]
    have := (x &&& 16777215).toBitVec.isLt
    omega
theorem cell_v (k : Nat) (xs : Nat → Int32) {z : Nat} (hz : z < 28) : ∃ v : Nat, v < 2 ^ 24 ∧ cellV k xs (Int32.ofInt (z : Int)) = Int32.ofInt (v : Int) := by
  unfold cellV
  by_cases h : Int32.ofInt (z : Int) < Int32.ofNat k
  · rw [if_pos h]
    exact and_v _
  · rw [if_neg h]
    exact ⟨z * 9151, by omega, (cell_in ⟨z, hz⟩).2⟩
theorem eQ {L : pLo} {σ : pM} {k : Nat} {xs : Nat → Int32} {a : eR} {i : eI} {z : Nat} {v : Int} (ha : a L σ = some (5000, σ)) (hi : i L σ = some (Int32.ofInt (z : Int), σ)) (hz : z < 28) (hv : cellV k xs (Int32.ofInt (z : Int)) = Int32.ofInt v) : qC k xs a i L σ = some (Int32.ofInt v, σ) := by
  simp only [qC, ha, hi, Option.bind_some]
  rw [if_pos ⟨trivial, (cell_in ⟨z, hz⟩).1⟩, hv]
section ITE
variable {p : Program} {l : Launch} {e : Env} {R : Room} {s : State} {m : MethodId} {args : Array Value} {below : List Frame} {meth : Method} {c : Code} {Q : State → Prop} {E0 : cEnv} {b k : Nat} {xs : Nat → Int32} {RT : Option pV → pM → Prop}
/-- the law's locals at its loop's head -/
abbrev LH (per bnd mst : Int) (n : Nat) (idl i : Int) : pLo := [some (pR 5000), some (pR 0), some (pR 196), some (pI (Int32.ofInt per)), some (pI (Int32.ofInt bnd)), some (pI (Int32.ofInt mst)), some (pR 197), some (pI (Int32.ofInt (n : Int))), some (pJ (Int64.ofInt idl)), none, some (pI (Int32.ofInt i)), none, none, none, none, none, none, none, none, none, none, none, none]
set_option maxHeartbeats 2000000 in
theorem iter_G (hw : lwR p l e R s m args below meth c Q E0 b k xs RT) {q : xA} (hq : lwQ E0 R s q) {X : Nat → Nat} {cells slots cn bN n i : Nat} {sp : Nat → Nat → Int} {per mst idl : Int} {G U : Nat → Nat → Int} (hwi : LWI cn bN n sp per mst idl G U) (hi : i < 24) (hcn : cn ≤ 500) (hnow : G 180 0 ≤ 5000) (hct : G 180 1 < 80) (hbN : bN < 8) (hc : cells + 28 ≤ R.cells) (hs : slots + 808 ≤ R.slots)
    (kk : ∀ (X' : Nat → Nat) (n' : Nat) (sp' : Nat → Nat → Int) (id' : Int) (G' U' : Nat → Nat → Int) (c' : Nat), c' ≤ cn + 15 → LWI c' bN n' sp' per mst id' G' U' → G' 180 0 ≤ G 180 0 + 4 → G' 180 1 ≤ G 180 1 + 1 → PG p l e R s m args below meth c Q E0 b X' (cells + 28) (slots + 808) 144 (LH per (bN : Int) mst n' id' ((i + 1 : Nat) : Int), [], zM G' U')) : PG p l e R s m args below meth c Q E0 b X cells slots 144 (LH per (bN : Int) mst n idl (i : Int), [], zM G U) := by
  have hw2 := hw
  obtain ⟨hC, hRu, hE, hb0⟩ := hw2
  have hok : ∀ X, pOkE (E2 E0 b X) := fun X => hE
  have hg := hwi.1
  have hr := hRu X cells slots (by omega) (by omega)
  refine xb_wp (s_LC hr rfl) ?_
  refine ⟨true, zM G U, ?_, fun _ => ?_, fun h => (by cases h)⟩
  · show C_LC _ _ = _
    unfold C_LC
    rw [eLt (x := (i : Int)) (y := 24) (eL rfl) eK (by unfold rg; omega) (by unfold rg; omega), decide_eq_true (by omega)]
  obtain ⟨v, hv, hcell⟩ := cell_v k xs (z := 4 + i) (by omega)
  have h7 := xr_count hg (t := 7) (by decide)
  rw [show cntV (G 180) (G 168 0) 7 = G 180 0 from rfl] at h7
  simp only [Int.cast_ofNat_Int] at h7
  obtain ⟨pB, pC, sLD⟩ := s_LD hr rfl ((ok_X_count (hok X)).mono (by decide))
  refine sx_wp sLD ?_
  unfold B_LD
  refine wSeq (wAsI (x := (v : Int)) (eQ (z := 4 + i) (eLR rfl) (by have := eAdd (x := 4) (y := (i : Int)) (L := LH per (bN : Int) mst n idl (i : Int)) (σ := zM G U) (a := kI 4) (b := lI 10) eK (eL rfl); rw [show (((4 + i : Nat)) : Int) = 4 + (i : Int) by omega]; exact this) (by omega) hcell) (Nat.le_of_ble_eq_true rfl) ?_)
  refine wAsI (x := G 180 0) (eCI (eAR (eLR rfl) (eAI eK eAN)) ckx0 h7) (Nat.le_of_ble_eq_true rfl) ?_
  show PG p l e R s m args below meth c Q E0 b X cells slots 169 (L0 per (bN : Int) mst n idl (i : Int) (v : Int) (G 180 0) none, [], zM G U)
  refine s_LE hr rfl _ [] _ _ _ (by decide) (eRmV (v := v) (d := 6) (eL rfl) rfl (by omega) (by decide) (by decide)) ?_
  have hend : ∀ (X' : Nat → Nat) (n' : Nat) (sp' : Nat → Nat → Int) (G' U' : Nat → Nat → Int) (c' : Nat), c' ≤ cn + 11 → LWI c' bN n' sp' per mst idl G' U' → G' 180 0 = G 180 0 → G' 180 1 ≤ G 180 1 + 1 → PG p l e R s m args below meth c Q E0 b X' (cells + 24) (slots + 744) 595 (L0 per (bN : Int) mst n' idl (i : Int) (v : Int) (G 180 0) none, [], zM G' U') := by
    intro X' n' sp' G' U' c' hc' h1 h2 h3
    refine ticks_G hw h1 (by omega) (by omega) hbN hv (by omega) (by omega) (fun X2 G2 U2 id2 tt c2 hc2 k1 k2 k3 => ?_)
    have hr2 := hRu X2 (cells + 24 + 4) (slots + 744 + 64) (by omega) (by omega)
    refine hr2.1 _ _ _ _ _ _ dL_law_1271 ⟨rfl, _, rfl, ?_⟩
    rw [iI_add]
    refine hr2.1 _ _ _ _ _ _ dL_law_1274 ⟨rfl, 144, rfl, ?_⟩
    refine hr2.2 _ _ (LH per (bN : Int) mst n' id2 ((i + 1 : Nat) : Int)) _ _ rfl (fun j y hj => ?_) (kk X2 n' sp' id2 G2 U2 c2 (by omega) k1 (by omega) (by omega))
    match j, hj with
    | 0, hj => exact hj
    | 1, hj => exact hj
    | 2, hj => exact hj
    | 3, hj => exact hj
    | 4, hj => exact hj
    | 5, hj => exact hj
    | 6, hj => exact hj
    | 7, hj => exact hj
    | 8, hj => exact hj
    | 9, hj => cases hj
    | 10, hj => exact hj
    | 11, hj => cases hj
    | 12, hj => cases hj
    | 13, hj => cases hj
    | 14, hj => cases hj
    | 15, hj => cases hj
    | 16, hj => cases hj
    | 17, hj => cases hj
    | 18, hj => cases hj
    | 19, hj => cases hj
    | 20, hj => cases hj
    | 21, hj => cases hj
    | 22, hj => cases hj
    | j + 23, hj => simp at hj
  have hjob : PG p l e R s m args below meth c Q E0 b X cells slots 208 (L0 per (bN : Int) mst n idl (i : Int) (v : Int) (G 180 0) none, [], zM G U) :=
    job_G hw hq hwi (by omega) hct hbN hv (by omega) (by omega) (fun G' U' k1 k2 k3 => pG_widen (by omega) (by omega) (hend X n sp G' U' (cn + 1) (by omega) k1 k2 (by omega)))
  have h6 : v % 6 < 6 := Nat.mod_lt _ (by decide)
  refine hr.1 _ _ _ _ _ _ dL_law_174 ⟨_, [], rfl, ?_⟩
  generalize v % 6 = r at h6 ⊢
  match r, h6 with
  | 0, _ => exact Or.inr ⟨208, 34, by decide, by decide, rfl, rfl, hjob⟩
  | 1, _ => exact Or.inr ⟨208, 34, by decide, by decide, rfl, rfl, hjob⟩
  | 2, _ => exact Or.inr ⟨208, 34, by decide, by decide, rfl, rfl, hjob⟩
  | 3, _ =>
    refine Or.inr ⟨266, 92, by decide, by decide, rfl, rfl, ?_⟩
    exact keep_G hw hwi rfl (by omega) (by omega) hbN hv (by omega) (by omega) (fun X' n' sp' G' U' k1 k2 k3 => pG_widen (by omega) (by omega) (hend X' n' sp' G' U' (cn + 1) (by omega) k1 k2 (by omega)))
  | 4, _ =>
    refine Or.inr ⟨471, 297, by decide, by decide, rfl, rfl, ?_⟩
    exact off_G hw hwi (by omega) hbN hv (by omega) (by omega) (fun G' U' k1 k2 k3 => pG_widen (by omega) (by omega) (hend X n sp G' U' (cn + 1) (by omega) k1 k2 (by omega)))
  | 5, _ =>
    refine Or.inl ⟨561, Or.inr (by decide), rfl, ?_⟩
    exact think_G hw hq hwi (by omega) hct hbN hv (by omega) (by omega) (fun G' U' k1 k2 k3 => hend X n sp G' U' (cn + 11) (by omega) k1 k2 (by omega))
  | r + 6, h => omega
theorem loop_G (hw : lwR p l e R s m args below meth c Q E0 b k xs RT) {qx : xA} (hq : lwQ E0 R s qx) {bN : Nat} {per mst : Int} (hbN : bN < 8)
    (kk : ∀ (X' : Nat → Nat) (n' : Nat) (sp' : Nat → Nat → Int) (id' : Int) (G' U' : Nat → Nat → Int) (c' cells' slots' : Nat), cells' ≤ R.cells → slots' ≤ R.slots → c' ≤ 500 → LWI c' bN n' sp' per mst id' G' U' → G' 180 0 ≤ 5000 → G' 180 1 < 80 → PG p l e R s m args below meth c Q E0 b X' cells' slots' 1277 (LH per (bN : Int) mst n' id' 24, [], zM G' U')) : ∀ (q i : Nat), i + q = 24 → ∀ (X : Nat → Nat) (cells slots cn n : Nat) (sp : Nat → Nat → Int) (idl : Int) (G U : Nat → Nat → Int), LWI cn bN n sp per mst idl G U → cn ≤ 16 + 15 * i → G 180 0 ≤ 4 * (i : Int) → G 180 1 ≤ (i : Int) → cells + 28 * q ≤ R.cells → slots + 808 * q ≤ R.slots → PG p l e R s m args below meth c Q E0 b X cells slots 144 (LH per (bN : Int) mst n idl (i : Int), [], zM G U) := by
  intro q
  induction q with
  | zero =>
    intro i hi X cells slots cn n sp idl G U h1 h2 h3 h4 h5 h6
    obtain rfl : i = 24 := by omega
    have hr := hw.2.1 X cells slots (by omega) (by omega)
    refine xb_wp (s_LC hr rfl) ?_
    refine ⟨false, zM G U, ?_, fun h => (by cases h), fun _ => kk X n sp idl G U cn cells slots (by omega) (by omega) (by omega) h1 (by omega) (by omega)⟩
    unfold C_LC
    rw [eLt (x := (24 : Int)) (y := 24) (eL rfl) eK (by unfold rg; omega) (by unfold rg; omega), decide_eq_false (by omega)]
  | succ q ih =>
    intro i hi X cells slots cn n sp idl G U h1 h2 h3 h4 h5 h6
    have e5 : cells + 28 ≤ R.cells := Nat.le_trans (Nat.add_le_add_left (Nat.le_mul_of_pos_right 28 (Nat.succ_pos q)) cells) h5
    have e6 : slots + 808 ≤ R.slots := Nat.le_trans (Nat.add_le_add_left (Nat.le_mul_of_pos_right 808 (Nat.succ_pos q)) slots) h6
    have f5 : cells + 28 + 28 * q ≤ R.cells := by
      rw [Nat.add_assoc, Nat.add_comm 28 (28 * q), ← Nat.mul_succ]
      exact h5
    have f6 : slots + 808 + 808 * q ≤ R.slots := by
      rw [Nat.add_assoc, Nat.add_comm 808 (808 * q), ← Nat.mul_succ]
      exact h6
    clear h5 h6
    refine iter_G hw hq h1 (by omega) (by omega) (by omega) (by omega) hbN e5 e6 (fun X' n' sp' id' G' U' c' k1 k2 k3 k4 => ?_)
    clear e5 e6
    exact ih (i + 1) (by omega) X' _ _ c' n' sp' id' G' U' k2 (by clear f5 f6; omega) (by clear f5 f6; omega) (by clear f5 f6; omega) f5 f6
end ITE
