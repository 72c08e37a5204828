/-! ===== calls of both: spans ===== -/
theorem M_ovB {G U : Nat → Nat → Int} {set : Nat} {x y : Int} {b : Bool} (hset : set < 65536) (hx : rg x) (hy : rg y) (hok : mOk G) (hb : b = true ↔ ovP (G 180) set x y) : F_M_overlaps [pR 179, pI (Int32.ofInt (set : Int)), pI (Int32.ofInt x), pI (Int32.ofInt y)] (zM G U) = some (some (pI (zI b)), zM G U) := by
  apply wF_to
  refine W_overlaps hset hx hy hok (fun h => ⟨?_, rfl⟩) (fun h => ⟨?_, rfl⟩)
  · rw [hb.mpr h]
  · cases b with
    | false => rfl
    | true => exact absurd (hb.mp rfl) h
theorem ov_bool (g : Nat → Int) (set : Nat) (x y : Int) : ∃ b : Bool, b = true ↔ ovP g set x y := by
  by_cases h : ovP g set x y
  · exact ⟨true, fun _ => h, fun _ => rfl⟩
  · exact ⟨false, fun h2 => absurd h2 (by decide), fun h2 => absurd h2 h⟩
theorem mask_ok {ab : Int} (hab : 0 ≤ ab ∧ ab / 100 ≤ ab % 100 ∧ ab % 100 ≤ 15 ∧ 0 ≤ ab / 100) : bitsN (ab / 100).toNat (ab % 100 - ab / 100 + 1).toNat < 65536 := bitsN_lt (by omega)