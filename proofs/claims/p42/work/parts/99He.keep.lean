/-! ===== the law's cases: a span is told ===== -/
theorem ln198 : lenOf 0 198 = 6 := by decide +kernel
theorem up_told {G U : Nat → Nat → Int} {i : Nat} {x v : Int32} {v' : Int} (hx : x.toNatClampNeg = i) (hv : v = Int32.ofInt v') : up1 (zM G U) 198 x.toNatClampNeg v = zM (upZ G 198 i v') U := by
  rw [hx, hv, up1_zM]
section KP
variable {p : Program} {l : Launch} {e : Env} {R : Room} {s : State} {m : MethodId} {args : Array Value} {below : List Frame} {meth : Method} {c : Code} {Q : State → Prop} {E0 : cEnv} {b k : Nat} {xs : Nat → Int32} {RT : Option pV → pM → Prop}
abbrev LKp (per bnd mst : Int) (n : Nat) (idl i v now : Int) (av bv fv tv is : Int) (a18 a19 : Option pV) : pLo := [some (pR 5000), some (pR 0), some (pR 196), some (pI (Int32.ofInt per)), some (pI (Int32.ofInt bnd)), some (pI (Int32.ofInt mst)), some (pR 197), some (pI (Int32.ofInt (n : Int))), some (pJ (Int64.ofInt idl)), none, some (pI (Int32.ofInt i)), some (pI (Int32.ofInt v)), some (pI (Int32.ofInt now)), some (pI (Int32.ofInt av)), some (pI (Int32.ofInt bv)), some (pI (Int32.ofInt fv)), some (pI (Int32.ofInt tv)), some (pI (Int32.ofInt is)), a18, a19, none, none, none]
theorem told6 (hw : lwR p l e R s m args below meth c Q E0 b k xs RT) {X : Nat → Nat} {cells slots n v : Nat} (hc : cells ≤ R.cells) (hs : slots ≤ R.slots) {per bnd mst idl i nv av bv fv tv is kv : Int} {G0 U : Nat → Nat → Int} (hv : v < 2 ^ 24) (hkve : kv = ((v / 2 ^ 17 % 2 ^ 3 : Nat) : Int) - 1) (kk : ∀ Gb : Nat → Nat → Int, (∀ x, x ≠ 198 → Gb x = G0 x) → (Gb 198 0 = av ∧ Gb 198 1 = bv ∧ Gb 198 2 = fv ∧ Gb 198 3 = tv ∧ Gb 198 4 = kv ∧ Gb 198 5 = nv) → PG p l e R s m args below meth c Q E0 b X cells slots 401 (LKp per bnd mst n idl i (v : Int) nv av bv fv tv is none none, [pR 198], zM Gb U)) : PG p l e R s m args below meth c Q E0 b X cells slots 363 (LKp per bnd mst n idl i (v : Int) nv av bv fv tv is none none, [pR 198], zM G0 U) := by
  have hr := hw.2.1 X cells slots hc hs
  have hkv : (Int32.ofInt (v : Int) >>> ((Int8.ofInt 17).toInt32 &&& 31) &&& (Int8.ofInt 7).toInt32) - Int32.ofInt 1 = Int32.ofInt kv := by
    rw [hkve, ← nI_iI v, show (Int8.ofInt 17).toInt32 = nI 17 from rfl, pk_shrN (by omega) (nI 17 &&& 31) 17 (by decide), show (Int8.ofInt 7).toInt32 = nI 7 from rfl, pk_andN (by omega) 3 (by decide), nI_iI, iI_sub]
  refine hr.1 _ _ _ _ _ _ dL_law_363 ⟨rfl, _, _, rfl, rfl, ?_⟩
  refine hr.1 _ _ _ _ _ _ dL_law_364 ⟨rfl, ?_⟩
  refine hr.1 _ _ _ _ _ _ dL_law_365 ⟨rfl, _, rfl, ?_⟩
  refine hr.1 _ _ _ _ _ _ dL_law_367 ⟨rfl, 198, _, _, _, rfl, by rw [ln198]; decide, ?_⟩
  rw [up_told (i := 0) (v' := av) (by decide) rfl]
  refine hr.1 _ _ _ _ _ _ dL_law_368 ⟨rfl, _, _, rfl, rfl, ?_⟩
  refine hr.1 _ _ _ _ _ _ dL_law_369 ⟨rfl, ?_⟩
  refine hr.1 _ _ _ _ _ _ dL_law_370 ⟨rfl, _, rfl, ?_⟩
  refine hr.1 _ _ _ _ _ _ dL_law_372 ⟨rfl, 198, _, _, _, rfl, by rw [ln198]; decide, ?_⟩
  rw [up_told (i := 1) (v' := bv) (by decide) rfl]
  refine hr.1 _ _ _ _ _ _ dL_law_373 ⟨rfl, _, _, rfl, rfl, ?_⟩
  refine hr.1 _ _ _ _ _ _ dL_law_374 ⟨rfl, ?_⟩
  refine hr.1 _ _ _ _ _ _ dL_law_375 ⟨rfl, _, rfl, ?_⟩
  refine hr.1 _ _ _ _ _ _ dL_law_377 ⟨rfl, 198, _, _, _, rfl, by rw [ln198]; decide, ?_⟩
  rw [up_told (i := 2) (v' := fv) (by decide) rfl]
  refine hr.1 _ _ _ _ _ _ dL_law_378 ⟨rfl, _, _, rfl, rfl, ?_⟩
  refine hr.1 _ _ _ _ _ _ dL_law_379 ⟨rfl, ?_⟩
  refine hr.1 _ _ _ _ _ _ dL_law_380 ⟨rfl, _, rfl, ?_⟩
  refine hr.1 _ _ _ _ _ _ dL_law_382 ⟨rfl, 198, _, _, _, rfl, by rw [ln198]; decide, ?_⟩
  rw [up_told (i := 3) (v' := tv) (by decide) rfl]
  refine hr.1 _ _ _ _ _ _ dL_law_383 ⟨rfl, _, _, rfl, rfl, ?_⟩
  refine hr.1 _ _ _ _ _ _ dL_law_384 ⟨rfl, ?_⟩
  refine hr.1 _ _ _ _ _ _ dL_law_385 ⟨rfl, _, rfl, ?_⟩
  refine hr.1 _ _ _ _ _ _ dL_law_387 ⟨rfl, ?_⟩
  refine hr.1 _ _ _ _ _ _ dL_law_389 ⟨rfl, _, _, _, rfl, ?_⟩
  refine hr.1 _ _ _ _ _ _ dL_law_390 ⟨rfl, ?_⟩
  refine hr.1 _ _ _ _ _ _ dL_law_392 ⟨rfl, _, _, _, rfl, ?_⟩
  refine hr.1 _ _ _ _ _ _ dL_law_393 ⟨rfl, ?_⟩
  refine hr.1 _ _ _ _ _ _ dL_law_394 ⟨rfl, _, _, _, rfl, ?_⟩
  refine hr.1 _ _ _ _ _ _ dL_law_395 ⟨rfl, 198, _, _, _, rfl, by rw [ln198]; decide, ?_⟩
  rw [up_told (i := 4) (v' := kv) (by decide) hkv]
  refine hr.1 _ _ _ _ _ _ dL_law_396 ⟨rfl, _, _, rfl, rfl, ?_⟩
  refine hr.1 _ _ _ _ _ _ dL_law_397 ⟨rfl, ?_⟩
  refine hr.1 _ _ _ _ _ _ dL_law_398 ⟨rfl, _, rfl, ?_⟩
  refine hr.1 _ _ _ _ _ _ dL_law_400 ⟨rfl, 198, _, _, _, rfl, by rw [ln198]; decide, ?_⟩
  rw [up_told (i := 5) (v' := nv) (by decide) rfl]
  refine kk _ (fun x hx => ?_) ⟨rfl, rfl, rfl, rfl, rfl, rfl⟩
  funext y
  simp [upZ, hx]
end KP
