/-! ===== small numbers of the law's script ===== -/
theorem eShV {L : pLo} {σ : pM} {a : eI} {v q : Nat} {z : Int} (ha : a L σ = some (Int32.ofInt (v : Int), σ)) (hs : ((Int32.ofInt z &&& 31).toBitVec.smod 32).toNat = q) (hv : v < 2 ^ 31) : bI (fun x y => x >>> (y &&& 31)) a (kI z) L σ = some (Int32.ofInt ((v / 2 ^ q : Nat) : Int), σ) := by
  simp only [bI, kI, ha, Option.bind_some]
  rw [← nI_iI v, pk_shrN hv _ q hs, nI_iI]
theorem eAnV {L : pLo} {σ : pM} {a : eI} {v q : Nat} {z : Int} (ha : a L σ = some (Int32.ofInt (v : Int), σ)) (hm : (Int32.ofInt z).toBitVec.toNat = 2 ^ q - 1) (hv : v < 2 ^ 31) : bI (fun x y => x &&& y) a (kI z) L σ = some (Int32.ofInt ((v % 2 ^ q : Nat) : Int), σ) := by
  simp only [bI, kI, ha, Option.bind_some]
  rw [← nI_iI v, pk_andN (by omega) q hm, nI_iI]
theorem eRmV {L : pLo} {σ : pM} {a b : eI} {v d : Nat} (ha : a L σ = some (Int32.ofInt (v : Int), σ)) (hb : b L σ = some (Int32.ofInt (d : Int), σ)) (hv : v < 2 ^ 31) (h0 : 0 < d) (hd : d < 2 ^ 31) : dI (fun x y => x - x / y * y) a b L σ = some (Int32.ofInt ((v % d : Nat) : Int), σ) := by
  have := eRem ha hb (by omega) (by omega)
  rw [this, ← Int.natCast_emod]
theorem eAdV {L : pLo} {σ : pM} {a : eI} {v : Nat} {z : Int} (ha : a L σ = some (Int32.ofInt (v : Int), σ)) : bI (fun x y => x + y) (kI z) a L σ = some (Int32.ofInt (z + (v : Int)), σ) := eAdd eK ha
section TKS
variable {p : Program} {l : Launch} {e : Env} {R : Room} {s : State} {m : MethodId} {args : Array Value} {below : List Frame} {meth : Method} {c : Code} {Q : State → Prop} {E0 : cEnv} {b k : Nat} {xs : Nat → Int32} {RT : Option pV → pM → Prop}
/-- the law's locals between two ticks' loops -/
abbrev L0 (per bnd mst : Int) (n : Nat) (idl i v now : Int) (a13 : Option pV) : pLo := [some (pR 5000), some (pR 0), some (pR 196), some (pI (Int32.ofInt per)), some (pI (Int32.ofInt bnd)), some (pI (Int32.ofInt mst)), some (pR 197), some (pI (Int32.ofInt (n : Int))), some (pJ (Int64.ofInt idl)), none, some (pI (Int32.ofInt i)), some (pI (Int32.ofInt v)), some (pI (Int32.ofInt now)), a13, none, none, none, none, none, none, none, none, none]
theorem c_LN {per bnd mst idl i now : Int} {n j v : Nat} {σ : pM} (hv : v < 2 ^ 24) (hj : j < 100) : C_LN (L0 per bnd mst n idl i (v : Int) now (some (pI (Int32.ofInt (j : Int))))) σ = some (decide ((j : Int) < 1 + ((v / 2 ^ 20 % 2 ^ 2 : Nat) : Int)), σ) := by
  unfold C_LN
  exact eLt (eL rfl) (eAdV (eAnV (eShV (eL rfl) (by decide) (by omega)) (by decide) (by omega))) (by unfold rg; omega) (by unfold rg; omega)
set_option maxHeartbeats 2000000 in
theorem ticks_G (hw : lwR p l e R s m args below meth c Q E0 b k xs RT) {X : Nat → Nat} {cells slots cn bN n v : Nat} {sp : Nat → Nat → Int} {per mst idl i now : Int} {G U : Nat → Nat → Int} (hwi : LWI cn bN n sp per mst idl G U) (hcn : cn ≤ 590) (hnow : G 180 0 ≤ 9000) (hbN : bN < 8) (hv : v < 2 ^ 24) (hc : cells + 4 ≤ R.cells) (hs : slots + 64 ≤ R.slots)
    (kk : ∀ (X' : Nat → Nat) (G' U' : Nat → Nat → Int) (id' tt : Int) (c' : Nat), c' ≤ cn + 4 → LWI c' bN n sp per mst id' G' U' → G' 180 0 ≤ G 180 0 + 4 → G' 180 1 = G 180 1 → PG p l e R s m args below meth c Q E0 b X' (cells + 4) (slots + 64) 1271 (L0 per (bN : Int) mst n id' i (v : Int) now (some (pI (Int32.ofInt tt))), [], zM G' U')) : PG p l e R s m args below meth c Q E0 b X cells slots 595 (L0 per (bN : Int) mst n idl i (v : Int) now none, [], zM G U) := by
  have hw2 := hw
  obtain ⟨hC, hRu, hE, hb0⟩ := hw2
  have hr := hRu X cells slots (by omega) (by omega)
  obtain ⟨pB, pC, sLM⟩ := s_LM hr rfl
  refine sx_wp sLM ?_
  unfold B_LM
  refine wAsI eK (Nat.le_of_ble_eq_true rfl) ?_
  have hm : v / 2 ^ 20 % 2 ^ 2 < 4 := by omega
  have hloop : ∀ (q j : Nat), j + q = 1 + v / 2 ^ 20 % 2 ^ 2 → ∀ (X : Nat → Nat) (G' U' : Nat → Nat → Int) (id' : Int), LWI (cn + j) bN n sp per mst id' G' U' → G' 180 0 = G 180 0 + (j : Int) → G' 180 1 = G 180 1 → PG p l e R s m args below meth c Q E0 b X (cells + j) (slots + 16 * j) 598 (L0 per (bN : Int) mst n id' i (v : Int) now (some (pI (Int32.ofInt (j : Int)))), [], zM G' U') := by
    intro q
    induction q with
    | zero =>
      intro j hj X G' U' id' h1 h2 h3
      have hr := hRu X (cells + j) (slots + 16 * j) (by omega) (by omega)
      refine xb_wp (s_LN hr rfl) ?_
      refine ⟨false, zM G' U', ?_, fun h => (by cases h), fun _ => pG_widen (by omega) (by omega) (kk X G' U' id' (j : Int) (cn + j) (by omega) h1 (by omega) h3)⟩
      rw [c_LN (j := j) (v := v) hv (by omega), show decide ((j : Int) < 1 + ((v / 2 ^ 20 % 2 ^ 2 : Nat) : Int)) = false from decide_eq_false (by omega)]
    | succ q ih =>
      intro j hj X G' U' id' h1 h2 h3
      have hr := hRu X (cells + j) (slots + 16 * j) (by omega) (by omega)
      refine xb_wp (s_LN hr rfl) ?_
      refine ⟨true, zM G' U', ?_, fun _ => ?_, fun h => (by cases h)⟩
      · show C_LN _ _ = _
        rw [c_LN (j := j) (v := v) hv (by omega), show decide ((j : Int) < 1 + ((v / 2 ^ 20 % 2 ^ 2 : Nat) : Int)) = true from decide_eq_true (by omega)]
      refine tick_G hw h1 (by omega) (by omega) hbN (by omega) (by omega) (fun X2 G2 U2 id2 k1 k2 k3 => ?_)
      have hr2 := hRu X2 (cells + j + 1) (slots + 16 * j + 16) (by omega) (by omega)
      refine hr2.1 _ _ _ _ _ _ dL_law_1265 ⟨rfl, _, rfl, ?_⟩
      rw [iI_add]
      refine hr2.1 _ _ _ _ _ _ dL_law_1268 ⟨rfl, 598, rfl, ?_⟩
      have := ih (j + 1) (by omega) X2 G2 U2 id2 (by rw [← Nat.add_assoc]; exact k1) (by rw [k2, h2]; omega) (k3.trans h3)
      exact this
  exact hloop (1 + v / 2 ^ 20 % 2 ^ 2) 0 (by omega) X G U idl hwi (by omega) rfl
end TKS
