/-! ===== the law's cases: thoughts ===== -/
theorem eOrFF {L : pLo} {σ τ υ : pM} {a b : eB} (ha : a L σ = some (false, τ)) (hb : b L τ = some (false, υ)) : bOr a b L σ = some (false, υ) := by
  simp only [bOr, ha, hb, Option.bind_some]
  simp
theorem eJNeT {L : pLo} {σ τ υ : pM} {x : Int} {a b : eJ} (ha : a L σ = some (Int64.ofInt x, τ)) (hb : b L τ = some (Int64.ofInt x, υ)) : mJ .ne a b L σ = some (false, υ) := by
  simp only [mJ, ha, hb, Option.bind_some, pCj]
  simp
section THK
variable {p : Program} {l : Launch} {e : Env} {R : Room} {s : State} {m : MethodId} {args : Array Value} {below : List Frame} {meth : Method} {c : Code} {Q : State → Prop} {E0 : cEnv} {b k : Nat} {xs : Nat → Int32} {RT : Option pV → pM → Prop}
set_option maxHeartbeats 2000000 in
theorem think_G (hw : lwR p l e R s m args below meth c Q E0 b k xs RT) {q : xA} (hq : lwQ E0 R s q) {X : Nat → Nat} {cells slots cn bN n v : Nat} {sp : Nat → Nat → Int} {per mst idl i now : Int} {G U : Nat → Nat → Int} (hwi : LWI cn bN n sp per mst idl G U) (hcn : cn ≤ 580) (hct : G 180 1 < 80) (hbN : bN < 8) (hv : v < 2 ^ 24) (hc : cells + 24 ≤ R.cells) (hs : slots + 744 ≤ R.slots)
    (kk : ∀ (G' U' : Nat → Nat → Int), LWI (cn + 11) bN n sp per mst idl G' U' → G' 180 0 = G 180 0 → G' 180 1 = G 180 1 → PG p l e R s m args below meth c Q E0 b X (cells + 24) (slots + 744) 595 (L0 per (bN : Int) mst n idl i (v : Int) now none, [], zM G' U')) : PG p l e R s m args below meth c Q E0 b X cells slots 561 (L0 per (bN : Int) mst n idl i (v : Int) now none, [], zM G U) := by
  have hw2 := hw
  obtain ⟨hC, hRu, hE, hb0⟩ := hw2
  obtain ⟨hfx, hR1, hR2⟩ := hq
  have hwi2 := hwi
  obtain ⟨hg, h168, hlw, h196, hid, h4, h16, hsp, ⟨hn4, hn5⟩, h182, h1821, h185⟩ := hwi2
  have hok : ∀ X, pOkE (E2 E0 b X) := fun X => hE
  have hr := hRu X cells slots (by omega) (by omega)
  obtain ⟨r, τ, hF, rfl, G1, rfl, hf1⟩ := W_all hg
  rw [h168] at hF
  have hg1 := allI_line hg hf1
  have e180 : G1 180 = G 180 := hf1 180 (by omega)
  refine hr.1 _ _ _ _ _ _ dL_law_561 ⟨rfl, _, rfl, ?_⟩
  refine hr.1 _ _ _ _ _ _ dL_law_562 ⟨rfl, Or.inl ⟨yL_all, 1, [pR 0], [], _, _, Or.inl cs_L_158, rfl, rfl, by decide, (ok_L_all (hok X)).mono (by decide) _ _ _ _ hF, ?_⟩⟩
  refine hr.1 _ _ _ _ _ _ dL_law_565 ⟨rfl, _, _, rfl, Nat.le_of_ble_eq_true rfl, ?_⟩
  refine hr.1 _ _ _ _ _ _ dL_law_567 ⟨rfl, _, rfl, ?_⟩
  refine hr.1 _ _ _ _ _ _ dL_law_568 ⟨rfl, _, rfl, ?_⟩
  refine hr.1 _ _ _ _ _ _ dL_law_570 ⟨rfl, ?_⟩
  refine hr.1 _ _ _ _ _ _ dL_law_571 ⟨rfl, _, _, _, rfl, ?_⟩
  rw [← nI_iI v, show Int32.ofInt 3 = nI 3 from rfl, pk_shrN (by omega) (nI 3 &&& 31) 3 (by decide)]
  have h1680 : G1 168 0 = 0 := by rw [hf1 168 (by omega)]; exact h168
  refine pG_think (b := E0.1) (q := q) (rest := []) (hC X cells slots (by omega) (by omega)) rfl hfx (fun _ => Iff.rfl) hb0 hcn hg1 h1680 (by rw [e180]; exact hct) (by omega) dL_law_572 (by decide) hR1 (by omega) hc hs (fun G2 U2 hth h2 => ?_)
  obtain ⟨q1, q2, q3, q4, q5, q6⟩ := hth
  have hr1 := hRu X (cells + 24) (slots + 744) hc hs
  obtain ⟨r2, τ2, hF2, rfl, G3, rfl, hf3⟩ := W_all q1
  have h5 := xr_count q1 (t := 5) (by decide)
  rw [show cntV (G2 180) (G2 168 0) 5 = G2 168 0 from rfl, h2] at h5
  simp only [Int.cast_ofNat_Int] at h5
  rw [q2, e180, q3, h2] at hF2
  obtain ⟨pB, pC, sLL⟩ := s_LL hr1 rfl ((ok_X_count (hok X)).mono (by decide)) ((ok_L_all (hok X)).mono (by decide))
  refine sx_wp sLL ?_
  unfold B_LL
  refine wIf ⟨false, _, eOrFF (eNeS (eCIr (eAR (eLR rfl) (eAI eK eAN)) ckx0 h5) eK) (eJNeT (eCJr (eAR (eLR rfl) eAN) (by decide) hF2) (eLJ rfl)), fun h => (by cases h), fun _ => wSkip ?_⟩
  have hg3 := allI_line q1 hf3
  have e3 : G3 180 = G 180 := (hf3 180 (by omega)).trans (q2.trans e180)
  refine hr1.2 _ _ (L0 per (bN : Int) mst n idl i (v : Int) now none) _ _ rfl (fun j y hj => ?_) ?_
  · match j, hj with
    | 0, hj => exact hj
    | 1, hj => exact hj
    | 2, hj => exact hj
    | 3, hj => exact hj
    | 4, hj => exact hj
    | 5, hj => exact hj
    | 6, hj => exact hj
    | 7, hj => exact hj
    | 8, hj => exact hj
    | 9, hj => cases hj
    | 10, hj => exact hj
    | 11, hj => exact hj
    | 12, hj => exact hj
    | 13, hj => cases hj
    | 14, hj => cases hj
    | 15, hj => cases hj
    | 16, hj => cases hj
    | 17, hj => cases hj
    | 18, hj => cases hj
    | 19, hj => cases hj
    | 20, hj => cases hj
    | 21, hj => cases hj
    | 22, hj => cases hj
    | j + 23, hj => simp at hj
  refine kk G3 U2 (LWI_nx hwi hg3 (fun x hx => ⟨?_, (q6 x hx).2⟩) ?_ q5 ?_ (by rw [e3, q3]; exact hlw) (fun a _ => by rw [q3]) (by rw [q3]) (by rw [e3]) (by rw [e3]) (by rw [e3]; exact Int.le_refl _)) (by rw [e3]) (by rw [e3])
  · rw [hf3 x (by omega), (q6 x hx).1, hf1 x (by omega)]
  · rw [hf3 182 (by omega), q4, hf1 182 (by omega)]
  · rw [hf3 168 (by omega)]; exact h2
end THK
