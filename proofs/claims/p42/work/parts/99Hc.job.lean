/-! ===== the law's cases: a job is told ===== -/
theorem LWI_nx {c c' bN n : Nat} {sp : Nat → Nat → Int} {per mst idl : Int} {G U G2 U2 : Nat → Nat → Int} (h : LWI c bN n sp per mst idl G U) (hg : allI c' G2 U2) (h196 : ∀ k, 196 ≤ k → G2 k = G k ∧ U2 k = U k) (h182 : G2 182 = G 182) (h185 : U2 185 = U 185) (h168 : G2 168 0 = 0) (hl : lawI bN n sp (G2 180) (U2 183)) (hu : ∀ a : Nat, a < 8 → U2 183 a = U 183 a) (h14 : U2 183 14 = U 183 14) (h4 : G2 180 4 = G 180 4) (h16 : G2 180 (16 + bN) = G 180 (16 + bN)) (h5 : G 180 5 ≤ G2 180 5) : LWI c' bN n sp per mst idl G2 U2 := by
  obtain ⟨a1, a2, a3, a4, a5, a6, a7, a8, ⟨a9, a9'⟩, b1, b2, b3⟩ := h
  refine ⟨hg, h168, hl, fun a ha => ?_, by rw [h14]; exact a5, by rw [h4]; exact a6, by rw [h16]; exact a7, fun z hz y hy => ?_, ⟨a9, by omega⟩, by rw [h182]; exact b1, by rw [h182]; exact b2, fun a ha => by rw [h185]; exact b3 a ha⟩
  · rw [(h196 196 (by omega)).2, hu a ha]
    exact a4 a ha
  · rw [(h196 197 (by omega)).1]
    exact a8 z hz y hy
section JOB
variable {p : Program} {l : Launch} {e : Env} {R : Room} {s : State} {m : MethodId} {args : Array Value} {below : List Frame} {meth : Method} {c : Code} {Q : State → Prop} {E0 : cEnv} {b k : Nat} {xs : Nat → Int32} {RT : Option pV → pM → Prop}
def lwQ (E0 : cEnv) (R : Room) (s : State) (q : xA) : Prop := xFx E0 q s s.heap ∧ 10 ≤ R.frames ∧ 400 ≤ R.locals
set_option maxHeartbeats 2000000 in
theorem job_G (hw : lwR p l e R s m args below meth c Q E0 b k xs RT) {q : xA} (hq : lwQ E0 R s q) {X : Nat → Nat} {cells slots cn bN n v : Nat} {sp : Nat → Nat → Int} {per mst idl i now : Int} {G U : Nat → Nat → Int} (hwi : LWI cn bN n sp per mst idl G U) (hcn : cn ≤ 599) (hct : G 180 1 < 80) (hbN : bN < 8) (hv : v < 2 ^ 24) (hc : cells + 12 ≤ R.cells) (hs : slots + 372 ≤ R.slots)
    (kk : ∀ (G' U' : Nat → Nat → Int), LWI (cn + 1) bN n sp per mst idl G' U' → G' 180 0 = G 180 0 → G' 180 1 = G 180 1 + 1 → PG p l e R s m args below meth c Q E0 b X (cells + 12) (slots + 372) 595 (L0 per (bN : Int) mst n idl i (v : Int) now none, [], zM G' U')) : PG p l e R s m args below meth c Q E0 b X cells slots 208 (L0 per (bN : Int) mst n idl i (v : Int) now none, [], zM G U) := by
  have hw2 := hw
  obtain ⟨hC, hRu, hE, hb0⟩ := hw2
  obtain ⟨hfx, hR1, hR2⟩ := hq
  have hwi2 := hwi
  obtain ⟨hg, h168, hlw, h196, hid, h4, h16, hsp, ⟨hn4, hn5⟩, h182, h1821, h185⟩ := hwi2
  have hok : ∀ X, pOkE (E2 E0 b X) := fun X => hE
  have hr := hRu X cells slots (by omega) (by omega)
  refine hr.1 _ _ _ _ _ _ dL_law_208 ⟨rfl, _, rfl, ?_⟩
  refine hr.1 _ _ _ _ _ _ dL_law_209 ⟨rfl, _, rfl, ?_⟩
  refine hr.1 _ _ _ _ _ _ dL_law_211 ⟨rfl, ?_⟩
  refine hr.1 _ _ _ _ _ _ dL_law_212 ⟨rfl, _, _, _, rfl, ?_⟩
  rw [← nI_iI v, show Int32.ofInt 3 = nI 3 from rfl, pk_shrN (by omega) (nI 3 &&& 31) 3 (by decide)]
  refine pG_at (b := E0.1) (q := q) (rest := []) (hC X cells slots (by omega) (by omega)) rfl hfx (fun _ => Iff.rfl) hb0 hg h168 (by omega) dL_law_213 dL_law_216 (by decide) (by omega) (by omega) hc hs (fun Ga hGa => ?_)
  obtain ⟨t1, t2, t3, t4, t5, t6⟩ := hGa
  have hr1 := hRu X (cells + 12) (slots + 372) hc hs
  refine hr1.1 _ _ _ _ _ _ dL_law_219 ⟨rfl, 264, _, _, rfl, rfl, fun h => absurd h (show ¬ ((1 : Int32) = 0) by decide), fun _ => ?_⟩
  have hread := aT_read (v := v / 2 ^ 3) (T := Ga 169) t6
  obtain ⟨r, τ, hF, rfl, G1, rfl, G2, U2, g0, g196, g1, g180, g183, g182, g185, g168⟩ := xs_job (by omega) t1 (acc := ((v / 2 ^ 4 % 2 ^ 3 : Nat) : Int)) (rank := 3 + ((v / 2 ^ 7 % 2 ^ 1 : Nat) : Int)) (part := 1 + ((v / 2 ^ 8 % 150 : Nat) : Int)) (n := (aT3 (v / 2 ^ 3)).2) (T := Ga 169) (by omega) (by omega) (by omega) (by rw [t2]; exact hct) t5 hread rfl
  refine s_LF1 hr1 rfl ((ok_X_job (hok X)).mono (by decide)) _ [] _ _ _ (by decide) (eCIr (eAR (eLR rfl) (eAI (eAnV (eShV (eL rfl) (by decide) (by omega)) (by decide) (by omega)) (eAI (eAdV (eAnV (eShV (eL rfl) (by decide) (by omega)) (by decide) (by omega))) (eAI (eAdV (eRmV (d := 150) (eShV (eL rfl) (by decide) (by omega)) rfl (by omega) (by decide) (by decide))) (eAI eK eAN))))) ckx0 hF) ?_
  refine pG_re g0 ?_
  have hI := hg.1.choose_spec.2.2.1
  have e180 : Ga 180 = G 180 := t2
  have hI2 : rowI (G2 180) := g1.1.choose_spec.2.2.1
  have hlen := parF_len (T := Ga 169) (n := (aT3 (v / 2 ^ 3)).2) 4 0
  have hcount : G2 180 1 = G 180 1 + 1 := by rw [g180, e180]; exact com_1
  have hlow : ∀ y, y < 96 → y ≠ 1 → y ≠ 7 → G2 180 y = G 180 y := fun y h1 h2 h3 => by rw [g180, e180]; exact com_lo h1 h2 h3
  have h0 := xr_count g1 (t := 0) (by decide)
  rw [show cntV (G2 180) (G2 168 0) 0 = G2 180 1 from rfl, hcount] at h0
  simp only [Int.cast_ofNat_Int] at h0
  refine s_LF2 hr1 rfl ((ok_X_count (hok X)).mono (by decide)) _ [_] _ _ _ (Nat.le_of_ble_eq_true rfl) (eSub (eCI (eAR (eLR rfl) (eAI eK eAN)) ckx0 h0) eK) ?_
  refine hr1.1 _ _ _ _ _ _ dL_law_261 ⟨rfl, 595, _, _, _, rfl, rfl, fun _ => ?_, fun h => absurd (by rw [e180, show G 180 1 + 1 - 1 = G 180 1 by omega]; exact rfl) h⟩
  refine kk G2 U2 (LWI_nx hwi g1 (fun x hx => ⟨((g196 x hx).1).trans (t4 x hx), (g196 x hx).2⟩) (g182.trans t3) g185 g168 ?_ (fun a _ => by rw [g183]) (by rw [g183]) (hlow 4 (by omega) (by omega) (by omega)) (hlow _ (by omega) (by omega) (by omega)) (by rw [hlow 5 (by omega) (by omega) (by omega)]; exact Int.le_refl _)) (hlow 0 (by omega) (by omega) (by omega)) hcount
  rw [g183]
  rw [g180, e180] at hI2 ⊢
  exact law_com hbN hI hI2 hct hlen hlw
end JOB
