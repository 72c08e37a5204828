/-! ===== what holds behind a meaning: by continuations ===== -/
abbrev pQ : Type := pLo → pM → Prop
def pOut (N B C : pQ) (R : Option pV → pM → Prop) : pO → Prop
  | .inl (L, σ) => N L σ
  | .inr (.inl (L, σ)) => B L σ
  | .inr (.inr (.inl (L, σ))) => C L σ
  | .inr (.inr (.inr (r, σ))) => R r σ
def WpS (s : sC) (L : pLo) (σ : pM) (N B C : pQ) (R : Option pV → pM → Prop) : Prop := ∃ o, s L σ = some o ∧ pOut N B C R o
def WpB (c : eB) (L : pLo) (σ : pM) (T F : pM → Prop) : Prop := ∃ p τ, c L σ = some (p, τ) ∧ (p = true → T τ) ∧ (p = false → F τ)
def WpI (e : eI) (L : pLo) (σ : pM) (Q : Int → pM → Prop) : Prop := ∃ x τ, e L σ = some (Int32.ofInt x, τ) ∧ Q x τ
def WpF (F : pF) (As : List pV) (σ : pM) (R : Option pV → pM → Prop) : Prop := ∃ r τ, F As σ = some (r, τ) ∧ R r τ
theorem wF_e {F : pF} {As : List pV} {σ τ : pM} {r : Option pV} {R : Option pV → pM → Prop} (h : F As σ = some (r, τ)) (hr : R r τ) : WpF F As σ R := ⟨r, τ, h, hr⟩
theorem wF_to {F : pF} {As : List pV} {σ τ : pM} {r : Option pV} (h : WpF F As σ (fun r' τ' => r' = r ∧ τ' = τ)) : F As σ = some (r, τ) := by
  obtain ⟨r', τ', h1, rfl, rfl⟩ := h
  exact h1
theorem wF_m {F : pF} {As : List pV} {σ : pM} {R R' : Option pV → pM → Prop} (h : WpF F As σ R) (hr : ∀ r τ, R r τ → R' r τ) : WpF F As σ R' := by
  obtain ⟨r, τ, h1, h2⟩ := h
  exact ⟨r, τ, h1, hr _ _ h2⟩
theorem wI_m {e : eI} {L : pLo} {σ : pM} {R R' : Int → pM → Prop} (h : WpI e L σ R) (hr : ∀ r τ, R r τ → R' r τ) : WpI e L σ R' := by
  obtain ⟨r, τ, h1, h2⟩ := h
  exact ⟨r, τ, h1, hr _ _ h2⟩
abbrev noQ : pQ := fun _ _ => False
theorem nar1 {x : Int32} : narK 1 (some (pI x)) = true := rfl
theorem nar2 {p : Bool} : narK 2 (some (pI (zI p))) = true := by simp [narK, zI_iZ]
theorem nar3 {x : Int64} : narK 3 (some (pJ x)) = true := rfl
theorem nar4 {x : Nat} : narK 4 (some (pR x)) = true := rfl
theorem nar0 : narK 0 none = true := rfl
theorem wBody {rk n : Nat} {body : sC} {As : List pV} {σ : pM} {R : Option pV → pM → Prop} (hn : (pEnt As).length ≤ n) (h : WpS body (pL0 As n) σ noQ noQ noQ (fun r τ => narK rk r = true ∧ R r τ)) : WpF (pBody rk n body) As σ R := by
  obtain ⟨o, h1, h2⟩ := h
  match o, h2 with
  | .inr (.inr (.inr (r, τ))), h2 => exact ⟨r, τ, by simp only [pBody, hn, if_true, h1, h2.1], h2.2⟩
section WPS
variable {L : pLo} {σ τ : pM} {N B C : pQ} {R : Option pV → pM → Prop} {x y z v : Int} {p q : Bool}
theorem wS_e {s : sC} {o : pO} (h : s L σ = some o) (ho : pOut N B C R o) : WpS s L σ N B C R := ⟨o, h, ho⟩
theorem wS_n {s : sC} {L1 : pLo} (h : s L σ = some (.inl (L1, τ))) (hn : N L1 τ) : WpS s L σ N B C R := ⟨_, h, hn⟩
theorem wS_r {s : sC} {r : Option pV} (h : s L σ = some (.inr (.inr (.inr (r, τ))))) (hn : R r τ) : WpS s L σ N B C R := ⟨_, h, hn⟩
theorem wS_m {s : sC} {N' B' C' : pQ} {R' : Option pV → pM → Prop} (h : WpS s L σ N B C R) (h1 : ∀ L σ, N L σ → N' L σ) (h2 : ∀ L σ, B L σ → B' L σ) (h3 : ∀ L σ, C L σ → C' L σ) (h4 : ∀ L σ, R L σ → R' L σ) : WpS s L σ N' B' C' R' := by
  obtain ⟨o, ho, hp⟩ := h
  refine ⟨o, ho, ?_⟩
  match o, hp with
  | .inl (L, σ), hp => exact h1 _ _ hp
  | .inr (.inl (L, σ)), hp => exact h2 _ _ hp
  | .inr (.inr (.inl (L, σ))), hp => exact h3 _ _ hp
  | .inr (.inr (.inr (r, σ))), hp => exact h4 _ _ hp
theorem wSkip (h : N L σ) : WpS sSkip L σ N B C R := ⟨_, rfl, h⟩
theorem wSeq {a b : sC} (h : WpS a L σ (fun L1 σ1 => WpS b L1 σ1 N B C R) B C R) : WpS (sSeq a b) L σ N B C R := by
  obtain ⟨o, ho, hp⟩ := h
  match o, hp with
  | .inl (L, σ), hp =>
    obtain ⟨o2, h2, h3⟩ := hp
    exact ⟨o2, by simp only [sSeq, ho, Option.bind_some, h2], h3⟩
  | .inr (.inl (L, σ)), hp => exact ⟨.inr (.inl (L, σ)), by simp only [sSeq, ho, Option.bind_some], hp⟩
  | .inr (.inr (.inl (L, σ))), hp => exact ⟨.inr (.inr (.inl (L, σ))), by simp only [sSeq, ho, Option.bind_some], hp⟩
  | .inr (.inr (.inr (r, σ))), hp => exact ⟨.inr (.inr (.inr (r, σ))), by simp only [sSeq, ho, Option.bind_some], hp⟩
theorem wAsI {k : Nat} {e : eI} (he : e L σ = some (Int32.ofInt x, τ)) (hk : k < L.length) (h : N (pSet1 L k (pI (Int32.ofInt x))) τ) : WpS (sI k e) L σ N B C R := ⟨_, sI_n he hk, h⟩
theorem wAsZ {k : Nat} {e : eB} (he : e L σ = some (p, τ)) (hk : k < L.length) (h : N (pSet1 L k (pI (zI p))) τ) : WpS (sZ k e) L σ N B C R := ⟨_, sZ_n he hk, h⟩
theorem wAsJ {k : Nat} {e : eJ} (he : e L σ = some (Int64.ofInt x, τ)) (hk : k + 1 < L.length) (h : N (pSet2 L k (pJ (Int64.ofInt x))) τ) : WpS (sJ k e) L σ N B C R := ⟨_, sJ_n he hk, h⟩
theorem wAsR {k o : Nat} {e : eR} (he : e L σ = some (o, τ)) (hk : k < L.length) (h : N (pSet1 L k (pR o)) τ) : WpS (sR k e) L σ N B C R := wS_n (by simp only [sR, hk, if_true, he, Option.bind_some]) h
theorem wAsIw {k : Nat} {e : eI} (hk : k < L.length) (h : WpI e L σ (fun x τ => N (pSet1 L k (pI (Int32.ofInt x))) τ)) : WpS (sI k e) L σ N B C R := by
  obtain ⟨x, τ, h1, h2⟩ := h
  exact ⟨_, sI_n h1 hk, h2⟩
theorem wAsZw {k : Nat} {e : eB} (hk : k < L.length) (h : WpB e L σ (fun τ => N (pSet1 L k (pI (zI true))) τ) (fun τ => N (pSet1 L k (pI (zI false))) τ)) : WpS (sZ k e) L σ N B C R := by
  obtain ⟨p, τ, h1, h2, h3⟩ := h
  refine ⟨_, sZ_n h1 hk, ?_⟩
  cases p with
  | true => exact h2 rfl
  | false => exact h3 rfl
theorem wInc {k : Nat} {d : Int} (hk : L[k]? = some (some (pI (Int32.ofInt z)))) (h : N (pSet1 L k (pI (Int32.ofInt (z + d)))) σ) : WpS (sInc k d) L σ N B C R := ⟨_, sInc_n hk, h⟩
theorem wKil {ks : List Nat} (h : N (ks.foldl kil L) σ) : WpS (sKil ks) L σ N B C R := ⟨_, rfl, h⟩
theorem wBrk (h : B L σ) : WpS sBrk L σ N B C R := ⟨_, rfl, h⟩
theorem wCnt (h : C L σ) : WpS sCnt L σ N B C R := ⟨_, rfl, h⟩
theorem wRI {e : eI} (he : e L σ = some (Int32.ofInt x, τ)) (h : R (some (pI (Int32.ofInt x))) τ) : WpS (sRI e) L σ N B C R := ⟨_, sRI_n he, h⟩
theorem wRIw {e : eI} (h : WpI e L σ (fun x τ => R (some (pI (Int32.ofInt x))) τ)) : WpS (sRI e) L σ N B C R := by
  obtain ⟨x, τ, h1, h2⟩ := h
  exact ⟨_, sRI_n h1, h2⟩
theorem wRZ {e : eB} (he : e L σ = some (p, τ)) (h : R (some (pI (zI p))) τ) : WpS (sRZ e) L σ N B C R := ⟨_, sRZ_n he, h⟩
theorem wRZw {e : eB} (h : WpB e L σ (fun τ => R (some (pI (zI true))) τ) (fun τ => R (some (pI (zI false))) τ)) : WpS (sRZ e) L σ N B C R := by
  obtain ⟨p, τ, h1, h2, h3⟩ := h
  refine ⟨_, sRZ_n h1, ?_⟩
  cases p with
  | true => exact h2 rfl
  | false => exact h3 rfl
theorem wRJ {e : eJ} (he : e L σ = some (Int64.ofInt x, τ)) (h : R (some (pJ (Int64.ofInt x))) τ) : WpS (sRJ e) L σ N B C R := wS_r (by simp only [sRJ, he, Option.bind_some]) h
theorem wRR {e : eR} {o : Nat} (he : e L σ = some (o, τ)) (h : R (some (pR o)) τ) : WpS (sRR e) L σ N B C R := wS_r (by simp only [sRR, he, Option.bind_some]) h
theorem wRV (h : R none σ) : WpS sRV L σ N B C R := ⟨_, rfl, h⟩
theorem wIf {c : eB} {s1 s2 : sC} (h : WpB c L σ (fun τ => WpS s1 L τ N B C R) (fun τ => WpS s2 L τ N B C R)) : WpS (sIf c s1 s2) L σ N B C R := by
  obtain ⟨p, τ, h1, h2, h3⟩ := h
  cases p with
  | true =>
    obtain ⟨o, h4, h5⟩ := h2 rfl
    exact ⟨o, by simp only [sIf, h1, Option.bind_some, if_true, h4], h5⟩
  | false =>
    obtain ⟨o, h4, h5⟩ := h3 rfl
    exact ⟨o, by simp only [sIf, h1, Option.bind_some, Bool.false_eq_true, if_false, h4], h5⟩
theorem wPut {G U : Nat → Nat → Int} {ci j o : Nat} {a : eR} {e : eI} (ha : a L (zM G U) = some (o, zM G U)) (he : e L (zM G U) = some (Int32.ofInt v, zM G U)) (hh : okI ci j o = true) (h : N L (zM (upZ G o j v) U)) : WpS (sPut ci j a e) L (zM G U) N B C R := ⟨_, sPut_n ha he hh, h⟩
theorem wModA {G U : Nat → Nat → Int} {ci j o : Nat} {a : eR} {e : eI} (ha : a L (zM G U) = some (o, zM G U)) (hh : okI ci j o = true) (he : e L (zM G U) = some (Int32.ofInt v, zM G U)) (h : N L (zM (upZ G o j (G o j + v)) U)) : WpS (sMod ci j (fun x y => x + y) a e) L (zM G U) N B C R := wS_n (by simp only [sMod, ha, he, Option.bind_some, hh, if_true, zM1, iI_add, up1_zM]) h
theorem wModS {G U : Nat → Nat → Int} {ci j o : Nat} {a : eR} {e : eI} (ha : a L (zM G U) = some (o, zM G U)) (hh : okI ci j o = true) (he : e L (zM G U) = some (Int32.ofInt v, zM G U)) (h : N L (zM (upZ G o j (G o j - v)) U)) : WpS (sMod ci j (fun x y => x - y) a e) L (zM G U) N B C R := wS_n (by simp only [sMod, ha, he, Option.bind_some, hh, if_true, zM1, iI_sub, up1_zM]) h
theorem wAst {G U : Nat → Nat → Int} {o n : Nat} {a : eR} {i e : eI} (ha : a L (zM G U) = some (o, zM G U)) (hi : i L (zM G U) = some (Int32.ofInt x, zM G U)) (he : e L (zM G U) = some (Int32.ofInt v, zM G U)) (hn : lenOf 0 o = n) (hx : 0 ≤ x ∧ x < n) (h9 : n ≤ 100000) (h : N L (zM (upZ G o x.toNat v) U)) : WpS (sAst a i e) L (zM G U) N B C R := ⟨_, sAst_n ha hi he hn hx h9, h⟩
theorem wAmdA {G U : Nat → Nat → Int} {o n : Nat} {a : eR} {i e : eI} (ha : a L (zM G U) = some (o, zM G U)) (hi : i L (zM G U) = some (Int32.ofInt x, zM G U)) (hn : lenOf 0 o = n) (hx : 0 ≤ x ∧ x < n) (h9 : n ≤ 100000) (he : e L (zM G U) = some (Int32.ofInt v, zM G U)) (h : N L (zM (upZ G o x.toNat (G o x.toNat + v)) U)) : WpS (sAmd (fun x y => x + y) a i e) L (zM G U) N B C R := by
  have n1 := iI_ix (a := x) (n := n) (by omega) h9
  have n2 := iI_nat (a := x) (by omega)
  rw [n2] at n1
  exact wS_n (by simp only [sAmd, ha, hi, he, Option.bind_some, hn, n1, n2, if_false, zM1, iI_add, up1_zM]) h
theorem wAmdS {G U : Nat → Nat → Int} {o n : Nat} {a : eR} {i e : eI} (ha : a L (zM G U) = some (o, zM G U)) (hi : i L (zM G U) = some (Int32.ofInt x, zM G U)) (hn : lenOf 0 o = n) (hx : 0 ≤ x ∧ x < n) (h9 : n ≤ 100000) (he : e L (zM G U) = some (Int32.ofInt v, zM G U)) (h : N L (zM (upZ G o x.toNat (G o x.toNat - v)) U)) : WpS (sAmd (fun x y => x - y) a i e) L (zM G U) N B C R := by
  have n1 := iI_ix (a := x) (n := n) (by omega) h9
  have n2 := iI_nat (a := x) (by omega)
  rw [n2] at n1
  exact wS_n (by simp only [sAmd, ha, hi, he, Option.bind_some, hn, n1, n2, if_false, zM1, iI_sub, up1_zM]) h
theorem wLst {G U : Nat → Nat → Int} {o n : Nat} {a : eR} {i : eI} {e : eJ} (ha : a L (zM G U) = some (o, zM G U)) (hi : i L (zM G U) = some (Int32.ofInt x, zM G U)) (he : e L (zM G U) = some (Int64.ofInt v, zM G U)) (hn : lenOf 2 o = n) (hx : 0 ≤ x ∧ x < n) (h9 : n ≤ 100000) (h : N L (zM G (upZ U o x.toNat v))) : WpS (sLst a i e) L (zM G U) N B C R := by
  have n1 := iI_ix (a := x) (n := n) (by omega) h9
  have n2 := iI_nat (a := x) (by omega)
  rw [n2] at n1
  exact wS_n (by simp only [sLst, ha, hi, he, Option.bind_some, hn, n1, n2, if_false, up2_zM]) h
theorem wLmdA {G U : Nat → Nat → Int} {o n : Nat} {a : eR} {i : eI} {e : eJ} (ha : a L (zM G U) = some (o, zM G U)) (hi : i L (zM G U) = some (Int32.ofInt x, zM G U)) (hn : lenOf 2 o = n) (hx : 0 ≤ x ∧ x < n) (h9 : n ≤ 100000) (he : e L (zM G U) = some (Int64.ofInt v, zM G U)) (h : N L (zM G (upZ U o x.toNat (U o x.toNat + v)))) : WpS (sLmd (fun x y => x + y) a i e) L (zM G U) N B C R := by
  have n1 := iI_ix (a := x) (n := n) (by omega) h9
  have n2 := iI_nat (a := x) (by omega)
  rw [n2] at n1
  exact wS_n (by simp only [sLmd, ha, hi, he, Option.bind_some, hn, n1, n2, if_false, zM2, ← Int64.ofInt_add, up2_zM]) h
theorem wSw {e : eI} {lo : Int} {cs : List sC} {d : sC} (he : e L σ = some (Int32.ofInt x, τ)) (hx : rg x) (h : WpS (if x < lo then d else (cs[(x - lo).toNat]?).getD d) L τ N B C R) : WpS (sSw e lo cs d) L σ N B C R := by
  obtain ⟨o, h1, h2⟩ := h
  refine ⟨o, ?_, h2⟩
  simp only [sSw, he, Option.bind_some, iI_toInt hx, h1]
theorem wVd {ci : Nat} {F : pF} {a : eA} {As : List pV} (ha : a L σ = some (As, τ)) (hc : ckV ci As = true) (h : WpF F As τ (fun r σ' => r = none ∧ N L σ')) : WpS (sVd (vC ci F rN a)) L σ N B C R := by
  obtain ⟨r, σ', h1, rfl, h2⟩ := h
  exact wS_n (by simp only [sVd, vC, ha, Option.bind_some, hc, if_true, h1, rN, Option.map_some]) h2
theorem wIc {ci : Nat} {F : pF} {a : eA} {As : List pV} {Q : Int → pM → Prop} (ha : a L σ = some (As, τ)) (hc : ckV ci As = true) (h : WpF F As τ (fun r σ' => ∃ x : Int, r = some (pI (Int32.ofInt x)) ∧ Q x σ')) : WpI (vC ci F rI a) L σ Q := by
  obtain ⟨r, σ', h1, ⟨x, rfl, h3⟩⟩ := h
  exact ⟨x, σ', by simp only [vC, ha, Option.bind_some, hc, if_true, h1, rI, Option.map_some], h3⟩
theorem wBc {ci : Nat} {F : pF} {a : eA} {As : List pV} {T Fl : pM → Prop} (ha : a L σ = some (As, τ)) (hc : ckV ci As = true) (h : WpF F As τ (fun r σ' => ∃ p : Bool, r = some (pI (zI p)) ∧ (p = true → T σ') ∧ (p = false → Fl σ'))) : WpB (vC ci F rZ a) L σ T Fl := by
  obtain ⟨r, σ', h1, ⟨p, rfl, h3⟩⟩ := h
  exact ⟨p, σ', by simp only [vC, ha, Option.bind_some, hc, if_true, h1, rZ, zI_iZ, Option.map_some], h3⟩
theorem wRc {ci : Nat} {F : pF} {a : eA} {As : List pV} {o : Nat} (ha : a L σ = some (As, τ)) (hc : ckV ci As = true) {υ : pM} (h : F As τ = some (some (pR o), υ)) : vC ci F rR a L σ = some (o, υ) := by
  simp only [vC, ha, Option.bind_some, hc, if_true, h, rR, Option.map_some]
theorem wPop {e : eI} (h : WpI e L σ (fun _ τ => N L τ)) : WpS (sPop e) L σ N B C R := by
  obtain ⟨x, τ, h1, h2⟩ := h
  exact wS_n (by simp only [sPop, h1, Option.bind_some]) h2
theorem wB_e {c : eB} {T F : pM → Prop} (h : c L σ = some (p, τ)) (h1 : p = true → T τ) (h2 : p = false → F τ) : WpB c L σ T F := ⟨p, τ, h, h1, h2⟩
theorem wB_m {c : eB} {T F T' F' : pM → Prop} (h : WpB c L σ T F) (h1 : ∀ σ, T σ → T' σ) (h2 : ∀ σ, F σ → F' σ) : WpB c L σ T' F' := by
  obtain ⟨p, τ, a, b, d⟩ := h
  exact ⟨p, τ, a, fun h => h1 _ (b h), fun h => h2 _ (d h)⟩
theorem wB_and {a b : eB} {T F : pM → Prop} (h : WpB a L σ (fun τ => WpB b L τ T F) F) : WpB (bAnd a b) L σ T F := by
  obtain ⟨p, τ, h1, h2, h3⟩ := h
  cases p with
  | true =>
    obtain ⟨q, τ', h4, h5, h6⟩ := h2 rfl
    exact ⟨q, τ', by simp only [bAnd, h1, Option.bind_some, if_true, h4], h5, h6⟩
  | false => exact ⟨false, τ, by simp only [bAnd, h1, Option.bind_some, Bool.false_eq_true, if_false], (fun h => nomatch h), h3⟩
theorem wB_or {a b : eB} {T F : pM → Prop} (h : WpB a L σ T (fun τ => WpB b L τ T F)) : WpB (bOr a b) L σ T F := by
  obtain ⟨p, τ, h1, h2, h3⟩ := h
  cases p with
  | false =>
    obtain ⟨q, τ', h4, h5, h6⟩ := h3 rfl
    exact ⟨q, τ', by simp only [bOr, h1, Option.bind_some, Bool.false_eq_true, if_false, h4], h5, h6⟩
  | true => exact ⟨true, τ, by simp only [bOr, h1, Option.bind_some, if_true], h2, (fun h => nomatch h)⟩
theorem wB_not {a : eB} {T F : pM → Prop} (h : WpB a L σ F T) : WpB (bNot a) L σ T F := by
  obtain ⟨p, τ, h1, h2, h3⟩ := h
  refine ⟨!p, τ, by simp only [bNot, h1, Option.bind_some], fun h => h3 (by simpa using h), fun h => h2 (by simpa using h)⟩
theorem wI_e {e : eI} {Q : Int → pM → Prop} (h : e L σ = some (Int32.ofInt x, τ)) (hq : Q x τ) : WpI e L σ Q := ⟨x, τ, h, hq⟩
theorem wI_ite {c : eB} {a b : eI} {Q : Int → pM → Prop} (h : WpB c L σ (fun τ => WpI a L τ Q) (fun τ => WpI b L τ Q)) : WpI (cE c a b) L σ Q := by
  obtain ⟨p, τ, h1, h2, h3⟩ := h
  cases p with
  | true =>
    obtain ⟨x, τ', h4, h5⟩ := h2 rfl
    exact ⟨x, τ', by simp only [cE, h1, Option.bind_some, if_true, h4], h5⟩
  | false =>
    obtain ⟨x, τ', h4, h5⟩ := h3 rfl
    exact ⟨x, τ', by simp only [cE, h1, Option.bind_some, Bool.false_eq_true, if_false, h4], h5⟩
theorem wI_add {a b : eI} {Q : Int → pM → Prop} (h : WpI a L σ (fun x τ => WpI b L τ (fun y τ' => Q (x + y) τ'))) : WpI (bI (fun x y => x + y) a b) L σ Q := by
  obtain ⟨x, τ, h1, y, τ', h2, h3⟩ := h
  exact ⟨x + y, τ', by simp only [bI, h1, h2, Option.bind_some, iI_add], h3⟩
theorem wI_sub {a b : eI} {Q : Int → pM → Prop} (h : WpI a L σ (fun x τ => WpI b L τ (fun y τ' => Q (x - y) τ'))) : WpI (bI (fun x y => x - y) a b) L σ Q := by
  obtain ⟨x, τ, h1, y, τ', h2, h3⟩ := h
  exact ⟨x - y, τ', by simp only [bI, h1, h2, Option.bind_some, iI_sub], h3⟩
/-- a loop under an invariant -/
theorem wWh {c : eB} {b u : sC} (Inv : Nat → pQ) (n : Nat) (hn : n < 1000000) (h0 : Inv 0 L σ) (hs : ∀ i L σ, i ≤ n → Inv i L σ → WpB c L σ (fun τ => i < n ∧ WpS b L τ (fun L1 σ1 => WpS u L1 σ1 (Inv (i + 1)) noQ noQ (fun _ _ => False)) N (fun L1 σ1 => WpS u L1 σ1 (Inv (i + 1)) noQ noQ (fun _ _ => False)) R) (fun τ => N L τ)) : WpS (sWh c b u) L σ N B C R := by
  have key : ∀ (m i K : Nat) (L : pLo) (σ : pM), i + m = n → m < K → Inv i L σ → WpS (sIt K c b u) L σ N B C R := by
    intro m
    induction m with
    | zero =>
      intro i K L σ hk hK hi
      obtain ⟨K, rfl⟩ : ∃ K', K = K' + 1 := ⟨K - 1, by omega⟩
      obtain ⟨p, τ, h1, h2, h3⟩ := hs i L σ (by omega) hi
      cases p with
      | true => exact absurd (h2 rfl).1 (by omega)
      | false => exact wS_n (by simp only [sIt, h1, Option.bind_some, Bool.false_eq_true, if_false]) (h3 rfl)
    | succ m ih =>
      intro i K L σ hk hK hi
      obtain ⟨K, rfl⟩ : ∃ K', K = K' + 1 := ⟨K - 1, by omega⟩
      obtain ⟨p, τ, h1, h2, h3⟩ := hs i L σ (by omega) hi
      cases p with
      | false => exact wS_n (by simp only [sIt, h1, Option.bind_some, Bool.false_eq_true, if_false]) (h3 rfl)
      | true =>
        obtain ⟨-, o, h4, h5⟩ := h2 rfl
        match o, h5 with
        | .inl (L1, σ1), ⟨o2, h6, h7⟩ =>
          match o2, h7 with
          | .inl (L2, σ2), h7 =>
            obtain ⟨o3, h8, h9⟩ := ih (i + 1) K L2 σ2 (by omega) (by omega) h7
            exact ⟨o3, by simp only [sIt, h1, Option.bind_some, if_true, h4, h6, h8], h9⟩
        | .inr (.inl (L1, σ1)), h5 => exact wS_n (by simp only [sIt, h1, Option.bind_some, if_true, h4]) h5
        | .inr (.inr (.inl (L1, σ1))), ⟨o2, h6, h7⟩ =>
          match o2, h7 with
          | .inl (L2, σ2), h7 =>
            obtain ⟨o3, h8, h9⟩ := ih (i + 1) K L2 σ2 (by omega) (by omega) h7
            exact ⟨o3, by simp only [sIt, h1, Option.bind_some, if_true, h4, h6, h8], h9⟩
        | .inr (.inr (.inr (r, σ1))), h5 => exact wS_r (by simp only [sIt, h1, Option.bind_some, if_true, h4]) h5
  exact key n 0 1000000 L σ (by omega) hn h0
end WPS
/-- a piece of a row laid to another -/
def cpZ (G : Nat → Nat → Int) (a b sp dp n : Nat) : Nat → Nat → Int := fun c k => if c = b ∧ dp ≤ k ∧ k < dp + n then G a (sp + (k - dp)) else G c k
theorem cp1_zM {G U : Nat → Nat → Int} {a b sp dp n : Nat} : cp1 (zM G U) a b sp dp n = zM (cpZ G a b sp dp n) U := by
  unfold cp1 zM cpZ
  congr 1
  funext c k
  by_cases h : c = b ∧ dp ≤ k ∧ k < dp + n <;> simp [h]
theorem cp2_zM {G U : Nat → Nat → Int} {a b sp dp n : Nat} : cp2 (zM G U) a b sp dp n = zM G (cpZ U a b sp dp n) := by
  unfold cp2 zM cpZ
  congr 1
  funext c k
  by_cases h : c = b ∧ dp ≤ k ∧ k < dp + n <;> simp [h]
theorem wCpI {L : pLo} {G U : Nat → Nat → Int} {N B C : pQ} {R : Option pV → pM → Prop} {a b : eR} {i j k : eI} {o o2 n n2 : Nat} {x y z : Int} (ha : a L (zM G U) = some (o, zM G U)) (hi : i L (zM G U) = some (Int32.ofInt x, zM G U)) (hb : b L (zM G U) = some (o2, zM G U)) (hj : j L (zM G U) = some (Int32.ofInt y, zM G U)) (hk : k L (zM G U) = some (Int32.ofInt z, zM G U)) (hn : lenOf 0 o = n) (hn2 : lenOf 0 o2 = n2) (h1 : 0 ≤ x ∧ 0 ≤ y ∧ 0 ≤ z ∧ x + z ≤ n ∧ y + z ≤ n2 ∧ 0 < n ∧ 0 < n2) (h9 : n ≤ 100000) (h8 : n2 ≤ 100000) (h : N L (zM (cpZ G o o2 x.toNat y.toNat z.toNat) U)) : WpS (sCpI a i b j k) L (zM G U) N B C R := by
  refine wS_n ?_ h
  have a1 := iI_neg0 (a := x) (by omega)
  have a2 := iI_neg0 (a := y) (by omega)
  have a3 := iI_neg0 (a := z) (by omega)
  have b1 := iI_nat (a := x) (by omega)
  have b2 := iI_nat (a := y) (by omega)
  have b3 := iI_nat (a := z) (by omega)
  have c1 : ¬ x < 0 ∧ ¬ y < 0 ∧ ¬ z < 0 ∧ 0 < n ∧ 0 < n2 ∧ x.toNat + z.toNat ≤ n ∧ y.toNat + z.toNat ≤ n2 := by omega
  simp only [sCpI, ha, hi, hb, hj, hk, Option.bind_some, hn, hn2, a1, a2, a3, b1, b2, b3, c1, cp1_zM]
  simp
theorem wCpJ {L : pLo} {G U : Nat → Nat → Int} {N B C : pQ} {R : Option pV → pM → Prop} {a b : eR} {i j k : eI} {o o2 n n2 : Nat} {x y z : Int} (ha : a L (zM G U) = some (o, zM G U)) (hi : i L (zM G U) = some (Int32.ofInt x, zM G U)) (hb : b L (zM G U) = some (o2, zM G U)) (hj : j L (zM G U) = some (Int32.ofInt y, zM G U)) (hk : k L (zM G U) = some (Int32.ofInt z, zM G U)) (hn : lenOf 2 o = n) (hn2 : lenOf 2 o2 = n2) (h1 : 0 ≤ x ∧ 0 ≤ y ∧ 0 ≤ z ∧ x + z ≤ n ∧ y + z ≤ n2 ∧ 0 < n ∧ 0 < n2) (h9 : n ≤ 100000) (h8 : n2 ≤ 100000) (h : N L (zM G (cpZ U o o2 x.toNat y.toNat z.toNat))) : WpS (sCpJ a i b j k) L (zM G U) N B C R := by
  refine wS_n ?_ h
  have a1 := iI_neg0 (a := x) (by omega)
  have a2 := iI_neg0 (a := y) (by omega)
  have a3 := iI_neg0 (a := z) (by omega)
  have b1 := iI_nat (a := x) (by omega)
  have b2 := iI_nat (a := y) (by omega)
  have b3 := iI_nat (a := z) (by omega)
  have c1 : ¬ x < 0 ∧ ¬ y < 0 ∧ ¬ z < 0 ∧ 0 < n ∧ 0 < n2 ∧ x.toNat + z.toNat ≤ n ∧ y.toNat + z.toNat ≤ n2 := by omega
  simp only [sCpJ, ha, hi, hb, hj, hk, Option.bind_some, hn, hn2, a1, a2, a3, b1, b2, b3, c1, cp2_zM]
  simp
theorem M_a0 {G U : Nat → Nat → Int} {j : Nat} (hj : j < 80) : F_M_at [pR 179, pI (Int32.ofInt (j : Int)), pI (Int32.ofInt 0)] (zM G U) = some (some (pI (Int32.ofInt (mAt (G 180) j 0))), zM G U) := M_atN (w := 0) hj (by omega)
theorem M_a1 {G U : Nat → Nat → Int} {j : Nat} (hj : j < 80) : F_M_at [pR 179, pI (Int32.ofInt (j : Int)), pI (Int32.ofInt 1)] (zM G U) = some (some (pI (Int32.ofInt (mAt (G 180) j 1))), zM G U) := M_atN (w := 1) hj (by omega)
theorem M_a2 {G U : Nat → Nat → Int} {j : Nat} (hj : j < 80) : F_M_at [pR 179, pI (Int32.ofInt (j : Int)), pI (Int32.ofInt 2)] (zM G U) = some (some (pI (Int32.ofInt (mAt (G 180) j 2))), zM G U) := M_atN (w := 2) hj (by omega)
theorem M_a3 {G U : Nat → Nat → Int} {j : Nat} (hj : j < 80) : F_M_at [pR 179, pI (Int32.ofInt (j : Int)), pI (Int32.ofInt 3)] (zM G U) = some (some (pI (Int32.ofInt (mAt (G 180) j 3))), zM G U) := M_atN (w := 3) hj (by omega)
theorem M_a4 {G U : Nat → Nat → Int} {j : Nat} (hj : j < 80) : F_M_at [pR 179, pI (Int32.ofInt (j : Int)), pI (Int32.ofInt 4)] (zM G U) = some (some (pI (Int32.ofInt (mAt (G 180) j 4))), zM G U) := M_atN (w := 4) hj (by omega)
theorem M_a5 {G U : Nat → Nat → Int} {j : Nat} (hj : j < 80) : F_M_at [pR 179, pI (Int32.ofInt (j : Int)), pI (Int32.ofInt 5)] (zM G U) = some (some (pI (Int32.ofInt (mAt (G 180) j 5))), zM G U) := M_atN (w := 5) hj (by omega)
theorem M_a6 {G U : Nat → Nat → Int} {j : Nat} (hj : j < 80) : F_M_at [pR 179, pI (Int32.ofInt (j : Int)), pI (Int32.ofInt 6)] (zM G U) = some (some (pI (Int32.ofInt (mAt (G 180) j 6))), zM G U) := M_atN (w := 6) hj (by omega)
theorem M_a7 {G U : Nat → Nat → Int} {j : Nat} (hj : j < 80) : F_M_at [pR 179, pI (Int32.ofInt (j : Int)), pI (Int32.ofInt 7)] (zM G U) = some (some (pI (Int32.ofInt (mAt (G 180) j 7))), zM G U) := M_atN (w := 7) hj (by omega)
theorem M_a8 {G U : Nat → Nat → Int} {j : Nat} (hj : j < 80) : F_M_at [pR 179, pI (Int32.ofInt (j : Int)), pI (Int32.ofInt 8)] (zM G U) = some (some (pI (Int32.ofInt (mAt (G 180) j 8))), zM G U) := M_atN (w := 8) hj (by omega)
theorem M_a9 {G U : Nat → Nat → Int} {j : Nat} (hj : j < 80) : F_M_at [pR 179, pI (Int32.ofInt (j : Int)), pI (Int32.ofInt 9)] (zM G U) = some (some (pI (Int32.ofInt (mAt (G 180) j 9))), zM G U) := M_atN (w := 9) hj (by omega)
theorem M_a10 {G U : Nat → Nat → Int} {j : Nat} (hj : j < 80) : F_M_at [pR 179, pI (Int32.ofInt (j : Int)), pI (Int32.ofInt 10)] (zM G U) = some (some (pI (Int32.ofInt (mAt (G 180) j 10))), zM G U) := M_atN (w := 10) hj (by omega)
theorem M_a11 {G U : Nat → Nat → Int} {j : Nat} (hj : j < 80) : F_M_at [pR 179, pI (Int32.ofInt (j : Int)), pI (Int32.ofInt 11)] (zM G U) = some (some (pI (Int32.ofInt (mAt (G 180) j 11))), zM G U) := M_atN (w := 11) hj (by omega)
theorem M_b12 {G U : Nat → Nat → Int} {j a : Nat} (hj : j < 80) (ha : a < 4) : F_M_at [pR 179, pI (Int32.ofInt (j : Int)), pI (Int32.ofInt (12 + (a : Int)))] (zM G U) = some (some (pI (Int32.ofInt (mAt (G 180) j (12 + a)))), zM G U) := M_atL (w := 12) hj (by omega)
theorem M_b16 {G U : Nat → Nat → Int} {j a : Nat} (hj : j < 80) (ha : a < 4) : F_M_at [pR 179, pI (Int32.ofInt (j : Int)), pI (Int32.ofInt (16 + (a : Int)))] (zM G U) = some (some (pI (Int32.ofInt (mAt (G 180) j (16 + a)))), zM G U) := M_atL (w := 16) hj (by omega)
theorem M_b20 {G U : Nat → Nat → Int} {j a : Nat} (hj : j < 80) (ha : a < 4) : F_M_at [pR 179, pI (Int32.ofInt (j : Int)), pI (Int32.ofInt (20 + (a : Int)))] (zM G U) = some (some (pI (Int32.ofInt (mAt (G 180) j (20 + a)))), zM G U) := M_atL (w := 20) hj (by omega)
theorem M_b24 {G U : Nat → Nat → Int} {j a : Nat} (hj : j < 80) (ha : a < 4) : F_M_at [pR 179, pI (Int32.ofInt (j : Int)), pI (Int32.ofInt (24 + (a : Int)))] (zM G U) = some (some (pI (Int32.ofInt (mAt (G 180) j (24 + a)))), zM G U) := M_atL (w := 24) hj (by omega)
theorem M_b28 {G U : Nat → Nat → Int} {j a : Nat} (hj : j < 80) (ha : a < 4) : F_M_at [pR 179, pI (Int32.ofInt (j : Int)), pI (Int32.ofInt (28 + (a : Int)))] (zM G U) = some (some (pI (Int32.ofInt (mAt (G 180) j (28 + a)))), zM G U) := M_atL (w := 28) hj (by omega)
/-! reading behind writings -/
theorem upR_s {G : Nat → Nat → Int} {k i : Nat} {v : Int} : upZ G k i v k i = v := by simp [upZ]
theorem upR_a {G : Nat → Nat → Int} {k i a b : Nat} {v w : Int} (h : a ≠ k) (h2 : G a b = w) : upZ G k i v a b = w := by simp [upZ, h, h2]
theorem upR_b {G : Nat → Nat → Int} {k i a b : Nat} {v w : Int} (h : b ≠ i) (h2 : G a b = w) : upZ G k i v a b = w := by simp [upZ, h, h2]
theorem eFld2 {L : pLo} {G U : Nat → Nat → Int} {a : eR} {ci j o : Nat} {v : Int} (ha : a L (zM G U) = some (o, zM G U)) (h : okI ci j o = true) (hv : G o j = v) : gI ci j a L (zM G U) = some (Int32.ofInt v, zM G U) := hv ▸ eFld ha h
/-! array cells with their index as it is wanted -/
theorem eArr2 {L : pLo} {x : Int} {a : eR} {i : eI} {G U : Nat → Nat → Int} {o n k : Nat} (ha : a L (zM G U) = some (o, zM G U)) (hi : i L (zM G U) = some (Int32.ofInt x, zM G U)) (hn : lenOf 0 o = n) (hx : 0 ≤ x ∧ x < n) (h9 : n ≤ 100000) (hk : x.toNat = k) {v : Int} (hv : G o k = v) : aI 0 a i L (zM G U) = some (Int32.ofInt v, zM G U) := by
  subst hk
  subst hv
  exact eArr ha hi hn hx h9
theorem eArrB2 {L : pLo} {x : Int} {a : eR} {i : eI} {G U : Nat → Nat → Int} {o n k : Nat} (ha : a L (zM G U) = some (o, zM G U)) (hi : i L (zM G U) = some (Int32.ofInt x, zM G U)) (hn : lenOf 1 o = n) (hx : 0 ≤ x ∧ x < n) (h9 : n ≤ 100000) (hk : x.toNat = k) {v : Int} (hv : G o k = v) : aI 1 a i L (zM G U) = some (Int32.ofInt v, zM G U) := by
  subst hk
  subst hv
  have n1 := iI_ix (a := x) (n := n) (by omega) h9
  have n2 := iI_nat (a := x) (by omega)
  rw [n2] at n1
  simp only [aI, ha, hi, Option.bind_some, hn, n1, n2, if_false, zM1]
theorem eArrJ2 {L : pLo} {G U : Nat → Nat → Int} {x : Int} {a : eR} {i : eI} {o n k : Nat} (ha : a L (zM G U) = some (o, zM G U)) (hi : i L (zM G U) = some (Int32.ofInt x, zM G U)) (hn : lenOf 2 o = n) (hx : 0 ≤ x ∧ x < n) (h9 : n ≤ 100000) (hk : x.toNat = k) {v : Int} (hv : U o k = v) : aJ a i L (zM G U) = some (Int64.ofInt v, zM G U) := by
  subst hk
  subst hv
  exact eArrJ ha hi hn hx h9
theorem eNA {L : pLo} {σ : pM} {a : eR} {t o n : Nat} (ha : a L σ = some (o, σ)) (hn : lenOf t o = n) (h0 : 0 < n) : nA t a L σ = some (Int32.ofInt (n : Int), σ) := by
  have : ¬ n = 0 := by omega
  simp only [nA, ha, Option.bind_some, hn, this, if_false]
  rfl
theorem eFldZ {L : pLo} {G U : Nat → Nat → Int} {a : eR} {ci j o : Nat} {p : Bool} (ha : a L (zM G U) = some (o, zM G U)) (h : okI ci j o = true) (hz : G o j = if p = true then 1 else 0) : gZ ci j a L (zM G U) = some (p, zM G U) := by
  simp only [gZ, ha, Option.bind_some, h, if_true, zM1, hz]
  cases p <;> rfl
theorem eNeg {L : pLo} {σ : pM} {x : Int} {a : eI} (ha : a L σ = some (Int32.ofInt x, σ)) : uI (fun x => -x) a L σ = some (Int32.ofInt (-x), σ) := by
  simp only [uI, ha, Option.bind_some, iI_neg]
section WPT
variable {L : pLo} {N B C : pQ} {R : Option pV → pM → Prop} {x v w : Int} {G U : Nat → Nat → Int} {o n k : Nat}
theorem wAst2 {a : eR} {i e : eI} (ha : a L (zM G U) = some (o, zM G U)) (hi : i L (zM G U) = some (Int32.ofInt x, zM G U)) (he : e L (zM G U) = some (Int32.ofInt v, zM G U)) (hn : lenOf 0 o = n) (hx : 0 ≤ x ∧ x < n) (h9 : n ≤ 100000) (hk : x.toNat = k) (h : N L (zM (upZ G o k v) U)) : WpS (sAst a i e) L (zM G U) N B C R := by
  subst hk
  exact wAst ha hi he hn hx h9 h
theorem wAmdA2 {a : eR} {i e : eI} (ha : a L (zM G U) = some (o, zM G U)) (hi : i L (zM G U) = some (Int32.ofInt x, zM G U)) (hn : lenOf 0 o = n) (hx : 0 ≤ x ∧ x < n) (h9 : n ≤ 100000) (hk : x.toNat = k) (he : e L (zM G U) = some (Int32.ofInt v, zM G U)) (hw : G o k = w) (h : N L (zM (upZ G o k (w + v)) U)) : WpS (sAmd (fun x y => x + y) a i e) L (zM G U) N B C R := by
  subst hk
  subst hw
  exact wAmdA ha hi hn hx h9 he h
theorem wAmdS2 {a : eR} {i e : eI} (ha : a L (zM G U) = some (o, zM G U)) (hi : i L (zM G U) = some (Int32.ofInt x, zM G U)) (hn : lenOf 0 o = n) (hx : 0 ≤ x ∧ x < n) (h9 : n ≤ 100000) (hk : x.toNat = k) (he : e L (zM G U) = some (Int32.ofInt v, zM G U)) (hw : G o k = w) (h : N L (zM (upZ G o k (w - v)) U)) : WpS (sAmd (fun x y => x - y) a i e) L (zM G U) N B C R := by
  subst hk
  subst hw
  exact wAmdS ha hi hn hx h9 he h
theorem wLst2 {a : eR} {i : eI} {e : eJ} (ha : a L (zM G U) = some (o, zM G U)) (hi : i L (zM G U) = some (Int32.ofInt x, zM G U)) (he : e L (zM G U) = some (Int64.ofInt v, zM G U)) (hn : lenOf 2 o = n) (hx : 0 ≤ x ∧ x < n) (h9 : n ≤ 100000) (hk : x.toNat = k) (h : N L (zM G (upZ U o k v))) : WpS (sLst a i e) L (zM G U) N B C R := by
  subst hk
  exact wLst ha hi he hn hx h9 h
theorem wLmdA2 {a : eR} {i : eI} {e : eJ} (ha : a L (zM G U) = some (o, zM G U)) (hi : i L (zM G U) = some (Int32.ofInt x, zM G U)) (hn : lenOf 2 o = n) (hx : 0 ≤ x ∧ x < n) (h9 : n ≤ 100000) (hk : x.toNat = k) (he : e L (zM G U) = some (Int64.ofInt v, zM G U)) (hw : U o k = w) (h : N L (zM G (upZ U o k (w + v)))) : WpS (sLmd (fun x y => x + y) a i e) L (zM G U) N B C R := by
  subst hk
  subst hw
  exact wLmdA ha hi hn hx h9 he h
theorem wLdv2 {a : eR} {i : eI} {e : eJ} (ha : a L (zM G U) = some (o, zM G U)) (hi : i L (zM G U) = some (Int32.ofInt x, zM G U)) (hn : lenOf 2 o = n) (hx : 0 ≤ x ∧ x < n) (h9 : n ≤ 100000) (hk : x.toNat = k) (he : e L (zM G U) = some (Int64.ofInt v, zM G U)) (hv : 0 < v ∧ v < 1000) (hu : 0 ≤ U o k ∧ U o k < 9223372036854775808) (h : N L (zM G (upZ U o k (U o k / v)))) : WpS (sLdv a i e) L (zM G U) N B C R := by
  have n1 := iI_ix (a := x) (n := n) (by omega) h9
  have n2 := iI_nat (a := x) (by omega)
  rw [n2] at n1
  have nz : ¬ (Int64.ofInt v = 0) := by
    intro h
    have h1 : (Int64.ofInt v).toInt = v := iL_toInt (by omega)
    rw [h] at h1
    simp at h1
    omega
  have e1 : Int64.ofInt (U o x.toNat) / Int64.ofInt v = Int64.ofInt (U o x.toNat / v) := by
    apply Int64.toInt_inj.mp
    have a1 : (Int64.ofInt (U o x.toNat)).toInt = U o x.toNat := iL_toInt (by rw [hk]; omega)
    have a2 : (Int64.ofInt v).toInt = v := iL_toInt (by omega)
    have a3 : (Int64.ofInt (U o x.toNat / v)).toInt = U o x.toNat / v := by
      refine iL_toInt ?_
      rw [hk]
      have : 0 ≤ U o k / v := Int.ediv_nonneg (by omega) (by omega)
      have : U o k / v ≤ U o k := Int.ediv_le_self _ (by omega)
      omega
    rw [Int64.toInt_div, a1, a2, a3, hk, Int.tdiv_eq_ediv_of_nonneg (by omega)]
    rw [Int.bmod_eq_of_le (by
      have : 0 ≤ U o k / v := Int.ediv_nonneg (by omega) (by omega)
      omega) (by
      have : U o k / v ≤ U o k := Int.ediv_le_self _ (by omega)
      omega)]
  subst hk
  exact wS_n (by simp only [sLdv, ha, hi, he, Option.bind_some, hn, n1, n2, if_false, zM2, nz, e1, up2_zM]) h
end WPT
theorem wAnd {P : Prop} {s : sC} {L : pLo} {σ : pM} {N B C : pQ} {R : Option pV → pM → Prop} (h1 : P) (h2 : WpS s L σ N B C R) : P ∧ WpS s L σ N B C R := ⟨h1, h2⟩
theorem wN1 {x : Int32} {P : Prop} (h : P) : narK 1 (some (pI x)) = true ∧ P := ⟨nar1, h⟩
theorem wN2 {x : Bool} {P : Prop} (h : P) : narK 2 (some (pI (zI x))) = true ∧ P := ⟨nar2, h⟩
theorem wN3 {x : Int64} {P : Prop} (h : P) : narK 3 (some (pJ x)) = true ∧ P := ⟨nar3, h⟩
theorem wN4 {x : Nat} {P : Prop} (h : P) : narK 4 (some (pR x)) = true ∧ P := ⟨nar4, h⟩
theorem wN0 {P : Prop} (h : P) : narK 0 none = true ∧ P := ⟨nar0, h⟩
theorem wE0 {P : Prop} (h : P) : (none : Option pV) = none ∧ P := ⟨rfl, h⟩
theorem tnA {k : Nat} {a : Nat} : ((k : Int) + (a : Int)).toNat = k + a := by omega
theorem tnJA {j a : Nat} : ((j : Int) * 4 + (a : Int)).toNat = j * 4 + a := by omega
theorem tn0 : Int.toNat 0 = 0 := rfl
theorem tn1 : Int.toNat 1 = 1 := rfl
theorem tn2 : Int.toNat 2 = 2 := rfl
theorem tn3 : Int.toNat 3 = 3 := rfl
theorem tn4 : Int.toNat 4 = 4 := rfl
theorem tn5 : Int.toNat 5 = 5 := rfl
theorem tn6 : Int.toNat 6 = 6 := rfl
theorem tn7 : Int.toNat 7 = 7 := rfl
theorem tn8 : Int.toNat 8 = 8 := rfl
theorem tn9 : Int.toNat 9 = 9 := rfl
theorem tn10 : Int.toNat 10 = 10 := rfl
theorem tn11 : Int.toNat 11 = 11 := rfl
theorem tn12 : Int.toNat 12 = 12 := rfl
theorem tn13 : Int.toNat 13 = 13 := rfl
theorem tn14 : Int.toNat 14 = 14 := rfl
theorem tn15 : Int.toNat 15 = 15 := rfl
theorem tn16 : Int.toNat 16 = 16 := rfl
theorem tnK0 {a : Nat} : (0 + (a : Int)).toNat = 0 + a := by omega
theorem tnK4 {a : Nat} : (4 + (a : Int)).toNat = 4 + a := by omega
theorem tnK8 {a : Nat} : (8 + (a : Int)).toNat = 8 + a := by omega
theorem tnK12 {a : Nat} : (12 + (a : Int)).toNat = 12 + a := by omega
theorem tnK16 {a : Nat} : (16 + (a : Int)).toNat = 16 + a := by omega
theorem tnK20 {a : Nat} : (20 + (a : Int)).toNat = 20 + a := by omega
theorem tnK24 {a : Nat} : (24 + (a : Int)).toNat = 24 + a := by omega
theorem tnK28 {a : Nat} : (28 + (a : Int)).toNat = 28 + a := by omega
theorem tnK32 {a : Nat} : (32 + (a : Int)).toNat = 32 + a := by omega
theorem eKZ {L : pLo} {σ : pM} {p : Bool} : kZ p L σ = some (p, σ) := rfl
theorem M_s0 {G U : Nat → Nat → Int} {s : Nat} (hs : s < 12) : F_M_spanAt [pR 179, pI (Int32.ofInt (s : Int)), pI (Int32.ofInt 0)] (zM G U) = some (some (pI (Int32.ofInt (mSpan (G 180) s 0))), zM G U) := M_spanAt (w := 0) hs (by omega)
theorem M_s1 {G U : Nat → Nat → Int} {s : Nat} (hs : s < 12) : F_M_spanAt [pR 179, pI (Int32.ofInt (s : Int)), pI (Int32.ofInt 1)] (zM G U) = some (some (pI (Int32.ofInt (mSpan (G 180) s 1))), zM G U) := M_spanAt (w := 1) hs (by omega)
theorem M_s2 {G U : Nat → Nat → Int} {s : Nat} (hs : s < 12) : F_M_spanAt [pR 179, pI (Int32.ofInt (s : Int)), pI (Int32.ofInt 2)] (zM G U) = some (some (pI (Int32.ofInt (mSpan (G 180) s 2))), zM G U) := M_spanAt (w := 2) hs (by omega)
theorem M_s3 {G U : Nat → Nat → Int} {s : Nat} (hs : s < 12) : F_M_spanAt [pR 179, pI (Int32.ofInt (s : Int)), pI (Int32.ofInt 3)] (zM G U) = some (some (pI (Int32.ofInt (mSpan (G 180) s 3))), zM G U) := M_spanAt (w := 3) hs (by omega)
theorem M_s4 {G U : Nat → Nat → Int} {s : Nat} (hs : s < 12) : F_M_spanAt [pR 179, pI (Int32.ofInt (s : Int)), pI (Int32.ofInt 4)] (zM G U) = some (some (pI (Int32.ofInt (mSpan (G 180) s 4))), zM G U) := M_spanAt (w := 4) hs (by omega)
theorem M_s5 {G U : Nat → Nat → Int} {s : Nat} (hs : s < 12) : F_M_spanAt [pR 179, pI (Int32.ofInt (s : Int)), pI (Int32.ofInt 5)] (zM G U) = some (some (pI (Int32.ofInt (mSpan (G 180) s 5))), zM G U) := M_spanAt (w := 5) hs (by omega)
section WPC
variable {L : pLo} {σ τ : pM} {N B C : pQ} {R : Option pV → pM → Prop} {ci : Nat} {F : pF} {a : eA} {As : List pV} {k : Nat}
theorem wAsIc (ha : a L σ = some (As, τ)) (hc : ckV ci As = true) (hk : k < L.length) (h : WpF F As τ (fun r σ' => ∃ x : Int, r = some (pI (Int32.ofInt x)) ∧ N (pSet1 L k (pI (Int32.ofInt x))) σ')) : WpS (sI k (vC ci F rI a)) L σ N B C R := wAsIw hk (wIc ha hc h)
theorem wAsZc (ha : a L σ = some (As, τ)) (hc : ckV ci As = true) (hk : k < L.length) (h : WpF F As τ (fun r σ' => ∃ p : Bool, r = some (pI (zI p)) ∧ N (pSet1 L k (pI (zI p))) σ')) : WpS (sZ k (vC ci F rZ a)) L σ N B C R := by
  obtain ⟨r, σ', h1, ⟨p, rfl, h3⟩⟩ := h
  exact ⟨_, sZ_n (p := p) (by simp only [vC, ha, Option.bind_some, hc, if_true, h1, rZ, zI_iZ, Option.map_some]) hk, h3⟩
theorem wRIc (ha : a L σ = some (As, τ)) (hc : ckV ci As = true) (h : WpF F As τ (fun r σ' => ∃ x : Int, r = some (pI (Int32.ofInt x)) ∧ R r σ')) : WpS (sRI (vC ci F rI a)) L σ N B C R := by
  obtain ⟨r, σ', h1, ⟨x, rfl, h3⟩⟩ := h
  exact wRIw (wIc ha hc ⟨_, σ', h1, x, rfl, h3⟩)
theorem wRZc (ha : a L σ = some (As, τ)) (hc : ckV ci As = true) (h : WpF F As τ (fun r σ' => ∃ p : Bool, r = some (pI (zI p)) ∧ R r σ')) : WpS (sRZ (vC ci F rZ a)) L σ N B C R := by
  obtain ⟨r, σ', h1, ⟨p, rfl, h3⟩⟩ := h
  exact ⟨_, sRZ_n (p := p) (by simp only [vC, ha, Option.bind_some, hc, if_true, h1, rZ, zI_iZ, Option.map_some]), h3⟩
theorem wXI {P : Int → Prop} {x : Int} (h : P x) : ∃ y : Int, some (pI (Int32.ofInt x)) = some (pI (Int32.ofInt y)) ∧ P y := ⟨x, rfl, h⟩
theorem wXB {T F : Prop} {p : Bool} (h1 : p = true → T) (h2 : p = false → F) : ∃ q : Bool, some (pI (zI p)) = some (pI (zI q)) ∧ (q = true → T) ∧ (q = false → F) := ⟨p, rfl, h1, h2⟩
end WPC
theorem wModA2 {L : pLo} {N B C : pQ} {R : Option pV → pM → Prop} {G U : Nat → Nat → Int} {ci j o : Nat} {v w : Int} {a : eR} {e : eI} (ha : a L (zM G U) = some (o, zM G U)) (hh : okI ci j o = true) (he : e L (zM G U) = some (Int32.ofInt v, zM G U)) (hw : G o j = w) (h : N L (zM (upZ G o j (w + v)) U)) : WpS (sMod ci j (fun x y => x + y) a e) L (zM G U) N B C R := wModA ha hh he (hw ▸ h)
theorem wModS2 {L : pLo} {N B C : pQ} {R : Option pV → pM → Prop} {G U : Nat → Nat → Int} {ci j o : Nat} {v w : Int} {a : eR} {e : eI} (ha : a L (zM G U) = some (o, zM G U)) (hh : okI ci j o = true) (he : e L (zM G U) = some (Int32.ofInt v, zM G U)) (hw : G o j = w) (h : N L (zM (upZ G o j (w - v)) U)) : WpS (sMod ci j (fun x y => x - y) a e) L (zM G U) N B C R := wModS ha hh he (hw ▸ h)
theorem wModO2 {L : pLo} {N B C : pQ} {R : Option pV → pM → Prop} {G U : Nat → Nat → Int} {ci j o m n : Nat} {a : eR} {e : eI} (ha : a L (zM G U) = some (o, zM G U)) (hh : okI ci j o = true) (he : e L (zM G U) = some (Int32.ofInt (n : Int), zM G U)) (hw : G o j = (m : Int)) (hm : m < 2 ^ 31) (hn : n < 2 ^ 31) (h : N L (zM (upZ G o j ((m ||| n : Nat) : Int)) U)) : WpS (sMod ci j (fun x y => x ||| y) a e) L (zM G U) N B C R := wS_n (by simp only [sMod, ha, he, Option.bind_some, hh, if_true, zM1, hw, iI_or hm hn, up1_zM]) h
