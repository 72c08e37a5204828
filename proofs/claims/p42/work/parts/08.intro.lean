/-! ===== a method's contract out of its run on the plain machine ===== -/
def pEnt : List pV → pLo
  | [] => []
  | .inr (.inl x) :: t => some (.inr (.inl x)) :: none :: pEnt t
  | .inr (.inr x) :: t => some (.inr (.inr x)) :: pEnt t
  | .inl x :: t => some (.inl x) :: pEnt t
def pL0 (As : List pV) (n : Nat) : pLo := pEnt As ++ List.replicate (n - (pEnt As).length) none
theorem RS_ent {ad : Nat → Nat} : ∀ {As : List pV}, RS ad As → ∀ (j : Nat) (v : pV), (pEnt As)[j]? = some (some v) → RV ad v
  | [], _, j, v, hj => by simp [pEnt] at hj
  | .inr (.inl x) :: t, h, j, v, hj => by
    simp only [pEnt] at hj
    match j with
    | 0 => simp at hj; subst hj; exact trivial
    | 1 => simp at hj
    | j + 2 => exact RS_ent (As := t) h j v (by simpa using hj)
  | .inr (.inr x) :: t, h, j, v, hj => by
    simp only [pEnt] at hj
    match j with
    | 0 => simp at hj; subst hj; exact h.1
    | j + 1 => exact RS_ent (As := t) h.2 j v (by simpa using hj)
  | .inl x :: t, h, j, v, hj => by
    simp only [pEnt] at hj
    match j with
    | 0 => simp at hj; subst hj; exact trivial
    | j + 1 => exact RS_ent (As := t) h j v (by simpa using hj)
theorem RLo_L0 {ad : Nat → Nat} {As : List pV} {n : Nat} (h : RS ad As) : RLo ad (pL0 As n) := by
  intro j v hj
  unfold pL0 at hj
  rcases Nat.lt_or_ge j (pEnt As).length with g | g
  · rw [List.getElem?_append_left g] at hj
    exact RS_ent h j v hj
  · rw [List.getElem?_append_right g, List.getElem?_replicate] at hj
    split at hj <;> simp at hj
theorem pll_rep (ad : Nat → Nat) : ∀ (n i : Nat), pll ad i (List.replicate n none) = []
  | 0, i => rfl
  | n + 1, i => by rw [List.replicate_succ, pll, pll_rep ad n]
theorem pll_ent (ad : Nat → Nat) (n : Nat) : ∀ (As : List pV) (i : Nat), pll ad i (pEnt As ++ List.replicate n none) = lv_args i (As.map (pv ad))
  | [], i => by simp [pEnt, pll_rep, lv_args]
  | .inr (.inl x) :: t, i => by
    simp only [pEnt, List.cons_append, pll, List.map_cons, lv_args]
    rw [pll_ent ad n t]; rfl
  | .inr (.inr x) :: t, i => by
    simp only [pEnt, List.cons_append, pll, List.map_cons, lv_args]
    rw [pll_ent ad n t]; rfl
  | .inl x :: t, i => by
    simp only [pEnt, List.cons_append, pll, List.map_cons, lv_args]
    rw [pll_ent ad n t]; rfl
theorem lg_cons (v : Value) (t : List Value) : lg_sl (v :: t) = (if v.category = 2 then [Slot.val v, .second] else [Slot.val v]) ++ lg_sl t := by
  unfold lg_sl; rw [List.flatMap_cons]
theorem pEnt_len (ad : Nat → Nat) : ∀ As : List pV, (lg_sl (As.map (pv ad))).length = (pEnt As).length
  | [] => rfl
  | .inr (.inl x) :: t => by
    rw [List.map_cons, lg_cons, if_pos (show (pv ad (.inr (.inl x))).category = 2 from rfl), List.length_append, pEnt_len ad t]
    simp only [pEnt, List.length_cons, List.length_nil]; omega
  | .inr (.inr x) :: t => by
    rw [List.map_cons, lg_cons, if_neg (show ¬ (pv ad (.inr (.inr x))).category = 2 from (by simp [pv, Value.category])), List.length_append, pEnt_len ad t]
    simp only [pEnt, List.length_cons, List.length_nil]; omega
  | .inl x :: t => by
    rw [List.map_cons, lg_cons, if_neg (show ¬ (pv ad (.inl x)).category = 2 from (by simp [pv, Value.category])), List.length_append, pEnt_len ad t]
    simp only [pEnt, List.length_cons, List.length_nil]; omega
def pNar (ret : Option FieldType) : Option pV → Prop
  | none => ret = none
  | some (.inl x) => ret = some .int ∨ (ret = some .boolean ∧ (x = 0 ∨ x = 1))
  | some (.inr (.inl _)) => ret = some .long
  | some (.inr (.inr _)) => ∃ C, ret = some (.object C)
set_option maxHeartbeats 1000000 in
theorem pRun_intro {l : Launch} {E : pEnv} (hE : pOkE E) {d : Nat} {y : MethodName} {own : String} {bytes : ByteArray} {maxL : Nat} {ret : Option FieldType} {As : List pV} {σ σ' : pM} {r : Option pV}
    (hcode : Cond.code y bytes maxL ret ∈ tb) (hown : y.cls = own) (hpl : plainName y.cls = true) (hmx : maxL ≤ 20) (hlen : (pEnt As).length ≤ maxL) (hnar : pNar ret r)
    (h : ∀ G : Nat → pSt → Prop, pRules own bytes none (pRun l E d) (fun v τ => v = r ∧ τ = σ') G → G 0 (pL0 As maxL, [], σ)) : pRun l E (d + 1) y As σ r σ' := by
  refine ⟨bytes, maxL, ret, d + 1, hcode, hmx, Nat.le_refl _, Met.ofW (cc := bytes) (maxL := maxL) (ret := ret) hpl rfl ?_⟩
  intro p e s m args below meth c s₁ B hml hv
  obtain ⟨rfl, hH, hK, hnw, hRA⟩ := hv
  have hts : ∀ w ∈ tb, w.before (As.map (pv E.1)).toArray s = true := fun w hw => atoms_spec (ws := Cond.code y bytes maxL ret :: tb) B.pre w (List.mem_cons_of_mem _ hw)
  have hr := B.returns
  have hx := B.exec
  have hb := B.bytes
  have hlocks := B.notSynchronized
  have C : pCx p (headSpec (Cond.code y bytes maxL ret :: tb) (pRm (d + 1))).room s m (As.map (pv E.1)).toArray meth c E s.heap own bytes maxL d 0 0 none :=
    ⟨hx, hb, hml, by rw [← hown]; exact findClass_of_methodNamed B.named, hts, hK, hE, Nat.le_refl _, Nat.le_refl _, Nat.zero_le _, Nat.zero_le _, hlocks, hnw, fun a k xs z => by cases z⟩
  have hR := pG_sound (l := l) (e := e) (below := below) (Q := MQ below (pQc E r σ') (As.map (pv E.1)).toArray s 0 0 E.2.2.2.2.2) (RT := fun v τ => v = r ∧ τ = σ') C
    (by
      intro pc L τ v hd hv hlen2 hR ls H locs hl hH1 hS
      obtain ⟨hv1, rfl⟩ := hv
      subst hv1
      have hq : ∀ t : State, t.heap = H → s.WarmedH t.vm → pQc E (some v) τ (As.map (pv E.1)).toArray s (.returned (some (pv E.1 v))) t := fun t ht _ => ⟨rfl, by rw [ht]; exact hH1, hS.F ht, hR.2⟩
      rcases hd with ⟨hd, x, rfl⟩ | ⟨hd, x, rfl⟩ | ⟨hd, x, rfl⟩
      · rcases hnar with h1 | ⟨h1, h2⟩
        · exact W.iret hx hb (hr.trans h1) hq hS.2.2 hd hlocks
        · exact W.zret hx hb (hr.trans h1) (by rcases h2 with rfl | rfl <;> rfl) hq hS.2.2 hd hlocks
      · exact W.lret hx hb (hr.trans hnar) hq hS.2.2 hd hlocks
      · obtain ⟨C, h1⟩ := hnar
        exact W.aret hx hb (hr.trans h1) (Or.inl ⟨C, rfl⟩) (Or.inr ⟨_, rfl⟩) hq hS.2.2 hd hlocks)
    (by
      intro pc L τ hd hv hlen2 hR ls H locs hl hH1 hS
      obtain ⟨rfl, rfl⟩ := hv
      exact W.vret hx hb (hr.trans hnar) (fun t ht _ => ⟨rfl, by rw [ht]; exact hH1, hS.F ht, trivial⟩) hS.2.2 hd hlocks)
  have hg := h _ hR
  rw [lg_entry_eq]
  have hent := lv_entry (As.map (pv E.1)) (n := maxL) (by rw [pEnt_len]; exact hlen)
  refine hg (by simp only [pL0, List.length_append, List.length_replicate]; omega) ⟨RLo_L0 hRA, trivial⟩ _ s.heap [] ?_ hH va_S.rf
  show lv_has _ maxL (pll E.1 0 (pL0 As maxL))
  rw [pL0, pll_ent]
  exact hent
