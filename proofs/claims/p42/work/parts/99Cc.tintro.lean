/-! ===== a contract out of a run of the text machine ===== -/
def tNar (ret : Option FieldType) : Option pV → Prop
  | none => ret = none
  | some (.inl x) => ∃ ty, ret = some ty ∧ narrow ty (.int x) = .int x
  | some (.inr (.inl _)) => False
  | some (.inr (.inr _)) => ∃ rt, ret = some rt ∧ ((∃ n, rt = .object n) ∨ ∃ t, rt = .array t)
def tOk (E : tEnv) : Prop := E.2.1.2.2.2[1]? = some (E.2.1.2.2.1.2.1, .byte)
set_option maxHeartbeats 1000000 in
theorem tmRun_intro {l : Launch} {E : tEnv} (hE : tOk E) {d ak : Nat} {y : MethodName} {own : String} {bytes : ByteArray} {maxL : Nat} {ret : Option FieldType} {As : List pV} {cs cs' : List tC} {r : Option pV}
    (hcode : Cond.code y bytes maxL ret ∈ tb) (hown : y.cls = own) (hpl : plainName y.cls = true) (hmx : maxL ≤ 20) (hlen : (pEnt As).length ≤ maxL) (hnar : tNar ret r)
    (h : ∀ G : Nat → pLo → List pV → Bool → List tC → Prop, tmRules own bytes ak E.2.2.2.1 E.2.2.2.2 (tmRun l E d) (fun v τ => v = r ∧ τ = cs') G → G 0 (pL0 As maxL) [] false cs) : tmRun l E (d + 1) ak y As cs r cs' := by
  refine ⟨bytes, maxL, ret, d + 1, hcode, hmx, Nat.le_refl _, Met.ofW (cc := bytes) (maxL := maxL) (ret := ret) hpl rfl ?_⟩
  intro p e s m args below meth c s₁ B hml hv
  obtain ⟨rfl, hH, hK, hnw, hfx, had⟩ := hv
  have hts : ∀ w ∈ tb, w.before (As.map (pv E.1)).toArray s = true := fun w hw => atoms_spec (ws := Cond.code y bytes maxL ret :: tb) B.pre w (List.mem_cons_of_mem _ hw)
  have hr := B.returns
  have hx := B.exec
  have hb := B.bytes
  have hlocks := B.notSynchronized
  have C : tmCx p (headSpec (Cond.code y bytes maxL ret :: tb) (cRm (d + 1) (tMc ak) (tMs ak))).room s m (As.map (pv E.1)).toArray meth c E s.heap own bytes maxL d ak :=
    ⟨hx, hb, hml, by rw [← hown]; exact findClass_of_methodNamed B.named, hts, hK, hE, Nat.le_refl _, Nat.le_refl _, Nat.le_refl _, Nat.le_refl _, hlocks, hnw, ⟨rfl, hfx⟩, had, hH.2.2⟩
  have hwid : ∀ (b : Bool) (n : Nat), tCt n b ≤ n := fun b n => by cases b <;> simp [tCt]
  have hR := tmG_sound (l := l) (e := e) (below := below) (Q := MQ below (tQpost E ak r cs') (As.map (pv E.1)).toArray s (tMc ak) (tMs ak) (tA E)) (RT := fun v τ => v = r ∧ τ = cs') C
    (by
      intro pc L b τ x hd h0 hv hlen2 ls H locs hl hH1 hz hS
      obtain ⟨hv1, rfl⟩ := hv
      subst hv1
      obtain ⟨ty, h1, h2⟩ := hnar
      exact W.widen (hwid b _) (hwid b _) (W.zret hx hb (hr.trans h1) h2 (fun t ht _ => ⟨rfl, by rw [ht]; exact hH1, hS.F ht, fun h => by rw [ht]; exact hz (h0 h)⟩) hS.2.2 hd hlocks))
    (by
      intro pc L b τ x hd h0 hv hlen2 ls H locs hl hH1 hz hS
      obtain ⟨hv1, rfl⟩ := hv
      subst hv1
      obtain ⟨rt, h1, h2⟩ := hnar
      exact W.widen (hwid b _) (hwid b _) (W.aret hx hb (hr.trans h1) h2 (Or.inr ⟨_, rfl⟩) (fun t ht _ => ⟨rfl, by rw [ht]; exact hH1, hS.F ht, fun h => by rw [ht]; exact hz (h0 h)⟩) hS.2.2 hd hlocks))
    (by
      intro pc L b τ hd h0 hv hlen2 ls H locs hl hH1 hz hS
      obtain ⟨rfl, rfl⟩ := hv
      exact W.widen (hwid b _) (hwid b _) (W.vret hx hb (hr.trans hnar) (fun t ht _ => ⟨rfl, by rw [ht]; exact hH1, hS.F ht, fun h => by rw [ht]; exact hz (h0 h)⟩) hS.2.2 hd hlocks))
  have hg := h _ hR
  rw [lg_entry_eq]
  have hent := lv_entry (As.map (pv E.1)) (n := maxL) (by rw [pEnt_len]; exact hlen)
  refine hg (by simp only [pL0, List.length_append, List.length_replicate]; omega) _ s.heap [] ?_ hH (fun _ => rfl) va_S.rf
  show lv_has _ maxL (pll E.1 0 (pL0 As maxL))
  rw [pL0, pll_ent]
  exact hent
