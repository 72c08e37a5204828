/-! ===== the law's tell(o, s): every letter is fed ===== -/
theorem sStr.low {a v n : Nat} {t : Nat → Nat} {A : Nat → Prop} {U : State} {H : Heap} (h : sStr a v n t A U H) : a < H.size ∧ v < H.size ∧ ¬ A a ∧ ¬ A v := by
  obtain ⟨⟨c1, g1, g2, g3, g4⟩, -, -, ⟨c2, h1, h2, h3, h4, h5, h6, h7⟩⟩ := h
  exact ⟨(Array.getElem?_eq_some_iff.mp g1).1, (Array.getElem?_eq_some_iff.mp h1).1, g4, h7⟩
theorem sStr.at {a v n : Nat} {t : Nat → Nat} {A B : Nat → Prop} {U : State} {H : Heap} (h : sStr a v n t A U H) (h1 : ¬ B a) (h2 : ¬ B v) : sStr a v n t B U H := by
  obtain ⟨⟨c1, g1, g2, g3, g4⟩, ⟨cf, k, i, f, cell, i1, i2, i3, i4, i5, i6⟩, ⟨cf2, k2, i2', f2, cell2, j1, j2, j3, j4, j5, j6⟩, ⟨c2, k1, k2', k3, k4, k5, k6, k7⟩⟩ := h
  exact ⟨⟨c1, g1, g2, g3, h1⟩, ⟨cf, k, i, f, cell, i1, i2, i3, i4, i5, h1⟩, ⟨cf2, k2, i2', f2, cell2, j1, j2, j3, j4, j5, h1⟩, ⟨c2, k1, k2', k3, k4, k5, k6, h2⟩⟩
theorem pHp_gh {E : pEnv} {G1 U1 G2 U2 : Nat → Nat → Int} {H : Heap} (h : gh G1 U1 G2 U2) (hH : pHp E (zM G1 U1) H) : pHp E (zM G2 U2) H := by
  have key : ∀ k, rl E.1 k → k < 200 → G2 k = G1 k ∧ U2 k = U1 k := fun k hk hl => h k (by
    rcases hk with h | h | h
    · exact Or.inl h
    · omega
    · have h3 := (List.mem_filter.mp h).1
      simp at h3
      omega)
  exact pHp_ghost (fun k hk hl => by funext b; show Int32.ofInt (G2 k b) = Int32.ofInt (G1 k b); rw [(key k hk hl).1]) (fun k hk hl => by funext b; show Int64.ofInt (U2 k b) = Int64.ofInt (U1 k b); rw [(key k hk hl).2]) hH
abbrev tCE (b : Nat) (E : pEnv) : cEnv := (b, E.2.1, E.2.2.1, E.2.2.2.1)
section TL
variable {p : Program} {l : Launch} {e : Env} {R : Room} {s : State} {m : MethodId} {args : Array Value} {below : List Frame} {meth : Method} {c : Code} {Q : State → Prop} {cc : ByteArray} {nL d cells slots : Nat} {own : String} {scr : Option (Nat × Nat × (Nat → Int32))}
theorem pG_re {E : pEnv} {pc : Nat} {L : pLo} {S : List pV} {G1 U1 G2 U2 : Nat → Nat → Int} {H0 : Heap} (h : gh G1 U1 G2 U2) (hg : pG p l e R s m args below meth c Q E H0 nL cells slots pc (L, S, zM G2 U2)) : pG p l e R s m args below meth c Q E H0 nL cells slots pc (L, S, zM G1 U1) :=
  fun hlen hR ls H locs hl hH hS => hg hlen hR ls H locs hl (pHp_gh h hH) hS
/-- what stands beside: tables, a String -/
def tSd (E : pEnv) (q : xA) (b : Nat) (sv : Nat) (tx : Tx) (s : State) : Prop := xFx (tCE b E) q s s.heap ∧ sStr (E.1 6000) sv tx.2 tx.1 E.2.2.2.2.2 s s.heap ∧ (∀ a, E.2.2.2.2.2 a → b ≤ a) ∧ ∀ a, s.heap.size ≤ a → E.2.2.2.2.2 a
theorem pG_str {E : pEnv} {q : xA} {b sv k idx pc dT : Nat} {tx : Tx} {y : MethodName} {As rest : List pV} {x : Int32} {L : pLo} {σ : pM} (C : pCx p R s m args meth c E s.heap own cc nL d cells slots scr) (hsd : tSd E q b sv tx s) (hd : decode cc pc = .ok (.invokevirtual idx, 3)) (hv : TV own idx y k "java/lang/String") (hk : As.length = k) (hAs : As = [] ∨ ∃ z, As = [pI z]) (hsz : psz rest ≤ 8) (hrun : ∀ Et : tEnv, tOk Et → Et.2.2.2.1 = tx.2 → (∀ j, j < tx.2 → Et.2.2.2.2 j = sb_b (tx.1 j)) → tmRun l Et dT 0 y (pR 50 :: As) [] (some (pI x)) []) (hdT : dT + 1 ≤ R.frames) (hlT : 39 + 40 * dT ≤ R.locals)
    (hg : pG p l e R s m args below meth c Q E s.heap nL cells slots (pc + 3) (L, pI x :: rest, σ)) : pG p l e R s m args below meth c Q E s.heap nL cells slots pc (L, As.reverse ++ pR 6000 :: rest, σ) := by
  obtain ⟨hx, hb, hml, hown, hts, hK, ⟨hT0, hT1, hT2⟩, hfr, hlo, hce, hsl, hlocks, hnw, hscr⟩ := C
  obtain ⟨hfx, hstr, hAb, hAs2⟩ := hsd
  intro hlen hR ls H locs hl hH hS
  dsimp only at hlen hl hR hH
  have hfree : ∀ a : Nat, a < s.heap.size → ¬ cFree (tCE b E) a → H[a]? = s.heap[a]? := fun a h1 h2 => hS.2.1 a h1 fun z => h2 (hAb a z)
  have hfxH : xFx (tCE b E) q s H := xFx_kept hfx hfree
  have hsH : sStr (E.1 6000) sv tx.2 tx.1 E.2.2.2.2.2 s H := hstr.kept hS.2.1
  have hbH : b ≤ H.size := Nat.le_trans (hAb _ (hAs2 _ (Nat.le_refl _))) hS.1
  have hlow := hsH.low
  have hsE : sStr (E.1 6000) sv tx.2 tx.1 (cFree (tCE H.size E)) s H := hsH.at (fun z => by have : H.size ≤ E.1 6000 := z; omega) (fun z => by have : H.size ≤ sv := z; omega)
  have hH0 : tHp (xE (tCE H.size E) q [] 0 0 0 (E.1 6000) sv tx.2 tx.1) [] H := ⟨fun k q hk => by simp [tW, tWl, xE] at hk, ⟨fun i j p q hi => by simp [tW, tWl, xE] at hi, fun k q hk => by simp [tW, tWl, xE] at hk⟩, Nat.le_refl _⟩
  have hok : tOk (xE (tCE H.size E) q [] 0 0 0 (E.1 6000) sv tx.2 tx.1) := hT1
  have hmap : As.map (pv (xE (tCE H.size E) q [] 0 0 0 (E.1 6000) sv tx.2 tx.1).1) = As.map (pv E.1) := by
    rcases hAs with rfl | ⟨z, rfl⟩ <;> rfl
  have hst0 : List.map (pv E.1) (As.reverse ++ pR 6000 :: rest) = (As.map (pv (xE (tCE H.size E) q [] 0 0 0 (E.1 6000) sv tx.2 tx.1).1)).reverse ++ .ref ((xE (tCE H.size E) q [] 0 0 0 (E.1 6000) sv tx.2 tx.1).1 50) :: rest.map (pv E.1) := by
    rw [hmap]
    simp [pv, xE]
  refine W.eq (g2 := F0 m pc ls ((As.map (pv (xE (tCE H.size E) q [] 0 0 0 (E.1 6000) sv tx.2 tx.1).1)).reverse ++ .ref ((xE (tCE H.size E) q [] 0 0 0 (E.1 6000) sv tx.2 tx.1).1 50) :: rest.map (pv E.1))) (by show F0 m pc ls (List.map (pv E.1) (As.reverse ++ pR 6000 :: rest)) = _; rw [hst0]) ?_
  exact tq_V hx hb hml hown hts hK hnw (xE_fx (xFx_up (E' := tCE H.size E) hbH hfxH) hsE) hH0 (fun h => by cases h) hl.1 hd hv (Or.inr ⟨rfl, rfl⟩) hk (by rw [psz_map]; exact hsz) (hrun _ hok rfl (fun j _ => rfl)) hdT hlT hce hsl (fun H1 locs1 hH1 hz1 hk1 hl1 => hg hlen ⟨hR.1, RS_cons.mpr ⟨trivial, (RS_all.mpr fun v hv => RS_all.mp hR.2 v (List.mem_append_right _ (List.mem_cons_of_mem _ hv)))⟩⟩ ls H1 locs1 hl (pHp_kept hH (fun q0 g => hk1 q0 g (fun z => by have : H.size ≤ q0 := z; omega))) (hS.after hz1 (fun q0 g _ => hk1 q0 g (fun z => by have : H.size ≤ q0 := z; omega)) (fun q0 hq => (hl1 q0 hq).imp id fun z => hAs2 _ (Nat.le_trans hS.1 z))))
end TL
