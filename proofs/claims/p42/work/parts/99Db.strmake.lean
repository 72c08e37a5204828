/-! ===== toString: a new String with the builder's letters ===== -/
abbrev bEn (v : Nat) (ml : Int32) (n : Nat) : va_E := .inr (13, [.ref v, .int 0, .int ml, .int (nI n)])
abbrev yEn (E : cEnv) (m : Nat) (f : Nat → Int32) : va_E := .inl (E.2.2.1.2.1, m, .inl f)
/-- a String that was made: its bytes are the letters of t -/
def sW (E : cEnv) (as n : Nat) (t : Nat → Nat) (H : Heap) : Prop := ∃ (v2 : Nat) (g : Nat → Int32), va_P E.2.1 classes [(as, .inr (14, [.ref v2, .int 0, .int 0, .int 0])), (v2, yEn E n g)] H ∧ va_D (cFree E) [(as, .inr (14, [.ref v2, .int 0, .int 0, .int 0])), (v2, yEn E n g)] ∧ sb_Lat t n g ∧ sb_Fit g
theorem va_S.after {A : Nat → Prop} {H0 H H1 : Heap} {locs locs1 : List Loc} (h : va_S A H0 H locs) (h1 : H.size ≤ H1.size) (h2 : ∀ q : Nat, q < H.size → ¬ A q → H1[q]? = H[q]?) (h3 : ∀ q ∈ locs1, q ∈ locs ∨ A q.base) : va_S A H0 H1 locs1 := ⟨Nat.le_trans h.1 h1, fun q g1 g2 => (h2 q (Nat.lt_of_lt_of_le g1 h.1) g2).trans (h.2.1 q g1 g2), fun q hq => (h3 q hq).elim (h.2.2 q) id⟩
def i2Pre (E : cEnv) (q : xA) (as a v n m : Nat) (ml : Int32) (f : Nat → Int32) (U : State) : Prop := (va_P E.2.1 classes [(as, .inr (14, [.null, .int 0, .int 0, .int 0])), (a, bEn v ml n), (v, yEn E m f)] U.heap ∧ va_D (cFree E) [(as, .inr (14, [.null, .int 0, .int 0, .int 0])), (a, bEn v ml n), (v, yEn E m f)] ∧ E.1 ≤ U.heap.size) ∧ va_K E.2.1 classes E.2.2.2 U ∧ pNw U ∧ xFx E q U U.heap
def i2Post (E : cEnv) (as n : Nat) (t : Nat → Nat) : Array Value → State → Outcome → State → Prop := fun _ st oc u => oc = .returned none ∧ sW E as n t u.heap ∧ va_F (cFree E) st u
set_option maxHeartbeats 2000000 in
theorem met_init2 {l : Launch} {E : cEnv} (hE : cOkE E) {q : xA} {as a v n m : Nat} {ml : Int32} {f : Nat → Int32} {t : Nat → Nat} (hnm : n < m) (hm : m ≤ 65536) (hn : n ≤ 100) (hL : sb_Lat t n f) (hf : sb_Fit f) : Met l yJ0_init_db425 (Cond.code yJ0_init_db425 cJ0_init_db425 5 none :: tb) (cRm 5 1 100) (va_Pc [.ref as, .ref a, .null] (i2Pre E q as a v n m ml f)) (i2Post E as n t) 1 100 (cFree E) := by
  refine Met.ofW (cc := cJ0_init_db425) (maxL := 5) (ret := none) (by decide +kernel) rfl ?_
  intro p e s m0 args below meth c s₁ B hml hv
  obtain ⟨rfl, ⟨hP, hD, hb0⟩, hK, hnw, hfx⟩ := hv
  have hts : ∀ w ∈ tb, w.before ([.ref as, .ref a, .null] : List Value).toArray s = true := fun w hw => atoms_spec (ws := Cond.code yJ0_init_db425 cJ0_init_db425 5 none :: tb) B.pre w (List.mem_cons_of_mem _ hw)
  have hr := B.returns
  have hx := B.exec
  have hb := B.bytes
  have hlocks := B.notSynchronized
  have hown : s.vm.findClass RJ0 = some m0.cls := findClass_of_methodNamed B.named
  have hnm0 : meth.name = "<init>" := (name_of_methodNamed B.named B.method).1
  rw [lg_entry_eq]
  have hent := lv_entry ([.ref as, .ref a, .null] : List Value) (n := 5) (Nat.le_of_ble_eq_true rfl)
  generalize (lg_sl ([.ref as, .ref a, .null] : List Value) ++ List.replicate (5 - (lg_sl ([.ref as, .ref a, .null] : List Value)).length) Slot.unset).toArray = ls at hent ⊢
  have hl : lv_has ls 5 [(0, .ref as), (1, .ref a)] := lv_sub hent [0, 1] rfl
  have hs0 : ∀ (H : Heap) (locs : List Loc), va_S (cFree E) s.heap H locs → sStr (q.2.1 0) (q.2.2 0) 1 (fun _ => xB 0) (cFree E) s H := fun H locs hS => ((xFx_kept hfx hS.2.1).2.2.2.2.2 0 (by decide)).2
  have hfxE : ∀ (H : Heap) (locs : List Loc) (ws : va_W) (h : Nat), va_S (cFree E) s.heap H locs → tFx (xE E q ws a v h (q.2.1 0) (q.2.2 0) 1 (fun _ => xB 0)) s H := fun H locs ws h hS => xE_fx (xFx_kept hfx hS.2.1) (hs0 H locs hS)
  have hok : ∀ (ws : va_W) (h : Nat), tOk (xE E q ws a v h (q.2.1 0) (q.2.2 0) 1 (fun _ => xB 0)) := fun _ _ => hE.2.1
  refine lv_aload_n hx hb dJ0_init_db425_0 rfl (lv_at hl 0 rfl) ?_
  refine W.objInit hx hb hown (hts _ je_ob) (hts _ lk_obj.1) (hts _ lk_obj.2) rfl (by rw [hml]; exact hl.1) rfl dJ0_init_db425_1 (Nat.le_of_ble_eq_true rfl) (Nat.le_of_ble_eq_true rfl) ?_
  refine W.eq (g2 := F0 m0 4 ls []) rfl ?_
  refine lv_aload_n hx hb dJ0_init_db425_4 rfl (lv_at hl 1 rfl) ?_
  -- getValue
  have hH0 : tHp (xE E q [(as, .inr (14, [.null, .int 0, .int 0, .int 0]))] a v 0 (q.2.1 0) (q.2.2 0) 1 (fun _ => xB 0)) [.inr [pR 1, pI 0, pI ml, pI (nI n)], .inl (m, f)] s.heap := ⟨hP, hD, hb0⟩
  refine W.eq (g2 := F0 m0 5 ls ((([] : List pV).map (pv (xE E q [(as, .inr (14, [.null, .int 0, .int 0, .int 0]))] a v 0 (q.2.1 0) (q.2.2 0) 1 (fun _ => xB 0)).1)).reverse ++ .ref ((xE E q [(as, .inr (14, [.null, .int 0, .int 0, .int 0]))] a v 0 (q.2.1 0) (q.2.2 0) 1 (fun _ => xB 0)).1 0) :: [])) rfl ?_
  refine tq_V hx hb hml hown hts hK hnw (hfxE _ _ _ _ va_S.rf) hH0 (fun h => by cases h) hl.1 dJ0_init_db425_5 jc_J0_552 (Or.inl ⟨rfl, _, rfl⟩) rfl (by decide) (tm_getValue (l := l) (hok _ _)) (by decide) (by decide) (by decide) (by decide) (fun H1 locs1 hH1 hz1 hk1 hl1 => ?_)
  have hS1 : va_S (cFree E) s.heap H1 locs1 := va_S.rf.after hz1 hk1 hl1
  refine W.eq (g2 := F0 m0 8 ls [.ref v]) rfl ?_
  refine lv_astore_n hx hb dJ0_init_db425_8 rfl hl (Nat.le_of_ble_eq_true rfl) (lv' := [(3, .ref v), (0, .ref as), (1, .ref a)]) rfl (fun ls2 hl2 => ?_)
  refine lv_aload_n hx hb dJ0_init_db425_9 rfl (lv_at hl2 2 rfl) ?_
  refine W.eq (g2 := F0 m0 10 ls2 (.ref ((xE E q [(as, .inr (14, [.null, .int 0, .int 0, .int 0]))] a v 0 (q.2.1 0) (q.2.2 0) 1 (fun _ => xB 0)).1 0) :: [])) rfl ?_
  refine tq_len hx hb hml hown hts hK hnw (hfxE _ _ _ _ hS1) hH1 hE.2.1 hl2.1 dJ0_init_db425_10 rfl rfl (by decide) (by decide) (by decide) (by decide) (by decide) (fun H2 locs2 hH2 hz2 hk2 hl2' => ?_)
  have hS2 : va_S (cFree E) s.heap H2 locs2 := hS1.after hz2 hk2 hl2'
  refine lv_istore hx hb dJ0_init_db425_13 hl2 (Nat.le_of_ble_eq_true rfl) (lv' := [(4, .int (nI n)), (3, .ref v), (0, .ref as), (1, .ref a)]) rfl (fun ls3 hl3 => ?_)
  refine lv_aload_n hx hb dJ0_init_db425_15 rfl (lv_at hl3 3 rfl) ?_
  refine W.eq (g2 := F0 m0 16 ls3 ((([] : List pV).map (pv (xE E q [(as, .inr (14, [.null, .int 0, .int 0, .int 0]))] a v 0 (q.2.1 0) (q.2.2 0) 1 (fun _ => xB 0)).1)).reverse ++ .ref ((xE E q [(as, .inr (14, [.null, .int 0, .int 0, .int 0]))] a v 0 (q.2.1 0) (q.2.2 0) 1 (fun _ => xB 0)).1 0) :: [])) rfl ?_
  refine tq_V hx hb hml hown hts hK hnw (hfxE _ _ _ _ hS2) hH2 (fun h => by cases h) hl3.1 dJ0_init_db425_16 jc_J0_1047 (Or.inl ⟨rfl, _, rfl⟩) rfl (by decide) (tm_isLatin1 (l := l) (hok _ _)) (by decide) (by decide) (by decide) (by decide) (fun H3 locs3 hH3 hz3 hk3 hl3' => ?_)
  have hS3 : va_S (cFree E) s.heap H3 locs3 := hS2.after hz3 hk3 hl3'
  refine W.eq (g2 := F0 m0 19 ls3 [.int 1]) rfl ?_
  refine lv_if_eq hx hb dJ0_init_db425_19 (tgt := 41) rfl (fun q => absurd q (by decide)) (fun _ => ?_)
  refine lv_aload_n hx hb dJ0_init_db425_22 rfl (lv_at hl3 2 rfl) ?_
  refine lv_iconst hx hb dJ0_init_db425_23 (v := 0) rfl ?_
  obtain ⟨hP3, hD3, hb3⟩ := hH3
  refine va_putF hx hb hts ck14.2.1 tyJ0 tyJ0_ok nmJ0 hown hK hP3 hD3 hS3 0 rfl ck14.1 1 (by decide) (hts _ je_co) (fun _ z => z) rfl hnm0 rfl rfl rfl rfl (by decide) dJ0_init_db425_24 (fun H4 locs4 hP4 hD4 hS4 => ?_)
  refine lv_aload_n hx hb dJ0_init_db425_27 rfl (lv_at hl3 2 rfl) ?_
  refine lv_aload_n hx hb dJ0_init_db425_28 rfl (lv_at hl3 1 rfl) ?_
  refine lv_iconst hx hb dJ0_init_db425_29 (v := nI 0) rfl ?_
  refine lv_iload hx hb dJ0_init_db425_30 (lv_at hl3 0 rfl) ?_
  -- copyOfRange
  have hH4 : tHp (xE E q [(as, .inr (14, [.null, .int 0, .int 0, .int 0]))] a v H4.size (q.2.1 0) (q.2.2 0) 1 (fun _ => xB 0)) [.inr [pR 1, pI 0, pI ml, pI (nI n)], .inl (m, f)] H4 := ⟨hP4, hD4, Nat.le_trans hb0 hS4.1⟩
  refine W.eq (g2 := F0 m0 32 ls3 ((([pR 1, pI (nI 0), pI (nI n)] : List pV).map (pv (xE E q [(as, .inr (14, [.null, .int 0, .int 0, .int 0]))] a v H4.size (q.2.1 0) (q.2.2 0) 1 (fun _ => xB 0)).1)).reverse ++ [.ref as])) rfl ?_
  refine tq_S hx hb hml hown hts hK hnw (hfxE _ _ _ _ hS4) hH4 (fun _ => rfl) hl3.1 dJ0_init_db425_32 jc_J0_54 rfl (Nat.le_of_ble_eq_true rfl) (tm_copyRange (l := l) (hok _ _) hm hn hnm hf) (by decide) (by decide) (by decide) (by decide) (fun H5 locs5 hH5 hz5 hk5 hl5' => ?_)
  have hS5 : va_S (cFree E) s.heap H5 locs5 := hS4.after hz5 hk5 hl5'
  obtain ⟨hP5, hD5, hb5⟩ := hH5
  refine W.eq (g2 := F0 m0 35 ls3 [.ref H4.size, .ref as]) rfl ?_
  refine va_putF hx hb hts ck14.2.1 tyJ0 tyJ0_ok nmJ0 hown hK hP5 hD5 hS5 0 rfl ck14.1 0 (by decide) (hts _ je_va) (fun _ z => z) rfl hnm0 rfl rfl rfl rfl (by decide) dJ0_init_db425_35 (fun H6 locs6 hP6 hD6 hS6 => ?_)
  refine lv_goto hx hb dJ0_init_db425_38 (tgt := 97) rfl ?_
  refine W.widen (Nat.le_of_ble_eq_true rfl) (Nat.le_of_ble_eq_true rfl) (W.vret (Qc := i2Post E as n t) hx hb hr (fun u hu _ => ⟨rfl, ⟨H4.size, va_cpy f (fun _ => 0) 0 0 n, ?_, ?_, fun j hj => ?_, sb_fitC hf sb_fit0⟩, hS6.F hu⟩) hS6.2.2 dJ0_init_db425_97 hlocks)
  · rw [hu]
    exact hP6.sub [0, 3] rfl
  · exact hD6.sub [0, 3] rfl rfl
  · rw [sb_cpy0 hj]
    exact hL j hj
