/-! ===== the law's arms(v): its text ===== -/
theorem nI_toNat8 : (120 : Nat) < 256 ∧ (44 : Nat) < 256 := by decide
def cX1 : Tx := (fun _ => xB 0, 1)
def cC1 : Tx := (fun _ => xB 1, 1)
def aT1 (v : Nat) : Tx := txD (txS (txD (fun _ => 0, 0) (1 + v % 7)) cX1) (1 + v / 2 ^ 3 % 20)
def aT2 (v : Nat) : Tx := if v / 2 ^ 8 % 2 ^ 1 = 1 then txD (txS (txD (txS (txS (fun _ => 0, 0) (aT1 v)) cC1) (1 + v / 2 ^ 9 % 5)) cX1) (1 + v / 2 ^ 12 % 30) else aT1 v
def aT3 (v : Nat) : Tx := if v / 2 ^ 17 % 2 ^ 2 = 1 then txD (txS (txD (txS (txS (fun _ => 0, 0) (aT2 v)) cC1) (1 + v / 2 ^ 19 % 16)) cX1) (1 + v / 2 ^ 20 % 9) else aT2 v
theorem dg1 {w : Nat} (h : w < 10) : sb_dg w = 1 := by unfold sb_dg; rw [if_pos h]
theorem dg2 {w : Nat} (h : w < 100) : sb_dg w ≤ 2 := by
  unfold sb_dg
  split
  · decide
  · first
      | decide
      | (rw [if_pos h]; decide)
theorem txD_2 (p : Tx) (w : Nat) : (txD p w).2 = p.2 + sb_dg w := rfl
theorem txS_2 (p t : Tx) : (txS p t).2 = p.2 + t.2 := rfl
theorem aT1_2 (v : Nat) : (aT1 v).2 ≤ 4 := by
  have h1 := dg1 (w := 1 + v % 7) (by omega)
  have h2 := dg2 (w := 1 + v / 2 ^ 3 % 20) (by omega)
  show 0 + sb_dg _ + 1 + sb_dg _ ≤ 4
  omega
theorem aT2_2 (v : Nat) : (aT2 v).2 ≤ 9 := by
  have h0 := aT1_2 v
  have h1 := dg1 (w := 1 + v / 2 ^ 9 % 5) (by omega)
  have h2 := dg2 (w := 1 + v / 2 ^ 12 % 30) (by omega)
  unfold aT2
  split
  · show 0 + (aT1 v).2 + 1 + sb_dg _ + 1 + sb_dg _ ≤ 9
    omega
  · omega
theorem aT3_2 (v : Nat) : (aT3 v).2 ≤ 14 := by
  have h0 := aT2_2 v
  have h1 := dg2 (w := 1 + v / 2 ^ 19 % 16) (by omega)
  have h2 := dg1 (w := 1 + v / 2 ^ 20 % 9) (by omega)
  unfold aT3
  split
  · show 0 + (aT2 v).2 + 1 + sb_dg _ + 1 + sb_dg _ ≤ 14
    omega
  · omega
/-- letters below 256 -/
def tx8 (p : Tx) : Prop := ∀ j, j < p.2 → p.1 j < 256
theorem tx8_S {p t : Tx} (hp : tx8 p) (ht : tx8 t) : tx8 (txS p t) := fun j hj => by
  by_cases h : j < p.2
  · show sb_cat p.1 p.2 t.1 j < 256
    rw [sb_cat_lo h]; exact hp j h
  · obtain ⟨i, rfl⟩ : ∃ i, j = p.2 + i := ⟨j - p.2, by omega⟩
    show sb_cat p.1 p.2 t.1 _ < 256
    rw [sb_cat_hi]; exact ht i (by rw [txS_2] at hj; omega)
theorem tx8_D {p : Tx} (hp : tx8 p) (w : Nat) : tx8 (txD p w) := tx8_S (t := (sb_dec w, sb_dg w)) hp fun j _ => by
  show sb_dec w j < 256
  unfold sb_dec; omega
theorem tx8_0 : tx8 (fun _ => 0, 0) := fun j hj => absurd hj (Nat.not_lt_zero j)
theorem tx8_c (i : Nat) : tx8 (fun _ => xB i, 1) := fun j _ => by
  show xB i < 256
  unfold xB; split <;> decide
theorem tx8_1 (v : Nat) : tx8 (aT1 v) := tx8_D (tx8_S (tx8_D tx8_0 _) (tx8_c 0)) _
theorem tx8_2 (v : Nat) : tx8 (aT2 v) := by
  unfold aT2
  split
  · exact tx8_D (tx8_S (tx8_D (tx8_S (tx8_S tx8_0 (tx8_1 v)) (tx8_c 1)) _) (tx8_c 0)) _
  · exact tx8_1 v
theorem tx8_3 (v : Nat) : tx8 (aT3 v) := by
  unfold aT3
  split
  · exact tx8_D (tx8_S (tx8_D (tx8_S (tx8_S tx8_0 (tx8_2 v)) (tx8_c 1)) _) (tx8_c 0)) _
  · exact tx8_2 v
def aPre (E : cEnv) (q : xA) (U : State) : Prop := E.1 ≤ U.heap.size ∧ va_K E.2.1 classes E.2.2.2 U ∧ pNw U ∧ xFx E q U U.heap
def aPost (E : cEnv) (p : Tx) : Array Value → State → Outcome → State → Prop := fun _ st oc u => ∃ as base : Nat, oc = .returned (some (.ref as)) ∧ st.heap.size ≤ base ∧ sW (base, E.2) as p.2 p.1 u.heap ∧ va_F (fun q => st.heap.size ≤ q) st u
theorem a_blind (E : cEnv) (q : xA) (av : List Value) : FrameBlind (va_Pc av (aPre E q)) := by
  intro a0 U g mk h
  obtain ⟨q0, q1, q2, q3, q4⟩ := h
  exact ⟨q0, q1, va_K.moved (u := U) (U := U.calling g mk a0) (Vm.Alike.refl U.vm) q2, pNw.same (s := U) (U := U.calling g mk a0) rfl q3, xFx_any (u := U) (U := U.calling g mk a0) (Vm.Alike.refl U.vm) (fun _ _ h => vk_R.same (u := U) (U := U.calling g mk a0) rfl h) q4⟩
theorem jq_arms : Cond.code yL_arms cL_arms 2 (some (.object "java/lang/String")) ∈ tb := tb_at 1026 (by decide +kernel) rfl
section ARMS
variable {p : Program} {l : Launch} {e : Env} {R : Room} {s : State} {m : MethodId} {args : Array Value} {below : List Frame} {meth : Method} {c : Code} {Q : State → Prop} {E0 : cEnv} {q : xA} {v : Nat}
set_option maxHeartbeats 2000000 in
theorem arms_1 {H : Heap} {locs : List Loc} {ls : Array Slot} (C : aCx p s m args c E0 RL cL_arms 2) (hR : R.frames = 8 ∧ R.locals = 320 ∧ R.cells = 12 ∧ R.slots = 372) (hv : v < 2 ^ 25) (hfx : xFx E0 q s s.heap) (hb0 : E0.1 ≤ s.heap.size) (hS : va_S (fun q => s.heap.size ≤ q) s.heap H locs) (hl1 : lv_has ls 2 [(0, .int (nI v))])
    (kk : ∀ (as : Nat) (H1 : Heap) (locs1 : List Loc), (∃ base, s.heap.size ≤ base ∧ sW (base, E0.2) as (aT1 v).2 (aT1 v).1 H1) → va_S (fun q => s.heap.size ≤ q) s.heap H1 locs1 → W p l e R s m args below meth c H1 locs1 4 124 Q (F0 m 35 ls [.ref as])) : W p l e R s m args below meth c H locs 0 0 Q (F0 m 0 ls []) := by
  obtain ⟨hR1, hR2, hR3, hR4⟩ := hR
  have hv0 : ls[0]? = some (.val (.int (nI v))) := lv_at hl1 0 rfl
  have hle0 : E0.1 ≤ H.size := Nat.le_trans hb0 hS.1
  have hfH : xFx E0 q s H := xFx_kept hfx fun a h1 h2 => hS.2.1 a h1 (fun z => by have : s.heap.size ≤ a := z; omega)
  have hf1 : xFx (H.size, E0.2) q s H := xFx_up (E' := (H.size, E0.2)) hle0 hfH
  obtain ⟨hx, hb, hml, hown, hts, hK, hnw, hE⟩ := id C
  have C1 : aCx p s m args c (H.size, E0.2) RL cL_arms 2 := ⟨hx, hb, hml, hown, hts, hK, hnw, hE⟩
  have hle : (s.heap.size, E0.2).1 ≤ ((H.size, E0.2) : cEnv).1 := hS.1
  have hcs : ∀ i, i < 2 → vk_R RL (xIx i) (xTx i) (q.2.1 i) s := fun i hi => (hfx.2.2.2.2.2 i hi).1
  have hcx : ∀ i, i < 2 → sStr (q.2.1 i) (q.2.2 i) 1 (fun _ => xB i) (cFree (H.size, E0.2)) s H := fun i hi => (hf1.2.2.2.2.2 i hi).2
  have hd1 : ∀ w, w < 10 → sb_dg w = 1 := fun w h => dg1 h
  have hd2 : ∀ w, w < 100 → sb_dg w ≤ 2 := fun w h => dg2 h
  refine s_new (E0 := (s.heap.size, E0.2)) C1 hle rfl hf1.2.1 hS hl1.1 dL_arms_0 dL_arms_3 dL_arms_4 rfl (by decide) (by omega) (by omega) (by omega) (by omega) (fun H0 locs0 h0 => ?_)
  refine lv_iconst hx hb dL_arms_7 (v := nI 1) rfl ?_
  refine lv_iload_n hx hb dL_arms_8 rfl hv0 ?_
  refine lv_bipush hx hb dL_arms_9 (v := nI 7) rfl ?_
  refine lv_irem hx hb dL_arms_11 (by decide) ?_
  rw [pk_rem (by omega) (by decide) (by decide)]
  refine lv_iadd hx hb dL_arms_12 ?_
  rw [nI_add]
  refine s_appI C1 hle hf1 h0 hl1.1 dL_arms_13 rfl (by decide) (by show 0 + sb_dg (1 + v % 7) ≤ 16; have := hd1 (1 + v % 7) (by omega); omega) (by omega) (Nat.le_of_ble_eq_true rfl) (by omega) (by omega) (by omega) (by omega) (fun H1 locs1 h1 => ?_)
  refine va_ldcS hx hb hown (hcs 0 (by decide)) dL_arms_16 ?_
  refine s_appS (t := cX1) C1 hle hf1 h1 (hcx 0 (by decide)) hl1.1 dL_arms_18 rfl (by decide) (by show 0 + sb_dg (1 + v % 7) + 1 ≤ 16; have := hd1 (1 + v % 7) (by omega); omega) (by decide) (tx8_c 0) (Nat.le_of_ble_eq_true rfl) (by omega) (by omega) (by omega) (by omega) (fun H2 locs2 h2 => ?_)
  refine lv_iconst hx hb dL_arms_21 (v := nI 1) rfl ?_
  refine lv_iload_n hx hb dL_arms_22 rfl hv0 ?_
  refine lv_iconst hx hb dL_arms_23 (v := nI 3) rfl ?_
  refine lv_ishr hx hb dL_arms_24 ?_
  rw [pk_shrN (by omega) (nI 3 &&& 31) 3 (by decide)]
  refine lv_bipush hx hb dL_arms_25 (v := nI 20) rfl ?_
  refine lv_irem hx hb dL_arms_27 (by decide) ?_
  rw [pk_rem (by omega) (by decide) (by decide)]
  refine lv_iadd hx hb dL_arms_28 ?_
  rw [nI_add]
  refine s_appI C1 hle hf1 h2 hl1.1 dL_arms_29 rfl (by decide) (by show 0 + sb_dg (1 + v % 7) + 1 + sb_dg (1 + v / 2 ^ 3 % 20) ≤ 16; have := hd1 (1 + v % 7) (by omega); have := hd2 (1 + v / 2 ^ 3 % 20) (by omega); omega) (by omega) (Nat.le_of_ble_eq_true rfl) (by omega) (by omega) (by omega) (by omega) (fun H3 locs3 h3 => ?_)
  refine s_toStr C1 hle hf1 h3 hl1.1 dL_arms_32 rfl (by decide) (by show (aT1 v).2 < 16; have := aT1_2 v; omega) (by show (aT1 v).2 ≤ 100; have := aT1_2 v; omega) (by decide) (by omega) (by omega) (by omega) (by omega) (fun as H9 locs9 hw9 hS9 hp9 => ?_)
  exact kk as H9 locs9 ⟨H.size, hS.1, hw9⟩ hS9

set_option maxHeartbeats 2000000 in
theorem arms_2 {H : Heap} {locs : List Loc} {ls : Array Slot} (C : aCx p s m args c E0 RL cL_arms 2) (hR : R.frames = 8 ∧ R.locals = 320 ∧ R.cells = 12 ∧ R.slots = 372) (hv : v < 2 ^ 25) (hfx : xFx E0 q s s.heap) (hb0 : E0.1 ≤ s.heap.size) (hS : va_S (fun q => s.heap.size ≤ q) s.heap H locs) (hl1 : lv_has ls 2 [(0, .int (nI v))]) {sa sv : Nat} (hstr : sStr sa sv (aT1 v).2 (aT1 v).1 (fun q => H.size ≤ q) s H) (hv1 : ls[1]? = some (.val (.ref sa)))
    (kk : ∀ (as : Nat) (H1 : Heap) (locs1 : List Loc), (∃ base, s.heap.size ≤ base ∧ sW (base, E0.2) as (txD (txS (txD (txS (txS (fun _ => 0, 0) (aT1 v)) cC1) (1 + v / 2 ^ 9 % 5)) cX1) (1 + v / 2 ^ 12 % 30)).2 (txD (txS (txD (txS (txS (fun _ => 0, 0) (aT1 v)) cC1) (1 + v / 2 ^ 9 % 5)) cX1) (1 + v / 2 ^ 12 % 30)).1 H1) → va_S (fun q => s.heap.size ≤ q) s.heap H1 locs1 → W p l e R s m args below meth c H1 locs1 8 248 Q (F0 m 93 ls [.ref as])) : W p l e R s m args below meth c H locs 4 124 Q (F0 m 46 ls []) := by
  obtain ⟨hR1, hR2, hR3, hR4⟩ := hR
  have hv0 : ls[0]? = some (.val (.int (nI v))) := lv_at hl1 0 rfl
  have hle0 : E0.1 ≤ H.size := Nat.le_trans hb0 hS.1
  have hfH : xFx E0 q s H := xFx_kept hfx fun a h1 h2 => hS.2.1 a h1 (fun z => by have : s.heap.size ≤ a := z; omega)
  have hf1 : xFx (H.size, E0.2) q s H := xFx_up (E' := (H.size, E0.2)) hle0 hfH
  obtain ⟨hx, hb, hml, hown, hts, hK, hnw, hE⟩ := id C
  have C1 : aCx p s m args c (H.size, E0.2) RL cL_arms 2 := ⟨hx, hb, hml, hown, hts, hK, hnw, hE⟩
  have hle : (s.heap.size, E0.2).1 ≤ ((H.size, E0.2) : cEnv).1 := hS.1
  have hcs : ∀ i, i < 2 → vk_R RL (xIx i) (xTx i) (q.2.1 i) s := fun i hi => (hfx.2.2.2.2.2 i hi).1
  have hcx : ∀ i, i < 2 → sStr (q.2.1 i) (q.2.2 i) 1 (fun _ => xB i) (cFree (H.size, E0.2)) s H := fun i hi => (hf1.2.2.2.2.2 i hi).2
  have hd1 : ∀ w, w < 10 → sb_dg w = 1 := fun w h => dg1 h
  have hd2 : ∀ w, w < 100 → sb_dg w ≤ 2 := fun w h => dg2 h
  refine s_new (E0 := (s.heap.size, E0.2)) C1 hle rfl hf1.2.1 hS hl1.1 dL_arms_46 dL_arms_49 dL_arms_50 rfl (by decide) (by omega) (by omega) (by omega) (by omega) (fun H0 locs0 h0 => ?_)
  refine lv_aload_n hx hb dL_arms_53 rfl hv1 ?_
  refine s_appS (t := aT1 v) C1 hle hf1 h0 hstr hl1.1 dL_arms_54 rfl (by decide) (by show 0 + (aT1 v).2 ≤ 16; have := aT1_2 v; have := hd1 (1 + v / 2 ^ 9 % 5) (by omega); have := hd2 (1 + v / 2 ^ 12 % 30) (by omega); omega) (by show (aT1 v).2 ≤ 46; have := aT1_2 v; omega) (tx8_1 v) (Nat.le_of_ble_eq_true rfl) (by omega) (by omega) (by omega) (by omega) (fun H1 locs1 h1 => ?_)
  refine va_ldcS hx hb hown (hcs 1 (by decide)) dL_arms_57 ?_
  refine s_appS (t := cC1) C1 hle hf1 h1 (hcx 1 (by decide)) hl1.1 dL_arms_59 rfl (by decide) (by show 0 + (aT1 v).2 + 1 ≤ 16; have := aT1_2 v; have := hd1 (1 + v / 2 ^ 9 % 5) (by omega); have := hd2 (1 + v / 2 ^ 12 % 30) (by omega); omega) (by decide) (tx8_c 1) (Nat.le_of_ble_eq_true rfl) (by omega) (by omega) (by omega) (by omega) (fun H2 locs2 h2 => ?_)
  refine lv_iconst hx hb dL_arms_62 (v := nI 1) rfl ?_
  refine lv_iload_n hx hb dL_arms_63 rfl hv0 ?_
  refine lv_bipush hx hb dL_arms_64 (v := nI 9) rfl ?_
  refine lv_ishr hx hb dL_arms_66 ?_
  rw [pk_shrN (by omega) (nI 9 &&& 31) 9 (by decide)]
  refine lv_iconst hx hb dL_arms_67 (v := nI 5) rfl ?_
  refine lv_irem hx hb dL_arms_68 (by decide) ?_
  rw [pk_rem (by omega) (by decide) (by decide)]
  refine lv_iadd hx hb dL_arms_69 ?_
  rw [nI_add]
  refine s_appI C1 hle hf1 h2 hl1.1 dL_arms_70 rfl (by decide) (by show 0 + (aT1 v).2 + 1 + sb_dg (1 + v / 2 ^ 9 % 5) ≤ 16; have := aT1_2 v; have := hd1 (1 + v / 2 ^ 9 % 5) (by omega); have := hd2 (1 + v / 2 ^ 12 % 30) (by omega); omega) (by omega) (Nat.le_of_ble_eq_true rfl) (by omega) (by omega) (by omega) (by omega) (fun H3 locs3 h3 => ?_)
  refine va_ldcS hx hb hown (hcs 0 (by decide)) dL_arms_73 ?_
  refine s_appS (t := cX1) C1 hle hf1 h3 (hcx 0 (by decide)) hl1.1 dL_arms_75 rfl (by decide) (by show 0 + (aT1 v).2 + 1 + sb_dg (1 + v / 2 ^ 9 % 5) + 1 ≤ 16; have := aT1_2 v; have := hd1 (1 + v / 2 ^ 9 % 5) (by omega); have := hd2 (1 + v / 2 ^ 12 % 30) (by omega); omega) (by decide) (tx8_c 0) (Nat.le_of_ble_eq_true rfl) (by omega) (by omega) (by omega) (by omega) (fun H4 locs4 h4 => ?_)
  refine lv_iconst hx hb dL_arms_78 (v := nI 1) rfl ?_
  refine lv_iload_n hx hb dL_arms_79 rfl hv0 ?_
  refine lv_bipush hx hb dL_arms_80 (v := nI 12) rfl ?_
  refine lv_ishr hx hb dL_arms_82 ?_
  rw [pk_shrN (by omega) (nI 12 &&& 31) 12 (by decide)]
  refine lv_bipush hx hb dL_arms_83 (v := nI 30) rfl ?_
  refine lv_irem hx hb dL_arms_85 (by decide) ?_
  rw [pk_rem (by omega) (by decide) (by decide)]
  refine lv_iadd hx hb dL_arms_86 ?_
  rw [nI_add]
  refine s_appI C1 hle hf1 h4 hl1.1 dL_arms_87 rfl (by decide) (by show 0 + (aT1 v).2 + 1 + sb_dg (1 + v / 2 ^ 9 % 5) + 1 + sb_dg (1 + v / 2 ^ 12 % 30) ≤ 16; have := aT1_2 v; have := hd1 (1 + v / 2 ^ 9 % 5) (by omega); have := hd2 (1 + v / 2 ^ 12 % 30) (by omega); omega) (by omega) (Nat.le_of_ble_eq_true rfl) (by omega) (by omega) (by omega) (by omega) (fun H5 locs5 h5 => ?_)
  refine s_toStr C1 hle hf1 h5 hl1.1 dL_arms_90 rfl (by decide) (by show 0 + (aT1 v).2 + 1 + sb_dg (1 + v / 2 ^ 9 % 5) + 1 + sb_dg (1 + v / 2 ^ 12 % 30) < 16; have := aT1_2 v; have := hd1 (1 + v / 2 ^ 9 % 5) (by omega); have := hd2 (1 + v / 2 ^ 12 % 30) (by omega); omega) (by show 0 + (aT1 v).2 + 1 + sb_dg (1 + v / 2 ^ 9 % 5) + 1 + sb_dg (1 + v / 2 ^ 12 % 30) ≤ 100; have := aT1_2 v; have := hd1 (1 + v / 2 ^ 9 % 5) (by omega); have := hd2 (1 + v / 2 ^ 12 % 30) (by omega); omega) (by decide) (by omega) (by omega) (by omega) (by omega) (fun as H9 locs9 hw9 hS9 hp9 => ?_)
  exact kk as H9 locs9 ⟨H.size, hS.1, hw9⟩ hS9

set_option maxHeartbeats 2000000 in
theorem arms_3 {H : Heap} {locs : List Loc} {ls : Array Slot} (C : aCx p s m args c E0 RL cL_arms 2) (hR : R.frames = 8 ∧ R.locals = 320 ∧ R.cells = 12 ∧ R.slots = 372) (hv : v < 2 ^ 25) (hfx : xFx E0 q s s.heap) (hb0 : E0.1 ≤ s.heap.size) (hS : va_S (fun q => s.heap.size ≤ q) s.heap H locs) (hl1 : lv_has ls 2 [(0, .int (nI v))]) {sa sv : Nat} (hstr : sStr sa sv (aT2 v).2 (aT2 v).1 (fun q => H.size ≤ q) s H) (hv1 : ls[1]? = some (.val (.ref sa)))
    (kk : ∀ (as : Nat) (H1 : Heap) (locs1 : List Loc), (∃ base, s.heap.size ≤ base ∧ sW (base, E0.2) as (txD (txS (txD (txS (txS (fun _ => 0, 0) (aT2 v)) cC1) (1 + v / 2 ^ 19 % 16)) cX1) (1 + v / 2 ^ 20 % 9)).2 (txD (txS (txD (txS (txS (fun _ => 0, 0) (aT2 v)) cC1) (1 + v / 2 ^ 19 % 16)) cX1) (1 + v / 2 ^ 20 % 9)).1 H1) → va_S (fun q => s.heap.size ≤ q) s.heap H1 locs1 → W p l e R s m args below meth c H1 locs1 12 372 Q (F0 m 152 ls [.ref as])) : W p l e R s m args below meth c H locs 8 248 Q (F0 m 104 ls []) := by
  obtain ⟨hR1, hR2, hR3, hR4⟩ := hR
  have hv0 : ls[0]? = some (.val (.int (nI v))) := lv_at hl1 0 rfl
  have hle0 : E0.1 ≤ H.size := Nat.le_trans hb0 hS.1
  have hfH : xFx E0 q s H := xFx_kept hfx fun a h1 h2 => hS.2.1 a h1 (fun z => by have : s.heap.size ≤ a := z; omega)
  have hf1 : xFx (H.size, E0.2) q s H := xFx_up (E' := (H.size, E0.2)) hle0 hfH
  obtain ⟨hx, hb, hml, hown, hts, hK, hnw, hE⟩ := id C
  have C1 : aCx p s m args c (H.size, E0.2) RL cL_arms 2 := ⟨hx, hb, hml, hown, hts, hK, hnw, hE⟩
  have hle : (s.heap.size, E0.2).1 ≤ ((H.size, E0.2) : cEnv).1 := hS.1
  have hcs : ∀ i, i < 2 → vk_R RL (xIx i) (xTx i) (q.2.1 i) s := fun i hi => (hfx.2.2.2.2.2 i hi).1
  have hcx : ∀ i, i < 2 → sStr (q.2.1 i) (q.2.2 i) 1 (fun _ => xB i) (cFree (H.size, E0.2)) s H := fun i hi => (hf1.2.2.2.2.2 i hi).2
  have hd1 : ∀ w, w < 10 → sb_dg w = 1 := fun w h => dg1 h
  have hd2 : ∀ w, w < 100 → sb_dg w ≤ 2 := fun w h => dg2 h
  refine s_new (E0 := (s.heap.size, E0.2)) C1 hle rfl hf1.2.1 hS hl1.1 dL_arms_104 dL_arms_107 dL_arms_108 rfl (by decide) (by omega) (by omega) (by omega) (by omega) (fun H0 locs0 h0 => ?_)
  refine lv_aload_n hx hb dL_arms_111 rfl hv1 ?_
  refine s_appS (t := aT2 v) C1 hle hf1 h0 hstr hl1.1 dL_arms_112 rfl (by decide) (by show 0 + (aT2 v).2 ≤ 16; have := aT2_2 v; have := hd2 (1 + v / 2 ^ 19 % 16) (by omega); have := hd1 (1 + v / 2 ^ 20 % 9) (by omega); omega) (by show (aT2 v).2 ≤ 46; have := aT2_2 v; omega) (tx8_2 v) (Nat.le_of_ble_eq_true rfl) (by omega) (by omega) (by omega) (by omega) (fun H1 locs1 h1 => ?_)
  refine va_ldcS hx hb hown (hcs 1 (by decide)) dL_arms_115 ?_
  refine s_appS (t := cC1) C1 hle hf1 h1 (hcx 1 (by decide)) hl1.1 dL_arms_117 rfl (by decide) (by show 0 + (aT2 v).2 + 1 ≤ 16; have := aT2_2 v; have := hd2 (1 + v / 2 ^ 19 % 16) (by omega); have := hd1 (1 + v / 2 ^ 20 % 9) (by omega); omega) (by decide) (tx8_c 1) (Nat.le_of_ble_eq_true rfl) (by omega) (by omega) (by omega) (by omega) (fun H2 locs2 h2 => ?_)
  refine lv_iconst hx hb dL_arms_120 (v := nI 1) rfl ?_
  refine lv_iload_n hx hb dL_arms_121 rfl hv0 ?_
  refine lv_bipush hx hb dL_arms_122 (v := nI 19) rfl ?_
  refine lv_ishr hx hb dL_arms_124 ?_
  rw [pk_shrN (by omega) (nI 19 &&& 31) 19 (by decide)]
  refine lv_bipush hx hb dL_arms_125 (v := nI 16) rfl ?_
  refine lv_irem hx hb dL_arms_127 (by decide) ?_
  rw [pk_rem (by omega) (by decide) (by decide)]
  refine lv_iadd hx hb dL_arms_128 ?_
  rw [nI_add]
  refine s_appI C1 hle hf1 h2 hl1.1 dL_arms_129 rfl (by decide) (by show 0 + (aT2 v).2 + 1 + sb_dg (1 + v / 2 ^ 19 % 16) ≤ 16; have := aT2_2 v; have := hd2 (1 + v / 2 ^ 19 % 16) (by omega); have := hd1 (1 + v / 2 ^ 20 % 9) (by omega); omega) (by omega) (Nat.le_of_ble_eq_true rfl) (by omega) (by omega) (by omega) (by omega) (fun H3 locs3 h3 => ?_)
  refine va_ldcS hx hb hown (hcs 0 (by decide)) dL_arms_132 ?_
  refine s_appS (t := cX1) C1 hle hf1 h3 (hcx 0 (by decide)) hl1.1 dL_arms_134 rfl (by decide) (by show 0 + (aT2 v).2 + 1 + sb_dg (1 + v / 2 ^ 19 % 16) + 1 ≤ 16; have := aT2_2 v; have := hd2 (1 + v / 2 ^ 19 % 16) (by omega); have := hd1 (1 + v / 2 ^ 20 % 9) (by omega); omega) (by decide) (tx8_c 0) (Nat.le_of_ble_eq_true rfl) (by omega) (by omega) (by omega) (by omega) (fun H4 locs4 h4 => ?_)
  refine lv_iconst hx hb dL_arms_137 (v := nI 1) rfl ?_
  refine lv_iload_n hx hb dL_arms_138 rfl hv0 ?_
  refine lv_bipush hx hb dL_arms_139 (v := nI 20) rfl ?_
  refine lv_ishr hx hb dL_arms_141 ?_
  rw [pk_shrN (by omega) (nI 20 &&& 31) 20 (by decide)]
  refine lv_bipush hx hb dL_arms_142 (v := nI 9) rfl ?_
  refine lv_irem hx hb dL_arms_144 (by decide) ?_
  rw [pk_rem (by omega) (by decide) (by decide)]
  refine lv_iadd hx hb dL_arms_145 ?_
  rw [nI_add]
  refine s_appI C1 hle hf1 h4 hl1.1 dL_arms_146 rfl (by decide) (by show 0 + (aT2 v).2 + 1 + sb_dg (1 + v / 2 ^ 19 % 16) + 1 + sb_dg (1 + v / 2 ^ 20 % 9) ≤ 16; have := aT2_2 v; have := hd2 (1 + v / 2 ^ 19 % 16) (by omega); have := hd1 (1 + v / 2 ^ 20 % 9) (by omega); omega) (by omega) (Nat.le_of_ble_eq_true rfl) (by omega) (by omega) (by omega) (by omega) (fun H5 locs5 h5 => ?_)
  refine s_toStr C1 hle hf1 h5 hl1.1 dL_arms_149 rfl (by decide) (by show 0 + (aT2 v).2 + 1 + sb_dg (1 + v / 2 ^ 19 % 16) + 1 + sb_dg (1 + v / 2 ^ 20 % 9) < 16; have := aT2_2 v; have := hd2 (1 + v / 2 ^ 19 % 16) (by omega); have := hd1 (1 + v / 2 ^ 20 % 9) (by omega); omega) (by show 0 + (aT2 v).2 + 1 + sb_dg (1 + v / 2 ^ 19 % 16) + 1 + sb_dg (1 + v / 2 ^ 20 % 9) ≤ 100; have := aT2_2 v; have := hd2 (1 + v / 2 ^ 19 % 16) (by omega); have := hd1 (1 + v / 2 ^ 20 % 9) (by omega); omega) (by decide) (by omega) (by omega) (by omega) (by omega) (fun as H9 locs9 hw9 hS9 hp9 => ?_)
  exact kk as H9 locs9 ⟨H.size, hS.1, hw9⟩ hS9

end ARMS
set_option maxHeartbeats 2000000 in
theorem met_arms {l : Launch} {E : cEnv} (hE : cOkE E) {q : xA} {v : Nat} (hv : v < 2 ^ 25) : Met l yL_arms (Cond.code yL_arms cL_arms 2 (some (.object "java/lang/String")) :: tb) (cRm 8 12 372) (va_Pc [.int (nI v)] (aPre E q)) (aPost E (aT3 v)) 12 372 (cFree E) := by
  refine Met.ofW (cc := cL_arms) (maxL := 2) (ret := some (.object "java/lang/String")) (by decide +kernel) rfl ?_
  intro p e s m0 args below meth c s₁ B hml hvv
  obtain ⟨rfl, hb0, hK, hnw, hfx⟩ := hvv
  have hts : ∀ w ∈ tb, w.before ([.int (nI v)] : List Value).toArray s = true := fun w hw => atoms_spec (ws := Cond.code yL_arms cL_arms 2 (some (.object "java/lang/String")) :: tb) B.pre w (List.mem_cons_of_mem _ hw)
  have hr := B.returns
  have hx := B.exec
  have hb := B.bytes
  have hlocks := B.notSynchronized
  have hown : s.vm.findClass RL = some m0.cls := findClass_of_methodNamed B.named
  rw [lg_entry_eq]
  have hent := lv_entry ([.int (nI v)] : List Value) (n := 2) (Nat.le_of_ble_eq_true rfl)
  generalize (lg_sl ([.int (nI v)] : List Value) ++ List.replicate (2 - (lg_sl ([.int (nI v)] : List Value)).length) Slot.unset).toArray = ls at hent ⊢
  have hl : lv_has ls 2 [(0, .int (nI v))] := lv_sub hent [0] rfl
  have C : aCx p s m0 ([.int (nI v)] : List Value).toArray c E RL cL_arms 2 := ⟨hx, hb, hml, hown, hts, hK, hnw, hE⟩
  have hR : (headSpec (Cond.code yL_arms cL_arms 2 (some (.object "java/lang/String")) :: tb) (cRm 8 12 372)).room.frames = 8 ∧ (headSpec (Cond.code yL_arms cL_arms 2 (some (.object "java/lang/String")) :: tb) (cRm 8 12 372)).room.locals = 320 ∧ (headSpec (Cond.code yL_arms cL_arms 2 (some (.object "java/lang/String")) :: tb) (cRm 8 12 372)).room.cells = 12 ∧ (headSpec (Cond.code yL_arms cL_arms 2 (some (.object "java/lang/String")) :: tb) (cRm 8 12 372)).room.slots = 372 := ⟨rfl, rfl, rfl, rfl⟩
  generalize (headSpec (Cond.code yL_arms cL_arms 2 (some (.object "java/lang/String")) :: tb) (cRm 8 12 372)).room = R at hR ⊢
  -- a String stands, that was made before
  have hmk : ∀ (H : Heap) (as : Nat) (t : Tx), (∃ base, s.heap.size ≤ base ∧ sW (base, E.2) as t.2 t.1 H) → ∃ sv, sStr as sv t.2 t.1 (fun q => H.size ≤ q) s H := by
    rintro H as t ⟨base, -, hw⟩
    obtain ⟨v2, g1, g2, -, -, g3⟩ := sStr_of (E := (base, E.2)) hts hE hK hw
    exact ⟨v2, g3 _ (fun z => by have : H.size ≤ as := z; omega) (fun z => by have : H.size ≤ v2 := z; omega)⟩
  -- the end
  have h153 : ∀ (H : Heap) (locs : List Loc) (ls2 : Array Slot) (as : Nat), (∃ base, s.heap.size ≤ base ∧ sW (base, E.2) as (aT3 v).2 (aT3 v).1 H) → va_S (fun q => s.heap.size ≤ q) s.heap H locs → ls2[1]? = some (.val (.ref as)) → W p l e R s m0 ([.int (nI v)] : List Value).toArray below meth c H locs 12 372 (MQ below (aPost E (aT3 v)) ([.int (nI v)] : List Value).toArray s 12 372 (cFree E)) (F0 m0 153 ls2 []) := by
    rintro H locs ls2 as ⟨base, hba, hw⟩ hS h1
    refine lv_aload_n hx hb dL_arms_153 rfl h1 ?_
    exact W.aret (Qc := aPost E (aT3 v)) hx hb hr (rt := .object "java/lang/String") (Or.inl ⟨_, rfl⟩) (Or.inr ⟨_, rfl⟩) (fun u hu _ => ⟨as, base, rfl, hba, by rw [hu]; exact hw, hS.F hu⟩) (fun q0 hq => Nat.le_trans hb0 (hS.2.2 q0 hq)) dL_arms_154 hlocks
  have h94 : ∀ (H : Heap) (locs : List Loc) (ls2 : Array Slot) (as : Nat), (∃ base, s.heap.size ≤ base ∧ sW (base, E.2) as (aT2 v).2 (aT2 v).1 H) → va_S (fun q => s.heap.size ≤ q) s.heap H locs → lv_has ls2 2 [(1, .ref as), (0, .int (nI v))] → W p l e R s m0 ([.int (nI v)] : List Value).toArray below meth c H locs 8 248 (MQ below (aPost E (aT3 v)) ([.int (nI v)] : List Value).toArray s 12 372 (cFree E)) (F0 m0 94 ls2 []) := by
    intro H locs ls2 as hw hS hl2
    refine lv_iload_n hx hb dL_arms_94 rfl (lv_at hl2 1 rfl) ?_
    refine lv_bipush hx hb dL_arms_95 (v := nI 17) rfl ?_
    refine lv_ishr hx hb dL_arms_97 ?_
    rw [pk_shrN (by omega) (nI 17 &&& 31) 17 (by decide)]
    refine lv_iconst hx hb dL_arms_98 (v := nI 3) rfl ?_
    refine lv_iand hx hb dL_arms_99 ?_
    rw [pk_andN (by omega) 2 (by decide)]
    refine lv_iconst hx hb dL_arms_100 (v := nI 1) rfl ?_
    have hne : (nI (v / 2 ^ 17 % 2 ^ 2) = nI 1) ↔ v / 2 ^ 17 % 2 ^ 2 = 1 := nI_eq (by omega) (by omega)
    refine lv_icmp_ne hx hb dL_arms_101 (tgt := 153) rfl (fun q1 => ?_) (fun q1 => ?_)
    · have h1 : ¬ v / 2 ^ 17 % 2 ^ 2 = 1 := fun z => q1 (hne.mpr z)
      have e : aT3 v = aT2 v := if_neg h1
      rw [← e] at hw
      exact W.widen (by decide) (by decide) (h153 H locs ls2 as hw hS (lv_at hl2 0 rfl))
    · have h1 : v / 2 ^ 17 % 2 ^ 2 = 1 := hne.mp q1
      obtain ⟨sv, hstr⟩ := hmk H as (aT2 v) hw
      refine arms_3 C hR hv hfx hb0 hS (lv_sub hl2 [1] rfl) hstr (lv_at hl2 0 rfl) (fun as3 H3 locs3 hw3 hS3 => ?_)
      have e : aT3 v = txD (txS (txD (txS (txS (fun _ => 0, 0) (aT2 v)) cC1) (1 + v / 2 ^ 19 % 16)) cX1) (1 + v / 2 ^ 20 % 9) := if_pos h1
      rw [← e] at hw3
      exact lv_astore_n hx hb dL_arms_152 rfl hl2 (by decide) (lv' := [(1, .ref as3), (0, .int (nI v))]) rfl (fun ls3 hl3 => h153 H3 locs3 ls3 as3 hw3 hS3 (lv_at hl3 0 rfl))
  have h36 : ∀ (H : Heap) (locs : List Loc) (ls2 : Array Slot) (as : Nat), (∃ base, s.heap.size ≤ base ∧ sW (base, E.2) as (aT1 v).2 (aT1 v).1 H) → va_S (fun q => s.heap.size ≤ q) s.heap H locs → lv_has ls2 2 [(1, .ref as), (0, .int (nI v))] → W p l e R s m0 ([.int (nI v)] : List Value).toArray below meth c H locs 4 124 (MQ below (aPost E (aT3 v)) ([.int (nI v)] : List Value).toArray s 12 372 (cFree E)) (F0 m0 36 ls2 []) := by
    intro H locs ls2 as hw hS hl2
    refine lv_iload_n hx hb dL_arms_36 rfl (lv_at hl2 1 rfl) ?_
    refine lv_bipush hx hb dL_arms_37 (v := nI 8) rfl ?_
    refine lv_ishr hx hb dL_arms_39 ?_
    rw [pk_shrN (by omega) (nI 8 &&& 31) 8 (by decide)]
    refine lv_iconst hx hb dL_arms_40 (v := nI 1) rfl ?_
    refine lv_iand hx hb dL_arms_41 ?_
    rw [pk_andN (by omega) 1 (by decide)]
    refine lv_iconst hx hb dL_arms_42 (v := nI 1) rfl ?_
    have hne : (nI (v / 2 ^ 8 % 2 ^ 1) = nI 1) ↔ v / 2 ^ 8 % 2 ^ 1 = 1 := nI_eq (by omega) (by omega)
    refine lv_icmp_ne hx hb dL_arms_43 (tgt := 94) rfl (fun q1 => ?_) (fun q1 => ?_)
    · have h1 : ¬ v / 2 ^ 8 % 2 ^ 1 = 1 := fun z => q1 (hne.mpr z)
      have e : aT2 v = aT1 v := if_neg h1
      rw [← e] at hw
      exact W.widen (by decide) (by decide) (h94 H locs ls2 as hw hS hl2)
    · have h1 : v / 2 ^ 8 % 2 ^ 1 = 1 := hne.mp q1
      obtain ⟨sv, hstr⟩ := hmk H as (aT1 v) hw
      refine arms_2 C hR hv hfx hb0 hS (lv_sub hl2 [1] rfl) hstr (lv_at hl2 0 rfl) (fun as3 H3 locs3 hw3 hS3 => ?_)
      have e : aT2 v = txD (txS (txD (txS (txS (fun _ => 0, 0) (aT1 v)) cC1) (1 + v / 2 ^ 9 % 5)) cX1) (1 + v / 2 ^ 12 % 30) := if_pos h1
      rw [← e] at hw3
      exact lv_astore_n hx hb dL_arms_93 rfl hl2 (by decide) (lv' := [(1, .ref as3), (0, .int (nI v))]) rfl (fun ls3 hl3 => h94 H3 locs3 ls3 as3 hw3 hS3 hl3)
  refine arms_1 C hR hv hfx hb0 va_S.rf hl (fun as1 H1 locs1 hw1 hS1 => ?_)
  exact lv_astore_n hx hb dL_arms_35 rfl hl (by decide) (lv' := [(1, .ref as1), (0, .int (nI v))]) rfl (fun ls3 hl3 => h36 H1 locs1 ls3 as1 hw1 hS1 hl3)
