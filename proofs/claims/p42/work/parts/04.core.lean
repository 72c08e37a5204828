abbrev classes : List vw_C := [(RX0, TX0, 6), (RX1, TX1, 5), (RX2, TX2, 9), (RX3, TX3, 6), (RX4, TX4, 14), (RX5, TX5, 4), (RX6, TX6, 10), (RX7, TX7, 6), (RX8, TX8, 7), (RX9, TX9, 3), (RX10, TX10, 8), (RX11, TX11, 8), (RX11, TX11, 8), (RJ4, TJ4, 4), (RJ0, TJ0, 4)]
theorem goodJ4 : ∀ w ∈ wsJ40, w ∈ lw_tbl := by decide +kernel
theorem goodJ0 : ∀ w ∈ wsJ00, w ∈ lw_tbl := by decide +kernel
/-! ===== THE PLAIN MACHINE: values with labels for addresses, locals as a list, memory as two functions; one instruction as a predicate transformer ===== -/
abbrev pV : Type := Int32 ⊕ (Int64 ⊕ Nat)
abbrev pI (x : Int32) : pV := .inl x
abbrev pJ (x : Int64) : pV := .inr (.inl x)
abbrev pR (x : Nat) : pV := .inr (.inr x)
abbrev pLo : Type := List (Option pV)
abbrev pM : Type := (Nat → Nat → Int32) × (Nat → Nat → Int64)
abbrev pSt : Type := pLo × List pV × pM
/-- what stands at a label: an array (0 int, 1 byte, 2 long; its length), or an object (its class; its fields: a number, or a label) -/
abbrev pK : Type := (Nat × Nat) ⊕ (Nat × List (Option Nat))
/-- the surroundings: addresses of the labels; classes' numbers and slots; the three array classes; the known array types; what the cells beside are like; what may be written -/
abbrev pEnv : Type := (Nat → Nat) × va_G × (ClassId × ClassId × ClassId) × List (ClassId × FieldType) × (va_W → Prop) × (Nat → Prop)
def pv (ad : Nat → Nat) : pV → Value
  | .inl x => .int x
  | .inr (.inl x) => .long x
  | .inr (.inr k) => .ref (ad k)
def pcat : pV → Nat
  | .inr (.inl _) => 2
  | _ => 1
def psz (S : List pV) : Nat := (S.map pcat).sum
theorem pcat_pv (ad : Nat → Nat) (v : pV) : (pv ad v).category = pcat v := by
  rcases v with x | x | x <;> rfl
theorem psz_map (ad : Nat → Nat) (S : List pV) : ((S.map (pv ad)).map fun v => v.category).sum = psz S := by
  rw [List.map_map]
  unfold psz
  congr 1
  exact List.map_congr_left fun v _ => pcat_pv ad v
def pll (ad : Nat → Nat) : Nat → pLo → List (Nat × Value)
  | _, [] => []
  | i, none :: t => pll ad (i + 1) t
  | i, some v :: t => (i, pv ad v) :: pll ad (i + 1) t
theorem mem_pll (ad : Nat → Nat) : ∀ (L : pLo) (i : Nat) (q : Nat × Value), q ∈ pll ad i L ↔ ∃ (j : Nat) (v : pV), L[j]? = some (some v) ∧ q = (i + j, pv ad v)
  | [], i, q => by simp [pll]
  | none :: t, i, q => by
    rw [pll, mem_pll ad t (i + 1) q]
    constructor
    · rintro ⟨j, v, h1, h2⟩
      exact ⟨j + 1, v, by simpa using h1, by rw [h2]; congr 1; omega⟩
    · rintro ⟨j, v, h1, h2⟩
      cases j with
      | zero => simp at h1
      | succ j => exact ⟨j, v, by simpa using h1, by rw [h2]; congr 1; omega⟩
  | some w :: t, i, q => by
    rw [pll, List.mem_cons, mem_pll ad t (i + 1) q]
    constructor
    · rintro (h | ⟨j, v, h1, h2⟩)
      · exact ⟨0, w, by simp, by simpa using h⟩
      · exact ⟨j + 1, v, by simpa using h1, by rw [h2]; congr 1; omega⟩
    · rintro ⟨j, v, h1, h2⟩
      cases j with
      | zero => simp at h1; subst h1; exact Or.inl (by simpa using h2)
      | succ j => exact Or.inr ⟨j, v, by simpa using h1, by rw [h2]; congr 1; omega⟩
/-- a store: a long that would lose its second half is gone -/
def pClr (L : pLo) (i : Nat) : pLo := match i with
  | 0 => L
  | j + 1 => match L[j]? with
    | some (some (.inr (.inl _))) => L.set j none
    | _ => L
def pSet1 (L : pLo) (i : Nat) (v : pV) : pLo := (pClr L i).set i (some v)
def pSet2 (L : pLo) (i : Nat) (v : pV) : pLo := ((pClr L i).set i (some v)).set (i + 1) none
theorem pClr_get (L : pLo) (i j : Nat) (v : pV) (h : (pClr L i)[j]? = some (some v)) : L[j]? = some (some v) ∧ ¬ (j + 1 = i ∧ pcat v = 2) := by
  cases i with
  | zero => exact ⟨h, fun q => by omega⟩
  | succ i =>
    simp only [pClr] at h
    split at h
    next x hx =>
      rw [List.getElem?_set] at h
      split at h
      · split at h <;> simp at h
      · exact ⟨h, fun q => by omega⟩
    next hx =>
      refine ⟨h, fun q => ?_⟩
      have : j = i := by omega
      subst this
      rcases v with x | x | x
      · simp [pcat] at q
      · exact hx _ h
      · simp [pcat] at q
theorem pSet1_ll (ad : Nat → Nat) (L : pLo) (i nL : Nat) (v : pV) (ls : Array Slot) (hv : pcat v = 1) (h : lv_has ls nL ((i, pv ad v) :: (pll ad 0 L).filter (fun q => !(q.1 == i) && !(q.1 + 1 == i && q.2.category == 2)))) : lv_has ls nL (pll ad 0 (pSet1 L i v)) := by
  refine ⟨h.1, h.2.1, fun q hq => ?_⟩
  obtain ⟨j, w, h1, h2⟩ := (mem_pll ad _ 0 q).mp hq
  unfold pSet1 at h1
  rw [List.getElem?_set] at h1
  rw [h2, Nat.zero_add]
  by_cases hj : i = j
  · subst hj
    rw [if_pos rfl] at h1
    split at h1
    · simp at h1
      subst h1
      exact h.2.2 (i, pv ad v) List.mem_cons_self
    · simp at h1
  · rw [if_neg hj] at h1
    obtain ⟨g1, g2⟩ := pClr_get L i j w h1
    refine h.2.2 (j, pv ad w) (List.mem_cons_of_mem _ (List.mem_filter.mpr ⟨(mem_pll ad _ 0 _).mpr ⟨j, w, g1, by simp⟩, ?_⟩))
    simp only [pcat_pv]
    simp only [Bool.and_eq_true, Bool.not_eq_true', beq_eq_false_iff_ne, ne_eq, Bool.and_eq_false_iff]
    refine ⟨fun q => hj q.symm, ?_⟩
    by_cases q : j + 1 = i
    · exact Or.inr fun z => g2 ⟨q, z⟩
    · exact Or.inl q
theorem pSet2_ll (ad : Nat → Nat) (L : pLo) (i nL : Nat) (v : pV) (ls : Array Slot) (h : lv_has ls nL ((i, pv ad v) :: (pll ad 0 L).filter (fun q => !(q.1 == i) && (!(q.1 == i + 1) && !(q.1 + 1 == i && q.2.category == 2))))) : lv_has ls nL (pll ad 0 (pSet2 L i v)) := by
  refine ⟨h.1, h.2.1, fun q hq => ?_⟩
  obtain ⟨j, w, h1, h2⟩ := (mem_pll ad _ 0 q).mp hq
  unfold pSet2 at h1
  rw [List.getElem?_set] at h1
  rw [h2, Nat.zero_add]
  by_cases hj2 : i + 1 = j
  · rw [if_pos hj2] at h1
    split at h1 <;> simp at h1
  rw [if_neg hj2, List.getElem?_set] at h1
  by_cases hj : i = j
  · subst hj
    rw [if_pos rfl] at h1
    split at h1
    · simp at h1
      subst h1
      exact h.2.2 (i, pv ad v) List.mem_cons_self
    · simp at h1
  · rw [if_neg hj] at h1
    obtain ⟨g1, g2⟩ := pClr_get L i j w h1
    refine h.2.2 (j, pv ad w) (List.mem_cons_of_mem _ (List.mem_filter.mpr ⟨(mem_pll ad _ 0 _).mpr ⟨j, w, g1, by simp⟩, ?_⟩))
    simp only [pcat_pv]
    simp only [Bool.and_eq_true, Bool.not_eq_true', beq_eq_false_iff_ne, ne_eq, Bool.and_eq_false_iff]
    refine ⟨fun q => hj q.symm, fun q => hj2 q.symm, ?_⟩
    by_cases q : j + 1 = i
    · exact Or.inr fun z => g2 ⟨q, z⟩
    · exact Or.inl q
theorem pll_at {ad : Nat → Nat} {ls : Array Slot} {nL : Nat} {L : pLo} (h : lv_has ls nL (pll ad 0 L)) {k : Nat} {v : pV} (hk : L[k]? = some (some v)) : ls[k]? = some (.val (pv ad v)) :=
  h.2.2 (k, pv ad v) ((mem_pll ad L 0 _).mpr ⟨k, v, hk, by simp⟩)
theorem pll_weak {ad : Nat → Nat} {ls : Array Slot} {nL : Nat} {L L' : pLo} (h : lv_has ls nL (pll ad 0 L)) (hw : ∀ (k : Nat) (v : pV), L'[k]? = some (some v) → L[k]? = some (some v)) : lv_has ls nL (pll ad 0 L') := by
  refine ⟨h.1, h.2.1, fun q hq => ?_⟩
  obtain ⟨j, w, h1, h2⟩ := (mem_pll ad _ 0 q).mp hq
  rw [h2, Nat.zero_add]
  exact pll_at h (hw j w h1)
