def kd : List pK := [.inr (11, [some 1, some 40, some 79, some 97, some 168, some 170, some 175, some 900]),
  .inr (6, [none, none, some 2, some 3, some 4, some 5, some 6, some 20, some 27, some 33]),
  .inl (0, 8),
  .inl (0, 8),
  .inl (2, 8),
  .inl (0, 3),
  .inr (4, [none, some 7, some 8, some 9, some 10, some 11, some 12, some 13, some 14, some 15, some 16, some 17, some 18, some 19]),
  .inl (0, 80),
  .inl (0, 80),
  .inl (0, 80),
  .inl (0, 80),
  .inl (0, 80),
  .inl (0, 80),
  .inl (0, 80),
  .inl (0, 80),
  .inl (0, 80),
  .inl (0, 80),
  .inl (0, 80),
  .inl (0, 80),
  .inl (0, 80),
  .inr (0, [some 21, some 22, some 23, some 24, some 25, some 26]),
  .inl (0, 320),
  .inl (0, 320),
  .inl (0, 320),
  .inl (0, 320),
  .inl (0, 320),
  .inl (0, 16),
  .inr (8, [none, none, some 28, some 29, some 30, some 31, some 32]),
  .inl (0, 12),
  .inl (0, 12),
  .inl (0, 12),
  .inl (0, 12),
  .inl (0, 12),
  .inr (2, [none, some 34, some 35, none, none, some 36, some 37, some 38, some 39]),
  .inl (2, 8),
  .inl (0, 80),
  .inl (0, 60),
  .inl (0, 60),
  .inl (0, 60),
  .inl (0, 1024),
  .inr (6, [none, none, some 41, some 42, some 43, some 44, some 45, some 59, some 66, some 72]),
  .inl (0, 8),
  .inl (0, 8),
  .inl (2, 8),
  .inl (0, 3),
  .inr (4, [none, some 46, some 47, some 48, some 49, some 50, some 51, some 52, some 53, some 54, some 55, some 56, some 57, some 58]),
  .inl (0, 80),
  .inl (0, 80),
  .inl (0, 80),
  .inl (0, 80),
  .inl (0, 80),
  .inl (0, 80),
  .inl (0, 80),
  .inl (0, 80),
  .inl (0, 80),
  .inl (0, 80),
  .inl (0, 80),
  .inl (0, 80),
  .inl (0, 80),
  .inr (0, [some 60, some 61, some 62, some 63, some 64, some 65]),
  .inl (0, 320),
  .inl (0, 320),
  .inl (0, 320),
  .inl (0, 320),
  .inl (0, 320),
  .inl (0, 16),
  .inr (8, [none, none, some 67, some 68, some 69, some 70, some 71]),
  .inl (0, 12),
  .inl (0, 12),
  .inl (0, 12),
  .inl (0, 12),
  .inl (0, 12),
  .inr (2, [none, some 73, some 74, none, none, some 75, some 76, some 77, some 78]),
  .inl (2, 8),
  .inl (0, 80),
  .inl (0, 60),
  .inl (0, 60),
  .inl (0, 60),
  .inl (0, 1024),
  .inr (7, [some 80, some 85, some 90, some 94, some 95, some 96]),
  .inr (1, [none, some 81, some 82, some 83, some 84]),
  .inl (0, 44),
  .inl (0, 44),
  .inl (0, 44),
  .inl (0, 44),
  .inr (3, [none, none, some 86, some 87, some 88, some 89]),
  .inl (0, 4),
  .inl (0, 4),
  .inl (0, 4),
  .inl (0, 4),
  .inr (5, [none, some 91, some 92, some 93]),
  .inl (0, 80),
  .inl (0, 80),
  .inl (0, 8),
  .inl (0, 8),
  .inl (0, 80),
  .inl (0, 80),
  .inr (10, [some 98, some 137, some 155, some 156, some 161, some 166, some 167, none]),
  .inr (6, [none, none, some 99, some 100, some 101, some 102, some 103, some 117, some 124, some 130]),
  .inl (0, 8),
  .inl (0, 8),
  .inl (2, 8),
  .inl (0, 3),
  .inr (4, [none, some 104, some 105, some 106, some 107, some 108, some 109, some 110, some 111, some 112, some 113, some 114, some 115, some 116]),
  .inl (0, 80),
  .inl (0, 80),
  .inl (0, 80),
  .inl (0, 80),
  .inl (0, 80),
  .inl (0, 80),
  .inl (0, 80),
  .inl (0, 80),
  .inl (0, 80),
  .inl (0, 80),
  .inl (0, 80),
  .inl (0, 80),
  .inl (0, 80),
  .inr (0, [some 118, some 119, some 120, some 121, some 122, some 123]),
  .inl (0, 320),
  .inl (0, 320),
  .inl (0, 320),
  .inl (0, 320),
  .inl (0, 320),
  .inl (0, 16),
  .inr (8, [none, none, some 125, some 126, some 127, some 128, some 129]),
  .inl (0, 12),
  .inl (0, 12),
  .inl (0, 12),
  .inl (0, 12),
  .inl (0, 12),
  .inr (2, [none, some 131, some 132, none, none, some 133, some 134, some 135, some 136]),
  .inl (2, 8),
  .inl (0, 80),
  .inl (0, 60),
  .inl (0, 60),
  .inl (0, 60),
  .inl (0, 1024),
  .inr (7, [some 138, some 143, some 148, some 152, some 153, some 154]),
  .inr (1, [none, some 139, some 140, some 141, some 142]),
  .inl (0, 44),
  .inl (0, 44),
  .inl (0, 44),
  .inl (0, 44),
  .inr (3, [none, none, some 144, some 145, some 146, some 147]),
  .inl (0, 4),
  .inl (0, 4),
  .inl (0, 4),
  .inl (0, 4),
  .inr (5, [none, some 149, some 150, some 151]),
  .inl (0, 80),
  .inl (0, 80),
  .inl (0, 8),
  .inl (0, 8),
  .inl (0, 80),
  .inl (0, 80),
  .inl (0, 80),
  .inr (1, [none, some 157, some 158, some 159, some 160]),
  .inl (0, 44),
  .inl (0, 44),
  .inl (0, 44),
  .inl (0, 44),
  .inr (3, [none, none, some 162, some 163, some 164, some 165]),
  .inl (0, 4),
  .inl (0, 4),
  .inl (0, 4),
  .inl (0, 4),
  .inl (0, 16),
  .inl (0, 4),
  .inr (9, [none, some 169, none]),
  .inl (0, 60),
  .inr (3, [none, none, some 171, some 172, some 173, some 174]),
  .inl (0, 4),
  .inl (0, 4),
  .inl (0, 4),
  .inl (0, 4),
  .inr (5, [none, some 176, some 177, some 178]),
  .inl (0, 80),
  .inl (0, 80),
  .inl (0, 8),
  .inr (12, [some 180, some 181, some 182, some 183, some 184, some 185, some 186, none, none, none, some 187, some 188, some 189, none, none, none, none, none, some 190, some 191, some 192, some 193, some 194, none, some 195, none]),
  .inl (0, 3940),
  .inl (0, 3940),
  .inl (0, 3940),
  .inl (2, 16),
  .inl (2, 16),
  .inl (2, 16),
  .inl (1, 60),
  .inl (0, 4),
  .inl (0, 4),
  .inl (0, 4),
  .inl (0, 4),
  .inl (0, 4),
  .inl (0, 80),
  .inl (0, 80),
  .inl (0, 80),
  .inl (0, 80),
  .inl (2, 8),
  .inl (0, 24),
  .inl (0, 6),
  .inl (0, 16)]
def pfs (ad : Nat → Nat) (f : Nat → Int32) : Nat → List (Option Nat) → List Value
  | _, [] => []
  | j, none :: t => .int (f j) :: pfs ad f (j + 1) t
  | j, some d :: t => .ref (ad d) :: pfs ad f (j + 1) t
theorem pfs_get (ad : Nat → Nat) (f : Nat → Int32) : ∀ (fs : List (Option Nat)) (j k : Nat), (pfs ad f j fs)[k]? = fs[k]?.map (fun o => match o with | none => .int (f (j + k)) | some d => .ref (ad d))
  | [], j, k => by simp [pfs]
  | none :: t, j, 0 => by simp [pfs]
  | some d :: t, j, 0 => by simp [pfs]
  | none :: t, j, k + 1 => by
    rw [pfs, List.getElem?_cons_succ, List.getElem?_cons_succ, pfs_get ad f t (j + 1) k]
    congr 1; funext o; cases o <;> simp; congr 1; omega
  | some d :: t, j, k + 1 => by
    rw [pfs, List.getElem?_cons_succ, List.getElem?_cons_succ, pfs_get ad f t (j + 1) k]
    congr 1; funext o; cases o <;> simp; congr 1; omega
theorem pfs_len (ad : Nat → Nat) (f : Nat → Int32) : ∀ (fs : List (Option Nat)) (j : Nat), (pfs ad f j fs).length = fs.length
  | [], j => rfl
  | none :: t, j => by rw [pfs, List.length_cons, List.length_cons, pfs_len ad f t]
  | some d :: t, j => by rw [pfs, List.length_cons, List.length_cons, pfs_len ad f t]
def pE (E : pEnv) (σ : pM) (k : Nat) : pK → va_E
  | .inl (0, n) => .inl (E.2.2.1.1, n, .inl (σ.1 k))
  | .inl (1, n) => .inl (E.2.2.1.2.1, n, .inl (σ.1 k))
  | .inl (_, n) => .inl (E.2.2.1.2.2, n, .inr (.inl (σ.2 k)))
  | .inr (ci, fs) => .inr (ci, pfs E.1 (σ.1 k) 0 fs)
/-- the law's own rows that stand: 196 to 199, each if the surroundings say so -/
def xsOf (ad : Nat → Nat) : List Nat := [196, 197, 198, 199].filter fun k => ad (10000 + k) == 1
def rls (ad : Nat → Nat) : List Nat := List.range 179 ++ xsOf ad
/-- a label that is no ghost -/
def rl (ad : Nat → Nat) (k : Nat) : Prop := k < 179 ∨ 200 ≤ k ∨ k ∈ xsOf ad
theorem kd_len : kd.length = 200 := by decide +kernel
theorem rls_at {ad : Nat → Nat} {k : Nat} {q : pK} (h : rl ad k) (hk : kd[k]? = some q) : ∃ i : Nat, (rls ad)[i]? = some k := by
  have hl : k < 200 := by rw [← kd_len]; exact (List.getElem?_eq_some_iff.mp hk).1
  have hm : k ∈ rls ad := by
    unfold rls
    rcases h with h | h | h
    · exact List.mem_append_left _ (List.mem_range.mpr h)
    · omega
    · exact List.mem_append_right _ h
  exact List.getElem?_of_mem hm
theorem rls_nodup (ad : Nat → Nat) : (rls ad).Nodup := by
  unfold rls
  refine List.nodup_append.mpr ⟨List.nodup_range, List.Pairwise.filter _ (show List.Pairwise (fun a b => a ≠ b) [196, 197, 198, 199] by decide), fun a ha b hb => ?_⟩
  have h1 := List.mem_range.mp ha
  have h2 := (List.mem_filter.mp hb).1
  simp at h2
  omega
theorem rls_inj {ad : Nat → Nat} {i j k : Nat} (h1 : (rls ad)[i]? = some k) (h2 : (rls ad)[j]? = some k) : i = j := by
  obtain ⟨hi, e1⟩ := List.getElem?_eq_some_iff.mp h1
  obtain ⟨hj, e2⟩ := List.getElem?_eq_some_iff.mp h2
  have hp := List.pairwise_iff_getElem.mp (rls_nodup ad)
  rcases Nat.lt_trichotomy i j with h | h | h
  · exact absurd (e1.trans e2.symm) (hp i j hi hj h)
  · exact h
  · exact absurd (e2.trans e1.symm) (hp j i hj hi h)
def kdd (k : Nat) : pK := (kd[k]?).getD (.inl (0, 0))
theorem kdd_of {k : Nat} {q : pK} (h : kd[k]? = some q) : kdd k = q := by unfold kdd; rw [h]; rfl
def pW (E : pEnv) (w : va_W) (σ : pM) : va_W := (rls E.1).map (fun k => (E.1 k, pE E σ k (kdd k))) ++ w
theorem pW_get {E : pEnv} {w : va_W} {σ : pM} {k i : Nat} {q : pK} (hi : (rls E.1)[i]? = some k) (h : kd[k]? = some q) : (pW E w σ)[i]? = some (E.1 k, pE E σ k q) := by
  have hl : i < ((rls E.1).map (fun k => (E.1 k, pE E σ k (kdd k)))).length := by rw [List.length_map]; exact (List.getElem?_eq_some_iff.mp hi).1
  unfold pW
  rw [List.getElem?_append_left hl, List.getElem?_map, hi]
  simp [kdd_of h]
theorem pE_same {E : pEnv} {σ σ' : pM} {j : Nat} (h1 : σ'.1 j = σ.1 j) (h2 : σ'.2 j = σ.2 j) (q : pK) : pE E σ' j q = pE E σ j q := by
  rcases q with ⟨t, n⟩ | ⟨ci, fs⟩
  · match t with
    | 0 => simp [pE, h1]
    | 1 => simp [pE, h1]
    | t + 2 => simp [pE, h2]
  · simp [pE, h1]
theorem pW_set {E : pEnv} {w : va_W} {σ σ' : pM} {k i : Nat} {q : pK} {e : va_E} (hi : (rls E.1)[i]? = some k) (h : kd[k]? = some q) (he : pE E σ' k q = e) (ho1 : ∀ j, j ≠ k → σ'.1 j = σ.1 j) (ho2 : ∀ j, j ≠ k → σ'.2 j = σ.2 j) : (pW E w σ).set i (E.1 k, e) = pW E w σ' := by
  have hl : i < ((rls E.1).map (fun k => (E.1 k, pE E σ k (kdd k)))).length := by rw [List.length_map]; exact (List.getElem?_eq_some_iff.mp hi).1
  unfold pW
  rw [List.set_append_left _ _ hl]
  congr 1
  refine List.ext_getElem? fun j => ?_
  rw [List.getElem?_set, List.getElem?_map]
  by_cases hj : i = j
  · subst hj
    rw [if_pos rfl, if_pos hl, List.getElem?_map, hi]
    simp [he, kdd_of h]
  · rw [if_neg hj, List.getElem?_map]
    cases hk : (rls E.1)[j]? with
    | none => rfl
    | some k2 =>
      have hne : k2 ≠ k := fun z => hj (rls_inj hi (by rw [hk, z]))
      simp [pE_same (ho1 k2 hne) (ho2 k2 hne)]
/-- the ghost rows don't matter -/
theorem pW_ghost {E : pEnv} {w : va_W} {σ σ' : pM} (h1 : ∀ k, rl E.1 k → k < 200 → σ'.1 k = σ.1 k) (h2 : ∀ k, rl E.1 k → k < 200 → σ'.2 k = σ.2 k) : pW E w σ' = pW E w σ := by
  unfold pW
  congr 1
  refine List.map_congr_left fun k hk => ?_
  have hr : rl E.1 k ∧ k < 200 := by
    unfold rls at hk
    rcases List.mem_append.mp hk with h | h
    · have := List.mem_range.mp h; exact ⟨Or.inl this, by omega⟩
    · have h2 := (List.mem_filter.mp h).1
      simp at h2
      exact ⟨Or.inr (Or.inr h), by omega⟩
  rw [pE_same (h1 k hr.1 hr.2) (h2 k hr.1 hr.2)]
/-- writes -/
def up1 (σ : pM) (k j : Nat) (x : Int32) : pM := (fun a b => if a = k ∧ b = j then x else σ.1 a b, σ.2)
def up2 (σ : pM) (k j : Nat) (x : Int64) : pM := (σ.1, fun a b => if a = k ∧ b = j then x else σ.2 a b)
def cp1 (σ : pM) (a b sp dp n : Nat) : pM := (fun c k => if c = b ∧ dp ≤ k ∧ k < dp + n then σ.1 a (sp + (k - dp)) else σ.1 c k, σ.2)
def cp2 (σ : pM) (a b sp dp n : Nat) : pM := (σ.1, fun c k => if c = b ∧ dp ≤ k ∧ k < dp + n then σ.2 a (sp + (k - dp)) else σ.2 c k)
/-- what a label is -/
def lenOf (t k : Nat) : Nat := match kd[k]? with
  | some (.inl (t', n)) => if t' = t then n else 0
  | _ => 0
def okI (ci j k : Nat) : Bool := match kd[k]? with
  | some (.inr (c, fs)) => c == ci && fs[j]? == some none
  | _ => false
def okR (ci j k d : Nat) : Bool := match kd[k]? with
  | some (.inr (c, fs)) => c == ci && fs[j]? == some (some d)
  | _ => false
def clsOf (k : Nat) : Nat := match kd[k]? with
  | some (.inr (c, _)) => c
  | _ => 99
theorem lenOf_spec {t k n : Nat} (h : lenOf t k = n) (hn : 0 < n) : kd[k]? = some (.inl (t, n)) := by
  unfold lenOf at h
  split at h
  next t' m e =>
    split at h
    next e2 => subst e2; rw [e, h]
    next => omega
  next => omega
theorem okI_spec {ci j k : Nat} (h : okI ci j k = true) : ∃ fs, kd[k]? = some (.inr (ci, fs)) ∧ fs[j]? = some none := by
  unfold okI at h
  split at h
  next c fs e => 
    simp at h
    exact ⟨fs, by rw [e, h.1], h.2⟩
  next => cases h
theorem okR_spec {ci j k d : Nat} (h : okR ci j k d = true) : ∃ fs, kd[k]? = some (.inr (ci, fs)) ∧ fs[j]? = some (some d) := by
  unfold okR at h
  split at h
  next c fs e =>
    simp at h
    exact ⟨fs, by rw [e, h.1], h.2⟩
  next => cases h
theorem clsOf_spec {k c : Nat} (h : clsOf k = c) (hc : c < 99) : ∃ fs, kd[k]? = some (.inr (c, fs)) := by
  unfold clsOf at h
  split at h
  next c' fs e => exact ⟨fs, by rw [e, h]⟩
  next => omega
