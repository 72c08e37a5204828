/-! ===== the law's own arrays ===== -/
def WL (E : pEnv) (w : va_W) (σ : pM) (H : Heap) : Prop := (∀ k, k ∈ rls E.1 → va_at E.2.1 classes (E.1 k, pE E σ k (kdd k)) H) ∧ va_P E.2.1 classes w H ∧ (∀ k, k ∈ rls E.1 → ∀ k', k' ∈ rls E.1 → E.1 k = E.1 k' → k = k') ∧ (∀ k, k ∈ rls E.1 → ∀ (i : Nat) (q : Nat × va_E), w[i]? = some q → E.1 k ≠ q.1) ∧ va_D E.2.2.2.2.2 w ∧ ∀ k, k ∈ rls E.1 → E.2.2.2.2.2 (E.1 k)
theorem pW_in {E : pEnv} {w : va_W} {σ : pM} {k : Nat} (h : k ∈ rls E.1) : ∃ i : Nat, (rls E.1)[i]? = some k ∧ (pW E w σ)[i]? = some (E.1 k, pE E σ k (kdd k)) := by
  obtain ⟨i, hi⟩ := List.getElem?_of_mem h
  have hl : i < ((rls E.1).map (fun k => (E.1 k, pE E σ k (kdd k)))).length := by rw [List.length_map]; exact (List.getElem?_eq_some_iff.mp hi).1
  refine ⟨i, hi, ?_⟩
  unfold pW
  rw [List.getElem?_append_left hl, List.getElem?_map, hi]
  rfl
theorem pW_w {E : pEnv} {w : va_W} {σ : pM} {i : Nat} : (pW E w σ)[(rls E.1).length + i]? = w[i]? := by
  unfold pW
  rw [List.getElem?_append_right (by rw [List.length_map]; omega), List.length_map, Nat.add_sub_cancel_left]
theorem pW_or {E : pEnv} {w : va_W} {σ : pM} {i : Nat} {q : Nat × va_E} (h : (pW E w σ)[i]? = some q) : (∃ k, (rls E.1)[i]? = some k ∧ k ∈ rls E.1 ∧ q = (E.1 k, pE E σ k (kdd k))) ∨ ∃ j, i = (rls E.1).length + j ∧ w[j]? = some q := by
  by_cases hl : i < (rls E.1).length
  · left
    obtain ⟨k, hk⟩ : ∃ k, (rls E.1)[i]? = some k := ⟨_, List.getElem?_eq_getElem hl⟩
    refine ⟨k, hk, List.mem_of_getElem? hk, ?_⟩
    unfold pW at h
    rw [List.getElem?_append_left (by rw [List.length_map]; exact hl), List.getElem?_map, hk] at h
    exact (Option.some.inj h).symm
  · right
    obtain ⟨j, rfl⟩ : ∃ j, i = (rls E.1).length + j := ⟨i - (rls E.1).length, by omega⟩
    exact ⟨j, rfl, by rw [pW_w] at h; exact h⟩
theorem pHp_WL {E : pEnv} {σ : pM} {H : Heap} : pHp E σ H ↔ ∃ w, E.2.2.2.2.1 w ∧ WL E w σ H := by
  constructor
  · rintro ⟨w, hw, hP, hD⟩
    refine ⟨w, hw, fun k hk => ?_, fun i q hq => ?_, fun k hk k' hk' he => ?_, fun k hk i q hq he => ?_, ⟨fun i j p q hi hj hpq => ?_, fun i q hq => ?_⟩, fun k hk => ?_⟩
    · obtain ⟨i, -, hi⟩ := pW_in (w := w) (σ := σ) hk
      exact hP i _ hi
    · exact hP _ q (by rw [pW_w]; exact hq)
    · obtain ⟨i, h1, hi⟩ := pW_in (w := w) (σ := σ) hk
      obtain ⟨j, h2, hj⟩ := pW_in (w := w) (σ := σ) hk'
      have hij := hD.1 i j _ _ hi hj he
      subst hij
      exact Option.some.inj (h1.symm.trans h2)
    · obtain ⟨j, h1, hj⟩ := pW_in (w := w) (σ := σ) hk
      have := hD.1 j ((rls E.1).length + i) _ q hj (by rw [pW_w]; exact hq) he
      have h2 := (List.getElem?_eq_some_iff.mp h1).1
      omega
    · have := hD.1 ((rls E.1).length + i) ((rls E.1).length + j) p q (by rw [pW_w]; exact hi) (by rw [pW_w]; exact hj) hpq
      omega
    · exact hD.2 _ q (by rw [pW_w]; exact hq)
    · obtain ⟨i, -, hi⟩ := pW_in (w := w) (σ := σ) hk
      exact hD.2 i _ hi
  · rintro ⟨w, hw, h1, h2, h3, h4, h5, h6⟩
    refine ⟨w, hw, fun i q hq => ?_, fun i j p q hi hj hpq => ?_, fun i q hq => ?_⟩
    · rcases pW_or hq with ⟨k, -, hk, rfl⟩ | ⟨j, rfl, hj⟩
      · exact h1 k hk
      · exact h2 j q hj
    · rcases pW_or hi with ⟨k, a1, hk, rfl⟩ | ⟨i2, rfl, hi2⟩ <;> rcases pW_or hj with ⟨k', b1, hk', rfl⟩ | ⟨j2, rfl, hj2⟩
      · have := h3 k hk k' hk' hpq
        subst this
        exact rls_inj a1 b1
      · exact absurd hpq (h4 k hk j2 q hj2)
      · exact absurd hpq.symm (h4 k' hk' i2 p hi2)
      · have := h5.1 i2 j2 p q hi2 hj2 hpq
        omega
    · rcases pW_or hq with ⟨k, -, hk, rfl⟩ | ⟨j, rfl, hj⟩
      · exact h6 k hk
      · exact h5.2 j q hj
/-- one more row stands -/
def Xn (X : Nat → Nat) (k a : Nat) : Nat → Nat := fun j => if j = k then a else if j = 10000 + k then 1 else X j
/-- a row of noughts -/
def zR (G : Nat → Nat → Int) (k : Nat) : Nat → Nat → Int := fun a b => if a = k then 0 else G a b
theorem E2_Xn {E : cEnv} {b k a j : Nat} {X : Nat → Nat} (h1 : j ≠ k) (h2 : j ≠ 10000 + k) : (E2 E b (Xn X k a)).1 j = (E2 E b X).1 j := by
  simp only [E2, Xn, h1, h2, if_false]
theorem E2_k {E : cEnv} {b k a : Nat} {X : Nat → Nat} (hk : 196 ≤ k ∧ k < 200) : (E2 E b (Xn X k a)).1 k = a := by
  simp only [E2, Xn]
  rw [if_neg (by omega), if_neg (by omega), if_neg (by omega), if_pos trivial]
theorem rls_Xn {E : cEnv} {b k a j : Nat} {X : Nat → Nat} (hk : 196 ≤ k ∧ k < 200) (h : j ∈ rls (E2 E b (Xn X k a)).1) : j = k ∨ (j ≠ k ∧ j ∈ rls (E2 E b X).1) := by
  by_cases e : j = k
  · exact Or.inl e
  · right
    refine ⟨e, ?_⟩
    unfold rls at h ⊢
    rcases List.mem_append.mp h with g | g
    · exact List.mem_append_left _ g
    · refine List.mem_append_right _ ?_
      unfold xsOf at g ⊢
      obtain ⟨g1, g2⟩ := List.mem_filter.mp g
      refine List.mem_filter.mpr ⟨g1, ?_⟩
      rw [E2_Xn (by simp at g1; omega) (by omega)] at g2
      exact g2
theorem rl_Xn {E : cEnv} {b k a j : Nat} {X : Nat → Nat} (hk : 196 ≤ k ∧ k < 200) (h : rl (E2 E b X).1 j) : rl (E2 E b (Xn X k a)).1 j := by
  rcases h with h | h | h
  · exact Or.inl h
  · exact Or.inr (Or.inl h)
  · refine Or.inr (Or.inr ?_)
    unfold xsOf at h ⊢
    obtain ⟨g1, g2⟩ := List.mem_filter.mp h
    refine List.mem_filter.mpr ⟨g1, ?_⟩
    have hj : 196 ≤ j ∧ j < 200 := by simp at g1; omega
    by_cases e : j = k
    · subst e
      have : (E2 E b (Xn X j a)).1 (10000 + j) = 1 := by
        simp only [E2, Xn]
        rw [if_neg (by omega), if_neg (by omega), if_neg (by omega), if_neg (by omega), if_pos trivial]
      rw [this]; rfl
    · rw [E2_Xn (by omega) (by omega)]
      exact g2
theorem pll_ad {ad ad' : Nat → Nat} : ∀ (L : pLo) (i : Nat), (∀ (j x : Nat), L[j]? = some (some (pR x)) → ad' x = ad x) → pll ad' i L = pll ad i L
  | [], i, _ => rfl
  | none :: t, i, h => by
    rw [pll, pll]
    exact pll_ad t (i + 1) fun j x hj => h (j + 1) x (by simpa using hj)
  | some (.inl x) :: t, i, h => by
    rw [pll, pll, pll_ad t (i + 1) fun j x hj => h (j + 1) x (by simpa using hj)]
    rfl
  | some (.inr (.inl x)) :: t, i, h => by
    rw [pll, pll, pll_ad t (i + 1) fun j x hj => h (j + 1) x (by simpa using hj)]
    rfl
  | some (.inr (.inr x)) :: t, i, h => by
    rw [pll, pll, pll_ad t (i + 1) fun j x hj => h (j + 1) x (by simpa using hj)]
    have := h 0 x rfl
    simp only [pv, this]
theorem zR_zM {G U : Nat → Nat → Int} {k j : Nat} (h : j ≠ k) : (zM (zR G k) (zR U k)).1 j = (zM G U).1 j ∧ (zM (zR G k) (zR U k)).2 j = (zM G U).2 j := by
  constructor <;> funext b <;> simp [zM, zR, h]
section NA
variable {p : Program} {l : Launch} {e : Env} {R : Room} {s : State} {m : MethodId} {args : Array Value} {below : List Frame} {meth : Method} {c : Code} {Q : State → Prop} {cc : ByteArray} {nL d cells slots : Nat} {own : String} {scr : Option (Nat × Nat × (Nat → Int32))}
theorem pHp_new {E0 : cEnv} {b k N tag : Nat} {X : Nat → Nat} {G U : Nat → Nat → Int} {H H1 : Heap} (hk : 196 ≤ k ∧ k < 200) (hkd : kdd k = .inl (tag, N)) (hb0 : E0.1 ≤ H.size) (hH : pHp (E2 E0 b X) (zM G U) H) (h1 : va_at E0.2.1 classes (H.size, pE (E2 E0 b X) (zM (zR G k) (zR U k)) k (.inl (tag, N))) H1) (h2 : ∀ q, q < H.size → H1[q]? = H[q]?) : pHp (E2 E0 b (Xn X k H.size)) (zM (zR G k) (zR U k)) H1 := by
  obtain ⟨w, hw, a1, a2, a3, a4, a5, a6⟩ := pHp_WL.mp hH
  have had : ∀ j, j ∈ rls (E2 E0 b (Xn X k H.size)).1 → j ≠ k → (E2 E0 b (Xn X k H.size)).1 j = (E2 E0 b X).1 j ∧ j ∈ rls (E2 E0 b X).1 := fun j hj hne => by
    have hj2 := (rls_Xn hk hj).resolve_left hne
    refine ⟨E2_Xn hne ?_, hj2.2⟩
    unfold rls at hj
    rcases List.mem_append.mp hj with g | g
    · have := List.mem_range.mp g; omega
    · have := (List.mem_filter.mp g).1
      simp at this; omega
  have hlt : ∀ j, j ∈ rls (E2 E0 b X).1 → (E2 E0 b X).1 j < H.size := fun j hj => (a1 j hj).lt
  have hpE : ∀ j, j ∈ rls (E2 E0 b X).1 → j ≠ k → pE (E2 E0 b (Xn X k H.size)) (zM (zR G k) (zR U k)) j (kdd j) = pE (E2 E0 b X) (zM G U) j (kdd j) := fun j hj hne => by
    have e1 : pE (E2 E0 b (Xn X k H.size)) (zM (zR G k) (zR U k)) j (kdd j) = pE (E2 E0 b X) (zM (zR G k) (zR U k)) j (kdd j) := by
      cases hq : kdd j with
      | inl q =>
        obtain ⟨t, n⟩ := q
        match t with
        | 0 => rfl
        | 1 => rfl
        | t + 2 => rfl
      | inr q =>
        obtain ⟨ci, fs⟩ := q
        show (Sum.inr (ci, pfs _ _ 0 fs) : va_E) = Sum.inr (ci, pfs _ _ 0 fs)
        congr 2
        refine List.ext_getElem? fun i => ?_
        rw [pfs_get, pfs_get]
        cases hi : fs[i]? with
        | none => rfl
        | some o =>
          cases o with
          | none => rfl
          | some dd =>
            simp only [Option.map_some]
            have hjl : j < 200 := by
              unfold rls at hj
              rcases List.mem_append.mp hj with g | g
              · have := List.mem_range.mp g; omega
              · have := (List.mem_filter.mp g).1
                simp at this; omega
            have hkq : kd[j]? = some (.inr (ci, fs)) := by
              have hlen : j < kd.length := by rw [kd_len]; exact hjl
              have e2 := kdd_of (List.getElem?_eq_getElem hlen)
              rw [hq] at e2
              rw [List.getElem?_eq_getElem hlen, e2]
            have hj9 : j < 179 := by
              rcases Nat.lt_or_ge j 179 with g | g
              · exact g
              · have h9 : 196 ≤ j := by
                  unfold rls at hj
                  rcases List.mem_append.mp hj with g2 | g2
                  · have := List.mem_range.mp g2; omega
                  · have := (List.mem_filter.mp g2).1
                    simp at this; omega
                have := kd_rows j hjl h9
                unfold kdRow at this
                rw [hkq] at this
                cases this
            have h4 := kd_fd j hj9
            unfold kdFd at h4
            rw [hkq] at h4
            have h6 : dd < 179 ∨ dd = 900 := by simpa using List.all_eq_true.mp h4 (some dd) (List.mem_of_getElem? hi)
            rw [E2_Xn (by omega) (by omega)]
    rw [e1]
    exact pE_same (zR_zM hne).1 (zR_zM hne).2 _
  refine pHp_WL.mpr ⟨w, hw, fun j hj => ?_, a2.kept fun i q hq => h2 _ ((a2 i q hq).lt), fun j hj j' hj' he => ?_, fun j hj i q hq he => ?_, a5, fun j hj => ?_⟩
  · by_cases hne : j = k
    · subst hne
      rw [E2_k hk, hkd]
      have e1 : pE (E2 E0 b (Xn X j H.size)) (zM (zR G j) (zR U j)) j (.inl (tag, N)) = pE (E2 E0 b X) (zM (zR G j) (zR U j)) j (.inl (tag, N)) := by
        match tag with
        | 0 => rfl
        | 1 => rfl
        | t + 2 => rfl
      rw [e1]
      exact h1
    · obtain ⟨g1, g2⟩ := had j hj hne
      rw [g1, hpE j g2 hne]
      exact (a1 j g2).kept (h2 _ (hlt j g2))
  · by_cases hne : j = k <;> by_cases hne' : j' = k
    · rw [hne, hne']
    · subst hne
      obtain ⟨g1, g2⟩ := had j' hj' hne'
      rw [E2_k hk, g1] at he
      have := hlt j' g2
      omega
    · subst hne'
      obtain ⟨g1, g2⟩ := had j hj hne
      rw [E2_k hk, g1] at he
      have := hlt j g2
      omega
    · obtain ⟨g1, g2⟩ := had j hj hne
      obtain ⟨g3, g4⟩ := had j' hj' hne'
      rw [g1, g3] at he
      exact a3 j g2 j' g4 he
  · by_cases hne : j = k
    · subst hne
      rw [E2_k hk] at he
      have := (a2 i q hq).lt
      omega
    · obtain ⟨g1, g2⟩ := had j hj hne
      rw [g1] at he
      exact a4 j g2 i q hq he
  · by_cases hne : j = k
    · subst hne
      rw [E2_k hk]
      exact hb0
    · obtain ⟨g1, g2⟩ := had j hj hne
      rw [g1]
      exact a6 j g2
end NA
