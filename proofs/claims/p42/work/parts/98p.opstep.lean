/-! ===== calls of both: a pass, ticks ===== -/
theorem M_passI {G U : Nat → Nat → Int} {g : Nat → Int} {R : Option pV → pM → Prop} (hg : G 180 = g) (hq : quiet G) (hI : rowI g) (hsh : shrOk g (U 183)) (hold : ∀ k, rg (G 193 k))
    (hR : ∀ G', (∀ k, k ≠ 179 → k ≠ 180 → k ≠ 187 → k ≠ 188 → k ≠ 189 → k ≠ 192 → k ≠ 193 → G' k = G k) → (∀ b, b ≠ 8 → b ≠ 9 → G' 179 b = G 179 b) → quiet G' → (∀ k, rg (G' 193 k)) → G' 180 = (passAll g U (G 193)).1 → R (some (pI (Int32.ofInt (passAll g U (G 193)).2.2.1))) (zM G' (passAll g U (G 193)).2.1)) : WpF F_M_passes [pR 179] (zM G U) R := by
  have hall := pass_all (U := U) (old := G 193) hI
  have hl := line_ok (G := rowG (p0G g)) (U := p0U U) (g := p0G g) rfl
  rw [p0_lo (by omega)] at hl
  have hn := hI.1.2.2.1
  have h2 := hI.1.2.2.2.1
  refine W_passes hg hq hI.1 (fun a b ha hb => by rw [hg]; exact hsh a b ha hb) hold (fun i hi => ?_) hR
  have h := hall i hi
  have hle := hl.2.2
  obtain ⟨a, b, c, d, e, f, -⟩ := h
  have d2 : (passRun (befF g (G 193) (g 1).toNat) (mLine (rowG (p0G g)) (p0U U) (g 1).toNat).2 (p0G g, p0U U, 0, 0, -1) i).2.2.2.1 ≤ g 2 := by
    have := d.2
    rw [p0_lo (by omega)] at this
    exact this
  exact ⟨a.1, by rw [b 1 (by omega) (by omega) (by omega)]; exact p0_lo (by omega), ⟨c.1, by omega⟩, ⟨d.1, by omega⟩, ⟨e.1, by omega⟩, fun k hk hk2 => (f k hk hk2).1⟩
/-- a tick of the reference -/
theorem M_tick {G U : Nat → Nat → Int} {g : Nat → Int} {R : Option pV → pM → Prop} (hg : G 180 = g) (hq : quiet G) (hT : tkI (g, U)) (hnow : g 0 < 110000) (hsh : shrOk g (U 183)) (hold : ∀ k, rg (G 193 k))
    (hR : ∀ G' U', (∀ k, k ≠ 179 → k ≠ 180 → k ≠ 187 → k ≠ 188 → k ≠ 189 → k ≠ 192 → k ≠ 193 → G' k = G k) → (∀ b, b ≠ 8 → b ≠ 9 → G' 179 b = G 179 b) → quiet G' → (∀ k, rg (G' 193 k)) → G' 180 = (tkF (g, U)).1 → U' 183 = (tkF (g, U)).2 183 → (∀ x, x ≠ 183 → U' x = U x) → R none (zM G' U')) : WpF F_M_ticks [pR 179] (zM G U) R := by
  obtain ⟨hI, hP, hu⟩ := hT
  (try dsimp only at hI hP hu)
  have h0 := hI.1.2.1
  obtain ⟨i1, i2, i3, i4, -⟩ := passAll_ok (U := U) (old := G 193) hI
  have ho := tk_old (g := g) (V := U) (old := G 193)
  refine W_ticks (M_passI hg hq hI hsh hold fun G' a1 a2 a3 a4 a5 => ⟨⟨_, rfl⟩, G', _, rfl, by rw [a5]; exact i1.1, fun a ha => ?_, ?_⟩)
  · rw [i4 a ha]
    have := hu a ha
    omega
  · have hf : ∀ x, x ≠ 180 → setRow G' 180 (tailG (G' 180) (passAll g U (G 193)).2.1) x = G' x := fun x hx => setRow_o hx
    refine hR _ _ (fun k b1 b2 b3 b4 b5 b6 b7 => by rw [hf k b2]; exact a1 k b1 b2 b3 b4 b5 b6 b7) (fun b b8 b9 => by rw [hf _ (by omega)]; exact a2 b b8 b9) (quiet_fr a3 (hf _ (by omega))) (fun k => by rw [hf _ (by omega)]; exact a4 k) (by rw [setRow_at, a5]; exact ho.1) (by rw [a5]; exact ho.2) (fun x hx => by rw [tailU_x hx, passAll_o hx])
theorem tk_sh {s : oSt} (h : tkI s) (hnow : s.1 0 < 110000) : shrOk s.1 (s.2 183) := fun a b ha hb => by
  have h1 := h.2.2 a ha
  have h2 := h.1.1.2.2.2.2.2.2.2.2.2.1 b hb
  have h3 : s.2 183 a ≤ 1760000 := by omega
  have h4 : 0 ≤ s.2 183 a * s.1 (8 + b) := Int.mul_nonneg h1.1 (by omega)
  have h5 : s.2 183 a * s.1 (8 + b) ≤ 1760000 * 100 := Int.mul_le_mul h3 h2.2 (by omega) (by omega)
  unfold rgJ
  omega