/-! ===== the reference's row as a function ===== -/
def put (f : Nat → Int) (i : Nat) (v : Int) : Nat → Int := fun b => if b = i then v else f b
theorem put_at {f : Nat → Int} {i : Nat} {v : Int} : put f i v i = v := by simp [put]
theorem put_o {f : Nat → Int} {i b : Nat} {v : Int} (h : b ≠ i) : put f i v b = f b := by simp [put, h]
def jput (g : Nat → Int) (j w : Nat) (v : Int) : Nat → Int := put g (96 + j * 32 + w) v
theorem mAt_jput {g : Nat → Int} {j w j' w' : Nat} {v : Int} (hw : w < 32) (hw' : w' < 32) : mAt (jput g j w v) j' w' = if j' = j ∧ w' = w then v else mAt g j' w' := by
  unfold mAt jput put
  by_cases h : j' = j ∧ w' = w
  · obtain ⟨rfl, rfl⟩ := h
    simp
  · rw [if_neg h, if_neg (by omega)]
theorem jput_lo {g : Nat → Int} {j w b : Nat} {v : Int} (h : b < 96) : jput g j w v b = g b := put_o (by omega)
theorem jput_hi {g : Nat → Int} {j w b : Nat} {v : Int} (hj : j < 80) (hw : w < 32) (h : 2656 ≤ b) : jput g j w v b = g b := put_o (by omega)
theorem mAt_put {g : Nat → Int} {i j w : Nat} {v : Int} (h : i < 96 ∨ 2656 ≤ i) (hj : j < 80) (hw : w < 32) : mAt (put g i v) j w = mAt g j w := by
  unfold mAt
  exact put_o (by omega)
theorem setRow_at {G : Nat → Nat → Int} {k : Nat} {F : Nat → Int} : setRow G k F k = F := by
  funext b; simp [setRow]
theorem setRow_put {G : Nat → Nat → Int} {k i : Nat} {F : Nat → Int} {v : Int} : upZ (setRow G k F) k i v = setRow G k (put F i v) := setRow_s
theorem setRow_up {G : Nat → Nat → Int} {k o i : Nat} {F : Nat → Int} {v : Int} (h : o ≠ k) : upZ (setRow G k F) o i v = setRow (upZ G o i v) k F := by
  funext a b
  unfold upZ setRow
  by_cases h1 : a = k
  · subst h1
    simp [show ¬ a = o from fun e => h e.symm]
  · simp [h1]
theorem putR_s {f : Nat → Int} {i : Nat} {v : Int} : put f i v i = v := put_at
theorem putR_o {f : Nat → Int} {i b : Nat} {v w : Int} (h : b ≠ i) (h2 : f b = w) : put f i v b = w := by rw [put_o h]; exact h2
theorem jputR_lo {g : Nat → Int} {j w b : Nat} {v x : Int} (h : b < 96) (h2 : g b = x) : jput g j w v b = x := by rw [jput_lo h]; exact h2
theorem jputR_hi {g : Nat → Int} {j w b : Nat} {v x : Int} (hj : j < 80) (hw : w < 32) (h : 2656 ≤ b) (h2 : g b = x) : jput g j w v b = x := by rw [jput_hi hj hw h]; exact h2
theorem mAtR_s {g : Nat → Int} {j w : Nat} {v : Int} : mAt (jput g j w v) j w = v := put_at
theorem mAtR_w {g : Nat → Int} {j w j' w' : Nat} {v x : Int} (hw : w < 32) (hw' : w' < 32) (h : w' ≠ w) (h2 : mAt g j' w' = x) : mAt (jput g j w v) j' w' = x := by
  rw [mAt_jput hw hw', if_neg (fun e => h e.2)]; exact h2
theorem mAtR_p {g : Nat → Int} {i j w : Nat} {v x : Int} (h : i < 96) (h2 : mAt g j w = x) : mAt (put g i v) j w = x := by
  unfold mAt at h2 ⊢
  rw [put_o (by omega)]; exact h2
section RW
variable {L : pLo} {N B C : pQ} {R : Option pV → pM → Prop} {x v w : Int} {G U : Nat → Nat → Int} {g : Nat → Int} {o n k m : Nat}
theorem eG {i : eI} (hL : L[k]? = some (some (pR 179))) (hi : i L (zM (setRow G 180 g) U) = some (Int32.ofInt x, zM (setRow G 180 g) U)) (hx : 0 ≤ x ∧ x < 3940) (hk : x.toNat = m) (hv : g m = v) : aI 0 (gR 12 0 1 (lR k)) i L (zM (setRow G 180 g) U) = some (Int32.ofInt v, zM (setRow G 180 g) U) := eArr2 (v := v) (R_M_g (eLR hL)) hi N_M_g hx (by omega) hk (by rw [setRow_at]; exact hv)
theorem wAstG {i e : eI} (hL : L[k]? = some (some (pR 179))) (hi : i L (zM (setRow G 180 g) U) = some (Int32.ofInt x, zM (setRow G 180 g) U)) (he : e L (zM (setRow G 180 g) U) = some (Int32.ofInt v, zM (setRow G 180 g) U)) (hx : 0 ≤ x ∧ x < 3940) (hk : x.toNat = m) (h : N L (zM (setRow G 180 (put g m v)) U)) : WpS (sAst (gR 12 0 1 (lR k)) i e) L (zM (setRow G 180 g) U) N B C R := wAst2 (R_M_g (eLR hL)) hi he N_M_g hx (by omega) hk (setRow_put ▸ h)
theorem wAmdGA {i e : eI} (hL : L[k]? = some (some (pR 179))) (hi : i L (zM (setRow G 180 g) U) = some (Int32.ofInt x, zM (setRow G 180 g) U)) (hx : 0 ≤ x ∧ x < 3940) (hk : x.toNat = m) (he : e L (zM (setRow G 180 g) U) = some (Int32.ofInt v, zM (setRow G 180 g) U)) (hw : g m = w) (h : N L (zM (setRow G 180 (put g m (w + v))) U)) : WpS (sAmd (fun x y => x + y) (gR 12 0 1 (lR k)) i e) L (zM (setRow G 180 g) U) N B C R := wAmdA2 (w := w) (R_M_g (eLR hL)) hi N_M_g hx (by omega) hk he (by rw [setRow_at]; exact hw) (by rw [setRow_put]; exact h)
theorem wAmdGS {i e : eI} (hL : L[k]? = some (some (pR 179))) (hi : i L (zM (setRow G 180 g) U) = some (Int32.ofInt x, zM (setRow G 180 g) U)) (hx : 0 ≤ x ∧ x < 3940) (hk : x.toNat = m) (he : e L (zM (setRow G 180 g) U) = some (Int32.ofInt v, zM (setRow G 180 g) U)) (hw : g m = w) (h : N L (zM (setRow G 180 (put g m (w - v))) U)) : WpS (sAmd (fun x y => x - y) (gR 12 0 1 (lR k)) i e) L (zM (setRow G 180 g) U) N B C R := wAmdS2 (w := w) (R_M_g (eLR hL)) hi N_M_g hx (by omega) hk he (by rw [setRow_at]; exact hw) (by rw [setRow_put]; exact h)
theorem wAstO {a : eR} {i e : eI} (ha : a L (zM (setRow G 180 g) U) = some (o, zM (setRow G 180 g) U)) (hi : i L (zM (setRow G 180 g) U) = some (Int32.ofInt x, zM (setRow G 180 g) U)) (he : e L (zM (setRow G 180 g) U) = some (Int32.ofInt v, zM (setRow G 180 g) U)) (hn : lenOf 0 o = n) (hx : 0 ≤ x ∧ x < n) (h9 : n ≤ 100000) (hk : x.toNat = k) (ho : o ≠ 180) (h : N L (zM (setRow (upZ G o k v) 180 g) U)) : WpS (sAst a i e) L (zM (setRow G 180 g) U) N B C R := wAst2 ha hi he hn hx h9 hk (by rw [setRow_up ho]; exact h)
theorem eArrO {a : eR} {i : eI} (ha : a L (zM (setRow G 180 g) U) = some (o, zM (setRow G 180 g) U)) (hi : i L (zM (setRow G 180 g) U) = some (Int32.ofInt x, zM (setRow G 180 g) U)) (hn : lenOf 0 o = n) (hx : 0 ≤ x ∧ x < n) (h9 : n ≤ 100000) (hk : x.toNat = k) (ho : o ≠ 180) (hv : G o k = v) : aI 0 a i L (zM (setRow G 180 g) U) = some (Int32.ofInt v, zM (setRow G 180 g) U) := eArr2 (v := v) ha hi hn hx h9 hk (by rw [setRow_o ho]; exact hv)
theorem eFldO {a : eR} {ci j : Nat} (ha : a L (zM (setRow G 180 g) U) = some (o, zM (setRow G 180 g) U)) (h : okI ci j o = true) (ho : o ≠ 180) (hv : G o j = v) : gI ci j a L (zM (setRow G 180 g) U) = some (Int32.ofInt v, zM (setRow G 180 g) U) := eFld2 (v := v) ha h (by rw [setRow_o ho]; exact hv)
theorem wPutO {ci j : Nat} {a : eR} {e : eI} (ha : a L (zM (setRow G 180 g) U) = some (o, zM (setRow G 180 g) U)) (he : e L (zM (setRow G 180 g) U) = some (Int32.ofInt v, zM (setRow G 180 g) U)) (hh : okI ci j o = true) (ho : o ≠ 180) (h : N L (zM (setRow (upZ G o j v) 180 g) U)) : WpS (sPut ci j a e) L (zM (setRow G 180 g) U) N B C R := wPut ha he hh (by rw [setRow_up ho]; exact h)
theorem wModO {ci j : Nat} {a : eR} {e : eI} (ha : a L (zM (setRow G 180 g) U) = some (o, zM (setRow G 180 g) U)) (hh : okI ci j o = true) (he : e L (zM (setRow G 180 g) U) = some (Int32.ofInt v, zM (setRow G 180 g) U)) (ho : o ≠ 180) (hw : G o j = w) (h : N L (zM (setRow (upZ G o j (w + v)) 180 g) U)) : WpS (sMod ci j (fun x y => x + y) a e) L (zM (setRow G 180 g) U) N B C R := wModA2 (w := w) ha hh he (by rw [setRow_o ho]; exact hw) (by rw [setRow_up ho]; exact h)
end RW
theorem M_setsR {G U : Nat → Nat → Int} {g : Nat → Int} {j w : Nat} {v : Int} (hj : j < 80) (hw : w < 32) : F_M_sets [pR 179, pI (Int32.ofInt (j : Int)), pI (Int32.ofInt (w : Int)), pI (Int32.ofInt v)] (zM (setRow G 180 g) U) = some (none, zM (setRow G 180 (jput g j w v)) U) := by
  have := M_sets (G := setRow G 180 g) (U := U) (j := (j : Int)) (w := (w : Int)) (v := v) (by omega)
  rw [this, show (96 + (j : Int) * 32 + (w : Int)).toNat = 96 + j * 32 + w by omega, setRow_put]
  rfl
theorem M_setsRA {G U : Nat → Nat → Int} {g : Nat → Int} {j w a : Nat} {v : Int} (hj : j < 80) (hw : w + a < 32) : F_M_sets [pR 179, pI (Int32.ofInt (j : Int)), pI (Int32.ofInt ((w : Int) + (a : Int))), pI (Int32.ofInt v)] (zM (setRow G 180 g) U) = some (none, zM (setRow G 180 (jput g j (w + a) v)) U) := by
  have := M_setsR (G := G) (U := U) (g := g) (j := j) (w := w + a) (v := v) hj hw
  rwa [show ((w + a : Nat) : Int) = (w : Int) + (a : Int) by omega] at this
theorem M_atR {G U : Nat → Nat → Int} {g : Nat → Int} {j w : Nat} (hj : j < 80) (hw : w < 32) : F_M_at [pR 179, pI (Int32.ofInt (j : Int)), pI (Int32.ofInt (w : Int))] (zM (setRow G 180 g) U) = some (some (pI (Int32.ofInt (mAt g j w))), zM (setRow G 180 g) U) := by
  have := M_atN (G := setRow G 180 g) (U := U) hj hw
  rwa [setRow_at] at this
theorem M_atRA {G U : Nat → Nat → Int} {g : Nat → Int} {j w a : Nat} (hj : j < 80) (hw : w + a < 32) : F_M_at [pR 179, pI (Int32.ofInt (j : Int)), pI (Int32.ofInt ((w : Int) + (a : Int)))] (zM (setRow G 180 g) U) = some (some (pI (Int32.ofInt (mAt g j (w + a)))), zM (setRow G 180 g) U) := by
  have := M_atL (G := setRow G 180 g) (U := U) hj hw
  rwa [setRow_at] at this
theorem M_holdsR {G U : Nat → Nat → Int} {g : Nat → Int} {j a : Nat} (hj : j < 80) (ha : a < 4) (hr : gRange g) : F_M_holds [pR 179, pI (Int32.ofInt (j : Int)), pI (Int32.ofInt (a : Int))] (zM (setRow G 180 g) U) = some (some (pI (zI (mHolds g j a))), zM (setRow G 180 g) U) := by
  have := M_holds (G := setRow G 180 g) (U := U) hj ha (by rw [setRow_at]; exact hr)
  rwa [setRow_at] at this
theorem M_c0 {G U : Nat → Nat → Int} {g : Nat → Int} {j : Nat} {v : Int} (hj : j < 80) : F_M_sets [pR 179, pI (Int32.ofInt (j : Int)), pI (Int32.ofInt 0), pI (Int32.ofInt v)] (zM (setRow G 180 g) U) = some (none, zM (setRow G 180 (jput g j 0 v)) U) := M_setsR (w := 0) hj (by omega)
theorem M_e0 {G U : Nat → Nat → Int} {g : Nat → Int} {j : Nat} (hj : j < 80) : F_M_at [pR 179, pI (Int32.ofInt (j : Int)), pI (Int32.ofInt 0)] (zM (setRow G 180 g) U) = some (some (pI (Int32.ofInt (mAt g j 0))), zM (setRow G 180 g) U) := M_atR (w := 0) hj (by omega)
theorem M_c1 {G U : Nat → Nat → Int} {g : Nat → Int} {j : Nat} {v : Int} (hj : j < 80) : F_M_sets [pR 179, pI (Int32.ofInt (j : Int)), pI (Int32.ofInt 1), pI (Int32.ofInt v)] (zM (setRow G 180 g) U) = some (none, zM (setRow G 180 (jput g j 1 v)) U) := M_setsR (w := 1) hj (by omega)
theorem M_e1 {G U : Nat → Nat → Int} {g : Nat → Int} {j : Nat} (hj : j < 80) : F_M_at [pR 179, pI (Int32.ofInt (j : Int)), pI (Int32.ofInt 1)] (zM (setRow G 180 g) U) = some (some (pI (Int32.ofInt (mAt g j 1))), zM (setRow G 180 g) U) := M_atR (w := 1) hj (by omega)
theorem M_c2 {G U : Nat → Nat → Int} {g : Nat → Int} {j : Nat} {v : Int} (hj : j < 80) : F_M_sets [pR 179, pI (Int32.ofInt (j : Int)), pI (Int32.ofInt 2), pI (Int32.ofInt v)] (zM (setRow G 180 g) U) = some (none, zM (setRow G 180 (jput g j 2 v)) U) := M_setsR (w := 2) hj (by omega)
theorem M_e2 {G U : Nat → Nat → Int} {g : Nat → Int} {j : Nat} (hj : j < 80) : F_M_at [pR 179, pI (Int32.ofInt (j : Int)), pI (Int32.ofInt 2)] (zM (setRow G 180 g) U) = some (some (pI (Int32.ofInt (mAt g j 2))), zM (setRow G 180 g) U) := M_atR (w := 2) hj (by omega)
theorem M_c3 {G U : Nat → Nat → Int} {g : Nat → Int} {j : Nat} {v : Int} (hj : j < 80) : F_M_sets [pR 179, pI (Int32.ofInt (j : Int)), pI (Int32.ofInt 3), pI (Int32.ofInt v)] (zM (setRow G 180 g) U) = some (none, zM (setRow G 180 (jput g j 3 v)) U) := M_setsR (w := 3) hj (by omega)
theorem M_e3 {G U : Nat → Nat → Int} {g : Nat → Int} {j : Nat} (hj : j < 80) : F_M_at [pR 179, pI (Int32.ofInt (j : Int)), pI (Int32.ofInt 3)] (zM (setRow G 180 g) U) = some (some (pI (Int32.ofInt (mAt g j 3))), zM (setRow G 180 g) U) := M_atR (w := 3) hj (by omega)
theorem M_c4 {G U : Nat → Nat → Int} {g : Nat → Int} {j : Nat} {v : Int} (hj : j < 80) : F_M_sets [pR 179, pI (Int32.ofInt (j : Int)), pI (Int32.ofInt 4), pI (Int32.ofInt v)] (zM (setRow G 180 g) U) = some (none, zM (setRow G 180 (jput g j 4 v)) U) := M_setsR (w := 4) hj (by omega)
theorem M_e4 {G U : Nat → Nat → Int} {g : Nat → Int} {j : Nat} (hj : j < 80) : F_M_at [pR 179, pI (Int32.ofInt (j : Int)), pI (Int32.ofInt 4)] (zM (setRow G 180 g) U) = some (some (pI (Int32.ofInt (mAt g j 4))), zM (setRow G 180 g) U) := M_atR (w := 4) hj (by omega)
theorem M_c5 {G U : Nat → Nat → Int} {g : Nat → Int} {j : Nat} {v : Int} (hj : j < 80) : F_M_sets [pR 179, pI (Int32.ofInt (j : Int)), pI (Int32.ofInt 5), pI (Int32.ofInt v)] (zM (setRow G 180 g) U) = some (none, zM (setRow G 180 (jput g j 5 v)) U) := M_setsR (w := 5) hj (by omega)
theorem M_e5 {G U : Nat → Nat → Int} {g : Nat → Int} {j : Nat} (hj : j < 80) : F_M_at [pR 179, pI (Int32.ofInt (j : Int)), pI (Int32.ofInt 5)] (zM (setRow G 180 g) U) = some (some (pI (Int32.ofInt (mAt g j 5))), zM (setRow G 180 g) U) := M_atR (w := 5) hj (by omega)
theorem M_c6 {G U : Nat → Nat → Int} {g : Nat → Int} {j : Nat} {v : Int} (hj : j < 80) : F_M_sets [pR 179, pI (Int32.ofInt (j : Int)), pI (Int32.ofInt 6), pI (Int32.ofInt v)] (zM (setRow G 180 g) U) = some (none, zM (setRow G 180 (jput g j 6 v)) U) := M_setsR (w := 6) hj (by omega)
theorem M_e6 {G U : Nat → Nat → Int} {g : Nat → Int} {j : Nat} (hj : j < 80) : F_M_at [pR 179, pI (Int32.ofInt (j : Int)), pI (Int32.ofInt 6)] (zM (setRow G 180 g) U) = some (some (pI (Int32.ofInt (mAt g j 6))), zM (setRow G 180 g) U) := M_atR (w := 6) hj (by omega)
theorem M_c7 {G U : Nat → Nat → Int} {g : Nat → Int} {j : Nat} {v : Int} (hj : j < 80) : F_M_sets [pR 179, pI (Int32.ofInt (j : Int)), pI (Int32.ofInt 7), pI (Int32.ofInt v)] (zM (setRow G 180 g) U) = some (none, zM (setRow G 180 (jput g j 7 v)) U) := M_setsR (w := 7) hj (by omega)
theorem M_e7 {G U : Nat → Nat → Int} {g : Nat → Int} {j : Nat} (hj : j < 80) : F_M_at [pR 179, pI (Int32.ofInt (j : Int)), pI (Int32.ofInt 7)] (zM (setRow G 180 g) U) = some (some (pI (Int32.ofInt (mAt g j 7))), zM (setRow G 180 g) U) := M_atR (w := 7) hj (by omega)
theorem M_c8 {G U : Nat → Nat → Int} {g : Nat → Int} {j : Nat} {v : Int} (hj : j < 80) : F_M_sets [pR 179, pI (Int32.ofInt (j : Int)), pI (Int32.ofInt 8), pI (Int32.ofInt v)] (zM (setRow G 180 g) U) = some (none, zM (setRow G 180 (jput g j 8 v)) U) := M_setsR (w := 8) hj (by omega)
theorem M_e8 {G U : Nat → Nat → Int} {g : Nat → Int} {j : Nat} (hj : j < 80) : F_M_at [pR 179, pI (Int32.ofInt (j : Int)), pI (Int32.ofInt 8)] (zM (setRow G 180 g) U) = some (some (pI (Int32.ofInt (mAt g j 8))), zM (setRow G 180 g) U) := M_atR (w := 8) hj (by omega)
theorem M_c9 {G U : Nat → Nat → Int} {g : Nat → Int} {j : Nat} {v : Int} (hj : j < 80) : F_M_sets [pR 179, pI (Int32.ofInt (j : Int)), pI (Int32.ofInt 9), pI (Int32.ofInt v)] (zM (setRow G 180 g) U) = some (none, zM (setRow G 180 (jput g j 9 v)) U) := M_setsR (w := 9) hj (by omega)
theorem M_e9 {G U : Nat → Nat → Int} {g : Nat → Int} {j : Nat} (hj : j < 80) : F_M_at [pR 179, pI (Int32.ofInt (j : Int)), pI (Int32.ofInt 9)] (zM (setRow G 180 g) U) = some (some (pI (Int32.ofInt (mAt g j 9))), zM (setRow G 180 g) U) := M_atR (w := 9) hj (by omega)
theorem M_c10 {G U : Nat → Nat → Int} {g : Nat → Int} {j : Nat} {v : Int} (hj : j < 80) : F_M_sets [pR 179, pI (Int32.ofInt (j : Int)), pI (Int32.ofInt 10), pI (Int32.ofInt v)] (zM (setRow G 180 g) U) = some (none, zM (setRow G 180 (jput g j 10 v)) U) := M_setsR (w := 10) hj (by omega)
theorem M_e10 {G U : Nat → Nat → Int} {g : Nat → Int} {j : Nat} (hj : j < 80) : F_M_at [pR 179, pI (Int32.ofInt (j : Int)), pI (Int32.ofInt 10)] (zM (setRow G 180 g) U) = some (some (pI (Int32.ofInt (mAt g j 10))), zM (setRow G 180 g) U) := M_atR (w := 10) hj (by omega)
theorem M_c11 {G U : Nat → Nat → Int} {g : Nat → Int} {j : Nat} {v : Int} (hj : j < 80) : F_M_sets [pR 179, pI (Int32.ofInt (j : Int)), pI (Int32.ofInt 11), pI (Int32.ofInt v)] (zM (setRow G 180 g) U) = some (none, zM (setRow G 180 (jput g j 11 v)) U) := M_setsR (w := 11) hj (by omega)
theorem M_e11 {G U : Nat → Nat → Int} {g : Nat → Int} {j : Nat} (hj : j < 80) : F_M_at [pR 179, pI (Int32.ofInt (j : Int)), pI (Int32.ofInt 11)] (zM (setRow G 180 g) U) = some (some (pI (Int32.ofInt (mAt g j 11))), zM (setRow G 180 g) U) := M_atR (w := 11) hj (by omega)
theorem M_d12 {G U : Nat → Nat → Int} {g : Nat → Int} {j a : Nat} {v : Int} (hj : j < 80) (ha : a < 4) : F_M_sets [pR 179, pI (Int32.ofInt (j : Int)), pI (Int32.ofInt (12 + (a : Int))), pI (Int32.ofInt v)] (zM (setRow G 180 g) U) = some (none, zM (setRow G 180 (jput g j (12 + a) v)) U) := M_setsRA (w := 12) hj (by omega)
theorem M_f12 {G U : Nat → Nat → Int} {g : Nat → Int} {j a : Nat} (hj : j < 80) (ha : a < 4) : F_M_at [pR 179, pI (Int32.ofInt (j : Int)), pI (Int32.ofInt (12 + (a : Int)))] (zM (setRow G 180 g) U) = some (some (pI (Int32.ofInt (mAt g j (12 + a)))), zM (setRow G 180 g) U) := M_atRA (w := 12) hj (by omega)
theorem M_d16 {G U : Nat → Nat → Int} {g : Nat → Int} {j a : Nat} {v : Int} (hj : j < 80) (ha : a < 4) : F_M_sets [pR 179, pI (Int32.ofInt (j : Int)), pI (Int32.ofInt (16 + (a : Int))), pI (Int32.ofInt v)] (zM (setRow G 180 g) U) = some (none, zM (setRow G 180 (jput g j (16 + a) v)) U) := M_setsRA (w := 16) hj (by omega)
theorem M_f16 {G U : Nat → Nat → Int} {g : Nat → Int} {j a : Nat} (hj : j < 80) (ha : a < 4) : F_M_at [pR 179, pI (Int32.ofInt (j : Int)), pI (Int32.ofInt (16 + (a : Int)))] (zM (setRow G 180 g) U) = some (some (pI (Int32.ofInt (mAt g j (16 + a)))), zM (setRow G 180 g) U) := M_atRA (w := 16) hj (by omega)
theorem M_d20 {G U : Nat → Nat → Int} {g : Nat → Int} {j a : Nat} {v : Int} (hj : j < 80) (ha : a < 4) : F_M_sets [pR 179, pI (Int32.ofInt (j : Int)), pI (Int32.ofInt (20 + (a : Int))), pI (Int32.ofInt v)] (zM (setRow G 180 g) U) = some (none, zM (setRow G 180 (jput g j (20 + a) v)) U) := M_setsRA (w := 20) hj (by omega)
theorem M_f20 {G U : Nat → Nat → Int} {g : Nat → Int} {j a : Nat} (hj : j < 80) (ha : a < 4) : F_M_at [pR 179, pI (Int32.ofInt (j : Int)), pI (Int32.ofInt (20 + (a : Int)))] (zM (setRow G 180 g) U) = some (some (pI (Int32.ofInt (mAt g j (20 + a)))), zM (setRow G 180 g) U) := M_atRA (w := 20) hj (by omega)
theorem M_d24 {G U : Nat → Nat → Int} {g : Nat → Int} {j a : Nat} {v : Int} (hj : j < 80) (ha : a < 4) : F_M_sets [pR 179, pI (Int32.ofInt (j : Int)), pI (Int32.ofInt (24 + (a : Int))), pI (Int32.ofInt v)] (zM (setRow G 180 g) U) = some (none, zM (setRow G 180 (jput g j (24 + a) v)) U) := M_setsRA (w := 24) hj (by omega)
theorem M_f24 {G U : Nat → Nat → Int} {g : Nat → Int} {j a : Nat} (hj : j < 80) (ha : a < 4) : F_M_at [pR 179, pI (Int32.ofInt (j : Int)), pI (Int32.ofInt (24 + (a : Int)))] (zM (setRow G 180 g) U) = some (some (pI (Int32.ofInt (mAt g j (24 + a)))), zM (setRow G 180 g) U) := M_atRA (w := 24) hj (by omega)
theorem M_d28 {G U : Nat → Nat → Int} {g : Nat → Int} {j a : Nat} {v : Int} (hj : j < 80) (ha : a < 4) : F_M_sets [pR 179, pI (Int32.ofInt (j : Int)), pI (Int32.ofInt (28 + (a : Int))), pI (Int32.ofInt v)] (zM (setRow G 180 g) U) = some (none, zM (setRow G 180 (jput g j (28 + a) v)) U) := M_setsRA (w := 28) hj (by omega)
theorem M_f28 {G U : Nat → Nat → Int} {g : Nat → Int} {j a : Nat} (hj : j < 80) (ha : a < 4) : F_M_at [pR 179, pI (Int32.ofInt (j : Int)), pI (Int32.ofInt (28 + (a : Int)))] (zM (setRow G 180 g) U) = some (some (pI (Int32.ofInt (mAt g j (28 + a)))), zM (setRow G 180 g) U) := M_atRA (w := 28) hj (by omega)
theorem wSeqM {a b : sC} {L : pLo} {σ : pM} {N B C : pQ} {R : Option pV → pM → Prop} (M : pQ) (h1 : WpS a L σ M B C R) (h2 : ∀ L σ, M L σ → WpS b L σ N B C R) : WpS (sSeq a b) L σ N B C R := wSeq (wS_m h1 h2 (fun _ _ h => h) (fun _ _ h => h) (fun _ _ h => h))
