/-! ===== the reference's tick ===== -/
def chRow (g : Nat → Int) : Nat := 2916 + (g 0).toNat % 64 * 16
def chaG (g : Nat → Int) (k : Nat) : Nat → Int := fun b => if chRow g ≤ b ∧ b < chRow g + k then holderF g (b - chRow g) else g b
theorem chaG_0 {g : Nat → Int} : chaG g 0 = g := by
  funext b
  unfold chaG
  rw [if_neg (by omega)]
theorem chaG_s {g : Nat → Int} {k : Nat} : put (chaG g k) (chRow g + k) (holderF g k) = chaG g (k + 1) := by
  funext b
  unfold put chaG
  by_cases h : b = chRow g + k
  · subst h
    rw [if_pos rfl, if_pos (by omega), show chRow g + k - chRow g = k by omega]
  · rw [if_neg h]
    by_cases h2 : chRow g ≤ b ∧ b < chRow g + k
    · rw [if_pos h2, if_pos (by omega)]
    · rw [if_neg h2, if_neg (by omega)]
theorem chaG_lo {g : Nat → Int} {k b : Nat} (h : b < 2916) : chaG g k b = g b := by
  unfold chaG chRow
  rw [if_neg (by omega)]
theorem chaG_at {g : Nat → Int} {k j w : Nat} (hj : j < 80) (hw : w < 32) : mAt (chaG g k) j w = mAt g j w := chaG_lo (by omega)
def useU (g : Nat → Int) (U : Nat → Nat → Int) : Nat → Nat → Nat → Int
  | 0 => U
  | k + 1 => if holderF g k < 0 then upZ (useU g U k) 183 14 (useU g U k 183 14 + 1) else upZ (useU g U k) 183 (mAt g (holderF g k).toNat 0).toNat (useU g U k 183 (mAt g (holderF g k).toNat 0).toNat + 1)
def endR (s : (Nat → Int) × (Nat → Nat → Int)) : Nat → (Nat → Int) × (Nat → Nat → Int)
  | 0 => s
  | i + 1 => if mAt (endR s i).1 i 5 = 1 then (endG (endR s i).1 i, endU (endR s i).1 (endR s i).2 i) else endR s i
def halU (U : Nat → Nat → Int) : Nat → Nat → Nat → Int
  | 0 => U
  | k + 1 => upZ (halU U k) 183 k (halU U k 183 k / 2)
def expG (g : Nat → Int) : Nat → Nat → Int
  | 0 => g
  | i + 1 => if 0 ≤ mSpan (expG g i) i 0 ∧ mSpan (expG g i) i 4 ≤ expG g i 0 then put (expG g i) (24 + i * 6) (-1) else expG g i
def nowG (g : Nat → Int) : Nat → Int := put (chaG g 16) 0 (g 0 + 1)
def endS (g : Nat → Int) (U : Nat → Nat → Int) : (Nat → Int) × (Nat → Nat → Int) := endR (nowG g, useU g U 16) (g 1).toNat
/-- what is behind the pass in a tick -/
def tailG (g : Nat → Int) (U : Nat → Nat → Int) : Nat → Int := expG (endS g U).1 12
def tailU (g : Nat → Int) (U : Nat → Nat → Int) : Nat → Nat → Int := if 0 < (endS g U).1 4 ∧ (endS g U).1 0 % (endS g U).1 4 = 0 then halU (endS g U).2 8 else (endS g U).2
theorem M_holderOfR {G U : Nat → Nat → Int} {g : Nat → Int} {c : Nat} (hc : c < 16) (hr : gRange g) (hm : 0 ≤ g 1 ∧ g 1 ≤ 80) (hok : ∀ j, j < (g 1).toNat → mJobOk g j) : F_M_holderOf [pR 179, pI (Int32.ofInt (c : Int))] (zM (setRow G 180 g) U) = some (some (pI (Int32.ofInt (holderF g c))), zM (setRow G 180 g) U) := by
  have := M_holderOf (G := setRow G 180 g) (U := U) (c := c) hc (by rw [setRow_at]; exact hr) (by rw [setRow_at]; exact hm) (by rw [setRow_at]; exact hok)
  rwa [setRow_at] at this
/-- what the ends leave -/
theorem endG_lo {g : Nat → Int} {j b : Nat} (h : b < 96) (h7 : b ≠ 7) : endG g j b = g b := by
  unfold endG
  split
  · rw [hapF_lo (by omega) h7, jput_lo h, jput_lo h]
  · rfl
theorem endG_hi {g : Nat → Int} {j b : Nat} (hj : j < 80) (h : 2916 ≤ b) (h7 : 0 ≤ g 7 ∧ g 7 ≤ 60) : endG g j b = g b := by
  unfold endG
  split
  · rw [hapF_hi h (by rw [jput_lo (by omega), jput_lo (by omega)]; exact h7), jput_hi hj (by omega) (by omega), jput_hi hj (by omega) (by omega)]
  · rfl
theorem endG_7 {g : Nat → Int} {j : Nat} (h7 : 0 ≤ g 7 ∧ g 7 ≤ 60) : 0 ≤ endG g j 7 ∧ endG g j 7 ≤ 60 := by
  unfold endG
  split
  · have e : jput (jput g j 5 (if cutB g j = true then 3 else 2)) j 7 (g 0) 7 = g 7 := by rw [jput_lo (by omega), jput_lo (by omega)]
    rw [hapF_7 (by rw [e]; exact h7), e]
    split <;> omega
  · exact h7
theorem endG_at {g : Nat → Int} {j k w : Nat} (hk : k < 80) (hw : w < 32) (h5 : w ≠ 5) (h7 : w ≠ 7) : mAt (endG g j) k w = mAt g k w := by
  unfold endG
  split
  · rw [mAt_hapF hk hw, mAt_jput (by omega) hw, if_neg (by omega), mAt_jput (by omega) hw, if_neg (by omega)]
  · rfl
theorem endG_other {g : Nat → Int} {j k w : Nat} (hk : k < 80) (hw : w < 32) (hkj : k ≠ j) : mAt (endG g j) k w = mAt g k w := by
  unfold endG
  split
  · rw [mAt_hapF hk hw, mAt_jput (by omega) hw, if_neg (by omega), mAt_jput (by omega) hw, if_neg (by omega)]
  · rfl
theorem W_tickTail {G U : Nat → Nat → Int} {g : Nat → Int} {R : pQ} {N : pQ} {RR : Option pV → pM → Prop} {x : Option pV} (hrow : rowOk g) (hq : quiet G) (hu : ∀ a, a < 8 → 0 ≤ U 183 a ∧ U 183 a ≤ 1000000000) (hR : N [some (pR 179), none, none, none] (zM (setRow G 180 (tailG g U)) (tailU g U)) → True) : True := trivial
