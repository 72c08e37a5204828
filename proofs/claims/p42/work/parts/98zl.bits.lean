/-! ===== how many bits ===== -/
def bcI (x : Int32) : Int32 :=
  let a := x - ((x.toUInt32 >>> ((Int32.ofInt 1).toUInt32 &&& Int32.toUInt32 31)).toInt32 &&& Int32.ofInt 1431655765)
  let b := (a &&& Int32.ofInt 858993459) + ((a.toUInt32 >>> ((Int32.ofInt 2).toUInt32 &&& Int32.toUInt32 31)).toInt32 &&& Int32.ofInt 858993459)
  let c := (b + (b.toUInt32 >>> ((Int32.ofInt 4).toUInt32 &&& Int32.toUInt32 31)).toInt32) &&& Int32.ofInt 252645135
  let d := c + (c.toUInt32 >>> ((Int32.ofInt 8).toUInt32 &&& Int32.toUInt32 31)).toInt32
  let f := d + (d.toUInt32 >>> ((Int32.ofInt 16).toUInt32 &&& Int32.toUInt32 31)).toInt32
  f &&& Int32.ofInt 63
def pc8 (m : Nat) : Nat := m % 2 + m / 2 % 2 + m / 4 % 2 + m / 8 % 2 + m / 16 % 2 + m / 32 % 2 + m / 64 % 2 + m / 128 % 2
def bcL (h : Nat) : Nat → Bool
  | 0 => true
  | l + 1 => (bcI (Int32.ofInt ((256 * h + l : Nat) : Int)) == Int32.ofInt ((pc8 h + pc8 l : Nat) : Int)) && bcL h l
def bcS (lo : Nat) : Nat → Bool
  | 0 => true
  | n + 1 => bcL (lo + n) 256 && bcS lo n
theorem bc_ev {σ : pM} {x : Int32} : F_J_bitCount [pI x] σ = some (some (pI (bcI x)), σ) := by
  rfl
theorem bcL_at {h : Nat} : ∀ n, bcL h n = true → ∀ l, l < n → bcI (Int32.ofInt ((256 * h + l : Nat) : Int)) = Int32.ofInt ((pc8 h + pc8 l : Nat) : Int)
  | 0, _, l, hl => absurd hl (Nat.not_lt_zero l)
  | n + 1, hb, l, hl => by
    rw [bcL, Bool.and_eq_true] at hb
    rcases Nat.lt_or_ge l n with c | c
    · exact bcL_at n hb.2 l c
    · have e : l = n := by omega
      rw [e]
      exact eq_of_beq hb.1
theorem bcS_at {lo : Nat} : ∀ n, bcS lo n = true → ∀ k, k < n → bcL (lo + k) 256 = true
  | 0, _, k, hk => absurd hk (Nat.not_lt_zero k)
  | n + 1, hb, k, hk => by
    rw [bcS, Bool.and_eq_true] at hb
    rcases Nat.lt_or_ge k n with c | c
    · exact bcS_at n hb.2 k c
    · have e : k = n := by omega
      rw [e]
      exact hb.1
theorem bit_01 {m c : Nat} : (if m.testBit c = true then (1 : Int) else 0) = ((m / 2 ^ c % 2 : Nat) : Int) := by
  rw [Nat.testBit_eq_decide_div_mod_eq]
  have := Nat.mod_lt (m / 2 ^ c) (by omega : 0 < 2)
  by_cases h : m / 2 ^ c % 2 = 1
  · rw [if_pos (decide_eq_true h), h]; rfl
  · rw [if_neg (by simpa using h)]
    omega
theorem cnt_pc {m : Nat} (hm : m < 65536) : cnt16 m = ((pc8 (m / 256) + pc8 (m % 256) : Nat) : Int) := by
  have e : cnt16 m = sumTo (fun c => ((m / 2 ^ c % 2 : Nat) : Int)) 16 := sumTo_congr fun c _ => bit_01
  rw [e]
  have e0 : m / 2 ^ 0 % 2 = (m % 256) % 2 := by omega
  have e1 : m / 2 ^ 1 % 2 = (m % 256) / 2 % 2 := by omega
  have e2 : m / 2 ^ 2 % 2 = (m % 256) / 4 % 2 := by omega
  have e3 : m / 2 ^ 3 % 2 = (m % 256) / 8 % 2 := by omega
  have e4 : m / 2 ^ 4 % 2 = (m % 256) / 16 % 2 := by omega
  have e5 : m / 2 ^ 5 % 2 = (m % 256) / 32 % 2 := by omega
  have e6 : m / 2 ^ 6 % 2 = (m % 256) / 64 % 2 := by omega
  have e7 : m / 2 ^ 7 % 2 = (m % 256) / 128 % 2 := by omega
  have e8 : m / 2 ^ 8 % 2 = (m / 256) % 2 := by omega
  have e9 : m / 2 ^ 9 % 2 = (m / 256) / 2 % 2 := by omega
  have e10 : m / 2 ^ 10 % 2 = (m / 256) / 4 % 2 := by omega
  have e11 : m / 2 ^ 11 % 2 = (m / 256) / 8 % 2 := by omega
  have e12 : m / 2 ^ 12 % 2 = (m / 256) / 16 % 2 := by omega
  have e13 : m / 2 ^ 13 % 2 = (m / 256) / 32 % 2 := by omega
  have e14 : m / 2 ^ 14 % 2 = (m / 256) / 64 % 2 := by omega
  have e15 : m / 2 ^ 15 % 2 = (m / 256) / 128 % 2 := by omega
  simp only [sumTo, e0, e1, e2, e3, e4, e5, e6, e7, e8, e9, e10, e11, e12, e13, e14, e15, pc8]
  clear e e0 e1 e2 e3 e4 e5 e6 e7 e8 e9 e10 e11 e12 e13 e14 e15
  generalize (m % 256) % 2 = x0
  generalize (m % 256) / 2 % 2 = x1
  generalize (m % 256) / 4 % 2 = x2
  generalize (m % 256) / 8 % 2 = x3
  generalize (m % 256) / 16 % 2 = x4
  generalize (m % 256) / 32 % 2 = x5
  generalize (m % 256) / 64 % 2 = x6
  generalize (m % 256) / 128 % 2 = x7
  generalize (m / 256) % 2 = x8
  generalize (m / 256) / 2 % 2 = x9
  generalize (m / 256) / 4 % 2 = x10
  generalize (m / 256) / 8 % 2 = x11
  generalize (m / 256) / 16 % 2 = x12
  generalize (m / 256) / 32 % 2 = x13
  generalize (m / 256) / 64 % 2 = x14
  generalize (m / 256) / 128 % 2 = x15
  omega
theorem bs0 : bcS 0 64 = true := by decide +kernel
theorem bs1 : bcS 64 64 = true := by decide +kernel
theorem bs2 : bcS 128 64 = true := by decide +kernel
theorem bs3 : bcS 192 64 = true := by decide +kernel
theorem Xc_bitCount {σ : pM} {m : Nat} (hm : m < 65536) : F_J_bitCount [pI (Int32.ofInt (m : Int))] σ = some (some (pI (Int32.ofInt (cnt16 m))), σ) := by
  have hl : bcL (m / 256) 256 = true := by
    rcases (by omega : m / 256 < 64 ∨ (64 ≤ m / 256 ∧ m / 256 < 128) ∨ (128 ≤ m / 256 ∧ m / 256 < 192) ∨ (192 ≤ m / 256 ∧ m / 256 < 256)) with h | h | h | h
    · have := bcS_at 64 bs0 (m / 256) h
      rwa [Nat.zero_add] at this
    · have := bcS_at 64 bs1 (m / 256 - 64) (by omega)
      rwa [show 64 + (m / 256 - 64) = m / 256 by omega] at this
    · have := bcS_at 64 bs2 (m / 256 - 128) (by omega)
      rwa [show 128 + (m / 256 - 128) = m / 256 by omega] at this
    · have := bcS_at 64 bs3 (m / 256 - 192) (by omega)
      rwa [show 192 + (m / 256 - 192) = m / 256 by omega] at this
  have h2 := bcL_at 256 hl (m % 256) (Nat.mod_lt _ (by omega))
  rw [show 256 * (m / 256) + m % 256 = m by omega] at h2
  rw [bc_ev, h2, cnt_pc hm]
