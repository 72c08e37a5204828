/-! ===== calls of both: costs ===== -/
/-- the row as it is laid back behind a thought -/
def bkG (g K : Nat → Int) : Nat → Int := fun b => if b < 3940 then g b else K b
def bkU (u K : Nat → Int) : Nat → Int := fun a => if a < 16 then u a else K a
theorem bk_I {g K : Nat → Int} (hI : rowI g) (hK : gRange K) : rowI (bkG g K) := cong_row (fun b => by
  unfold bkG
  split
  · exact hI.1.1 b
  · exact hK b) (fun b hb => if_pos hb) hI