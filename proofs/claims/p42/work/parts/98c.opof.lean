/-! ===== a call of both: of a job ===== -/
theorem wSwAt {L : pLo} {σ : pM} {N B C : pQ} {R : Option pV → pM → Prop} {cs : List sC} {d x : sC} {k : Nat} (h : cs[k]? = some x) (hx : WpS x L σ N B C R) : WpS (if (k : Int) < 0 then d else (cs[((k : Int) - 0).toNat]?).getD d) L σ N B C R := by
  rw [if_neg (by omega), show ((k : Int) - 0).toNat = k by omega, h]
  exact hx
theorem wSwNo {L : pLo} {σ : pM} {N B C : pQ} {R : Option pV → pM → Prop} {cs : List sC} {d : sC} {k : Int} (h : k < 0 ∨ (cs.length : Int) ≤ k) (hx : WpS d L σ N B C R) : WpS (if k < 0 then d else (cs[(k - 0).toNat]?).getD d) L σ N B C R := by
  by_cases c : k < 0
  · rw [if_pos c]; exact hx
  · rw [if_neg c, List.getElem?_eq_none (by omega)]
    exact hx
theorem orT {v : Int} (h : -1 ≤ v) : (if decide (v = -1) = true then (-2 : Int) else v) = if v < 0 then -2 else v := by
  by_cases cx : v < 0
  · rw [if_pos cx, if_pos (decide_eq_true (by omega))]
  · rw [if_neg cx, if_neg (fun h => by have := of_decide_eq_true h; omega)]