/-! ===== calls of both: holes, the call ===== -/
theorem bzX_lt {g : Nat → Int} {x y acc gA gB sA sB : Int} (hrow : rowOk g) : bzX g x y acc gA gB sA sB < 65536 := by
  unfold bzX
  refine or_lt (orTo_lt fun j hj => byJob_lt (jOk_mJob hrow.2.1 (row_j hrow hj))) (orTo_lt fun s hs => bySpan_lt fun hn => ?_)
  obtain ⟨-, s2, s3, s4, -⟩ := (row_s hrow hs).2 hn
  exact ⟨s2, s3, s4⟩