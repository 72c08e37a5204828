/-! ===== the labels of the objects ===== -/
def isScene (o : Nat) : Prop := o = 1 ∨ o = 40 ∨ o = 98
theorem isScene_1 : isScene 1 := by unfold isScene; decide
theorem isScene_40 : isScene 40 := by unfold isScene; decide
theorem isScene_98 : isScene 98 := by unfold isScene; decide
def isJobs (o : Nat) : Prop := o = 6 ∨ o = 45 ∨ o = 103
theorem isJobs_6 : isJobs 6 := by unfold isJobs; decide
theorem isJobs_45 : isJobs 45 := by unfold isJobs; decide
theorem isJobs_103 : isJobs 103 := by unfold isJobs; decide
def isArms (o : Nat) : Prop := o = 20 ∨ o = 59 ∨ o = 117
theorem isArms_20 : isArms 20 := by unfold isArms; decide
theorem isArms_59 : isArms 59 := by unfold isArms; decide
theorem isArms_117 : isArms 117 := by unfold isArms; decide
def isSpans (o : Nat) : Prop := o = 27 ∨ o = 66 ∨ o = 124
theorem isSpans_27 : isSpans 27 := by unfold isSpans; decide
theorem isSpans_66 : isSpans 66 := by unfold isSpans; decide
theorem isSpans_124 : isSpans 124 := by unfold isSpans; decide
def isBook (o : Nat) : Prop := o = 33 ∨ o = 72 ∨ o = 130
theorem isBook_33 : isBook 33 := by unfold isBook; decide
theorem isBook_72 : isBook 72 := by unfold isBook; decide
theorem isBook_130 : isBook 130 := by unfold isBook; decide
def isScheduler (o : Nat) : Prop := o = 79 ∨ o = 137
theorem isScheduler_79 : isScheduler 79 := by unfold isScheduler; decide
theorem isScheduler_137 : isScheduler 137 := by unfold isScheduler; decide
def isBoard (o : Nat) : Prop := o = 80 ∨ o = 138 ∨ o = 156
theorem isBoard_80 : isBoard 80 := by unfold isBoard; decide
theorem isBoard_138 : isBoard 138 := by unfold isBoard; decide
theorem isBoard_156 : isBoard 156 := by unfold isBoard; decide
def isGang (o : Nat) : Prop := o = 85 ∨ o = 143 ∨ o = 161 ∨ o = 170
theorem isGang_85 : isGang 85 := by unfold isGang; decide
theorem isGang_143 : isGang 143 := by unfold isGang; decide
theorem isGang_161 : isGang 161 := by unfold isGang; decide
theorem isGang_170 : isGang 170 := by unfold isGang; decide
def isLine (o : Nat) : Prop := o = 90 ∨ o = 148 ∨ o = 175
theorem isLine_90 : isLine 90 := by unfold isLine; decide
theorem isLine_148 : isLine 148 := by unfold isLine; decide
theorem isLine_175 : isLine 175 := by unfold isLine; decide
theorem C_X {As : List pV} : ckV 11 (pR 0 :: As) = true := by rw [ckV_cons]; right; decide +kernel
theorem R_X_scene {L : pLo} {σ : pM} {a : eR} (ha : a L σ = some (0, σ)) : gR 11 0 1 a L σ = some (1, σ) := eFldR (o := 0) ha (by decide +kernel)
theorem R_X_imaged {L : pLo} {σ : pM} {a : eR} (ha : a L σ = some (0, σ)) : gR 11 1 40 a L σ = some (40, σ) := eFldR (o := 0) ha (by decide +kernel)
theorem R_X_scheduler {L : pLo} {σ : pM} {a : eR} (ha : a L σ = some (0, σ)) : gR 11 2 79 a L σ = some (79, σ) := eFldR (o := 0) ha (by decide +kernel)
theorem R_X_thoughts {L : pLo} {σ : pM} {a : eR} (ha : a L σ = some (0, σ)) : gR 11 3 97 a L σ = some (97, σ) := eFldR (o := 0) ha (by decide +kernel)
theorem R_X_tape {L : pLo} {σ : pM} {a : eR} (ha : a L σ = some (0, σ)) : gR 11 4 168 a L σ = some (168, σ) := eFldR (o := 0) ha (by decide +kernel)
theorem R_X_told {L : pLo} {σ : pM} {a : eR} (ha : a L σ = some (0, σ)) : gR 11 5 170 a L σ = some (170, σ) := eFldR (o := 0) ha (by decide +kernel)
theorem R_X_lineNow {L : pLo} {σ : pM} {a : eR} (ha : a L σ = some (0, σ)) : gR 11 6 175 a L σ = some (175, σ) := eFldR (o := 0) ha (by decide +kernel)
theorem C_Scene {o : Nat} {As : List pV} (ho : isScene o) : ckV 6 (pR o :: As) = true := by
  rcases ho with rfl | rfl | rfl <;> (rw [ckV_cons]; right; decide +kernel)
theorem K_Scene_inThought {o : Nat} (ho : isScene o) : okI 6 0 o = true := by
  rcases ho with rfl | rfl | rfl <;> decide +kernel
theorem K_Scene_now {o : Nat} (ho : isScene o) : okI 6 1 o = true := by
  rcases ho with rfl | rfl | rfl <;> decide +kernel
theorem R_Scene_weights {L : pLo} {σ : pM} {a : eR} {o : Nat} (ha : a L σ = some (o, σ)) (ho : isScene o) : gR 6 2 1 a L σ = some (o + 1, σ) := eFldR ha (by
  rcases ho with rfl | rfl | rfl <;> decide +kernel)
theorem N_Scene_weights {o : Nat} (ho : isScene o) : lenOf 0 (o + 1) = 8 := by
  rcases ho with rfl | rfl | rfl <;> decide +kernel
theorem R_Scene_limits {L : pLo} {σ : pM} {a : eR} {o : Nat} (ha : a L σ = some (o, σ)) (ho : isScene o) : gR 6 3 2 a L σ = some (o + 2, σ) := eFldR ha (by
  rcases ho with rfl | rfl | rfl <;> decide +kernel)
theorem N_Scene_limits {o : Nat} (ho : isScene o) : lenOf 0 (o + 2) = 8 := by
  rcases ho with rfl | rfl | rfl <;> decide +kernel
theorem R_Scene_uses {L : pLo} {σ : pM} {a : eR} {o : Nat} (ha : a L σ = some (o, σ)) (ho : isScene o) : gR 6 4 3 a L σ = some (o + 3, σ) := eFldR ha (by
  rcases ho with rfl | rfl | rfl <;> decide +kernel)
theorem N_Scene_uses {o : Nat} (ho : isScene o) : lenOf 2 (o + 3) = 8 := by
  rcases ho with rfl | rfl | rfl <;> decide +kernel
theorem R_Scene_rules {L : pLo} {σ : pM} {a : eR} {o : Nat} (ha : a L σ = some (o, σ)) (ho : isScene o) : gR 6 5 4 a L σ = some (o + 4, σ) := eFldR ha (by
  rcases ho with rfl | rfl | rfl <;> decide +kernel)
theorem N_Scene_rules {o : Nat} (ho : isScene o) : lenOf 0 (o + 4) = 3 := by
  rcases ho with rfl | rfl | rfl <;> decide +kernel
theorem R_Scene_jobs {L : pLo} {σ : pM} {a : eR} {o : Nat} (ha : a L σ = some (o, σ)) (ho : isScene o) : gR 6 6 5 a L σ = some (o + 5, σ) := eFldR ha (by
  rcases ho with rfl | rfl | rfl <;> decide +kernel)
theorem S_Scene_jobs {o : Nat} (ho : isScene o) : isJobs (o + 5) := by
  rcases ho with rfl | rfl | rfl <;> (unfold isJobs; decide)
theorem R_Scene_arms {L : pLo} {σ : pM} {a : eR} {o : Nat} (ha : a L σ = some (o, σ)) (ho : isScene o) : gR 6 7 19 a L σ = some (o + 19, σ) := eFldR ha (by
  rcases ho with rfl | rfl | rfl <;> decide +kernel)
theorem S_Scene_arms {o : Nat} (ho : isScene o) : isArms (o + 19) := by
  rcases ho with rfl | rfl | rfl <;> (unfold isArms; decide)
theorem R_Scene_spans {L : pLo} {σ : pM} {a : eR} {o : Nat} (ha : a L σ = some (o, σ)) (ho : isScene o) : gR 6 8 26 a L σ = some (o + 26, σ) := eFldR ha (by
  rcases ho with rfl | rfl | rfl <;> decide +kernel)
theorem S_Scene_spans {o : Nat} (ho : isScene o) : isSpans (o + 26) := by
  rcases ho with rfl | rfl | rfl <;> (unfold isSpans; decide)
theorem R_Scene_book {L : pLo} {σ : pM} {a : eR} {o : Nat} (ha : a L σ = some (o, σ)) (ho : isScene o) : gR 6 9 32 a L σ = some (o + 32, σ) := eFldR ha (by
  rcases ho with rfl | rfl | rfl <;> decide +kernel)
theorem S_Scene_book {o : Nat} (ho : isScene o) : isBook (o + 32) := by
  rcases ho with rfl | rfl | rfl <;> (unfold isBook; decide)
theorem C_Jobs {o : Nat} {As : List pV} (ho : isJobs o) : ckV 4 (pR o :: As) = true := by
  rcases ho with rfl | rfl | rfl <;> (rw [ckV_cons]; right; decide +kernel)
theorem K_Jobs_size {o : Nat} (ho : isJobs o) : okI 4 0 o = true := by
  rcases ho with rfl | rfl | rfl <;> decide +kernel
theorem R_Jobs_state {L : pLo} {σ : pM} {a : eR} {o : Nat} (ha : a L σ = some (o, σ)) (ho : isJobs o) : gR 4 1 1 a L σ = some (o + 1, σ) := eFldR ha (by
  rcases ho with rfl | rfl | rfl <;> decide +kernel)
theorem N_Jobs_state {o : Nat} (ho : isJobs o) : lenOf 0 (o + 1) = 80 := by
  rcases ho with rfl | rfl | rfl <;> decide +kernel
theorem R_Jobs_account {L : pLo} {σ : pM} {a : eR} {o : Nat} (ha : a L σ = some (o, σ)) (ho : isJobs o) : gR 4 2 2 a L σ = some (o + 2, σ) := eFldR ha (by
  rcases ho with rfl | rfl | rfl <;> decide +kernel)
theorem N_Jobs_account {o : Nat} (ho : isJobs o) : lenOf 0 (o + 2) = 80 := by
  rcases ho with rfl | rfl | rfl <;> decide +kernel
theorem R_Jobs_rank {L : pLo} {σ : pM} {a : eR} {o : Nat} (ha : a L σ = some (o, σ)) (ho : isJobs o) : gR 4 3 3 a L σ = some (o + 3, σ) := eFldR ha (by
  rcases ho with rfl | rfl | rfl <;> decide +kernel)
theorem N_Jobs_rank {o : Nat} (ho : isJobs o) : lenOf 0 (o + 3) = 80 := by
  rcases ho with rfl | rfl | rfl <;> decide +kernel
theorem R_Jobs_part {L : pLo} {σ : pM} {a : eR} {o : Nat} (ha : a L σ = some (o, σ)) (ho : isJobs o) : gR 4 4 4 a L σ = some (o + 4, σ) := eFldR ha (by
  rcases ho with rfl | rfl | rfl <;> decide +kernel)
theorem N_Jobs_part {o : Nat} (ho : isJobs o) : lenOf 0 (o + 4) = 80 := by
  rcases ho with rfl | rfl | rfl <;> decide +kernel
theorem R_Jobs_after {L : pLo} {σ : pM} {a : eR} {o : Nat} (ha : a L σ = some (o, σ)) (ho : isJobs o) : gR 4 5 5 a L σ = some (o + 5, σ) := eFldR ha (by
  rcases ho with rfl | rfl | rfl <;> decide +kernel)
theorem N_Jobs_after {o : Nat} (ho : isJobs o) : lenOf 0 (o + 5) = 80 := by
  rcases ho with rfl | rfl | rfl <;> decide +kernel
theorem R_Jobs_arms {L : pLo} {σ : pM} {a : eR} {o : Nat} (ha : a L σ = some (o, σ)) (ho : isJobs o) : gR 4 6 6 a L σ = some (o + 6, σ) := eFldR ha (by
  rcases ho with rfl | rfl | rfl <;> decide +kernel)
theorem N_Jobs_arms {o : Nat} (ho : isJobs o) : lenOf 0 (o + 6) = 80 := by
  rcases ho with rfl | rfl | rfl <;> decide +kernel
theorem R_Jobs_columns {L : pLo} {σ : pM} {a : eR} {o : Nat} (ha : a L σ = some (o, σ)) (ho : isJobs o) : gR 4 7 7 a L σ = some (o + 7, σ) := eFldR ha (by
  rcases ho with rfl | rfl | rfl <;> decide +kernel)
theorem N_Jobs_columns {o : Nat} (ho : isJobs o) : lenOf 0 (o + 7) = 80 := by
  rcases ho with rfl | rfl | rfl <;> decide +kernel
theorem R_Jobs_heldBack {L : pLo} {σ : pM} {a : eR} {o : Nat} (ha : a L σ = some (o, σ)) (ho : isJobs o) : gR 4 8 8 a L σ = some (o + 8, σ) := eFldR ha (by
  rcases ho with rfl | rfl | rfl <;> decide +kernel)
theorem N_Jobs_heldBack {o : Nat} (ho : isJobs o) : lenOf 0 (o + 8) = 80 := by
  rcases ho with rfl | rfl | rfl <;> decide +kernel
theorem R_Jobs_came {L : pLo} {σ : pM} {a : eR} {o : Nat} (ha : a L σ = some (o, σ)) (ho : isJobs o) : gR 4 9 9 a L σ = some (o + 9, σ) := eFldR ha (by
  rcases ho with rfl | rfl | rfl <;> decide +kernel)
theorem N_Jobs_came {o : Nat} (ho : isJobs o) : lenOf 0 (o + 9) = 80 := by
  rcases ho with rfl | rfl | rfl <;> decide +kernel
theorem R_Jobs_start {L : pLo} {σ : pM} {a : eR} {o : Nat} (ha : a L σ = some (o, σ)) (ho : isJobs o) : gR 4 10 10 a L σ = some (o + 10, σ) := eFldR ha (by
  rcases ho with rfl | rfl | rfl <;> decide +kernel)
theorem N_Jobs_start {o : Nat} (ho : isJobs o) : lenOf 0 (o + 10) = 80 := by
  rcases ho with rfl | rfl | rfl <;> decide +kernel
theorem R_Jobs_ended {L : pLo} {σ : pM} {a : eR} {o : Nat} (ha : a L σ = some (o, σ)) (ho : isJobs o) : gR 4 11 11 a L σ = some (o + 11, σ) := eFldR ha (by
  rcases ho with rfl | rfl | rfl <;> decide +kernel)
theorem N_Jobs_ended {o : Nat} (ho : isJobs o) : lenOf 0 (o + 11) = 80 := by
  rcases ho with rfl | rfl | rfl <;> decide +kernel
theorem R_Jobs_firstPromise {L : pLo} {σ : pM} {a : eR} {o : Nat} (ha : a L σ = some (o, σ)) (ho : isJobs o) : gR 4 12 12 a L σ = some (o + 12, σ) := eFldR ha (by
  rcases ho with rfl | rfl | rfl <;> decide +kernel)
theorem N_Jobs_firstPromise {o : Nat} (ho : isJobs o) : lenOf 0 (o + 12) = 80 := by
  rcases ho with rfl | rfl | rfl <;> decide +kernel
theorem R_Jobs_promise {L : pLo} {σ : pM} {a : eR} {o : Nat} (ha : a L σ = some (o, σ)) (ho : isJobs o) : gR 4 13 13 a L σ = some (o + 13, σ) := eFldR ha (by
  rcases ho with rfl | rfl | rfl <;> decide +kernel)
theorem N_Jobs_promise {o : Nat} (ho : isJobs o) : lenOf 0 (o + 13) = 80 := by
  rcases ho with rfl | rfl | rfl <;> decide +kernel
theorem C_Arms {o : Nat} {As : List pV} (ho : isArms o) : ckV 0 (pR o :: As) = true := by
  rcases ho with rfl | rfl | rfl <;> (rw [ckV_cons]; right; decide +kernel)
theorem R_Arms_wide {L : pLo} {σ : pM} {a : eR} {o : Nat} (ha : a L σ = some (o, σ)) (ho : isArms o) : gR 0 0 1 a L σ = some (o + 1, σ) := eFldR ha (by
  rcases ho with rfl | rfl | rfl <;> decide +kernel)
theorem N_Arms_wide {o : Nat} (ho : isArms o) : lenOf 0 (o + 1) = 320 := by
  rcases ho with rfl | rfl | rfl <;> decide +kernel
theorem R_Arms_asks {L : pLo} {σ : pM} {a : eR} {o : Nat} (ha : a L σ = some (o, σ)) (ho : isArms o) : gR 0 1 2 a L σ = some (o + 2, σ) := eFldR ha (by
  rcases ho with rfl | rfl | rfl <;> decide +kernel)
theorem N_Arms_asks {o : Nat} (ho : isArms o) : lenOf 0 (o + 2) = 320 := by
  rcases ho with rfl | rfl | rfl <;> decide +kernel
theorem R_Arms_column {L : pLo} {σ : pM} {a : eR} {o : Nat} (ha : a L σ = some (o, σ)) (ho : isArms o) : gR 0 2 3 a L σ = some (o + 3, σ) := eFldR ha (by
  rcases ho with rfl | rfl | rfl <;> decide +kernel)
theorem N_Arms_column {o : Nat} (ho : isArms o) : lenOf 0 (o + 3) = 320 := by
  rcases ho with rfl | rfl | rfl <;> decide +kernel
theorem R_Arms_end {L : pLo} {σ : pM} {a : eR} {o : Nat} (ha : a L σ = some (o, σ)) (ho : isArms o) : gR 0 3 4 a L σ = some (o + 4, σ) := eFldR ha (by
  rcases ho with rfl | rfl | rfl <;> decide +kernel)
theorem N_Arms_end {o : Nat} (ho : isArms o) : lenOf 0 (o + 4) = 320 := by
  rcases ho with rfl | rfl | rfl <;> decide +kernel
theorem R_Arms_promised {L : pLo} {σ : pM} {a : eR} {o : Nat} (ha : a L σ = some (o, σ)) (ho : isArms o) : gR 0 4 5 a L σ = some (o + 5, σ) := eFldR ha (by
  rcases ho with rfl | rfl | rfl <;> decide +kernel)
theorem N_Arms_promised {o : Nat} (ho : isArms o) : lenOf 0 (o + 5) = 320 := by
  rcases ho with rfl | rfl | rfl <;> decide +kernel
theorem R_Arms_owner {L : pLo} {σ : pM} {a : eR} {o : Nat} (ha : a L σ = some (o, σ)) (ho : isArms o) : gR 0 5 6 a L σ = some (o + 6, σ) := eFldR ha (by
  rcases ho with rfl | rfl | rfl <;> decide +kernel)
theorem N_Arms_owner {o : Nat} (ho : isArms o) : lenOf 0 (o + 6) = 16 := by
  rcases ho with rfl | rfl | rfl <;> decide +kernel
theorem C_Spans {o : Nat} {As : List pV} (ho : isSpans o) : ckV 8 (pR o :: As) = true := by
  rcases ho with rfl | rfl | rfl <;> (rw [ckV_cons]; right; decide +kernel)
theorem K_Spans_size {o : Nat} (ho : isSpans o) : okI 8 0 o = true := by
  rcases ho with rfl | rfl | rfl <;> decide +kernel
theorem K_Spans_next {o : Nat} (ho : isSpans o) : okI 8 1 o = true := by
  rcases ho with rfl | rfl | rfl <;> decide +kernel
theorem R_Spans_number {L : pLo} {σ : pM} {a : eR} {o : Nat} (ha : a L σ = some (o, σ)) (ho : isSpans o) : gR 8 2 1 a L σ = some (o + 1, σ) := eFldR ha (by
  rcases ho with rfl | rfl | rfl <;> decide +kernel)
theorem N_Spans_number {o : Nat} (ho : isSpans o) : lenOf 0 (o + 1) = 12 := by
  rcases ho with rfl | rfl | rfl <;> decide +kernel
theorem R_Spans_mask {L : pLo} {σ : pM} {a : eR} {o : Nat} (ha : a L σ = some (o, σ)) (ho : isSpans o) : gR 8 3 2 a L σ = some (o + 2, σ) := eFldR ha (by
  rcases ho with rfl | rfl | rfl <;> decide +kernel)
theorem N_Spans_mask {o : Nat} (ho : isSpans o) : lenOf 0 (o + 2) = 12 := by
  rcases ho with rfl | rfl | rfl <;> decide +kernel
theorem R_Spans_from {L : pLo} {σ : pM} {a : eR} {o : Nat} (ha : a L σ = some (o, σ)) (ho : isSpans o) : gR 8 4 3 a L σ = some (o + 3, σ) := eFldR ha (by
  rcases ho with rfl | rfl | rfl <;> decide +kernel)
theorem N_Spans_from {o : Nat} (ho : isSpans o) : lenOf 0 (o + 3) = 12 := by
  rcases ho with rfl | rfl | rfl <;> decide +kernel
theorem R_Spans_to {L : pLo} {σ : pM} {a : eR} {o : Nat} (ha : a L σ = some (o, σ)) (ho : isSpans o) : gR 8 5 4 a L σ = some (o + 4, σ) := eFldR ha (by
  rcases ho with rfl | rfl | rfl <;> decide +kernel)
theorem N_Spans_to {o : Nat} (ho : isSpans o) : lenOf 0 (o + 4) = 12 := by
  rcases ho with rfl | rfl | rfl <;> decide +kernel
theorem R_Spans_account {L : pLo} {σ : pM} {a : eR} {o : Nat} (ha : a L σ = some (o, σ)) (ho : isSpans o) : gR 8 6 5 a L σ = some (o + 5, σ) := eFldR ha (by
  rcases ho with rfl | rfl | rfl <;> decide +kernel)
theorem N_Spans_account {o : Nat} (ho : isSpans o) : lenOf 0 (o + 5) = 12 := by
  rcases ho with rfl | rfl | rfl <;> decide +kernel
theorem C_Book {o : Nat} {As : List pV} (ho : isBook o) : ckV 2 (pR o :: As) = true := by
  rcases ho with rfl | rfl | rfl <;> (rw [ckV_cons]; right; decide +kernel)
theorem K_Book_startedSize {o : Nat} (ho : isBook o) : okI 2 0 o = true := by
  rcases ho with rfl | rfl | rfl <;> decide +kernel
theorem R_Book_figures {L : pLo} {σ : pM} {a : eR} {o : Nat} (ha : a L σ = some (o, σ)) (ho : isBook o) : gR 2 1 1 a L σ = some (o + 1, σ) := eFldR ha (by
  rcases ho with rfl | rfl | rfl <;> decide +kernel)
theorem N_Book_figures {o : Nat} (ho : isBook o) : lenOf 2 (o + 1) = 8 := by
  rcases ho with rfl | rfl | rfl <;> decide +kernel
theorem R_Book_startedJobs {L : pLo} {σ : pM} {a : eR} {o : Nat} (ha : a L σ = some (o, σ)) (ho : isBook o) : gR 2 2 2 a L σ = some (o + 2, σ) := eFldR ha (by
  rcases ho with rfl | rfl | rfl <;> decide +kernel)
theorem N_Book_startedJobs {o : Nat} (ho : isBook o) : lenOf 0 (o + 2) = 80 := by
  rcases ho with rfl | rfl | rfl <;> decide +kernel
theorem K_Book_eventsKept {o : Nat} (ho : isBook o) : okI 2 3 o = true := by
  rcases ho with rfl | rfl | rfl <;> decide +kernel
theorem K_Book_nextEvent {o : Nat} (ho : isBook o) : okI 2 4 o = true := by
  rcases ho with rfl | rfl | rfl <;> decide +kernel
theorem R_Book_eventTick {L : pLo} {σ : pM} {a : eR} {o : Nat} (ha : a L σ = some (o, σ)) (ho : isBook o) : gR 2 5 3 a L σ = some (o + 3, σ) := eFldR ha (by
  rcases ho with rfl | rfl | rfl <;> decide +kernel)
theorem N_Book_eventTick {o : Nat} (ho : isBook o) : lenOf 0 (o + 3) = 60 := by
  rcases ho with rfl | rfl | rfl <;> decide +kernel
theorem R_Book_eventKind {L : pLo} {σ : pM} {a : eR} {o : Nat} (ha : a L σ = some (o, σ)) (ho : isBook o) : gR 2 6 4 a L σ = some (o + 4, σ) := eFldR ha (by
  rcases ho with rfl | rfl | rfl <;> decide +kernel)
theorem N_Book_eventKind {o : Nat} (ho : isBook o) : lenOf 0 (o + 4) = 60 := by
  rcases ho with rfl | rfl | rfl <;> decide +kernel
theorem R_Book_eventJob {L : pLo} {σ : pM} {a : eR} {o : Nat} (ha : a L σ = some (o, σ)) (ho : isBook o) : gR 2 7 5 a L σ = some (o + 5, σ) := eFldR ha (by
  rcases ho with rfl | rfl | rfl <;> decide +kernel)
theorem N_Book_eventJob {o : Nat} (ho : isBook o) : lenOf 0 (o + 5) = 60 := by
  rcases ho with rfl | rfl | rfl <;> decide +kernel
theorem R_Book_chartRows {L : pLo} {σ : pM} {a : eR} {o : Nat} (ha : a L σ = some (o, σ)) (ho : isBook o) : gR 2 8 6 a L σ = some (o + 6, σ) := eFldR ha (by
  rcases ho with rfl | rfl | rfl <;> decide +kernel)
theorem N_Book_chartRows {o : Nat} (ho : isBook o) : lenOf 0 (o + 6) = 1024 := by
  rcases ho with rfl | rfl | rfl <;> decide +kernel
theorem C_Scheduler {o : Nat} {As : List pV} (ho : isScheduler o) : ckV 7 (pR o :: As) = true := by
  rcases ho with rfl | rfl <;> (rw [ckV_cons]; right; decide +kernel)
theorem R_Scheduler_board {L : pLo} {σ : pM} {a : eR} {o : Nat} (ha : a L σ = some (o, σ)) (ho : isScheduler o) : gR 7 0 1 a L σ = some (o + 1, σ) := eFldR ha (by
  rcases ho with rfl | rfl <;> decide +kernel)
theorem S_Scheduler_board {o : Nat} (ho : isScheduler o) : isBoard (o + 1) := by
  rcases ho with rfl | rfl <;> (unfold isBoard; decide)
theorem R_Scheduler_gang {L : pLo} {σ : pM} {a : eR} {o : Nat} (ha : a L σ = some (o, σ)) (ho : isScheduler o) : gR 7 1 6 a L σ = some (o + 6, σ) := eFldR ha (by
  rcases ho with rfl | rfl <;> decide +kernel)
theorem S_Scheduler_gang {o : Nat} (ho : isScheduler o) : isGang (o + 6) := by
  rcases ho with rfl | rfl <;> (unfold isGang; decide)
theorem R_Scheduler_line {L : pLo} {σ : pM} {a : eR} {o : Nat} (ha : a L σ = some (o, σ)) (ho : isScheduler o) : gR 7 2 11 a L σ = some (o + 11, σ) := eFldR ha (by
  rcases ho with rfl | rfl <;> decide +kernel)
theorem S_Scheduler_line {o : Nat} (ho : isScheduler o) : isLine (o + 11) := by
  rcases ho with rfl | rfl <;> (unfold isLine; decide)
theorem R_Scheduler_held {L : pLo} {σ : pM} {a : eR} {o : Nat} (ha : a L σ = some (o, σ)) (ho : isScheduler o) : gR 7 3 15 a L σ = some (o + 15, σ) := eFldR ha (by
  rcases ho with rfl | rfl <;> decide +kernel)
theorem N_Scheduler_held {o : Nat} (ho : isScheduler o) : lenOf 0 (o + 15) = 8 := by
  rcases ho with rfl | rfl <;> decide +kernel
theorem R_Scheduler_promisedBefore {L : pLo} {σ : pM} {a : eR} {o : Nat} (ha : a L σ = some (o, σ)) (ho : isScheduler o) : gR 7 4 16 a L σ = some (o + 16, σ) := eFldR ha (by
  rcases ho with rfl | rfl <;> decide +kernel)
theorem N_Scheduler_promisedBefore {o : Nat} (ho : isScheduler o) : lenOf 0 (o + 16) = 80 := by
  rcases ho with rfl | rfl <;> decide +kernel
theorem R_Scheduler_toTakeOff {L : pLo} {σ : pM} {a : eR} {o : Nat} (ha : a L σ = some (o, σ)) (ho : isScheduler o) : gR 7 5 17 a L σ = some (o + 17, σ) := eFldR ha (by
  rcases ho with rfl | rfl <;> decide +kernel)
theorem N_Scheduler_toTakeOff {o : Nat} (ho : isScheduler o) : lenOf 0 (o + 17) = 80 := by
  rcases ho with rfl | rfl <;> decide +kernel
theorem C_Board {o : Nat} {As : List pV} (ho : isBoard o) : ckV 1 (pR o :: As) = true := by
  rcases ho with rfl | rfl | rfl <;> (rw [ckV_cons]; right; decide +kernel)
theorem K_Board_size {o : Nat} (ho : isBoard o) : okI 1 0 o = true := by
  rcases ho with rfl | rfl | rfl <;> decide +kernel
theorem R_Board_mask {L : pLo} {σ : pM} {a : eR} {o : Nat} (ha : a L σ = some (o, σ)) (ho : isBoard o) : gR 1 1 1 a L σ = some (o + 1, σ) := eFldR ha (by
  rcases ho with rfl | rfl | rfl <;> decide +kernel)
theorem N_Board_mask {o : Nat} (ho : isBoard o) : lenOf 0 (o + 1) = 44 := by
  rcases ho with rfl | rfl | rfl <;> decide +kernel
theorem R_Board_from {L : pLo} {σ : pM} {a : eR} {o : Nat} (ha : a L σ = some (o, σ)) (ho : isBoard o) : gR 1 2 2 a L σ = some (o + 2, σ) := eFldR ha (by
  rcases ho with rfl | rfl | rfl <;> decide +kernel)
theorem N_Board_from {o : Nat} (ho : isBoard o) : lenOf 0 (o + 2) = 44 := by
  rcases ho with rfl | rfl | rfl <;> decide +kernel
theorem R_Board_to {L : pLo} {σ : pM} {a : eR} {o : Nat} (ha : a L σ = some (o, σ)) (ho : isBoard o) : gR 1 3 3 a L σ = some (o + 3, σ) := eFldR ha (by
  rcases ho with rfl | rfl | rfl <;> decide +kernel)
theorem N_Board_to {o : Nat} (ho : isBoard o) : lenOf 0 (o + 3) = 44 := by
  rcases ho with rfl | rfl | rfl <;> decide +kernel
theorem R_Board_freeFor {L : pLo} {σ : pM} {a : eR} {o : Nat} (ha : a L σ = some (o, σ)) (ho : isBoard o) : gR 1 4 4 a L σ = some (o + 4, σ) := eFldR ha (by
  rcases ho with rfl | rfl | rfl <;> decide +kernel)
theorem N_Board_freeFor {o : Nat} (ho : isBoard o) : lenOf 0 (o + 4) = 44 := by
  rcases ho with rfl | rfl | rfl <;> decide +kernel
theorem C_Gang {o : Nat} {As : List pV} (ho : isGang o) : ckV 3 (pR o :: As) = true := by
  rcases ho with rfl | rfl | rfl | rfl <;> (rw [ckV_cons]; right; decide +kernel)
theorem K_Gang_size {o : Nat} (ho : isGang o) : okI 3 0 o = true := by
  rcases ho with rfl | rfl | rfl | rfl <;> decide +kernel
theorem K_Gang_taken {o : Nat} (ho : isGang o) : okI 3 1 o = true := by
  rcases ho with rfl | rfl | rfl | rfl <;> decide +kernel
theorem R_Gang_wide {L : pLo} {σ : pM} {a : eR} {o : Nat} (ha : a L σ = some (o, σ)) (ho : isGang o) : gR 3 2 1 a L σ = some (o + 1, σ) := eFldR ha (by
  rcases ho with rfl | rfl | rfl | rfl <;> decide +kernel)
theorem N_Gang_wide {o : Nat} (ho : isGang o) : lenOf 0 (o + 1) = 4 := by
  rcases ho with rfl | rfl | rfl | rfl <;> decide +kernel
theorem R_Gang_asks {L : pLo} {σ : pM} {a : eR} {o : Nat} (ha : a L σ = some (o, σ)) (ho : isGang o) : gR 3 3 2 a L σ = some (o + 2, σ) := eFldR ha (by
  rcases ho with rfl | rfl | rfl | rfl <;> decide +kernel)
theorem N_Gang_asks {o : Nat} (ho : isGang o) : lenOf 0 (o + 2) = 4 := by
  rcases ho with rfl | rfl | rfl | rfl <;> decide +kernel
theorem R_Gang_column {L : pLo} {σ : pM} {a : eR} {o : Nat} (ha : a L σ = some (o, σ)) (ho : isGang o) : gR 3 4 3 a L σ = some (o + 3, σ) := eFldR ha (by
  rcases ho with rfl | rfl | rfl | rfl <;> decide +kernel)
theorem N_Gang_column {o : Nat} (ho : isGang o) : lenOf 0 (o + 3) = 4 := by
  rcases ho with rfl | rfl | rfl | rfl <;> decide +kernel
theorem R_Gang_order {L : pLo} {σ : pM} {a : eR} {o : Nat} (ha : a L σ = some (o, σ)) (ho : isGang o) : gR 3 5 4 a L σ = some (o + 4, σ) := eFldR ha (by
  rcases ho with rfl | rfl | rfl | rfl <;> decide +kernel)
theorem N_Gang_order {o : Nat} (ho : isGang o) : lenOf 0 (o + 4) = 4 := by
  rcases ho with rfl | rfl | rfl | rfl <;> decide +kernel
theorem C_Line {o : Nat} {As : List pV} (ho : isLine o) : ckV 5 (pR o :: As) = true := by
  rcases ho with rfl | rfl | rfl <;> (rw [ckV_cons]; right; decide +kernel)
theorem K_Line_size {o : Nat} (ho : isLine o) : okI 5 0 o = true := by
  rcases ho with rfl | rfl | rfl <;> decide +kernel
theorem R_Line_order {L : pLo} {σ : pM} {a : eR} {o : Nat} (ha : a L σ = some (o, σ)) (ho : isLine o) : gR 5 1 1 a L σ = some (o + 1, σ) := eFldR ha (by
  rcases ho with rfl | rfl | rfl <;> decide +kernel)
theorem N_Line_order {o : Nat} (ho : isLine o) : lenOf 0 (o + 1) = 80 := by
  rcases ho with rfl | rfl | rfl <;> decide +kernel
theorem R_Line_keys {L : pLo} {σ : pM} {a : eR} {o : Nat} (ha : a L σ = some (o, σ)) (ho : isLine o) : gR 5 2 2 a L σ = some (o + 2, σ) := eFldR ha (by
  rcases ho with rfl | rfl | rfl <;> decide +kernel)
theorem N_Line_keys {o : Nat} (ho : isLine o) : lenOf 0 (o + 2) = 80 := by
  rcases ho with rfl | rfl | rfl <;> decide +kernel
theorem R_Line_shares {L : pLo} {σ : pM} {a : eR} {o : Nat} (ha : a L σ = some (o, σ)) (ho : isLine o) : gR 5 3 3 a L σ = some (o + 3, σ) := eFldR ha (by
  rcases ho with rfl | rfl | rfl <;> decide +kernel)
theorem N_Line_shares {o : Nat} (ho : isLine o) : lenOf 0 (o + 3) = 8 := by
  rcases ho with rfl | rfl | rfl <;> decide +kernel
theorem C_Thoughts {As : List pV} : ckV 10 (pR 97 :: As) = true := by rw [ckV_cons]; right; decide +kernel
theorem R_Thoughts_ahead {L : pLo} {σ : pM} {a : eR} (ha : a L σ = some (97, σ)) : gR 10 0 1 a L σ = some (98, σ) := eFldR (o := 97) ha (by decide +kernel)
theorem R_Thoughts_scheduler {L : pLo} {σ : pM} {a : eR} (ha : a L σ = some (97, σ)) : gR 10 1 40 a L σ = some (137, σ) := eFldR (o := 97) ha (by decide +kernel)
theorem R_Thoughts_startsWithout {L : pLo} {σ : pM} {a : eR} (ha : a L σ = some (97, σ)) : gR 10 2 58 a L σ = some (155, σ) := eFldR (o := 97) ha (by decide +kernel)
theorem N_Thoughts_startsWithout : lenOf 0 155 = 80 := by decide +kernel
theorem R_Thoughts_board {L : pLo} {σ : pM} {a : eR} (ha : a L σ = some (97, σ)) : gR 10 3 59 a L σ = some (156, σ) := eFldR (o := 97) ha (by decide +kernel)
theorem R_Thoughts_gang {L : pLo} {σ : pM} {a : eR} (ha : a L σ = some (97, σ)) : gR 10 4 64 a L σ = some (161, σ) := eFldR (o := 97) ha (by decide +kernel)
theorem R_Thoughts_runners {L : pLo} {σ : pM} {a : eR} (ha : a L σ = some (97, σ)) : gR 10 5 69 a L σ = some (166, σ) := eFldR (o := 97) ha (by decide +kernel)
theorem N_Thoughts_runners : lenOf 0 166 = 16 := by decide +kernel
theorem R_Thoughts_open {L : pLo} {σ : pM} {a : eR} (ha : a L σ = some (97, σ)) : gR 10 6 70 a L σ = some (167, σ) := eFldR (o := 97) ha (by decide +kernel)
theorem N_Thoughts_open : lenOf 0 167 = 4 := by decide +kernel
theorem K_Thoughts_runnersSize : okI 10 7 97 = true := by decide +kernel
theorem C_Tape {As : List pV} : ckV 9 (pR 168 :: As) = true := by rw [ckV_cons]; right; decide +kernel
theorem K_Tape_size : okI 9 0 168 = true := by decide +kernel
theorem R_Tape_bytes {L : pLo} {σ : pM} {a : eR} (ha : a L σ = some (168, σ)) : gR 9 1 1 a L σ = some (169, σ) := eFldR (o := 168) ha (by decide +kernel)
theorem N_Tape_bytes : lenOf 0 169 = 60 := by decide +kernel
theorem K_Tape_at : okI 9 2 168 = true := by decide +kernel
theorem R_M_g {L : pLo} {σ : pM} {a : eR} (ha : a L σ = some (179, σ)) : gR 12 0 1 a L σ = some (180, σ) := eFldR (o := 179) ha (by decide +kernel)
theorem N_M_g : lenOf 0 180 = 3940 := by decide +kernel
theorem R_M_saved {L : pLo} {σ : pM} {a : eR} (ha : a L σ = some (179, σ)) : gR 12 1 2 a L σ = some (181, σ) := eFldR (o := 179) ha (by decide +kernel)
theorem N_M_saved : lenOf 0 181 = 3940 := by decide +kernel
theorem R_M_kept {L : pLo} {σ : pM} {a : eR} (ha : a L σ = some (179, σ)) : gR 12 2 3 a L σ = some (182, σ) := eFldR (o := 179) ha (by decide +kernel)
theorem N_M_kept : lenOf 0 182 = 3940 := by decide +kernel
theorem R_M_sums {L : pLo} {σ : pM} {a : eR} (ha : a L σ = some (179, σ)) : gR 12 3 4 a L σ = some (183, σ) := eFldR (o := 179) ha (by decide +kernel)
theorem N_M_sums : lenOf 2 183 = 16 := by decide +kernel
theorem R_M_savedSums {L : pLo} {σ : pM} {a : eR} (ha : a L σ = some (179, σ)) : gR 12 4 5 a L σ = some (184, σ) := eFldR (o := 179) ha (by decide +kernel)
theorem N_M_savedSums : lenOf 2 184 = 16 := by decide +kernel
theorem R_M_keptSums {L : pLo} {σ : pM} {a : eR} (ha : a L σ = some (179, σ)) : gR 12 5 6 a L σ = some (185, σ) := eFldR (o := 179) ha (by decide +kernel)
theorem N_M_keptSums : lenOf 2 185 = 16 := by decide +kernel
theorem R_M_tape {L : pLo} {σ : pM} {a : eR} (ha : a L σ = some (179, σ)) : gR 12 6 7 a L σ = some (186, σ) := eFldR (o := 179) ha (by decide +kernel)
theorem N_M_tape : lenOf 1 186 = 60 := by decide +kernel
theorem K_M_taped : okI 12 7 179 = true := by decide +kernel
theorem K_M_forWhom : okI 12 8 179 = true := by decide +kernel
theorem K_M_armMany : okI 12 9 179 = true := by decide +kernel
theorem R_M_wide {L : pLo} {σ : pM} {a : eR} (ha : a L σ = some (179, σ)) : gR 12 10 8 a L σ = some (187, σ) := eFldR (o := 179) ha (by decide +kernel)
theorem N_M_wide : lenOf 0 187 = 4 := by decide +kernel
theorem R_M_asks {L : pLo} {σ : pM} {a : eR} (ha : a L σ = some (179, σ)) : gR 12 11 9 a L σ = some (188, σ) := eFldR (o := 179) ha (by decide +kernel)
theorem N_M_asks : lenOf 0 188 = 4 := by decide +kernel
theorem R_M_found {L : pLo} {σ : pM} {a : eR} (ha : a L σ = some (179, σ)) : gR 12 12 10 a L σ = some (189, σ) := eFldR (o := 179) ha (by decide +kernel)
theorem N_M_found : lenOf 0 189 = 4 := by decide +kernel
theorem K_M_skipA : okI 12 13 179 = true := by decide +kernel
theorem K_M_skipB : okI 12 14 179 = true := by decide +kernel
theorem K_M_goneA : okI 12 15 179 = true := by decide +kernel
theorem K_M_goneB : okI 12 16 179 = true := by decide +kernel
theorem K_M_moreMany : okI 12 17 179 = true := by decide +kernel
theorem R_M_moreBits {L : pLo} {σ : pM} {a : eR} (ha : a L σ = some (179, σ)) : gR 12 18 11 a L σ = some (190, σ) := eFldR (o := 179) ha (by decide +kernel)
theorem N_M_moreBits : lenOf 0 190 = 4 := by decide +kernel
theorem R_M_moreEnd {L : pLo} {σ : pM} {a : eR} (ha : a L σ = some (179, σ)) : gR 12 19 12 a L σ = some (191, σ) := eFldR (o := 179) ha (by decide +kernel)
theorem N_M_moreEnd : lenOf 0 191 = 4 := by decide +kernel
theorem R_M_line {L : pLo} {σ : pM} {a : eR} (ha : a L σ = some (179, σ)) : gR 12 20 13 a L σ = some (192, σ) := eFldR (o := 179) ha (by decide +kernel)
theorem N_M_line : lenOf 0 192 = 80 := by decide +kernel
theorem R_M_before {L : pLo} {σ : pM} {a : eR} (ha : a L σ = some (179, σ)) : gR 12 21 14 a L σ = some (193, σ) := eFldR (o := 179) ha (by decide +kernel)
theorem N_M_before : lenOf 0 193 = 80 := by decide +kernel
theorem R_M_startsWith {L : pLo} {σ : pM} {a : eR} (ha : a L σ = some (179, σ)) : gR 12 22 15 a L σ = some (194, σ) := eFldR (o := 179) ha (by decide +kernel)
theorem N_M_startsWith : lenOf 0 194 = 80 := by decide +kernel
theorem K_M_spot : okI 12 23 179 = true := by decide +kernel
theorem R_M_written {L : pLo} {σ : pM} {a : eR} (ha : a L σ = some (179, σ)) : gR 12 24 16 a L σ = some (195, σ) := eFldR (o := 179) ha (by decide +kernel)
theorem N_M_written : lenOf 0 195 = 80 := by decide +kernel
theorem K_M_writtenMany : okI 12 25 179 = true := by decide +kernel
