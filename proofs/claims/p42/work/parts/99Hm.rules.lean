/-! THE CLAIM OUT OF ONE WALK OF THE LAW'S BODY. Your part is whole_start (and what it stands on); all else here is the same for every law, but numbers. -/
def R_law : String := "GangColumnsLaw"
def lw_P (b : Addr) (xs : List Int32) (args : Array Value) (s : State) : Prop := args = #[.ref b] ∧ s.IntsAt b xs ∧ xs.length ≤ 260 ∧ (Jvm.Cond.and given_1 narrow_1).before args s = true
def lw_Q (_ : Array Value) (s : State) (o : Outcome) (t : State) : Prop := o = .returned (some (.int 1)) ∧ Framed s o t [] 600000 7302250
def lw_Z (below : List Frame) (a : Array Value) (s : State) : State → Prop := fun t => ∃ o, t.status = .running ∧ Ended t below o ∧ lw_Q a s o t
/-- the law's own end, with 1 on the stack, nothing written that was there before, its room as the claim has it -/
theorem lw_ret {p : Program} {l : Launch} {e : Env} {s : State} {m : MethodId} {below : List Frame} {meth : Method} {c : Code} {b : Nat} (hx : p.tables.exec = Jvm.exec) (hb : c.code = code) (hr : meth.sig.returnType = ret) (hlocks : meth.locks = false) {pc : Nat} {H : Heap} {ls : Array Slot} (hdg : decode code pc = .ok (.ireturn, 1)) : W p l e room_1 s m #[Value.ref b] below meth c H [] 600000 7302250 (lw_Z below #[Value.ref b] s) (F0 m pc ls [.int 1]) := by
  intro T hT X
  obtain ⟨fs, hret, hrun, hended, hW, hframe⟩ := X.leave (v := some (.int 1)) (hlocks := hlocks) (fun h => by rw [hr] at h; cases h)
  have hmeth' : T.vm.method? m = some meth := X.method'
  refine ⟨T.setFrames fs, ?_, .returned (some (.int 1)), hrun, hended, rfl, ⟨_, rfl⟩, hW, hframe⟩
  jvm_step X.here [X.here.top, hx, hb, hdg, hmeth', hr, ret, narrow_b1]
  (try refine ⟨rfl, ?_⟩); (try refine ⟨rfl, ?_⟩)
  first | (intro acts; rw [hret _ acts rfl rfl rfl]) | rw [hret _ _ rfl rfl rfl]
  exact Steps.refl _
/-- what holds at the law's entry: the machine, the code, the tables' words (any of lw_tbl by 'hts w (by decide +kernel)'), the script of L ints xs at the cell b, what the Statement gives of the start (any of its parts by flat_of_before) -/
def lw_At (p : Program) (s : State) (m : MethodId) (meth : Method) (c : Code) (b L : Nat) (xs : Nat → Int32) : Prop :=
  p.tables.exec = Jvm.exec ∧ c.code = code ∧ meth.sig.returnType = ret ∧ c.maxLocals = 23 ∧ s.vm.findClass R_law = some m.cls ∧ (∀ w ∈ lw_tbl, w.before #[Value.ref b] s = true) ∧ va_X b L xs s s.heap ∧ b < s.heap.size ∧ meth.locks = false ∧ (Jvm.Cond.and given_1 narrow_1).before #[Value.ref b] s = true
theorem yk_yX11_init : YK yX11_init 0 := ⟨by decide, by decide, by decide +kernel⟩
section WS
variable {p : Program} {l : Launch} {e : Env} {R : Room} {s : State} {m : MethodId} {args : Array Value} {below : List Frame} {meth : Method} {c : Code} {Q : State → Prop} {cc : ByteArray} {nL d cells slots : Nat} {own : String}
theorem c_newW {E : cEnv} {cs : cM} {H H0 : Heap} {locs : List Loc} {pc idx ci N : Nat} {C : String} {T : u_T} {ty0 : Nat → FieldType} {ls : Array Slot} {rest : List Value} (hx : p.tables.exec = Jvm.exec) (hb : c.code = cc) (hown : s.vm.findClass own = some m.cls) (hts : ∀ w ∈ tb, w.before args s = true) (hK : va_K E.2.1 classes E.2.2.2 s) (hH : cHp E cs H) (hS : va_S (cFree E) H0 H locs) (hd : decode cc pc = .ok (.new idx, 3)) (hck : CK ci C T N ty0) (w1 : Cond.classLink own idx C ∈ tb) (w2 : Cond.instantiable C N ∈ tb) (w3 : Cond.initialized C ∈ tb) (hdf : ∀ j, j < N → defaultValue (ty0 j) = cv 0 (cDef (ty0 j))) (h1 : cells + 1 ≤ R.cells) (h2 : slots + N ≤ R.slots)
    (kk : ∀ H1 : Heap, cHp E (cs ++ [.inr (ci, (List.range N).map fun j => cDef (ty0 j))]) H1 → va_S (cFree E) H0 H1 locs → W p l e R s m args below meth c H1 locs (cells + 1) (slots + N) Q (F0 m (pc + 3) ls (.ref (E.1 + cs.length) :: rest))) : W p l e R s m args below meth c H locs cells slots Q (F0 m pc ls rest) := by
  have hKn := hK.1 ci _ hck.1
  have hHz := hH.2
  refine W.newcK hx hb hown (hts _ w1) (hts _ w2) (hts _ w3) rfl hd h1 h2 hKn.2.1 hH.2 fun H1 kC hkC e1 z1 o1 => ?_
  refine kk H1 (cHp_new hH.1 hH.2 (by rw [z1, hH.2]) (fun q hq => o1 q (by omega)) ?_) ⟨by rw [z1]; exact Nat.le_trans hS.1 (by omega), fun q h1 h2 => (o1 q (by rw [← hH.2]; exact Nat.lt_of_lt_of_le h1 hS.1)).trans (hS.2.1 q h1 h2), hS.2.2⟩
  refine ⟨_, hck.1, (u_born ty0 hts hck.2.1 hKn hkC e1 hck.2.2.1).to fun j hj => ?_⟩
  rw [hdf j hj, ← cDef_shift E.1]
  simp [vp_V, hj]
end WS
theorem nw_law {s : State} {a : Array Value} (hts : ∀ w ∈ lw_tbl, w.before a s = true) : pNw s := by
  intro w hw
  have h2 := List.mem_filter.mp hw
  cases w with
  | methodLinkNest a1 i x h => exact va_Nw.of rfl (hts _ h2.1)
  | _ => simp [isNest] at h2
theorem arr_law {s : State} {a : Array Value} {ty : FieldType} (hty : ty = .int ∨ ty = .byte ∨ ty = .long) (h : (Cond.arrayClass ty).before a s = true) : ∃ cA : ClassId, ArrOfT s cA ty ∧ va_RA s cA ty := by
  obtain ⟨c, k, comp, h1, h2, h3⟩ := Cond.arrayClass_spec h
  refine ⟨c, fun n z => ⟨fun k h => (by cases h), k, h2, comp, h3⟩, ?_⟩
  rcases hty with rfl | rfl | rfl <;> exact h1
section LL
variable {p : Program} {l : Launch} {e : Env} {s : State} {m : MethodId} {below : List Frame} {meth : Method} {c : Code} {b : Nat}
theorem law_rules {E : cEnv} {X : Nat → Nat} {L : Nat} {xs : Nat → Int32} {cells slots : Nat} (hE1 : E.1 = s.heap.size) (hr : meth.sig.returnType = ret) (hcb : c.code = code) (C : pCx p room_1 s m #[.ref b] meth c (E2 E b X) s.heap RL cL_law 23 9 cells slots (some (5000, L, xs))) : pRules RL cL_law (some (5000, L, xs)) (pRun l (E2 E b X) 9) (fun v _ => v = some (pI 1)) (pG p l e room_1 s m #[.ref b] below meth c (lw_Z below #[.ref b] s) (E2 E b X) s.heap 23 cells slots) := by
  obtain ⟨hx, hb, hml, hown, hts, hK, hE, hf, hl, hc, hs, hlocks, hnw, hscr⟩ := id C
  refine pG_sound C ?_ ?_
  · intro pc L0 τ v hd hv hlen hRl ls H locs hl0 hH hS
    cases hv
    rcases hd with ⟨hd, -⟩ | ⟨hd, x, hx2⟩ | ⟨hd, x, hx2⟩
    · refine va_forget (fun q hq => by rw [← hE1]; exact hS.2.2 q hq) ?_
      refine W.widen (k := 600000) (n := 7302250) hc hs ?_
      exact lw_ret hx hcb hr hlocks hd
    · cases hx2
    · cases hx2
  · intro pc L0 τ hd hv
    cases hv
end LL
