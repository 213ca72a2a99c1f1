/-! ===== 20: what holds at the law's start (its first rows are the skeleton's) ===== -/
/-! THE CLAIM OUT OF ONE WALK OF THE LAW'S BODY. Your part is whole_start (and what it stands on); all else here is the same for every law, but numbers. -/
def R_law : String := "ThreadlineLaw"
def lw_P (b : Addr) (xs : List Int32) (args : Array Value) (s : State) : Prop := args = #[.ref b] ∧ s.IntsAt b xs ∧ xs.length ≤ 260 ∧ (Jvm.Cond.and given_1 narrow_1).before args s = true
def lw_Q (_ : Array Value) (s : State) (o : Outcome) (t : State) : Prop := o = .returned (some (.int 1)) ∧ Framed s o t [] 130 1900
def lw_Z (below : List Frame) (a : Array Value) (s : State) : State → Prop := fun t => ∃ o, t.status = .running ∧ Ended t below o ∧ lw_Q a s o t
/-- the law's own end, with 1 on the stack, nothing written that was there before, its room as the claim has it -/
theorem lw_ret {p : Program} {l : Launch} {e : Env} {s : State} {m : MethodId} {below : List Frame} {meth : Method} {c : Code} {b : Nat} (hx : p.tables.exec = Jvm.exec) (hb : c.code = code) (hr : meth.sig.returnType = ret) (hlocks : meth.locks = false) {pc : Nat} {H : Heap} {ls : Array Slot} (hdg : decode code pc = .ok (.ireturn, 1)) : W p l e room_1 s m #[Value.ref b] below meth c H [] 130 1900 (lw_Z below #[Value.ref b] s) (F0 m pc ls [.int 1]) := by
  intro T hT X
  obtain ⟨fs, hret, hrun, hended, hW, hframe⟩ := X.leave (v := some (.int 1)) (hlocks := hlocks) (fun h => by rw [hr] at h; cases h)
  have hmeth' : T.vm.method? m = some meth := X.method'
  refine ⟨T.setFrames fs, ?_, .returned (some (.int 1)), hrun, hended, rfl, ⟨_, rfl⟩, hW, hframe⟩
  jvm_step X.here [X.here.top, hx, hb, hdg, hmeth', hr, ret, narrow_b1]
  (try refine ⟨rfl, ?_⟩); (try refine ⟨rfl, ?_⟩)
  first | (intro acts; rw [hret _ acts rfl rfl rfl]) | rw [hret _ _ rfl rfl rfl]
  exact Steps.refl _
/-- what holds at the law's entry: the machine, the code, the tables' words (any of lw_tbl by 'hts w (by decide +kernel)'), the script of L ints xs at the cell b, what the Statement gives of the start (any of its parts by flat_of_before) -/
def lw_At (p : Program) (s : State) (m : MethodId) (meth : Method) (c : Code) (b L : Nat) (xs : Nat → Int32) : Prop :=
  p.tables.exec = Jvm.exec ∧ c.code = code ∧ meth.sig.returnType = ret ∧ c.maxLocals = 10 ∧ s.vm.findClass R_law = some m.cls ∧ (∀ w ∈ lw_tbl, w.before #[Value.ref b] s = true) ∧ va_X b L xs s s.heap ∧ b < s.heap.size ∧ meth.locks = false ∧ (Jvm.Cond.and given_1 narrow_1).before #[Value.ref b] s = true
set_option maxRecDepth 100000 in
theorem lq_nl : ∀ q ∈ tw_nl, Cond.methodLinkNest q.1 q.2.1 q.2.2.1 q.2.2.2 ∈ lw_tbl := by
  unfold tw_nl
  exact List.forall_mem_cons.mpr ⟨tw_m1 (List.mem_of_getElem? (i := 21) rfl), List.forall_mem_cons.mpr ⟨tw_m1 (List.mem_of_getElem? (i := 57) rfl), List.forall_mem_cons.mpr ⟨tw_m1 (List.mem_of_getElem? (i := 112) rfl), List.forall_mem_cons.mpr ⟨tw_m1 (List.mem_of_getElem? (i := 211) rfl), List.forall_mem_cons.mpr ⟨tw_m1 (List.mem_of_getElem? (i := 231) rfl), List.forall_mem_cons.mpr ⟨tw_m1 (List.mem_of_getElem? (i := 235) rfl), List.forall_mem_cons.mpr ⟨tw_m1 (List.mem_of_getElem? (i := 236) rfl), List.forall_mem_cons.mpr ⟨tw_m2 (List.mem_of_getElem? (i := 4) rfl), List.forall_mem_cons.mpr ⟨tw_m2 (List.mem_of_getElem? (i := 5) rfl), List.forall_mem_cons.mpr ⟨tw_m2 (List.mem_of_getElem? (i := 14) rfl), List.forall_mem_cons.mpr ⟨tw_m2 (List.mem_of_getElem? (i := 15) rfl), List.forall_mem_cons.mpr ⟨tw_m2 (List.mem_of_getElem? (i := 19) rfl), List.forall_mem_cons.mpr ⟨tw_m2 (List.mem_of_getElem? (i := 27) rfl), List.forall_mem_cons.mpr ⟨tw_m2 (List.mem_of_getElem? (i := 66) rfl), List.forall_mem_cons.mpr ⟨tw_m2 (List.mem_of_getElem? (i := 74) rfl), List.forall_mem_cons.mpr ⟨tw_m2 (List.mem_of_getElem? (i := 78) rfl), List.forall_mem_cons.mpr ⟨tw_m2 (List.mem_of_getElem? (i := 137) rfl), List.forall_mem_cons.mpr ⟨tw_m2 (List.mem_of_getElem? (i := 145) rfl), List.forall_mem_cons.mpr ⟨tw_m2 (List.mem_of_getElem? (i := 146) rfl), List.forall_mem_cons.mpr ⟨tw_m2 (List.mem_of_getElem? (i := 160) rfl), List.forall_mem_cons.mpr ⟨tw_m2 (List.mem_of_getElem? (i := 154) rfl), List.forall_mem_cons.mpr ⟨tw_m2 (List.mem_of_getElem? (i := 173) rfl), List.forall_mem_cons.mpr ⟨tw_m2 (List.mem_of_getElem? (i := 215) rfl), List.forall_mem_cons.mpr ⟨tw_m2 (List.mem_of_getElem? (i := 174) rfl), List.forall_mem_cons.mpr ⟨tw_m2 (List.mem_of_getElem? (i := 206) rfl), List.forall_mem_cons.mpr ⟨tw_m2 (List.mem_of_getElem? (i := 223) rfl), List.forall_mem_cons.mpr ⟨tw_m2 (List.mem_of_getElem? (i := 231) rfl), fun _ h => absurd h List.not_mem_nil⟩⟩⟩⟩⟩⟩⟩⟩⟩⟩⟩⟩⟩⟩⟩⟩⟩⟩⟩⟩⟩⟩⟩⟩⟩⟩⟩
set_option maxRecDepth 100000 in
theorem lq_ca : ∀ X ∈ [tx_I, tx_J, tx_O], Cond.castable X X ∈ lw_tbl := List.forall_mem_cons.mpr ⟨tw_m1 (List.mem_of_getElem? (i := 137) rfl), List.forall_mem_cons.mpr ⟨tw_m1 (List.mem_of_getElem? (i := 217) rfl), List.forall_mem_cons.mpr ⟨tw_m2 (List.mem_of_getElem? (i := 188) rfl), fun _ h => absurd h List.not_mem_nil⟩⟩⟩
set_option maxRecDepth 100000 in
theorem lq_de : ∀ Y ∈ tx_de, Cond.declares (Bundle.initS Y) ∈ lw_tbl := by
  unfold tx_de
  exact List.forall_mem_cons.mpr ⟨tw_m1 (List.mem_of_getElem? (i := 139) rfl), List.forall_mem_cons.mpr ⟨tw_m1 (List.mem_of_getElem? (i := 141) rfl), List.forall_mem_cons.mpr ⟨tw_m1 (List.mem_of_getElem? (i := 143) rfl), fun _ h => absurd h List.not_mem_nil⟩⟩⟩
set_option maxRecDepth 100000 in
theorem lq_sr : ∀ q ∈ tx_str, Cond.stringRef RX2 q.1 q.2 ∈ lw_tbl := by
  unfold tx_str
  exact List.forall_mem_cons.mpr ⟨tw_m1 (List.mem_of_getElem? (i := 176) rfl), List.forall_mem_cons.mpr ⟨tw_m1 (List.mem_of_getElem? (i := 206) rfl), List.forall_mem_cons.mpr ⟨tw_m1 (List.mem_of_getElem? (i := 210) rfl), List.forall_mem_cons.mpr ⟨tw_m2 (List.mem_of_getElem? (i := 136) rfl), List.forall_mem_cons.mpr ⟨tw_m2 (List.mem_of_getElem? (i := 195) rfl), List.forall_mem_cons.mpr ⟨tw_m1 (List.mem_of_getElem? (i := 224) rfl), List.forall_mem_cons.mpr ⟨tw_m2 (List.mem_of_getElem? (i := 159) rfl), List.forall_mem_cons.mpr ⟨tw_m2 (List.mem_of_getElem? (i := 164) rfl), List.forall_mem_cons.mpr ⟨tw_m2 (List.mem_of_getElem? (i := 210) rfl), List.forall_mem_cons.mpr ⟨tw_m3 (List.mem_of_getElem? (i := 5) rfl), fun _ h => absurd h List.not_mem_nil⟩⟩⟩⟩⟩⟩⟩⟩⟩⟩
set_option maxRecDepth 100000 in
theorem lq_lu : Cond.laysStatic Bundle.tN "UNASSIGNED_STACK" Bundle.steD ∈ lw_tbl := tw_m1 (List.mem_of_getElem? (i := 162) rfl)
set_option maxRecDepth 100000 in
theorem lq_ls : Cond.laysStatic Bundle.tN "SUPPRESSED_SENTINEL" Bundle.listD ∈ lw_tbl := tw_m1 (List.mem_of_getElem? (i := 164) rfl)
set_option maxRecDepth 100000 in
theorem lq_i0 : Cond.instantiable RX0 13 ∈ lw_tbl := tw_m1 (List.mem_of_getElem? (i := 56) rfl)
set_option maxRecDepth 100000 in
theorem lq_i1 : Cond.instantiable RX1 9 ∈ lw_tbl := tw_m1 (List.mem_of_getElem? (i := 20) rfl)
set_option maxRecDepth 100000 in
theorem lq_i2 : Cond.instantiable RX2 2 ∈ lw_tbl := tw_m1 (List.mem_of_getElem? (i := 12) rfl)
set_option maxRecDepth 100000 in
theorem lq_c9 : Cond.classLink RL 9 RX2 ∈ lw_tbl := tw_m1 (List.mem_of_getElem? (i := 11) rfl)
set_option maxRecDepth 100000 in
/-- of the start: the strings that the class throws with -/
theorem lq_ex : ∀ q ∈ tx_str, Cond.exactly (.string RX2 q.1) "java/lang/String" ∈ flatC (Jvm.Cond.and given_1 narrow_1) := by
  unfold tx_str
  exact List.forall_mem_cons.mpr ⟨by decide +kernel, List.forall_mem_cons.mpr ⟨by decide +kernel, List.forall_mem_cons.mpr ⟨by decide +kernel, List.forall_mem_cons.mpr ⟨by decide +kernel, List.forall_mem_cons.mpr ⟨by decide +kernel, List.forall_mem_cons.mpr ⟨by decide +kernel, List.forall_mem_cons.mpr ⟨by decide +kernel, List.forall_mem_cons.mpr ⟨by decide +kernel, List.forall_mem_cons.mpr ⟨by decide +kernel, List.forall_mem_cons.mpr ⟨by decide +kernel, fun _ h => absurd h List.not_mem_nil⟩⟩⟩⟩⟩⟩⟩⟩⟩⟩
theorem lq_TX {b : Nat} {s : State} (hts : ∀ w ∈ lw_tbl, w.before #[Value.ref b] s = true) (hgv : (Jvm.Cond.and given_1 narrow_1).before #[Value.ref b] s = true) : tl_TX (fun q : Nat => s.heap.size ≤ q) s := by
  have hs := flat_of_before _ hgv
  have hA : ∀ a : Nat, a < s.heap.size → ¬ (fun q : Nat => s.heap.size ≤ q) a := fun a h => Nat.not_le.mpr h
  refine ⟨⟨fun X hX => va_Nw.of rfl (hts _ (lq_ca X hX)), fun Y hY => va_Nw.of rfl (hts _ (lq_de Y hY)), fun q hq => ?_, ?_, ?_⟩, ?_, ?_⟩
  · obtain ⟨a, c, cell, k, h1, -⟩ := Cond.exactly_spec (show (Cond.exactly (.string RX2 q.1) "java/lang/String").holds #[Value.ref b] s none s [] = true from hs _ (lq_ex q hq))
    exact ⟨a, vk_R.of (hts _ (lq_sr q hq)) h1⟩
  · exact vx_Zqof (hts _ lq_lu) (hts _ in_Throwable) (hs _ (by decide +kernel)) hA
  · exact vx_Zqof (hts _ lq_ls) (hts _ in_Throwable) (hs _ (by decide +kernel)) hA
  · exact va_Nc.of (args := #[Value.ref b]) (hs _ (by decide +kernel))
  · exact va_Nc.of (args := #[Value.ref b]) (hs _ (by decide +kernel))
theorem lq_NU {b : Nat} {s : State} (hts : ∀ w ∈ lw_tbl, w.before #[Value.ref b] s = true) : tg_NU tw_nl s := fun q hq => va_Nw.of rfl (hts _ (lq_nl q hq))
theorem lq_arr {b : Nat} {s : State} {ty : FieldType} (h : (Cond.arrayClass ty).before #[Value.ref b] s = true) : ∃ cA : ClassId, ArrOfT s cA ty ∧ s.vm.findClass ("[" ++ ty.toString) = some cA := by
  obtain ⟨cA, kA, comp, h1, h2, h3⟩ := Cond.arrayClass_spec h
  exact ⟨cA, fun n z => ⟨fun k h => (by cases h), kA, h2, comp, h3⟩, h1⟩
theorem lq_K {b : Nat} {s : State} (hts : ∀ w ∈ lw_tbl, w.before #[Value.ref b] s = true) : ∃ (D : va_G) (cI cZ : ClassId), va_K D vwCl (tw_ty cI cZ) s := by
  obtain ⟨c0, i0, h0⟩ := u_known (C := RX0) (T := TX0) (N := 13) (n := 13) hts tw_u0 (hts _ lq_i0)
  obtain ⟨c1, i1, h1⟩ := u_known (C := RX1) (T := TX1) (N := 9) (n := 9) hts tw_u1 (hts _ lq_i1)
  obtain ⟨c2, i2, h2⟩ := u_known (C := RX2) (T := TX2) (N := 2) (n := 2) hts tw_u2 (hts _ lq_i2)
  obtain ⟨cI, a1, a2⟩ := lq_arr (hts _ tn_aI)
  obtain ⟨cZ, b1, b2⟩ := lq_arr (hts _ tn_aZ)
  refine ⟨(fun k => if k = 0 then c0 else if k = 1 then c1 else c2, fun k => if k = 0 then i0 else if k = 1 then i1 else i2), cI, cZ, fun k q hq => ?_, fun k q hq => ?_⟩
  · match k, hq with
    | 0, hq => cases hq; exact h0
    | 1, hq => cases hq; exact h1
    | 2, hq => cases hq; exact h2
    | k + 3, hq => simp at hq
  · match k, hq with
    | 0, hq => cases hq; exact ⟨a1, a2⟩
    | 1, hq => cases hq; exact ⟨b1, b2⟩
    | k + 2, hq => simp at hq
