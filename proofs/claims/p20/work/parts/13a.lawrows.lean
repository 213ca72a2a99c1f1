/-! ===== 13: the law's helpers: rows ===== -/
def tl_TX (A : Nat → Prop) (U : State) : Prop := tx_TX A U ∧ va_Nc tx_J tx_I U ∧ va_Nc tx_O tx_I U
theorem tx_TX.narrow {A B : Nat → Prop} {U : State} (h : tx_TX A U) (hAB : ∀ q, B q → A q) : tx_TX B U := ⟨h.1, h.2.1, h.2.2.1, h.2.2.2.1.narrow hAB, h.2.2.2.2.narrow hAB⟩
def tl_Pre (w : tg_Mem → va_W) (D : va_G) (tys : List (ClassId × FieldType)) (nl : List (String × Nat × MethodName × String)) (A : Nat → Prop) (As : List Value) (σ : tg_Mem) : Array Value → State → Prop :=
  va_Pc As (fun U => va_P D vwCl (w σ) U.heap ∧ va_K D vwCl tys U ∧ tg_NU nl U ∧ tl_TX A U)

theorem tl_ofX {l : Launch} {y : MethodName} {ws : List Cond} {rm : Room} {Pc : Array Value → State → Prop} {Qc : Array Value → State → Outcome → State → Prop} {mc ms : Nat} {free : Addr → Prop} (h : vx_Met l y ws rm Pc Qc (fun _ _ _ => False) mc ms free) : Met l y ws rm Pc Qc mc ms free := by
  intro p e a1 a2 a3 s m args below a4 a5 a6 a7
  obtain ⟨n, o, b1, b2, b3, b4⟩ := h p e a1 a2 a3 s m args below a4 a5 a6 a7
  refine ⟨n, o, b1, b2, b3, ?_⟩
  rcases b4 with h | ⟨q, -, E, ce, L, hx, -⟩
  · exact h
  · exact hx.elim

def vl_k (ex : Option String) (v : Int32) : Int32 := match ex with | none => v | some _ => -9
theorem vl_kN {ex : Option String} {v : Int32} (h : ex = none) : v = vl_k ex v := by subst h; rfl
theorem vl_kS {ex : Option String} {v : Int32} {E : String} (h : ex = some E) : -9 = vl_k ex v := by subst h; rfl
def tl_s {X : Type} (ex : Option String) (a b : X) : X := match ex with | none => a | some _ => b
theorem vl_sN {X : Type} {ex : Option String} {a b : X} (h : ex = none) : a = tl_s ex a b := by subst h; rfl
theorem vl_sS {X : Type} {ex : Option String} {a b : X} {E : String} (h : ex = some E) : b = tl_s ex a b := by subst h; rfl
def vl_Q (ex : Option String) (w : tg_Mem → va_W) (D : va_G) (A : Nat → Prop) (k : Int32) (σ' : tg_Mem) : Array Value → State → Outcome → State → Prop := fun a st o t => (ex = none ∨ st.heap.size < t.heap.size) ∧ tg_PT w D A (some (.int k)) σ' a st o t
/-- a helper's contract: it returns k and leaves σ'; where the class has thrown, a cell is new -/
def vl_CT (l : Launch) (y : MethodName) (ws : List Cond) (rm : Room) (w : tg_Mem → va_W) (tys : List (ClassId × FieldType)) (nl : List (String × Nat × MethodName × String)) (A : Nat → Prop) (D : va_G) (As : List Value) (σ : tg_Mem) (ex : Option String) (k : Int32) (σ' : tg_Mem) : Prop :=
  Met l y ws rm (tl_Pre w D tys nl A As σ) (vl_Q ex w D A k σ') 1 6 A
section TL
variable {p : Program} {l : Launch} {e : Env} {R : Room} {s : State} {m : MethodId} {args : Array Value} {below : List Frame} {meth : Method} {c : Code} {D : va_G} {w w2 : tg_Mem → va_W} {A : Nat → Prop} {n k z : Nat} {Q : State → Prop}
variable {cc : ByteArray} {Ts : List Cond} {own : String} {σ : tg_Mem} {pc : Nat} {L L' : List (Nat × Value)} {st : List Value}

theorem tl_astore_n (ps : List Nat) (S : CallFix p m c cc n s args Ts own) {j : Fin 4} {x i : Nat} (d : decode cc pc = .ok (.astore_n j, 1)) (hj : (j : Nat) = i) (hi : i < n) (hL : lv_pick ((i, Value.ref x) :: L.filter (fun q => !(q.1 == i) && !(q.1 + 1 == i && q.2.category == 2))) ps = L') (kk : tg_G p l e R s m args below meth c D w A n k z Q σ (pc + 1) L' st) : tg_G p l e R s m args below meth c D w A n k z Q σ pc L (.ref x :: st) :=
  fun H locs ls hP hS hl => lv_astore_n S.1 S.2.1 d hj hl hi rfl (fun ls2 hl2 => kk H locs ls2 hP hS (hL ▸ lv_sub hl2 ps rfl))
theorem tl_astore (ps : List Nat) (S : CallFix p m c cc n s args Ts own) {x i : Nat} (d : decode cc pc = .ok (.astore i, 2)) (hi : i < n) (hL : lv_pick ((i, Value.ref x) :: L.filter (fun q => !(q.1 == i) && !(q.1 + 1 == i && q.2.category == 2))) ps = L') (kk : tg_G p l e R s m args below meth c D w A n k z Q σ (pc + 2) L' st) : tg_G p l e R s m args below meth c D w A n k z Q σ pc L (.ref x :: st) :=
  fun H locs ls hP hS hl => lv_astore S.1 S.2.1 d hl hi rfl (fun ls2 hl2 => kk H locs ls2 hP hS (hL ▸ lv_sub hl2 ps rfl))

theorem vl_irem {x y v : Int32} (S : CallFix p m c cc n s args Ts own) (d : decode cc pc = .ok (.irem, 1)) (hne : ¬ y = 0) (hv : x - x / y * y = v) (kk : tg_G p l e R s m args below meth c D w A n k z Q σ (pc + 1) L (.int v :: st)) : tg_G p l e R s m args below meth c D w A n k z Q σ pc L (.int y :: .int x :: st) := by
  subst hv
  exact fun H locs ls hP hS hl => lv_irem S.1 S.2.1 d hne (kk H locs ls hP hS hl)
theorem vl_idiv {x y v : Int32} (S : CallFix p m c cc n s args Ts own) (d : decode cc pc = .ok (.idiv, 1)) (hne : ¬ y = 0) (hv : x / y = v) (kk : tg_G p l e R s m args below meth c D w A n k z Q σ (pc + 1) L (.int v :: st)) : tg_G p l e R s m args below meth c D w A n k z Q σ pc L (.int y :: .int x :: st) := by
  subst hv
  exact fun H locs ls hP hS hl => lv_idiv S.1 S.2.1 d hne (kk H locs ls hP hS hl)
theorem vl_imul {x y v : Int32} (S : CallFix p m c cc n s args Ts own) (d : decode cc pc = .ok (.imul, 1)) (hv : x * y = v) (kk : tg_G p l e R s m args below meth c D w A n k z Q σ (pc + 1) L (.int v :: st)) : tg_G p l e R s m args below meth c D w A n k z Q σ pc L (.int y :: .int x :: st) := by
  subst hv
  exact fun H locs ls hP hS hl => lv_imul S.1 S.2.1 d (kk H locs ls hP hS hl)
theorem vl_iadd {x y v : Int32} (S : CallFix p m c cc n s args Ts own) (d : decode cc pc = .ok (.iadd, 1)) (hv : x + y = v) (kk : tg_G p l e R s m args below meth c D w A n k z Q σ (pc + 1) L (.int v :: st)) : tg_G p l e R s m args below meth c D w A n k z Q σ pc L (.int y :: .int x :: st) := by
  subst hv
  exact fun H locs ls hP hS hl => lv_iadd S.1 S.2.1 d (kk H locs ls hP hS hl)
theorem vl_isub {x y v : Int32} (S : CallFix p m c cc n s args Ts own) (d : decode cc pc = .ok (.isub, 1)) (hv : x - y = v) (kk : tg_G p l e R s m args below meth c D w A n k z Q σ (pc + 1) L (.int v :: st)) : tg_G p l e R s m args below meth c D w A n k z Q σ pc L (.int y :: .int x :: st) := by
  subst hv
  exact fun H locs ls hP hS hl => lv_isub S.1 S.2.1 d (kk H locs ls hP hS hl)
/-- the class's method called: it returns, or what it throws goes on, and a cell is new -/
theorem vl_call {h : Nat → Nat} {cI cZ : ClassId} {y : MethodName} {bytes : ByteArray} {maxL index fr nA : Nat} {ret : Option FieldType} {ws ws' : List Cond} {As rest : List Value} {r : Option Value} {ex : Option String} {σ2 : tg_Mem}
    (S : CallFix p m c cc n s args Ts own) (hK : va_K D vwCl (tw_ty cI cZ) s) (hN : tg_NU tw_nl s) (hX : tx_TX (tw_A 23 h) s) (hM : tx_CT l y ws (tx_rm fr) (tw_T h cI cZ) (tw_ty cI cZ) tw_nl (tw_A 23 h) D (.ref (h 0) :: As) σ ex r σ2)
    (hG : GoodIn Ts (wsV own index RX2 y ws)) (hw : ws = Cond.code y bytes maxL ret :: ws') (hdd : y.cls = RX2 ∧ y.cls ≠ "java/lang/invoke/MethodHandle" ∧ y.cls ≠ "java/lang/invoke/VarHandle" ∧ (parseMethodDescriptor y.desc).map (fun d => d.parameters.length) = some nA) (hR : fr + 1 ≤ R.frames ∧ 8 + (maxL + 11) + 28 * fr ≤ R.locals)
    (hnA : As.length = nA) (hst : st = As.reverse ++ .ref (h 0) :: rest) (hcat : (rest.map fun v => v.category).sum ≤ 8) (d : decode cc pc = .ok (.invokevirtual index, 3)) (hf : 1 ≤ R.cells ∧ 6 ≤ R.slots)
    (kx : ∀ E, ex = some E → ∀ (H : Heap) (locs : List Loc) (ls : Array Slot) (q : Addr) (ce : Cell), va_P D vwCl (tw_T h cI cZ σ) H → va_S (tw_A 23 h) s.heap H locs → s.heap.size < H.size → lv_has ls n L → H[q]? = some ce → ce.vm = .none → s.vm.findClass E = some ce.cls → vx_W p l e R s m args below meth c H locs 1 6 Q (F0 m pc ls rest) q)
    (kk : ex = none → tg_G p l e R s m args below meth c D (tw_T h cI cZ) (tw_A 23 h) n 1 6 Q σ2 (pc + 3) L (r.toList ++ rest)) :
    tg_G p l e R s m args below meth c D (tw_T h cI cZ) (tw_A 23 h) n 0 0 Q σ pc L st := by
  intro H locs ls hP hS hl T hT X
  have hst2 : ∀ (H1 : Heap) (Lc : List Loc), H.size ≤ H1.size → (∀ q : Nat, q < H.size → ¬ tw_A 23 h q → H1[q]? = H[q]?) → (∀ q ∈ Lc, tw_A 23 h q.base) → va_S (tw_A 23 h) s.heap H1 (locs ++ Lc) := by
    intro H1 Lc hz hk hL
    exact ⟨Nat.le_trans hS.1 hz, fun q h1 h2 => by rw [hk q (Nat.lt_of_lt_of_le h1 hS.1) h2]; exact hS.2.1 q h1 h2, fun q hq => by
      rcases List.mem_append.mp hq with h | h
      · exact hS.2.2 q h
      · exact hL q h⟩
  have hpre : PreV s H RX2 (h 0) (tx_Pre (tw_T h cI cZ) D (tw_ty cI cZ) tw_nl (tw_A 23 h) (.ref (h 0) :: As) σ) As :=
    ⟨tx_blind, va_recv (q := (RX2, TX2, 2)) (ci := 2) (q0 := 0) hK hP rfl rfl, fun U hU hW => ⟨rfl, by rw [hU]; exact hP, va_K.moved hW.alike hK, hN.warm hW, hX.call hW hU hS⟩⟩
  rcases vx_runV (As := As) (rest := rest) S hM (cwV nA S.2.2.2.2 hG hw rfl rfl hdd hR) hpre rfl hnA hl.1 hst (lv_room hcat) d hf T hT X with ⟨v, st₀, t, T', Lc, h0, X', hL, e1, e2, ⟨hx, hsz, hv, hPt2, hz, hk⟩, sg⟩ | ⟨q, st₀, t, T', Lc, E, ce, h0, X', hL, e1, e2, ⟨hx, hlt, hPt2, hz, hk⟩, hce, hcv, hcl, sg⟩
  · cases hv
    rw [h0] at hz hk
    obtain ⟨t2, a1, b1⟩ := kk hx T'.heap (locs ++ Lc) ls (by rw [e1]; exact hPt2) (by rw [e1]; exact hst2 _ _ hz hk hL) hl T' rfl X'
    exact ⟨t2, sg t2 a1, b1⟩
  · rw [h0] at hlt hz hk
    obtain ⟨t2, a1, b1⟩ := kx E hx T'.heap (locs ++ Lc) ls q ce (by rw [e1]; exact hPt2) (by rw [e1]; exact hst2 _ _ hz hk hL) (by rw [e1]; exact Nat.lt_of_le_of_lt hS.1 hlt) hl (by rw [e1]; exact hce) hcv hcl T' rfl X'
    exact ⟨t2, sg.trans a1, b1⟩
/-- a helper's end, without a throw -/
theorem vl_ret {v v' : Int32} {σ' : tg_Mem} {ex : Option String} {XC : String → State → State → Prop} (S : CallFix p m c cc n s args Ts own) (hr : meth.sig.returnType = some .int) (hlk : meth.locks = false) (d : decode cc pc = .ok (.ireturn, 1)) (hx : ex = none) (hv : v = v') (hσ : σ = σ') : tg_G p l e R s m args below meth c D w A n 1 6 (vx_MQ below (vl_Q ex w D A v' σ') XC args s 1 6 A) σ pc L [.int v] := by
  subst hv
  subst hσ
  exact fun H locs ls hP hS hl => vx_ret (W.iret S.1 S.2.1 hr (fun t ht hW => ⟨Or.inl hx, rfl, by rw [ht]; exact hP, hS.F ht⟩) hS.2.2 d hlk)
/-- behind a catch: -9 -/
theorem vl_hand {v' : Int32} {σ' : tg_Mem} {ex : Option String} {XC : String → State → State → Prop} {H : Heap} {locs : List Loc} {ls : Array Slot} (S : CallFix p m c cc n s args Ts own) (hr : meth.sig.returnType = some .int) (hlk : meth.locks = false) (hP : va_P D vwCl (w σ) H) (hS : va_S A s.heap H locs) (hlt : s.heap.size < H.size) (hl : ls.size = n) (d1 : decode cc pc = .ok (.bipush (-9), 2)) (d2 : decode cc (pc + 2) = .ok (.ireturn, 1)) (hv : -9 = v') (hσ : σ = σ') : W p l e R s m args below meth c H locs 1 6 (vx_MQ below (vl_Q ex w D A v' σ') XC args s 1 6 A) (F0 m pc ls []) := by
  subst hv
  subst hσ
  refine lv_bipush (v := -9) S.1 S.2.1 d1 (by decide) ?_
  exact vx_ret (W.iret S.1 S.2.1 hr (fun t ht hW => ⟨Or.inr (by rw [ht]; exact hlt), rfl, by rw [ht]; exact hP, hS.F ht⟩) hS.2.2 d2 hlk)

/-- caught by the first handler; by the second -/
theorem tl_catch1 {E : String} {q : Addr} {ce : Cell} {H : Heap} {locs : List Loc} {ls : Array Slot} {rest : List Value} {x : Cond} {x1 : ExceptionTableEntry} {suf : List ExceptionTableEntry} (S : CallFix p m c cc n s args (x :: tw_G) own) (ht : c.exceptionTable.toList = x1 :: suf) (hx : covers x1 pc = true) (h0 : x1.catchType ≠ 0) (hlink : Cond.classLink own x1.catchType E ∈ lw_tbl) (hcast : va_Nw (.castable E E) s)
    (hce : H[q]? = some ce) (hcv : ce.vm = .none) (hcl : s.vm.findClass E = some ce.cls) (kk : W p l e R s m args below meth c H locs k z Q (F0 m x1.handlerPc ls [.ref q])) : vx_W p l e R s m args below meth c H locs k z Q (F0 m pc ls rest) q :=
  vx_catch S.2.2.2.1 [] x1 suf ht (fun _ h => nomatch h) hx h0 (S.2.2.2.2 _ (tw_in hlink rfl)) (va_Nw.use rfl hcast) hce hcv hcl kk
theorem tl_catch2 {E E1 : String} {q : Addr} {ce : Cell} {H : Heap} {locs : List Loc} {ls : Array Slot} {rest : List Value} {x : Cond} {x1 x2 : ExceptionTableEntry} {suf : List ExceptionTableEntry} (S : CallFix p m c cc n s args (x :: tw_G) own) (ht : c.exceptionTable.toList = x1 :: x2 :: suf) (h1 : x1.catchType ≠ 0) (hl1 : Cond.classLink own x1.catchType E1 ∈ lw_tbl) (hn : va_Nc E E1 s) (hx : covers x2 pc = true) (h0 : x2.catchType ≠ 0) (hlink : Cond.classLink own x2.catchType E ∈ lw_tbl) (hcast : va_Nw (.castable E E) s)
    (hce : H[q]? = some ce) (hcv : ce.vm = .none) (hcl : s.vm.findClass E = some ce.cls) (kk : W p l e R s m args below meth c H locs k z Q (F0 m x2.handlerPc ls [.ref q])) : vx_W p l e R s m args below meth c H locs k z Q (F0 m pc ls rest) q :=
  vx_catch S.2.2.2.1 [x1] x2 suf ht (fun v hv => by
    rw [List.mem_singleton.mp hv]
    exact Or.inr ⟨h1, E1, S.2.2.2.2 _ (tw_in hl1 rfl), hn⟩) hx h0 (S.2.2.2.2 _ (tw_in hlink rfl)) (va_Nw.use rfl hcast) hce hcv hcl kk

end TL

/-- a helper's contract out of the walk of its body -/
theorem vl_met {l : Launch} {y : MethodName} {ws ws' : List Cond} {cc : ByteArray} {maxL fr : Nat} {hh : List (Nat × Nat × Nat × Nat)} {w : tg_Mem → va_W} {ex : Option String} {tys : List (ClassId × FieldType)} {nl : List (String × Nat × MethodName × String)} {A : Nat → Prop} {D : va_G} {As : List Value} {σ σ' : tg_Mem} {k : Int32} {own : String} (hy : plainName y.cls = true) (hown : y.cls = own) (hw : ws = Cond.codeWith y cc maxL (some .int) hh :: ws') (hlen : (lg_sl As).length ≤ maxL)
    (body : ∀ (p : Program) (e : Env) (s : State) (m : MethodId) (below : List Frame) (meth : Method) (c : Code), CallFix p m c cc maxL s As.toArray ws own → va_K D vwCl tys s → tg_NU nl s → tl_TX A s → meth.sig.returnType = some .int → meth.locks = false → c.exceptionTable.toList = tableOf hh →
      tg_G p l e (tx_rm fr) s m As.toArray below meth c D w A maxL 0 0 (vx_MQ below (vl_Q ex w D A k σ') (fun _ _ _ => False) As.toArray s 1 6 A) σ 0 (lv_args 0 As) []) : vl_CT l y ws (tx_rm fr) w tys nl A D As σ ex k σ' := by
  refine tl_ofX (vx_ofWH (cc := cc) (maxL := maxL) (ret := some .int) (hh := hh) hy hw ?_)
  intro p e s m args below meth c s₁ B hml hv
  obtain ⟨rfl, hP, hK, hN, hT⟩ := hv
  have hts := atoms_spec (ws := ws) B.pre
  rw [lg_entry_eq]
  exact body p e s m below meth c ⟨B.exec, B.bytes, hml, by rw [← hown]; exact findClass_of_methodNamed B.named, hts⟩ hK hN hT B.returns B.notSynchronized (vx_table (x := y) B (hts _ (by rw [hw]; exact List.mem_cons_self))) s.heap [] _ hP va_S.rf (lv_entry As hlen)

set_option maxRecDepth 100000 in
theorem tl_lI : Cond.classLink RL 14 tx_I ∈ lw_tbl := by decide +kernel
set_option maxRecDepth 100000 in
theorem tl_lJ : Cond.classLink RL 16 tx_J ∈ lw_tbl := by decide +kernel
set_option maxRecDepth 100000 in
theorem tl_lO : Cond.classLink RL 51 tx_O ∈ lw_tbl := by decide +kernel

theorem tx_orE {a b : Option String} {E : String} (h : tx_or a b = some E) : a = some E ∨ b = some E := by
  cases a with
  | none => exact Or.inr h
  | some x => exact Or.inl h
theorem tl_eI {x : Int32} {E : String} (h : fx_id x = some E) : E = tx_I := by
  unfold fx_id at h; split at h
  · cases h
  · exact (Option.some.inj h).symm
theorem tl_eT {x y : Int32} {E : String} (h : fx_told x y = some E) : E = tx_I := by
  rcases tx_orE h with h | h
  · split at h
    · cases h
    · exact tl_eI h
  · rcases tx_orE h with h | h
    · split at h
      · cases h
      · exact tl_eI h
    · split at h
      · cases h
      · split at h
        · exact (Option.some.inj h).symm
        · cases h
theorem tl_eB {x y : Int32} {E : String} (h : fx_below x y = some E) : E = tx_I := by
  unfold fx_below at h; split at h
  · exact (Option.some.inj h).symm
  · split at h
    · cases h
    · exact (Option.some.inj h).symm
theorem tl_eL {σ : tg_Mem} {x : Int32} {E : String} (h : fx_letter σ x = some E) : E = tx_I ∨ E = tx_J := by
  rcases tx_orE h with h | h
  · exact Or.inl (tl_eI h)
  · split at h
    · cases h
    · exact Or.inr (Option.some.inj h).symm
theorem tl_eF {σ : tg_Mem} {x : Int32} {E : String} (h : fx_forest σ x = some E) : E = tx_I ∨ E = tx_O := by
  rcases tx_orE h with h | h
  · exact Or.inl (tl_eI h)
  · split at h
    · cases h
    · exact Or.inr (Option.some.inj h).symm
theorem tl_eP {σ : tg_Mem} {x g q sub d w0 : Int32} {E : String} (h : fx_put σ x g q sub d w0 = some E) : E = tx_I ∨ E = tx_J := by
  rcases tx_orE h with h | h
  · exact Or.inl (tl_eI h)
  rcases tx_orE h with h | h
  · exact Or.inl (tl_eT h)
  rcases tx_orE h with h | h
  · exact Or.inl (tl_eB h)
  rcases tx_orE h with h | h
  · exact Or.inl (tl_eB h)
  rcases tx_orE h with h | h
  · exact Or.inl (tl_eB h)
  split at h
  · exact Or.inr (Option.some.inj h).symm
  · cases h
theorem tl_eJ {σ : tg_Mem} {x y : Int32} {E : String} (h : fx_join σ x y = some E) : E = tx_I ∨ E = tx_J := by
  rcases tx_orE h with h | h
  · exact Or.inl (tl_eI h)
  rcases tx_orE h with h | h
  · exact Or.inl (tl_eI h)
  rcases tx_orE h with h | h
  · split at h
    · exact Or.inl (Option.some.inj h).symm
    · cases h
  rcases tx_orE h with h | h
  · exact tl_eL h
  rcases tx_orE h with h | h
  · exact tl_eL h
  split at h
  · exact Or.inr (Option.some.inj h).symm
  · cases h
theorem tl_eR {σ : tg_Mem} {x : Int32} {E : String} (h : fx_root σ x = some E) : E = tx_O := by
  unfold fx_root at h; split at h
  · exact (Option.some.inj h).symm
  · cases h
theorem tl_eN {σ : tg_Mem} {x y : Int32} {E : String} (h : fx_inTree σ x y = some E) : E = tx_I ∨ E = tx_O := by
  rcases tx_orE h with h | h
  · exact tl_eF h
  · split at h
    · exact Or.inr (Option.some.inj h).symm
    · cases h

