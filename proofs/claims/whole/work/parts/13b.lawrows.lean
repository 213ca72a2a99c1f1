/-! ===== the law's helpers: rows ===== -/
def tl_o (o : Nat) (cJ : ClassId) (u : Nat → Int64) : va_W := [(o, .inl (cJ, 1, .inr (.inl u)))]
abbrev tl_ty (cI cZ cJ : ClassId) : List (ClassId × FieldType) := [(cI, .int), (cZ, .boolean), (cJ, .long)]
def tl_w (h : Nat → Nat) (o : Nat) (cI cZ cJ : ClassId) (u : Nat → Int64) (σ : tg_Mem) : va_W := tw_T h cI cZ σ ++ tl_o o cJ u
def tl_h (h : Nat → Nat) (o : Nat) : Nat → Nat := fun i => if i < 23 then h i else o
def tl_A (h : Nat → Nat) (o : Nat) : Nat → Prop := tw_A 24 (tl_h h o)
def tl_dis (h : Nat → Nat) (o : Nat) : Prop := tw_dis 23 h ∧ ∀ i, i < 23 → h i ≠ o
theorem tl_dh {h : Nat → Nat} {o : Nat} (hd : tl_dis h o) : tw_dis 24 (tl_h h o) := by
  intro i j hi hj e
  unfold tl_h at e
  by_cases h1 : i < 23
  · by_cases h2 : j < 23
    · rw [if_pos h1, if_pos h2] at e
      exact hd.1 i j h1 h2 e
    · rw [if_pos h1, if_neg h2] at e
      exact absurd e (hd.2 i h1)
  · by_cases h2 : j < 23
    · rw [if_neg h1, if_pos h2] at e
      exact absurd e.symm (hd.2 j h2)
    · omega
theorem tl_D {h : Nat → Nat} {o : Nat} {cI cZ cJ : ClassId} {u : Nat → Int64} (hd : tl_dis h o) : ∀ σ, va_D (tl_A h o) (tl_w h o cI cZ cJ u σ) := fun _ => tw_D (tl_dh hd) rfl
theorem tl_AA {h : Nat → Nat} {o q : Nat} (hq : tw_A 23 h q) : tl_A h o q := by
  obtain ⟨i, hi, e⟩ := hq
  exact ⟨i, by omega, by unfold tl_h; rw [if_pos hi]; exact e⟩
theorem tl_An {h : Nat → Nat} {o : Nat} (hd : tl_dis h o) : ¬ tw_A 23 h o := fun ⟨i, hi, e⟩ => hd.2 i hi e.symm
def tl_TX (A : Nat → Prop) (U : State) : Prop := tx_TX A U ∧ va_Nc tx_J tx_I U ∧ va_Nc tx_O tx_I U
theorem tx_TX.narrow {A B : Nat → Prop} {U : State} (h : tx_TX A U) (hAB : ∀ q, B q → A q) : tx_TX B U := ⟨h.1, h.2.1, h.2.2.1, h.2.2.2.1.narrow hAB, h.2.2.2.2.narrow hAB⟩
def tl_Pre (w : tg_Mem → va_W) (D : va_G) (tys : List (ClassId × FieldType)) (nl : List (String × Nat × MethodName × String)) (A : Nat → Prop) (As : List Value) (σ : tg_Mem) : Array Value → State → Prop :=
  va_Pc As (fun U => va_P D vwCl (w σ) U.heap ∧ va_K D vwCl tys U ∧ tg_NU nl U ∧ tl_TX A U)
def tl_Q (w2 : tg_Mem → va_W) (D : va_G) (A : Nat → Prop) (k : Int32) (σ' : tg_Mem) : Array Value → State → Outcome → State → Prop := tg_PT w2 D A (some (.int k)) σ'
/-- a helper's contract: it returns k and leaves σ' and the cell out -/
def tl_CT (l : Launch) (y : MethodName) (ws : List Cond) (rm : Room) (w w2 : tg_Mem → va_W) (tys : List (ClassId × FieldType)) (nl : List (String × Nat × MethodName × String)) (A : Nat → Prop) (D : va_G) (As : List Value) (σ : tg_Mem) (k : Int32) (σ' : tg_Mem) : Prop :=
  Met l y ws rm (tl_Pre w D tys nl A As σ) (tl_Q w2 D A k σ') 1 6 A
theorem tl_ofX {l : Launch} {y : MethodName} {ws : List Cond} {rm : Room} {Pc : Array Value → State → Prop} {Qc : Array Value → State → Outcome → State → Prop} {mc ms : Nat} {free : Addr → Prop} (h : vx_Met l y ws rm Pc Qc (fun _ _ _ => False) mc ms free) : Met l y ws rm Pc Qc mc ms free := by
  intro p e a1 a2 a3 s m args below a4 a5 a6 a7
  obtain ⟨n, o, b1, b2, b3, b4⟩ := h p e a1 a2 a3 s m args below a4 a5 a6 a7
  refine ⟨n, o, b1, b2, b3, ?_⟩
  rcases b4 with h | ⟨q, -, E, ce, L, hx, -⟩
  · exact h
  · exact hx.elim
section TL
variable {p : Program} {l : Launch} {e : Env} {R : Room} {s : State} {m : MethodId} {args : Array Value} {below : List Frame} {meth : Method} {c : Code} {D : va_G} {w w2 : tg_Mem → va_W} {A : Nat → Prop} {n k z : Nat} {Q : State → Prop}
variable {cc : ByteArray} {Ts : List Cond} {own : String} {σ : tg_Mem} {pc : Nat} {L L' : List (Nat × Value)} {st : List Value}
theorem tl_i2l (S : CallFix p m c cc n s args Ts own) {x : Int32} (d : decode cc pc = .ok (.i2l, 1)) (kk : tg_G p l e R s m args below meth c D w A n k z Q σ (pc + 1) L (.long x.toInt64 :: st)) : tg_G p l e R s m args below meth c D w A n k z Q σ pc L (.int x :: st) := fun H locs ls hP hS hl => lv_i2l S.1 S.2.1 d rfl (kk H locs ls hP hS hl)
theorem tl_lconst (S : CallFix p m c cc n s args Ts own) {j : Fin 2} {v : Int64} (d : decode cc pc = .ok (.lconst j, 1)) (hv : Int64.ofNat (j : Nat) = v) (kk : tg_G p l e R s m args below meth c D w A n k z Q σ (pc + 1) L (.long v :: st)) : tg_G p l e R s m args below meth c D w A n k z Q σ pc L st := fun H locs ls hP hS hl => lv_lconst S.1 S.2.1 d hv (kk H locs ls hP hS hl)
theorem tl_astore_n (ps : List Nat) (S : CallFix p m c cc n s args Ts own) {j : Fin 4} {x i : Nat} (d : decode cc pc = .ok (.astore_n j, 1)) (hj : (j : Nat) = i) (hi : i < n) (hL : lv_pick ((i, Value.ref x) :: L.filter (fun q => !(q.1 == i) && !(q.1 + 1 == i && q.2.category == 2))) ps = L') (kk : tg_G p l e R s m args below meth c D w A n k z Q σ (pc + 1) L' st) : tg_G p l e R s m args below meth c D w A n k z Q σ pc L (.ref x :: st) :=
  fun H locs ls hP hS hl => lv_astore_n S.1 S.2.1 d hj hl hi rfl (fun ls2 hl2 => kk H locs ls2 hP hS (hL ▸ lv_sub hl2 ps rfl))
theorem tl_astore (ps : List Nat) (S : CallFix p m c cc n s args Ts own) {x i : Nat} (d : decode cc pc = .ok (.astore i, 2)) (hi : i < n) (hL : lv_pick ((i, Value.ref x) :: L.filter (fun q => !(q.1 == i) && !(q.1 + 1 == i && q.2.category == 2))) ps = L') (kk : tg_G p l e R s m args below meth c D w A n k z Q σ (pc + 2) L' st) : tg_G p l e R s m args below meth c D w A n k z Q σ pc L (.ref x :: st) :=
  fun H locs ls hP hS hl => lv_astore S.1 S.2.1 d hl hi rfl (fun ls2 hl2 => kk H locs ls2 hP hS (hL ▸ lv_sub hl2 ps rfl))
/-- the cell of out is written -/
def tl_u (u : Nat → Int64) (x : Int64) : Nat → Int64 := vp_updL u 0 x
theorem tl_last {h : Nat → Nat} {o : Nat} {cI cZ cJ : ClassId} {u : Nat → Int64} {x : Int64} (S : CallFix p m c cc n s args Ts own) (hK : va_K D vwCl (tl_ty cI cZ cJ) s) (hd : tl_dis h o) (d : decode cc pc = .ok (.lastore, 1)) (kk : tg_G p l e R s m args below meth c D (tl_w h o cI cZ cJ (tl_u u x)) (tl_A h o) n k z Q σ (pc + 1) L st) : tg_G p l e R s m args below meth c D (tl_w h o cI cZ cJ u) (tl_A h o) n k z Q σ pc L (.long x :: .int 0 :: .ref o :: st) :=
  fun H locs ls hP hS hl => va_last (f := u) S.1 S.2.1 hK hP (tl_D hd σ) hS 23 2 rfl rfl (by unfold vp_in; decide) d (fun H1 locs1 hP1 hD1 hS1 => kk H1 locs1 ls hP1 hS1 hl)
/-- the class's method called: it returns, or what it throws goes on -/
theorem tl_call {h : Nat → Nat} {o : Nat} {cI cZ cJ : ClassId} {u : Nat → Int64} {y : MethodName} {bytes : ByteArray} {maxL index fr nA : Nat} {ret : Option FieldType} {ws ws' : List Cond} {As rest : List Value} {r : Option Value} {ex : Option String} {σ2 : tg_Mem}
    (S : CallFix p m c cc n s args Ts own) (hK : va_K D vwCl (tl_ty cI cZ cJ) s) (hN : tg_NU tw_nl s) (hX : tx_TX (tl_A h o) s) (hd : tl_dis h o) (hM : tx_CT l y ws (tx_rm fr) (tw_T h cI cZ) (tw_ty cI cZ) tw_nl (tw_A 23 h) D (.ref (h 0) :: As) σ ex r σ2)
    (hG : GoodIn Ts (wsV own index RX2 y ws)) (hw : ws = Cond.code y bytes maxL ret :: ws') (hdd : y.cls = RX2 ∧ y.cls ≠ "java/lang/invoke/MethodHandle" ∧ y.cls ≠ "java/lang/invoke/VarHandle" ∧ (parseMethodDescriptor y.desc).map (fun d => d.parameters.length) = some nA) (hR : fr + 1 ≤ R.frames ∧ 8 + (maxL + 11) + 28 * fr ≤ R.locals)
    (hnA : As.length = nA) (hst : st = As.reverse ++ .ref (h 0) :: rest) (hcat : (rest.map fun v => v.category).sum ≤ 8) (d : decode cc pc = .ok (.invokevirtual index, 3)) (hf : 1 ≤ R.cells ∧ 6 ≤ R.slots)
    (kx : ∀ E, ex = some E → ∀ (H : Heap) (locs : List Loc) (ls : Array Slot) (q : Addr) (ce : Cell), va_P D vwCl (tl_w h o cI cZ cJ u σ) H → va_S (tl_A h o) s.heap H locs → lv_has ls n L → H[q]? = some ce → ce.vm = .none → s.vm.findClass E = some ce.cls → vx_W p l e R s m args below meth c H locs 1 6 Q (F0 m pc ls rest) q)
    (kk : ex = none → tg_G p l e R s m args below meth c D (tl_w h o cI cZ cJ u) (tl_A h o) n 1 6 Q σ2 (pc + 3) L (r.toList ++ rest)) :
    tg_G p l e R s m args below meth c D (tl_w h o cI cZ cJ u) (tl_A h o) n 0 0 Q σ pc L st := by
  intro H locs ls hP hS hl T hT X
  have hKt : va_K D vwCl (tw_ty cI cZ) s := hK.sub [0, 1] rfl
  have hPt : va_P D vwCl (tw_T h cI cZ σ) H := hP.sub [0, 1, 2, 3, 4, 5, 6, 7, 8, 9, 10, 11, 12, 13, 14, 15, 16, 17, 18, 19, 20, 21, 22] rfl
  have hPo : va_P D vwCl (tl_o o cJ u) H := hP.sub [23] rfl
  have hXt : tx_TX (tw_A 23 h) s := hX.narrow (fun q hq => tl_AA hq)
  have ho : o < H.size := vx_lt hPo (k := 0) rfl
  have back : ∀ (H1 : Heap) (σ3 : tg_Mem), va_P D vwCl (tw_T h cI cZ σ3) H1 → (∀ q : Nat, q < H.size → ¬ tw_A 23 h q → H1[q]? = H[q]?) → va_P D vwCl (tl_w h o cI cZ cJ u σ3) H1 := by
    intro H1 σ3 hp hk
    refine hp.app (hPo.kept (fun k q hq => ?_))
    have hz : k < 1 := (List.getElem?_eq_some_iff.mp hq).1
    rw [show k = 0 by omega] at hq
    cases hq
    exact hk o ho (tl_An hd)
  have hst2 : ∀ (H1 : Heap) (Lc : List Loc), H.size ≤ H1.size → (∀ q : Nat, q < H.size → ¬ tw_A 23 h q → H1[q]? = H[q]?) → (∀ q ∈ Lc, tw_A 23 h q.base) → va_S (tl_A h o) s.heap H1 (locs ++ Lc) := by
    intro H1 Lc hz hk hL
    exact ⟨Nat.le_trans hS.1 hz, fun q h1 h2 => by rw [hk q (Nat.lt_of_lt_of_le h1 hS.1) (fun h3 => h2 (tl_AA h3))]; exact hS.2.1 q h1 h2, fun q hq => by
      rcases List.mem_append.mp hq with h | h
      · exact hS.2.2 q h
      · exact tl_AA (hL q h)⟩
  have hpre : PreV s H RX2 (h 0) (tx_Pre (tw_T h cI cZ) D (tw_ty cI cZ) tw_nl (tw_A 23 h) (.ref (h 0) :: As) σ) As :=
    ⟨tx_blind, va_recv (q := (RX2, TX2, 2)) (ci := 2) (q0 := 0) hKt hPt rfl rfl, fun U hU hW => ⟨rfl, by rw [hU]; exact hPt, va_K.moved hW.alike hKt, hN.warm hW, (hX.call hW hU hS).narrow (fun q hq => tl_AA hq)⟩⟩
  rcases vx_runV (As := As) (rest := rest) S hM (cwV nA S.2.2.2.2 hG hw rfl rfl hdd hR) hpre rfl hnA hl.1 hst (lv_room hcat) d hf T hT X with ⟨v, st₀, t, T', Lc, h0, X', hL, e1, e2, ⟨hx, hsz, hv, hPt2, hz, hk⟩, sg⟩ | ⟨q, st₀, t, T', Lc, E, ce, h0, X', hL, e1, e2, ⟨hx, hPt2, hz, hk⟩, hce, hcv, hcl, sg⟩
  · cases hv
    rw [h0] at hz hk
    obtain ⟨t2, a1, b1⟩ := kk hx T'.heap (locs ++ Lc) ls (by rw [e1]; exact back _ _ hPt2 hk) (by rw [e1]; exact hst2 _ _ hz hk hL) hl T' rfl X'
    exact ⟨t2, sg t2 a1, b1⟩
  · rw [h0] at hz hk
    obtain ⟨t2, a1, b1⟩ := kx E hx T'.heap (locs ++ Lc) ls q ce (by rw [e1]; exact back _ _ hPt2 hk) (by rw [e1]; exact hst2 _ _ hz hk hL) hl (by rw [e1]; exact hce) hcv hcl T' rfl X'
    exact ⟨t2, sg.trans a1, b1⟩
/-- a helper's end -/
theorem tl_ret {v v' : Int32} {σ' : tg_Mem} {XC : String → State → State → Prop} (S : CallFix p m c cc n s args Ts own) (hr : meth.sig.returnType = some .int) (hlk : meth.locks = false) (d : decode cc pc = .ok (.ireturn, 1)) (hv : v = v') (hσ : w σ = w2 σ') : tg_G p l e R s m args below meth c D w A n 1 6 (vx_MQ below (tl_Q w2 D A v' σ') XC args s 1 6 A) σ pc L [.int v] := by
  subst hv
  exact fun H locs ls hP hS hl => vx_ret (W.iret S.1 S.2.1 hr (fun t ht hW => ⟨rfl, by rw [ht, ← hσ]; exact hP, hS.F ht⟩) hS.2.2 d hlk)
/-- caught by the first handler; by the second -/
theorem tl_catch1 {E : String} {q : Addr} {ce : Cell} {H : Heap} {locs : List Loc} {ls : Array Slot} {rest : List Value} {x : Cond} {x1 : ExceptionTableEntry} {suf : List ExceptionTableEntry} (S : CallFix p m c cc n s args (x :: tw_G) own) (ht : c.exceptionTable.toList = x1 :: suf) (hx : covers x1 pc = true) (h0 : x1.catchType ≠ 0) (hlink : Cond.classLink own x1.catchType E ∈ lw_tbl) (hcast : va_Nw (.castable E E) s)
    (hce : H[q]? = some ce) (hcv : ce.vm = .none) (hcl : s.vm.findClass E = some ce.cls) (kk : W p l e R s m args below meth c H locs k z Q (F0 m x1.handlerPc ls [.ref q])) : vx_W p l e R s m args below meth c H locs k z Q (F0 m pc ls rest) q :=
  vx_catch S.2.2.2.1 [] x1 suf ht (fun _ h => nomatch h) hx h0 (S.2.2.2.2 _ (tw_in hlink rfl)) (va_Nw.use rfl hcast) hce hcv hcl kk
theorem tl_catch2 {E E1 : String} {q : Addr} {ce : Cell} {H : Heap} {locs : List Loc} {ls : Array Slot} {rest : List Value} {x : Cond} {x1 x2 : ExceptionTableEntry} {suf : List ExceptionTableEntry} (S : CallFix p m c cc n s args (x :: tw_G) own) (ht : c.exceptionTable.toList = x1 :: x2 :: suf) (h1 : x1.catchType ≠ 0) (hl1 : Cond.classLink own x1.catchType E1 ∈ lw_tbl) (hn : va_Nc E E1 s) (hx : covers x2 pc = true) (h0 : x2.catchType ≠ 0) (hlink : Cond.classLink own x2.catchType E ∈ lw_tbl) (hcast : va_Nw (.castable E E) s)
    (hce : H[q]? = some ce) (hcv : ce.vm = .none) (hcl : s.vm.findClass E = some ce.cls) (kk : W p l e R s m args below meth c H locs k z Q (F0 m x2.handlerPc ls [.ref q])) : vx_W p l e R s m args below meth c H locs k z Q (F0 m pc ls rest) q :=
  vx_catch S.2.2.2.1 [x1] x2 suf ht (fun v hv => by
    rw [List.mem_singleton.mp hv]
    exact Or.inr ⟨h1, E1, S.2.2.2.2 _ (tw_in hl1 rfl), hn⟩) hx h0 (S.2.2.2.2 _ (tw_in hlink rfl)) (va_Nw.use rfl hcast) hce hcv hcl kk
end TL
/-- a helper's contract out of the walk of its body -/
theorem tl_met {l : Launch} {y : MethodName} {ws ws' : List Cond} {cc : ByteArray} {maxL fr : Nat} {hh : List (Nat × Nat × Nat × Nat)} {w w2 : tg_Mem → va_W} {tys : List (ClassId × FieldType)} {nl : List (String × Nat × MethodName × String)} {A : Nat → Prop} {D : va_G} {As : List Value} {σ σ' : tg_Mem} {k : Int32} {own : String} (hy : plainName y.cls = true) (hown : y.cls = own) (hw : ws = Cond.codeWith y cc maxL (some .int) hh :: ws') (hlen : (lg_sl As).length ≤ maxL)
    (body : ∀ (p : Program) (e : Env) (s : State) (m : MethodId) (below : List Frame) (meth : Method) (c : Code), CallFix p m c cc maxL s As.toArray ws own → va_K D vwCl tys s → tg_NU nl s → tl_TX A s → meth.sig.returnType = some .int → meth.locks = false → c.exceptionTable.toList = tableOf hh →
      tg_G p l e (tx_rm fr) s m As.toArray below meth c D w A maxL 0 0 (vx_MQ below (tl_Q w2 D A k σ') (fun _ _ _ => False) As.toArray s 1 6 A) σ 0 (lv_args 0 As) []) : tl_CT l y ws (tx_rm fr) w w2 tys nl A D As σ k σ' := by
  refine tl_ofX (vx_ofWH (cc := cc) (maxL := maxL) (ret := some .int) (hh := hh) hy hw ?_)
  intro p e s m args below meth c s₁ B hml hv
  obtain ⟨rfl, hP, hK, hN, hT⟩ := hv
  have hts := atoms_spec (ws := ws) B.pre
  rw [lg_entry_eq]
  exact body p e s m below meth c ⟨B.exec, B.bytes, hml, by rw [← hown]; exact findClass_of_methodNamed B.named, hts⟩ hK hN hT B.returns B.notSynchronized (vx_table (x := y) B (hts _ (by rw [hw]; exact List.mem_cons_self))) s.heap [] _ hP va_S.rf (lv_entry As hlen)
set_option maxRecDepth 100000 in
theorem tl_lI : Cond.classLink RL 13 tx_I ∈ lw_tbl := by decide +kernel
set_option maxRecDepth 100000 in
theorem tl_lJ : Cond.classLink RL 15 tx_J ∈ lw_tbl := by decide +kernel
set_option maxRecDepth 100000 in
theorem tl_lO : Cond.classLink RL 35 tx_O ∈ lw_tbl := by decide +kernel
theorem tl_app {p : Program} {l : Launch} {e : Env} {R : Room} {s : State} {m : MethodId} {args : Array Value} {below : List Frame} {meth : Method} {c : Code} {D : va_G} {w : tg_Mem → va_W} {A : Nat → Prop} {n k z : Nat} {Q : State → Prop} {σ : tg_Mem} {pc : Nat} {L : List (Nat × Value)} {st : List Value} {H : Heap} {locs : List Loc} {ls : Array Slot} (hP : va_P D vwCl (w σ) H) (hS : va_S A s.heap H locs) (hl : lv_has ls n L) (kk : tg_G p l e R s m args below meth c D w A n k z Q σ pc L st) : W p l e R s m args below meth c H locs k z Q (F0 m pc ls st) := kk H locs ls hP hS hl
def tl_k (ex : Option String) : Int32 := match ex with | none => 0 | some E => if E = tx_I then 1 else 2
def tl_k1 (ex : Option String) : Int32 := match ex with | none => 0 | some _ => 1
def tl_s {X : Type} (ex : Option String) (a b : X) : X := match ex with | none => a | some _ => b
theorem tx_orE {a b : Option String} {E : String} (h : tx_or a b = some E) : a = some E ∨ b = some E := by
  cases a with
  | none => exact Or.inr h
  | some x => exact Or.inl h
theorem tl_eI {x : Int32} {E : String} (h : fx_id x = some E) : E = tx_I := by
  unfold fx_id at h; split at h
  · cases h
  · exact (Option.some.inj h).symm
theorem tl_eT {x y : Int32} {E : String} (h : fx_told x y = some E) : E = tx_I := by
  rcases tx_orE h with h | h
  · split at h
    · cases h
    · exact tl_eI h
  · rcases tx_orE h with h | h
    · split at h
      · cases h
      · exact tl_eI h
    · split at h
      · cases h
      · split at h
        · exact (Option.some.inj h).symm
        · cases h
theorem tl_eB {x y : Int32} {E : String} (h : fx_below x y = some E) : E = tx_I := by
  unfold fx_below at h; split at h
  · exact (Option.some.inj h).symm
  · split at h
    · cases h
    · exact (Option.some.inj h).symm
theorem tl_eL {σ : tg_Mem} {x : Int32} {E : String} (h : fx_letter σ x = some E) : E = tx_I ∨ E = tx_J := by
  rcases tx_orE h with h | h
  · exact Or.inl (tl_eI h)
  · split at h
    · cases h
    · exact Or.inr (Option.some.inj h).symm
theorem tl_eF {σ : tg_Mem} {x : Int32} {E : String} (h : fx_forest σ x = some E) : E = tx_I ∨ E = tx_O := by
  rcases tx_orE h with h | h
  · exact Or.inl (tl_eI h)
  · split at h
    · cases h
    · exact Or.inr (Option.some.inj h).symm
theorem tl_eP {σ : tg_Mem} {x g q sub d w0 : Int32} {E : String} (h : fx_put σ x g q sub d w0 = some E) : E = tx_I ∨ E = tx_J := by
  rcases tx_orE h with h | h
  · exact Or.inl (tl_eI h)
  rcases tx_orE h with h | h
  · exact Or.inl (tl_eT h)
  rcases tx_orE h with h | h
  · exact Or.inl (tl_eB h)
  rcases tx_orE h with h | h
  · exact Or.inl (tl_eB h)
  rcases tx_orE h with h | h
  · exact Or.inl (tl_eB h)
  split at h
  · exact Or.inr (Option.some.inj h).symm
  · cases h
theorem tl_eJ {σ : tg_Mem} {x y : Int32} {E : String} (h : fx_join σ x y = some E) : E = tx_I ∨ E = tx_J := by
  rcases tx_orE h with h | h
  · exact Or.inl (tl_eI h)
  rcases tx_orE h with h | h
  · exact Or.inl (tl_eI h)
  rcases tx_orE h with h | h
  · split at h
    · exact Or.inl (Option.some.inj h).symm
    · cases h
  rcases tx_orE h with h | h
  · exact tl_eL h
  rcases tx_orE h with h | h
  · exact tl_eL h
  split at h
  · exact Or.inr (Option.some.inj h).symm
  · cases h
theorem tl_eR {σ : tg_Mem} {x : Int32} {E : String} (h : fx_root σ x = some E) : E = tx_O := by
  unfold fx_root at h; split at h
  · exact (Option.some.inj h).symm
  · cases h
theorem tl_eN {σ : tg_Mem} {x y : Int32} {E : String} (h : fx_inTree σ x y = some E) : E = tx_I ∨ E = tx_O := by
  rcases tx_orE h with h | h
  · exact tl_eF h
  · split at h
    · exact Or.inr (Option.some.inj h).symm
    · cases h
