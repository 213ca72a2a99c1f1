/-! ===== 09: the class's public methods: they throw, and a throw makes a cell (first rows: the kit's row of a throw, its end said more exactly) ===== -/
section VGE
variable {p : Program} {l : Launch} {e : Env} {R : Room} {s : State} {m : MethodId} {args : Array Value} {below : List Frame} {meth : Method} {c : Code} {H : Heap} {locs : List Loc} {cells slots : Nat} {Q : State → Prop}
variable {mc ms : Nat} {free : Addr → Prop} {A0 A1 : Nat → Prop} {H0 : Heap} {a : Array Value} {ls : Array Slot} {st0 rest : List Value}
variable {Qc : Array Value → State → Outcome → State → Prop} {XC : String → State → State → Prop}
/-- 'throw new E("text")': new; dup; ldc; invokespecial; athrow -/
theorem vg_throwS {cc : ByteArray} {pc : Nat} (hexec : p.tables.exec = Jvm.exec) (hb : c.code = cc) (hl : l.stackTraces = false) {own cls text : String} {names : List String} {ik is ic mc ms sa : Nat} {A : Nat → Prop}
    (hown : s.vm.findClass own = some m.cls) (hcls : Bundle.fit cls = true) (hnames : ∀ n ∈ names, Bundle.fit n = true)
    (hk : (Cond.classLink own ik cls).before args s = true) (hini : (Cond.initialized cls).before args s = true) (hstr : vk_R own is text sa s) (hat : ∀ w ∈ vx_atS own ic cls names, w.before args s = true)
    (hgood : ∀ w ∈ Cond.classLink own ik cls :: Cond.initialized cls :: vx_atS own ic cls names, vx_ot w = true)
    (hU : vx_Zq Bundle.tN "UNASSIGNED_STACK" Bundle.steD A s s.heap) (hN : vx_Zq Bundle.tN "SUPPRESSED_SENTINEL" Bundle.listD A s s.heap) (hS : va_S A s.heap H locs) (hsize : ls.size = c.maxLocals)
    (d0 : decode cc pc = .ok (.new ik, 3)) (d3 : decode cc (pc + 3) = .ok (.dup, 1)) (d4 : decode cc (pc + 4) = .ok (.ldc is, 2)) (d6 : decode cc (pc + 6) = .ok (.invokespecial ic, 3)) (d9 : decode cc (pc + 9) = .ok (.athrow, 1))
    (hout : ∀ x ∈ c.exceptionTable.toList, covers x (pc + 9) = false)
    (hRframes : names.length + 3 < R.frames) (hRlocals : (rest.map fun v => v.category).sum + (13 * (names.length + 1) + 43) ≤ R.locals) (hRcells : cells + 1 ≤ R.cells) (hRslots : slots + 6 ≤ R.slots) (hlocks : meth.locks = false)
    (hx : ∀ t : State, s.vm.Alike t.vm → H.size < t.heap.size → (∀ q : Nat, q < H.size → t.heap[q]? = H[q]?) → XC cls s t)
    (hf : ∀ z ∈ locs, free z.base) (hc : cells + 1 ≤ mc) (hs : slots + 6 ≤ ms) :
    W p l e R s m args below meth c H locs cells slots (vx_MQ below Qc XC args s mc ms free) (F0 m pc ls rest) := by
  intro T hT X
  have htr : e.platform.stackTraces = false := (show e.platform.stackTraces = l.stackTraces by rw [X.admits.platform]).trans hl
  have Y := vx_rebase X (R' := { frames := R.frames, locals := R.locals, cells := 1, slots := 6 }) (Nat.le_refl _) (Nat.le_refl _) hRcells hRslots
  obtain ⟨s', hA⟩ : ∃ z, z = (T.setVm s.vm).setFrames (.invoking m args :: below) := ⟨_, rfl⟩
  rw [← hA] at Y
  have hvm : s'.vm = s.vm := by rw [hA]; rfl
  have hhp : s'.heap = H := by rw [hA]; exact hT
  have hW0 : s.WarmedH s'.vm := by rw [hvm]; exact State.WarmedH.refl s
  have hat' : ∀ w ∈ vx_atS own ic cls names, w.before args s' = true := fun w hw => vx_ot_at hW0 hvm.symm (hgood w (List.mem_cons_of_mem _ (List.mem_cons_of_mem _ hw))) (hat w hw)
  have hk' : (Cond.classLink own ik cls).before args s' = true := vx_ot_at hW0 hvm.symm (hgood _ List.mem_cons_self) hk
  have hini' : (Cond.initialized cls).before args s' = true := vx_ot_at hW0 hvm.symm (hgood _ (List.mem_cons_of_mem _ List.mem_cons_self)) hini
  have hU' : vx_Zq Bundle.tN "UNASSIGNED_STACK" Bundle.steD A s' s'.heap := by rw [hhp]; exact vx_Zq.moved hW0.alike (hU.kept hS.2.1)
  have hN' : vx_Zq Bundle.tN "SUPPRESSED_SENTINEL" Bundle.listD A s' s'.heap := by rw [hhp]; exact vx_Zq.moved hW0.alike (hN.kept hS.2.1)
  have h : ∀ w ∈ Bundle.ownAtoms own ic cls names, w.before args s' = true := vx_own hat' (vx_isRefq hU'.1) (vx_isRefq hN'.1) hU'.2.word hN'.2.word
  have hown' : s'.vm.findClass own = some m.cls := by rw [hvm]; exact hown
  have hins : (Cond.instantiable cls 6).before args s' = true := h _ (by simp [Bundle.ownAtoms])
  obtain ⟨vm₁, cX, kX, hfX, hkX, -, -, X₁, st1⟩ := Y.newCold hexec (own := own) (C := cls) (index := ik) (n := 6) hown' hk' hins hini'
    (g := F0 m pc ls rest) rfl (by rw [hb]; exact d0) (Nat.le_refl _) (Nat.le_refl _)
  generalize hT1 : (T.setVm vm₁).pushCell { cls := cX, slots := kX.instanceTypes.map defaultValue, vm := .none } = T1 at X₁ st1
  have hcat : (Value.ref T.heap.size).category = 1 := rfl
  have hcellA : T1.heap[T.heap.size]? = some (freshCell cX kX) := by rw [← hT1]; exact State.heap_pushCell_size _ _
  have d3' : decode c.code (pc + 3) = .ok (.dup, 1) := by rw [hb]; exact d3
  have d4' : decode c.code (pc + 4) = .ok (.ldc is, 2) := by rw [hb]; exact d4
  have hstr' : vk_R own is text sa s' := vk_R.warm hW0 hstr
  obtain ⟨U, hsteps, hrun, hend, hW, hsame, ce, hce, hO⟩ := X₁.ctorThrowS hexec htr (own := own) (cls := cls) (names := names) (ic := ic) hown' hcls hnames h (fun x hx => nomatch hx) hfX hkX hcellA (by rw [hhp, hT]; exact Nat.le_refl _) (msg := .ref sa) rfl
    (g := { method := m, pc := pc + 6, locals := ls, stack := .ref sa :: .ref T.heap.size :: .ref T.heap.size :: rest, locked := none }) rfl hsize rfl rfl (rest := rest) rfl
    (by rw [hb]; exact d6) (by rw [hb]; exact d9) hout hRframes (by simp only [List.map_cons, List.sum_cons, hcat]; omega) hlocks
  obtain ⟨f1, f2⟩ := vx_frame hsame
  rw [hhp] at f1 f2
  have hWs : s.WarmedH U.vm := State.WarmedH.trans hW0 hW
  have hcl : s.vm.findClass cls = some ce.cls := by
    have h9 := hO.cls
    rw [hvm] at h9
    exact h9
  have hall : s.sameButNew ({ U with vm := s.vm } : State) locs mc ms := by
    subst hA
    obtain ⟨e1, e2⟩ := hsame
    rw [State.setFrames_setFrames] at e1
    have h2 : (T.setVm s.vm).sameButNew ({ U with vm := s.vm } : State) [] (0 + 1) (0 + 6) := ⟨e1, e2⟩
    have h3 := X.same.trans h2
    rw [List.append_nil] at h3
    exact h3.mono hc hs
  refine ⟨U, ?_, .threw T.heap.size, hrun, hend, Or.inr ⟨T.heap.size, rfl, cls, ce, locs, hx U hWs.alike (hT ▸ (Array.getElem?_eq_some_iff.mp hce).1) (fun q hq => f2 q hq (fun z hz => nomatch hz)), hce, hO.vm, hcl, hWs, hall, hf⟩⟩
  refine st1 _ ?_
  show Steps p.tables e below (T1.setTop { method := m, pc := pc + 3, locals := ls, stack := .ref T.heap.size :: rest, locked := none }) _
  jvm_step X₁.here [X₁.here.top, hexec, d3', Value.category]
  exact X₁.ldcString hexec (own := own) (text := text) (index := is) (a := sa) hown' hstr'.1 hstr'.2
    (g := { method := m, pc := pc + 4, locals := ls, stack := .ref T.heap.size :: .ref T.heap.size :: rest, locked := none }) rfl d4' _ hsteps
end VGE
/-! ===== the class's public methods: they throw ===== -/
abbrev tx_I : String := "java/lang/IllegalArgumentException"
abbrev tx_J : String := "java/lang/IllegalStateException"
abbrev tx_O : String := "java/lang/IndexOutOfBoundsException"
abbrev tx_up : List String := ["java/lang/RuntimeException", "java/lang/Exception"]
def tx_str : List (Nat × String) := [(134, "an id is out of range"), (136, "a grandparent is told without a parent"), (138, "a subject, day or person is out of range"), (140, "there is no letter with this id"), (142, "the id is not in the forest"), (42, "there is a letter with this id"), (73, "a letter is joined to another one"), (80, "the other letter is in the tree of this one"), (109, "there is no such root"), (112, "there is no such place in the tree")]
def tx_de : List String := ["java/lang/RuntimeException", "java/lang/Exception", Bundle.tN]
/-- what a throw needs -/
def tx_TX (A : Nat → Prop) (U : State) : Prop :=
  (∀ X ∈ [tx_I, tx_J, tx_O], va_Nw (.castable X X) U) ∧ (∀ Y ∈ tx_de, va_Nw (.declares (Bundle.initS Y)) U) ∧ (∀ q ∈ tx_str, ∃ a, vk_R RX2 q.1 q.2 a U) ∧ vx_Zq Bundle.tN "UNASSIGNED_STACK" Bundle.steD A U U.heap ∧ vx_Zq Bundle.tN "SUPPRESSED_SENTINEL" Bundle.listD A U U.heap
theorem tx_TX.call {A : Nat → Prop} {s U : State} {H : Heap} {locs : List Loc} (hW : s.WarmedH U.vm) (hU : U.heap = H) (hS : va_S A s.heap H locs) (h : tx_TX A s) : tx_TX A U := by
  obtain ⟨h1, h0, h2, h3, h4⟩ := h
  refine ⟨fun X hX => va_Nw.warmC hW (h1 X hX), fun Y hY => va_Nw.warmD hW (h0 Y hY), fun q hq => ?_, ?_, ?_⟩
  · obtain ⟨a, ha⟩ := h2 q hq
    exact ⟨a, ha.warm hW⟩
  · exact (h3.moved hW.alike).kept (fun a ha hn => by rw [hU]; exact hS.2.1 a ha hn)
  · exact (h4.moved hW.alike).kept (fun a ha hn => by rw [hU]; exact hS.2.1 a ha hn)
theorem tx_TX.same {A : Nat → Prop} {u U : State} (hv : U.vm = u.vm) (hU : U.heap = u.heap) (h : tx_TX A u) : tx_TX A U := by
  obtain ⟨h1, h0, h2, h3, h4⟩ := h
  have ha : u.vm.Alike U.vm := by rw [hv]; exact Vm.Alike.refl _
  refine ⟨fun X hX => va_Nw.same rfl hv.symm (h1 X hX), fun Y hY => va_Nw.same rfl hv.symm (h0 Y hY), fun q hq => ?_, ?_, ?_⟩
  · obtain ⟨a, ha⟩ := h2 q hq
    exact ⟨a, ha.same hv⟩
  · rw [hU]; exact h3.moved ha
  · rw [hU]; exact h4.moved ha
def tx_XB (ex : Option String) (w : tg_Mem → va_W) (D : va_G) (A : Nat → Prop) (σ : tg_Mem) : String → State → State → Prop := fun E st t => ex = some E ∧ st.heap.size < t.heap.size ∧ va_P D vwCl (w σ) t.heap ∧ va_F A st t
def tx_QR (ex : Option String) (w : tg_Mem → va_W) (D : va_G) (A : Nat → Prop) (r : Option Value) (σ' : tg_Mem) : Array Value → State → Outcome → State → Prop := fun a st o t => ex = none ∧ t.heap.size = st.heap.size ∧ tg_PT w D A r σ' a st o t
def tx_Pre (w : tg_Mem → va_W) (D : va_G) (tys : List (ClassId × FieldType)) (nl : List (String × Nat × MethodName × String)) (A : Nat → Prop) (As : List Value) (σ : tg_Mem) : Array Value → State → Prop :=
  va_Pc As (fun U => va_P D vwCl (w σ) U.heap ∧ va_K D vwCl tys U ∧ tg_NU nl U ∧ tx_TX A U)
def tx_rm (f : Nat) : Room := { frames := f, cells := 1, slots := 6, locals := 28 * f }
/-- a method's contract: it throws ex (the state as it was), or returns r and leaves σ' -/
def tx_CT (l : Launch) (y : MethodName) (ws : List Cond) (rm : Room) (w : tg_Mem → va_W) (tys : List (ClassId × FieldType)) (nl : List (String × Nat × MethodName × String)) (A : Nat → Prop) (D : va_G) (As : List Value) (σ : tg_Mem) (ex : Option String) (r : Option Value) (σ' : tg_Mem) : Prop :=
  vx_Met l y ws rm (tx_Pre w D tys nl A As σ) (tx_QR ex w D A r σ') (tx_XB ex w D A σ) 1 6 A
theorem tx_blind {w : tg_Mem → va_W} {D : va_G} {tys : List (ClassId × FieldType)} {nl : List (String × Nat × MethodName × String)} {A : Nat → Prop} {As : List Value} {σ : tg_Mem} : FrameBlind (tx_Pre w D tys nl A As σ) := fun a U g mk h => by
  obtain ⟨h1, h2, h3, h4, h5⟩ := h
  exact ⟨h1, h2, va_K.moved (u := U) (U := U.calling g mk a) (Vm.Alike.refl U.vm) h3, tg_NU.same (u := U) (U := U.calling g mk a) rfl h4, tx_TX.same (u := U) (U := U.calling g mk a) rfl rfl h5⟩
/-- no new cell: a stand of no cost -/
theorem tx_shrink {p : Program} {l : Launch} {e : Env} {R : Room} {s : State} {m : MethodId} {args : Array Value} {below : List Frame} {meth : Method} {c : Code} {T : State} {locs : List Loc} {k n : Nat} (X : Stand p l e R s m args below meth c T locs k n) (h : T.heap.size = s.heap.size) : Stand p l e R s m args below meth c T locs 0 0 := by
  obtain ⟨a1, a2, a3, a4, a5, a6, a7, a8, a9, a10, a11, a12, a13, ⟨b1, b2, b3, b4, b5, b6⟩⟩ := X
  refine ⟨a1, a2, a3, a4, a5, a6, a7, a8, a9, a10, a11, a12, a13, ⟨b1, b2, Nat.le_of_eq h, b4, ?_, b6⟩⟩
  have e : ((T.setVm s.vm).heap.toList.drop s.heap.size) = [] := List.drop_eq_nil_of_le (by
    show T.heap.toList.length ≤ s.heap.size
    rw [Array.length_toList, h]
    exact Nat.le_refl _)
  rw [e]
  exact Nat.le_refl _
theorem tx_size0 {p : Program} {l : Launch} {e : Env} {R : Room} {s : State} {m : MethodId} {args : Array Value} {below : List Frame} {meth : Method} {c : Code} {T : State} {locs : List Loc} {n : Nat} (X : Stand p l e R s m args below meth c T locs 0 n) : T.heap.size = s.heap.size :=
  Nat.le_antisymm (show T.heap.size ≤ s.heap.size + 0 from X.same.2.2.1) X.same.2.1
section TXR
variable {p : Program} {l : Launch} {e : Env} {R : Room} {s : State} {m : MethodId} {args : Array Value} {below : List Frame} {meth : Method} {c : Code} {D : va_G} {w : tg_Mem → va_W} {A : Nat → Prop} {n : Nat} {Q : State → Prop}
variable {cc : ByteArray} {Ts : List Cond} {own : String} {σ : tg_Mem} {pc : Nat} {L L' : List (Nat × Value)} {st : List Value}
/-- behind a call that returns or throws -/
theorem tx_after {a : Array Value} {r : Option Value} {rest : List Value} {ex : Option String} {σ2 : tg_Mem} (hlk : meth.locks = false) (hout : ∀ x ∈ c.exceptionTable.toList, False) {exo : Option String} {ro : Option Value} {σo : tg_Mem}
    (hr : ∀ (H : Heap) (locs : List Loc) (ls : Array Slot), va_P D vwCl (w σ) H → va_S A s.heap H locs → lv_has ls n L → vx_Run p l e R s m args below meth c H locs 0 0 1 6 (F0 m pc ls st) rest (tx_QR ex w D A r σ2 a) (tx_XB ex w D A σ) A)
    (hex : ∀ E, ex = some E → exo = some E)
    (kk : ex = none → tg_G p l e R s m args below meth c D w A n 0 0 (vx_MQ below (tx_QR exo w D A ro σo) (tx_XB exo w D A σ) args s 1 6 A) σ2 (pc + 3) L (r.toList ++ rest)) :
    tg_G p l e R s m args below meth c D w A n 0 0 (vx_MQ below (tx_QR exo w D A ro σo) (tx_XB exo w D A σ) args s 1 6 A) σ pc L st := by
  intro H locs ls hP hS hl T hT X
  have hHs : H.size = s.heap.size := by rw [← hT]; exact tx_size0 X
  rcases hr H locs ls hP hS hl T hT X with ⟨v, st₀, t, T', Lc, h0, X', hL, e1, e2, ⟨hx, hsz, hv, hPt, hz, hk⟩, sg⟩ | ⟨q, st₀, t, T', Lc, E, ce, h0, X', hL, e1, e2, ⟨hx, hlt, hPt, hz, hk⟩, hce, hcv, hcl, sg⟩
  · cases hv
    rw [h0] at hz hk
    have X2 := tx_shrink X' (by rw [e1, hsz, h0]; exact hHs)
    obtain ⟨t2, a1, b1⟩ := kk hx T'.heap (locs ++ Lc) ls (by rw [e1]; exact hPt)
      ⟨Nat.le_trans hS.1 (by rw [e1]; exact hz), fun q h1 h2 => by rw [e1, hk q (Nat.lt_of_lt_of_le h1 hS.1) h2]; exact hS.2.1 q h1 h2, fun q hq => by
        rcases List.mem_append.mp hq with h | h
        · exact hS.2.2 q h
        · exact hL q h⟩ hl T' rfl X2
    exact ⟨t2, sg t2 a1, b1⟩
  · rw [h0] at hlt hz hk
    have hS2 : va_S A s.heap T'.heap (locs ++ Lc) := ⟨Nat.le_trans hS.1 (by rw [e1]; exact hz), fun q h1 h2 => by rw [e1, hk q (Nat.lt_of_lt_of_le h1 hS.1) h2]; exact hS.2.1 q h1 h2, fun q hq => by
        rcases List.mem_append.mp hq with h | h
        · exact hS.2.2 q h
        · exact hL q h⟩
    have ko := vx_out (p := p) (l := l) (e := e) (R := R) (s := s) (m := m) (args := args) (below := below) (meth := meth) (c := c) (H := T'.heap) (locs := locs ++ Lc) (cells := 1) (slots := 6) (Qc := tx_QR exo w D A ro σo) (XC := tx_XB exo w D A σ) (free := A) (ls := ls) (rest := rest) (pc := pc) (E := E) (ce := ce) (q := q) (mc := 1) (ms := 6) (fun x hx => absurd hx (fun h => hout x h)) hlk (by rw [e1]; exact hce) hcv hcl
      (fun t3 h3 _ => ⟨hex E hx, by rw [h3, e1]; exact Nat.lt_of_le_of_lt hS.1 hlt, by rw [h3, e1]; exact hPt, hS2.F h3⟩) hS2.2.2 (Nat.le_refl _) (Nat.le_refl _)
    obtain ⟨t2, a1, b1⟩ := ko T' rfl X'
    exact ⟨t2, sg.trans a1, b1⟩
/-- a normal end -/
theorem tx_ends {exo : Option String} {ro : Option Value} {σo : tg_Mem} {XC : String → State → State → Prop} (hx : exo = none) (kk : tg_G p l e R s m args below meth c D w A n 0 0 (MQ below (tg_PT w D A ro σo) args s 0 0 A) σ pc L st) : tg_G p l e R s m args below meth c D w A n 0 0 (vx_MQ below (tx_QR exo w D A ro σo) XC args s 1 6 A) σ pc L st := by
  intro H locs ls hP hS hl T hT X
  obtain ⟨t, a1, o, b1, b2, b3, L9, ⟨f1, f2, f3⟩, hL⟩ := kk H locs ls hP hS hl T hT X
  have hsz : t.heap.size = s.heap.size := Nat.le_antisymm (show t.heap.size ≤ s.heap.size + 0 from f3.2.2.1) f3.2.1
  exact ⟨t, a1, o, b1, b2, Or.inl ⟨⟨hx, hsz, b3⟩, L9, ⟨f1, f2, f3.mono (Nat.zero_le _) (Nat.zero_le _)⟩, hL⟩⟩
end TXR
theorem tx_good {X : String} {ic : Nat} {x : Cond} (h : ∀ w ∈ (vx_atS RX2 ic X tx_up).filter goodWord, w ∈ lw_tbl) : ∀ w ∈ (vx_atS RX2 ic X tx_up).filter goodWord, w ∈ x :: tw_G := fun w hw => tw_in (h w hw) (List.mem_filter.mp hw).2
def tx_B (X : String) : List Cond := [.castable X X, .declares (Bundle.initS "java/lang/RuntimeException"), .declares (Bundle.initS "java/lang/Exception"), .declares (Bundle.initS Bundle.tN)]
set_option maxRecDepth 100000 in
theorem tx_bI : ∀ w ∈ (vx_atS RX2 75 tx_I tx_up).filter (fun w => !goodWord w), w ∈ tx_B tx_I := by decide +kernel
set_option maxRecDepth 100000 in
theorem tx_aI : ∀ w ∈ (vx_atS RX2 75 tx_I tx_up).filter goodWord, w ∈ lw_tbl := by decide +kernel
set_option maxRecDepth 100000 in
theorem tx_oI : ∀ w ∈ vx_atS RX2 75 tx_I tx_up, vx_ot w = true := by decide +kernel
set_option maxRecDepth 100000 in
theorem tx_bJ : ∀ w ∈ (vx_atS RX2 44 tx_J tx_up).filter (fun w => !goodWord w), w ∈ tx_B tx_J := by decide +kernel
set_option maxRecDepth 100000 in
theorem tx_aJ : ∀ w ∈ (vx_atS RX2 44 tx_J tx_up).filter goodWord, w ∈ lw_tbl := by decide +kernel
set_option maxRecDepth 100000 in
theorem tx_oJ : ∀ w ∈ vx_atS RX2 44 tx_J tx_up, vx_ot w = true := by decide +kernel
set_option maxRecDepth 100000 in
theorem tx_bO : ∀ w ∈ (vx_atS RX2 111 tx_O tx_up).filter (fun w => !goodWord w), w ∈ tx_B tx_O := by decide +kernel
set_option maxRecDepth 100000 in
theorem tx_aO : ∀ w ∈ (vx_atS RX2 111 tx_O tx_up).filter goodWord, w ∈ lw_tbl := by decide +kernel
set_option maxRecDepth 100000 in
theorem tx_oO : ∀ w ∈ vx_atS RX2 111 tx_O tx_up, vx_ot w = true := by decide +kernel
set_option maxRecDepth 100000 in
theorem tx_lI : Cond.classLink RX2 71 tx_I ∈ lw_tbl := by decide +kernel
set_option maxRecDepth 100000 in
theorem tx_nI : Cond.initialized tx_I ∈ lw_tbl := by decide +kernel
set_option maxRecDepth 100000 in
theorem tx_lJ : Cond.classLink RX2 40 tx_J ∈ lw_tbl := by decide +kernel
set_option maxRecDepth 100000 in
theorem tx_nJ : Cond.initialized tx_J ∈ lw_tbl := by decide +kernel
set_option maxRecDepth 100000 in
theorem tx_lO : Cond.classLink RX2 107 tx_O ∈ lw_tbl := by decide +kernel
set_option maxRecDepth 100000 in
theorem tx_nO : Cond.initialized tx_O ∈ lw_tbl := by decide +kernel
/-- the words of a throw, at s -/
theorem tx_at {X : String} {ic : Nat} {x : Cond} {A : Nat → Prop} {s : State} {args : Array Value} (ha : ∀ w ∈ (vx_atS RX2 ic X tx_up).filter goodWord, w ∈ lw_tbl) (hb : ∀ w ∈ (vx_atS RX2 ic X tx_up).filter (fun w => !goodWord w), w ∈ tx_B X) (hX : X ∈ [tx_I, tx_J, tx_O]) (hs : ∀ w ∈ x :: tw_G, w.before args s = true) (hT : tx_TX A s) :
    ∀ w ∈ vx_atS RX2 ic X tx_up, w.before args s = true :=
  vx_hat (fun w hw => hs w (tx_good ha w hw)) hb (vx_c (va_Nw.use rfl (hT.1 X hX)) (vx_c (va_Nw.use rfl (hT.2.1 _ (List.mem_cons_self ..))) (vx_c (va_Nw.use rfl (hT.2.1 _ (List.mem_cons_of_mem _ (List.mem_cons_self ..)))) (vx_c (va_Nw.use rfl (hT.2.1 _ (List.mem_cons_of_mem _ (List.mem_cons_of_mem _ (List.mem_cons_self ..))))) vx_n))))
section TXT
variable {p : Program} {l : Launch} {e : Env} {R : Room} {s : State} {m : MethodId} {args : Array Value} {below : List Frame} {meth : Method} {c : Code} {D : va_G} {w : tg_Mem → va_W} {A : Nat → Prop} {n : Nat}
variable {cc : ByteArray} {σ : tg_Mem} {pc : Nat} {L : List (Nat × Value)} {st : List Value} {x : Cond}
/-- new X(text), thrown -/
theorem tx_throw {X text : String} {ik is ic : Nat} {exo : Option String} {ro : Option Value} {σo : tg_Mem} (S : CallFix p m c cc n s args (x :: tw_G) RX2) (hl : l.stackTraces = false) (hT : tx_TX A s) (hlk : meth.locks = false) (hout : ∀ x ∈ c.exceptionTable.toList, False)
    (hD : ∀ σ, va_D A (w σ)) (hX : X ∈ [tx_I, tx_J, tx_O]) (hfit : Bundle.fit X = true)
    (hk : Cond.classLink RX2 ik X ∈ lw_tbl) (hn : Cond.initialized X ∈ lw_tbl) (ha : ∀ w ∈ (vx_atS RX2 ic X tx_up).filter goodWord, w ∈ lw_tbl) (hb : ∀ w ∈ (vx_atS RX2 ic X tx_up).filter (fun w => !goodWord w), w ∈ tx_B X) (ho : ∀ w ∈ vx_atS RX2 ic X tx_up, vx_ot w = true)
    (hstr : (is, text) ∈ tx_str)
    (d0 : decode cc pc = .ok (.new ik, 3)) (d3 : decode cc (pc + 3) = .ok (.dup, 1)) (d4 : decode cc (pc + 4) = .ok (.ldc is, 2)) (d6 : decode cc (pc + 6) = .ok (.invokespecial ic, 3)) (d9 : decode cc (pc + 9) = .ok (.athrow, 1))
    (hRf : 6 ≤ R.frames) (hRl : (st.map fun v => v.category).sum + 82 ≤ R.locals) (hRc : 1 ≤ R.cells) (hRs : 6 ≤ R.slots) (hex : exo = some X) :
    tg_G p l e R s m args below meth c D w A n 0 0 (vx_MQ below (tx_QR exo w D A ro σo) (tx_XB exo w D A σ) args s 1 6 A) σ pc L st := by
  intro H locs ls hP hS hl9
  obtain ⟨a, hstr⟩ := hT.2.2.1 _ hstr
  refine vg_throwS (sa := a) S.1 S.2.1 hl S.2.2.2.1 hfit (by decide +kernel) (S.2.2.2.2 _ (tw_in hk rfl)) (S.2.2.2.2 _ (tw_in hn rfl)) hstr (tx_at ha hb hX S.2.2.2.2 hT) ?_ hT.2.2.2.1 hT.2.2.2.2 hS (hl9.1.trans S.2.2.1.symm) d0 d3 d4 d6 d9 (fun x hx => absurd hx (fun h => hout x h)) hRf hRl hRc hRs hlk ?_ hS.2.2 (Nat.le_refl _) (Nat.le_refl _)
  · intro v hv
    rcases List.mem_cons.mp hv with h | h
    · rw [h]; rfl
    · rcases List.mem_cons.mp h with h | h
      · rw [h]; rfl
      · exact ho v h
  · intro t ht hz hk9
    refine ⟨hex, Nat.lt_of_le_of_lt hS.1 hz, hP.kept (fun k q hq => hk9 _ (vx_lt hP hq)), Nat.le_trans hS.1 (Nat.le_of_lt hz), fun q h1 h2 => ?_⟩
    rw [hk9 q (Nat.lt_of_lt_of_le h1 hS.1)]
    exact hS.2.1 q h1 h2
end TXT
/-- a throwing method's contract out of the walk of its body -/
theorem tx_met {l : Launch} {y : MethodName} {ws ws' : List Cond} {cc : ByteArray} {maxL fr : Nat} {ret : Option FieldType} {w : tg_Mem → va_W} {tys : List (ClassId × FieldType)} {nl : List (String × Nat × MethodName × String)} {A : Nat → Prop} {D : va_G} {As : List Value} {σ σ' : tg_Mem} {ex : Option String} {r : Option Value} {own : String} (hy : plainName y.cls = true) (hown : y.cls = own) (hw : ws = Cond.code y cc maxL ret :: ws') (hlen : (lg_sl As).length ≤ maxL)
    (body : ∀ (p : Program) (e : Env) (s : State) (m : MethodId) (below : List Frame) (meth : Method) (c : Code), CallFix p m c cc maxL s As.toArray ws own → va_K D vwCl tys s → tg_NU nl s → tx_TX A s → meth.sig.returnType = ret → meth.locks = false → (∀ x ∈ c.exceptionTable.toList, False) →
      tg_G p l e (tx_rm fr) s m As.toArray below meth c D w A maxL 0 0 (vx_MQ below (tx_QR ex w D A r σ') (tx_XB ex w D A σ) As.toArray s 1 6 A) σ 0 (lv_args 0 As) []) : tx_CT l y ws (tx_rm fr) w tys nl A D As σ ex r σ' := by
  refine vx_ofW (cc := cc) (maxL := maxL) (ret := ret) hy hw ?_
  intro p e s m args below meth c s₁ B hml hh hv
  obtain ⟨rfl, hP, hK, hN, hT⟩ := hv
  rw [lg_entry_eq]
  exact body p e s m below meth c ⟨B.exec, B.bytes, hml, by rw [← hown]; exact findClass_of_methodNamed B.named, atoms_spec (ws := ws) B.pre⟩ hK hN hT B.returns B.notSynchronized hh s.heap [] _ hP va_S.rf (lv_entry As hlen)
section TXC
variable {p : Program} {l : Launch} {e : Env} {R : Room} {s : State} {m : MethodId} {args : Array Value} {below : List Frame} {meth : Method} {c : Code} {D : va_G} {w : tg_Mem → va_W} {A : Nat → Prop} {n : Nat}
variable {cc : ByteArray} {Ts : List Cond} {own : String} {σ : tg_Mem} {pc : Nat} {L : List (Nat × Value)} {st : List Value}
variable {tys : List (ClassId × FieldType)} {nl : List (String × Nat × MethodName × String)} {y : MethodName} {bytes : ByteArray} {maxL index : Nat} {ret : Option FieldType} {ws ws' : List Cond} {fr : Nat}
theorem tx_preV {H : Heap} {locs : List Loc} {a q0 ci : Nat} {q : vw_C} {fs : List Value} {As : List Value} (hK : va_K D vwCl tys s) (hN : tg_NU nl s) (hX : tx_TX A s) (hS : va_S A s.heap H locs) (hP : va_P D vwCl (w σ) H) (hc : vwCl[ci]? = some q) (he : (w σ)[q0]? = some (a, .inr (ci, fs))) : PreV s H q.1 a (tx_Pre w D tys nl A (.ref a :: As) σ) As :=
  ⟨tx_blind, va_recv hK hP hc he, fun U hU hW => ⟨rfl, by rw [hU]; exact hP, va_K.moved hW.alike hK, hN.warm hW, hX.call hW hU hS⟩⟩
theorem tx_preS {H : Heap} {locs : List Loc} {As : List Value} (hK : va_K D vwCl tys s) (hN : tg_NU nl s) (hX : tx_TX A s) (hS : va_S A s.heap H locs) (hP : va_P D vwCl (w σ) H) : PreS s H (tx_Pre w D tys nl A As σ) As :=
  ⟨tx_blind, fun U hU hW => ⟨rfl, by rw [hU]; exact hP, va_K.moved hW.alike hK, hN.warm hW, hX.call hW hU hS⟩⟩
variable {exo : Option String} {ro : Option Value} {σo : tg_Mem}
theorem tx_callV {nA : Nat} {q : vw_C} {fs As rest : List Value} {a ci : Nat} {r : Option Value} {ex : Option String} {σ2 : tg_Mem} (S : CallFix p m c cc n s args Ts own) (hK : va_K D vwCl tys s) (hN : tg_NU nl s) (hX : tx_TX A s) (hlk : meth.locks = false) (hout : ∀ x ∈ c.exceptionTable.toList, False) (hM : tx_CT l y ws (tx_rm fr) w tys nl A D (.ref a :: As) σ ex r σ2) (q0 : Nat) (he : (w σ)[q0]? = some (a, .inr (ci, fs))) (hc : vwCl[ci]? = some q)
    (hT : GoodIn Ts (wsV own index q.1 y ws)) (hw : ws = Cond.code y bytes maxL ret :: ws') (hd : y.cls = q.1 ∧ y.cls ≠ "java/lang/invoke/MethodHandle" ∧ y.cls ≠ "java/lang/invoke/VarHandle" ∧ (parseMethodDescriptor y.desc).map (fun d => d.parameters.length) = some nA) (hR : fr + 1 ≤ R.frames ∧ 8 + (maxL + 11) + 28 * fr ≤ R.locals)
    (hnA : As.length = nA) (hst : st = As.reverse ++ .ref a :: rest) (hcat : (rest.map fun v => v.category).sum ≤ 8) (d : decode cc pc = .ok (.invokevirtual index, 3)) (hf : 1 ≤ R.cells ∧ 6 ≤ R.slots) (hex : ∀ E, ex = some E → exo = some E)
    (kk : ex = none → tg_G p l e R s m args below meth c D w A n 0 0 (vx_MQ below (tx_QR exo w D A ro σo) (tx_XB exo w D A σ) args s 1 6 A) σ2 (pc + 3) L (r.toList ++ rest)) : tg_G p l e R s m args below meth c D w A n 0 0 (vx_MQ below (tx_QR exo w D A ro σo) (tx_XB exo w D A σ) args s 1 6 A) σ pc L st :=
  tx_after hlk hout (fun H locs ls hP hS hl => vx_runV (As := As) (rest := rest) S hM (cwV nA S.2.2.2.2 hT hw rfl rfl hd hR) (tx_preV hK hN hX hS hP hc he) rfl hnA hl.1 hst (lv_room hcat) d hf) hex kk
theorem tx_callS {nA : Nat} {As rest : List Value} {r : Option Value} {ex : Option String} {σ2 : tg_Mem} (S : CallFix p m c cc n s args Ts own) (hK : va_K D vwCl tys s) (hN : tg_NU nl s) (hX : tx_TX A s) (hlk : meth.locks = false) (hout : ∀ x ∈ c.exceptionTable.toList, False) (hM : tx_CT l y ws (tx_rm fr) w tys nl A D As σ ex r σ2)
    (hT : GoodIn Ts (va_wsS own index y ws)) (hw : ws = Cond.code y bytes maxL ret :: ws') (hd : y.cls ≠ "java/lang/invoke/MethodHandle" ∧ y.cls ≠ "java/lang/invoke/VarHandle" ∧ (parseMethodDescriptor y.desc).map (fun d => d.parameters.length) = some nA) (hR : fr + 1 ≤ R.frames ∧ 8 + (maxL + 11) + 28 * fr ≤ R.locals)
    (hnA : As.length = nA) (hst : st = As.reverse ++ rest) (hcat : (rest.map fun v => v.category).sum ≤ 8) (d : decode cc pc = .ok (.invokestatic index, 3)) (hf : 1 ≤ R.cells ∧ 6 ≤ R.slots) (hex : ∀ E, ex = some E → exo = some E)
    (kk : ex = none → tg_G p l e R s m args below meth c D w A n 0 0 (vx_MQ below (tx_QR exo w D A ro σo) (tx_XB exo w D A σ) args s 1 6 A) σ2 (pc + 3) L (r.toList ++ rest)) : tg_G p l e R s m args below meth c D w A n 0 0 (vx_MQ below (tx_QR exo w D A ro σo) (tx_XB exo w D A σ) args s 1 6 A) σ pc L st :=
  tx_after hlk hout (fun H locs ls hP hS hl => vx_runS (As := As) (rest := rest) S hM (va_cwS nA S.2.2.2.2 hT hw rfl rfl hd hR) (tx_preS hK hN hX hS hP) rfl hnA hl.1 hst (lv_room hcat) d hf) hex kk
end TXC
