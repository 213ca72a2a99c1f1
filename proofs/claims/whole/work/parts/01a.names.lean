/-! ===== BEGIN words of one list among another's, by their places ===== -/
theorem goodIn_r {big : List Cond} (ws : List Cond) (ps : List Nat) (hp : ws = ps.filterMap (fun i => big[i]?)) (h : ws.all goodWord = true) : GoodIn big ws := by
  intro w hw
  have h1 := List.all_eq_true.mp h w hw
  rw [hp] at hw
  obtain ⟨i, -, hi⟩ := List.mem_filterMap.mp hw
  have hm : w ∈ big := by first | exact List.mem_of_getElem? hi | exact List.getElem?_mem hi
  exact ⟨hm, good_of_word h1⟩
theorem goodIn_app {big a b : List Cond} (ha : GoodIn big a) (hb : GoodIn big b) : GoodIn big (a ++ b) := fun w h => (List.mem_append.mp h).elim (ha w) (hb w)
theorem goodIn_ca {big a b : List Cond} {c : Cond} (ha : GoodIn big (c :: a)) (hb : GoodIn big b) : GoodIn big (c :: (a ++ b)) := fun w h => (List.mem_cons.mp h).elim (fun e => ha w (List.mem_cons.mpr (Or.inl e))) (fun h => (List.mem_append.mp h).elim (fun h => ha w (List.mem_cons.mpr (Or.inr h))) (hb w))
theorem goodIn_sub {big ws : List Cond} (hm : ∀ w ∈ ws, w ∈ big) (h : ws.all goodWord = true) : GoodIn big ws := fun w hw => ⟨hm w hw, good_of_word (List.all_eq_true.mp h w hw)⟩
/-! ===== END ===== -/

/-! ===== BEGIN exceptions that leave a method, and their catching by the caller (launches without stack traces) ===== -/
section VXA
/-! The laws vx_back, vx_callV, vx_callS, vx_callSW, vx_throw0, vx_throwS follow proofs of the library, with one case more: JvmDerived/Free/Laws.lean (Back.of_free), Shelf42/LK1.lean (callV, callS), Shelf/KitTraced.lean (throwNew0V, throwNewS). -/
/-- where a method has thrown q: the class by its name, the cell, what was written, the world -/
def vx_T (XC : String → State → State → Prop) (st : State) (q : Addr) (t : State) (mc ms : Nat) (free : Addr → Prop) : Prop :=
  ∃ (E : String) (ce : Cell) (L : List Loc), XC E st t ∧ t.heap[q]? = some ce ∧ ce.vm = .none ∧ st.vm.findClass E = some ce.cls ∧ st.WarmedH t.vm ∧ st.sameButNew ({ t with vm := st.vm } : State) L mc ms ∧ ∀ z ∈ L, free z.base
def vx_Q (Qc : Array Value → State → Outcome → State → Prop) (XC : String → State → State → Prop) (mc ms : Nat) (free : Addr → Prop) : Array Value → State → Outcome → State → Prop := fun a st o t =>
  (Qc a st o t ∧ ∃ L, FrameEnd st o t L mc ms ∧ ∀ q ∈ L, free q.base) ∨ ∃ q, o = .threw q ∧ vx_T XC st q t mc ms free
/-- a callee that returns or throws -/
def vx_Met (l : Launch) (y : MethodName) (ws : List Cond) (rm : Room) (Pc : Array Value → State → Prop) (Qc : Array Value → State → Outcome → State → Prop) (XC : String → State → State → Prop) (mc ms : Nat) (free : Addr → Prop) : Prop :=
  MetFree l y (headSpec ws rm) Pc (fun _ _ _ _ _ => True) (vx_Q Qc XC mc ms free)
def vx_Post (XC : String → State → State → Prop) (mc ms : Nat) (free : Addr → Prop) : Pt → Array Value → Addr → Pt → Prop := fun A a q B =>
  ∃ (g : JFrame) (mk : MethodId) (t : State) (L : List Loc) (E : String) (ce : Cell), B.U.heap = t.heap ∧ B.U.vm = t.vm ∧ XC E (A.U.calling g mk a) t ∧ t.heap[q]? = some ce ∧ ce.vm = .none ∧ A.U.vm.findClass E = some ce.cls ∧ B.locs = A.locs ++ L ∧ (∀ z ∈ L, free z.base) ∧ B.cells = A.cells + mc ∧ B.slots = A.slots + ms
def vx_Back (l : Launch) (R : Room) (p : Program) (e : Env) (below : List Frame) (s : State) (sargs : Array Value) (y : MethodName) (len W9 : Nat)
    (Pre : Pt → Array Value → Prop) (Post : Pt → Array Value → Option Value → Pt → Prop) (PostX : Pt → Array Value → Addr → Pt → Prop) : Prop :=
  ∀ (m : MethodId) (meth : Method) (c : Code) (A : Pt) (g : JFrame) (ig : Instr) (mk : MethodId) (a : Array Value),
    Stand p l e R s m sargs below meth c A.U A.locs A.cells A.slots → g.method = m → g.locals.size = c.maxLocals → decode c.code g.pc = .ok (ig, len) →
    2 * g.monitorRoom + (g.stack.map fun v => v.category).sum ≤ W9 → A.U.methodNamed? y = some mk → Pre A a →
    (∃ (v : Option Value) (B : Pt), Stand p l e R s m sargs below meth c B.U B.locs B.cells B.slots ∧ Post A a v B ∧
      Steps p.tables e below (doInvoke e (A.U.setTop g) [] mk a).1 (B.U.setTop { g with pc := g.pc + len, stack := v.toList ++ g.stack })) ∨
    (∃ (q : Addr) (B : Pt), Stand p l e R s m sargs below meth c B.U B.locs B.cells B.slots ∧ PostX A a q B ∧
      Steps p.tables e below (doInvoke e (A.U.setTop g) [] mk a).1 ((B.U.setTop g).pushFrame (.throwing q)))
section Payer
variable {l : Launch} {R : Room} {p : Program} {e : Env} {below : List Frame} {s : State} {sargs : Array Value} {y : MethodName} {len W9 : Nat}
theorem vx_back {ws : List Cond} {rm : Room} {Pc : Array Value → State → Prop} {Qc : Array Value → State → Outcome → State → Prop} {XC : String → State → State → Prop} {mc ms : Nat} {free : Addr → Prop} {bytes : ByteArray} {maxL : Nat} {ret : Option FieldType}
    (hM : vx_Met l y ws rm Pc Qc XC mc ms free) (hblind : FrameBlind Pc) (hrc : rm.cells = mc) (hrs : rm.slots = ms)
    (hframes : rm.frames + 1 ≤ R.frames) (hlocals : W9 + (maxL + 11) + rm.locals ≤ R.locals)
    (hws : ∀ w ∈ ws, ∀ a' U, s.WarmedH U.vm → w.before a' U = true) (hcode : Cond.code y bytes maxL ret ∈ ws) (hinit : ∀ a' U, s.WarmedH U.vm → (Cond.initialized y.cls).before a' U = true) :
    vx_Back l R p e below s sargs y len W9 (PreOf R mc ms Pc) (PostOf Qc mc ms free) (vx_Post XC mc ms free) := by
  intro m meth c A g ig mk a X hg hsize hdg hW hn hp
  have h1 : (headSpec ws rm).pre.before a A.U = true := atoms_intro fun w hw => hws w hw _ _ X.warmed
  have h2 : (Cond.code y bytes maxL ret).before a A.U = true := hws _ hcode _ _ X.warmed
  have h3 : (Cond.initialized y.cls).before a A.U = true := hinit _ _ X.warmed
  have h4 : A.cells + (headSpec ws rm).room.cells ≤ R.cells := by rw [show (headSpec ws rm).room.cells = mc from hrc]; exact hp.1
  have h5 : A.slots + (headSpec ws rm).room.slots ≤ R.slots := by rw [show (headSpec ws rm).room.slots = ms from hrs]; exact hp.2.1
  have hPc : Pc a (A.U.calling g mk a) := hblind _ _ _ _ hp.2.2
  obtain ⟨U, Ls, c0, s0⟩ := A
  dsimp only [Pt.U, Pt.locs, Pt.cells, Pt.slots] at h1 h2 h3 h4 h5 X hn hPc ⊢
  obtain ⟨methY, cY, hmY, hcY, -, hlY, -, -, -, -⟩ := Cond.code_spec hn h2
  obtain ⟨kY, hkY, -⟩ := className_of_methodNamed hn
  have hinitY : kY.init = .initialized := Cond.initialized_spec (findClass_of_methodNamed hn) hkY h3
  have h : At U g.method c below := by rw [hg]; exact X.here
  have hlocals9 : W9 + (maxL + 11) + (headSpec ws rm).room.locals ≤ R.locals := hlocals
  have happ : (headSpec ws rm).appliesLoose y e.platform (U.calling g mk a) = true :=
    Spec.appliesLoose_calling (g := g) h hdg hn hkY hinitY
      (X.room_calling (g := g) (R' := (headSpec ws rm).room) hsize hmY hcY hframes (by rw [hlY]; omega) h4 h5) h1
  obtain ⟨mid, hmid⟩ := h.above
  have hfr : (U.setTop g).frames = (.java g :: mid) ++ below := by rw [State.frames_setTop' g h.top, hmid]; rfl
  obtain ⟨o, s₂, hsteps, -, hend, hq⟩ := Steps.callFree hM p X.admits X.cas X.clock (acts := []) hfr happ hPc trivial
  have hq' : vx_Q Qc XC mc ms free a (U.calling g mk a) o s₂ := hq
  rw [State.frames_setTop' g h.top] at hend
  obtain ⟨g₀, hg0⟩ := Option.isSome_iff_exists.mp h.top
  obtain ⟨r, hr⟩ := State.topJava?_eq_some.mp hg0
  have hr' : (({ U with heap := s₂.heap, slotsUsed := s₂.slotsUsed } : State).setVm s₂.vm).frames = .java g₀ :: r := hr
  rcases hq' with ⟨hqc, L, hfe, hL⟩ | ⟨q, rfl, E, ce, L, hx, hce, hcv, hcl, hW₂, hsm, hL⟩
  · obtain ⟨⟨v, rfl⟩, hW₂, e2, q2, q3, q4, q5, q6⟩ := id hfe
    have e3 : s₂ = ({ (U.calling g mk a).setFrames s₂.frames with heap := s₂.heap, slotsUsed := s₂.slotsUsed } : State).setVm s₂.vm := by
      have : s₂ = ({ s₂ with vm := (U.calling g mk a).vm } : State).setVm s₂.vm := rfl
      rw [e2] at this
      exact this
    obtain ⟨c₂, i₂, len₂, hc₂, hd₂, hf₂⟩ := hend
    have hW' : U.WarmedH s₂.vm := hW₂
    have hcc : c₂ = c := by
      have h1 : s₂.code? g.method = U.code? g.method := by
        rw [State.code?_eq, State.code?_eq, hW'.alike.method?]
      exact Option.some.inj (hc₂.symm.trans (h1.trans h.code))
    subst hcc
    have hlen : len₂ = len := by rw [hdg] at hd₂; cases hd₂; rfl
    subst hlen
    have hs₂ : s₂ = (({ U with heap := s₂.heap, slotsUsed := s₂.slotsUsed } : State).setVm s₂.vm).setTop { g with pc := g.pc + len₂, stack := v.toList ++ g.stack } := by
      refine e3.trans ?_
      rw [hf₂, State.calling_eq h.top, State.setFrames_setFrames, State.setTop_of_frames _ hr', hr]
      rfl
    have hsame : U.sameButNew ({ U with heap := s₂.heap, slotsUsed := s₂.slotsUsed } : State) L mc ms := by
      refine ⟨?_, q2, q3, q4, q5, q6⟩
      obtain ⟨t, ht, -⟩ := State.frames_cons hr
      show ({ U with heap := s₂.heap, slotsUsed := s₂.slotsUsed } : State) = { U.setFrames U.frames with heap := s₂.heap, slotsUsed := s₂.slotsUsed }
      rw [State.setFrames_self ht]
    subst hg
    refine Or.inl ⟨v, ⟨(({ U with heap := s₂.heap, slotsUsed := s₂.slotsUsed } : State).setVm s₂.vm), Ls ++ L, c0 + mc, s0 + ms⟩,
      ⟨X.admits, X.cas, X.clock, X.frames, X.room, X.hears, X.method, X.code, (X.here.setHeapUsed s₂.heap s₂.slotsUsed).setVm hW'.alike, X.tail, State.WarmedH.trans X.warmed hW', X.limits, X.bytes, X.same.trans (hsame.setVm s.vm)⟩,
      ⟨g, mk, s₂, L, rfl, rfl, hqc, rfl, hL, rfl, rfl⟩, ?_⟩
    show Steps p.tables e below _ ((({ U with heap := s₂.heap, slotsUsed := s₂.slotsUsed } : State).setVm s₂.vm).setTop { g with pc := g.pc + len₂, stack := v.toList ++ g.stack })
    rw [← hs₂]
    exact hsteps
  · obtain ⟨e2, q2, q3, q4, q5, q6⟩ := id hsm
    have e3 : s₂ = ({ (U.calling g mk a).setFrames s₂.frames with heap := s₂.heap, slotsUsed := s₂.slotsUsed } : State).setVm s₂.vm := by
      have : s₂ = ({ s₂ with vm := (U.calling g mk a).vm } : State).setVm s₂.vm := rfl
      rw [e2] at this
      exact this
    have hf₂ : s₂.frames = .throwing q :: .java g :: U.frames.tail := hend
    have hW' : U.WarmedH s₂.vm := hW₂
    have hs₂ : s₂ = ((({ U with heap := s₂.heap, slotsUsed := s₂.slotsUsed } : State).setVm s₂.vm).setTop g).pushFrame (.throwing q) := by
      refine e3.trans ?_
      rw [hf₂, State.calling_eq h.top, State.setFrames_setFrames, State.pushFrame, State.frames_setTop _ hr', State.setTop_of_frames _ hr', State.setFrames_setFrames, hr]
      rfl
    have hsame : U.sameButNew ({ U with heap := s₂.heap, slotsUsed := s₂.slotsUsed } : State) L mc ms := by
      refine ⟨?_, q2, q3, q4, q5, q6⟩
      obtain ⟨t, ht, -⟩ := State.frames_cons hr
      show ({ U with heap := s₂.heap, slotsUsed := s₂.slotsUsed } : State) = { U.setFrames U.frames with heap := s₂.heap, slotsUsed := s₂.slotsUsed }
      rw [State.setFrames_self ht]
    subst hg
    refine Or.inr ⟨q, ⟨(({ U with heap := s₂.heap, slotsUsed := s₂.slotsUsed } : State).setVm s₂.vm), Ls ++ L, c0 + mc, s0 + ms⟩,
      ⟨X.admits, X.cas, X.clock, X.frames, X.room, X.hears, X.method, X.code, (X.here.setHeapUsed s₂.heap s₂.slotsUsed).setVm hW'.alike, X.tail, State.WarmedH.trans X.warmed hW', X.limits, X.bytes, X.same.trans (hsame.setVm s.vm)⟩,
      ⟨g, mk, s₂, L, E, ce, rfl, rfl, hx, hce, hcv, hcl, rfl, hL, rfl, rfl⟩, ?_⟩
    show Steps p.tables e below _ (((({ U with heap := s₂.heap, slotsUsed := s₂.slotsUsed } : State).setVm s₂.vm).setTop g).pushFrame (.throwing q))
    rw [← hs₂]
    exact hsteps
end Payer
section Calls
variable {p : Program} {l : Launch} {e : Env} {R : Room} {s : State} {m : MethodId} {args : Array Value} {below : List Frame} {meth : Method} {c : Code} {T : State} {locs : List Loc} {cells slots : Nat}
theorem vx_callV (X : Stand p l e R s m args below meth c T locs cells slots) (hexec : p.tables.exec = Jvm.exec) {own C : String} {index : Nat} {y : MethodName} {bytes : ByteArray} {maxL : Nat} {ret : Option FieldType}
    (hown : s.vm.findClass own = some m.cls) (hlink : (Cond.methodLink own index y).before args s = true) (hinst : (Cond.instanceMethod y).before args s = true) (hsel : (Cond.selects C y y).before args s = true)
    (hcode : (Cond.code y bytes maxL ret).before args s = true) (hy : y.cls ≠ "java/lang/invoke/MethodHandle" ∧ y.cls ≠ "java/lang/invoke/VarHandle")
    {W9 : Nat} {Pre : Pt → Array Value → Prop} {Post : Pt → Array Value → Option Value → Pt → Prop} {PostX : Pt → Array Value → Addr → Pt → Prop} (hK : vx_Back l R p e below s args y 3 W9 Pre Post PostX)
    {b : Addr} {cellB : Cell} (hcell : T.heap[b]? = some cellB) (hobj : cellB.vm.isStatics = false) (hcls : s.vm.findClass C = some cellB.cls)
    {g : JFrame} (hg : g.method = m) (hsize : g.locals.size = c.maxLocals) {argsL rest : List Value} (hlen : ∀ sig, parseMethodDescriptor y.desc = some sig → argsL.length = sig.parameters.length)
    (hstack : g.stack = argsL.reverse ++ .ref b :: rest) (hW : 2 * g.monitorRoom + (rest.map fun v => v.category).sum ≤ W9) (hdg : decode c.code g.pc = .ok (.invokevirtual index, 3))
    (hpre : ∀ vm₁, s.WarmedH vm₁ → Pre ⟨T.setVm vm₁, locs, cells, slots⟩ (Value.ref b :: argsL).toArray) :
    (∃ (v : Option Value) (vm₁ : Vm) (B : Pt), s.WarmedH vm₁ ∧ Stand p l e R s m args below meth c B.U B.locs B.cells B.slots ∧ Post ⟨T.setVm vm₁, locs, cells, slots⟩ (Value.ref b :: argsL).toArray v B ∧
      ∀ target, Steps p.tables e below (B.U.setTop { g with pc := g.pc + 3, stack := v.toList ++ rest }) target → Steps p.tables e below (T.setTop g) target) ∨
    (∃ (q : Addr) (vm₁ : Vm) (B : Pt), s.WarmedH vm₁ ∧ Stand p l e R s m args below meth c B.U B.locs B.cells B.slots ∧ PostX ⟨T.setVm vm₁, locs, cells, slots⟩ (Value.ref b :: argsL).toArray q B ∧
      Steps p.tables e below (T.setTop g) ((B.U.setTop { g with stack := rest }).pushFrame (.throwing q))) := by
  obtain ⟨mk, methM, hnamed, hmethM, hstM, habM⟩ := Cond.instanceMethod_spec hinst
  obtain ⟨methM', cM, hmethM', -, -, -, -, -, -, hsigM⟩ := Cond.code_spec hnamed hcode
  cases hmethM.symm.trans hmethM'
  obtain ⟨c2, r2, m2, q1, q2, q3, q4, kP, hkP, hkPi⟩ := Cond.selects_spec hsel
  cases hcls.symm.trans q1
  cases (State.methodFound?_of_named hnamed hy).symm.trans q2
  cases hnamed.symm.trans q3
  have hselP : selectMethod e.platform s.vm cellB.cls mk = .method mk := by rw [Launch.admits_selectMethod X.admits]; exact q4
  obtain ⟨vm₁, X₁, hstep₁⟩ := X.invokevirtual hexec hown hlink hnamed hmethM hstM hkP hkPi hy (a := b) (cell := cellB) hcell
    (fun z h => by rw [h] at hobj; cases hobj) hselP hmethM habM hkP hkPi (g := g) hg (argsL := argsL) (rest := rest) (hlen _ hsigM) hstack hdg
  rcases hK m meth c ⟨T.setVm vm₁, locs, cells, slots⟩ { g with stack := rest } (.invokevirtual index) mk (Value.ref b :: argsL).toArray X₁ hg hsize hdg hW (X₁.named hnamed) (hpre vm₁ X₁.warmed) with ⟨v, B, X', hpost, hsteps⟩ | ⟨q, B, X', hpost, hsteps⟩
  · exact Or.inl ⟨v, vm₁, B, X₁.warmed, X', hpost, fun target h => hstep₁ _ fun acts => by rw [doInvoke_state]; exact hsteps.trans h⟩
  · exact Or.inr ⟨q, vm₁, B, X₁.warmed, X', hpost, hstep₁ _ fun acts => by rw [doInvoke_state]; exact hsteps⟩
theorem vx_callS (X : Stand p l e R s m args below meth c T locs cells slots) (hexec : p.tables.exec = Jvm.exec) {own : String} {index : Nat} {y : MethodName} {bytes : ByteArray} {maxL : Nat} {ret : Option FieldType}
    (hown : s.vm.findClass own = some m.cls) (hlink : (Cond.methodLink own index y).before args s = true) (hstat : (Cond.static y).before args s = true) (hinit : (Cond.initialized y.cls).before args s = true)
    (hcode : (Cond.code y bytes maxL ret).before args s = true) (hy : y.cls ≠ "java/lang/invoke/MethodHandle" ∧ y.cls ≠ "java/lang/invoke/VarHandle")
    {W9 : Nat} {Pre : Pt → Array Value → Prop} {Post : Pt → Array Value → Option Value → Pt → Prop} {PostX : Pt → Array Value → Addr → Pt → Prop} (hK : vx_Back l R p e below s args y 3 W9 Pre Post PostX)
    {g : JFrame} (hg : g.method = m) (hsize : g.locals.size = c.maxLocals) {argsL rest : List Value} (hlen : ∀ sig, parseMethodDescriptor y.desc = some sig → argsL.length = sig.parameters.length)
    (hstack : g.stack = argsL.reverse ++ rest) (hW : 2 * g.monitorRoom + (rest.map fun v => v.category).sum ≤ W9) (hdg : decode c.code g.pc = .ok (.invokestatic index, 3))
    (hpre : ∀ vm₁, s.WarmedH vm₁ → Pre ⟨T.setVm vm₁, locs, cells, slots⟩ argsL.toArray) :
    (∃ (v : Option Value) (vm₁ : Vm) (B : Pt), s.WarmedH vm₁ ∧ Stand p l e R s m args below meth c B.U B.locs B.cells B.slots ∧ Post ⟨T.setVm vm₁, locs, cells, slots⟩ argsL.toArray v B ∧
      ∀ target, Steps p.tables e below (B.U.setTop { g with pc := g.pc + 3, stack := v.toList ++ rest }) target → Steps p.tables e below (T.setTop g) target) ∨
    (∃ (q : Addr) (vm₁ : Vm) (B : Pt), s.WarmedH vm₁ ∧ Stand p l e R s m args below meth c B.U B.locs B.cells B.slots ∧ PostX ⟨T.setVm vm₁, locs, cells, slots⟩ argsL.toArray q B ∧
      Steps p.tables e below (T.setTop g) ((B.U.setTop { g with stack := rest }).pushFrame (.throwing q))) := by
  obtain ⟨mk, hnamed⟩ := Cond.code_named hcode
  obtain ⟨methM, cM, hmethM, -, -, -, -, -, -, hsigM⟩ := Cond.code_spec hnamed hcode
  have hstatic : methM.isStatic = true := Cond.static_spec hnamed hmethM hstat
  obtain ⟨kP, hkP, -⟩ := className_of_methodNamed hnamed
  have hinitP : kP.init = .initialized := Cond.initialized_spec (findClass_of_methodNamed hnamed) hkP hinit
  obtain ⟨vm₁, X₁, hstep₁⟩ := X.invokestatic hexec hown hlink hnamed hmethM hstatic hkP hinitP hy (g := g) hg (argsL := argsL) (rest := rest) (hlen _ hsigM) hstack hdg
  rcases hK m meth c ⟨T.setVm vm₁, locs, cells, slots⟩ { g with stack := rest } (.invokestatic index) mk argsL.toArray X₁ hg hsize hdg hW (X₁.named hnamed) (hpre vm₁ X₁.warmed) with ⟨v, B, X', hpost, hsteps⟩ | ⟨q, B, X', hpost, hsteps⟩
  · exact Or.inl ⟨v, vm₁, B, X₁.warmed, X', hpost, fun target h => hstep₁ _ fun acts => by rw [doInvoke_state]; exact hsteps.trans h⟩
  · exact Or.inr ⟨q, vm₁, B, X₁.warmed, X', hpost, hstep₁ _ fun acts => by rw [doInvoke_state]; exact hsteps⟩
end Calls
theorem vx_cls {s : State} {T : State} {vm₁ : Vm} {E : String} {k : ClassId} (hW : s.WarmedH vm₁) (h : (T.setVm vm₁).vm.findClass E = some k) : s.vm.findClass E = some k := by
  have h1 : vm₁.findClass E = some k := h
  rw [hW.alike.findClass] at h1
  exact h1
/-- the method's frame g, with q thrown over it -/
def vx_W (p : Program) (l : Launch) (e : Env) (R : Room) (s : State) (m : MethodId) (args : Array Value) (below : List Frame) (meth : Method) (c : Code) (H : Heap) (locs : List Loc) (cells slots : Nat) (Q : State → Prop) (g : JFrame) (q : Addr) : Prop :=
  ∀ T : State, T.heap = H → Stand p l e R s m args below meth c T locs cells slots → ∃ t, Steps p.tables e below ((T.setTop g).pushFrame (.throwing q)) t ∧ Q t
def vx_Run (p : Program) (l : Launch) (e : Env) (R : Room) (s : State) (m : MethodId) (args : Array Value) (below : List Frame) (meth : Method) (c : Code) (H : Heap) (locs : List Loc) (cells slots mc ms : Nat) (g : JFrame) (rest : List Value) (Qa : State → Outcome → State → Prop) (XC : String → State → State → Prop) (free : Addr → Prop) : Prop :=
  ∀ T : State, T.heap = H → Stand p l e R s m args below meth c T locs cells slots →
    (∃ (v : Option Value) (st₀ t T' : State) (L : List Loc), st₀.heap = H ∧ Stand p l e R s m args below meth c T' (locs ++ L) (cells + mc) (slots + ms) ∧ (∀ q ∈ L, free q.base) ∧ T'.heap = t.heap ∧ T'.vm = t.vm ∧ Qa st₀ (.returned v) t ∧
      Goes p e below T g T' { g with pc := g.pc + 3, stack := v.toList ++ rest }) ∨
    (∃ (q : Addr) (st₀ t T' : State) (L : List Loc) (E : String) (ce : Cell), st₀.heap = H ∧ Stand p l e R s m args below meth c T' (locs ++ L) (cells + mc) (slots + ms) ∧ (∀ z ∈ L, free z.base) ∧ T'.heap = t.heap ∧ T'.vm = t.vm ∧ XC E st₀ t ∧ t.heap[q]? = some ce ∧ ce.vm = .none ∧ s.vm.findClass E = some ce.cls ∧
      Steps p.tables e below (T.setTop g) ((T'.setTop { g with stack := rest }).pushFrame (.throwing q)))
def vx_X {S : Type} (px : S → Prop) (B : String → S → State → Prop) (A : Nat → Prop) : String → State → State → Prop := fun E st t => ∃ u : S, px u ∧ B E u t ∧ va_F A st t
section Runs
variable {p : Program} {l : Launch} {e : Env} {R : Room} {s : State} {m : MethodId} {args : Array Value} {below : List Frame} {meth : Method} {c : Code} {H : Heap} {locs : List Loc} {cells slots : Nat}
variable {y : MethodName} {bytes cc : ByteArray} {maxL nL mc ms n index : Nat} {ret : Option FieldType} {ws : List Cond} {rm : Room} {Pc : Array Value → State → Prop} {Qc : Array Value → State → Outcome → State → Prop} {XC : String → State → State → Prop} {free : Addr → Prop} {Ts : List Cond} {own C : String} {b : Addr} {As rest : List Value} {g : JFrame}
theorem vx_callBack (cb : CallB R s args own index y bytes maxL ret ws rm mc ms n) (hM : vx_Met l y ws rm Pc Qc XC mc ms free) (hbl : FrameBlind Pc) : vx_Back l R p e below s args y 3 8 (PreOf R mc ms Pc) (PostOf Qc mc ms free) (vx_Post XC mc ms free) := by
  obtain ⟨hrc, hrs, hfr, hlo, hws, hcw, -, hini, -⟩ := cb
  exact vx_back (bytes := bytes) (maxL := maxL) (ret := ret) hM hbl hrc hrs hfr hlo hws hcw (fun a' U hW => word_at hW (Or.inl (by first | rfl | simp [Cond.onTables, Cond.keeps, Cond.steady])) hini)
theorem vx_runV (S : CallFix p m c cc nL s args Ts own) (hM : vx_Met l y ws rm Pc Qc XC mc ms free) (cw : CallW R s args own C index y bytes maxL ret ws rm mc ms n) (hp : PreV s H C b Pc As)
    (hg : g.method = m) (hn : As.length = n) (hsize : g.locals.size = nL) (hstack : g.stack = As.reverse ++ .ref b :: rest) (hW : 2 * g.monitorRoom + (rest.map fun v => v.category).sum ≤ 8) (hdg : decode cc g.pc = .ok (.invokevirtual index, 3)) (hf : cells + mc ≤ R.cells ∧ slots + ms ≤ R.slots) :
    vx_Run p l e R s m args below meth c H locs cells slots mc ms g rest (Qc (Value.ref b :: As).toArray) XC free := by
  have hK : vx_Back l R p e below s args y 3 8 (PreOf R mc ms Pc) (PostOf Qc mc ms free) (vx_Post XC mc ms free) := vx_callBack cw.1 hM hp.1
  obtain ⟨⟨-, -, -, -, -, -, hcode, -, hy, hlen, hl⟩, hin, hse⟩ := cw
  obtain ⟨hx, hb, hml, ho, -⟩ := S
  obtain ⟨-, ⟨cellB, hcB, hoB, hclB⟩, hPc⟩ := hp
  intro T hT X
  rcases vx_callV X hx (C := C) (bytes := bytes) (maxL := maxL) (ret := ret) ho hl hin hse hcode hy hK (by rw [hT]; exact hcB) hoB hclB hg (hsize.trans hml.symm) (argsL := As) (rest := rest) (fun sig h => hn.trans (hlen sig h)) hstack hW (by rw [hb]; exact hdg)
    (fun vm₁ hW₁ => ⟨hf.1, hf.2, hPc (T.setVm vm₁) hT hW₁⟩) with ⟨v, vm₁, ⟨U', l2, c2, s2⟩, hW₁, X', ⟨g', mk, t, L, e1, e2, hq, h1, hL, h2, h3⟩, st⟩ | ⟨q, vm₁, ⟨U', l2, c2, s2⟩, hW₁, X', ⟨g', mk, t, L, E, ce, e1, e2, hq, hce, hcv, hcl, h1, hL, h2, h3⟩, st⟩
  · dsimp only [Pt.U, Pt.locs, Pt.cells, Pt.slots] at X' e1 e2 h1 h2 h3 st
    subst h1; subst h2; subst h3
    exact Or.inl ⟨v, (T.setVm vm₁).calling g' mk (Value.ref b :: As).toArray, t, U', L, hT, X', hL, e1, e2, hq, st⟩
  · dsimp only [Pt.U, Pt.locs, Pt.cells, Pt.slots] at X' e1 e2 h1 h2 h3 st hcl
    subst h1; subst h2; subst h3
    exact Or.inr ⟨q, (T.setVm vm₁).calling g' mk (Value.ref b :: As).toArray, t, U', L, E, ce, hT, X', hL, e1, e2, hq, hce, hcv, vx_cls hW₁ hcl, st⟩
theorem vx_runS (S : CallFix p m c cc nL s args Ts own) (hM : vx_Met l y ws rm Pc Qc XC mc ms free) (cw : CallB R s args own index y bytes maxL ret ws rm mc ms n ∧ (Cond.static y).before args s = true) (hp : PreS s H Pc As)
    (hg : g.method = m) (hn : As.length = n) (hsize : g.locals.size = nL) (hstack : g.stack = As.reverse ++ rest) (hW : 2 * g.monitorRoom + (rest.map fun v => v.category).sum ≤ 8) (hdg : decode cc g.pc = .ok (.invokestatic index, 3)) (hf : cells + mc ≤ R.cells ∧ slots + ms ≤ R.slots) :
    vx_Run p l e R s m args below meth c H locs cells slots mc ms g rest (Qc As.toArray) XC free := by
  have hK : vx_Back l R p e below s args y 3 8 (PreOf R mc ms Pc) (PostOf Qc mc ms free) (vx_Post XC mc ms free) := vx_callBack cw.1 hM hp.1
  obtain ⟨⟨-, -, -, -, -, -, hcode, hini, hy, hlen, hl⟩, hstt⟩ := cw
  obtain ⟨hx, hb, hml, ho, -⟩ := S
  intro T hT X
  rcases vx_callS X hx (bytes := bytes) (maxL := maxL) (ret := ret) ho hl hstt hini hcode hy hK hg (hsize.trans hml.symm) (argsL := As) (rest := rest) (fun sig h => hn.trans (hlen sig h)) hstack hW (by rw [hb]; exact hdg)
    (fun vm₁ hW₁ => ⟨hf.1, hf.2, hp.2 (T.setVm vm₁) hT hW₁⟩) with ⟨v, vm₁, ⟨U', l2, c2, s2⟩, hW₁, X', ⟨g', mk, t, L, e1, e2, hq, h1, hL, h2, h3⟩, st⟩ | ⟨q, vm₁, ⟨U', l2, c2, s2⟩, hW₁, X', ⟨g', mk, t, L, E, ce, e1, e2, hq, hce, hcv, hcl, h1, hL, h2, h3⟩, st⟩
  · dsimp only [Pt.U, Pt.locs, Pt.cells, Pt.slots] at X' e1 e2 h1 h2 h3 st
    subst h1; subst h2; subst h3
    exact Or.inl ⟨v, (T.setVm vm₁).calling g' mk As.toArray, t, U', L, hT, X', hL, e1, e2, hq, st⟩
  · dsimp only [Pt.U, Pt.locs, Pt.cells, Pt.slots] at X' e1 e2 h1 h2 h3 st hcl
    subst h1; subst h2; subst h3
    exact Or.inr ⟨q, (T.setVm vm₁).calling g' mk As.toArray, t, U', L, E, ce, hT, X', hL, e1, e2, hq, hce, hcv, vx_cls hW₁ hcl, st⟩
end Runs
section Rows
variable {p : Program} {l : Launch} {e : Env} {R : Room} {s : State} {m : MethodId} {args : Array Value} {below : List Frame} {meth : Method} {c : Code} {H : Heap} {locs : List Loc} {cells slots : Nat} {Q : State → Prop}
variable {mc ms : Nat} {free : Addr → Prop} {A0 A1 : Nat → Prop} {H0 : Heap} {a : Array Value} {pc : Nat} {ls : Array Slot} {st0 rest : List Value}
theorem vx_keep {st₀ t T' : State} {L : List Loc} (h0 : st₀.heap = H) (e1 : T'.heap = t.heap) (hS : va_S A0 H0 H locs) (hA : ∀ q, q < H.size → A1 q → A0 q) (hf : ∀ q, free q → A0 q) (hL : ∀ q ∈ L, free q.base) (hF : va_F A1 st₀ t) :
    H.size ≤ T'.heap.size ∧ (∀ q : Nat, q < H.size → ¬ A1 q → T'.heap[q]? = H[q]?) ∧ va_S A0 H0 T'.heap (locs ++ L) := by
  obtain ⟨hz, hk⟩ := hF
  rw [h0] at hz hk
  exact ⟨by rw [e1]; exact hz, fun q h1 h2 => by rw [e1]; exact hk q h1 h2,
    ⟨Nat.le_trans hS.1 (by rw [e1]; exact hz), fun q h1 h2 => by rw [e1, hk q (Nat.lt_of_lt_of_le h1 hS.1) (fun z => h2 (hA q (Nat.lt_of_lt_of_le h1 hS.1) z))]; exact hS.2.1 q h1 h2, fun q hq => by
      rcases List.mem_append.mp hq with h | h
      · exact hS.2.2 q h
      · exact hf _ (hL q h)⟩⟩
theorem vx_calli {S SX : Type} {post : Int32 → S → Prop} {px : SX → Prop} {B : S → State → Prop} {BX : String → SX → State → Prop} {AX : Nat → Prop} (hr : vx_Run p l e R s m args below meth c H locs cells slots mc ms (F0 m pc ls st0) rest (va_Qi post B A1 a) (vx_X px BX AX) free) (hS : va_S A0 H0 H locs) (hA : ∀ q, q < H.size → A1 q → A0 q) (hf : ∀ q, free q → A0 q) (hAX : ∀ q, q < H.size → AX q → A0 q)
    (kx : ∀ (E : String) (ce : Cell) (q9 : Addr) (u : SX) (t : State) (H1 : Heap) (locs1 : List Loc), t.heap = H1 → s.vm.Alike t.vm → px u → BX E u t → H.size ≤ H1.size → (∀ q : Nat, q < H.size → ¬ AX q → H1[q]? = H[q]?) → va_S A0 H0 H1 locs1 → H1[q9]? = some ce → ce.vm = .none → s.vm.findClass E = some ce.cls → vx_W p l e R s m args below meth c H1 locs1 (cells + mc) (slots + ms) Q (F0 m pc ls rest) q9)
    (kk : ∀ (r : Int32) (u : S) (t : State) (H1 : Heap) (locs1 : List Loc), t.heap = H1 → s.vm.Alike t.vm → post r u → B u t → H.size ≤ H1.size → (∀ q : Nat, q < H.size → ¬ A1 q → H1[q]? = H[q]?) → va_S A0 H0 H1 locs1 → W p l e R s m args below meth c H1 locs1 (cells + mc) (slots + ms) Q (F0 m (pc + 3) ls (.int r :: rest))) : W p l e R s m args below meth c H locs cells slots Q (F0 m pc ls st0) := by
  intro T hT X
  rcases hr T hT X with ⟨v, st₀, t, T', L, h0, X', hL, e1, e2, ⟨⟨r, u, hv, hp, hb⟩, hF⟩, st⟩ | ⟨q, st₀, t, T', L, E, ce, h0, X', hL, e1, e2, ⟨u, hp, hb, hF⟩, hce, hcv, hcl, st⟩
  · cases hv
    obtain ⟨k1, k2, k3⟩ := vx_keep h0 e1 hS hA hf hL hF
    obtain ⟨t2, a1, b1⟩ := kk r u t T'.heap (locs ++ L) e1.symm (by rw [← e2]; exact X'.warmed.alike) hp hb k1 k2 k3 T' rfl X'
    exact ⟨t2, st t2 a1, b1⟩
  · obtain ⟨k1, k2, k3⟩ := vx_keep h0 e1 hS hAX hf hL hF
    obtain ⟨t2, a1, b1⟩ := kx E ce q u t T'.heap (locs ++ L) e1.symm (by rw [← e2]; exact X'.warmed.alike) hp hb k1 k2 k3 (by rw [e1]; exact hce) hcv hcl T' rfl X'
    exact ⟨t2, st.trans a1, b1⟩
theorem vx_calll {S SX : Type} {post : Int64 → S → Prop} {px : SX → Prop} {B : S → State → Prop} {BX : String → SX → State → Prop} {AX : Nat → Prop} (hr : vx_Run p l e R s m args below meth c H locs cells slots mc ms (F0 m pc ls st0) rest (va_Ql post B A1 a) (vx_X px BX AX) free) (hS : va_S A0 H0 H locs) (hA : ∀ q, q < H.size → A1 q → A0 q) (hf : ∀ q, free q → A0 q) (hAX : ∀ q, q < H.size → AX q → A0 q)
    (kx : ∀ (E : String) (ce : Cell) (q9 : Addr) (u : SX) (t : State) (H1 : Heap) (locs1 : List Loc), t.heap = H1 → s.vm.Alike t.vm → px u → BX E u t → H.size ≤ H1.size → (∀ q : Nat, q < H.size → ¬ AX q → H1[q]? = H[q]?) → va_S A0 H0 H1 locs1 → H1[q9]? = some ce → ce.vm = .none → s.vm.findClass E = some ce.cls → vx_W p l e R s m args below meth c H1 locs1 (cells + mc) (slots + ms) Q (F0 m pc ls rest) q9)
    (kk : ∀ (r : Int64) (u : S) (t : State) (H1 : Heap) (locs1 : List Loc), t.heap = H1 → s.vm.Alike t.vm → post r u → B u t → H.size ≤ H1.size → (∀ q : Nat, q < H.size → ¬ A1 q → H1[q]? = H[q]?) → va_S A0 H0 H1 locs1 → W p l e R s m args below meth c H1 locs1 (cells + mc) (slots + ms) Q (F0 m (pc + 3) ls (.long r :: rest))) : W p l e R s m args below meth c H locs cells slots Q (F0 m pc ls st0) := by
  intro T hT X
  rcases hr T hT X with ⟨v, st₀, t, T', L, h0, X', hL, e1, e2, ⟨⟨r, u, hv, hp, hb⟩, hF⟩, st⟩ | ⟨q, st₀, t, T', L, E, ce, h0, X', hL, e1, e2, ⟨u, hp, hb, hF⟩, hce, hcv, hcl, st⟩
  · cases hv
    obtain ⟨k1, k2, k3⟩ := vx_keep h0 e1 hS hA hf hL hF
    obtain ⟨t2, a1, b1⟩ := kk r u t T'.heap (locs ++ L) e1.symm (by rw [← e2]; exact X'.warmed.alike) hp hb k1 k2 k3 T' rfl X'
    exact ⟨t2, st t2 a1, b1⟩
  · obtain ⟨k1, k2, k3⟩ := vx_keep h0 e1 hS hAX hf hL hF
    obtain ⟨t2, a1, b1⟩ := kx E ce q u t T'.heap (locs ++ L) e1.symm (by rw [← e2]; exact X'.warmed.alike) hp hb k1 k2 k3 (by rw [e1]; exact hce) hcv hcl T' rfl X'
    exact ⟨t2, st.trans a1, b1⟩
theorem vx_callf {S SX : Type} {post : UInt32 → S → Prop} {px : SX → Prop} {B : S → State → Prop} {BX : String → SX → State → Prop} {AX : Nat → Prop} (hr : vx_Run p l e R s m args below meth c H locs cells slots mc ms (F0 m pc ls st0) rest (va_Qf post B A1 a) (vx_X px BX AX) free) (hS : va_S A0 H0 H locs) (hA : ∀ q, q < H.size → A1 q → A0 q) (hf : ∀ q, free q → A0 q) (hAX : ∀ q, q < H.size → AX q → A0 q)
    (kx : ∀ (E : String) (ce : Cell) (q9 : Addr) (u : SX) (t : State) (H1 : Heap) (locs1 : List Loc), t.heap = H1 → s.vm.Alike t.vm → px u → BX E u t → H.size ≤ H1.size → (∀ q : Nat, q < H.size → ¬ AX q → H1[q]? = H[q]?) → va_S A0 H0 H1 locs1 → H1[q9]? = some ce → ce.vm = .none → s.vm.findClass E = some ce.cls → vx_W p l e R s m args below meth c H1 locs1 (cells + mc) (slots + ms) Q (F0 m pc ls rest) q9)
    (kk : ∀ (r : UInt32) (u : S) (t : State) (H1 : Heap) (locs1 : List Loc), t.heap = H1 → s.vm.Alike t.vm → post r u → B u t → H.size ≤ H1.size → (∀ q : Nat, q < H.size → ¬ A1 q → H1[q]? = H[q]?) → va_S A0 H0 H1 locs1 → W p l e R s m args below meth c H1 locs1 (cells + mc) (slots + ms) Q (F0 m (pc + 3) ls (.float r :: rest))) : W p l e R s m args below meth c H locs cells slots Q (F0 m pc ls st0) := by
  intro T hT X
  rcases hr T hT X with ⟨v, st₀, t, T', L, h0, X', hL, e1, e2, ⟨⟨r, u, hv, hp, hb⟩, hF⟩, st⟩ | ⟨q, st₀, t, T', L, E, ce, h0, X', hL, e1, e2, ⟨u, hp, hb, hF⟩, hce, hcv, hcl, st⟩
  · cases hv
    obtain ⟨k1, k2, k3⟩ := vx_keep h0 e1 hS hA hf hL hF
    obtain ⟨t2, a1, b1⟩ := kk r u t T'.heap (locs ++ L) e1.symm (by rw [← e2]; exact X'.warmed.alike) hp hb k1 k2 k3 T' rfl X'
    exact ⟨t2, st t2 a1, b1⟩
  · obtain ⟨k1, k2, k3⟩ := vx_keep h0 e1 hS hAX hf hL hF
    obtain ⟨t2, a1, b1⟩ := kx E ce q u t T'.heap (locs ++ L) e1.symm (by rw [← e2]; exact X'.warmed.alike) hp hb k1 k2 k3 (by rw [e1]; exact hce) hcv hcl T' rfl X'
    exact ⟨t2, st.trans a1, b1⟩
theorem vx_calld {S SX : Type} {post : UInt64 → S → Prop} {px : SX → Prop} {B : S → State → Prop} {BX : String → SX → State → Prop} {AX : Nat → Prop} (hr : vx_Run p l e R s m args below meth c H locs cells slots mc ms (F0 m pc ls st0) rest (va_Qd post B A1 a) (vx_X px BX AX) free) (hS : va_S A0 H0 H locs) (hA : ∀ q, q < H.size → A1 q → A0 q) (hf : ∀ q, free q → A0 q) (hAX : ∀ q, q < H.size → AX q → A0 q)
    (kx : ∀ (E : String) (ce : Cell) (q9 : Addr) (u : SX) (t : State) (H1 : Heap) (locs1 : List Loc), t.heap = H1 → s.vm.Alike t.vm → px u → BX E u t → H.size ≤ H1.size → (∀ q : Nat, q < H.size → ¬ AX q → H1[q]? = H[q]?) → va_S A0 H0 H1 locs1 → H1[q9]? = some ce → ce.vm = .none → s.vm.findClass E = some ce.cls → vx_W p l e R s m args below meth c H1 locs1 (cells + mc) (slots + ms) Q (F0 m pc ls rest) q9)
    (kk : ∀ (r : UInt64) (u : S) (t : State) (H1 : Heap) (locs1 : List Loc), t.heap = H1 → s.vm.Alike t.vm → post r u → B u t → H.size ≤ H1.size → (∀ q : Nat, q < H.size → ¬ A1 q → H1[q]? = H[q]?) → va_S A0 H0 H1 locs1 → W p l e R s m args below meth c H1 locs1 (cells + mc) (slots + ms) Q (F0 m (pc + 3) ls (.double r :: rest))) : W p l e R s m args below meth c H locs cells slots Q (F0 m pc ls st0) := by
  intro T hT X
  rcases hr T hT X with ⟨v, st₀, t, T', L, h0, X', hL, e1, e2, ⟨⟨r, u, hv, hp, hb⟩, hF⟩, st⟩ | ⟨q, st₀, t, T', L, E, ce, h0, X', hL, e1, e2, ⟨u, hp, hb, hF⟩, hce, hcv, hcl, st⟩
  · cases hv
    obtain ⟨k1, k2, k3⟩ := vx_keep h0 e1 hS hA hf hL hF
    obtain ⟨t2, a1, b1⟩ := kk r u t T'.heap (locs ++ L) e1.symm (by rw [← e2]; exact X'.warmed.alike) hp hb k1 k2 k3 T' rfl X'
    exact ⟨t2, st t2 a1, b1⟩
  · obtain ⟨k1, k2, k3⟩ := vx_keep h0 e1 hS hAX hf hL hF
    obtain ⟨t2, a1, b1⟩ := kx E ce q u t T'.heap (locs ++ L) e1.symm (by rw [← e2]; exact X'.warmed.alike) hp hb k1 k2 k3 (by rw [e1]; exact hce) hcv hcl T' rfl X'
    exact ⟨t2, st.trans a1, b1⟩
theorem vx_callv {S SX : Type} {post : S → Prop} {px : SX → Prop} {B : S → State → Prop} {BX : String → SX → State → Prop} {AX : Nat → Prop} (hr : vx_Run p l e R s m args below meth c H locs cells slots mc ms (F0 m pc ls st0) rest (va_Qv post B A1 a) (vx_X px BX AX) free) (hS : va_S A0 H0 H locs) (hA : ∀ q, q < H.size → A1 q → A0 q) (hf : ∀ q, free q → A0 q) (hAX : ∀ q, q < H.size → AX q → A0 q)
    (kx : ∀ (E : String) (ce : Cell) (q9 : Addr) (u : SX) (t : State) (H1 : Heap) (locs1 : List Loc), t.heap = H1 → s.vm.Alike t.vm → px u → BX E u t → H.size ≤ H1.size → (∀ q : Nat, q < H.size → ¬ AX q → H1[q]? = H[q]?) → va_S A0 H0 H1 locs1 → H1[q9]? = some ce → ce.vm = .none → s.vm.findClass E = some ce.cls → vx_W p l e R s m args below meth c H1 locs1 (cells + mc) (slots + ms) Q (F0 m pc ls rest) q9)
    (kk : ∀ (u : S) (t : State) (H1 : Heap) (locs1 : List Loc), t.heap = H1 → s.vm.Alike t.vm → post u → B u t → H.size ≤ H1.size → (∀ q : Nat, q < H.size → ¬ A1 q → H1[q]? = H[q]?) → va_S A0 H0 H1 locs1 → W p l e R s m args below meth c H1 locs1 (cells + mc) (slots + ms) Q (F0 m (pc + 3) ls (rest))) : W p l e R s m args below meth c H locs cells slots Q (F0 m pc ls st0) := by
  intro T hT X
  rcases hr T hT X with ⟨v, st₀, t, T', L, h0, X', hL, e1, e2, ⟨⟨u, hv, hp, hb⟩, hF⟩, st⟩ | ⟨q, st₀, t, T', L, E, ce, h0, X', hL, e1, e2, ⟨u, hp, hb, hF⟩, hce, hcv, hcl, st⟩
  · cases hv
    obtain ⟨k1, k2, k3⟩ := vx_keep h0 e1 hS hA hf hL hF
    obtain ⟨t2, a1, b1⟩ := kk u t T'.heap (locs ++ L) e1.symm (by rw [← e2]; exact X'.warmed.alike) hp hb k1 k2 k3 T' rfl X'
    exact ⟨t2, st t2 a1, b1⟩
  · obtain ⟨k1, k2, k3⟩ := vx_keep h0 e1 hS hAX hf hL hF
    obtain ⟨t2, a1, b1⟩ := kx E ce q u t T'.heap (locs ++ L) e1.symm (by rw [← e2]; exact X'.warmed.alike) hp hb k1 k2 k3 (by rw [e1]; exact hce) hcv hcl T' rfl X'
    exact ⟨t2, st.trans a1, b1⟩
/-- caught by the row x of this method's table; the rows ahead don't take it -/
theorem vx_catch {own name : String} {E : String} {ce : Cell} {q : Addr} (hown : s.vm.findClass own = some m.cls) (pre : List ExceptionTableEntry) (x : ExceptionTableEntry) (suf : List ExceptionTableEntry) (hsplit : c.exceptionTable.toList = pre ++ x :: suf)
    (hpass : ∀ z ∈ pre, covers z pc = false ∨ (z.catchType ≠ 0 ∧ ∃ nm : String, (Cond.classLink own z.catchType nm).before args s = true ∧ va_Nc E nm s)) (hx : covers x pc = true) (h0 : x.catchType ≠ 0)
    (hlink : (Cond.classLink own x.catchType name).before args s = true) (hcast : (Cond.castable E name).before args s = true) (hcell : H[q]? = some ce) (hv : ce.vm = .none) (hcl : s.vm.findClass E = some ce.cls)
    (kk : W p l e R s m args below meth c H locs cells slots Q (F0 m x.handlerPc ls [.ref q])) : vx_W p l e R s m args below meth c H locs cells slots Q (F0 m pc ls rest) q := by
  intro T hT X
  have hpl : e.platform.magicAccessors = ({} : Platform).magicAccessors := by rw [X.admits.platform]
  obtain ⟨c3, c4, hc3, hc4, hasg⟩ := Cond.castable_spec hcast
  cases Option.some.inj (hc3.symm.trans hcl)
  obtain ⟨c5, hc5, hcl5⟩ := Cond.classLink_spec hown hlink e.platform hpl
  cases Option.some.inj (hc4.symm.trans hc5)
  obtain ⟨vm', X', st⟩ := X.thenCaughtThrough q (g := F0 m pc ls rest) rfl (Steps.refl _) (by rw [hT]; exact hcell) (by rw [hv]; rfl) (by obtain ⟨k9, h9, -⟩ := Vm.findClass_spec hcl; exact ⟨k9, h9⟩) pre x suf hsplit
    (fun z hz => by
      rcases hpass z hz with h | ⟨hz0, nm, hl1, hn1⟩
      · exact Or.inl h
      · obtain ⟨c6, hc6, hcl6⟩ := Cond.classLink_spec hown hl1 e.platform hpl
        obtain ⟨a8, b8, h1, h2, h3⟩ := hn1
        cases Option.some.inj (h1.symm.trans hcl)
        cases Option.some.inj (h2.symm.trans hc6)
        exact Or.inr ⟨hz0, _, hcl6, h3⟩) hx (Or.inr ⟨h0, c4, hcl5, hasg⟩)
  obtain ⟨t, a1, b1⟩ := kk (T.setVm vm') hT X'
  exact ⟨t, st.trans a1, b1⟩
end Rows
section Ends
variable {p : Program} {l : Launch} {e : Env} {R : Room} {s : State} {m : MethodId} {args : Array Value} {below : List Frame} {meth : Method} {c : Code} {H : Heap} {locs : List Loc} {cells slots : Nat} {Q : State → Prop}
variable {mc ms : Nat} {free : Addr → Prop} {A0 A1 : Nat → Prop} {H0 : Heap} {a : Array Value} {ls : Array Slot} {st0 rest : List Value}
variable {Qc : Array Value → State → Outcome → State → Prop} {XC : String → State → State → Prop}
/-- what a body that may throw owes at its end -/
def vx_MQ (below : List Frame) (Qc : Array Value → State → Outcome → State → Prop) (XC : String → State → State → Prop) (a : Array Value) (s : State) (mc ms : Nat) (free : Addr → Prop) : State → Prop := fun t =>
  ∃ o, t.status = .running ∧ Ended t below o ∧ vx_Q Qc XC mc ms free a s o t
theorem vx_ret {g : JFrame} {mc ms : Nat} (k : W p l e R s m args below meth c H locs cells slots (MQ below Qc args s mc ms free) g) : W p l e R s m args below meth c H locs cells slots (vx_MQ below Qc XC args s mc ms free) g := by
  intro T hT X
  obtain ⟨t, a1, o, b1, b2, b3, b4⟩ := k T hT X
  exact ⟨t, a1, o, b1, b2, Or.inl ⟨b3, b4⟩⟩
/-- not caught here: it goes on to the caller -/
theorem vx_widen {g : JFrame} {q : Addr} {k n : Nat} (h1 : cells ≤ k) (h2 : slots ≤ n) (kk : vx_W p l e R s m args below meth c H locs k n Q g q) : vx_W p l e R s m args below meth c H locs cells slots Q g q := fun T hT X => kk T hT (stand_widen X h1 h2)
theorem vx_out {pc : Nat} {E : String} {ce : Cell} {q : Addr} {mc ms : Nat} (hout : ∀ x ∈ c.exceptionTable.toList, covers x pc = false) (hlocks : meth.locks = false) (hcell : H[q]? = some ce) (hv : ce.vm = .none) (hcl : s.vm.findClass E = some ce.cls)
    (hx : ∀ t : State, t.heap = H → s.vm.Alike t.vm → XC E s t) (hf : ∀ z ∈ locs, free z.base) (hc : cells ≤ mc) (hs : slots ≤ ms) :
    vx_W p l e R s m args below meth c H locs cells slots (vx_MQ below Qc XC args s mc ms free) (F0 m pc ls rest) q := by
  intro T hT X
  obtain ⟨st1, hrun, hend, hW, hsm⟩ := X.leaveThrown q (g := F0 m pc ls rest) rfl rfl rfl hout hlocks
  have hcell9 : (T.setFrames (.throwing q :: below)).heap[q]? = some ce := by
    show T.heap[q]? = some ce
    rw [hT]; exact hcell
  exact ⟨_, st1, .threw q, hrun, hend, Or.inr ⟨q, rfl, E, ce, locs, hx _ hT hW.alike, hcell9, hv, hcl, hW, hsm.mono hc hs, hf⟩⟩
theorem vx_frame {U : State} {k n : Nat} (h : s.sameButNew ({ U with vm := s.vm } : State) locs k n) : s.heap.size ≤ U.heap.size ∧ ∀ q : Nat, q < s.heap.size → (∀ z ∈ locs, z.base ≠ q) → U.heap[q]? = s.heap[q]? := by
  obtain ⟨-, h2, -, -, -, h6⟩ := h
  refine ⟨h2, fun q hq hz => ?_⟩
  obtain ⟨c9, e1, e2, e3, e4⟩ := h6 q _ (Array.getElem?_eq_getElem hq)
  have hs : c9.slots = (s.heap[q]).slots := Array.ext_getElem? fun i => e4 i fun hm => hz _ hm rfl
  have h9 : c9 = s.heap[q] := by
    rw [hs] at e2
    exact e2
  have e5 : U.heap[q]? = some c9 := e1
  rw [e5, h9, Array.getElem?_eq_getElem hq]
/-- the words of a throw but the four that speak of the heap -/
def vx_no (w : Cond) : Bool := decide (w ≠ .isRef (.static Bundle.tN "UNASSIGNED_STACK" Bundle.steD)) && decide (w ≠ .isRef (.static Bundle.tN "SUPPRESSED_SENTINEL" Bundle.listD)) && decide (w ≠ .laysStatic Bundle.tN "UNASSIGNED_STACK" Bundle.steD) && decide (w ≠ .laysStatic Bundle.tN "SUPPRESSED_SENTINEL" Bundle.listD)
def vx_at0 (own : String) (ic : Nat) (X : String) (names : List String) : List Cond := (Bundle.ownAtoms0 own ic X names).filter vx_no
def vx_atS (own : String) (ic : Nat) (X : String) (names : List String) : List Cond := (Bundle.ownAtoms own ic X names).filter vx_no
/-- a word that the tables alone decide, or a good one -/
def vx_ot (w : Cond) : Bool := w.onTables || goodWord w
theorem vx_ot_at {args a' : Array Value} {s U : State} {w : Cond} (hW : s.WarmedH U.vm) (hvm : s.vm = U.vm) (hg : vx_ot w = true) (h : w.before args s = true) : w.before a' U = true := by
  simp only [vx_ot, Bool.or_eq_true] at hg
  rcases hg with hg | hg
  · exact va_tabs hg hvm h
  · exact word_at hW (good_of_word hg) h
/-- a list's words: the good ones out of the method's own list, the others by premises of their own -/
theorem vx_hat {args : Array Value} {s : State} {L B : List Cond} (h1 : ∀ w ∈ L.filter goodWord, w.before args s = true) (h2 : ∀ w ∈ L.filter (fun w => !goodWord w), w ∈ B) (h3 : ∀ w ∈ B, w.before args s = true) : ∀ w ∈ L, w.before args s = true := by
  intro w hw
  by_cases g : goodWord w = true
  · exact h1 w (List.mem_filter.mpr ⟨hw, g⟩)
  · refine h3 w (h2 w (List.mem_filter.mpr ⟨hw, ?_⟩))
    show (!goodWord w) = true
    cases hgw : goodWord w
    · rfl
    · exact absurd hgw g
theorem vx_c {args : Array Value} {s : State} {w : Cond} {B : List Cond} (h : w.before args s = true) (t : ∀ w ∈ B, w.before args s = true) : ∀ w' ∈ w :: B, w'.before args s = true := fun w' h' => (List.mem_cons.mp h').elim (fun e => by rw [e]; exact h) (t w')
theorem vx_n {args : Array Value} {s : State} : ∀ w ∈ ([] : List Cond), w.before args s = true := fun _ h => nomatch h
theorem vx_own {args : Array Value} {s : State} {L : List Cond} (h1 : ∀ w ∈ L.filter vx_no, w.before args s = true)
    (hU : (Cond.isRef (.static Bundle.tN "UNASSIGNED_STACK" Bundle.steD)).before args s = true) (hN : (Cond.isRef (.static Bundle.tN "SUPPRESSED_SENTINEL" Bundle.listD)).before args s = true)
    (lU : (Cond.laysStatic Bundle.tN "UNASSIGNED_STACK" Bundle.steD).before args s = true) (lN : (Cond.laysStatic Bundle.tN "SUPPRESSED_SENTINEL" Bundle.listD).before args s = true) : ∀ w ∈ L, w.before args s = true := by
  intro w hw
  by_cases e1 : w = .isRef (.static Bundle.tN "UNASSIGNED_STACK" Bundle.steD)
  · rw [e1]; exact hU
  · by_cases e2 : w = .isRef (.static Bundle.tN "SUPPRESSED_SENTINEL" Bundle.listD)
    · rw [e2]; exact hN
    · by_cases e3 : w = .laysStatic Bundle.tN "UNASSIGNED_STACK" Bundle.steD
      · rw [e3]; exact lU
      · by_cases e4 : w = .laysStatic Bundle.tN "SUPPRESSED_SENTINEL" Bundle.listD
        · rw [e4]; exact lN
        · exact h1 w (List.mem_filter.mpr ⟨hw, by unfold vx_no; rw [decide_eq_true e1, decide_eq_true e2, decide_eq_true e3, decide_eq_true e4]; rfl⟩)
/-- where a static field lies, its class's statics cell in H -/
def vx_L (C n d : String) (A : Nat → Prop) (U : State) (H : Heap) : Prop := ∃ (c : ClassId) (k : Class) (i : Nat) (f : Field) (a : Nat) (cell : Cell), U.vm.findClass C = some c ∧ U.fieldFound? C n d = some (c, k, i, f) ∧ f.isStatic = true ∧ k.statics = some a ∧ H[a]? = some cell ∧ cell.vm.isStatics = true ∧ cell.cls = c ∧ f.slot < cell.slots.size ∧ k.staticTypes[f.slot]? = some f.type ∧ ¬ A a
theorem vx_L.moved {C n d : String} {A : Nat → Prop} {u U : State} {H : Heap} (hvm : u.vm.Alike U.vm) (h : vx_L C n d A u H) : vx_L C n d A U H := by
  obtain ⟨c, k, i, f, a, cell, h1, h2, h3, h4, h5, h6, h7, h8, h9, h10⟩ := h
  obtain ⟨k', hi', he⟩ := State.fieldFound?_setVm hvm h2
  exact ⟨c, k', i, f, a, cell, by rw [hvm.findClass]; exact h1, hi', h3, by rw [he]; exact h4, h5, h6, h7, h8, by rw [he]; exact h9, h10⟩
theorem vx_L.kept {C n d : String} {A : Nat → Prop} {U : State} {H H1 : Heap} (h : vx_L C n d A U H) (hq : ∀ a : Nat, a < H.size → ¬ A a → H1[a]? = H[a]?) : vx_L C n d A U H1 := by
  obtain ⟨c, k, i, f, a, cell, h1, h2, h3, h4, h5, h6, h7, h8, h9, h10⟩ := h
  exact ⟨c, k, i, f, a, cell, h1, h2, h3, h4, by rw [hq a (Array.getElem?_eq_some_iff.mp h5).1 h10]; exact h5, h6, h7, h8, h9, h10⟩
theorem vx_L.narrow {C n d : String} {A B : Nat → Prop} {U : State} {H : Heap} (h : vx_L C n d A U H) (hAB : ∀ q, B q → A q) : vx_L C n d B U H := by
  obtain ⟨c, k, i, f, a, cell, h1, h2, h3, h4, h5, h6, h7, h8, h9, h10⟩ := h
  exact ⟨c, k, i, f, a, cell, h1, h2, h3, h4, h5, h6, h7, h8, h9, fun z => h10 (hAB _ z)⟩
theorem vx_L.word {C n d : String} {A : Nat → Prop} {s : State} {args : Array Value} (h : vx_L C n d A s s.heap) : (Cond.laysStatic C n d).before args s = true := by
  obtain ⟨c, k, i, f, a, cell, h1, h2, h3, h4, h5, h6, h7, h8, h9, -⟩ := h
  show (Cond.laysStatic C n d).holds args s none s [] = true
  exact Cond.laysStatic_of h1 h2 h3 h4 h5 h6 h7 h8 h9
/-- .. and what it holds: null or some reference -/
def vx_Zq (C n d : String) (A : Nat → Prop) (U : State) (H : Heap) : Prop := va_Zq C n d A U H ∧ vx_L C n d A U H
theorem vx_Zq.moved {C n d : String} {A : Nat → Prop} {u U : State} {H : Heap} (hvm : u.vm.Alike U.vm) (h : vx_Zq C n d A u H) : vx_Zq C n d A U H := ⟨va_Zq.moved hvm h.1, vx_L.moved hvm h.2⟩
theorem vx_Zq.kept {C n d : String} {A : Nat → Prop} {U : State} {H H1 : Heap} (h : vx_Zq C n d A U H) (hq : ∀ a : Nat, a < H.size → ¬ A a → H1[a]? = H[a]?) : vx_Zq C n d A U H1 := ⟨va_Zq.kept h.1 hq, vx_L.kept h.2 hq⟩
theorem vx_Zq.narrow {C n d : String} {A B : Nat → Prop} {U : State} {H : Heap} (h : vx_Zq C n d A U H) (hAB : ∀ q, B q → A q) : vx_Zq C n d B U H := ⟨va_Zq.narrow h.1 hAB, vx_L.narrow h.2 hAB⟩
theorem vx_Zqof {args : Array Value} {s : State} {C n d : String} {A : Nat → Prop} (hl : (Cond.laysStatic C n d).before args s = true) (hini : (Cond.initialized C).before args s = true) (h : (Cond.isRef (.static C n d)).before args s = true) (hA : ∀ a : Nat, a < s.heap.size → ¬ A a) : vx_Zq C n d A s s.heap := by
  refine ⟨va_Zqof hl hini h hA, ?_⟩
  obtain ⟨c, k, i, f, a, cell, h1, h2, h3, h4, h5, h6, h7, h8, h9⟩ := Cond.laysStatic_spec hl
  exact ⟨c, k, i, f, a, cell, h1, h2, h3, h4, h5, h6, h7, h8, h9, hA a (Array.getElem?_eq_some_iff.mp h5).1⟩
theorem vx_isRef {C n d : String} {v : Value} {A : Nat → Prop} {s : State} {args : Array Value} (h : va_Z C n d v A s s.heap) (hv : v.isRef = true) : (Cond.isRef (.static C n d)).before args s = true := by
  obtain ⟨cf, kf, fi, f, a, cell, h1, h2, h3, h4, h5, h6, h7, -⟩ := h
  have he : (Term.static C n d).eval args s none [] s = some v := by
    simp [Term.eval, State.fieldNamed?, h1, h2, h4, h5, h6, h7]
  simp only [Cond.before, Cond.holds, Cond.value, he]
  cases v <;> simp_all [Value.isRef]
theorem vx_isRefq {C n d : String} {A : Nat → Prop} {s : State} {args : Array Value} (h : va_Zq C n d A s s.heap) : (Cond.isRef (.static C n d)).before args s = true := by
  rcases h with h | ⟨t, h⟩
  · exact vx_isRef h rfl
  · exact vx_isRef h rfl
/-- the same frame, seen from here: as if the method were called anew in this heap -/
theorem vx_rebase {T : State} (X : Stand p l e R s m args below meth c T locs cells slots) {R' : Room} (hf : R'.frames ≤ R.frames) (hl : R'.locals ≤ R.locals) (hc : cells + R'.cells ≤ R.cells) (hs : slots + R'.slots ≤ R.slots) :
    Stand p l e R' ((T.setVm s.vm).setFrames (.invoking m args :: below)) m args below meth c T [] 0 0 := by
  have htop : (T.setVm s.vm).topJava?.isSome := X.here.top
  have hF : ((T.setVm s.vm).setFrames (.invoking m args :: below)).frames = .invoking m args :: below := State.frames_setFrames _ (State.cur_lt_of_top htop)
  obtain ⟨g₀, hg0⟩ := Option.isSome_iff_exists.mp htop
  obtain ⟨r, hr⟩ := State.topJava?_eq_some.mp hg0
  have hl9 : e.platform.stackLimits (T.setVm s.vm).me = e.platform.stackLimits s.me := X.limits
  have hb9 : (T.setVm s.vm).me.stackBytes = s.me.stackBytes := X.bytes
  refine ⟨X.admits, X.cas, X.clock, hF, ?_, X.hears, X.method, X.code, X.here, X.tail, X.warmed, ?_, ?_, ?_⟩
  · have h := X.room
    have hU : ((T.setVm s.vm).setFrames (.invoking m args :: below)).localsInUse = s.localsInUse := by
      rw [State.localsInUse_invoking hF (meth := meth) (c := c) X.method X.code, State.localsInUse_invoking X.frames X.method X.code]
    simp only [State.hasRoom, Bool.and_eq_true, decide_eq_true_eq] at h ⊢
    obtain ⟨⟨⟨⟨h1, h2, h3, h4, h5, h6⟩, h7⟩, h8⟩, h9⟩ := h
    rw [X.frames, List.length_cons] at h2 h3
    have q1 := X.heapSize
    have q2 := X.used
    simp only [hF, hU, List.length_cons, State.stackLimits_setFrames, State.stackBytes_setFrames, hl9, hb9]
    refine ⟨⟨⟨⟨by omega, by omega, by omega, by omega, by omega, h6⟩, ?_⟩, ?_⟩, X.book⟩
    · show T.heap.size + R'.cells ≤ e.platform.maxCells
      omega
    · show T.slotsUsed + R'.slots ≤ e.platform.maxSlots
      omega
  · rw [State.stackLimits_setFrames]; rfl
  · rw [State.stackBytes_setFrames]; rfl
  · refine ⟨?_, Nat.le_refl _, Nat.le_refl _, ?_, ?_, fun a c9 h9 => ⟨c9, h9, rfl, rfl, fun _ _ => rfl⟩⟩
    · obtain ⟨t, ht, -⟩ := State.frames_cons hr
      show T.setVm s.vm = { ((T.setVm s.vm).setFrames (.invoking m args :: below)).setFrames (T.setVm s.vm).frames with heap := T.heap, slotsUsed := T.slotsUsed }
      rw [State.setFrames_setFrames, State.setFrames_self ht]
      rfl
    · show T.slotsUsed = T.slotsUsed + ((T.heap.toList.drop T.heap.size).map (·.slots.size)).sum
      rw [List.drop_eq_nil_of_le (Nat.le_of_eq Array.length_toList)]
      rfl
    · show ((T.heap.toList.drop T.heap.size).map (·.slots.size)).sum ≤ 0
      rw [List.drop_eq_nil_of_le (Nat.le_of_eq Array.length_toList)]
      exact Nat.le_refl _
/-- 'throw new E()': new; dup; invokespecial; athrow -/
theorem vx_throw0 {cc : ByteArray} {pc : Nat} (hexec : p.tables.exec = Jvm.exec) (hb : c.code = cc) (hl : l.stackTraces = false) {own cls : String} {names : List String} {ik ic mc ms : Nat} {A : Nat → Prop}
    (hown : s.vm.findClass own = some m.cls) (hcls : Bundle.fit cls = true) (hnames : ∀ n ∈ names, Bundle.fit n = true)
    (hk : (Cond.classLink own ik cls).before args s = true) (hini : (Cond.initialized cls).before args s = true) (hat : ∀ w ∈ vx_at0 own ic cls names, w.before args s = true)
    (hgood : ∀ w ∈ Cond.classLink own ik cls :: Cond.initialized cls :: vx_at0 own ic cls names, vx_ot w = true)
    (hU : vx_Zq Bundle.tN "UNASSIGNED_STACK" Bundle.steD A s s.heap) (hN : vx_Zq Bundle.tN "SUPPRESSED_SENTINEL" Bundle.listD A s s.heap) (hS : va_S A s.heap H locs) (hsize : ls.size = c.maxLocals)
    (d0 : decode cc pc = .ok (.new ik, 3)) (d3 : decode cc (pc + 3) = .ok (.dup, 1)) (d4 : decode cc (pc + 4) = .ok (.invokespecial ic, 3)) (d7 : decode cc (pc + 7) = .ok (.athrow, 1))
    (hout : ∀ x ∈ c.exceptionTable.toList, covers x (pc + 7) = false)
    (hRframes : names.length + 3 < R.frames) (hRlocals : (rest.map fun v => v.category).sum + (13 * (names.length + 1) + 42) ≤ R.locals) (hRcells : cells + 1 ≤ R.cells) (hRslots : slots + 6 ≤ R.slots) (hlocks : meth.locks = false)
    (hx : ∀ t : State, s.vm.Alike t.vm → H.size ≤ t.heap.size → (∀ q : Nat, q < H.size → t.heap[q]? = H[q]?) → XC cls s t)
    (hf : ∀ z ∈ locs, free z.base) (hc : cells + 1 ≤ mc) (hs : slots + 6 ≤ ms) :
    W p l e R s m args below meth c H locs cells slots (vx_MQ below Qc XC args s mc ms free) (F0 m pc ls rest) := by
  intro T hT X
  have htr : e.platform.stackTraces = false := (show e.platform.stackTraces = l.stackTraces by rw [X.admits.platform]).trans hl
  have Y := vx_rebase X (R' := { frames := R.frames, locals := R.locals, cells := 1, slots := 6 }) (Nat.le_refl _) (Nat.le_refl _) hRcells hRslots
  obtain ⟨s', hA⟩ : ∃ z, z = (T.setVm s.vm).setFrames (.invoking m args :: below) := ⟨_, rfl⟩
  rw [← hA] at Y
  have hvm : s'.vm = s.vm := by rw [hA]; rfl
  have hhp : s'.heap = H := by rw [hA]; exact hT
  have hW0 : s.WarmedH s'.vm := by rw [hvm]; exact State.WarmedH.refl s
  have hat' : ∀ w ∈ vx_at0 own ic cls names, w.before args s' = true := fun w hw => vx_ot_at hW0 hvm.symm (hgood w (List.mem_cons_of_mem _ (List.mem_cons_of_mem _ hw))) (hat w hw)
  have hk' : (Cond.classLink own ik cls).before args s' = true := vx_ot_at hW0 hvm.symm (hgood _ List.mem_cons_self) hk
  have hini' : (Cond.initialized cls).before args s' = true := vx_ot_at hW0 hvm.symm (hgood _ (List.mem_cons_of_mem _ List.mem_cons_self)) hini
  have hU' : vx_Zq Bundle.tN "UNASSIGNED_STACK" Bundle.steD A s' s'.heap := by rw [hhp]; exact vx_Zq.moved hW0.alike (hU.kept hS.2.1)
  have hN' : vx_Zq Bundle.tN "SUPPRESSED_SENTINEL" Bundle.listD A s' s'.heap := by rw [hhp]; exact vx_Zq.moved hW0.alike (hN.kept hS.2.1)
  have h : ∀ w ∈ Bundle.ownAtoms0 own ic cls names, w.before args s' = true := vx_own hat' (vx_isRefq hU'.1) (vx_isRefq hN'.1) hU'.2.word hN'.2.word
  have hown' : s'.vm.findClass own = some m.cls := by rw [hvm]; exact hown
  have hins : (Cond.instantiable cls 6).before args s' = true := h _ (by simp [Bundle.ownAtoms0])
  obtain ⟨vm₁, cX, kX, hfX, hkX, -, -, X₁, st1⟩ := Y.newCold hexec (own := own) (C := cls) (index := ik) (n := 6) hown' hk' hins hini'
    (g := F0 m pc ls rest) rfl (by rw [hb]; exact d0) (Nat.le_refl _) (Nat.le_refl _)
  generalize hT1 : (T.setVm vm₁).pushCell { cls := cX, slots := kX.instanceTypes.map defaultValue, vm := .none } = T1 at X₁ st1
  have hcat : (Value.ref T.heap.size).category = 1 := rfl
  have hcellA : T1.heap[T.heap.size]? = some (freshCell cX kX) := by rw [← hT1]; exact State.heap_pushCell_size _ _
  have d3' : decode c.code (pc + 3) = .ok (.dup, 1) := by rw [hb]; exact d3
  obtain ⟨U, hsteps, hrun, hend, hW, hsame, ce, hce, hO⟩ := X₁.ctorThrow0 hexec htr (own := own) (cls := cls) (names := names) (ic := ic) hown' hcls hnames h (fun x hx => nomatch hx) hfX hkX hcellA (by rw [hhp, hT]; exact Nat.le_refl _)
    (g := { method := m, pc := pc + 4, locals := ls, stack := .ref T.heap.size :: .ref T.heap.size :: rest, locked := none }) rfl hsize rfl rfl (rest := rest) rfl
    (by rw [hb]; exact d4) (by rw [hb]; exact d7) hout hRframes (by simp only [List.map_cons, List.sum_cons, hcat]; omega) hlocks
  obtain ⟨f1, f2⟩ := vx_frame hsame
  rw [hhp] at f1 f2
  have hWs : s.WarmedH U.vm := State.WarmedH.trans hW0 hW
  have hcl : s.vm.findClass cls = some ce.cls := by
    have h9 := hO.cls
    rw [hvm] at h9
    exact h9
  have hall : s.sameButNew ({ U with vm := s.vm } : State) locs mc ms := by
    subst hA
    obtain ⟨e1, e2⟩ := hsame
    rw [State.setFrames_setFrames] at e1
    have h2 : (T.setVm s.vm).sameButNew ({ U with vm := s.vm } : State) [] (0 + 1) (0 + 6) := ⟨e1, e2⟩
    have h3 := X.same.trans h2
    rw [List.append_nil] at h3
    exact h3.mono hc hs
  refine ⟨U, ?_, .threw T.heap.size, hrun, hend, Or.inr ⟨T.heap.size, rfl, cls, ce, locs, hx U hWs.alike f1 (fun q hq => f2 q hq (fun z hz => nomatch hz)), hce, hO.vm, hcl, hWs, hall, hf⟩⟩
  refine st1 _ ?_
  show Steps p.tables e below (T1.setTop { method := m, pc := pc + 3, locals := ls, stack := .ref T.heap.size :: rest, locked := none }) _
  jvm_step X₁.here [X₁.here.top, hexec, d3', Value.category]
  exact hsteps
/-- 'throw new E("text")': new; dup; ldc; invokespecial; athrow -/
theorem vx_throwS {cc : ByteArray} {pc : Nat} (hexec : p.tables.exec = Jvm.exec) (hb : c.code = cc) (hl : l.stackTraces = false) {own cls text : String} {names : List String} {ik is ic mc ms sa : Nat} {A : Nat → Prop}
    (hown : s.vm.findClass own = some m.cls) (hcls : Bundle.fit cls = true) (hnames : ∀ n ∈ names, Bundle.fit n = true)
    (hk : (Cond.classLink own ik cls).before args s = true) (hini : (Cond.initialized cls).before args s = true) (hstr : vk_R own is text sa s) (hat : ∀ w ∈ vx_atS own ic cls names, w.before args s = true)
    (hgood : ∀ w ∈ Cond.classLink own ik cls :: Cond.initialized cls :: vx_atS own ic cls names, vx_ot w = true)
    (hU : vx_Zq Bundle.tN "UNASSIGNED_STACK" Bundle.steD A s s.heap) (hN : vx_Zq Bundle.tN "SUPPRESSED_SENTINEL" Bundle.listD A s s.heap) (hS : va_S A s.heap H locs) (hsize : ls.size = c.maxLocals)
    (d0 : decode cc pc = .ok (.new ik, 3)) (d3 : decode cc (pc + 3) = .ok (.dup, 1)) (d4 : decode cc (pc + 4) = .ok (.ldc is, 2)) (d6 : decode cc (pc + 6) = .ok (.invokespecial ic, 3)) (d9 : decode cc (pc + 9) = .ok (.athrow, 1))
    (hout : ∀ x ∈ c.exceptionTable.toList, covers x (pc + 9) = false)
    (hRframes : names.length + 3 < R.frames) (hRlocals : (rest.map fun v => v.category).sum + (13 * (names.length + 1) + 43) ≤ R.locals) (hRcells : cells + 1 ≤ R.cells) (hRslots : slots + 6 ≤ R.slots) (hlocks : meth.locks = false)
    (hx : ∀ t : State, s.vm.Alike t.vm → H.size ≤ t.heap.size → (∀ q : Nat, q < H.size → t.heap[q]? = H[q]?) → XC cls s t)
    (hf : ∀ z ∈ locs, free z.base) (hc : cells + 1 ≤ mc) (hs : slots + 6 ≤ ms) :
    W p l e R s m args below meth c H locs cells slots (vx_MQ below Qc XC args s mc ms free) (F0 m pc ls rest) := by
  intro T hT X
  have htr : e.platform.stackTraces = false := (show e.platform.stackTraces = l.stackTraces by rw [X.admits.platform]).trans hl
  have Y := vx_rebase X (R' := { frames := R.frames, locals := R.locals, cells := 1, slots := 6 }) (Nat.le_refl _) (Nat.le_refl _) hRcells hRslots
  obtain ⟨s', hA⟩ : ∃ z, z = (T.setVm s.vm).setFrames (.invoking m args :: below) := ⟨_, rfl⟩
  rw [← hA] at Y
  have hvm : s'.vm = s.vm := by rw [hA]; rfl
  have hhp : s'.heap = H := by rw [hA]; exact hT
  have hW0 : s.WarmedH s'.vm := by rw [hvm]; exact State.WarmedH.refl s
  have hat' : ∀ w ∈ vx_atS own ic cls names, w.before args s' = true := fun w hw => vx_ot_at hW0 hvm.symm (hgood w (List.mem_cons_of_mem _ (List.mem_cons_of_mem _ hw))) (hat w hw)
  have hk' : (Cond.classLink own ik cls).before args s' = true := vx_ot_at hW0 hvm.symm (hgood _ List.mem_cons_self) hk
  have hini' : (Cond.initialized cls).before args s' = true := vx_ot_at hW0 hvm.symm (hgood _ (List.mem_cons_of_mem _ List.mem_cons_self)) hini
  have hU' : vx_Zq Bundle.tN "UNASSIGNED_STACK" Bundle.steD A s' s'.heap := by rw [hhp]; exact vx_Zq.moved hW0.alike (hU.kept hS.2.1)
  have hN' : vx_Zq Bundle.tN "SUPPRESSED_SENTINEL" Bundle.listD A s' s'.heap := by rw [hhp]; exact vx_Zq.moved hW0.alike (hN.kept hS.2.1)
  have h : ∀ w ∈ Bundle.ownAtoms own ic cls names, w.before args s' = true := vx_own hat' (vx_isRefq hU'.1) (vx_isRefq hN'.1) hU'.2.word hN'.2.word
  have hown' : s'.vm.findClass own = some m.cls := by rw [hvm]; exact hown
  have hins : (Cond.instantiable cls 6).before args s' = true := h _ (by simp [Bundle.ownAtoms])
  obtain ⟨vm₁, cX, kX, hfX, hkX, -, -, X₁, st1⟩ := Y.newCold hexec (own := own) (C := cls) (index := ik) (n := 6) hown' hk' hins hini'
    (g := F0 m pc ls rest) rfl (by rw [hb]; exact d0) (Nat.le_refl _) (Nat.le_refl _)
  generalize hT1 : (T.setVm vm₁).pushCell { cls := cX, slots := kX.instanceTypes.map defaultValue, vm := .none } = T1 at X₁ st1
  have hcat : (Value.ref T.heap.size).category = 1 := rfl
  have hcellA : T1.heap[T.heap.size]? = some (freshCell cX kX) := by rw [← hT1]; exact State.heap_pushCell_size _ _
  have d3' : decode c.code (pc + 3) = .ok (.dup, 1) := by rw [hb]; exact d3
  have d4' : decode c.code (pc + 4) = .ok (.ldc is, 2) := by rw [hb]; exact d4
  have hstr' : vk_R own is text sa s' := vk_R.warm hW0 hstr
  obtain ⟨U, hsteps, hrun, hend, hW, hsame, ce, hce, hO⟩ := X₁.ctorThrowS hexec htr (own := own) (cls := cls) (names := names) (ic := ic) hown' hcls hnames h (fun x hx => nomatch hx) hfX hkX hcellA (by rw [hhp, hT]; exact Nat.le_refl _) (msg := .ref sa) rfl
    (g := { method := m, pc := pc + 6, locals := ls, stack := .ref sa :: .ref T.heap.size :: .ref T.heap.size :: rest, locked := none }) rfl hsize rfl rfl (rest := rest) rfl
    (by rw [hb]; exact d6) (by rw [hb]; exact d9) hout hRframes (by simp only [List.map_cons, List.sum_cons, hcat]; omega) hlocks
  obtain ⟨f1, f2⟩ := vx_frame hsame
  rw [hhp] at f1 f2
  have hWs : s.WarmedH U.vm := State.WarmedH.trans hW0 hW
  have hcl : s.vm.findClass cls = some ce.cls := by
    have h9 := hO.cls
    rw [hvm] at h9
    exact h9
  have hall : s.sameButNew ({ U with vm := s.vm } : State) locs mc ms := by
    subst hA
    obtain ⟨e1, e2⟩ := hsame
    rw [State.setFrames_setFrames] at e1
    have h2 : (T.setVm s.vm).sameButNew ({ U with vm := s.vm } : State) [] (0 + 1) (0 + 6) := ⟨e1, e2⟩
    have h3 := X.same.trans h2
    rw [List.append_nil] at h3
    exact h3.mono hc hs
  refine ⟨U, ?_, .threw T.heap.size, hrun, hend, Or.inr ⟨T.heap.size, rfl, cls, ce, locs, hx U hWs.alike f1 (fun q hq => f2 q hq (fun z hz => nomatch hz)), hce, hO.vm, hcl, hWs, hall, hf⟩⟩
  refine st1 _ ?_
  show Steps p.tables e below (T1.setTop { method := m, pc := pc + 3, locals := ls, stack := .ref T.heap.size :: rest, locked := none }) _
  jvm_step X₁.here [X₁.here.top, hexec, d3', Value.category]
  exact X₁.ldcString hexec (own := own) (text := text) (index := is) (a := sa) hown' hstr'.1 hstr'.2
    (g := { method := m, pc := pc + 4, locals := ls, stack := .ref T.heap.size :: .ref T.heap.size :: rest, locked := none }) rfl d4' _ hsteps
/-- 'throw new E("text")', the text by a wide index -/
theorem vx_throwSW {cc : ByteArray} {pc : Nat} (hexec : p.tables.exec = Jvm.exec) (hb : c.code = cc) (hl : l.stackTraces = false) {own cls text : String} {names : List String} {ik is ic mc ms sa : Nat} {A : Nat → Prop}
    (hown : s.vm.findClass own = some m.cls) (hcls : Bundle.fit cls = true) (hnames : ∀ n ∈ names, Bundle.fit n = true)
    (hk : (Cond.classLink own ik cls).before args s = true) (hini : (Cond.initialized cls).before args s = true) (hstr : vk_R own is text sa s) (hat : ∀ w ∈ vx_atS own ic cls names, w.before args s = true)
    (hgood : ∀ w ∈ Cond.classLink own ik cls :: Cond.initialized cls :: vx_atS own ic cls names, vx_ot w = true)
    (hU : vx_Zq Bundle.tN "UNASSIGNED_STACK" Bundle.steD A s s.heap) (hN : vx_Zq Bundle.tN "SUPPRESSED_SENTINEL" Bundle.listD A s s.heap) (hS : va_S A s.heap H locs) (hsize : ls.size = c.maxLocals)
    (d0 : decode cc pc = .ok (.new ik, 3)) (d3 : decode cc (pc + 3) = .ok (.dup, 1)) (d4 : decode cc (pc + 4) = .ok (.ldc_w is, 3)) (d7 : decode cc (pc + 7) = .ok (.invokespecial ic, 3)) (d10 : decode cc (pc + 10) = .ok (.athrow, 1))
    (hout : ∀ x ∈ c.exceptionTable.toList, covers x (pc + 10) = false)
    (hRframes : names.length + 3 < R.frames) (hRlocals : (rest.map fun v => v.category).sum + (13 * (names.length + 1) + 43) ≤ R.locals) (hRcells : cells + 1 ≤ R.cells) (hRslots : slots + 6 ≤ R.slots) (hlocks : meth.locks = false)
    (hx : ∀ t : State, s.vm.Alike t.vm → H.size ≤ t.heap.size → (∀ q : Nat, q < H.size → t.heap[q]? = H[q]?) → XC cls s t)
    (hf : ∀ z ∈ locs, free z.base) (hc : cells + 1 ≤ mc) (hs : slots + 6 ≤ ms) :
    W p l e R s m args below meth c H locs cells slots (vx_MQ below Qc XC args s mc ms free) (F0 m pc ls rest) := by
  intro T hT X
  have htr : e.platform.stackTraces = false := (show e.platform.stackTraces = l.stackTraces by rw [X.admits.platform]).trans hl
  have Y := vx_rebase X (R' := { frames := R.frames, locals := R.locals, cells := 1, slots := 6 }) (Nat.le_refl _) (Nat.le_refl _) hRcells hRslots
  obtain ⟨s', hA⟩ : ∃ z, z = (T.setVm s.vm).setFrames (.invoking m args :: below) := ⟨_, rfl⟩
  rw [← hA] at Y
  have hvm : s'.vm = s.vm := by rw [hA]; rfl
  have hhp : s'.heap = H := by rw [hA]; exact hT
  have hW0 : s.WarmedH s'.vm := by rw [hvm]; exact State.WarmedH.refl s
  have hat' : ∀ w ∈ vx_atS own ic cls names, w.before args s' = true := fun w hw => vx_ot_at hW0 hvm.symm (hgood w (List.mem_cons_of_mem _ (List.mem_cons_of_mem _ hw))) (hat w hw)
  have hk' : (Cond.classLink own ik cls).before args s' = true := vx_ot_at hW0 hvm.symm (hgood _ List.mem_cons_self) hk
  have hini' : (Cond.initialized cls).before args s' = true := vx_ot_at hW0 hvm.symm (hgood _ (List.mem_cons_of_mem _ List.mem_cons_self)) hini
  have hU' : vx_Zq Bundle.tN "UNASSIGNED_STACK" Bundle.steD A s' s'.heap := by rw [hhp]; exact vx_Zq.moved hW0.alike (hU.kept hS.2.1)
  have hN' : vx_Zq Bundle.tN "SUPPRESSED_SENTINEL" Bundle.listD A s' s'.heap := by rw [hhp]; exact vx_Zq.moved hW0.alike (hN.kept hS.2.1)
  have h : ∀ w ∈ Bundle.ownAtoms own ic cls names, w.before args s' = true := vx_own hat' (vx_isRefq hU'.1) (vx_isRefq hN'.1) hU'.2.word hN'.2.word
  have hown' : s'.vm.findClass own = some m.cls := by rw [hvm]; exact hown
  have hins : (Cond.instantiable cls 6).before args s' = true := h _ (by simp [Bundle.ownAtoms])
  obtain ⟨vm₁, cX, kX, hfX, hkX, -, -, X₁, st1⟩ := Y.newCold hexec (own := own) (C := cls) (index := ik) (n := 6) hown' hk' hins hini'
    (g := F0 m pc ls rest) rfl (by rw [hb]; exact d0) (Nat.le_refl _) (Nat.le_refl _)
  generalize hT1 : (T.setVm vm₁).pushCell { cls := cX, slots := kX.instanceTypes.map defaultValue, vm := .none } = T1 at X₁ st1
  have hcat : (Value.ref T.heap.size).category = 1 := rfl
  have hcellA : T1.heap[T.heap.size]? = some (freshCell cX kX) := by rw [← hT1]; exact State.heap_pushCell_size _ _
  have d3' : decode c.code (pc + 3) = .ok (.dup, 1) := by rw [hb]; exact d3
  have d4' : decode c.code (pc + 4) = .ok (.ldc_w is, 3) := by rw [hb]; exact d4
  have hstr' : vk_R own is text sa s' := vk_R.warm hW0 hstr
  obtain ⟨U, hsteps, hrun, hend, hW, hsame, ce, hce, hO⟩ := X₁.ctorThrowS hexec htr (own := own) (cls := cls) (names := names) (ic := ic) hown' hcls hnames h (fun x hx => nomatch hx) hfX hkX hcellA (by rw [hhp, hT]; exact Nat.le_refl _) (msg := .ref sa) rfl
    (g := { method := m, pc := pc + 7, locals := ls, stack := .ref sa :: .ref T.heap.size :: .ref T.heap.size :: rest, locked := none }) rfl hsize rfl rfl (rest := rest) rfl
    (by rw [hb]; exact d7) (by rw [hb]; exact d10) hout hRframes (by simp only [List.map_cons, List.sum_cons, hcat]; omega) hlocks
  obtain ⟨f1, f2⟩ := vx_frame hsame
  rw [hhp] at f1 f2
  have hWs : s.WarmedH U.vm := State.WarmedH.trans hW0 hW
  have hcl : s.vm.findClass cls = some ce.cls := by
    have h9 := hO.cls
    rw [hvm] at h9
    exact h9
  have hall : s.sameButNew ({ U with vm := s.vm } : State) locs mc ms := by
    subst hA
    obtain ⟨e1, e2⟩ := hsame
    rw [State.setFrames_setFrames] at e1
    have h2 : (T.setVm s.vm).sameButNew ({ U with vm := s.vm } : State) [] (0 + 1) (0 + 6) := ⟨e1, e2⟩
    have h3 := X.same.trans h2
    rw [List.append_nil] at h3
    exact h3.mono hc hs
  refine ⟨U, ?_, .threw T.heap.size, hrun, hend, Or.inr ⟨T.heap.size, rfl, cls, ce, locs, hx U hWs.alike f1 (fun q hq => f2 q hq (fun z hz => nomatch hz)), hce, hO.vm, hcl, hWs, hall, hf⟩⟩
  refine st1 _ ?_
  show Steps p.tables e below (T1.setTop { method := m, pc := pc + 3, locals := ls, stack := .ref T.heap.size :: rest, locked := none }) _
  jvm_step X₁.here [X₁.here.top, hexec, d3', Value.category]
  exact X₁.ldcStringW hexec (own := own) (text := text) (index := is) (a := sa) hown' hstr'.1 hstr'.2
    (g := { method := m, pc := pc + 4, locals := ls, stack := .ref T.heap.size :: .ref T.heap.size :: rest, locked := none }) rfl d4' _ hsteps
end Ends
section Bodies
variable {l : Launch}
theorem vx_ofW {y : MethodName} {ws ws' : List Cond} {rm : Room} {Pc : Array Value → State → Prop} {Qc : Array Value → State → Outcome → State → Prop} {XC : String → State → State → Prop} {mc ms : Nat} {free : Addr → Prop} {cc : ByteArray} {maxL : Nat} {ret : Option FieldType}
    (hy : plainName y.cls = true) (hw : ws = Cond.code y cc maxL ret :: ws')
    (body : ∀ p e s m args below meth c s₁, BodyLoose p l y (headSpec ws rm) cc maxL ret e s m args below meth c s₁ → c.maxLocals = maxL → (∀ x ∈ c.exceptionTable.toList, False) → Pc args s →
      W p l e (headSpec ws rm).room s m args below meth c s.heap [] 0 0 (vx_MQ below Qc XC args s mc ms free) (entryFrame m args maxL)) : vx_Met l y ws rm Pc Qc XC mc ms free := by
  refine MetFree.of_bodyS (code := cc) (maxLocals := maxL) (ret := ret) hy ?_ ?_
  · intro args s m h hn
    obtain ⟨meth, c, h1, h2, h3, h4, h5, h6, -, -⟩ := Cond.code_spec hn (atoms_spec (ws := ws) h _ (by rw [hw]; exact List.mem_cons_self))
    exact ⟨meth, c, h1, h2, h3, h4, h5, h6⟩
  · intro p e s m args below meth c s₁ B hml hP _
    have hh0 : s₁.heap = s.heap := by rw [B.state]; rfl
    have ht : ∀ x ∈ c.exceptionTable.toList, False := by
      obtain ⟨meth9, c9, h1, h2, -, -, -, -, h7, -⟩ := Cond.code_spec B.named (atoms_spec (ws := ws) B.pre _ (by rw [hw]; exact List.mem_cons_self))
      cases Option.some.inj (h1.symm.trans B.method)
      cases Option.some.inj (h2.symm.trans (Stand.of_body B).code)
      intro x hx
      rw [Array.isEmpty_iff.mp h7] at hx
      cases hx
    obtain ⟨t, a1, o, b1, b2, b3⟩ := body p e s m args below meth c s₁ B hml ht hP s₁ hh0 (Stand.of_body B)
    exact ⟨t, o, a1, b1, b2, b3⟩
/-- the table of a body with handlers -/
theorem vx_table {p : Program} {x y : MethodName} {S : Spec} {cc bytes : ByteArray} {maxL maxL' : Nat} {ret ret' : Option FieldType} {e : Env} {s s₁ : State} {m : MethodId} {args : Array Value} {below : List Frame} {meth : Method} {c : Code} {hh : List (Nat × Nat × Nat × Nat)}
    (B : BodyLoose p l y S cc maxL ret e s m args below meth c s₁) (h : (Cond.codeWith y bytes maxL' ret' hh).before args s = true) : c.exceptionTable.toList = tableOf hh := by
  obtain ⟨m9, meth9, c9, hn9, h1, h2, -, -, h6, -⟩ := Cond.codeWith_spec h
  cases Option.some.inj (hn9.symm.trans B.named)
  cases Option.some.inj (h1.symm.trans B.method)
  cases Option.some.inj (h2.symm.trans (Stand.of_body B).code)
  rw [← h6, table_eq]
end Bodies
end VXA
/-! ===== END ===== -/
/-! ===== BEGIN a static call of a method with an exception table ===== -/
section VXS
variable {p : Program} {l : Launch} {e : Env} {R : Room} {s : State} {m : MethodId} {args : Array Value} {below : List Frame} {meth : Method} {c : Code} {T : State} {H : Heap} {locs : List Loc} {cells slots : Nat}
abbrev vx_CSW (R : Room) (s : State) (args : Array Value) (own : String) (index : Nat) (y : MethodName) (bytes : ByteArray) (maxL : Nat) (ret : Option FieldType) (hh : List (Nat × Nat × Nat × Nat)) (ws : List Cond) (rm : Room) (mc ms n : Nat) : Prop :=
  (rm.cells = mc ∧ rm.slots = ms ∧ rm.frames + 1 ≤ R.frames ∧ 8 + (maxL + 11) + rm.locals ≤ R.locals ∧ (∀ w ∈ ws, ∀ (a' : Array Value) (U : State), s.WarmedH U.vm → w.before a' U = true) ∧ Cond.codeWith y bytes maxL ret hh ∈ ws) ∧
  (Cond.codeWith y bytes maxL ret hh).before args s = true ∧ (Cond.initialized y.cls).before args s = true ∧ (y.cls ≠ "java/lang/invoke/MethodHandle" ∧ y.cls ≠ "java/lang/invoke/VarHandle") ∧
  (∀ sig, parseMethodDescriptor y.desc = some sig → n = sig.parameters.length) ∧ (Cond.methodLink own index y).before args s = true ∧ (Cond.static y).before args s = true
theorem vx_cwSW {own : String} {index maxL mc ms : Nat} {y : MethodName} {bytes : ByteArray} {ret : Option FieldType} {hh : List (Nat × Nat × Nat × Nat)} {Ts ws ws' : List Cond} {rm : Room} (n : Nat) (ht : ∀ w ∈ Ts, w.before args s = true) (hT : GoodIn Ts (va_wsS own index y ws)) (hw : ws = Cond.codeWith y bytes maxL ret hh :: ws') (hrc : rm.cells = mc) (hrs : rm.slots = ms)
    (hd : y.cls ≠ "java/lang/invoke/MethodHandle" ∧ y.cls ≠ "java/lang/invoke/VarHandle" ∧ (parseMethodDescriptor y.desc).map (fun d => d.parameters.length) = some n) (hR : rm.frames + 1 ≤ R.frames ∧ 8 + (maxL + 11) + rm.locals ≤ R.locals) :
    vx_CSW R s args own index y bytes maxL ret hh ws rm mc ms n := by
  have ok : ∀ w ∈ va_wsS own index y ws, w.before args s = true := fun w h => ht w (hT w h).1
  have hG : GoodIn Ts ws := fun w h => hT w (by unfold va_wsS; exact List.mem_append_right _ h)
  have hc : Cond.codeWith y bytes maxL ret hh ∈ ws := by rw [hw]; exact List.mem_cons_self
  refine ⟨⟨hrc, hrs, hR.1, hR.2, pay_in ht hG, hc⟩, ht _ (hG _ hc).1, ok _ (by simp [va_wsS]), ⟨hd.1, hd.2.1⟩, fun sig h => ?_, ok _ (by simp [va_wsS]), ok _ (by simp [va_wsS])⟩
  have h2 := hd.2.2
  rw [h] at h2
  exact (Option.some.inj h2).symm
theorem vx_callSW (X : Stand p l e R s m args below meth c T locs cells slots) (hexec : p.tables.exec = Jvm.exec) {own : String} {index : Nat} {y : MethodName} {bytes : ByteArray} {maxL : Nat} {ret : Option FieldType} {hh : List (Nat × Nat × Nat × Nat)}
    (hown : s.vm.findClass own = some m.cls) (hlink : (Cond.methodLink own index y).before args s = true) (hstat : (Cond.static y).before args s = true) (hinit : (Cond.initialized y.cls).before args s = true)
    (hcode : (Cond.codeWith y bytes maxL ret hh).before args s = true) (hy : y.cls ≠ "java/lang/invoke/MethodHandle" ∧ y.cls ≠ "java/lang/invoke/VarHandle")
    {W9 : Nat} {Pre : Pt → Array Value → Prop} {Post : Pt → Array Value → Option Value → Pt → Prop} (hK : Back l R p e below s args y 3 W9 Pre Post)
    {g : JFrame} (hg : g.method = m) (hsize : g.locals.size = c.maxLocals) {argsL rest : List Value} (hlen : ∀ sig, parseMethodDescriptor y.desc = some sig → argsL.length = sig.parameters.length)
    (hstack : g.stack = argsL.reverse ++ rest) (hW : 2 * g.monitorRoom + (rest.map fun v => v.category).sum ≤ W9) (hdg : decode c.code g.pc = .ok (.invokestatic index, 3))
    (hpre : ∀ vm₁, s.WarmedH vm₁ → Pre ⟨T.setVm vm₁, locs, cells, slots⟩ argsL.toArray) :
    ∃ (v : Option Value) (vm₁ : Vm) (B : Pt), s.WarmedH vm₁ ∧ Stand p l e R s m args below meth c B.U B.locs B.cells B.slots ∧ Post ⟨T.setVm vm₁, locs, cells, slots⟩ argsL.toArray v B ∧
      ∀ target, Steps p.tables e below (B.U.setTop { g with pc := g.pc + 3, stack := v.toList ++ rest }) target → Steps p.tables e below (T.setTop g) target := by
  obtain ⟨mk, methM, cM, hnamed, hmethM, -, -, -, -, -, -, hsigM⟩ := Cond.codeWith_spec hcode
  have hstatic : methM.isStatic = true := Cond.static_spec hnamed hmethM hstat
  obtain ⟨kP, hkP, -⟩ := className_of_methodNamed hnamed
  have hinitP : kP.init = .initialized := Cond.initialized_spec (findClass_of_methodNamed hnamed) hkP hinit
  obtain ⟨vm₁, X₁, hstep₁⟩ := X.invokestatic hexec hown hlink hnamed hmethM hstatic hkP hinitP hy (g := g) hg (argsL := argsL) (rest := rest) (hlen _ hsigM) hstack hdg
  obtain ⟨v, B, X', hpost, hsteps⟩ := hK m meth c ⟨T.setVm vm₁, locs, cells, slots⟩ { g with stack := rest } (.invokestatic index) mk argsL.toArray X₁ hg hsize hdg hW (X₁.named hnamed) (hpre vm₁ X₁.warmed)
  exact ⟨v, vm₁, B, X₁.warmed, X', hpost, fun target h => hstep₁ _ fun acts => by rw [doInvoke_state]; exact hsteps.trans h⟩
theorem vx_runSW {y : MethodName} {bytes cc : ByteArray} {maxL nL mc ms n index : Nat} {ret : Option FieldType} {hh : List (Nat × Nat × Nat × Nat)} {ws : List Cond} {rm : Room} {Pc : Array Value → State → Prop} {Qc : Array Value → State → Outcome → State → Prop} {free : Addr → Prop} {Ts : List Cond} {own : String} {As rest : List Value} {g : JFrame}
    (S : CallFix p m c cc nL s args Ts own) (hM : Met l y ws rm Pc Qc mc ms free) (cw : vx_CSW R s args own index y bytes maxL ret hh ws rm mc ms n) (hp : PreS s H Pc As)
    (hg : g.method = m) (hn : As.length = n) (hsize : g.locals.size = nL) (hstack : g.stack = As.reverse ++ rest) (hW : 2 * g.monitorRoom + (rest.map fun v => v.category).sum ≤ 8) (hdg : decode cc g.pc = .ok (.invokestatic index, 3)) (hf : cells + mc ≤ R.cells ∧ slots + ms ≤ R.slots) :
    va_Run p l e R s m args below meth c H locs cells slots mc ms g rest (Qc As.toArray) (free) := by
  obtain ⟨⟨hrc, hrs, hfr, hlo, hws, hcw⟩, hcode, hini, hy, hlen, hl, hstt⟩ := cw
  have hK : Back l R p e below s args y 3 8 (PreOf R mc ms Pc) (PostOf Qc mc ms free) := va_backW (hh := hh) (bytes := bytes) (maxL := maxL) (ret := ret) hM hp.1 hrc hrs hfr hlo hws hcw (fun a' U hW => word_at hW (Or.inl (by first | rfl | simp [Cond.onTables, Cond.keeps, Cond.steady])) hini)
  obtain ⟨hx, hb, hml, ho, -⟩ := S
  intro T hT X
  obtain ⟨v, vm₁, ⟨U', l2, c2, s2⟩, hW₁, X', ⟨g', mk, t, L, e1, e2, hq, h1, hL, h2, h3⟩, st⟩ := vx_callSW X hx (hh := hh) (bytes := bytes) (maxL := maxL) (ret := ret) ho hl hstt hini hcode hy hK hg (hsize.trans hml.symm) (argsL := As) (rest := rest) (fun sig h => hn.trans (hlen sig h)) hstack hW (by rw [hb]; exact hdg)
    (fun vm₁ hW₁ => ⟨hf.1, hf.2, hp.2 (T.setVm vm₁) hT hW₁⟩)
  dsimp only [Pt.U, Pt.locs, Pt.cells, Pt.slots] at X' e1 e2 h1 h2 h3 st
  subst h1; subst h2; subst h3
  exact ⟨v, (T.setVm vm₁).calling g' mk As.toArray, t, U', L, hT, X', hL, e1, e2, hq, st⟩
/-- not caught here, past rows that name other classes: it goes on to the caller -/
theorem vx_outP {p : Program} {l : Launch} {e : Env} {R : Room} {s : State} {m : MethodId} {args : Array Value} {below : List Frame} {meth : Method} {c : Code} {H : Heap} {locs : List Loc} {cells slots : Nat} {free : Addr → Prop} {ls : Array Slot} {rest : List Value} {Qc : Array Value → State → Outcome → State → Prop} {XC : String → State → State → Prop}
    {pc : Nat} {own E : String} {ce : Cell} {q : Addr} {mc ms : Nat} (hown : s.vm.findClass own = some m.cls) (hlocks : meth.locks = false)
    (hpass : ∀ z ∈ c.exceptionTable.toList, covers z pc = false ∨ (z.catchType ≠ 0 ∧ ∃ nm : String, (Cond.classLink own z.catchType nm).before args s = true ∧ va_Nc E nm s)) (hcell : H[q]? = some ce) (hv : ce.vm = .none) (hcl : s.vm.findClass E = some ce.cls)
    (hx : ∀ t : State, t.heap = H → s.vm.Alike t.vm → XC E s t) (hf : ∀ z ∈ locs, free z.base) (hc : cells ≤ mc) (hs : slots ≤ ms) :
    vx_W p l e R s m args below meth c H locs cells slots (vx_MQ below Qc XC args s mc ms free) (F0 m pc ls rest) q := by
  intro T hT X
  have hpl : e.platform.magicAccessors = ({} : Platform).magicAccessors := by rw [X.admits.platform]
  obtain ⟨vm', hW', X', st⟩ := X.outThrough hlocks q (g := F0 m pc ls rest) rfl rfl rfl (cell := ce) (by rw [hT]; exact hcell) (by rw [hv]; rfl)
    (by obtain ⟨k9, h9, -⟩ := Vm.findClass_spec hcl; exact ⟨k9, h9⟩) (fun z hz => by
      rcases hpass z hz with h | ⟨hz0, nm, hl1, hn1⟩
      · exact Or.inl h
      · obtain ⟨c6, hc6, hcl6⟩ := Cond.classLink_spec hown hl1 e.platform hpl
        obtain ⟨a8, b8, h1, h2, h3⟩ := hn1
        cases Option.some.inj (h1.symm.trans hcl)
        cases Option.some.inj (h2.symm.trans hc6)
        exact Or.inr ⟨hz0, _, hcl6, h3⟩)
  obtain ⟨g₀, hfr⟩ := X'.frames_eq
  have hcell9 : ((T.setVm vm').setFrames (.throwing q :: below)).heap[q]? = some ce := by
    show T.heap[q]? = some ce
    rw [hT]; exact hcell
  have hend : Ended ((T.setVm vm').setFrames (.throwing q :: below)) below (.threw q) := State.frames_setFrames _ (State.cur_lt_of_frames hfr)
  refine ⟨(T.setVm vm').setFrames (.throwing q :: below), ?_, .threw q, X'.here.running, hend, Or.inr ⟨q, rfl, E, ce, locs, hx _ hT (X'.ends _).1.alike, hcell9, hv, hcl, (X'.ends _).1, (X'.ends _).2.mono hc hs, hf⟩⟩
  rw [X.pushThrowing_eq]
  exact st
/-- a thing of a world lies in the heap -/
theorem vx_lt {D : va_G} {cl : List vw_C} {ws : va_W} {H1 : Heap} (h : va_P D cl ws H1) {k : Nat} {q : Nat × va_E} (hk : ws[k]? = some q) : q.1 < H1.size := (h k q hk).lt
end VXS
/-! ===== END ===== -/
/-! ===== BEGIN methods with a table of their own: called by a name, returning or throwing ===== -/
section VXH
/-! vx_backW, vx_callVX, vx_callSX, vx_callVW, vx_runVW, vx_runVX, vx_runSX, vx_ofWH follow the same proofs as their sisters above (Free/Laws.lean, Shelf42/LK1.lean); vx_outP calls Shelf42/NT130.lean (outThrough). -/
section
variable {l : Launch} {R : Room} {p : Program} {e : Env} {below : List Frame} {s : State} {sargs : Array Value} {y : MethodName} {len W9 : Nat}
theorem vx_backW {ws : List Cond} {rm : Room} {Pc : Array Value → State → Prop} {Qc : Array Value → State → Outcome → State → Prop} {XC : String → State → State → Prop} {mc ms : Nat} {free : Addr → Prop} {bytes : ByteArray} {maxL : Nat} {ret : Option FieldType} {hh : List (Nat × Nat × Nat × Nat)}
    (hM : vx_Met l y ws rm Pc Qc XC mc ms free) (hblind : FrameBlind Pc) (hrc : rm.cells = mc) (hrs : rm.slots = ms)
    (hframes : rm.frames + 1 ≤ R.frames) (hlocals : W9 + (maxL + 11) + rm.locals ≤ R.locals)
    (hws : ∀ w ∈ ws, ∀ a' U, s.WarmedH U.vm → w.before a' U = true) (hcode : Cond.codeWith y bytes maxL ret hh ∈ ws) (hinit : ∀ a' U, s.WarmedH U.vm → (Cond.initialized y.cls).before a' U = true) :
    vx_Back l R p e below s sargs y len W9 (PreOf R mc ms Pc) (PostOf Qc mc ms free) (vx_Post XC mc ms free) := by
  intro m meth c A g ig mk a X hg hsize hdg hW hn hp
  have h1 : (headSpec ws rm).pre.before a A.U = true := atoms_intro fun w hw => hws w hw _ _ X.warmed
  have h2 : (Cond.codeWith y bytes maxL ret hh).before a A.U = true := hws _ hcode _ _ X.warmed
  have h3 : (Cond.initialized y.cls).before a A.U = true := hinit _ _ X.warmed
  have h4 : A.cells + (headSpec ws rm).room.cells ≤ R.cells := by rw [show (headSpec ws rm).room.cells = mc from hrc]; exact hp.1
  have h5 : A.slots + (headSpec ws rm).room.slots ≤ R.slots := by rw [show (headSpec ws rm).room.slots = ms from hrs]; exact hp.2.1
  have hPc : Pc a (A.U.calling g mk a) := hblind _ _ _ _ hp.2.2
  obtain ⟨U, Ls, c0, s0⟩ := A
  dsimp only [Pt.U, Pt.locs, Pt.cells, Pt.slots] at h1 h2 h3 h4 h5 X hn hPc ⊢
  obtain ⟨m9, methY, cY, hn9, hmY, hcY, -, hlY, -⟩ := Cond.codeWith_spec h2
  cases Option.some.inj (hn9.symm.trans hn)
  obtain ⟨kY, hkY, -⟩ := className_of_methodNamed hn
  have hinitY : kY.init = .initialized := Cond.initialized_spec (findClass_of_methodNamed hn) hkY h3
  have h : At U g.method c below := by rw [hg]; exact X.here
  have hlocals9 : W9 + (maxL + 11) + (headSpec ws rm).room.locals ≤ R.locals := hlocals
  have happ : (headSpec ws rm).appliesLoose y e.platform (U.calling g mk a) = true :=
    Spec.appliesLoose_calling (g := g) h hdg hn hkY hinitY
      (X.room_calling (g := g) (R' := (headSpec ws rm).room) hsize hmY hcY hframes (by rw [hlY]; omega) h4 h5) h1
  obtain ⟨mid, hmid⟩ := h.above
  have hfr : (U.setTop g).frames = (.java g :: mid) ++ below := by rw [State.frames_setTop' g h.top, hmid]; rfl
  obtain ⟨o, s₂, hsteps, -, hend, hq⟩ := Steps.callFree hM p X.admits X.cas X.clock (acts := []) hfr happ hPc trivial
  have hq' : vx_Q Qc XC mc ms free a (U.calling g mk a) o s₂ := hq
  rw [State.frames_setTop' g h.top] at hend
  obtain ⟨g₀, hg0⟩ := Option.isSome_iff_exists.mp h.top
  obtain ⟨r, hr⟩ := State.topJava?_eq_some.mp hg0
  have hr' : (({ U with heap := s₂.heap, slotsUsed := s₂.slotsUsed } : State).setVm s₂.vm).frames = .java g₀ :: r := hr
  rcases hq' with ⟨hqc, L, hfe, hL⟩ | ⟨q, rfl, E, ce, L, hx, hce, hcv, hcl, hW₂, hsm, hL⟩
  · obtain ⟨⟨v, rfl⟩, hW₂, e2, q2, q3, q4, q5, q6⟩ := id hfe
    have e3 : s₂ = ({ (U.calling g mk a).setFrames s₂.frames with heap := s₂.heap, slotsUsed := s₂.slotsUsed } : State).setVm s₂.vm := by
      have : s₂ = ({ s₂ with vm := (U.calling g mk a).vm } : State).setVm s₂.vm := rfl
      rw [e2] at this
      exact this
    obtain ⟨c₂, i₂, len₂, hc₂, hd₂, hf₂⟩ := hend
    have hW' : U.WarmedH s₂.vm := hW₂
    have hcc : c₂ = c := by
      have h1 : s₂.code? g.method = U.code? g.method := by
        rw [State.code?_eq, State.code?_eq, hW'.alike.method?]
      exact Option.some.inj (hc₂.symm.trans (h1.trans h.code))
    subst hcc
    have hlen : len₂ = len := by rw [hdg] at hd₂; cases hd₂; rfl
    subst hlen
    have hs₂ : s₂ = (({ U with heap := s₂.heap, slotsUsed := s₂.slotsUsed } : State).setVm s₂.vm).setTop { g with pc := g.pc + len₂, stack := v.toList ++ g.stack } := by
      refine e3.trans ?_
      rw [hf₂, State.calling_eq h.top, State.setFrames_setFrames, State.setTop_of_frames _ hr', hr]
      rfl
    have hsame : U.sameButNew ({ U with heap := s₂.heap, slotsUsed := s₂.slotsUsed } : State) L mc ms := by
      refine ⟨?_, q2, q3, q4, q5, q6⟩
      obtain ⟨t, ht, -⟩ := State.frames_cons hr
      show ({ U with heap := s₂.heap, slotsUsed := s₂.slotsUsed } : State) = { U.setFrames U.frames with heap := s₂.heap, slotsUsed := s₂.slotsUsed }
      rw [State.setFrames_self ht]
    subst hg
    refine Or.inl ⟨v, ⟨(({ U with heap := s₂.heap, slotsUsed := s₂.slotsUsed } : State).setVm s₂.vm), Ls ++ L, c0 + mc, s0 + ms⟩,
      ⟨X.admits, X.cas, X.clock, X.frames, X.room, X.hears, X.method, X.code, (X.here.setHeapUsed s₂.heap s₂.slotsUsed).setVm hW'.alike, X.tail, State.WarmedH.trans X.warmed hW', X.limits, X.bytes, X.same.trans (hsame.setVm s.vm)⟩,
      ⟨g, mk, s₂, L, rfl, rfl, hqc, rfl, hL, rfl, rfl⟩, ?_⟩
    show Steps p.tables e below _ ((({ U with heap := s₂.heap, slotsUsed := s₂.slotsUsed } : State).setVm s₂.vm).setTop { g with pc := g.pc + len₂, stack := v.toList ++ g.stack })
    rw [← hs₂]
    exact hsteps
  · obtain ⟨e2, q2, q3, q4, q5, q6⟩ := id hsm
    have e3 : s₂ = ({ (U.calling g mk a).setFrames s₂.frames with heap := s₂.heap, slotsUsed := s₂.slotsUsed } : State).setVm s₂.vm := by
      have : s₂ = ({ s₂ with vm := (U.calling g mk a).vm } : State).setVm s₂.vm := rfl
      rw [e2] at this
      exact this
    have hf₂ : s₂.frames = .throwing q :: .java g :: U.frames.tail := hend
    have hW' : U.WarmedH s₂.vm := hW₂
    have hs₂ : s₂ = ((({ U with heap := s₂.heap, slotsUsed := s₂.slotsUsed } : State).setVm s₂.vm).setTop g).pushFrame (.throwing q) := by
      refine e3.trans ?_
      rw [hf₂, State.calling_eq h.top, State.setFrames_setFrames, State.pushFrame, State.frames_setTop _ hr', State.setTop_of_frames _ hr', State.setFrames_setFrames, hr]
      rfl
    have hsame : U.sameButNew ({ U with heap := s₂.heap, slotsUsed := s₂.slotsUsed } : State) L mc ms := by
      refine ⟨?_, q2, q3, q4, q5, q6⟩
      obtain ⟨t, ht, -⟩ := State.frames_cons hr
      show ({ U with heap := s₂.heap, slotsUsed := s₂.slotsUsed } : State) = { U.setFrames U.frames with heap := s₂.heap, slotsUsed := s₂.slotsUsed }
      rw [State.setFrames_self ht]
    subst hg
    refine Or.inr ⟨q, ⟨(({ U with heap := s₂.heap, slotsUsed := s₂.slotsUsed } : State).setVm s₂.vm), Ls ++ L, c0 + mc, s0 + ms⟩,
      ⟨X.admits, X.cas, X.clock, X.frames, X.room, X.hears, X.method, X.code, (X.here.setHeapUsed s₂.heap s₂.slotsUsed).setVm hW'.alike, X.tail, State.WarmedH.trans X.warmed hW', X.limits, X.bytes, X.same.trans (hsame.setVm s.vm)⟩,
      ⟨g, mk, s₂, L, E, ce, rfl, rfl, hx, hce, hcv, hcl, rfl, hL, rfl, rfl⟩, ?_⟩
    show Steps p.tables e below _ (((({ U with heap := s₂.heap, slotsUsed := s₂.slotsUsed } : State).setVm s₂.vm).setTop g).pushFrame (.throwing q))
    rw [← hs₂]
    exact hsteps
end
variable {p : Program} {l : Launch} {e : Env} {R : Room} {s : State} {m : MethodId} {args : Array Value} {below : List Frame} {meth : Method} {c : Code} {T : State} {H : Heap} {locs : List Loc} {cells slots : Nat}
theorem vx_callVX (X : Stand p l e R s m args below meth c T locs cells slots) (hexec : p.tables.exec = Jvm.exec) {own C : String} {index : Nat} {y : MethodName} {bytes : ByteArray} {maxL : Nat} {ret : Option FieldType} {hh : List (Nat × Nat × Nat × Nat)}
    (hown : s.vm.findClass own = some m.cls) (hlink : (Cond.methodLink own index y).before args s = true) (hinst : (Cond.instanceMethod y).before args s = true) (hsel : (Cond.selects C y y).before args s = true)
    (hcode : (Cond.codeWith y bytes maxL ret hh).before args s = true) (hy : y.cls ≠ "java/lang/invoke/MethodHandle" ∧ y.cls ≠ "java/lang/invoke/VarHandle")
    {W9 : Nat} {Pre : Pt → Array Value → Prop} {Post : Pt → Array Value → Option Value → Pt → Prop} {PostX : Pt → Array Value → Addr → Pt → Prop} (hK : vx_Back l R p e below s args y 3 W9 Pre Post PostX)
    {b : Addr} {cellB : Cell} (hcell : T.heap[b]? = some cellB) (hobj : cellB.vm.isStatics = false) (hcls : s.vm.findClass C = some cellB.cls)
    {g : JFrame} (hg : g.method = m) (hsize : g.locals.size = c.maxLocals) {argsL rest : List Value} (hlen : ∀ sig, parseMethodDescriptor y.desc = some sig → argsL.length = sig.parameters.length)
    (hstack : g.stack = argsL.reverse ++ .ref b :: rest) (hW : 2 * g.monitorRoom + (rest.map fun v => v.category).sum ≤ W9) (hdg : decode c.code g.pc = .ok (.invokevirtual index, 3))
    (hpre : ∀ vm₁, s.WarmedH vm₁ → Pre ⟨T.setVm vm₁, locs, cells, slots⟩ (Value.ref b :: argsL).toArray) :
    (∃ (v : Option Value) (vm₁ : Vm) (B : Pt), s.WarmedH vm₁ ∧ Stand p l e R s m args below meth c B.U B.locs B.cells B.slots ∧ Post ⟨T.setVm vm₁, locs, cells, slots⟩ (Value.ref b :: argsL).toArray v B ∧
      ∀ target, Steps p.tables e below (B.U.setTop { g with pc := g.pc + 3, stack := v.toList ++ rest }) target → Steps p.tables e below (T.setTop g) target) ∨
    (∃ (q : Addr) (vm₁ : Vm) (B : Pt), s.WarmedH vm₁ ∧ Stand p l e R s m args below meth c B.U B.locs B.cells B.slots ∧ PostX ⟨T.setVm vm₁, locs, cells, slots⟩ (Value.ref b :: argsL).toArray q B ∧
      Steps p.tables e below (T.setTop g) ((B.U.setTop { g with stack := rest }).pushFrame (.throwing q))) := by
  obtain ⟨mk, methM, hnamed, hmethM, hstM, habM⟩ := Cond.instanceMethod_spec hinst
  obtain ⟨m8, methM', cM, hn8, hmethM', -, -, -, -, -, -, hsigM⟩ := Cond.codeWith_spec hcode
  cases Option.some.inj (hn8.symm.trans hnamed)
  cases hmethM.symm.trans hmethM'
  obtain ⟨c2, r2, m2, q1, q2, q3, q4, kP, hkP, hkPi⟩ := Cond.selects_spec hsel
  cases hcls.symm.trans q1
  cases (State.methodFound?_of_named hnamed hy).symm.trans q2
  cases hnamed.symm.trans q3
  have hselP : selectMethod e.platform s.vm cellB.cls mk = .method mk := by rw [Launch.admits_selectMethod X.admits]; exact q4
  obtain ⟨vm₁, X₁, hstep₁⟩ := X.invokevirtual hexec hown hlink hnamed hmethM hstM hkP hkPi hy (a := b) (cell := cellB) hcell
    (fun z h => by rw [h] at hobj; cases hobj) hselP hmethM habM hkP hkPi (g := g) hg (argsL := argsL) (rest := rest) (hlen _ hsigM) hstack hdg
  rcases hK m meth c ⟨T.setVm vm₁, locs, cells, slots⟩ { g with stack := rest } (.invokevirtual index) mk (Value.ref b :: argsL).toArray X₁ hg hsize hdg hW (X₁.named hnamed) (hpre vm₁ X₁.warmed) with ⟨v, B, X', hpost, hsteps⟩ | ⟨q, B, X', hpost, hsteps⟩
  · exact Or.inl ⟨v, vm₁, B, X₁.warmed, X', hpost, fun target h => hstep₁ _ fun acts => by rw [doInvoke_state]; exact hsteps.trans h⟩
  · exact Or.inr ⟨q, vm₁, B, X₁.warmed, X', hpost, hstep₁ _ fun acts => by rw [doInvoke_state]; exact hsteps⟩
theorem vx_callSX (X : Stand p l e R s m args below meth c T locs cells slots) (hexec : p.tables.exec = Jvm.exec) {own : String} {index : Nat} {y : MethodName} {bytes : ByteArray} {maxL : Nat} {ret : Option FieldType} {hh : List (Nat × Nat × Nat × Nat)}
    (hown : s.vm.findClass own = some m.cls) (hlink : (Cond.methodLink own index y).before args s = true) (hstat : (Cond.static y).before args s = true) (hinit : (Cond.initialized y.cls).before args s = true)
    (hcode : (Cond.codeWith y bytes maxL ret hh).before args s = true) (hy : y.cls ≠ "java/lang/invoke/MethodHandle" ∧ y.cls ≠ "java/lang/invoke/VarHandle")
    {W9 : Nat} {Pre : Pt → Array Value → Prop} {Post : Pt → Array Value → Option Value → Pt → Prop} {PostX : Pt → Array Value → Addr → Pt → Prop} (hK : vx_Back l R p e below s args y 3 W9 Pre Post PostX)
    {g : JFrame} (hg : g.method = m) (hsize : g.locals.size = c.maxLocals) {argsL rest : List Value} (hlen : ∀ sig, parseMethodDescriptor y.desc = some sig → argsL.length = sig.parameters.length)
    (hstack : g.stack = argsL.reverse ++ rest) (hW : 2 * g.monitorRoom + (rest.map fun v => v.category).sum ≤ W9) (hdg : decode c.code g.pc = .ok (.invokestatic index, 3))
    (hpre : ∀ vm₁, s.WarmedH vm₁ → Pre ⟨T.setVm vm₁, locs, cells, slots⟩ argsL.toArray) :
    (∃ (v : Option Value) (vm₁ : Vm) (B : Pt), s.WarmedH vm₁ ∧ Stand p l e R s m args below meth c B.U B.locs B.cells B.slots ∧ Post ⟨T.setVm vm₁, locs, cells, slots⟩ argsL.toArray v B ∧
      ∀ target, Steps p.tables e below (B.U.setTop { g with pc := g.pc + 3, stack := v.toList ++ rest }) target → Steps p.tables e below (T.setTop g) target) ∨
    (∃ (q : Addr) (vm₁ : Vm) (B : Pt), s.WarmedH vm₁ ∧ Stand p l e R s m args below meth c B.U B.locs B.cells B.slots ∧ PostX ⟨T.setVm vm₁, locs, cells, slots⟩ argsL.toArray q B ∧
      Steps p.tables e below (T.setTop g) ((B.U.setTop { g with stack := rest }).pushFrame (.throwing q))) := by
  obtain ⟨mk, methM, cM, hnamed, hmethM, -, -, -, -, -, -, hsigM⟩ := Cond.codeWith_spec hcode
  have hstatic : methM.isStatic = true := Cond.static_spec hnamed hmethM hstat
  obtain ⟨kP, hkP, -⟩ := className_of_methodNamed hnamed
  have hinitP : kP.init = .initialized := Cond.initialized_spec (findClass_of_methodNamed hnamed) hkP hinit
  obtain ⟨vm₁, X₁, hstep₁⟩ := X.invokestatic hexec hown hlink hnamed hmethM hstatic hkP hinitP hy (g := g) hg (argsL := argsL) (rest := rest) (hlen _ hsigM) hstack hdg
  rcases hK m meth c ⟨T.setVm vm₁, locs, cells, slots⟩ { g with stack := rest } (.invokestatic index) mk argsL.toArray X₁ hg hsize hdg hW (X₁.named hnamed) (hpre vm₁ X₁.warmed) with ⟨v, B, X', hpost, hsteps⟩ | ⟨q, B, X', hpost, hsteps⟩
  · exact Or.inl ⟨v, vm₁, B, X₁.warmed, X', hpost, fun target h => hstep₁ _ fun acts => by rw [doInvoke_state]; exact hsteps.trans h⟩
  · exact Or.inr ⟨q, vm₁, B, X₁.warmed, X', hpost, hstep₁ _ fun acts => by rw [doInvoke_state]; exact hsteps⟩
theorem vx_callVW (X : Stand p l e R s m args below meth c T locs cells slots) (hexec : p.tables.exec = Jvm.exec) {own C : String} {index : Nat} {y : MethodName} {bytes : ByteArray} {maxL : Nat} {ret : Option FieldType} {hh : List (Nat × Nat × Nat × Nat)}
    (hown : s.vm.findClass own = some m.cls) (hlink : (Cond.methodLink own index y).before args s = true) (hinst : (Cond.instanceMethod y).before args s = true) (hsel : (Cond.selects C y y).before args s = true)
    (hcode : (Cond.codeWith y bytes maxL ret hh).before args s = true) (hy : y.cls ≠ "java/lang/invoke/MethodHandle" ∧ y.cls ≠ "java/lang/invoke/VarHandle")
    {W9 : Nat} {Pre : Pt → Array Value → Prop} {Post : Pt → Array Value → Option Value → Pt → Prop} (hK : Back l R p e below s args y 3 W9 Pre Post)
    {b : Addr} {cellB : Cell} (hcell : T.heap[b]? = some cellB) (hobj : cellB.vm.isStatics = false) (hcls : s.vm.findClass C = some cellB.cls)
    {g : JFrame} (hg : g.method = m) (hsize : g.locals.size = c.maxLocals) {argsL rest : List Value} (hlen : ∀ sig, parseMethodDescriptor y.desc = some sig → argsL.length = sig.parameters.length)
    (hstack : g.stack = argsL.reverse ++ .ref b :: rest) (hW : 2 * g.monitorRoom + (rest.map fun v => v.category).sum ≤ W9) (hdg : decode c.code g.pc = .ok (.invokevirtual index, 3))
    (hpre : ∀ vm₁, s.WarmedH vm₁ → Pre ⟨T.setVm vm₁, locs, cells, slots⟩ (Value.ref b :: argsL).toArray) :
    ∃ (v : Option Value) (vm₁ : Vm) (B : Pt), s.WarmedH vm₁ ∧ Stand p l e R s m args below meth c B.U B.locs B.cells B.slots ∧ Post ⟨T.setVm vm₁, locs, cells, slots⟩ (Value.ref b :: argsL).toArray v B ∧
      ∀ target, Steps p.tables e below (B.U.setTop { g with pc := g.pc + 3, stack := v.toList ++ rest }) target → Steps p.tables e below (T.setTop g) target := by
  obtain ⟨mk, methM, hnamed, hmethM, hstM, habM⟩ := Cond.instanceMethod_spec hinst
  obtain ⟨m8, methM', cM, hn8, hmethM', -, -, -, -, -, -, hsigM⟩ := Cond.codeWith_spec hcode
  cases Option.some.inj (hn8.symm.trans hnamed)
  cases hmethM.symm.trans hmethM'
  obtain ⟨c2, r2, m2, q1, q2, q3, q4, kP, hkP, hkPi⟩ := Cond.selects_spec hsel
  cases hcls.symm.trans q1
  cases (State.methodFound?_of_named hnamed hy).symm.trans q2
  cases hnamed.symm.trans q3
  have hselP : selectMethod e.platform s.vm cellB.cls mk = .method mk := by rw [Launch.admits_selectMethod X.admits]; exact q4
  obtain ⟨vm₁, X₁, hstep₁⟩ := X.invokevirtual hexec hown hlink hnamed hmethM hstM hkP hkPi hy (a := b) (cell := cellB) hcell
    (fun z h => by rw [h] at hobj; cases hobj) hselP hmethM habM hkP hkPi (g := g) hg (argsL := argsL) (rest := rest) (hlen _ hsigM) hstack hdg
  obtain ⟨v, B, X', hpost, hsteps⟩ := hK m meth c ⟨T.setVm vm₁, locs, cells, slots⟩ { g with stack := rest } (.invokevirtual index) mk (Value.ref b :: argsL).toArray X₁ hg hsize hdg hW (X₁.named hnamed) (hpre vm₁ X₁.warmed)
  exact ⟨v, vm₁, B, X₁.warmed, X', hpost, fun target h => hstep₁ _ fun acts => by rw [doInvoke_state]; exact hsteps.trans h⟩
abbrev vx_CVW (R : Room) (s : State) (args : Array Value) (own C : String) (index : Nat) (y : MethodName) (bytes : ByteArray) (maxL : Nat) (ret : Option FieldType) (hh : List (Nat × Nat × Nat × Nat)) (ws : List Cond) (rm : Room) (mc ms n : Nat) : Prop :=
  (rm.cells = mc ∧ rm.slots = ms ∧ rm.frames + 1 ≤ R.frames ∧ 8 + (maxL + 11) + rm.locals ≤ R.locals ∧ (∀ w ∈ ws, ∀ (a' : Array Value) (U : State), s.WarmedH U.vm → w.before a' U = true) ∧ Cond.codeWith y bytes maxL ret hh ∈ ws) ∧
  (Cond.codeWith y bytes maxL ret hh).before args s = true ∧ (Cond.initialized y.cls).before args s = true ∧ (y.cls ≠ "java/lang/invoke/MethodHandle" ∧ y.cls ≠ "java/lang/invoke/VarHandle") ∧
  (∀ sig, parseMethodDescriptor y.desc = some sig → n = sig.parameters.length) ∧ (Cond.methodLink own index y).before args s = true ∧ (Cond.instanceMethod y).before args s = true ∧ (Cond.selects C y y).before args s = true
theorem vx_cwVW {own C : String} {index maxL mc ms : Nat} {y : MethodName} {bytes : ByteArray} {ret : Option FieldType} {hh : List (Nat × Nat × Nat × Nat)} {Ts ws ws' : List Cond} {rm : Room} (n : Nat) (ht : ∀ w ∈ Ts, w.before args s = true) (hT : GoodIn Ts (wsV own index C y ws)) (hw : ws = Cond.codeWith y bytes maxL ret hh :: ws') (hrc : rm.cells = mc) (hrs : rm.slots = ms)
    (hd : y.cls = C ∧ y.cls ≠ "java/lang/invoke/MethodHandle" ∧ y.cls ≠ "java/lang/invoke/VarHandle" ∧ (parseMethodDescriptor y.desc).map (fun d => d.parameters.length) = some n) (hR : rm.frames + 1 ≤ R.frames ∧ 8 + (maxL + 11) + rm.locals ≤ R.locals) :
    vx_CVW R s args own C index y bytes maxL ret hh ws rm mc ms n := by
  obtain ⟨hC, hd⟩ := hd
  subst hC
  have ok : ∀ w ∈ wsV own index y.cls y ws, w.before args s = true := fun w h => ht w (hT w h).1
  have hG : GoodIn Ts ws := fun w h => hT w (by unfold wsV; exact List.mem_append_right _ h)
  have hc : Cond.codeWith y bytes maxL ret hh ∈ ws := by rw [hw]; exact List.mem_cons_self
  refine ⟨⟨hrc, hrs, hR.1, hR.2, pay_in ht hG, hc⟩, ht _ (hG _ hc).1, ok _ (by simp [wsV]), ⟨hd.1, hd.2.1⟩, fun sig h => ?_, ok _ (by simp [wsV]), ok _ (by simp [wsV]), ok _ (by simp [wsV])⟩
  have h2 := hd.2.2
  rw [h] at h2
  exact (Option.some.inj h2).symm
theorem vx_runVW {y : MethodName} {bytes cc : ByteArray} {maxL nL mc ms n index : Nat} {ret : Option FieldType} {hh : List (Nat × Nat × Nat × Nat)} {ws : List Cond} {rm : Room} {Pc : Array Value → State → Prop} {Qc : Array Value → State → Outcome → State → Prop} {free : Addr → Prop} {Ts : List Cond} {own C : String} {b : Addr} {As rest : List Value} {g : JFrame}
    (S : CallFix p m c cc nL s args Ts own) (hM : Met l y ws rm Pc Qc mc ms free) (cw : vx_CVW R s args own C index y bytes maxL ret hh ws rm mc ms n) (hp : PreV s H C b Pc As)
    (hg : g.method = m) (hn : As.length = n) (hsize : g.locals.size = nL) (hstack : g.stack = As.reverse ++ .ref b :: rest) (hW : 2 * g.monitorRoom + (rest.map fun v => v.category).sum ≤ 8) (hdg : decode cc g.pc = .ok (.invokevirtual index, 3)) (hf : cells + mc ≤ R.cells ∧ slots + ms ≤ R.slots) :
    va_Run p l e R s m args below meth c H locs cells slots mc ms g rest (Qc (Value.ref b :: As).toArray) free := by
  obtain ⟨⟨hrc, hrs, hfr, hlo, hws, hcw⟩, hcode, hini, hy, hlen, hl, hin, hse⟩ := cw
  have hK : Back l R p e below s args y 3 8 (PreOf R mc ms Pc) (PostOf Qc mc ms free) := va_backW (hh := hh) (bytes := bytes) (maxL := maxL) (ret := ret) hM hp.1 hrc hrs hfr hlo hws hcw (fun a' U hW => word_at hW (Or.inl (by first | rfl | simp [Cond.onTables, Cond.keeps, Cond.steady])) hini)
  obtain ⟨hx, hb, hml, ho, -⟩ := S
  obtain ⟨-, ⟨cellB, hcB, hoB, hclB⟩, hPc⟩ := hp
  intro T hT X
  obtain ⟨v, vm₁, ⟨U', l2, c2, s2⟩, hW₁, X', ⟨g', mk, t, L, e1, e2, hq, h1, hL, h2, h3⟩, st⟩ := vx_callVW X hx (C := C) (hh := hh) (bytes := bytes) (maxL := maxL) (ret := ret) ho hl hin hse hcode hy hK (by rw [hT]; exact hcB) hoB hclB hg (hsize.trans hml.symm) (argsL := As) (rest := rest) (fun sig h => hn.trans (hlen sig h)) hstack hW (by rw [hb]; exact hdg)
    (fun vm₁ hW₁ => ⟨hf.1, hf.2, hPc (T.setVm vm₁) hT hW₁⟩)
  dsimp only [Pt.U, Pt.locs, Pt.cells, Pt.slots] at X' e1 e2 h1 h2 h3 st
  subst h1; subst h2; subst h3
  exact ⟨v, (T.setVm vm₁).calling g' mk (Value.ref b :: As).toArray, t, U', L, hT, X', hL, e1, e2, hq, st⟩
section
variable {y : MethodName} {bytes cc : ByteArray} {maxL nL mc ms n index : Nat} {ret : Option FieldType} {ws : List Cond} {rm : Room} {Pc : Array Value → State → Prop} {Qc : Array Value → State → Outcome → State → Prop} {XC : String → State → State → Prop} {free : Addr → Prop} {Ts : List Cond} {own C : String} {b : Addr} {As rest : List Value} {g : JFrame}
theorem vx_runVX {hh : List (Nat × Nat × Nat × Nat)} (S : CallFix p m c cc nL s args Ts own) (hM : vx_Met l y ws rm Pc Qc XC mc ms free) (cw : vx_CVW R s args own C index y bytes maxL ret hh ws rm mc ms n) (hp : PreV s H C b Pc As)
    (hg : g.method = m) (hn : As.length = n) (hsize : g.locals.size = nL) (hstack : g.stack = As.reverse ++ .ref b :: rest) (hW : 2 * g.monitorRoom + (rest.map fun v => v.category).sum ≤ 8) (hdg : decode cc g.pc = .ok (.invokevirtual index, 3)) (hf : cells + mc ≤ R.cells ∧ slots + ms ≤ R.slots) :
    vx_Run p l e R s m args below meth c H locs cells slots mc ms g rest (Qc (Value.ref b :: As).toArray) XC free := by
  obtain ⟨⟨hrc, hrs, hfr, hlo, hws, hcw⟩, hcode, hini, hy, hlen, hl, hin, hse⟩ := cw
  have hK : vx_Back l R p e below s args y 3 8 (PreOf R mc ms Pc) (PostOf Qc mc ms free) (vx_Post XC mc ms free) := vx_backW (hh := hh) (bytes := bytes) (maxL := maxL) (ret := ret) hM hp.1 hrc hrs hfr hlo hws hcw (fun a' U hW => word_at hW (Or.inl (by first | rfl | simp [Cond.onTables, Cond.keeps, Cond.steady])) hini)
  obtain ⟨hx, hb, hml, ho, -⟩ := S
  obtain ⟨-, ⟨cellB, hcB, hoB, hclB⟩, hPc⟩ := hp
  intro T hT X
  rcases vx_callVX X hx (C := C) (hh := hh) (bytes := bytes) (maxL := maxL) (ret := ret) ho hl hin hse hcode hy hK (by rw [hT]; exact hcB) hoB hclB hg (hsize.trans hml.symm) (argsL := As) (rest := rest) (fun sig h => hn.trans (hlen sig h)) hstack hW (by rw [hb]; exact hdg)
    (fun vm₁ hW₁ => ⟨hf.1, hf.2, hPc (T.setVm vm₁) hT hW₁⟩) with ⟨v, vm₁, ⟨U', l2, c2, s2⟩, hW₁, X', ⟨g', mk, t, L, e1, e2, hq, h1, hL, h2, h3⟩, st⟩ | ⟨q, vm₁, ⟨U', l2, c2, s2⟩, hW₁, X', ⟨g', mk, t, L, E, ce, e1, e2, hq, hce, hcv, hcl, h1, hL, h2, h3⟩, st⟩
  · dsimp only [Pt.U, Pt.locs, Pt.cells, Pt.slots] at X' e1 e2 h1 h2 h3 st
    subst h1; subst h2; subst h3
    exact Or.inl ⟨v, (T.setVm vm₁).calling g' mk (Value.ref b :: As).toArray, t, U', L, hT, X', hL, e1, e2, hq, st⟩
  · dsimp only [Pt.U, Pt.locs, Pt.cells, Pt.slots] at X' e1 e2 h1 h2 h3 st hcl
    subst h1; subst h2; subst h3
    exact Or.inr ⟨q, (T.setVm vm₁).calling g' mk (Value.ref b :: As).toArray, t, U', L, E, ce, hT, X', hL, e1, e2, hq, hce, hcv, vx_cls hW₁ hcl, st⟩
theorem vx_runSX {hh : List (Nat × Nat × Nat × Nat)} (S : CallFix p m c cc nL s args Ts own) (hM : vx_Met l y ws rm Pc Qc XC mc ms free) (cw : vx_CSW R s args own index y bytes maxL ret hh ws rm mc ms n) (hp : PreS s H Pc As)
    (hg : g.method = m) (hn : As.length = n) (hsize : g.locals.size = nL) (hstack : g.stack = As.reverse ++ rest) (hW : 2 * g.monitorRoom + (rest.map fun v => v.category).sum ≤ 8) (hdg : decode cc g.pc = .ok (.invokestatic index, 3)) (hf : cells + mc ≤ R.cells ∧ slots + ms ≤ R.slots) :
    vx_Run p l e R s m args below meth c H locs cells slots mc ms g rest (Qc As.toArray) XC free := by
  obtain ⟨⟨hrc, hrs, hfr, hlo, hws, hcw⟩, hcode, hini, hy, hlen, hl, hstt⟩ := cw
  have hK : vx_Back l R p e below s args y 3 8 (PreOf R mc ms Pc) (PostOf Qc mc ms free) (vx_Post XC mc ms free) := vx_backW (hh := hh) (bytes := bytes) (maxL := maxL) (ret := ret) hM hp.1 hrc hrs hfr hlo hws hcw (fun a' U hW => word_at hW (Or.inl (by first | rfl | simp [Cond.onTables, Cond.keeps, Cond.steady])) hini)
  obtain ⟨hx, hb, hml, ho, -⟩ := S
  intro T hT X
  rcases vx_callSX X hx (hh := hh) (bytes := bytes) (maxL := maxL) (ret := ret) ho hl hstt hini hcode hy hK hg (hsize.trans hml.symm) (argsL := As) (rest := rest) (fun sig h => hn.trans (hlen sig h)) hstack hW (by rw [hb]; exact hdg)
    (fun vm₁ hW₁ => ⟨hf.1, hf.2, hp.2 (T.setVm vm₁) hT hW₁⟩) with ⟨v, vm₁, ⟨U', l2, c2, s2⟩, hW₁, X', ⟨g', mk, t, L, e1, e2, hq, h1, hL, h2, h3⟩, st⟩ | ⟨q, vm₁, ⟨U', l2, c2, s2⟩, hW₁, X', ⟨g', mk, t, L, E, ce, e1, e2, hq, hce, hcv, hcl, h1, hL, h2, h3⟩, st⟩
  · dsimp only [Pt.U, Pt.locs, Pt.cells, Pt.slots] at X' e1 e2 h1 h2 h3 st
    subst h1; subst h2; subst h3
    exact Or.inl ⟨v, (T.setVm vm₁).calling g' mk As.toArray, t, U', L, hT, X', hL, e1, e2, hq, st⟩
  · dsimp only [Pt.U, Pt.locs, Pt.cells, Pt.slots] at X' e1 e2 h1 h2 h3 st hcl
    subst h1; subst h2; subst h3
    exact Or.inr ⟨q, (T.setVm vm₁).calling g' mk As.toArray, t, U', L, E, ce, hT, X', hL, e1, e2, hq, hce, hcv, vx_cls hW₁ hcl, st⟩
end
end VXH
theorem vx_ofWH {l : Launch} {y : MethodName} {ws ws' : List Cond} {rm : Room} {Pc : Array Value → State → Prop} {Qc : Array Value → State → Outcome → State → Prop} {XC : String → State → State → Prop} {mc ms : Nat} {free : Addr → Prop} {cc : ByteArray} {maxL : Nat} {ret : Option FieldType} {hh : List (Nat × Nat × Nat × Nat)}
    (hy : plainName y.cls = true) (hw : ws = Cond.codeWith y cc maxL ret hh :: ws')
    (body : ∀ p e s m args below meth c s₁, BodyLoose p l y (headSpec ws rm) cc maxL ret e s m args below meth c s₁ → c.maxLocals = maxL → Pc args s →
      W p l e (headSpec ws rm).room s m args below meth c s.heap [] 0 0 (vx_MQ below Qc XC args s mc ms free) (entryFrame m args maxL)) : vx_Met l y ws rm Pc Qc XC mc ms free := by
  refine MetFree.of_bodyS (code := cc) (maxLocals := maxL) (ret := ret) hy ?_ ?_
  · intro args s m h hn
    obtain ⟨m9, meth, c, hn9, h1, h2, h3, h4, -, h5, h6, -⟩ := Cond.codeWith_spec (atoms_spec (ws := ws) h _ (by rw [hw]; exact List.mem_cons_self))
    cases hn.symm.trans hn9
    exact ⟨meth, c, h1, h2, h3, h4, h5, h6⟩
  · intro p e s m args below meth c s₁ B hml hP _
    have hh0 : s₁.heap = s.heap := by rw [B.state]; rfl
    obtain ⟨t, a1, o, b1, b2, b3⟩ := body p e s m args below meth c s₁ B hml hP s₁ hh0 (Stand.of_body B)
    exact ⟨t, o, a1, b1, b2, b3⟩
/-! ===== END ===== -/

/-! ===== BEGIN printed: names, fields, word lists, decode rows ===== -/
def RX0 : String := "Threadline$Forest"
def TX0 : u_T := fun k => match k with
  | 0 => ("Threadline$Forest", "mail", "LThreadline$Mail;", true)
  | 1 => ("Threadline$Forest", "known", "[Z", true)
  | 2 => ("Threadline$Forest", "link", "[I", true)
  | 3 => ("Threadline$Forest", "parentOf", "[I", true)
  | 4 => ("Threadline$Forest", "standing", "[Z", true)
  | 5 => ("Threadline$Forest", "earliest", "[I", true)
  | 6 => ("Threadline$Forest", "turn", "[I", true)
  | 7 => ("Threadline$Forest", "size", "[I", true)
  | 8 => ("Threadline$Forest", "offset", "[I", true)
  | 9 => ("Threadline$Forest", "start", "[I", true)
  | 10 => ("Threadline$Forest", "order", "[I", true)
  | 11 => ("Threadline$Forest", "rootRow", "[I", true)
  | _ => ("Threadline$Forest", "rootCount", "I", false)
def tyX0 : Nat → FieldType := fun k => match k with
  | 0 => .object "Threadline$Mail"
  | 1 => .array .boolean
  | 2 => .array .int
  | 3 => .array .int
  | 4 => .array .boolean
  | 5 => .array .int
  | 6 => .array .int
  | 7 => .array .int
  | 8 => .array .int
  | 9 => .array .int
  | 10 => .array .int
  | 11 => .array .int
  | _ => .int
abbrev wsX00 : List Cond := u_ws RX0 TX0 13
theorem nmX0 : ∀ a, a < 13 → ∀ b, b < 13 → a ≠ b → (TX0 a).2.1 ≠ (TX0 b).2.1 := by decide +kernel
theorem tyX0_ok : ∀ k, k < 13 → parseFieldDescriptor (TX0 k).2.2.1 = some (tyX0 k) := by decide +kernel
abbrev cX0_init : ByteArray := prog_2_method_1_code
def yX0_init : MethodName := ⟨RX0, "<init>", "(LThreadline$Mail;)V"⟩
abbrev cX0_knows : ByteArray := prog_2_method_2_code
def yX0_knows : MethodName := ⟨RX0, "knows", "(I)Z"⟩
abbrev cX0_contains : ByteArray := prog_2_method_3_code
def yX0_contains : MethodName := ⟨RX0, "contains", "(I)Z"⟩
abbrev cX0_parentIn : ByteArray := prog_2_method_4_code
def yX0_parentIn : MethodName := ⟨RX0, "parentIn", "(I)I"⟩
abbrev cX0_countRoots : ByteArray := prog_2_method_5_code
def yX0_countRoots : MethodName := ⟨RX0, "countRoots", "()I"⟩
abbrev cX0_rootIdAt : ByteArray := prog_2_method_6_code
def yX0_rootIdAt : MethodName := ⟨RX0, "rootIdAt", "(I)I"⟩
abbrev cX0_countChildren : ByteArray := prog_2_method_7_code
def yX0_countChildren : MethodName := ⟨RX0, "countChildren", "(I)I"⟩
abbrev cX0_idAt : ByteArray := prog_2_method_8_code
def yX0_idAt : MethodName := ⟨RX0, "idAt", "(II)I"⟩
abbrev cX0_stepsToRoot : ByteArray := prog_2_method_9_code
def yX0_stepsToRoot : MethodName := ⟨RX0, "stepsToRoot", "(I)I"⟩
abbrev cX0_isInTree : ByteArray := prog_2_method_10_code
def yX0_isInTree : MethodName := ⟨RX0, "isInTree", "(II)Z"⟩
abbrev cX0_grow : ByteArray := prog_2_method_11_code
def yX0_grow : MethodName := ⟨RX0, "grow", "()V"⟩
abbrev cX0_findKnown : ByteArray := prog_2_method_12_code
def yX0_findKnown : MethodName := ⟨RX0, "findKnown", "()V"⟩
abbrev cX0_learn : ByteArray := prog_2_method_13_code
def yX0_learn : MethodName := ⟨RX0, "learn", "(I)V"⟩
abbrev cX0_linkKnown : ByteArray := prog_2_method_14_code
def yX0_linkKnown : MethodName := ⟨RX0, "linkKnown", "()V"⟩
abbrev cX0_linksLead : ByteArray := prog_2_method_15_code
def yX0_linksLead : MethodName := ⟨RX0, "linksLead", "(II)Z"⟩
abbrev cX0_hangByLinks : ByteArray := prog_2_method_16_code
def yX0_hangByLinks : MethodName := ⟨RX0, "hangByLinks", "()V"⟩
abbrev cX0_parentByLinks : ByteArray := prog_2_method_17_code
def yX0_parentByLinks : MethodName := ⟨RX0, "parentByLinks", "(I)I"⟩
abbrev cX0_keepMissing : ByteArray := prog_2_method_18_code
def yX0_keepMissing : MethodName := ⟨RX0, "keepMissing", "()V"⟩
abbrev cX0_freeChildren : ByteArray := prog_2_method_19_code
def yX0_freeChildren : MethodName := ⟨RX0, "freeChildren", "(I)V"⟩
abbrev cX0_hangReplies : ByteArray := prog_2_method_20_code
def yX0_hangReplies : MethodName := ⟨RX0, "hangReplies", "()V"⟩
abbrev cX0_letterAnsweredBy : ByteArray := prog_2_method_21_code
def yX0_letterAnsweredBy : MethodName := ⟨RX0, "letterAnsweredBy", "(I)I"⟩
abbrev cX0_measureTrees : ByteArray := prog_2_method_22_code
def yX0_measureTrees : MethodName := ⟨RX0, "measureTrees", "()V"⟩
abbrev cX0_countUpwards : ByteArray := prog_2_method_23_code
def yX0_countUpwards : MethodName := ⟨RX0, "countUpwards", "(I)V"⟩
abbrev cX0_comesBefore : ByteArray := prog_2_method_24_code
def yX0_comesBefore : MethodName := ⟨RX0, "comesBefore", "(II)Z"⟩
abbrev cX0_placeRoots : ByteArray := prog_2_method_25_code
def yX0_placeRoots : MethodName := ⟨RX0, "placeRoots", "()V"⟩
abbrev cX0_placeRoot : ByteArray := prog_2_method_26_code
def yX0_placeRoot : MethodName := ⟨RX0, "placeRoot", "(I)V"⟩
abbrev cX0_placeTrees : ByteArray := prog_2_method_27_code
def yX0_placeTrees : MethodName := ⟨RX0, "placeTrees", "()V"⟩
abbrev cX0_offsetBehindParent : ByteArray := prog_2_method_28_code
def yX0_offsetBehindParent : MethodName := ⟨RX0, "offsetBehindParent", "(I)I"⟩
abbrev cX0_startInOrder : ByteArray := prog_2_method_29_code
def yX0_startInOrder : MethodName := ⟨RX0, "startInOrder", "(I)I"⟩
def RX1 : String := "Threadline$Mail"
def TX1 : u_T := fun k => match k with
  | 0 => ("Threadline$Mail", "there", "[Z", true)
  | 1 => ("Threadline$Mail", "toldGrandparent", "[I", true)
  | 2 => ("Threadline$Mail", "toldParent", "[I", true)
  | 3 => ("Threadline$Mail", "subject", "[I", true)
  | 4 => ("Threadline$Mail", "reply", "[Z", true)
  | 5 => ("Threadline$Mail", "day", "[I", true)
  | 6 => ("Threadline$Mail", "person", "[I", true)
  | 7 => ("Threadline$Mail", "unseen", "[Z", true)
  | _ => ("Threadline$Mail", "hand", "[I", true)
def tyX1 : Nat → FieldType := fun k => match k with
  | 0 => .array .boolean
  | 1 => .array .int
  | 2 => .array .int
  | 3 => .array .int
  | 4 => .array .boolean
  | 5 => .array .int
  | 6 => .array .int
  | 7 => .array .boolean
  | _ => .array .int
abbrev wsX10 : List Cond := u_ws RX1 TX1 9
theorem nmX1 : ∀ a, a < 9 → ∀ b, b < 9 → a ≠ b → (TX1 a).2.1 ≠ (TX1 b).2.1 := by decide +kernel
theorem tyX1_ok : ∀ k, k < 9 → parseFieldDescriptor (TX1 k).2.2.1 = some (tyX1 k) := by decide +kernel
abbrev cX1_init : ByteArray := prog_3_method_1_code
def yX1_init : MethodName := ⟨RX1, "<init>", "()V"⟩
abbrev cX1_holds : ByteArray := prog_3_method_2_code
def yX1_holds : MethodName := ⟨RX1, "holds", "(I)Z"⟩
abbrev cX1_put : ByteArray := prog_3_method_3_code
def yX1_put : MethodName := ⟨RX1, "put", "(IIIIII)V"⟩
abbrev cX1_drop : ByteArray := prog_3_method_4_code
def yX1_drop : MethodName := ⟨RX1, "drop", "(I)V"⟩
abbrev cX1_setHand : ByteArray := prog_3_method_5_code
def yX1_setHand : MethodName := ⟨RX1, "setHand", "(II)V"⟩
abbrev cX1_handOf : ByteArray := prog_3_method_6_code
def yX1_handOf : MethodName := ⟨RX1, "handOf", "(I)I"⟩
abbrev cX1_isUnread : ByteArray := prog_3_method_7_code
def yX1_isUnread : MethodName := ⟨RX1, "isUnread", "(I)Z"⟩
abbrev cX1_markRead : ByteArray := prog_3_method_8_code
def yX1_markRead : MethodName := ⟨RX1, "markRead", "(I)Z"⟩
abbrev cX1_writerBit : ByteArray := prog_3_method_9_code
def yX1_writerBit : MethodName := ⟨RX1, "writerBit", "(I)I"⟩
abbrev cX1_dayOf : ByteArray := prog_3_method_10_code
def yX1_dayOf : MethodName := ⟨RX1, "dayOf", "(I)I"⟩
abbrev cX1_parentToldBy : ByteArray := prog_3_method_11_code
def yX1_parentToldBy : MethodName := ⟨RX1, "parentToldBy", "(I)I"⟩
abbrev cX1_grandparentToldBy : ByteArray := prog_3_method_12_code
def yX1_grandparentToldBy : MethodName := ⟨RX1, "grandparentToldBy", "(I)I"⟩
abbrev cX1_toldParentOf : ByteArray := prog_3_method_13_code
def yX1_toldParentOf : MethodName := ⟨RX1, "toldParentOf", "(I)I"⟩
abbrev cX1_guessedParentOf : ByteArray := prog_3_method_14_code
def yX1_guessedParentOf : MethodName := ⟨RX1, "guessedParentOf", "(I)I"⟩
abbrev cX1_isReply : ByteArray := prog_3_method_15_code
def yX1_isReply : MethodName := ⟨RX1, "isReply", "(I)Z"⟩
abbrev cX1_isAnsweredBy : ByteArray := prog_3_method_16_code
def yX1_isAnsweredBy : MethodName := ⟨RX1, "isAnsweredBy", "(II)Z"⟩
def RX2 : String := "Threadline"
def TX2 : u_T := fun k => match k with
  | 0 => ("Threadline", "mail", "LThreadline$Mail;", true)
  | _ => ("Threadline", "forest", "LThreadline$Forest;", true)
def tyX2 : Nat → FieldType := fun k => match k with
  | 0 => .object "Threadline$Mail"
  | _ => .object "Threadline$Forest"
abbrev wsX20 : List Cond := u_ws RX2 TX2 2
theorem nmX2 : ∀ a, a < 2 → ∀ b, b < 2 → a ≠ b → (TX2 a).2.1 ≠ (TX2 b).2.1 := by decide +kernel
theorem tyX2_ok : ∀ k, k < 2 → parseFieldDescriptor (TX2 k).2.2.1 = some (tyX2 k) := by decide +kernel
abbrev cX2_init : ByteArray := prog_1_method_1_code
def yX2_init : MethodName := ⟨RX2, "<init>", "()V"⟩
abbrev cX2_letter : ByteArray := prog_1_method_2_code
def yX2_letter : MethodName := ⟨RX2, "letter", "(IIIIII)I"⟩
abbrev cX2_delete : ByteArray := prog_1_method_3_code
def yX2_delete : MethodName := ⟨RX2, "delete", "(I)I"⟩
abbrev cX2_split : ByteArray := prog_1_method_4_code
def yX2_split : MethodName := ⟨RX2, "split", "(I)I"⟩
abbrev cX2_join : ByteArray := prog_1_method_5_code
def yX2_join : MethodName := ⟨RX2, "join", "(II)I"⟩
abbrev cX2_release : ByteArray := prog_1_method_6_code
def yX2_release : MethodName := ⟨RX2, "release", "(I)Z"⟩
abbrev cX2_read : ByteArray := prog_1_method_7_code
def yX2_read : MethodName := ⟨RX2, "read", "(I)I"⟩
abbrev cX2_state : ByteArray := prog_1_method_8_code
def yX2_state : MethodName := ⟨RX2, "state", "(I)I"⟩
abbrev cX2_parent : ByteArray := prog_1_method_9_code
def yX2_parent : MethodName := ⟨RX2, "parent", "(I)I"⟩
abbrev cX2_children : ByteArray := prog_1_method_10_code
def yX2_children : MethodName := ⟨RX2, "children", "(I)I"⟩
abbrev cX2_roots : ByteArray := prog_1_method_11_code
def yX2_roots : MethodName := ⟨RX2, "roots", "()I"⟩
abbrev cX2_root : ByteArray := prog_1_method_12_code
def yX2_root : MethodName := ⟨RX2, "root", "(I)I"⟩
abbrev cX2_inTree : ByteArray := prog_1_method_13_code
def yX2_inTree : MethodName := ⟨RX2, "inTree", "(II)I"⟩
abbrev cX2_depth : ByteArray := prog_1_method_14_code
def yX2_depth : MethodName := ⟨RX2, "depth", "(I)I"⟩
abbrev cX2_letters : ByteArray := prog_1_method_15_code
def yX2_letters : MethodName := ⟨RX2, "letters", "(I)I"⟩
abbrev cX2_unread : ByteArray := prog_1_method_16_code
def yX2_unread : MethodName := ⟨RX2, "unread", "(I)I"⟩
abbrev cX2_people : ByteArray := prog_1_method_17_code
def yX2_people : MethodName := ⟨RX2, "people", "(I)I"⟩
abbrev cX2_latest : ByteArray := prog_1_method_18_code
def yX2_latest : MethodName := ⟨RX2, "latest", "(I)I"⟩
abbrev cX2_isId : ByteArray := prog_1_method_19_code
def yX2_isId : MethodName := ⟨RX2, "isId", "(I)Z"⟩
abbrev cX2_requireId : ByteArray := prog_1_method_20_code
def yX2_requireId : MethodName := ⟨RX2, "requireId", "(I)V"⟩
abbrev cX2_requireTold : ByteArray := prog_1_method_21_code
def yX2_requireTold : MethodName := ⟨RX2, "requireTold", "(II)V"⟩
abbrev cX2_requireBelow : ByteArray := prog_1_method_22_code
def yX2_requireBelow : MethodName := ⟨RX2, "requireBelow", "(II)V"⟩
abbrev cX2_requireLetter : ByteArray := prog_1_method_23_code
def yX2_requireLetter : MethodName := ⟨RX2, "requireLetter", "(I)V"⟩
abbrev cX2_requireInForest : ByteArray := prog_1_method_24_code
def yX2_requireInForest : MethodName := ⟨RX2, "requireInForest", "(I)V"⟩
def RX3 : String := "ThreadlineModel"
def TX3 : u_T := fun k => match k with
  | 0 => ("ThreadlineModel", "there", "[Z", true)
  | 1 => ("ThreadlineModel", "tells", "[I", true)
  | 2 => ("ThreadlineModel", "beyond", "[I", true)
  | 3 => ("ThreadlineModel", "subject", "[I", true)
  | 4 => ("ThreadlineModel", "day", "[I", true)
  | 5 => ("ThreadlineModel", "person", "[I", true)
  | 6 => ("ThreadlineModel", "unread", "[Z", true)
  | 7 => ("ThreadlineModel", "hand", "[I", true)
  | 8 => ("ThreadlineModel", "known", "[Z", true)
  | 9 => ("ThreadlineModel", "link", "[I", true)
  | 10 => ("ThreadlineModel", "above", "[I", true)
  | 11 => ("ThreadlineModel", "grows", "[Z", true)
  | 12 => ("ThreadlineModel", "order", "[I", true)
  | 13 => ("ThreadlineModel", "many", "I", false)
  | 14 => ("ThreadlineModel", "stack", "[I", true)
  | _ => ("ThreadlineModel", "thrown", "I", false)
def tyX3 : Nat → FieldType := fun k => match k with
  | 0 => .array .boolean
  | 1 => .array .int
  | 2 => .array .int
  | 3 => .array .int
  | 4 => .array .int
  | 5 => .array .int
  | 6 => .array .boolean
  | 7 => .array .int
  | 8 => .array .boolean
  | 9 => .array .int
  | 10 => .array .int
  | 11 => .array .boolean
  | 12 => .array .int
  | 13 => .int
  | 14 => .array .int
  | _ => .int
abbrev wsX30 : List Cond := u_ws RX3 TX3 16
theorem nmX3 : ∀ a, a < 16 → ∀ b, b < 16 → a ≠ b → (TX3 a).2.1 ≠ (TX3 b).2.1 := by decide +kernel
theorem tyX3_ok : ∀ k, k < 16 → parseFieldDescriptor (TX3 k).2.2.1 = some (tyX3 k) := by decide +kernel
abbrev cX3_init : ByteArray := prog_5_method_1_code
def yX3_init : MethodName := ⟨RX3, "<init>", "()V"⟩
abbrev cX3_thrown : ByteArray := prog_5_method_2_code
def yX3_thrown : MethodName := ⟨RX3, "thrown", "()I"⟩
abbrev cX3_in : ByteArray := prog_5_method_3_code
def yX3_in : MethodName := ⟨RX3, "in", "(III)Z"⟩
abbrev cX3_asked : ByteArray := prog_5_method_4_code
def yX3_asked : MethodName := ⟨RX3, "asked", "(Z)Z"⟩
abbrev cX3_asked_ : ByteArray := prog_5_method_5_code
def yX3_asked_ : MethodName := ⟨RX3, "asked", "(ZZ)Z"⟩
abbrev cX3_isId : ByteArray := prog_5_method_6_code
def yX3_isId : MethodName := ⟨RX3, "isId", "(I)Z"⟩
abbrev cX3_knows : ByteArray := prog_5_method_7_code
def yX3_knows : MethodName := ⟨RX3, "knows", "()V"⟩
abbrev cX3_toldParent : ByteArray := prog_5_method_8_code
def yX3_toldParent : MethodName := ⟨RX3, "toldParent", "(I)I"⟩
abbrev cX3_isBelow : ByteArray := prog_5_method_9_code
def yX3_isBelow : MethodName := ⟨RX3, "isBelow", "(II)Z"⟩
abbrev cX3_links : ByteArray := prog_5_method_10_code
def yX3_links : MethodName := ⟨RX3, "links", "()V"⟩
abbrev cX3_isAlone : ByteArray := prog_5_method_11_code
def yX3_isAlone : MethodName := ⟨RX3, "isAlone", "(I)Z"⟩
abbrev cX3_forest : ByteArray := prog_5_method_12_code
def yX3_forest : MethodName := ⟨RX3, "forest", "()V"⟩
abbrev cX3_trees : ByteArray := prog_5_method_13_code
def yX3_trees : MethodName := ⟨RX3, "trees", "(I)V"⟩
abbrev cX3_isAhead : ByteArray := prog_5_method_14_code
def yX3_isAhead : MethodName := ⟨RX3, "isAhead", "(II)Z"⟩
abbrev cX3_rootsNow : ByteArray := prog_5_method_15_code
def yX3_rootsNow : MethodName := ⟨RX3, "rootsNow", "()I"⟩
abbrev cX3_rootsThen : ByteArray := prog_5_method_16_code
def yX3_rootsThen : MethodName := ⟨RX3, "rootsThen", "()I"⟩
abbrev cX3_letter : ByteArray := prog_5_method_17_code
def yX3_letter : MethodName := ⟨RX3, "letter", "(IIIIII)I"⟩
abbrev cX3_isLetter : ByteArray := prog_5_method_18_code
def yX3_isLetter : MethodName := ⟨RX3, "isLetter", "(I)Z"⟩
abbrev cX3_delete : ByteArray := prog_5_method_19_code
def yX3_delete : MethodName := ⟨RX3, "delete", "(I)I"⟩
abbrev cX3_split : ByteArray := prog_5_method_20_code
def yX3_split : MethodName := ⟨RX3, "split", "(I)I"⟩
abbrev cX3_join : ByteArray := prog_5_method_21_code
def yX3_join : MethodName := ⟨RX3, "join", "(II)I"⟩
abbrev cX3_release : ByteArray := prog_5_method_22_code
def yX3_release : MethodName := ⟨RX3, "release", "(I)Z"⟩
abbrev cX3_looks : ByteArray := prog_5_method_23_code
def yX3_looks : MethodName := ⟨RX3, "looks", "(I)Z"⟩
abbrev cX3_read : ByteArray := prog_5_method_24_code
def yX3_read : MethodName := ⟨RX3, "read", "(I)I"⟩
abbrev cX3_state : ByteArray := prog_5_method_25_code
def yX3_state : MethodName := ⟨RX3, "state", "(I)I"⟩
abbrev cX3_parent : ByteArray := prog_5_method_26_code
def yX3_parent : MethodName := ⟨RX3, "parent", "(I)I"⟩
abbrev cX3_children : ByteArray := prog_5_method_27_code
def yX3_children : MethodName := ⟨RX3, "children", "(I)I"⟩
abbrev cX3_roots : ByteArray := prog_5_method_28_code
def yX3_roots : MethodName := ⟨RX3, "roots", "()I"⟩
abbrev cX3_earliest : ByteArray := prog_5_method_29_code
def yX3_earliest : MethodName := ⟨RX3, "earliest", "(I)I"⟩
abbrev cX3_root : ByteArray := prog_5_method_30_code
def yX3_root : MethodName := ⟨RX3, "root", "(I)I"⟩
abbrev cX3_inTree : ByteArray := prog_5_method_31_code
def yX3_inTree : MethodName := ⟨RX3, "inTree", "(II)I"⟩
abbrev cX3_depth : ByteArray := prog_5_method_32_code
def yX3_depth : MethodName := ⟨RX3, "depth", "(I)I"⟩
abbrev cX3_letters : ByteArray := prog_5_method_33_code
def yX3_letters : MethodName := ⟨RX3, "letters", "(I)I"⟩
abbrev cX3_unread : ByteArray := prog_5_method_34_code
def yX3_unread : MethodName := ⟨RX3, "unread", "(I)I"⟩
abbrev cX3_people : ByteArray := prog_5_method_35_code
def yX3_people : MethodName := ⟨RX3, "people", "(I)I"⟩
abbrev cX3_latest : ByteArray := prog_5_method_36_code
def yX3_latest : MethodName := ⟨RX3, "latest", "(I)I"⟩
def RJ9 : String := "java/lang/Math"
def TJ9 : u_T := fun k => match k with
  | _ => ("", "", "", false)
def tyJ9 : Nat → FieldType := fun k => match k with
  | _ => .int
abbrev wsJ90 : List Cond := u_ws RJ9 TJ9 0
theorem nmJ9 : ∀ a, a < 0 → ∀ b, b < 0 → a ≠ b → (TJ9 a).2.1 ≠ (TJ9 b).2.1 := by decide +kernel
theorem tyJ9_ok : ∀ k, k < 0 → parseFieldDescriptor (TJ9 k).2.2.1 = some (tyJ9 k) := by decide +kernel
abbrev cJ9_max_7cf53 : ByteArray := prog_10_method_65_code
def yJ9_max_7cf53 : MethodName := ⟨RJ9, "max", "(II)I"⟩
abbrev cJ9_min_7cf53 : ByteArray := prog_10_method_69_code
def yJ9_min_7cf53 : MethodName := ⟨RJ9, "min", "(II)I"⟩
def RJ0 : String := "java/lang/String"
def TJ0 : u_T := fun k => match k with
  | _ => ("", "", "", false)
def tyJ0 : Nat → FieldType := fun k => match k with
  | _ => .int
abbrev wsJ00 : List Cond := u_ws RJ0 TJ0 0
theorem nmJ0 : ∀ a, a < 0 → ∀ b, b < 0 → a ≠ b → (TJ0 a).2.1 ≠ (TJ0 b).2.1 := by decide +kernel
theorem tyJ0_ok : ∀ k, k < 0 → parseFieldDescriptor (TJ0 k).2.2.1 = some (tyJ0 k) := by decide +kernel
def RL : String := "ThreadlineLaw"
abbrev cL_letter : ByteArray := method_3_code
def yL_letter : MethodName := ⟨RL, "letter", "(LThreadline;IIIIII[J)I"⟩
abbrev cL_delete : ByteArray := method_4_code
def yL_delete : MethodName := ⟨RL, "delete", "(LThreadline;I[J)I"⟩
abbrev cL_split : ByteArray := method_5_code
def yL_split : MethodName := ⟨RL, "split", "(LThreadline;I[J)I"⟩
abbrev cL_join : ByteArray := method_6_code
def yL_join : MethodName := ⟨RL, "join", "(LThreadline;II[J)I"⟩
abbrev cL_release : ByteArray := method_7_code
def yL_release : MethodName := ⟨RL, "release", "(LThreadline;I[J)I"⟩
abbrev cL_read : ByteArray := method_8_code
def yL_read : MethodName := ⟨RL, "read", "(LThreadline;I[J)I"⟩
abbrev cL_state : ByteArray := method_9_code
def yL_state : MethodName := ⟨RL, "state", "(LThreadline;I[J)I"⟩
abbrev cL_parent : ByteArray := method_10_code
def yL_parent : MethodName := ⟨RL, "parent", "(LThreadline;I[J)I"⟩
abbrev cL_children : ByteArray := method_11_code
def yL_children : MethodName := ⟨RL, "children", "(LThreadline;I[J)I"⟩
abbrev cL_root : ByteArray := method_12_code
def yL_root : MethodName := ⟨RL, "root", "(LThreadline;I[J)I"⟩
abbrev cL_inTree : ByteArray := method_13_code
def yL_inTree : MethodName := ⟨RL, "inTree", "(LThreadline;II[J)I"⟩
abbrev cL_depth : ByteArray := method_14_code
def yL_depth : MethodName := ⟨RL, "depth", "(LThreadline;I[J)I"⟩
abbrev cL_letters : ByteArray := method_15_code
def yL_letters : MethodName := ⟨RL, "letters", "(LThreadline;I[J)I"⟩
abbrev cL_unread : ByteArray := method_16_code
def yL_unread : MethodName := ⟨RL, "unread", "(LThreadline;I[J)I"⟩
abbrev cL_people : ByteArray := method_17_code
def yL_people : MethodName := ⟨RL, "people", "(LThreadline;I[J)I"⟩
abbrev cL_latest : ByteArray := method_18_code
def yL_latest : MethodName := ⟨RL, "latest", "(LThreadline;I[J)I"⟩
abbrev cL_law : ByteArray := code
def yL_law : MethodName := ⟨RL, "law", "([I)Z"⟩
def wsX0_init : List Cond := .code yX0_init cX0_init 2 none :: ([.methodLink RX0 3 objectInit, .instanceMethod objectInit, .code objectInit ⟨#[0xb1]⟩ 1 none, .arrayClass .boolean, .fieldLink RX0 9 "Threadline$Forest" "known" "[Z", .arrayClass .int, .fieldLink RX0 15 "Threadline$Forest" "link" "[I", .fieldLink RX0 19 "Threadline$Forest" "parentOf" "[I", .fieldLink RX0 22 "Threadline$Forest" "standing" "[Z", .fieldLink RX0 25 "Threadline$Forest" "earliest" "[I", .fieldLink RX0 28 "Threadline$Forest" "turn" "[I", .fieldLink RX0 31 "Threadline$Forest" "size" "[I", .fieldLink RX0 34 "Threadline$Forest" "offset" "[I", .fieldLink RX0 37 "Threadline$Forest" "start" "[I", .fieldLink RX0 40 "Threadline$Forest" "order" "[I", .fieldLink RX0 43 "Threadline$Forest" "rootRow" "[I", .fieldLink RX0 46 "Threadline$Forest" "mail" "LThreadline$Mail;"] ++ wsX00)
def wsX2_isId : List Cond := .code yX2_isId cX2_isId 1 (some .boolean) :: ([])
def wsX0_knows : List Cond := .code yX0_knows cX0_knows 2 (some .boolean) :: ([.fieldLink RX0 9 "Threadline$Forest" "known" "[Z", .static yX2_isId, .initialized RX2, .code yX2_isId cX2_isId 1 (some .boolean)] ++ wsX00)
def wsX0_contains : List Cond := .code yX0_contains cX0_contains 2 (some .boolean) :: ([.fieldLink RX0 22 "Threadline$Forest" "standing" "[Z", .static yX2_isId, .initialized RX2, .code yX2_isId cX2_isId 1 (some .boolean)] ++ wsX00)
def wsX0_parentIn : List Cond := .code yX0_parentIn cX0_parentIn 2 (some .int) :: ([.fieldLink RX0 19 "Threadline$Forest" "parentOf" "[I", .methodLink RX0 54 yX0_contains, .instanceMethod yX0_contains, .selects RX0 yX0_contains yX0_contains, .initialized RX0, .code yX0_contains cX0_contains 2 (some .boolean), .fieldLink RX0 22 "Threadline$Forest" "standing" "[Z", .static yX2_isId, .initialized RX2, .code yX2_isId cX2_isId 1 (some .boolean)] ++ wsX00)
def wsX0_countRoots : List Cond := .code yX0_countRoots cX0_countRoots 1 (some .int) :: ([.fieldLink RX0 57 "Threadline$Forest" "rootCount" "I"] ++ wsX00)
def wsX0_rootIdAt : List Cond := .code yX0_rootIdAt cX0_rootIdAt 2 (some .int) :: ([.fieldLink RX0 57 "Threadline$Forest" "rootCount" "I", .fieldLink RX0 43 "Threadline$Forest" "rootRow" "[I", .static yX2_isId, .initialized RX2, .code yX2_isId cX2_isId 1 (some .boolean)] ++ wsX00)
def wsX0_countChildren : List Cond := .code yX0_countChildren cX0_countChildren 4 (some .int) :: ([.fieldLink RX0 19 "Threadline$Forest" "parentOf" "[I"] ++ wsX00)
def wsX0_idAt : List Cond := .code yX0_idAt cX0_idAt 4 (some .int) :: ([.fieldLink RX0 31 "Threadline$Forest" "size" "[I", .fieldLink RX0 37 "Threadline$Forest" "start" "[I", .fieldLink RX0 40 "Threadline$Forest" "order" "[I", .methodLink RX0 54 yX0_contains, .instanceMethod yX0_contains, .selects RX0 yX0_contains yX0_contains, .initialized RX0, .code yX0_contains cX0_contains 2 (some .boolean), .fieldLink RX0 22 "Threadline$Forest" "standing" "[Z", .static yX2_isId, .initialized RX2, .code yX2_isId cX2_isId 1 (some .boolean)] ++ wsX00)
def wsX0_stepsToRoot : List Cond := .code yX0_stepsToRoot cX0_stepsToRoot 4 (some .int) :: ([.methodLink RX0 61 yX0_parentIn, .instanceMethod yX0_parentIn, .selects RX0 yX0_parentIn yX0_parentIn, .initialized RX0, .code yX0_parentIn cX0_parentIn 2 (some .int), .fieldLink RX0 19 "Threadline$Forest" "parentOf" "[I", .methodLink RX0 54 yX0_contains, .instanceMethod yX0_contains, .selects RX0 yX0_contains yX0_contains, .code yX0_contains cX0_contains 2 (some .boolean), .fieldLink RX0 22 "Threadline$Forest" "standing" "[Z", .static yX2_isId, .initialized RX2, .code yX2_isId cX2_isId 1 (some .boolean)] ++ wsX00)
def wsX0_isInTree : List Cond := .code yX0_isInTree cX0_isInTree 5 (some .boolean) :: ([.static yX2_isId, .initialized RX2, .code yX2_isId cX2_isId 1 (some .boolean), .methodLink RX0 61 yX0_parentIn, .instanceMethod yX0_parentIn, .selects RX0 yX0_parentIn yX0_parentIn, .initialized RX0, .code yX0_parentIn cX0_parentIn 2 (some .int), .fieldLink RX0 19 "Threadline$Forest" "parentOf" "[I", .methodLink RX0 54 yX0_contains, .instanceMethod yX0_contains, .selects RX0 yX0_contains yX0_contains, .code yX0_contains cX0_contains 2 (some .boolean), .fieldLink RX0 22 "Threadline$Forest" "standing" "[Z"] ++ wsX00)
def wsX1_holds : List Cond := .code yX1_holds cX1_holds 2 (some .boolean) :: ([.fieldLink RX1 9 "Threadline$Mail" "there" "[Z"] ++ wsX10)
def wsX1_parentToldBy : List Cond := .code yX1_parentToldBy cX1_parentToldBy 2 (some .int) :: ([.fieldLink RX1 19 "Threadline$Mail" "toldParent" "[I", .methodLink RX1 44 yX1_holds, .instanceMethod yX1_holds, .selects RX1 yX1_holds yX1_holds, .initialized RX1, .code yX1_holds cX1_holds 2 (some .boolean), .fieldLink RX1 9 "Threadline$Mail" "there" "[Z"] ++ wsX10)
def wsX0_learn : List Cond := .code yX0_learn cX0_learn 2 none :: ([.fieldLink RX0 9 "Threadline$Forest" "known" "[Z", .static yX2_isId, .initialized RX2, .code yX2_isId cX2_isId 1 (some .boolean)] ++ wsX00)
def wsX1_grandparentToldBy : List Cond := .code yX1_grandparentToldBy cX1_grandparentToldBy 2 (some .int) :: ([.fieldLink RX1 15 "Threadline$Mail" "toldGrandparent" "[I", .methodLink RX1 44 yX1_holds, .instanceMethod yX1_holds, .selects RX1 yX1_holds yX1_holds, .initialized RX1, .code yX1_holds cX1_holds 2 (some .boolean), .fieldLink RX1 9 "Threadline$Mail" "there" "[Z"] ++ wsX10)
def wsX1_handOf : List Cond := .code yX1_handOf cX1_handOf 2 (some .int) :: ([.fieldLink RX1 37 "Threadline$Mail" "hand" "[I", .methodLink RX1 44 yX1_holds, .instanceMethod yX1_holds, .selects RX1 yX1_holds yX1_holds, .initialized RX1, .code yX1_holds cX1_holds 2 (some .boolean), .fieldLink RX1 9 "Threadline$Mail" "there" "[Z"] ++ wsX10)
def wsX0_findKnown_r1 : List Cond := [Cond.fieldLink RX0 9 "Threadline$Forest" "known" "[Z", Cond.fieldLink RX0 46 "Threadline$Forest" "mail" "LThreadline$Mail;", Cond.instanceMethod yX1_holds, Cond.initialized RX1, Cond.selects RX1 yX1_holds yX1_holds, Cond.code yX1_holds cX1_holds 2 (some .boolean), Cond.fieldLink RX1 9 "Threadline$Mail" "there" "[Z", Cond.instanceMethod yX1_parentToldBy, Cond.selects RX1 yX1_parentToldBy yX1_parentToldBy, Cond.code yX1_parentToldBy cX1_parentToldBy 2 (some .int), Cond.fieldLink RX1 19 "Threadline$Mail" "toldParent" "[I", Cond.methodLink RX1 44 yX1_holds, Cond.methodLink RX0 97 yX0_learn, Cond.instanceMethod yX0_learn, Cond.selects RX0 yX0_learn yX0_learn, Cond.initialized RX0, Cond.code yX0_learn cX0_learn 2 none, Cond.static yX2_isId, Cond.initialized RX2, Cond.code yX2_isId cX2_isId 1 (some .boolean), Cond.instanceMethod yX1_grandparentToldBy, Cond.selects RX1 yX1_grandparentToldBy yX1_grandparentToldBy, Cond.code yX1_grandparentToldBy cX1_grandparentToldBy 2 (some .int), Cond.fieldLink RX1 15 "Threadline$Mail" "toldGrandparent" "[I"]
def wsX0_findKnown_r2 : List Cond := [Cond.instanceMethod yX1_handOf, Cond.selects RX1 yX1_handOf yX1_handOf, Cond.code yX1_handOf cX1_handOf 2 (some .int), Cond.fieldLink RX1 37 "Threadline$Mail" "hand" "[I"]
def wsX0_findKnown : List Cond := .code yX0_findKnown cX0_findKnown 2 none :: ((wsX0_findKnown_r1 ++ wsX0_findKnown_r2) ++ wsX00 ++ wsX10)
def wsX1_guessedParentOf : List Cond := .code yX1_guessedParentOf cX1_guessedParentOf 3 (some .int) :: ([.methodLink RX1 57 yX1_parentToldBy, .instanceMethod yX1_parentToldBy, .selects RX1 yX1_parentToldBy yX1_parentToldBy, .initialized RX1, .code yX1_parentToldBy cX1_parentToldBy 2 (some .int), .fieldLink RX1 19 "Threadline$Mail" "toldParent" "[I", .methodLink RX1 44 yX1_holds, .instanceMethod yX1_holds, .selects RX1 yX1_holds yX1_holds, .code yX1_holds cX1_holds 2 (some .boolean), .fieldLink RX1 9 "Threadline$Mail" "there" "[Z", .methodLink RX1 60 yX1_grandparentToldBy, .instanceMethod yX1_grandparentToldBy, .selects RX1 yX1_grandparentToldBy yX1_grandparentToldBy, .code yX1_grandparentToldBy cX1_grandparentToldBy 2 (some .int), .fieldLink RX1 15 "Threadline$Mail" "toldGrandparent" "[I"] ++ wsX10)
def wsX1_toldParentOf_r1 : List Cond := [Cond.methodLink RX1 44 yX1_holds, Cond.instanceMethod yX1_holds, Cond.selects RX1 yX1_holds yX1_holds, Cond.initialized RX1, Cond.code yX1_holds cX1_holds 2 (some .boolean), Cond.fieldLink RX1 9 "Threadline$Mail" "there" "[Z", Cond.methodLink RX1 50 yX1_guessedParentOf, Cond.instanceMethod yX1_guessedParentOf, Cond.selects RX1 yX1_guessedParentOf yX1_guessedParentOf, Cond.code yX1_guessedParentOf cX1_guessedParentOf 3 (some .int), Cond.methodLink RX1 57 yX1_parentToldBy, Cond.instanceMethod yX1_parentToldBy, Cond.selects RX1 yX1_parentToldBy yX1_parentToldBy, Cond.code yX1_parentToldBy cX1_parentToldBy 2 (some .int), Cond.fieldLink RX1 19 "Threadline$Mail" "toldParent" "[I", Cond.methodLink RX1 60 yX1_grandparentToldBy, Cond.instanceMethod yX1_grandparentToldBy, Cond.selects RX1 yX1_grandparentToldBy yX1_grandparentToldBy, Cond.code yX1_grandparentToldBy cX1_grandparentToldBy 2 (some .int), Cond.fieldLink RX1 15 "Threadline$Mail" "toldGrandparent" "[I", Cond.methodLink RX1 54 yX1_handOf, Cond.instanceMethod yX1_handOf, Cond.selects RX1 yX1_handOf yX1_handOf, Cond.code yX1_handOf cX1_handOf 2 (some .int)]
def wsX1_toldParentOf_r2 : List Cond := [Cond.fieldLink RX1 37 "Threadline$Mail" "hand" "[I"]
def wsX1_toldParentOf : List Cond := .code yX1_toldParentOf cX1_toldParentOf 3 (some .int) :: ((wsX1_toldParentOf_r1 ++ wsX1_toldParentOf_r2) ++ wsX10)
def wsX0_linksLead : List Cond := .code yX0_linksLead cX0_linksLead 5 (some .boolean) :: ([.fieldLink RX0 15 "Threadline$Forest" "link" "[I", .static yX2_isId, .initialized RX2, .code yX2_isId cX2_isId 1 (some .boolean)] ++ wsX00)
def wsX0_linkKnown_r1 : List Cond := [Cond.fieldLink RX0 15 "Threadline$Forest" "link" "[I", Cond.fieldLink RX0 9 "Threadline$Forest" "known" "[Z", Cond.fieldLink RX0 46 "Threadline$Forest" "mail" "LThreadline$Mail;", Cond.instanceMethod yX1_toldParentOf, Cond.initialized RX1, Cond.selects RX1 yX1_toldParentOf yX1_toldParentOf, Cond.code yX1_toldParentOf cX1_toldParentOf 3 (some .int), Cond.methodLink RX1 44 yX1_holds, Cond.instanceMethod yX1_holds, Cond.selects RX1 yX1_holds yX1_holds, Cond.code yX1_holds cX1_holds 2 (some .boolean), Cond.fieldLink RX1 9 "Threadline$Mail" "there" "[Z", Cond.methodLink RX1 50 yX1_guessedParentOf, Cond.instanceMethod yX1_guessedParentOf, Cond.selects RX1 yX1_guessedParentOf yX1_guessedParentOf, Cond.code yX1_guessedParentOf cX1_guessedParentOf 3 (some .int), Cond.methodLink RX1 57 yX1_parentToldBy, Cond.instanceMethod yX1_parentToldBy, Cond.selects RX1 yX1_parentToldBy yX1_parentToldBy, Cond.code yX1_parentToldBy cX1_parentToldBy 2 (some .int), Cond.fieldLink RX1 19 "Threadline$Mail" "toldParent" "[I", Cond.methodLink RX1 60 yX1_grandparentToldBy, Cond.instanceMethod yX1_grandparentToldBy, Cond.selects RX1 yX1_grandparentToldBy yX1_grandparentToldBy]
def wsX0_linkKnown_r2 : List Cond := [Cond.code yX1_grandparentToldBy cX1_grandparentToldBy 2 (some .int), Cond.fieldLink RX1 15 "Threadline$Mail" "toldGrandparent" "[I", Cond.methodLink RX1 54 yX1_handOf, Cond.instanceMethod yX1_handOf, Cond.selects RX1 yX1_handOf yX1_handOf, Cond.code yX1_handOf cX1_handOf 2 (some .int), Cond.fieldLink RX1 37 "Threadline$Mail" "hand" "[I", Cond.methodLink RX0 110 yX0_linksLead, Cond.instanceMethod yX0_linksLead, Cond.selects RX0 yX0_linksLead yX0_linksLead, Cond.initialized RX0, Cond.code yX0_linksLead cX0_linksLead 5 (some .boolean), Cond.static yX2_isId, Cond.initialized RX2, Cond.code yX2_isId cX2_isId 1 (some .boolean)]
def wsX0_linkKnown : List Cond := .code yX0_linkKnown cX0_linkKnown 3 none :: ((wsX0_linkKnown_r1 ++ wsX0_linkKnown_r2) ++ wsX00 ++ wsX10)
def wsX0_parentByLinks : List Cond := .code yX0_parentByLinks cX0_parentByLinks 4 (some .int) :: ([.fieldLink RX0 46 "Threadline$Forest" "mail" "LThreadline$Mail;", .fieldLink RX0 15 "Threadline$Forest" "link" "[I", .static yX2_isId, .initialized RX2, .code yX2_isId cX2_isId 1 (some .boolean), .instanceMethod yX1_holds, .initialized RX1, .selects RX1 yX1_holds yX1_holds, .code yX1_holds cX1_holds 2 (some .boolean), .fieldLink RX1 9 "Threadline$Mail" "there" "[Z"] ++ wsX00 ++ wsX10)
def wsX0_hangByLinks : List Cond := .code yX0_hangByLinks cX0_hangByLinks 2 none :: ([.fieldLink RX0 19 "Threadline$Forest" "parentOf" "[I", .fieldLink RX0 46 "Threadline$Forest" "mail" "LThreadline$Mail;", .fieldLink RX0 15 "Threadline$Forest" "link" "[I", .instanceMethod yX1_holds, .initialized RX1, .selects RX1 yX1_holds yX1_holds, .code yX1_holds cX1_holds 2 (some .boolean), .fieldLink RX1 9 "Threadline$Mail" "there" "[Z", .methodLink RX0 114 yX0_parentByLinks, .instanceMethod yX0_parentByLinks, .selects RX0 yX0_parentByLinks yX0_parentByLinks, .initialized RX0, .code yX0_parentByLinks cX0_parentByLinks 4 (some .int), .static yX2_isId, .initialized RX2, .code yX2_isId cX2_isId 1 (some .boolean)] ++ wsX00 ++ wsX10)
def wsX0_freeChildren : List Cond := .code yX0_freeChildren cX0_freeChildren 3 none :: ([.fieldLink RX0 19 "Threadline$Forest" "parentOf" "[I"] ++ wsX00)
def wsX0_keepMissing : List Cond := .code yX0_keepMissing cX0_keepMissing 2 none :: ([.fieldLink RX0 22 "Threadline$Forest" "standing" "[Z", .fieldLink RX0 46 "Threadline$Forest" "mail" "LThreadline$Mail;", .instanceMethod yX1_holds, .initialized RX1, .selects RX1 yX1_holds yX1_holds, .code yX1_holds cX1_holds 2 (some .boolean), .fieldLink RX1 9 "Threadline$Mail" "there" "[Z", .methodLink RX0 117 yX0_countChildren, .instanceMethod yX0_countChildren, .selects RX0 yX0_countChildren yX0_countChildren, .initialized RX0, .code yX0_countChildren cX0_countChildren 4 (some .int), .fieldLink RX0 19 "Threadline$Forest" "parentOf" "[I", .methodLink RX0 120 yX0_freeChildren, .instanceMethod yX0_freeChildren, .selects RX0 yX0_freeChildren yX0_freeChildren, .code yX0_freeChildren cX0_freeChildren 3 none] ++ wsX00 ++ wsX10)
def wsX1_isReply : List Cond := .code yX1_isReply cX1_isReply 2 (some .boolean) :: ([.fieldLink RX1 25 "Threadline$Mail" "reply" "[Z", .methodLink RX1 44 yX1_holds, .instanceMethod yX1_holds, .selects RX1 yX1_holds yX1_holds, .initialized RX1, .code yX1_holds cX1_holds 2 (some .boolean), .fieldLink RX1 9 "Threadline$Mail" "there" "[Z"] ++ wsX10)
def wsX1_isAnsweredBy : List Cond := .code yX1_isAnsweredBy cX1_isAnsweredBy 4 (some .boolean) :: ([.fieldLink RX1 25 "Threadline$Mail" "reply" "[Z", .fieldLink RX1 28 "Threadline$Mail" "day" "[I", .fieldLink RX1 22 "Threadline$Mail" "subject" "[I", .methodLink RX1 44 yX1_holds, .instanceMethod yX1_holds, .selects RX1 yX1_holds yX1_holds, .initialized RX1, .code yX1_holds cX1_holds 2 (some .boolean), .fieldLink RX1 9 "Threadline$Mail" "there" "[Z"] ++ wsX10)
def wsX1_dayOf : List Cond := .code yX1_dayOf cX1_dayOf 2 (some .int) :: ([.fieldLink RX1 28 "Threadline$Mail" "day" "[I", .methodLink RX1 44 yX1_holds, .instanceMethod yX1_holds, .selects RX1 yX1_holds yX1_holds, .initialized RX1, .code yX1_holds cX1_holds 2 (some .boolean), .fieldLink RX1 9 "Threadline$Mail" "there" "[Z"] ++ wsX10)
def wsX0_letterAnsweredBy : List Cond := .code yX0_letterAnsweredBy cX0_letterAnsweredBy 5 (some .int) :: ([.fieldLink RX0 19 "Threadline$Forest" "parentOf" "[I", .fieldLink RX0 46 "Threadline$Forest" "mail" "LThreadline$Mail;", .instanceMethod yX1_isAnsweredBy, .initialized RX1, .selects RX1 yX1_isAnsweredBy yX1_isAnsweredBy, .code yX1_isAnsweredBy cX1_isAnsweredBy 4 (some .boolean), .fieldLink RX1 25 "Threadline$Mail" "reply" "[Z", .fieldLink RX1 28 "Threadline$Mail" "day" "[I", .fieldLink RX1 22 "Threadline$Mail" "subject" "[I", .methodLink RX1 44 yX1_holds, .instanceMethod yX1_holds, .selects RX1 yX1_holds yX1_holds, .code yX1_holds cX1_holds 2 (some .boolean), .fieldLink RX1 9 "Threadline$Mail" "there" "[Z", .instanceMethod yX1_dayOf, .selects RX1 yX1_dayOf yX1_dayOf, .code yX1_dayOf cX1_dayOf 2 (some .int)] ++ wsX00 ++ wsX10)
def wsX0_hangReplies_r1 : List Cond := [Cond.fieldLink RX0 46 "Threadline$Forest" "mail" "LThreadline$Mail;", Cond.fieldLink RX0 19 "Threadline$Forest" "parentOf" "[I", Cond.instanceMethod yX1_isReply, Cond.initialized RX1, Cond.selects RX1 yX1_isReply yX1_isReply, Cond.code yX1_isReply cX1_isReply 2 (some .boolean), Cond.fieldLink RX1 25 "Threadline$Mail" "reply" "[Z", Cond.methodLink RX1 44 yX1_holds, Cond.instanceMethod yX1_holds, Cond.selects RX1 yX1_holds yX1_holds, Cond.code yX1_holds cX1_holds 2 (some .boolean), Cond.fieldLink RX1 9 "Threadline$Mail" "there" "[Z", Cond.instanceMethod yX1_handOf, Cond.selects RX1 yX1_handOf yX1_handOf, Cond.code yX1_handOf cX1_handOf 2 (some .int), Cond.fieldLink RX1 37 "Threadline$Mail" "hand" "[I", Cond.methodLink RX0 126 yX0_letterAnsweredBy, Cond.instanceMethod yX0_letterAnsweredBy, Cond.selects RX0 yX0_letterAnsweredBy yX0_letterAnsweredBy, Cond.initialized RX0, Cond.code yX0_letterAnsweredBy cX0_letterAnsweredBy 5 (some .int), Cond.instanceMethod yX1_isAnsweredBy, Cond.selects RX1 yX1_isAnsweredBy yX1_isAnsweredBy, Cond.code yX1_isAnsweredBy cX1_isAnsweredBy 4 (some .boolean)]
def wsX0_hangReplies_r2 : List Cond := [Cond.fieldLink RX1 28 "Threadline$Mail" "day" "[I", Cond.fieldLink RX1 22 "Threadline$Mail" "subject" "[I", Cond.instanceMethod yX1_dayOf, Cond.selects RX1 yX1_dayOf yX1_dayOf, Cond.code yX1_dayOf cX1_dayOf 2 (some .int)]
def wsX0_hangReplies : List Cond := .code yX0_hangReplies cX0_hangReplies 2 none :: ((wsX0_hangReplies_r1 ++ wsX0_hangReplies_r2) ++ wsX00 ++ wsX10)
def wsX0_countUpwards : List Cond := .code yX0_countUpwards cX0_countUpwards 5 none :: ([.fieldLink RX0 46 "Threadline$Forest" "mail" "LThreadline$Mail;", .fieldLink RX0 31 "Threadline$Forest" "size" "[I", .fieldLink RX0 25 "Threadline$Forest" "earliest" "[I", .methodLink RX0 138 Lib.Math.min.name, .static Lib.Math.min.name, .initialized "java/lang/Math", .code Lib.Math.min.name Lib.Math.min.code 2 (some .int), .fieldLink RX0 19 "Threadline$Forest" "parentOf" "[I", .instanceMethod yX1_dayOf, .initialized RX1, .selects RX1 yX1_dayOf yX1_dayOf, .code yX1_dayOf cX1_dayOf 2 (some .int), .fieldLink RX1 28 "Threadline$Mail" "day" "[I", .methodLink RX1 44 yX1_holds, .instanceMethod yX1_holds, .selects RX1 yX1_holds yX1_holds, .code yX1_holds cX1_holds 2 (some .boolean), .fieldLink RX1 9 "Threadline$Mail" "there" "[Z", .static yX2_isId, .initialized RX2, .code yX2_isId cX2_isId 1 (some .boolean)] ++ wsX00 ++ wsX10)
def wsX0_measureTrees_r1 : List Cond := [Cond.fieldLink RX0 31 "Threadline$Forest" "size" "[I", Cond.fieldLink RX0 25 "Threadline$Forest" "earliest" "[I", Cond.fieldLink RX0 22 "Threadline$Forest" "standing" "[Z", Cond.fieldLink RX0 28 "Threadline$Forest" "turn" "[I", Cond.fieldLink RX0 19 "Threadline$Forest" "parentOf" "[I", Cond.fieldLink RX0 46 "Threadline$Forest" "mail" "LThreadline$Mail;", Cond.methodLink RX0 135 yX0_countUpwards, Cond.instanceMethod yX0_countUpwards, Cond.selects RX0 yX0_countUpwards yX0_countUpwards, Cond.initialized RX0, Cond.code yX0_countUpwards cX0_countUpwards 5 none, Cond.methodLink RX0 138 Lib.Math.min.name, Cond.static Lib.Math.min.name, Cond.initialized "java/lang/Math", Cond.code Lib.Math.min.name Lib.Math.min.code 2 (some .int), Cond.instanceMethod yX1_dayOf, Cond.initialized RX1, Cond.selects RX1 yX1_dayOf yX1_dayOf, Cond.code yX1_dayOf cX1_dayOf 2 (some .int), Cond.fieldLink RX1 28 "Threadline$Mail" "day" "[I", Cond.methodLink RX1 44 yX1_holds, Cond.instanceMethod yX1_holds, Cond.selects RX1 yX1_holds yX1_holds, Cond.code yX1_holds cX1_holds 2 (some .boolean)]
def wsX0_measureTrees_r2 : List Cond := [Cond.fieldLink RX1 9 "Threadline$Mail" "there" "[Z", Cond.static yX2_isId, Cond.initialized RX2, Cond.code yX2_isId cX2_isId 1 (some .boolean)]
def wsX0_measureTrees : List Cond := .code yX0_measureTrees cX0_measureTrees 2 none :: ((wsX0_measureTrees_r1 ++ wsX0_measureTrees_r2) ++ wsX00 ++ wsX10)
def wsX0_comesBefore : List Cond := .code yX0_comesBefore cX0_comesBefore 3 (some .boolean) :: ([.fieldLink RX0 19 "Threadline$Forest" "parentOf" "[I", .fieldLink RX0 28 "Threadline$Forest" "turn" "[I", .methodLink RX0 54 yX0_contains, .instanceMethod yX0_contains, .selects RX0 yX0_contains yX0_contains, .initialized RX0, .code yX0_contains cX0_contains 2 (some .boolean), .fieldLink RX0 22 "Threadline$Forest" "standing" "[Z", .static yX2_isId, .initialized RX2, .code yX2_isId cX2_isId 1 (some .boolean)] ++ wsX00)
def wsX0_placeRoot : List Cond := .code yX0_placeRoot cX0_placeRoot 4 none :: ([.fieldLink RX0 43 "Threadline$Forest" "rootRow" "[I", .methodLink RX0 147 yX0_comesBefore, .instanceMethod yX0_comesBefore, .selects RX0 yX0_comesBefore yX0_comesBefore, .initialized RX0, .code yX0_comesBefore cX0_comesBefore 3 (some .boolean), .fieldLink RX0 19 "Threadline$Forest" "parentOf" "[I", .fieldLink RX0 28 "Threadline$Forest" "turn" "[I", .methodLink RX0 54 yX0_contains, .instanceMethod yX0_contains, .selects RX0 yX0_contains yX0_contains, .code yX0_contains cX0_contains 2 (some .boolean), .fieldLink RX0 22 "Threadline$Forest" "standing" "[Z", .static yX2_isId, .initialized RX2, .code yX2_isId cX2_isId 1 (some .boolean)] ++ wsX00)
def wsX0_placeRoots : List Cond := .code yX0_placeRoots cX0_placeRoots 2 none :: ([.fieldLink RX0 57 "Threadline$Forest" "rootCount" "I", .fieldLink RX0 22 "Threadline$Forest" "standing" "[Z", .fieldLink RX0 19 "Threadline$Forest" "parentOf" "[I", .methodLink RX0 144 yX0_placeRoot, .instanceMethod yX0_placeRoot, .selects RX0 yX0_placeRoot yX0_placeRoot, .initialized RX0, .code yX0_placeRoot cX0_placeRoot 4 none, .fieldLink RX0 43 "Threadline$Forest" "rootRow" "[I", .methodLink RX0 147 yX0_comesBefore, .instanceMethod yX0_comesBefore, .selects RX0 yX0_comesBefore yX0_comesBefore, .code yX0_comesBefore cX0_comesBefore 3 (some .boolean), .fieldLink RX0 28 "Threadline$Forest" "turn" "[I", .methodLink RX0 54 yX0_contains, .instanceMethod yX0_contains, .selects RX0 yX0_contains yX0_contains, .code yX0_contains cX0_contains 2 (some .boolean), .static yX2_isId, .initialized RX2, .code yX2_isId cX2_isId 1 (some .boolean)] ++ wsX00)
def wsX0_offsetBehindParent : List Cond := .code yX0_offsetBehindParent cX0_offsetBehindParent 4 (some .int) :: ([.fieldLink RX0 31 "Threadline$Forest" "size" "[I", .methodLink RX0 61 yX0_parentIn, .instanceMethod yX0_parentIn, .selects RX0 yX0_parentIn yX0_parentIn, .initialized RX0, .code yX0_parentIn cX0_parentIn 2 (some .int), .fieldLink RX0 19 "Threadline$Forest" "parentOf" "[I", .methodLink RX0 54 yX0_contains, .instanceMethod yX0_contains, .selects RX0 yX0_contains yX0_contains, .code yX0_contains cX0_contains 2 (some .boolean), .fieldLink RX0 22 "Threadline$Forest" "standing" "[Z", .static yX2_isId, .initialized RX2, .code yX2_isId cX2_isId 1 (some .boolean), .methodLink RX0 147 yX0_comesBefore, .instanceMethod yX0_comesBefore, .selects RX0 yX0_comesBefore yX0_comesBefore, .code yX0_comesBefore cX0_comesBefore 3 (some .boolean), .fieldLink RX0 28 "Threadline$Forest" "turn" "[I"] ++ wsX00)
def wsX0_startInOrder : List Cond := .code yX0_startInOrder cX0_startInOrder 5 (some .int) :: ([.fieldLink RX0 34 "Threadline$Forest" "offset" "[I", .fieldLink RX0 19 "Threadline$Forest" "parentOf" "[I", .static yX2_isId, .initialized RX2, .code yX2_isId cX2_isId 1 (some .boolean)] ++ wsX00)
def wsX0_placeTrees_r1 : List Cond := [Cond.fieldLink RX0 34 "Threadline$Forest" "offset" "[I", Cond.fieldLink RX0 37 "Threadline$Forest" "start" "[I", Cond.fieldLink RX0 22 "Threadline$Forest" "standing" "[Z", Cond.fieldLink RX0 40 "Threadline$Forest" "order" "[I", Cond.methodLink RX0 150 yX0_offsetBehindParent, Cond.instanceMethod yX0_offsetBehindParent, Cond.selects RX0 yX0_offsetBehindParent yX0_offsetBehindParent, Cond.initialized RX0, Cond.code yX0_offsetBehindParent cX0_offsetBehindParent 4 (some .int), Cond.fieldLink RX0 31 "Threadline$Forest" "size" "[I", Cond.methodLink RX0 61 yX0_parentIn, Cond.instanceMethod yX0_parentIn, Cond.selects RX0 yX0_parentIn yX0_parentIn, Cond.code yX0_parentIn cX0_parentIn 2 (some .int), Cond.fieldLink RX0 19 "Threadline$Forest" "parentOf" "[I", Cond.methodLink RX0 54 yX0_contains, Cond.instanceMethod yX0_contains, Cond.selects RX0 yX0_contains yX0_contains, Cond.code yX0_contains cX0_contains 2 (some .boolean), Cond.static yX2_isId, Cond.initialized RX2, Cond.code yX2_isId cX2_isId 1 (some .boolean), Cond.methodLink RX0 147 yX0_comesBefore, Cond.instanceMethod yX0_comesBefore]
def wsX0_placeTrees_r2 : List Cond := [Cond.selects RX0 yX0_comesBefore yX0_comesBefore, Cond.code yX0_comesBefore cX0_comesBefore 3 (some .boolean), Cond.fieldLink RX0 28 "Threadline$Forest" "turn" "[I", Cond.methodLink RX0 153 yX0_startInOrder, Cond.instanceMethod yX0_startInOrder, Cond.selects RX0 yX0_startInOrder yX0_startInOrder, Cond.code yX0_startInOrder cX0_startInOrder 5 (some .int)]
def wsX0_placeTrees : List Cond := .code yX0_placeTrees cX0_placeTrees 2 none :: ((wsX0_placeTrees_r1 ++ wsX0_placeTrees_r2) ++ wsX00)
def wsX0_grow_r1 : List Cond := [Cond.methodLink RX0 65 yX0_findKnown, Cond.instanceMethod yX0_findKnown, Cond.selects RX0 yX0_findKnown yX0_findKnown, Cond.initialized RX0, Cond.code yX0_findKnown cX0_findKnown 2 none, Cond.fieldLink RX0 9 "Threadline$Forest" "known" "[Z", Cond.fieldLink RX0 46 "Threadline$Forest" "mail" "LThreadline$Mail;", Cond.instanceMethod yX1_holds, Cond.initialized RX1, Cond.selects RX1 yX1_holds yX1_holds, Cond.code yX1_holds cX1_holds 2 (some .boolean), Cond.fieldLink RX1 9 "Threadline$Mail" "there" "[Z", Cond.instanceMethod yX1_parentToldBy, Cond.selects RX1 yX1_parentToldBy yX1_parentToldBy, Cond.code yX1_parentToldBy cX1_parentToldBy 2 (some .int), Cond.fieldLink RX1 19 "Threadline$Mail" "toldParent" "[I", Cond.methodLink RX1 44 yX1_holds, Cond.methodLink RX0 97 yX0_learn, Cond.instanceMethod yX0_learn, Cond.selects RX0 yX0_learn yX0_learn, Cond.code yX0_learn cX0_learn 2 none, Cond.static yX2_isId, Cond.initialized RX2, Cond.code yX2_isId cX2_isId 1 (some .boolean)]
def wsX0_grow_r2 : List Cond := [Cond.instanceMethod yX1_grandparentToldBy, Cond.selects RX1 yX1_grandparentToldBy yX1_grandparentToldBy, Cond.code yX1_grandparentToldBy cX1_grandparentToldBy 2 (some .int), Cond.fieldLink RX1 15 "Threadline$Mail" "toldGrandparent" "[I", Cond.instanceMethod yX1_handOf, Cond.selects RX1 yX1_handOf yX1_handOf, Cond.code yX1_handOf cX1_handOf 2 (some .int), Cond.fieldLink RX1 37 "Threadline$Mail" "hand" "[I", Cond.methodLink RX0 68 yX0_linkKnown, Cond.instanceMethod yX0_linkKnown, Cond.selects RX0 yX0_linkKnown yX0_linkKnown, Cond.code yX0_linkKnown cX0_linkKnown 3 none, Cond.fieldLink RX0 15 "Threadline$Forest" "link" "[I", Cond.instanceMethod yX1_toldParentOf, Cond.selects RX1 yX1_toldParentOf yX1_toldParentOf, Cond.code yX1_toldParentOf cX1_toldParentOf 3 (some .int), Cond.methodLink RX1 50 yX1_guessedParentOf, Cond.instanceMethod yX1_guessedParentOf, Cond.selects RX1 yX1_guessedParentOf yX1_guessedParentOf, Cond.code yX1_guessedParentOf cX1_guessedParentOf 3 (some .int), Cond.methodLink RX1 57 yX1_parentToldBy, Cond.methodLink RX1 60 yX1_grandparentToldBy, Cond.methodLink RX1 54 yX1_handOf, Cond.methodLink RX0 110 yX0_linksLead]
def wsX0_grow_r3 : List Cond := [Cond.instanceMethod yX0_linksLead, Cond.selects RX0 yX0_linksLead yX0_linksLead, Cond.code yX0_linksLead cX0_linksLead 5 (some .boolean), Cond.methodLink RX0 71 yX0_hangByLinks, Cond.instanceMethod yX0_hangByLinks, Cond.selects RX0 yX0_hangByLinks yX0_hangByLinks, Cond.code yX0_hangByLinks cX0_hangByLinks 2 none, Cond.fieldLink RX0 19 "Threadline$Forest" "parentOf" "[I", Cond.methodLink RX0 114 yX0_parentByLinks, Cond.instanceMethod yX0_parentByLinks, Cond.selects RX0 yX0_parentByLinks yX0_parentByLinks, Cond.code yX0_parentByLinks cX0_parentByLinks 4 (some .int), Cond.methodLink RX0 74 yX0_keepMissing, Cond.instanceMethod yX0_keepMissing, Cond.selects RX0 yX0_keepMissing yX0_keepMissing, Cond.code yX0_keepMissing cX0_keepMissing 2 none, Cond.fieldLink RX0 22 "Threadline$Forest" "standing" "[Z", Cond.methodLink RX0 117 yX0_countChildren, Cond.instanceMethod yX0_countChildren, Cond.selects RX0 yX0_countChildren yX0_countChildren, Cond.code yX0_countChildren cX0_countChildren 4 (some .int), Cond.methodLink RX0 120 yX0_freeChildren, Cond.instanceMethod yX0_freeChildren, Cond.selects RX0 yX0_freeChildren yX0_freeChildren]
def wsX0_grow_r4 : List Cond := [Cond.code yX0_freeChildren cX0_freeChildren 3 none, Cond.methodLink RX0 77 yX0_hangReplies, Cond.instanceMethod yX0_hangReplies, Cond.selects RX0 yX0_hangReplies yX0_hangReplies, Cond.code yX0_hangReplies cX0_hangReplies 2 none, Cond.instanceMethod yX1_isReply, Cond.selects RX1 yX1_isReply yX1_isReply, Cond.code yX1_isReply cX1_isReply 2 (some .boolean), Cond.fieldLink RX1 25 "Threadline$Mail" "reply" "[Z", Cond.methodLink RX0 126 yX0_letterAnsweredBy, Cond.instanceMethod yX0_letterAnsweredBy, Cond.selects RX0 yX0_letterAnsweredBy yX0_letterAnsweredBy, Cond.code yX0_letterAnsweredBy cX0_letterAnsweredBy 5 (some .int), Cond.instanceMethod yX1_isAnsweredBy, Cond.selects RX1 yX1_isAnsweredBy yX1_isAnsweredBy, Cond.code yX1_isAnsweredBy cX1_isAnsweredBy 4 (some .boolean), Cond.fieldLink RX1 28 "Threadline$Mail" "day" "[I", Cond.fieldLink RX1 22 "Threadline$Mail" "subject" "[I", Cond.instanceMethod yX1_dayOf, Cond.selects RX1 yX1_dayOf yX1_dayOf, Cond.code yX1_dayOf cX1_dayOf 2 (some .int), Cond.methodLink RX0 80 yX0_measureTrees, Cond.instanceMethod yX0_measureTrees, Cond.selects RX0 yX0_measureTrees yX0_measureTrees]
def wsX0_grow_r5 : List Cond := [Cond.code yX0_measureTrees cX0_measureTrees 2 none, Cond.fieldLink RX0 31 "Threadline$Forest" "size" "[I", Cond.fieldLink RX0 25 "Threadline$Forest" "earliest" "[I", Cond.fieldLink RX0 28 "Threadline$Forest" "turn" "[I", Cond.methodLink RX0 135 yX0_countUpwards, Cond.instanceMethod yX0_countUpwards, Cond.selects RX0 yX0_countUpwards yX0_countUpwards, Cond.code yX0_countUpwards cX0_countUpwards 5 none, Cond.methodLink RX0 138 Lib.Math.min.name, Cond.static Lib.Math.min.name, Cond.initialized "java/lang/Math", Cond.code Lib.Math.min.name Lib.Math.min.code 2 (some .int), Cond.methodLink RX0 83 yX0_placeRoots, Cond.instanceMethod yX0_placeRoots, Cond.selects RX0 yX0_placeRoots yX0_placeRoots, Cond.code yX0_placeRoots cX0_placeRoots 2 none, Cond.fieldLink RX0 57 "Threadline$Forest" "rootCount" "I", Cond.methodLink RX0 144 yX0_placeRoot, Cond.instanceMethod yX0_placeRoot, Cond.selects RX0 yX0_placeRoot yX0_placeRoot, Cond.code yX0_placeRoot cX0_placeRoot 4 none, Cond.fieldLink RX0 43 "Threadline$Forest" "rootRow" "[I", Cond.methodLink RX0 147 yX0_comesBefore, Cond.instanceMethod yX0_comesBefore]
def wsX0_grow_r6 : List Cond := [Cond.selects RX0 yX0_comesBefore yX0_comesBefore, Cond.code yX0_comesBefore cX0_comesBefore 3 (some .boolean), Cond.methodLink RX0 54 yX0_contains, Cond.instanceMethod yX0_contains, Cond.selects RX0 yX0_contains yX0_contains, Cond.code yX0_contains cX0_contains 2 (some .boolean), Cond.methodLink RX0 86 yX0_placeTrees, Cond.instanceMethod yX0_placeTrees, Cond.selects RX0 yX0_placeTrees yX0_placeTrees, Cond.code yX0_placeTrees cX0_placeTrees 2 none, Cond.fieldLink RX0 34 "Threadline$Forest" "offset" "[I", Cond.fieldLink RX0 37 "Threadline$Forest" "start" "[I", Cond.fieldLink RX0 40 "Threadline$Forest" "order" "[I", Cond.methodLink RX0 150 yX0_offsetBehindParent, Cond.instanceMethod yX0_offsetBehindParent, Cond.selects RX0 yX0_offsetBehindParent yX0_offsetBehindParent, Cond.code yX0_offsetBehindParent cX0_offsetBehindParent 4 (some .int), Cond.methodLink RX0 61 yX0_parentIn, Cond.instanceMethod yX0_parentIn, Cond.selects RX0 yX0_parentIn yX0_parentIn, Cond.code yX0_parentIn cX0_parentIn 2 (some .int), Cond.methodLink RX0 153 yX0_startInOrder, Cond.instanceMethod yX0_startInOrder, Cond.selects RX0 yX0_startInOrder yX0_startInOrder]
def wsX0_grow_r7 : List Cond := [Cond.code yX0_startInOrder cX0_startInOrder 5 (some .int)]
def wsX0_grow : List Cond := .code yX0_grow cX0_grow 1 none :: ((wsX0_grow_r1 ++ (wsX0_grow_r2 ++ (wsX0_grow_r3 ++ (wsX0_grow_r4 ++ (wsX0_grow_r5 ++ (wsX0_grow_r6 ++ wsX0_grow_r7)))))) ++ wsX00 ++ wsX10)
def wsX1_init : List Cond := .code yX1_init cX1_init 1 none :: ([.methodLink RX1 3 objectInit, .instanceMethod objectInit, .code objectInit ⟨#[0xb1]⟩ 1 none, .arrayClass .boolean, .fieldLink RX1 9 "Threadline$Mail" "there" "[Z", .arrayClass .int, .fieldLink RX1 15 "Threadline$Mail" "toldGrandparent" "[I", .fieldLink RX1 19 "Threadline$Mail" "toldParent" "[I", .fieldLink RX1 22 "Threadline$Mail" "subject" "[I", .fieldLink RX1 25 "Threadline$Mail" "reply" "[Z", .fieldLink RX1 28 "Threadline$Mail" "day" "[I", .fieldLink RX1 31 "Threadline$Mail" "person" "[I", .fieldLink RX1 34 "Threadline$Mail" "unseen" "[Z", .fieldLink RX1 37 "Threadline$Mail" "hand" "[I"] ++ wsX10)
def wsX1_put : List Cond := .code yX1_put cX1_put 7 none :: ([.fieldLink RX1 9 "Threadline$Mail" "there" "[Z", .fieldLink RX1 15 "Threadline$Mail" "toldGrandparent" "[I", .fieldLink RX1 19 "Threadline$Mail" "toldParent" "[I", .fieldLink RX1 25 "Threadline$Mail" "reply" "[Z", .fieldLink RX1 22 "Threadline$Mail" "subject" "[I", .fieldLink RX1 28 "Threadline$Mail" "day" "[I", .fieldLink RX1 31 "Threadline$Mail" "person" "[I", .fieldLink RX1 34 "Threadline$Mail" "unseen" "[Z", .fieldLink RX1 37 "Threadline$Mail" "hand" "[I", .static yX2_isId, .initialized RX2, .code yX2_isId cX2_isId 1 (some .boolean)] ++ wsX10)
def wsX1_drop : List Cond := .code yX1_drop cX1_drop 2 none :: ([.fieldLink RX1 9 "Threadline$Mail" "there" "[Z", .static yX2_isId, .initialized RX2, .code yX2_isId cX2_isId 1 (some .boolean)] ++ wsX10)
def wsX1_setHand : List Cond := .code yX1_setHand cX1_setHand 3 none :: ([.fieldLink RX1 37 "Threadline$Mail" "hand" "[I", .methodLink RX1 44 yX1_holds, .instanceMethod yX1_holds, .selects RX1 yX1_holds yX1_holds, .initialized RX1, .code yX1_holds cX1_holds 2 (some .boolean), .fieldLink RX1 9 "Threadline$Mail" "there" "[Z"] ++ wsX10)
def wsX1_isUnread : List Cond := .code yX1_isUnread cX1_isUnread 2 (some .boolean) :: ([.fieldLink RX1 34 "Threadline$Mail" "unseen" "[Z", .methodLink RX1 44 yX1_holds, .instanceMethod yX1_holds, .selects RX1 yX1_holds yX1_holds, .initialized RX1, .code yX1_holds cX1_holds 2 (some .boolean), .fieldLink RX1 9 "Threadline$Mail" "there" "[Z"] ++ wsX10)
def wsX1_markRead : List Cond := .code yX1_markRead cX1_markRead 2 (some .boolean) :: ([.fieldLink RX1 34 "Threadline$Mail" "unseen" "[Z", .methodLink RX1 47 yX1_isUnread, .instanceMethod yX1_isUnread, .selects RX1 yX1_isUnread yX1_isUnread, .initialized RX1, .code yX1_isUnread cX1_isUnread 2 (some .boolean), .methodLink RX1 44 yX1_holds, .instanceMethod yX1_holds, .selects RX1 yX1_holds yX1_holds, .code yX1_holds cX1_holds 2 (some .boolean), .fieldLink RX1 9 "Threadline$Mail" "there" "[Z"] ++ wsX10)
def wsX1_writerBit : List Cond := .code yX1_writerBit cX1_writerBit 2 (some .int) :: ([.fieldLink RX1 31 "Threadline$Mail" "person" "[I", .methodLink RX1 44 yX1_holds, .instanceMethod yX1_holds, .selects RX1 yX1_holds yX1_holds, .initialized RX1, .code yX1_holds cX1_holds 2 (some .boolean), .fieldLink RX1 9 "Threadline$Mail" "there" "[Z"] ++ wsX10)
def wsX2_init_r1 : List Cond := [Cond.methodLink RX2 1 objectInit, Cond.instanceMethod objectInit, Cond.code objectInit ⟨#[0xb1]⟩ 1 none, Cond.classLink RX2 7 RX1, Cond.instantiable RX1 9, Cond.initialized RX1, Cond.fieldLink RX2 10 "Threadline" "mail" "LThreadline$Mail;", Cond.classLink RX2 16 RX0, Cond.instantiable RX0 13, Cond.initialized RX0, Cond.fieldLink RX2 21 "Threadline" "forest" "LThreadline$Forest;", Cond.instanceMethod yX1_init, Cond.code yX1_init cX1_init 1 none, Cond.methodLink RX1 3 objectInit, Cond.arrayClass .boolean, Cond.fieldLink RX1 9 "Threadline$Mail" "there" "[Z", Cond.arrayClass .int, Cond.fieldLink RX1 15 "Threadline$Mail" "toldGrandparent" "[I", Cond.fieldLink RX1 19 "Threadline$Mail" "toldParent" "[I", Cond.fieldLink RX1 22 "Threadline$Mail" "subject" "[I", Cond.fieldLink RX1 25 "Threadline$Mail" "reply" "[Z", Cond.fieldLink RX1 28 "Threadline$Mail" "day" "[I", Cond.fieldLink RX1 31 "Threadline$Mail" "person" "[I", Cond.fieldLink RX1 34 "Threadline$Mail" "unseen" "[Z"]
def wsX2_init_r2 : List Cond := [Cond.fieldLink RX1 37 "Threadline$Mail" "hand" "[I", Cond.instanceMethod yX0_init, Cond.code yX0_init cX0_init 2 none, Cond.methodLink RX0 3 objectInit, Cond.fieldLink RX0 9 "Threadline$Forest" "known" "[Z", Cond.fieldLink RX0 15 "Threadline$Forest" "link" "[I", Cond.fieldLink RX0 19 "Threadline$Forest" "parentOf" "[I", Cond.fieldLink RX0 22 "Threadline$Forest" "standing" "[Z", Cond.fieldLink RX0 25 "Threadline$Forest" "earliest" "[I", Cond.fieldLink RX0 28 "Threadline$Forest" "turn" "[I", Cond.fieldLink RX0 31 "Threadline$Forest" "size" "[I", Cond.fieldLink RX0 34 "Threadline$Forest" "offset" "[I", Cond.fieldLink RX0 37 "Threadline$Forest" "start" "[I", Cond.fieldLink RX0 40 "Threadline$Forest" "order" "[I", Cond.fieldLink RX0 43 "Threadline$Forest" "rootRow" "[I", Cond.fieldLink RX0 46 "Threadline$Forest" "mail" "LThreadline$Mail;"]
def wsX2_init : List Cond := .code yX2_init cX2_init 1 none :: ((wsX2_init_r1 ++ wsX2_init_r2) ++ wsX10 ++ wsX20 ++ wsX00)
def wsX2_requireId : List Cond := .code yX2_requireId cX2_requireId 1 none :: ([.classLink RX2 71 "java/lang/IllegalArgumentException", .initialized "java/lang/IllegalArgumentException", .methodLink RX2 131 yX2_isId, .static yX2_isId, .initialized RX2, .code yX2_isId cX2_isId 1 (some .boolean)] ++ (vx_atS RX2 75 "java/lang/IllegalArgumentException" ["java/lang/RuntimeException", "java/lang/Exception"]).filter goodWord)
def wsX2_requireTold : List Cond := .code yX2_requireTold cX2_requireTold 2 none :: ([.classLink RX2 71 "java/lang/IllegalArgumentException", .initialized "java/lang/IllegalArgumentException", .methodLink RX2 25 yX2_requireId, .static yX2_requireId, .initialized RX2, .code yX2_requireId cX2_requireId 1 none, .methodLink RX2 131 yX2_isId, .static yX2_isId, .code yX2_isId cX2_isId 1 (some .boolean)] ++ (vx_atS RX2 75 "java/lang/IllegalArgumentException" ["java/lang/RuntimeException", "java/lang/Exception"]).filter goodWord)
def wsX2_requireBelow : List Cond := .code yX2_requireBelow cX2_requireBelow 2 none :: ([.classLink RX2 71 "java/lang/IllegalArgumentException", .initialized "java/lang/IllegalArgumentException"] ++ (vx_atS RX2 75 "java/lang/IllegalArgumentException" ["java/lang/RuntimeException", "java/lang/Exception"]).filter goodWord)
def wsX2_letter_r1 : List Cond := [Cond.classLink RX2 40 "java/lang/IllegalStateException", Cond.initialized "java/lang/IllegalStateException", Cond.fieldLink RX2 10 "Threadline" "mail" "LThreadline$Mail;", Cond.fieldLink RX2 21 "Threadline" "forest" "LThreadline$Forest;", Cond.methodLink RX2 25 yX2_requireId, Cond.static yX2_requireId, Cond.initialized RX2, Cond.code yX2_requireId cX2_requireId 1 none, Cond.classLink RX2 71 "java/lang/IllegalArgumentException", Cond.initialized "java/lang/IllegalArgumentException", Cond.methodLink RX2 131 yX2_isId, Cond.static yX2_isId, Cond.code yX2_isId cX2_isId 1 (some .boolean), Cond.methodLink RX2 29 yX2_requireTold, Cond.static yX2_requireTold, Cond.code yX2_requireTold cX2_requireTold 2 none, Cond.methodLink RX2 33 yX2_requireBelow, Cond.static yX2_requireBelow, Cond.code yX2_requireBelow cX2_requireBelow 2 none, Cond.instanceMethod yX1_holds, Cond.initialized RX1, Cond.selects RX1 yX1_holds yX1_holds, Cond.code yX1_holds cX1_holds 2 (some .boolean), Cond.fieldLink RX1 9 "Threadline$Mail" "there" "[Z"]
def wsX2_letter_r2 : List Cond := [Cond.instanceMethod yX1_put, Cond.selects RX1 yX1_put yX1_put, Cond.code yX1_put cX1_put 7 none, Cond.fieldLink RX1 15 "Threadline$Mail" "toldGrandparent" "[I", Cond.fieldLink RX1 19 "Threadline$Mail" "toldParent" "[I", Cond.fieldLink RX1 25 "Threadline$Mail" "reply" "[Z", Cond.fieldLink RX1 22 "Threadline$Mail" "subject" "[I", Cond.fieldLink RX1 28 "Threadline$Mail" "day" "[I", Cond.fieldLink RX1 31 "Threadline$Mail" "person" "[I", Cond.fieldLink RX1 34 "Threadline$Mail" "unseen" "[Z", Cond.fieldLink RX1 37 "Threadline$Mail" "hand" "[I", Cond.instanceMethod yX0_grow, Cond.initialized RX0, Cond.selects RX0 yX0_grow yX0_grow, Cond.code yX0_grow cX0_grow 1 none, Cond.methodLink RX0 65 yX0_findKnown, Cond.instanceMethod yX0_findKnown, Cond.selects RX0 yX0_findKnown yX0_findKnown, Cond.code yX0_findKnown cX0_findKnown 2 none, Cond.fieldLink RX0 9 "Threadline$Forest" "known" "[Z", Cond.fieldLink RX0 46 "Threadline$Forest" "mail" "LThreadline$Mail;", Cond.instanceMethod yX1_parentToldBy, Cond.selects RX1 yX1_parentToldBy yX1_parentToldBy, Cond.code yX1_parentToldBy cX1_parentToldBy 2 (some .int)]
def wsX2_letter_r3 : List Cond := [Cond.methodLink RX1 44 yX1_holds, Cond.methodLink RX0 97 yX0_learn, Cond.instanceMethod yX0_learn, Cond.selects RX0 yX0_learn yX0_learn, Cond.code yX0_learn cX0_learn 2 none, Cond.instanceMethod yX1_grandparentToldBy, Cond.selects RX1 yX1_grandparentToldBy yX1_grandparentToldBy, Cond.code yX1_grandparentToldBy cX1_grandparentToldBy 2 (some .int), Cond.instanceMethod yX1_handOf, Cond.selects RX1 yX1_handOf yX1_handOf, Cond.code yX1_handOf cX1_handOf 2 (some .int), Cond.methodLink RX0 68 yX0_linkKnown, Cond.instanceMethod yX0_linkKnown, Cond.selects RX0 yX0_linkKnown yX0_linkKnown, Cond.code yX0_linkKnown cX0_linkKnown 3 none, Cond.fieldLink RX0 15 "Threadline$Forest" "link" "[I", Cond.instanceMethod yX1_toldParentOf, Cond.selects RX1 yX1_toldParentOf yX1_toldParentOf, Cond.code yX1_toldParentOf cX1_toldParentOf 3 (some .int), Cond.methodLink RX1 50 yX1_guessedParentOf, Cond.instanceMethod yX1_guessedParentOf, Cond.selects RX1 yX1_guessedParentOf yX1_guessedParentOf, Cond.code yX1_guessedParentOf cX1_guessedParentOf 3 (some .int), Cond.methodLink RX1 57 yX1_parentToldBy]
def wsX2_letter_r4 : List Cond := [Cond.methodLink RX1 60 yX1_grandparentToldBy, Cond.methodLink RX1 54 yX1_handOf, Cond.methodLink RX0 110 yX0_linksLead, Cond.instanceMethod yX0_linksLead, Cond.selects RX0 yX0_linksLead yX0_linksLead, Cond.code yX0_linksLead cX0_linksLead 5 (some .boolean), Cond.methodLink RX0 71 yX0_hangByLinks, Cond.instanceMethod yX0_hangByLinks, Cond.selects RX0 yX0_hangByLinks yX0_hangByLinks, Cond.code yX0_hangByLinks cX0_hangByLinks 2 none, Cond.fieldLink RX0 19 "Threadline$Forest" "parentOf" "[I", Cond.methodLink RX0 114 yX0_parentByLinks, Cond.instanceMethod yX0_parentByLinks, Cond.selects RX0 yX0_parentByLinks yX0_parentByLinks, Cond.code yX0_parentByLinks cX0_parentByLinks 4 (some .int), Cond.methodLink RX0 74 yX0_keepMissing, Cond.instanceMethod yX0_keepMissing, Cond.selects RX0 yX0_keepMissing yX0_keepMissing, Cond.code yX0_keepMissing cX0_keepMissing 2 none, Cond.fieldLink RX0 22 "Threadline$Forest" "standing" "[Z", Cond.methodLink RX0 117 yX0_countChildren, Cond.instanceMethod yX0_countChildren, Cond.selects RX0 yX0_countChildren yX0_countChildren, Cond.code yX0_countChildren cX0_countChildren 4 (some .int)]
def wsX2_letter_r5 : List Cond := [Cond.methodLink RX0 120 yX0_freeChildren, Cond.instanceMethod yX0_freeChildren, Cond.selects RX0 yX0_freeChildren yX0_freeChildren, Cond.code yX0_freeChildren cX0_freeChildren 3 none, Cond.methodLink RX0 77 yX0_hangReplies, Cond.instanceMethod yX0_hangReplies, Cond.selects RX0 yX0_hangReplies yX0_hangReplies, Cond.code yX0_hangReplies cX0_hangReplies 2 none, Cond.instanceMethod yX1_isReply, Cond.selects RX1 yX1_isReply yX1_isReply, Cond.code yX1_isReply cX1_isReply 2 (some .boolean), Cond.methodLink RX0 126 yX0_letterAnsweredBy, Cond.instanceMethod yX0_letterAnsweredBy, Cond.selects RX0 yX0_letterAnsweredBy yX0_letterAnsweredBy, Cond.code yX0_letterAnsweredBy cX0_letterAnsweredBy 5 (some .int), Cond.instanceMethod yX1_isAnsweredBy, Cond.selects RX1 yX1_isAnsweredBy yX1_isAnsweredBy, Cond.code yX1_isAnsweredBy cX1_isAnsweredBy 4 (some .boolean), Cond.instanceMethod yX1_dayOf, Cond.selects RX1 yX1_dayOf yX1_dayOf, Cond.code yX1_dayOf cX1_dayOf 2 (some .int), Cond.methodLink RX0 80 yX0_measureTrees, Cond.instanceMethod yX0_measureTrees, Cond.selects RX0 yX0_measureTrees yX0_measureTrees]
def wsX2_letter_r6 : List Cond := [Cond.code yX0_measureTrees cX0_measureTrees 2 none, Cond.fieldLink RX0 31 "Threadline$Forest" "size" "[I", Cond.fieldLink RX0 25 "Threadline$Forest" "earliest" "[I", Cond.fieldLink RX0 28 "Threadline$Forest" "turn" "[I", Cond.methodLink RX0 135 yX0_countUpwards, Cond.instanceMethod yX0_countUpwards, Cond.selects RX0 yX0_countUpwards yX0_countUpwards, Cond.code yX0_countUpwards cX0_countUpwards 5 none, Cond.methodLink RX0 138 Lib.Math.min.name, Cond.static Lib.Math.min.name, Cond.initialized "java/lang/Math", Cond.code Lib.Math.min.name Lib.Math.min.code 2 (some .int), Cond.methodLink RX0 83 yX0_placeRoots, Cond.instanceMethod yX0_placeRoots, Cond.selects RX0 yX0_placeRoots yX0_placeRoots, Cond.code yX0_placeRoots cX0_placeRoots 2 none, Cond.fieldLink RX0 57 "Threadline$Forest" "rootCount" "I", Cond.methodLink RX0 144 yX0_placeRoot, Cond.instanceMethod yX0_placeRoot, Cond.selects RX0 yX0_placeRoot yX0_placeRoot, Cond.code yX0_placeRoot cX0_placeRoot 4 none, Cond.fieldLink RX0 43 "Threadline$Forest" "rootRow" "[I", Cond.methodLink RX0 147 yX0_comesBefore, Cond.instanceMethod yX0_comesBefore]
def wsX2_letter_r7 : List Cond := [Cond.selects RX0 yX0_comesBefore yX0_comesBefore, Cond.code yX0_comesBefore cX0_comesBefore 3 (some .boolean), Cond.methodLink RX0 54 yX0_contains, Cond.instanceMethod yX0_contains, Cond.selects RX0 yX0_contains yX0_contains, Cond.code yX0_contains cX0_contains 2 (some .boolean), Cond.methodLink RX0 86 yX0_placeTrees, Cond.instanceMethod yX0_placeTrees, Cond.selects RX0 yX0_placeTrees yX0_placeTrees, Cond.code yX0_placeTrees cX0_placeTrees 2 none, Cond.fieldLink RX0 34 "Threadline$Forest" "offset" "[I", Cond.fieldLink RX0 37 "Threadline$Forest" "start" "[I", Cond.fieldLink RX0 40 "Threadline$Forest" "order" "[I", Cond.methodLink RX0 150 yX0_offsetBehindParent, Cond.instanceMethod yX0_offsetBehindParent, Cond.selects RX0 yX0_offsetBehindParent yX0_offsetBehindParent, Cond.code yX0_offsetBehindParent cX0_offsetBehindParent 4 (some .int), Cond.methodLink RX0 61 yX0_parentIn, Cond.instanceMethod yX0_parentIn, Cond.selects RX0 yX0_parentIn yX0_parentIn, Cond.code yX0_parentIn cX0_parentIn 2 (some .int), Cond.methodLink RX0 153 yX0_startInOrder, Cond.instanceMethod yX0_startInOrder, Cond.selects RX0 yX0_startInOrder yX0_startInOrder]
def wsX2_letter_r8 : List Cond := [Cond.code yX0_startInOrder cX0_startInOrder 5 (some .int), Cond.instanceMethod yX0_countRoots, Cond.selects RX0 yX0_countRoots yX0_countRoots, Cond.code yX0_countRoots cX0_countRoots 1 (some .int)]
def wsX2_letter : List Cond := .code yX2_letter cX2_letter 7 (some .int) :: ((wsX2_letter_r1 ++ (wsX2_letter_r2 ++ (wsX2_letter_r3 ++ (wsX2_letter_r4 ++ (wsX2_letter_r5 ++ (wsX2_letter_r6 ++ (wsX2_letter_r7 ++ wsX2_letter_r8))))))) ++ wsX20 ++ wsX10 ++ wsX00 ++ (vx_atS RX2 44 "java/lang/IllegalStateException" ["java/lang/RuntimeException", "java/lang/Exception"]).filter goodWord ++ (vx_atS RX2 75 "java/lang/IllegalArgumentException" ["java/lang/RuntimeException", "java/lang/Exception"]).filter goodWord)
def wsX2_requireLetter : List Cond := .code yX2_requireLetter cX2_requireLetter 2 none :: ([.classLink RX2 40 "java/lang/IllegalStateException", .initialized "java/lang/IllegalStateException", .fieldLink RX2 10 "Threadline" "mail" "LThreadline$Mail;", .methodLink RX2 25 yX2_requireId, .static yX2_requireId, .initialized RX2, .code yX2_requireId cX2_requireId 1 none, .classLink RX2 71 "java/lang/IllegalArgumentException", .initialized "java/lang/IllegalArgumentException", .methodLink RX2 131 yX2_isId, .static yX2_isId, .code yX2_isId cX2_isId 1 (some .boolean), .instanceMethod yX1_holds, .initialized RX1, .selects RX1 yX1_holds yX1_holds, .code yX1_holds cX1_holds 2 (some .boolean), .fieldLink RX1 9 "Threadline$Mail" "there" "[Z"] ++ wsX20 ++ wsX10 ++ (vx_atS RX2 44 "java/lang/IllegalStateException" ["java/lang/RuntimeException", "java/lang/Exception"]).filter goodWord ++ (vx_atS RX2 75 "java/lang/IllegalArgumentException" ["java/lang/RuntimeException", "java/lang/Exception"]).filter goodWord)
def wsX2_delete_r1 : List Cond := [Cond.fieldLink RX2 10 "Threadline" "mail" "LThreadline$Mail;", Cond.fieldLink RX2 21 "Threadline" "forest" "LThreadline$Forest;", Cond.methodLink RX2 58 yX2_requireLetter, Cond.instanceMethod yX2_requireLetter, Cond.selects RX2 yX2_requireLetter yX2_requireLetter, Cond.initialized RX2, Cond.code yX2_requireLetter cX2_requireLetter 2 none, Cond.classLink RX2 40 "java/lang/IllegalStateException", Cond.initialized "java/lang/IllegalStateException", Cond.methodLink RX2 25 yX2_requireId, Cond.static yX2_requireId, Cond.code yX2_requireId cX2_requireId 1 none, Cond.classLink RX2 71 "java/lang/IllegalArgumentException", Cond.initialized "java/lang/IllegalArgumentException", Cond.methodLink RX2 131 yX2_isId, Cond.static yX2_isId, Cond.code yX2_isId cX2_isId 1 (some .boolean), Cond.instanceMethod yX1_holds, Cond.initialized RX1, Cond.selects RX1 yX1_holds yX1_holds, Cond.code yX1_holds cX1_holds 2 (some .boolean), Cond.fieldLink RX1 9 "Threadline$Mail" "there" "[Z", Cond.instanceMethod yX1_drop, Cond.selects RX1 yX1_drop yX1_drop]
def wsX2_delete_r2 : List Cond := [Cond.code yX1_drop cX1_drop 2 none, Cond.instanceMethod yX0_grow, Cond.initialized RX0, Cond.selects RX0 yX0_grow yX0_grow, Cond.code yX0_grow cX0_grow 1 none, Cond.methodLink RX0 65 yX0_findKnown, Cond.instanceMethod yX0_findKnown, Cond.selects RX0 yX0_findKnown yX0_findKnown, Cond.code yX0_findKnown cX0_findKnown 2 none, Cond.fieldLink RX0 9 "Threadline$Forest" "known" "[Z", Cond.fieldLink RX0 46 "Threadline$Forest" "mail" "LThreadline$Mail;", Cond.instanceMethod yX1_parentToldBy, Cond.selects RX1 yX1_parentToldBy yX1_parentToldBy, Cond.code yX1_parentToldBy cX1_parentToldBy 2 (some .int), Cond.fieldLink RX1 19 "Threadline$Mail" "toldParent" "[I", Cond.methodLink RX1 44 yX1_holds, Cond.methodLink RX0 97 yX0_learn, Cond.instanceMethod yX0_learn, Cond.selects RX0 yX0_learn yX0_learn, Cond.code yX0_learn cX0_learn 2 none, Cond.instanceMethod yX1_grandparentToldBy, Cond.selects RX1 yX1_grandparentToldBy yX1_grandparentToldBy, Cond.code yX1_grandparentToldBy cX1_grandparentToldBy 2 (some .int), Cond.fieldLink RX1 15 "Threadline$Mail" "toldGrandparent" "[I"]
def wsX2_delete_r3 : List Cond := [Cond.instanceMethod yX1_handOf, Cond.selects RX1 yX1_handOf yX1_handOf, Cond.code yX1_handOf cX1_handOf 2 (some .int), Cond.fieldLink RX1 37 "Threadline$Mail" "hand" "[I", Cond.methodLink RX0 68 yX0_linkKnown, Cond.instanceMethod yX0_linkKnown, Cond.selects RX0 yX0_linkKnown yX0_linkKnown, Cond.code yX0_linkKnown cX0_linkKnown 3 none, Cond.fieldLink RX0 15 "Threadline$Forest" "link" "[I", Cond.instanceMethod yX1_toldParentOf, Cond.selects RX1 yX1_toldParentOf yX1_toldParentOf, Cond.code yX1_toldParentOf cX1_toldParentOf 3 (some .int), Cond.methodLink RX1 50 yX1_guessedParentOf, Cond.instanceMethod yX1_guessedParentOf, Cond.selects RX1 yX1_guessedParentOf yX1_guessedParentOf, Cond.code yX1_guessedParentOf cX1_guessedParentOf 3 (some .int), Cond.methodLink RX1 57 yX1_parentToldBy, Cond.methodLink RX1 60 yX1_grandparentToldBy, Cond.methodLink RX1 54 yX1_handOf, Cond.methodLink RX0 110 yX0_linksLead, Cond.instanceMethod yX0_linksLead, Cond.selects RX0 yX0_linksLead yX0_linksLead, Cond.code yX0_linksLead cX0_linksLead 5 (some .boolean), Cond.methodLink RX0 71 yX0_hangByLinks]
def wsX2_delete_r4 : List Cond := [Cond.instanceMethod yX0_hangByLinks, Cond.selects RX0 yX0_hangByLinks yX0_hangByLinks, Cond.code yX0_hangByLinks cX0_hangByLinks 2 none, Cond.fieldLink RX0 19 "Threadline$Forest" "parentOf" "[I", Cond.methodLink RX0 114 yX0_parentByLinks, Cond.instanceMethod yX0_parentByLinks, Cond.selects RX0 yX0_parentByLinks yX0_parentByLinks, Cond.code yX0_parentByLinks cX0_parentByLinks 4 (some .int), Cond.methodLink RX0 74 yX0_keepMissing, Cond.instanceMethod yX0_keepMissing, Cond.selects RX0 yX0_keepMissing yX0_keepMissing, Cond.code yX0_keepMissing cX0_keepMissing 2 none, Cond.fieldLink RX0 22 "Threadline$Forest" "standing" "[Z", Cond.methodLink RX0 117 yX0_countChildren, Cond.instanceMethod yX0_countChildren, Cond.selects RX0 yX0_countChildren yX0_countChildren, Cond.code yX0_countChildren cX0_countChildren 4 (some .int), Cond.methodLink RX0 120 yX0_freeChildren, Cond.instanceMethod yX0_freeChildren, Cond.selects RX0 yX0_freeChildren yX0_freeChildren, Cond.code yX0_freeChildren cX0_freeChildren 3 none, Cond.methodLink RX0 77 yX0_hangReplies, Cond.instanceMethod yX0_hangReplies, Cond.selects RX0 yX0_hangReplies yX0_hangReplies]
def wsX2_delete_r5 : List Cond := [Cond.code yX0_hangReplies cX0_hangReplies 2 none, Cond.instanceMethod yX1_isReply, Cond.selects RX1 yX1_isReply yX1_isReply, Cond.code yX1_isReply cX1_isReply 2 (some .boolean), Cond.fieldLink RX1 25 "Threadline$Mail" "reply" "[Z", Cond.methodLink RX0 126 yX0_letterAnsweredBy, Cond.instanceMethod yX0_letterAnsweredBy, Cond.selects RX0 yX0_letterAnsweredBy yX0_letterAnsweredBy, Cond.code yX0_letterAnsweredBy cX0_letterAnsweredBy 5 (some .int), Cond.instanceMethod yX1_isAnsweredBy, Cond.selects RX1 yX1_isAnsweredBy yX1_isAnsweredBy, Cond.code yX1_isAnsweredBy cX1_isAnsweredBy 4 (some .boolean), Cond.fieldLink RX1 28 "Threadline$Mail" "day" "[I", Cond.fieldLink RX1 22 "Threadline$Mail" "subject" "[I", Cond.instanceMethod yX1_dayOf, Cond.selects RX1 yX1_dayOf yX1_dayOf, Cond.code yX1_dayOf cX1_dayOf 2 (some .int), Cond.methodLink RX0 80 yX0_measureTrees, Cond.instanceMethod yX0_measureTrees, Cond.selects RX0 yX0_measureTrees yX0_measureTrees, Cond.code yX0_measureTrees cX0_measureTrees 2 none, Cond.fieldLink RX0 31 "Threadline$Forest" "size" "[I", Cond.fieldLink RX0 25 "Threadline$Forest" "earliest" "[I", Cond.fieldLink RX0 28 "Threadline$Forest" "turn" "[I"]
def wsX2_delete_r6 : List Cond := [Cond.methodLink RX0 135 yX0_countUpwards, Cond.instanceMethod yX0_countUpwards, Cond.selects RX0 yX0_countUpwards yX0_countUpwards, Cond.code yX0_countUpwards cX0_countUpwards 5 none, Cond.methodLink RX0 138 Lib.Math.min.name, Cond.static Lib.Math.min.name, Cond.initialized "java/lang/Math", Cond.code Lib.Math.min.name Lib.Math.min.code 2 (some .int), Cond.methodLink RX0 83 yX0_placeRoots, Cond.instanceMethod yX0_placeRoots, Cond.selects RX0 yX0_placeRoots yX0_placeRoots, Cond.code yX0_placeRoots cX0_placeRoots 2 none, Cond.fieldLink RX0 57 "Threadline$Forest" "rootCount" "I", Cond.methodLink RX0 144 yX0_placeRoot, Cond.instanceMethod yX0_placeRoot, Cond.selects RX0 yX0_placeRoot yX0_placeRoot, Cond.code yX0_placeRoot cX0_placeRoot 4 none, Cond.fieldLink RX0 43 "Threadline$Forest" "rootRow" "[I", Cond.methodLink RX0 147 yX0_comesBefore, Cond.instanceMethod yX0_comesBefore, Cond.selects RX0 yX0_comesBefore yX0_comesBefore, Cond.code yX0_comesBefore cX0_comesBefore 3 (some .boolean), Cond.methodLink RX0 54 yX0_contains, Cond.instanceMethod yX0_contains]
def wsX2_delete_r7 : List Cond := [Cond.selects RX0 yX0_contains yX0_contains, Cond.code yX0_contains cX0_contains 2 (some .boolean), Cond.methodLink RX0 86 yX0_placeTrees, Cond.instanceMethod yX0_placeTrees, Cond.selects RX0 yX0_placeTrees yX0_placeTrees, Cond.code yX0_placeTrees cX0_placeTrees 2 none, Cond.fieldLink RX0 34 "Threadline$Forest" "offset" "[I", Cond.fieldLink RX0 37 "Threadline$Forest" "start" "[I", Cond.fieldLink RX0 40 "Threadline$Forest" "order" "[I", Cond.methodLink RX0 150 yX0_offsetBehindParent, Cond.instanceMethod yX0_offsetBehindParent, Cond.selects RX0 yX0_offsetBehindParent yX0_offsetBehindParent, Cond.code yX0_offsetBehindParent cX0_offsetBehindParent 4 (some .int), Cond.methodLink RX0 61 yX0_parentIn, Cond.instanceMethod yX0_parentIn, Cond.selects RX0 yX0_parentIn yX0_parentIn, Cond.code yX0_parentIn cX0_parentIn 2 (some .int), Cond.methodLink RX0 153 yX0_startInOrder, Cond.instanceMethod yX0_startInOrder, Cond.selects RX0 yX0_startInOrder yX0_startInOrder, Cond.code yX0_startInOrder cX0_startInOrder 5 (some .int), Cond.instanceMethod yX0_countRoots, Cond.selects RX0 yX0_countRoots yX0_countRoots, Cond.code yX0_countRoots cX0_countRoots 1 (some .int)]
def wsX2_delete : List Cond := .code yX2_delete cX2_delete 2 (some .int) :: ((wsX2_delete_r1 ++ (wsX2_delete_r2 ++ (wsX2_delete_r3 ++ (wsX2_delete_r4 ++ (wsX2_delete_r5 ++ (wsX2_delete_r6 ++ wsX2_delete_r7)))))) ++ wsX20 ++ wsX10 ++ wsX00 ++ (vx_atS RX2 44 "java/lang/IllegalStateException" ["java/lang/RuntimeException", "java/lang/Exception"]).filter goodWord ++ (vx_atS RX2 75 "java/lang/IllegalArgumentException" ["java/lang/RuntimeException", "java/lang/Exception"]).filter goodWord)
def wsX2_split_r1 : List Cond := [Cond.fieldLink RX2 21 "Threadline" "forest" "LThreadline$Forest;", Cond.fieldLink RX2 10 "Threadline" "mail" "LThreadline$Mail;", Cond.methodLink RX2 58 yX2_requireLetter, Cond.instanceMethod yX2_requireLetter, Cond.selects RX2 yX2_requireLetter yX2_requireLetter, Cond.initialized RX2, Cond.code yX2_requireLetter cX2_requireLetter 2 none, Cond.classLink RX2 40 "java/lang/IllegalStateException", Cond.initialized "java/lang/IllegalStateException", Cond.methodLink RX2 25 yX2_requireId, Cond.static yX2_requireId, Cond.code yX2_requireId cX2_requireId 1 none, Cond.classLink RX2 71 "java/lang/IllegalArgumentException", Cond.initialized "java/lang/IllegalArgumentException", Cond.methodLink RX2 131 yX2_isId, Cond.static yX2_isId, Cond.code yX2_isId cX2_isId 1 (some .boolean), Cond.instanceMethod yX1_holds, Cond.initialized RX1, Cond.selects RX1 yX1_holds yX1_holds, Cond.code yX1_holds cX1_holds 2 (some .boolean), Cond.fieldLink RX1 9 "Threadline$Mail" "there" "[Z", Cond.instanceMethod yX0_parentIn, Cond.initialized RX0]
def wsX2_split_r2 : List Cond := [Cond.selects RX0 yX0_parentIn yX0_parentIn, Cond.code yX0_parentIn cX0_parentIn 2 (some .int), Cond.fieldLink RX0 19 "Threadline$Forest" "parentOf" "[I", Cond.methodLink RX0 54 yX0_contains, Cond.instanceMethod yX0_contains, Cond.selects RX0 yX0_contains yX0_contains, Cond.code yX0_contains cX0_contains 2 (some .boolean), Cond.fieldLink RX0 22 "Threadline$Forest" "standing" "[Z", Cond.instanceMethod yX1_setHand, Cond.selects RX1 yX1_setHand yX1_setHand, Cond.code yX1_setHand cX1_setHand 3 none, Cond.fieldLink RX1 37 "Threadline$Mail" "hand" "[I", Cond.methodLink RX1 44 yX1_holds, Cond.instanceMethod yX0_grow, Cond.selects RX0 yX0_grow yX0_grow, Cond.code yX0_grow cX0_grow 1 none, Cond.methodLink RX0 65 yX0_findKnown, Cond.instanceMethod yX0_findKnown, Cond.selects RX0 yX0_findKnown yX0_findKnown, Cond.code yX0_findKnown cX0_findKnown 2 none, Cond.fieldLink RX0 9 "Threadline$Forest" "known" "[Z", Cond.fieldLink RX0 46 "Threadline$Forest" "mail" "LThreadline$Mail;", Cond.instanceMethod yX1_parentToldBy, Cond.selects RX1 yX1_parentToldBy yX1_parentToldBy]
def wsX2_split_r3 : List Cond := [Cond.code yX1_parentToldBy cX1_parentToldBy 2 (some .int), Cond.fieldLink RX1 19 "Threadline$Mail" "toldParent" "[I", Cond.methodLink RX0 97 yX0_learn, Cond.instanceMethod yX0_learn, Cond.selects RX0 yX0_learn yX0_learn, Cond.code yX0_learn cX0_learn 2 none, Cond.instanceMethod yX1_grandparentToldBy, Cond.selects RX1 yX1_grandparentToldBy yX1_grandparentToldBy, Cond.code yX1_grandparentToldBy cX1_grandparentToldBy 2 (some .int), Cond.fieldLink RX1 15 "Threadline$Mail" "toldGrandparent" "[I", Cond.instanceMethod yX1_handOf, Cond.selects RX1 yX1_handOf yX1_handOf, Cond.code yX1_handOf cX1_handOf 2 (some .int), Cond.methodLink RX0 68 yX0_linkKnown, Cond.instanceMethod yX0_linkKnown, Cond.selects RX0 yX0_linkKnown yX0_linkKnown, Cond.code yX0_linkKnown cX0_linkKnown 3 none, Cond.fieldLink RX0 15 "Threadline$Forest" "link" "[I", Cond.instanceMethod yX1_toldParentOf, Cond.selects RX1 yX1_toldParentOf yX1_toldParentOf, Cond.code yX1_toldParentOf cX1_toldParentOf 3 (some .int), Cond.methodLink RX1 50 yX1_guessedParentOf, Cond.instanceMethod yX1_guessedParentOf, Cond.selects RX1 yX1_guessedParentOf yX1_guessedParentOf]
def wsX2_split_r4 : List Cond := [Cond.code yX1_guessedParentOf cX1_guessedParentOf 3 (some .int), Cond.methodLink RX1 57 yX1_parentToldBy, Cond.methodLink RX1 60 yX1_grandparentToldBy, Cond.methodLink RX1 54 yX1_handOf, Cond.methodLink RX0 110 yX0_linksLead, Cond.instanceMethod yX0_linksLead, Cond.selects RX0 yX0_linksLead yX0_linksLead, Cond.code yX0_linksLead cX0_linksLead 5 (some .boolean), Cond.methodLink RX0 71 yX0_hangByLinks, Cond.instanceMethod yX0_hangByLinks, Cond.selects RX0 yX0_hangByLinks yX0_hangByLinks, Cond.code yX0_hangByLinks cX0_hangByLinks 2 none, Cond.methodLink RX0 114 yX0_parentByLinks, Cond.instanceMethod yX0_parentByLinks, Cond.selects RX0 yX0_parentByLinks yX0_parentByLinks, Cond.code yX0_parentByLinks cX0_parentByLinks 4 (some .int), Cond.methodLink RX0 74 yX0_keepMissing, Cond.instanceMethod yX0_keepMissing, Cond.selects RX0 yX0_keepMissing yX0_keepMissing, Cond.code yX0_keepMissing cX0_keepMissing 2 none, Cond.methodLink RX0 117 yX0_countChildren, Cond.instanceMethod yX0_countChildren, Cond.selects RX0 yX0_countChildren yX0_countChildren, Cond.code yX0_countChildren cX0_countChildren 4 (some .int)]
def wsX2_split_r5 : List Cond := [Cond.methodLink RX0 120 yX0_freeChildren, Cond.instanceMethod yX0_freeChildren, Cond.selects RX0 yX0_freeChildren yX0_freeChildren, Cond.code yX0_freeChildren cX0_freeChildren 3 none, Cond.methodLink RX0 77 yX0_hangReplies, Cond.instanceMethod yX0_hangReplies, Cond.selects RX0 yX0_hangReplies yX0_hangReplies, Cond.code yX0_hangReplies cX0_hangReplies 2 none, Cond.instanceMethod yX1_isReply, Cond.selects RX1 yX1_isReply yX1_isReply, Cond.code yX1_isReply cX1_isReply 2 (some .boolean), Cond.fieldLink RX1 25 "Threadline$Mail" "reply" "[Z", Cond.methodLink RX0 126 yX0_letterAnsweredBy, Cond.instanceMethod yX0_letterAnsweredBy, Cond.selects RX0 yX0_letterAnsweredBy yX0_letterAnsweredBy, Cond.code yX0_letterAnsweredBy cX0_letterAnsweredBy 5 (some .int), Cond.instanceMethod yX1_isAnsweredBy, Cond.selects RX1 yX1_isAnsweredBy yX1_isAnsweredBy, Cond.code yX1_isAnsweredBy cX1_isAnsweredBy 4 (some .boolean), Cond.fieldLink RX1 28 "Threadline$Mail" "day" "[I", Cond.fieldLink RX1 22 "Threadline$Mail" "subject" "[I", Cond.instanceMethod yX1_dayOf, Cond.selects RX1 yX1_dayOf yX1_dayOf, Cond.code yX1_dayOf cX1_dayOf 2 (some .int)]
def wsX2_split_r6 : List Cond := [Cond.methodLink RX0 80 yX0_measureTrees, Cond.instanceMethod yX0_measureTrees, Cond.selects RX0 yX0_measureTrees yX0_measureTrees, Cond.code yX0_measureTrees cX0_measureTrees 2 none, Cond.fieldLink RX0 31 "Threadline$Forest" "size" "[I", Cond.fieldLink RX0 25 "Threadline$Forest" "earliest" "[I", Cond.fieldLink RX0 28 "Threadline$Forest" "turn" "[I", Cond.methodLink RX0 135 yX0_countUpwards, Cond.instanceMethod yX0_countUpwards, Cond.selects RX0 yX0_countUpwards yX0_countUpwards, Cond.code yX0_countUpwards cX0_countUpwards 5 none, Cond.methodLink RX0 138 Lib.Math.min.name, Cond.static Lib.Math.min.name, Cond.initialized "java/lang/Math", Cond.code Lib.Math.min.name Lib.Math.min.code 2 (some .int), Cond.methodLink RX0 83 yX0_placeRoots, Cond.instanceMethod yX0_placeRoots, Cond.selects RX0 yX0_placeRoots yX0_placeRoots, Cond.code yX0_placeRoots cX0_placeRoots 2 none, Cond.fieldLink RX0 57 "Threadline$Forest" "rootCount" "I", Cond.methodLink RX0 144 yX0_placeRoot, Cond.instanceMethod yX0_placeRoot, Cond.selects RX0 yX0_placeRoot yX0_placeRoot, Cond.code yX0_placeRoot cX0_placeRoot 4 none]
def wsX2_split_r7 : List Cond := [Cond.fieldLink RX0 43 "Threadline$Forest" "rootRow" "[I", Cond.methodLink RX0 147 yX0_comesBefore, Cond.instanceMethod yX0_comesBefore, Cond.selects RX0 yX0_comesBefore yX0_comesBefore, Cond.code yX0_comesBefore cX0_comesBefore 3 (some .boolean), Cond.methodLink RX0 86 yX0_placeTrees, Cond.instanceMethod yX0_placeTrees, Cond.selects RX0 yX0_placeTrees yX0_placeTrees, Cond.code yX0_placeTrees cX0_placeTrees 2 none, Cond.fieldLink RX0 34 "Threadline$Forest" "offset" "[I", Cond.fieldLink RX0 37 "Threadline$Forest" "start" "[I", Cond.fieldLink RX0 40 "Threadline$Forest" "order" "[I", Cond.methodLink RX0 150 yX0_offsetBehindParent, Cond.instanceMethod yX0_offsetBehindParent, Cond.selects RX0 yX0_offsetBehindParent yX0_offsetBehindParent, Cond.code yX0_offsetBehindParent cX0_offsetBehindParent 4 (some .int), Cond.methodLink RX0 61 yX0_parentIn, Cond.methodLink RX0 153 yX0_startInOrder, Cond.instanceMethod yX0_startInOrder, Cond.selects RX0 yX0_startInOrder yX0_startInOrder, Cond.code yX0_startInOrder cX0_startInOrder 5 (some .int)]
def wsX2_split : List Cond := .code yX2_split cX2_split 3 (some .int) :: ((wsX2_split_r1 ++ (wsX2_split_r2 ++ (wsX2_split_r3 ++ (wsX2_split_r4 ++ (wsX2_split_r5 ++ (wsX2_split_r6 ++ wsX2_split_r7)))))) ++ wsX20 ++ wsX10 ++ wsX00 ++ (vx_atS RX2 44 "java/lang/IllegalStateException" ["java/lang/RuntimeException", "java/lang/Exception"]).filter goodWord ++ (vx_atS RX2 75 "java/lang/IllegalArgumentException" ["java/lang/RuntimeException", "java/lang/Exception"]).filter goodWord)
def wsX2_join_r1 : List Cond := [Cond.classLink RX2 71 "java/lang/IllegalArgumentException", Cond.initialized "java/lang/IllegalArgumentException", Cond.classLink RX2 40 "java/lang/IllegalStateException", Cond.initialized "java/lang/IllegalStateException", Cond.fieldLink RX2 21 "Threadline" "forest" "LThreadline$Forest;", Cond.fieldLink RX2 10 "Threadline" "mail" "LThreadline$Mail;", Cond.methodLink RX2 25 yX2_requireId, Cond.static yX2_requireId, Cond.initialized RX2, Cond.code yX2_requireId cX2_requireId 1 none, Cond.methodLink RX2 131 yX2_isId, Cond.static yX2_isId, Cond.code yX2_isId cX2_isId 1 (some .boolean), Cond.methodLink RX2 58 yX2_requireLetter, Cond.instanceMethod yX2_requireLetter, Cond.selects RX2 yX2_requireLetter yX2_requireLetter, Cond.code yX2_requireLetter cX2_requireLetter 2 none, Cond.instanceMethod yX1_holds, Cond.initialized RX1, Cond.selects RX1 yX1_holds yX1_holds, Cond.code yX1_holds cX1_holds 2 (some .boolean), Cond.fieldLink RX1 9 "Threadline$Mail" "there" "[Z", Cond.instanceMethod yX0_isInTree, Cond.initialized RX0]
def wsX2_join_r2 : List Cond := [Cond.selects RX0 yX0_isInTree yX0_isInTree, Cond.code yX0_isInTree cX0_isInTree 5 (some .boolean), Cond.methodLink RX0 61 yX0_parentIn, Cond.instanceMethod yX0_parentIn, Cond.selects RX0 yX0_parentIn yX0_parentIn, Cond.code yX0_parentIn cX0_parentIn 2 (some .int), Cond.fieldLink RX0 19 "Threadline$Forest" "parentOf" "[I", Cond.methodLink RX0 54 yX0_contains, Cond.instanceMethod yX0_contains, Cond.selects RX0 yX0_contains yX0_contains, Cond.code yX0_contains cX0_contains 2 (some .boolean), Cond.fieldLink RX0 22 "Threadline$Forest" "standing" "[Z", Cond.instanceMethod yX1_setHand, Cond.selects RX1 yX1_setHand yX1_setHand, Cond.code yX1_setHand cX1_setHand 3 none, Cond.fieldLink RX1 37 "Threadline$Mail" "hand" "[I", Cond.methodLink RX1 44 yX1_holds, Cond.instanceMethod yX0_grow, Cond.selects RX0 yX0_grow yX0_grow, Cond.code yX0_grow cX0_grow 1 none, Cond.methodLink RX0 65 yX0_findKnown, Cond.instanceMethod yX0_findKnown, Cond.selects RX0 yX0_findKnown yX0_findKnown, Cond.code yX0_findKnown cX0_findKnown 2 none]
def wsX2_join_r3 : List Cond := [Cond.fieldLink RX0 9 "Threadline$Forest" "known" "[Z", Cond.fieldLink RX0 46 "Threadline$Forest" "mail" "LThreadline$Mail;", Cond.instanceMethod yX1_parentToldBy, Cond.selects RX1 yX1_parentToldBy yX1_parentToldBy, Cond.code yX1_parentToldBy cX1_parentToldBy 2 (some .int), Cond.fieldLink RX1 19 "Threadline$Mail" "toldParent" "[I", Cond.methodLink RX0 97 yX0_learn, Cond.instanceMethod yX0_learn, Cond.selects RX0 yX0_learn yX0_learn, Cond.code yX0_learn cX0_learn 2 none, Cond.instanceMethod yX1_grandparentToldBy, Cond.selects RX1 yX1_grandparentToldBy yX1_grandparentToldBy, Cond.code yX1_grandparentToldBy cX1_grandparentToldBy 2 (some .int), Cond.fieldLink RX1 15 "Threadline$Mail" "toldGrandparent" "[I", Cond.instanceMethod yX1_handOf, Cond.selects RX1 yX1_handOf yX1_handOf, Cond.code yX1_handOf cX1_handOf 2 (some .int), Cond.methodLink RX0 68 yX0_linkKnown, Cond.instanceMethod yX0_linkKnown, Cond.selects RX0 yX0_linkKnown yX0_linkKnown, Cond.code yX0_linkKnown cX0_linkKnown 3 none, Cond.fieldLink RX0 15 "Threadline$Forest" "link" "[I", Cond.instanceMethod yX1_toldParentOf, Cond.selects RX1 yX1_toldParentOf yX1_toldParentOf]
def wsX2_join_r4 : List Cond := [Cond.code yX1_toldParentOf cX1_toldParentOf 3 (some .int), Cond.methodLink RX1 50 yX1_guessedParentOf, Cond.instanceMethod yX1_guessedParentOf, Cond.selects RX1 yX1_guessedParentOf yX1_guessedParentOf, Cond.code yX1_guessedParentOf cX1_guessedParentOf 3 (some .int), Cond.methodLink RX1 57 yX1_parentToldBy, Cond.methodLink RX1 60 yX1_grandparentToldBy, Cond.methodLink RX1 54 yX1_handOf, Cond.methodLink RX0 110 yX0_linksLead, Cond.instanceMethod yX0_linksLead, Cond.selects RX0 yX0_linksLead yX0_linksLead, Cond.code yX0_linksLead cX0_linksLead 5 (some .boolean), Cond.methodLink RX0 71 yX0_hangByLinks, Cond.instanceMethod yX0_hangByLinks, Cond.selects RX0 yX0_hangByLinks yX0_hangByLinks, Cond.code yX0_hangByLinks cX0_hangByLinks 2 none, Cond.methodLink RX0 114 yX0_parentByLinks, Cond.instanceMethod yX0_parentByLinks, Cond.selects RX0 yX0_parentByLinks yX0_parentByLinks, Cond.code yX0_parentByLinks cX0_parentByLinks 4 (some .int), Cond.methodLink RX0 74 yX0_keepMissing, Cond.instanceMethod yX0_keepMissing, Cond.selects RX0 yX0_keepMissing yX0_keepMissing, Cond.code yX0_keepMissing cX0_keepMissing 2 none]
def wsX2_join_r5 : List Cond := [Cond.methodLink RX0 117 yX0_countChildren, Cond.instanceMethod yX0_countChildren, Cond.selects RX0 yX0_countChildren yX0_countChildren, Cond.code yX0_countChildren cX0_countChildren 4 (some .int), Cond.methodLink RX0 120 yX0_freeChildren, Cond.instanceMethod yX0_freeChildren, Cond.selects RX0 yX0_freeChildren yX0_freeChildren, Cond.code yX0_freeChildren cX0_freeChildren 3 none, Cond.methodLink RX0 77 yX0_hangReplies, Cond.instanceMethod yX0_hangReplies, Cond.selects RX0 yX0_hangReplies yX0_hangReplies, Cond.code yX0_hangReplies cX0_hangReplies 2 none, Cond.instanceMethod yX1_isReply, Cond.selects RX1 yX1_isReply yX1_isReply, Cond.code yX1_isReply cX1_isReply 2 (some .boolean), Cond.fieldLink RX1 25 "Threadline$Mail" "reply" "[Z", Cond.methodLink RX0 126 yX0_letterAnsweredBy, Cond.instanceMethod yX0_letterAnsweredBy, Cond.selects RX0 yX0_letterAnsweredBy yX0_letterAnsweredBy, Cond.code yX0_letterAnsweredBy cX0_letterAnsweredBy 5 (some .int), Cond.instanceMethod yX1_isAnsweredBy, Cond.selects RX1 yX1_isAnsweredBy yX1_isAnsweredBy, Cond.code yX1_isAnsweredBy cX1_isAnsweredBy 4 (some .boolean), Cond.fieldLink RX1 28 "Threadline$Mail" "day" "[I"]
def wsX2_join_r6 : List Cond := [Cond.fieldLink RX1 22 "Threadline$Mail" "subject" "[I", Cond.instanceMethod yX1_dayOf, Cond.selects RX1 yX1_dayOf yX1_dayOf, Cond.code yX1_dayOf cX1_dayOf 2 (some .int), Cond.methodLink RX0 80 yX0_measureTrees, Cond.instanceMethod yX0_measureTrees, Cond.selects RX0 yX0_measureTrees yX0_measureTrees, Cond.code yX0_measureTrees cX0_measureTrees 2 none, Cond.fieldLink RX0 31 "Threadline$Forest" "size" "[I", Cond.fieldLink RX0 25 "Threadline$Forest" "earliest" "[I", Cond.fieldLink RX0 28 "Threadline$Forest" "turn" "[I", Cond.methodLink RX0 135 yX0_countUpwards, Cond.instanceMethod yX0_countUpwards, Cond.selects RX0 yX0_countUpwards yX0_countUpwards, Cond.code yX0_countUpwards cX0_countUpwards 5 none, Cond.methodLink RX0 138 Lib.Math.min.name, Cond.static Lib.Math.min.name, Cond.initialized "java/lang/Math", Cond.code Lib.Math.min.name Lib.Math.min.code 2 (some .int), Cond.methodLink RX0 83 yX0_placeRoots, Cond.instanceMethod yX0_placeRoots, Cond.selects RX0 yX0_placeRoots yX0_placeRoots, Cond.code yX0_placeRoots cX0_placeRoots 2 none, Cond.fieldLink RX0 57 "Threadline$Forest" "rootCount" "I"]
def wsX2_join_r7 : List Cond := [Cond.methodLink RX0 144 yX0_placeRoot, Cond.instanceMethod yX0_placeRoot, Cond.selects RX0 yX0_placeRoot yX0_placeRoot, Cond.code yX0_placeRoot cX0_placeRoot 4 none, Cond.fieldLink RX0 43 "Threadline$Forest" "rootRow" "[I", Cond.methodLink RX0 147 yX0_comesBefore, Cond.instanceMethod yX0_comesBefore, Cond.selects RX0 yX0_comesBefore yX0_comesBefore, Cond.code yX0_comesBefore cX0_comesBefore 3 (some .boolean), Cond.methodLink RX0 86 yX0_placeTrees, Cond.instanceMethod yX0_placeTrees, Cond.selects RX0 yX0_placeTrees yX0_placeTrees, Cond.code yX0_placeTrees cX0_placeTrees 2 none, Cond.fieldLink RX0 34 "Threadline$Forest" "offset" "[I", Cond.fieldLink RX0 37 "Threadline$Forest" "start" "[I", Cond.fieldLink RX0 40 "Threadline$Forest" "order" "[I", Cond.methodLink RX0 150 yX0_offsetBehindParent, Cond.instanceMethod yX0_offsetBehindParent, Cond.selects RX0 yX0_offsetBehindParent yX0_offsetBehindParent, Cond.code yX0_offsetBehindParent cX0_offsetBehindParent 4 (some .int), Cond.methodLink RX0 153 yX0_startInOrder, Cond.instanceMethod yX0_startInOrder, Cond.selects RX0 yX0_startInOrder yX0_startInOrder, Cond.code yX0_startInOrder cX0_startInOrder 5 (some .int)]
def wsX2_join : List Cond := .code yX2_join cX2_join 3 (some .int) :: ((wsX2_join_r1 ++ (wsX2_join_r2 ++ (wsX2_join_r3 ++ (wsX2_join_r4 ++ (wsX2_join_r5 ++ (wsX2_join_r6 ++ wsX2_join_r7)))))) ++ wsX20 ++ wsX10 ++ wsX00 ++ (vx_atS RX2 75 "java/lang/IllegalArgumentException" ["java/lang/RuntimeException", "java/lang/Exception"]).filter goodWord ++ (vx_atS RX2 44 "java/lang/IllegalStateException" ["java/lang/RuntimeException", "java/lang/Exception"]).filter goodWord)
def wsX2_release_r1 : List Cond := [Cond.fieldLink RX2 10 "Threadline" "mail" "LThreadline$Mail;", Cond.fieldLink RX2 21 "Threadline" "forest" "LThreadline$Forest;", Cond.methodLink RX2 58 yX2_requireLetter, Cond.instanceMethod yX2_requireLetter, Cond.selects RX2 yX2_requireLetter yX2_requireLetter, Cond.initialized RX2, Cond.code yX2_requireLetter cX2_requireLetter 2 none, Cond.classLink RX2 40 "java/lang/IllegalStateException", Cond.initialized "java/lang/IllegalStateException", Cond.methodLink RX2 25 yX2_requireId, Cond.static yX2_requireId, Cond.code yX2_requireId cX2_requireId 1 none, Cond.classLink RX2 71 "java/lang/IllegalArgumentException", Cond.initialized "java/lang/IllegalArgumentException", Cond.methodLink RX2 131 yX2_isId, Cond.static yX2_isId, Cond.code yX2_isId cX2_isId 1 (some .boolean), Cond.instanceMethod yX1_holds, Cond.initialized RX1, Cond.selects RX1 yX1_holds yX1_holds, Cond.code yX1_holds cX1_holds 2 (some .boolean), Cond.fieldLink RX1 9 "Threadline$Mail" "there" "[Z", Cond.instanceMethod yX1_handOf, Cond.selects RX1 yX1_handOf yX1_handOf]
def wsX2_release_r2 : List Cond := [Cond.code yX1_handOf cX1_handOf 2 (some .int), Cond.fieldLink RX1 37 "Threadline$Mail" "hand" "[I", Cond.methodLink RX1 44 yX1_holds, Cond.instanceMethod yX1_setHand, Cond.selects RX1 yX1_setHand yX1_setHand, Cond.code yX1_setHand cX1_setHand 3 none, Cond.instanceMethod yX0_grow, Cond.initialized RX0, Cond.selects RX0 yX0_grow yX0_grow, Cond.code yX0_grow cX0_grow 1 none, Cond.methodLink RX0 65 yX0_findKnown, Cond.instanceMethod yX0_findKnown, Cond.selects RX0 yX0_findKnown yX0_findKnown, Cond.code yX0_findKnown cX0_findKnown 2 none, Cond.fieldLink RX0 9 "Threadline$Forest" "known" "[Z", Cond.fieldLink RX0 46 "Threadline$Forest" "mail" "LThreadline$Mail;", Cond.instanceMethod yX1_parentToldBy, Cond.selects RX1 yX1_parentToldBy yX1_parentToldBy, Cond.code yX1_parentToldBy cX1_parentToldBy 2 (some .int), Cond.fieldLink RX1 19 "Threadline$Mail" "toldParent" "[I", Cond.methodLink RX0 97 yX0_learn, Cond.instanceMethod yX0_learn, Cond.selects RX0 yX0_learn yX0_learn, Cond.code yX0_learn cX0_learn 2 none]
def wsX2_release_r3 : List Cond := [Cond.instanceMethod yX1_grandparentToldBy, Cond.selects RX1 yX1_grandparentToldBy yX1_grandparentToldBy, Cond.code yX1_grandparentToldBy cX1_grandparentToldBy 2 (some .int), Cond.fieldLink RX1 15 "Threadline$Mail" "toldGrandparent" "[I", Cond.methodLink RX0 68 yX0_linkKnown, Cond.instanceMethod yX0_linkKnown, Cond.selects RX0 yX0_linkKnown yX0_linkKnown, Cond.code yX0_linkKnown cX0_linkKnown 3 none, Cond.fieldLink RX0 15 "Threadline$Forest" "link" "[I", Cond.instanceMethod yX1_toldParentOf, Cond.selects RX1 yX1_toldParentOf yX1_toldParentOf, Cond.code yX1_toldParentOf cX1_toldParentOf 3 (some .int), Cond.methodLink RX1 50 yX1_guessedParentOf, Cond.instanceMethod yX1_guessedParentOf, Cond.selects RX1 yX1_guessedParentOf yX1_guessedParentOf, Cond.code yX1_guessedParentOf cX1_guessedParentOf 3 (some .int), Cond.methodLink RX1 57 yX1_parentToldBy, Cond.methodLink RX1 60 yX1_grandparentToldBy, Cond.methodLink RX1 54 yX1_handOf, Cond.methodLink RX0 110 yX0_linksLead, Cond.instanceMethod yX0_linksLead, Cond.selects RX0 yX0_linksLead yX0_linksLead, Cond.code yX0_linksLead cX0_linksLead 5 (some .boolean), Cond.methodLink RX0 71 yX0_hangByLinks]
def wsX2_release_r4 : List Cond := [Cond.instanceMethod yX0_hangByLinks, Cond.selects RX0 yX0_hangByLinks yX0_hangByLinks, Cond.code yX0_hangByLinks cX0_hangByLinks 2 none, Cond.fieldLink RX0 19 "Threadline$Forest" "parentOf" "[I", Cond.methodLink RX0 114 yX0_parentByLinks, Cond.instanceMethod yX0_parentByLinks, Cond.selects RX0 yX0_parentByLinks yX0_parentByLinks, Cond.code yX0_parentByLinks cX0_parentByLinks 4 (some .int), Cond.methodLink RX0 74 yX0_keepMissing, Cond.instanceMethod yX0_keepMissing, Cond.selects RX0 yX0_keepMissing yX0_keepMissing, Cond.code yX0_keepMissing cX0_keepMissing 2 none, Cond.fieldLink RX0 22 "Threadline$Forest" "standing" "[Z", Cond.methodLink RX0 117 yX0_countChildren, Cond.instanceMethod yX0_countChildren, Cond.selects RX0 yX0_countChildren yX0_countChildren, Cond.code yX0_countChildren cX0_countChildren 4 (some .int), Cond.methodLink RX0 120 yX0_freeChildren, Cond.instanceMethod yX0_freeChildren, Cond.selects RX0 yX0_freeChildren yX0_freeChildren, Cond.code yX0_freeChildren cX0_freeChildren 3 none, Cond.methodLink RX0 77 yX0_hangReplies, Cond.instanceMethod yX0_hangReplies, Cond.selects RX0 yX0_hangReplies yX0_hangReplies]
def wsX2_release_r5 : List Cond := [Cond.code yX0_hangReplies cX0_hangReplies 2 none, Cond.instanceMethod yX1_isReply, Cond.selects RX1 yX1_isReply yX1_isReply, Cond.code yX1_isReply cX1_isReply 2 (some .boolean), Cond.fieldLink RX1 25 "Threadline$Mail" "reply" "[Z", Cond.methodLink RX0 126 yX0_letterAnsweredBy, Cond.instanceMethod yX0_letterAnsweredBy, Cond.selects RX0 yX0_letterAnsweredBy yX0_letterAnsweredBy, Cond.code yX0_letterAnsweredBy cX0_letterAnsweredBy 5 (some .int), Cond.instanceMethod yX1_isAnsweredBy, Cond.selects RX1 yX1_isAnsweredBy yX1_isAnsweredBy, Cond.code yX1_isAnsweredBy cX1_isAnsweredBy 4 (some .boolean), Cond.fieldLink RX1 28 "Threadline$Mail" "day" "[I", Cond.fieldLink RX1 22 "Threadline$Mail" "subject" "[I", Cond.instanceMethod yX1_dayOf, Cond.selects RX1 yX1_dayOf yX1_dayOf, Cond.code yX1_dayOf cX1_dayOf 2 (some .int), Cond.methodLink RX0 80 yX0_measureTrees, Cond.instanceMethod yX0_measureTrees, Cond.selects RX0 yX0_measureTrees yX0_measureTrees, Cond.code yX0_measureTrees cX0_measureTrees 2 none, Cond.fieldLink RX0 31 "Threadline$Forest" "size" "[I", Cond.fieldLink RX0 25 "Threadline$Forest" "earliest" "[I", Cond.fieldLink RX0 28 "Threadline$Forest" "turn" "[I"]
def wsX2_release_r6 : List Cond := [Cond.methodLink RX0 135 yX0_countUpwards, Cond.instanceMethod yX0_countUpwards, Cond.selects RX0 yX0_countUpwards yX0_countUpwards, Cond.code yX0_countUpwards cX0_countUpwards 5 none, Cond.methodLink RX0 138 Lib.Math.min.name, Cond.static Lib.Math.min.name, Cond.initialized "java/lang/Math", Cond.code Lib.Math.min.name Lib.Math.min.code 2 (some .int), Cond.methodLink RX0 83 yX0_placeRoots, Cond.instanceMethod yX0_placeRoots, Cond.selects RX0 yX0_placeRoots yX0_placeRoots, Cond.code yX0_placeRoots cX0_placeRoots 2 none, Cond.fieldLink RX0 57 "Threadline$Forest" "rootCount" "I", Cond.methodLink RX0 144 yX0_placeRoot, Cond.instanceMethod yX0_placeRoot, Cond.selects RX0 yX0_placeRoot yX0_placeRoot, Cond.code yX0_placeRoot cX0_placeRoot 4 none, Cond.fieldLink RX0 43 "Threadline$Forest" "rootRow" "[I", Cond.methodLink RX0 147 yX0_comesBefore, Cond.instanceMethod yX0_comesBefore, Cond.selects RX0 yX0_comesBefore yX0_comesBefore, Cond.code yX0_comesBefore cX0_comesBefore 3 (some .boolean), Cond.methodLink RX0 54 yX0_contains, Cond.instanceMethod yX0_contains]
def wsX2_release_r7 : List Cond := [Cond.selects RX0 yX0_contains yX0_contains, Cond.code yX0_contains cX0_contains 2 (some .boolean), Cond.methodLink RX0 86 yX0_placeTrees, Cond.instanceMethod yX0_placeTrees, Cond.selects RX0 yX0_placeTrees yX0_placeTrees, Cond.code yX0_placeTrees cX0_placeTrees 2 none, Cond.fieldLink RX0 34 "Threadline$Forest" "offset" "[I", Cond.fieldLink RX0 37 "Threadline$Forest" "start" "[I", Cond.fieldLink RX0 40 "Threadline$Forest" "order" "[I", Cond.methodLink RX0 150 yX0_offsetBehindParent, Cond.instanceMethod yX0_offsetBehindParent, Cond.selects RX0 yX0_offsetBehindParent yX0_offsetBehindParent, Cond.code yX0_offsetBehindParent cX0_offsetBehindParent 4 (some .int), Cond.methodLink RX0 61 yX0_parentIn, Cond.instanceMethod yX0_parentIn, Cond.selects RX0 yX0_parentIn yX0_parentIn, Cond.code yX0_parentIn cX0_parentIn 2 (some .int), Cond.methodLink RX0 153 yX0_startInOrder, Cond.instanceMethod yX0_startInOrder, Cond.selects RX0 yX0_startInOrder yX0_startInOrder, Cond.code yX0_startInOrder cX0_startInOrder 5 (some .int)]
def wsX2_release : List Cond := .code yX2_release cX2_release 3 (some .boolean) :: ((wsX2_release_r1 ++ (wsX2_release_r2 ++ (wsX2_release_r3 ++ (wsX2_release_r4 ++ (wsX2_release_r5 ++ (wsX2_release_r6 ++ wsX2_release_r7)))))) ++ wsX20 ++ wsX10 ++ wsX00 ++ (vx_atS RX2 44 "java/lang/IllegalStateException" ["java/lang/RuntimeException", "java/lang/Exception"]).filter goodWord ++ (vx_atS RX2 75 "java/lang/IllegalArgumentException" ["java/lang/RuntimeException", "java/lang/Exception"]).filter goodWord)
def wsX2_requireInForest : List Cond := .code yX2_requireInForest cX2_requireInForest 2 none :: ([.classLink RX2 107 "java/lang/IndexOutOfBoundsException", .initialized "java/lang/IndexOutOfBoundsException", .fieldLink RX2 21 "Threadline" "forest" "LThreadline$Forest;", .methodLink RX2 25 yX2_requireId, .static yX2_requireId, .initialized RX2, .code yX2_requireId cX2_requireId 1 none, .classLink RX2 71 "java/lang/IllegalArgumentException", .initialized "java/lang/IllegalArgumentException", .methodLink RX2 131 yX2_isId, .static yX2_isId, .code yX2_isId cX2_isId 1 (some .boolean), .instanceMethod yX0_contains, .initialized RX0, .selects RX0 yX0_contains yX0_contains, .code yX0_contains cX0_contains 2 (some .boolean), .fieldLink RX0 22 "Threadline$Forest" "standing" "[Z"] ++ wsX20 ++ wsX00 ++ (vx_atS RX2 111 "java/lang/IndexOutOfBoundsException" ["java/lang/RuntimeException", "java/lang/Exception"]).filter goodWord ++ (vx_atS RX2 75 "java/lang/IllegalArgumentException" ["java/lang/RuntimeException", "java/lang/Exception"]).filter goodWord)
def wsX2_read_r1 : List Cond := [Cond.fieldLink RX2 10 "Threadline" "mail" "LThreadline$Mail;", Cond.fieldLink RX2 21 "Threadline" "forest" "LThreadline$Forest;", Cond.methodLink RX2 85 yX2_requireInForest, Cond.instanceMethod yX2_requireInForest, Cond.selects RX2 yX2_requireInForest yX2_requireInForest, Cond.initialized RX2, Cond.code yX2_requireInForest cX2_requireInForest 2 none, Cond.classLink RX2 107 "java/lang/IndexOutOfBoundsException", Cond.initialized "java/lang/IndexOutOfBoundsException", Cond.methodLink RX2 25 yX2_requireId, Cond.static yX2_requireId, Cond.code yX2_requireId cX2_requireId 1 none, Cond.classLink RX2 71 "java/lang/IllegalArgumentException", Cond.initialized "java/lang/IllegalArgumentException", Cond.methodLink RX2 131 yX2_isId, Cond.static yX2_isId, Cond.code yX2_isId cX2_isId 1 (some .boolean), Cond.instanceMethod yX0_contains, Cond.initialized RX0, Cond.selects RX0 yX0_contains yX0_contains, Cond.code yX0_contains cX0_contains 2 (some .boolean), Cond.fieldLink RX0 22 "Threadline$Forest" "standing" "[Z", Cond.instanceMethod yX0_idAt, Cond.selects RX0 yX0_idAt yX0_idAt]
def wsX2_read_r2 : List Cond := [Cond.code yX0_idAt cX0_idAt 4 (some .int), Cond.fieldLink RX0 31 "Threadline$Forest" "size" "[I", Cond.fieldLink RX0 37 "Threadline$Forest" "start" "[I", Cond.fieldLink RX0 40 "Threadline$Forest" "order" "[I", Cond.methodLink RX0 54 yX0_contains, Cond.instanceMethod yX1_markRead, Cond.initialized RX1, Cond.selects RX1 yX1_markRead yX1_markRead, Cond.code yX1_markRead cX1_markRead 2 (some .boolean), Cond.fieldLink RX1 34 "Threadline$Mail" "unseen" "[Z", Cond.methodLink RX1 47 yX1_isUnread, Cond.instanceMethod yX1_isUnread, Cond.selects RX1 yX1_isUnread yX1_isUnread, Cond.code yX1_isUnread cX1_isUnread 2 (some .boolean), Cond.methodLink RX1 44 yX1_holds, Cond.instanceMethod yX1_holds, Cond.selects RX1 yX1_holds yX1_holds, Cond.code yX1_holds cX1_holds 2 (some .boolean), Cond.fieldLink RX1 9 "Threadline$Mail" "there" "[Z"]
def wsX2_read : List Cond := .code yX2_read cX2_read 4 (some .int) :: ((wsX2_read_r1 ++ wsX2_read_r2) ++ wsX20 ++ wsX00 ++ wsX10 ++ (vx_atS RX2 111 "java/lang/IndexOutOfBoundsException" ["java/lang/RuntimeException", "java/lang/Exception"]).filter goodWord ++ (vx_atS RX2 75 "java/lang/IllegalArgumentException" ["java/lang/RuntimeException", "java/lang/Exception"]).filter goodWord)
def wsX2_state_r1 : List Cond := [Cond.fieldLink RX2 10 "Threadline" "mail" "LThreadline$Mail;", Cond.fieldLink RX2 21 "Threadline" "forest" "LThreadline$Forest;", Cond.methodLink RX2 25 yX2_requireId, Cond.static yX2_requireId, Cond.initialized RX2, Cond.code yX2_requireId cX2_requireId 1 none, Cond.classLink RX2 71 "java/lang/IllegalArgumentException", Cond.initialized "java/lang/IllegalArgumentException", Cond.methodLink RX2 131 yX2_isId, Cond.static yX2_isId, Cond.code yX2_isId cX2_isId 1 (some .boolean), Cond.instanceMethod yX1_holds, Cond.initialized RX1, Cond.selects RX1 yX1_holds yX1_holds, Cond.code yX1_holds cX1_holds 2 (some .boolean), Cond.fieldLink RX1 9 "Threadline$Mail" "there" "[Z", Cond.instanceMethod yX0_contains, Cond.initialized RX0, Cond.selects RX0 yX0_contains yX0_contains, Cond.code yX0_contains cX0_contains 2 (some .boolean), Cond.fieldLink RX0 22 "Threadline$Forest" "standing" "[Z", Cond.instanceMethod yX0_knows, Cond.selects RX0 yX0_knows yX0_knows, Cond.code yX0_knows cX0_knows 2 (some .boolean)]
def wsX2_state_r2 : List Cond := [Cond.fieldLink RX0 9 "Threadline$Forest" "known" "[Z"]
def wsX2_state : List Cond := .code yX2_state cX2_state 2 (some .int) :: ((wsX2_state_r1 ++ wsX2_state_r2) ++ wsX20 ++ wsX10 ++ wsX00 ++ (vx_atS RX2 75 "java/lang/IllegalArgumentException" ["java/lang/RuntimeException", "java/lang/Exception"]).filter goodWord)
def wsX2_parent_r1 : List Cond := [Cond.fieldLink RX2 21 "Threadline" "forest" "LThreadline$Forest;", Cond.methodLink RX2 85 yX2_requireInForest, Cond.instanceMethod yX2_requireInForest, Cond.selects RX2 yX2_requireInForest yX2_requireInForest, Cond.initialized RX2, Cond.code yX2_requireInForest cX2_requireInForest 2 none, Cond.classLink RX2 107 "java/lang/IndexOutOfBoundsException", Cond.initialized "java/lang/IndexOutOfBoundsException", Cond.methodLink RX2 25 yX2_requireId, Cond.static yX2_requireId, Cond.code yX2_requireId cX2_requireId 1 none, Cond.classLink RX2 71 "java/lang/IllegalArgumentException", Cond.initialized "java/lang/IllegalArgumentException", Cond.methodLink RX2 131 yX2_isId, Cond.static yX2_isId, Cond.code yX2_isId cX2_isId 1 (some .boolean), Cond.instanceMethod yX0_contains, Cond.initialized RX0, Cond.selects RX0 yX0_contains yX0_contains, Cond.code yX0_contains cX0_contains 2 (some .boolean), Cond.fieldLink RX0 22 "Threadline$Forest" "standing" "[Z", Cond.instanceMethod yX0_parentIn, Cond.selects RX0 yX0_parentIn yX0_parentIn, Cond.code yX0_parentIn cX0_parentIn 2 (some .int)]
def wsX2_parent_r2 : List Cond := [Cond.fieldLink RX0 19 "Threadline$Forest" "parentOf" "[I", Cond.methodLink RX0 54 yX0_contains]
def wsX2_parent : List Cond := .code yX2_parent cX2_parent 2 (some .int) :: ((wsX2_parent_r1 ++ wsX2_parent_r2) ++ wsX20 ++ wsX00 ++ (vx_atS RX2 111 "java/lang/IndexOutOfBoundsException" ["java/lang/RuntimeException", "java/lang/Exception"]).filter goodWord ++ (vx_atS RX2 75 "java/lang/IllegalArgumentException" ["java/lang/RuntimeException", "java/lang/Exception"]).filter goodWord)
def wsX2_children_r1 : List Cond := [Cond.fieldLink RX2 21 "Threadline" "forest" "LThreadline$Forest;", Cond.methodLink RX2 85 yX2_requireInForest, Cond.instanceMethod yX2_requireInForest, Cond.selects RX2 yX2_requireInForest yX2_requireInForest, Cond.initialized RX2, Cond.code yX2_requireInForest cX2_requireInForest 2 none, Cond.classLink RX2 107 "java/lang/IndexOutOfBoundsException", Cond.initialized "java/lang/IndexOutOfBoundsException", Cond.methodLink RX2 25 yX2_requireId, Cond.static yX2_requireId, Cond.code yX2_requireId cX2_requireId 1 none, Cond.classLink RX2 71 "java/lang/IllegalArgumentException", Cond.initialized "java/lang/IllegalArgumentException", Cond.methodLink RX2 131 yX2_isId, Cond.static yX2_isId, Cond.code yX2_isId cX2_isId 1 (some .boolean), Cond.instanceMethod yX0_contains, Cond.initialized RX0, Cond.selects RX0 yX0_contains yX0_contains, Cond.code yX0_contains cX0_contains 2 (some .boolean), Cond.fieldLink RX0 22 "Threadline$Forest" "standing" "[Z", Cond.instanceMethod yX0_countChildren, Cond.selects RX0 yX0_countChildren yX0_countChildren, Cond.code yX0_countChildren cX0_countChildren 4 (some .int)]
def wsX2_children_r2 : List Cond := [Cond.fieldLink RX0 19 "Threadline$Forest" "parentOf" "[I"]
def wsX2_children : List Cond := .code yX2_children cX2_children 2 (some .int) :: ((wsX2_children_r1 ++ wsX2_children_r2) ++ wsX20 ++ wsX00 ++ (vx_atS RX2 111 "java/lang/IndexOutOfBoundsException" ["java/lang/RuntimeException", "java/lang/Exception"]).filter goodWord ++ (vx_atS RX2 75 "java/lang/IllegalArgumentException" ["java/lang/RuntimeException", "java/lang/Exception"]).filter goodWord)
def wsX2_roots : List Cond := .code yX2_roots cX2_roots 1 (some .int) :: ([.fieldLink RX2 21 "Threadline" "forest" "LThreadline$Forest;", .instanceMethod yX0_countRoots, .initialized RX0, .selects RX0 yX0_countRoots yX0_countRoots, .code yX0_countRoots cX0_countRoots 1 (some .int), .fieldLink RX0 57 "Threadline$Forest" "rootCount" "I"] ++ wsX20 ++ wsX00)
def wsX2_root : List Cond := .code yX2_root cX2_root 3 (some .int) :: ([.classLink RX2 107 "java/lang/IndexOutOfBoundsException", .initialized "java/lang/IndexOutOfBoundsException", .fieldLink RX2 21 "Threadline" "forest" "LThreadline$Forest;", .instanceMethod yX0_rootIdAt, .initialized RX0, .selects RX0 yX0_rootIdAt yX0_rootIdAt, .code yX0_rootIdAt cX0_rootIdAt 2 (some .int), .fieldLink RX0 57 "Threadline$Forest" "rootCount" "I", .fieldLink RX0 43 "Threadline$Forest" "rootRow" "[I", .static yX2_isId, .initialized RX2, .code yX2_isId cX2_isId 1 (some .boolean)] ++ wsX20 ++ wsX00 ++ (vx_atS RX2 111 "java/lang/IndexOutOfBoundsException" ["java/lang/RuntimeException", "java/lang/Exception"]).filter goodWord)
def wsX2_inTree_r1 : List Cond := [Cond.classLink RX2 107 "java/lang/IndexOutOfBoundsException", Cond.initialized "java/lang/IndexOutOfBoundsException", Cond.fieldLink RX2 21 "Threadline" "forest" "LThreadline$Forest;", Cond.methodLink RX2 85 yX2_requireInForest, Cond.instanceMethod yX2_requireInForest, Cond.selects RX2 yX2_requireInForest yX2_requireInForest, Cond.initialized RX2, Cond.code yX2_requireInForest cX2_requireInForest 2 none, Cond.methodLink RX2 25 yX2_requireId, Cond.static yX2_requireId, Cond.code yX2_requireId cX2_requireId 1 none, Cond.classLink RX2 71 "java/lang/IllegalArgumentException", Cond.initialized "java/lang/IllegalArgumentException", Cond.methodLink RX2 131 yX2_isId, Cond.static yX2_isId, Cond.code yX2_isId cX2_isId 1 (some .boolean), Cond.instanceMethod yX0_contains, Cond.initialized RX0, Cond.selects RX0 yX0_contains yX0_contains, Cond.code yX0_contains cX0_contains 2 (some .boolean), Cond.fieldLink RX0 22 "Threadline$Forest" "standing" "[Z", Cond.instanceMethod yX0_idAt, Cond.selects RX0 yX0_idAt yX0_idAt, Cond.code yX0_idAt cX0_idAt 4 (some .int)]
def wsX2_inTree_r2 : List Cond := [Cond.fieldLink RX0 31 "Threadline$Forest" "size" "[I", Cond.fieldLink RX0 37 "Threadline$Forest" "start" "[I", Cond.fieldLink RX0 40 "Threadline$Forest" "order" "[I", Cond.methodLink RX0 54 yX0_contains]
def wsX2_inTree : List Cond := .code yX2_inTree cX2_inTree 4 (some .int) :: ((wsX2_inTree_r1 ++ wsX2_inTree_r2) ++ wsX20 ++ wsX00 ++ (vx_atS RX2 111 "java/lang/IndexOutOfBoundsException" ["java/lang/RuntimeException", "java/lang/Exception"]).filter goodWord ++ (vx_atS RX2 75 "java/lang/IllegalArgumentException" ["java/lang/RuntimeException", "java/lang/Exception"]).filter goodWord)
def wsX2_depth_r1 : List Cond := [Cond.fieldLink RX2 21 "Threadline" "forest" "LThreadline$Forest;", Cond.methodLink RX2 85 yX2_requireInForest, Cond.instanceMethod yX2_requireInForest, Cond.selects RX2 yX2_requireInForest yX2_requireInForest, Cond.initialized RX2, Cond.code yX2_requireInForest cX2_requireInForest 2 none, Cond.classLink RX2 107 "java/lang/IndexOutOfBoundsException", Cond.initialized "java/lang/IndexOutOfBoundsException", Cond.methodLink RX2 25 yX2_requireId, Cond.static yX2_requireId, Cond.code yX2_requireId cX2_requireId 1 none, Cond.classLink RX2 71 "java/lang/IllegalArgumentException", Cond.initialized "java/lang/IllegalArgumentException", Cond.methodLink RX2 131 yX2_isId, Cond.static yX2_isId, Cond.code yX2_isId cX2_isId 1 (some .boolean), Cond.instanceMethod yX0_contains, Cond.initialized RX0, Cond.selects RX0 yX0_contains yX0_contains, Cond.code yX0_contains cX0_contains 2 (some .boolean), Cond.fieldLink RX0 22 "Threadline$Forest" "standing" "[Z", Cond.instanceMethod yX0_stepsToRoot, Cond.selects RX0 yX0_stepsToRoot yX0_stepsToRoot, Cond.code yX0_stepsToRoot cX0_stepsToRoot 4 (some .int)]
def wsX2_depth_r2 : List Cond := [Cond.methodLink RX0 61 yX0_parentIn, Cond.instanceMethod yX0_parentIn, Cond.selects RX0 yX0_parentIn yX0_parentIn, Cond.code yX0_parentIn cX0_parentIn 2 (some .int), Cond.fieldLink RX0 19 "Threadline$Forest" "parentOf" "[I", Cond.methodLink RX0 54 yX0_contains]
def wsX2_depth : List Cond := .code yX2_depth cX2_depth 2 (some .int) :: ((wsX2_depth_r1 ++ wsX2_depth_r2) ++ wsX20 ++ wsX00 ++ (vx_atS RX2 111 "java/lang/IndexOutOfBoundsException" ["java/lang/RuntimeException", "java/lang/Exception"]).filter goodWord ++ (vx_atS RX2 75 "java/lang/IllegalArgumentException" ["java/lang/RuntimeException", "java/lang/Exception"]).filter goodWord)
def wsX2_letters_r1 : List Cond := [Cond.fieldLink RX2 10 "Threadline" "mail" "LThreadline$Mail;", Cond.fieldLink RX2 21 "Threadline" "forest" "LThreadline$Forest;", Cond.methodLink RX2 85 yX2_requireInForest, Cond.instanceMethod yX2_requireInForest, Cond.selects RX2 yX2_requireInForest yX2_requireInForest, Cond.initialized RX2, Cond.code yX2_requireInForest cX2_requireInForest 2 none, Cond.classLink RX2 107 "java/lang/IndexOutOfBoundsException", Cond.initialized "java/lang/IndexOutOfBoundsException", Cond.methodLink RX2 25 yX2_requireId, Cond.static yX2_requireId, Cond.code yX2_requireId cX2_requireId 1 none, Cond.classLink RX2 71 "java/lang/IllegalArgumentException", Cond.initialized "java/lang/IllegalArgumentException", Cond.methodLink RX2 131 yX2_isId, Cond.static yX2_isId, Cond.code yX2_isId cX2_isId 1 (some .boolean), Cond.instanceMethod yX0_contains, Cond.initialized RX0, Cond.selects RX0 yX0_contains yX0_contains, Cond.code yX0_contains cX0_contains 2 (some .boolean), Cond.fieldLink RX0 22 "Threadline$Forest" "standing" "[Z", Cond.instanceMethod yX0_idAt, Cond.selects RX0 yX0_idAt yX0_idAt]
def wsX2_letters_r2 : List Cond := [Cond.code yX0_idAt cX0_idAt 4 (some .int), Cond.fieldLink RX0 31 "Threadline$Forest" "size" "[I", Cond.fieldLink RX0 37 "Threadline$Forest" "start" "[I", Cond.fieldLink RX0 40 "Threadline$Forest" "order" "[I", Cond.methodLink RX0 54 yX0_contains, Cond.instanceMethod yX1_holds, Cond.initialized RX1, Cond.selects RX1 yX1_holds yX1_holds, Cond.code yX1_holds cX1_holds 2 (some .boolean), Cond.fieldLink RX1 9 "Threadline$Mail" "there" "[Z"]
def wsX2_letters : List Cond := .code yX2_letters cX2_letters 4 (some .int) :: ((wsX2_letters_r1 ++ wsX2_letters_r2) ++ wsX20 ++ wsX00 ++ wsX10 ++ (vx_atS RX2 111 "java/lang/IndexOutOfBoundsException" ["java/lang/RuntimeException", "java/lang/Exception"]).filter goodWord ++ (vx_atS RX2 75 "java/lang/IllegalArgumentException" ["java/lang/RuntimeException", "java/lang/Exception"]).filter goodWord)
def wsX2_unread_r1 : List Cond := [Cond.fieldLink RX2 10 "Threadline" "mail" "LThreadline$Mail;", Cond.fieldLink RX2 21 "Threadline" "forest" "LThreadline$Forest;", Cond.methodLink RX2 85 yX2_requireInForest, Cond.instanceMethod yX2_requireInForest, Cond.selects RX2 yX2_requireInForest yX2_requireInForest, Cond.initialized RX2, Cond.code yX2_requireInForest cX2_requireInForest 2 none, Cond.classLink RX2 107 "java/lang/IndexOutOfBoundsException", Cond.initialized "java/lang/IndexOutOfBoundsException", Cond.methodLink RX2 25 yX2_requireId, Cond.static yX2_requireId, Cond.code yX2_requireId cX2_requireId 1 none, Cond.classLink RX2 71 "java/lang/IllegalArgumentException", Cond.initialized "java/lang/IllegalArgumentException", Cond.methodLink RX2 131 yX2_isId, Cond.static yX2_isId, Cond.code yX2_isId cX2_isId 1 (some .boolean), Cond.instanceMethod yX0_contains, Cond.initialized RX0, Cond.selects RX0 yX0_contains yX0_contains, Cond.code yX0_contains cX0_contains 2 (some .boolean), Cond.fieldLink RX0 22 "Threadline$Forest" "standing" "[Z", Cond.instanceMethod yX0_idAt, Cond.selects RX0 yX0_idAt yX0_idAt]
def wsX2_unread_r2 : List Cond := [Cond.code yX0_idAt cX0_idAt 4 (some .int), Cond.fieldLink RX0 31 "Threadline$Forest" "size" "[I", Cond.fieldLink RX0 37 "Threadline$Forest" "start" "[I", Cond.fieldLink RX0 40 "Threadline$Forest" "order" "[I", Cond.methodLink RX0 54 yX0_contains, Cond.instanceMethod yX1_isUnread, Cond.initialized RX1, Cond.selects RX1 yX1_isUnread yX1_isUnread, Cond.code yX1_isUnread cX1_isUnread 2 (some .boolean), Cond.fieldLink RX1 34 "Threadline$Mail" "unseen" "[Z", Cond.methodLink RX1 44 yX1_holds, Cond.instanceMethod yX1_holds, Cond.selects RX1 yX1_holds yX1_holds, Cond.code yX1_holds cX1_holds 2 (some .boolean), Cond.fieldLink RX1 9 "Threadline$Mail" "there" "[Z"]
def wsX2_unread : List Cond := .code yX2_unread cX2_unread 4 (some .int) :: ((wsX2_unread_r1 ++ wsX2_unread_r2) ++ wsX20 ++ wsX00 ++ wsX10 ++ (vx_atS RX2 111 "java/lang/IndexOutOfBoundsException" ["java/lang/RuntimeException", "java/lang/Exception"]).filter goodWord ++ (vx_atS RX2 75 "java/lang/IllegalArgumentException" ["java/lang/RuntimeException", "java/lang/Exception"]).filter goodWord)
def wsX2_people_r1 : List Cond := [Cond.fieldLink RX2 10 "Threadline" "mail" "LThreadline$Mail;", Cond.fieldLink RX2 21 "Threadline" "forest" "LThreadline$Forest;", Cond.methodLink RX2 85 yX2_requireInForest, Cond.instanceMethod yX2_requireInForest, Cond.selects RX2 yX2_requireInForest yX2_requireInForest, Cond.initialized RX2, Cond.code yX2_requireInForest cX2_requireInForest 2 none, Cond.classLink RX2 107 "java/lang/IndexOutOfBoundsException", Cond.initialized "java/lang/IndexOutOfBoundsException", Cond.methodLink RX2 25 yX2_requireId, Cond.static yX2_requireId, Cond.code yX2_requireId cX2_requireId 1 none, Cond.classLink RX2 71 "java/lang/IllegalArgumentException", Cond.initialized "java/lang/IllegalArgumentException", Cond.methodLink RX2 131 yX2_isId, Cond.static yX2_isId, Cond.code yX2_isId cX2_isId 1 (some .boolean), Cond.instanceMethod yX0_contains, Cond.initialized RX0, Cond.selects RX0 yX0_contains yX0_contains, Cond.code yX0_contains cX0_contains 2 (some .boolean), Cond.fieldLink RX0 22 "Threadline$Forest" "standing" "[Z", Cond.instanceMethod yX0_idAt, Cond.selects RX0 yX0_idAt yX0_idAt]
def wsX2_people_r2 : List Cond := [Cond.code yX0_idAt cX0_idAt 4 (some .int), Cond.fieldLink RX0 31 "Threadline$Forest" "size" "[I", Cond.fieldLink RX0 37 "Threadline$Forest" "start" "[I", Cond.fieldLink RX0 40 "Threadline$Forest" "order" "[I", Cond.methodLink RX0 54 yX0_contains, Cond.instanceMethod yX1_writerBit, Cond.initialized RX1, Cond.selects RX1 yX1_writerBit yX1_writerBit, Cond.code yX1_writerBit cX1_writerBit 2 (some .int), Cond.fieldLink RX1 31 "Threadline$Mail" "person" "[I", Cond.methodLink RX1 44 yX1_holds, Cond.instanceMethod yX1_holds, Cond.selects RX1 yX1_holds yX1_holds, Cond.code yX1_holds cX1_holds 2 (some .boolean), Cond.fieldLink RX1 9 "Threadline$Mail" "there" "[Z"]
def wsX2_people : List Cond := .code yX2_people cX2_people 4 (some .int) :: ((wsX2_people_r1 ++ wsX2_people_r2) ++ wsX20 ++ wsX00 ++ wsX10 ++ (vx_atS RX2 111 "java/lang/IndexOutOfBoundsException" ["java/lang/RuntimeException", "java/lang/Exception"]).filter goodWord ++ (vx_atS RX2 75 "java/lang/IllegalArgumentException" ["java/lang/RuntimeException", "java/lang/Exception"]).filter goodWord)
def wsX2_latest_r1 : List Cond := [Cond.fieldLink RX2 21 "Threadline" "forest" "LThreadline$Forest;", Cond.fieldLink RX2 10 "Threadline" "mail" "LThreadline$Mail;", Cond.methodLink RX2 126 Lib.Math.max.name, Cond.static Lib.Math.max.name, Cond.initialized "java/lang/Math", Cond.code Lib.Math.max.name Lib.Math.max.code 2 (some .int), Cond.methodLink RX2 85 yX2_requireInForest, Cond.instanceMethod yX2_requireInForest, Cond.selects RX2 yX2_requireInForest yX2_requireInForest, Cond.initialized RX2, Cond.code yX2_requireInForest cX2_requireInForest 2 none, Cond.classLink RX2 107 "java/lang/IndexOutOfBoundsException", Cond.initialized "java/lang/IndexOutOfBoundsException", Cond.methodLink RX2 25 yX2_requireId, Cond.static yX2_requireId, Cond.code yX2_requireId cX2_requireId 1 none, Cond.classLink RX2 71 "java/lang/IllegalArgumentException", Cond.initialized "java/lang/IllegalArgumentException", Cond.methodLink RX2 131 yX2_isId, Cond.static yX2_isId, Cond.code yX2_isId cX2_isId 1 (some .boolean), Cond.instanceMethod yX0_contains, Cond.initialized RX0, Cond.selects RX0 yX0_contains yX0_contains]
def wsX2_latest_r2 : List Cond := [Cond.code yX0_contains cX0_contains 2 (some .boolean), Cond.fieldLink RX0 22 "Threadline$Forest" "standing" "[Z", Cond.instanceMethod yX0_idAt, Cond.selects RX0 yX0_idAt yX0_idAt, Cond.code yX0_idAt cX0_idAt 4 (some .int), Cond.fieldLink RX0 31 "Threadline$Forest" "size" "[I", Cond.fieldLink RX0 37 "Threadline$Forest" "start" "[I", Cond.fieldLink RX0 40 "Threadline$Forest" "order" "[I", Cond.methodLink RX0 54 yX0_contains, Cond.instanceMethod yX1_holds, Cond.initialized RX1, Cond.selects RX1 yX1_holds yX1_holds, Cond.code yX1_holds cX1_holds 2 (some .boolean), Cond.fieldLink RX1 9 "Threadline$Mail" "there" "[Z", Cond.instanceMethod yX1_dayOf, Cond.selects RX1 yX1_dayOf yX1_dayOf, Cond.code yX1_dayOf cX1_dayOf 2 (some .int), Cond.fieldLink RX1 28 "Threadline$Mail" "day" "[I", Cond.methodLink RX1 44 yX1_holds]
def wsX2_latest : List Cond := .code yX2_latest cX2_latest 5 (some .int) :: ((wsX2_latest_r1 ++ wsX2_latest_r2) ++ wsX20 ++ wsX00 ++ wsX10 ++ (vx_atS RX2 111 "java/lang/IndexOutOfBoundsException" ["java/lang/RuntimeException", "java/lang/Exception"]).filter goodWord ++ (vx_atS RX2 75 "java/lang/IllegalArgumentException" ["java/lang/RuntimeException", "java/lang/Exception"]).filter goodWord)
def wsX3_init : List Cond := .code yX3_init cX3_init 2 none :: ([.methodLink RX3 1 objectInit, .instanceMethod objectInit, .code objectInit ⟨#[0xb1]⟩ 1 none, .arrayClass .boolean, .fieldLink RX3 7 "ThreadlineModel" "there" "[Z", .arrayClass .int, .fieldLink RX3 13 "ThreadlineModel" "tells" "[I", .fieldLink RX3 17 "ThreadlineModel" "beyond" "[I", .fieldLink RX3 20 "ThreadlineModel" "subject" "[I", .fieldLink RX3 23 "ThreadlineModel" "day" "[I", .fieldLink RX3 26 "ThreadlineModel" "person" "[I", .fieldLink RX3 29 "ThreadlineModel" "unread" "[Z", .fieldLink RX3 32 "ThreadlineModel" "hand" "[I", .fieldLink RX3 35 "ThreadlineModel" "known" "[Z", .fieldLink RX3 38 "ThreadlineModel" "link" "[I", .fieldLink RX3 41 "ThreadlineModel" "above" "[I", .fieldLink RX3 44 "ThreadlineModel" "grows" "[Z", .fieldLink RX3 47 "ThreadlineModel" "order" "[I", .fieldLink RX3 50 "ThreadlineModel" "stack" "[I"] ++ wsX30)
def wsX3_thrown : List Cond := .code yX3_thrown cX3_thrown 1 (some .int) :: ([.fieldLink RX3 53 "ThreadlineModel" "thrown" "I"] ++ wsX30)
def wsX3_in : List Cond := .code yX3_in cX3_in 3 (some .boolean) :: ([])
def wsX3_asked : List Cond := .code yX3_asked cX3_asked 2 (some .boolean) :: ([.fieldLink RX3 53 "ThreadlineModel" "thrown" "I"] ++ wsX30)
def wsX3_asked_ : List Cond := .code yX3_asked_ cX3_asked_ 3 (some .boolean) :: ([.fieldLink RX3 53 "ThreadlineModel" "thrown" "I"] ++ wsX30)
def wsX3_isId : List Cond := .code yX3_isId cX3_isId 1 (some .boolean) :: ([.methodLink RX3 57 yX3_in, .static yX3_in, .initialized RX3, .code yX3_in cX3_in 3 (some .boolean)])
def wsX3_knows : List Cond := .code yX3_knows cX3_knows 2 none :: ([.fieldLink RX3 35 "ThreadlineModel" "known" "[Z", .fieldLink RX3 7 "ThreadlineModel" "there" "[Z", .fieldLink RX3 13 "ThreadlineModel" "tells" "[I", .fieldLink RX3 17 "ThreadlineModel" "beyond" "[I", .fieldLink RX3 32 "ThreadlineModel" "hand" "[I"] ++ wsX30)
def wsX3_toldParent : List Cond := .code yX3_toldParent cX3_toldParent 3 (some .int) :: ([.fieldLink RX3 7 "ThreadlineModel" "there" "[Z", .fieldLink RX3 32 "ThreadlineModel" "hand" "[I", .fieldLink RX3 13 "ThreadlineModel" "tells" "[I", .fieldLink RX3 17 "ThreadlineModel" "beyond" "[I"] ++ wsX30)
def wsX3_isBelow : List Cond := .code yX3_isBelow cX3_isBelow 4 (some .boolean) :: ([.fieldLink RX3 38 "ThreadlineModel" "link" "[I"] ++ wsX30)
def wsX3_links : List Cond := .code yX3_links cX3_links 3 none :: ([.fieldLink RX3 38 "ThreadlineModel" "link" "[I", .fieldLink RX3 35 "ThreadlineModel" "known" "[Z", .methodLink RX3 61 yX3_toldParent, .instanceMethod yX3_toldParent, .selects RX3 yX3_toldParent yX3_toldParent, .initialized RX3, .code yX3_toldParent cX3_toldParent 3 (some .int), .fieldLink RX3 7 "ThreadlineModel" "there" "[Z", .fieldLink RX3 32 "ThreadlineModel" "hand" "[I", .fieldLink RX3 13 "ThreadlineModel" "tells" "[I", .fieldLink RX3 17 "ThreadlineModel" "beyond" "[I", .methodLink RX3 65 yX3_isBelow, .instanceMethod yX3_isBelow, .selects RX3 yX3_isBelow yX3_isBelow, .code yX3_isBelow cX3_isBelow 4 (some .boolean)] ++ wsX30)
def wsX3_isAlone : List Cond := .code yX3_isAlone cX3_isAlone 2 (some .boolean) :: ([.fieldLink RX3 7 "ThreadlineModel" "there" "[Z", .fieldLink RX3 41 "ThreadlineModel" "above" "[I"] ++ wsX30)
def wsX3_forest_r1 : List Cond := [Cond.fieldLink RX3 41 "ThreadlineModel" "above" "[I", Cond.fieldLink RX3 7 "ThreadlineModel" "there" "[Z", Cond.fieldLink RX3 38 "ThreadlineModel" "link" "[I", Cond.fieldLink RX3 44 "ThreadlineModel" "grows" "[Z", Cond.fieldLink RX3 47 "ThreadlineModel" "order" "[I", Cond.fieldLink RX3 20 "ThreadlineModel" "subject" "[I", Cond.fieldLink RX3 32 "ThreadlineModel" "hand" "[I", Cond.fieldLink RX3 23 "ThreadlineModel" "day" "[I", Cond.methodLink RX3 69 yX3_knows, Cond.instanceMethod yX3_knows, Cond.selects RX3 yX3_knows yX3_knows, Cond.initialized RX3, Cond.code yX3_knows cX3_knows 2 none, Cond.fieldLink RX3 35 "ThreadlineModel" "known" "[Z", Cond.fieldLink RX3 13 "ThreadlineModel" "tells" "[I", Cond.fieldLink RX3 17 "ThreadlineModel" "beyond" "[I", Cond.methodLink RX3 72 yX3_links, Cond.instanceMethod yX3_links, Cond.selects RX3 yX3_links yX3_links, Cond.code yX3_links cX3_links 3 none, Cond.methodLink RX3 61 yX3_toldParent, Cond.instanceMethod yX3_toldParent, Cond.selects RX3 yX3_toldParent yX3_toldParent, Cond.code yX3_toldParent cX3_toldParent 3 (some .int)]
def wsX3_forest_r2 : List Cond := [Cond.methodLink RX3 65 yX3_isBelow, Cond.instanceMethod yX3_isBelow, Cond.selects RX3 yX3_isBelow yX3_isBelow, Cond.code yX3_isBelow cX3_isBelow 4 (some .boolean), Cond.methodLink RX3 75 yX3_isAlone, Cond.instanceMethod yX3_isAlone, Cond.selects RX3 yX3_isAlone yX3_isAlone, Cond.code yX3_isAlone cX3_isAlone 2 (some .boolean)]
def wsX3_forest : List Cond := .code yX3_forest cX3_forest 5 none :: ((wsX3_forest_r1 ++ wsX3_forest_r2) ++ wsX30)
def wsX3_isAhead : List Cond := .code yX3_isAhead cX3_isAhead 3 (some .boolean) :: ([.fieldLink RX3 23 "ThreadlineModel" "day" "[I"] ++ wsX30)
def wsX3_trees : List Cond := .code yX3_trees cX3_trees 9 none :: ([.fieldLink RX3 79 "ThreadlineModel" "many" "I", .fieldLink RX3 50 "ThreadlineModel" "stack" "[I", .fieldLink RX3 47 "ThreadlineModel" "order" "[I", .fieldLink RX3 41 "ThreadlineModel" "above" "[I", .methodLink RX3 82 yX3_isAhead, .instanceMethod yX3_isAhead, .selects RX3 yX3_isAhead yX3_isAhead, .initialized RX3, .code yX3_isAhead cX3_isAhead 3 (some .boolean), .fieldLink RX3 23 "ThreadlineModel" "day" "[I"] ++ wsX30)
def wsX3_rootsNow : List Cond := .code yX3_rootsNow cX3_rootsNow 3 (some .int) :: ([.fieldLink RX3 44 "ThreadlineModel" "grows" "[Z", .fieldLink RX3 41 "ThreadlineModel" "above" "[I"] ++ wsX30)
def wsX3_rootsThen_r1 : List Cond := [Cond.methodLink RX3 85 yX3_forest, Cond.instanceMethod yX3_forest, Cond.selects RX3 yX3_forest yX3_forest, Cond.initialized RX3, Cond.code yX3_forest cX3_forest 5 none, Cond.fieldLink RX3 41 "ThreadlineModel" "above" "[I", Cond.fieldLink RX3 7 "ThreadlineModel" "there" "[Z", Cond.fieldLink RX3 38 "ThreadlineModel" "link" "[I", Cond.fieldLink RX3 44 "ThreadlineModel" "grows" "[Z", Cond.fieldLink RX3 47 "ThreadlineModel" "order" "[I", Cond.fieldLink RX3 20 "ThreadlineModel" "subject" "[I", Cond.fieldLink RX3 32 "ThreadlineModel" "hand" "[I", Cond.fieldLink RX3 23 "ThreadlineModel" "day" "[I", Cond.methodLink RX3 69 yX3_knows, Cond.instanceMethod yX3_knows, Cond.selects RX3 yX3_knows yX3_knows, Cond.code yX3_knows cX3_knows 2 none, Cond.fieldLink RX3 35 "ThreadlineModel" "known" "[Z", Cond.fieldLink RX3 13 "ThreadlineModel" "tells" "[I", Cond.fieldLink RX3 17 "ThreadlineModel" "beyond" "[I", Cond.methodLink RX3 72 yX3_links, Cond.instanceMethod yX3_links, Cond.selects RX3 yX3_links yX3_links, Cond.code yX3_links cX3_links 3 none]
def wsX3_rootsThen_r2 : List Cond := [Cond.methodLink RX3 61 yX3_toldParent, Cond.instanceMethod yX3_toldParent, Cond.selects RX3 yX3_toldParent yX3_toldParent, Cond.code yX3_toldParent cX3_toldParent 3 (some .int), Cond.methodLink RX3 65 yX3_isBelow, Cond.instanceMethod yX3_isBelow, Cond.selects RX3 yX3_isBelow yX3_isBelow, Cond.code yX3_isBelow cX3_isBelow 4 (some .boolean), Cond.methodLink RX3 75 yX3_isAlone, Cond.instanceMethod yX3_isAlone, Cond.selects RX3 yX3_isAlone yX3_isAlone, Cond.code yX3_isAlone cX3_isAlone 2 (some .boolean), Cond.methodLink RX3 88 yX3_rootsNow, Cond.instanceMethod yX3_rootsNow, Cond.selects RX3 yX3_rootsNow yX3_rootsNow, Cond.code yX3_rootsNow cX3_rootsNow 3 (some .int)]
def wsX3_rootsThen : List Cond := .code yX3_rootsThen cX3_rootsThen 1 (some .int) :: ((wsX3_rootsThen_r1 ++ wsX3_rootsThen_r2) ++ wsX30)
def wsX3_letter_r1 : List Cond := [Cond.fieldLink RX3 7 "ThreadlineModel" "there" "[Z", Cond.fieldLink RX3 13 "ThreadlineModel" "tells" "[I", Cond.fieldLink RX3 17 "ThreadlineModel" "beyond" "[I", Cond.fieldLink RX3 20 "ThreadlineModel" "subject" "[I", Cond.fieldLink RX3 23 "ThreadlineModel" "day" "[I", Cond.fieldLink RX3 26 "ThreadlineModel" "person" "[I", Cond.fieldLink RX3 29 "ThreadlineModel" "unread" "[Z", Cond.fieldLink RX3 32 "ThreadlineModel" "hand" "[I", Cond.methodLink RX3 92 yX3_isId, Cond.static yX3_isId, Cond.initialized RX3, Cond.code yX3_isId cX3_isId 1 (some .boolean), Cond.methodLink RX3 57 yX3_in, Cond.static yX3_in, Cond.code yX3_in cX3_in 3 (some .boolean), Cond.methodLink RX3 95 yX3_asked_, Cond.instanceMethod yX3_asked_, Cond.selects RX3 yX3_asked_ yX3_asked_, Cond.code yX3_asked_ cX3_asked_ 3 (some .boolean), Cond.fieldLink RX3 53 "ThreadlineModel" "thrown" "I", Cond.methodLink RX3 99 yX3_rootsThen, Cond.instanceMethod yX3_rootsThen, Cond.selects RX3 yX3_rootsThen yX3_rootsThen, Cond.code yX3_rootsThen cX3_rootsThen 1 (some .int)]
def wsX3_letter_r2 : List Cond := [Cond.methodLink RX3 85 yX3_forest, Cond.instanceMethod yX3_forest, Cond.selects RX3 yX3_forest yX3_forest, Cond.code yX3_forest cX3_forest 5 none, Cond.fieldLink RX3 41 "ThreadlineModel" "above" "[I", Cond.fieldLink RX3 38 "ThreadlineModel" "link" "[I", Cond.fieldLink RX3 44 "ThreadlineModel" "grows" "[Z", Cond.fieldLink RX3 47 "ThreadlineModel" "order" "[I", Cond.methodLink RX3 69 yX3_knows, Cond.instanceMethod yX3_knows, Cond.selects RX3 yX3_knows yX3_knows, Cond.code yX3_knows cX3_knows 2 none, Cond.fieldLink RX3 35 "ThreadlineModel" "known" "[Z", Cond.methodLink RX3 72 yX3_links, Cond.instanceMethod yX3_links, Cond.selects RX3 yX3_links yX3_links, Cond.code yX3_links cX3_links 3 none, Cond.methodLink RX3 61 yX3_toldParent, Cond.instanceMethod yX3_toldParent, Cond.selects RX3 yX3_toldParent yX3_toldParent, Cond.code yX3_toldParent cX3_toldParent 3 (some .int), Cond.methodLink RX3 65 yX3_isBelow, Cond.instanceMethod yX3_isBelow, Cond.selects RX3 yX3_isBelow yX3_isBelow]
def wsX3_letter_r3 : List Cond := [Cond.code yX3_isBelow cX3_isBelow 4 (some .boolean), Cond.methodLink RX3 75 yX3_isAlone, Cond.instanceMethod yX3_isAlone, Cond.selects RX3 yX3_isAlone yX3_isAlone, Cond.code yX3_isAlone cX3_isAlone 2 (some .boolean), Cond.methodLink RX3 88 yX3_rootsNow, Cond.instanceMethod yX3_rootsNow, Cond.selects RX3 yX3_rootsNow yX3_rootsNow, Cond.code yX3_rootsNow cX3_rootsNow 3 (some .int)]
def wsX3_letter : List Cond := .code yX3_letter cX3_letter 8 (some .int) :: ((wsX3_letter_r1 ++ (wsX3_letter_r2 ++ wsX3_letter_r3)) ++ wsX30)
def wsX3_isLetter : List Cond := .code yX3_isLetter cX3_isLetter 3 (some .boolean) :: ([.fieldLink RX3 7 "ThreadlineModel" "there" "[Z", .methodLink RX3 92 yX3_isId, .static yX3_isId, .initialized RX3, .code yX3_isId cX3_isId 1 (some .boolean), .methodLink RX3 57 yX3_in, .static yX3_in, .code yX3_in cX3_in 3 (some .boolean), .methodLink RX3 95 yX3_asked_, .instanceMethod yX3_asked_, .selects RX3 yX3_asked_ yX3_asked_, .code yX3_asked_ cX3_asked_ 3 (some .boolean), .fieldLink RX3 53 "ThreadlineModel" "thrown" "I"] ++ wsX30)
def wsX3_delete_r1 : List Cond := [Cond.fieldLink RX3 7 "ThreadlineModel" "there" "[Z", Cond.fieldLink RX3 32 "ThreadlineModel" "hand" "[I", Cond.methodLink RX3 102 yX3_isLetter, Cond.instanceMethod yX3_isLetter, Cond.selects RX3 yX3_isLetter yX3_isLetter, Cond.initialized RX3, Cond.code yX3_isLetter cX3_isLetter 3 (some .boolean), Cond.methodLink RX3 92 yX3_isId, Cond.static yX3_isId, Cond.code yX3_isId cX3_isId 1 (some .boolean), Cond.methodLink RX3 57 yX3_in, Cond.static yX3_in, Cond.code yX3_in cX3_in 3 (some .boolean), Cond.methodLink RX3 95 yX3_asked_, Cond.instanceMethod yX3_asked_, Cond.selects RX3 yX3_asked_ yX3_asked_, Cond.code yX3_asked_ cX3_asked_ 3 (some .boolean), Cond.fieldLink RX3 53 "ThreadlineModel" "thrown" "I", Cond.methodLink RX3 99 yX3_rootsThen, Cond.instanceMethod yX3_rootsThen, Cond.selects RX3 yX3_rootsThen yX3_rootsThen, Cond.code yX3_rootsThen cX3_rootsThen 1 (some .int), Cond.methodLink RX3 85 yX3_forest, Cond.instanceMethod yX3_forest]
def wsX3_delete_r2 : List Cond := [Cond.selects RX3 yX3_forest yX3_forest, Cond.code yX3_forest cX3_forest 5 none, Cond.fieldLink RX3 41 "ThreadlineModel" "above" "[I", Cond.fieldLink RX3 38 "ThreadlineModel" "link" "[I", Cond.fieldLink RX3 44 "ThreadlineModel" "grows" "[Z", Cond.fieldLink RX3 47 "ThreadlineModel" "order" "[I", Cond.fieldLink RX3 20 "ThreadlineModel" "subject" "[I", Cond.fieldLink RX3 23 "ThreadlineModel" "day" "[I", Cond.methodLink RX3 69 yX3_knows, Cond.instanceMethod yX3_knows, Cond.selects RX3 yX3_knows yX3_knows, Cond.code yX3_knows cX3_knows 2 none, Cond.fieldLink RX3 35 "ThreadlineModel" "known" "[Z", Cond.fieldLink RX3 13 "ThreadlineModel" "tells" "[I", Cond.fieldLink RX3 17 "ThreadlineModel" "beyond" "[I", Cond.methodLink RX3 72 yX3_links, Cond.instanceMethod yX3_links, Cond.selects RX3 yX3_links yX3_links, Cond.code yX3_links cX3_links 3 none, Cond.methodLink RX3 61 yX3_toldParent, Cond.instanceMethod yX3_toldParent, Cond.selects RX3 yX3_toldParent yX3_toldParent, Cond.code yX3_toldParent cX3_toldParent 3 (some .int), Cond.methodLink RX3 65 yX3_isBelow]
def wsX3_delete_r3 : List Cond := [Cond.instanceMethod yX3_isBelow, Cond.selects RX3 yX3_isBelow yX3_isBelow, Cond.code yX3_isBelow cX3_isBelow 4 (some .boolean), Cond.methodLink RX3 75 yX3_isAlone, Cond.instanceMethod yX3_isAlone, Cond.selects RX3 yX3_isAlone yX3_isAlone, Cond.code yX3_isAlone cX3_isAlone 2 (some .boolean), Cond.methodLink RX3 88 yX3_rootsNow, Cond.instanceMethod yX3_rootsNow, Cond.selects RX3 yX3_rootsNow yX3_rootsNow, Cond.code yX3_rootsNow cX3_rootsNow 3 (some .int)]
def wsX3_delete : List Cond := .code yX3_delete cX3_delete 2 (some .int) :: ((wsX3_delete_r1 ++ (wsX3_delete_r2 ++ wsX3_delete_r3)) ++ wsX30)
def wsX3_split_r1 : List Cond := [Cond.fieldLink RX3 32 "ThreadlineModel" "hand" "[I", Cond.fieldLink RX3 41 "ThreadlineModel" "above" "[I", Cond.methodLink RX3 102 yX3_isLetter, Cond.instanceMethod yX3_isLetter, Cond.selects RX3 yX3_isLetter yX3_isLetter, Cond.initialized RX3, Cond.code yX3_isLetter cX3_isLetter 3 (some .boolean), Cond.fieldLink RX3 7 "ThreadlineModel" "there" "[Z", Cond.methodLink RX3 92 yX3_isId, Cond.static yX3_isId, Cond.code yX3_isId cX3_isId 1 (some .boolean), Cond.methodLink RX3 57 yX3_in, Cond.static yX3_in, Cond.code yX3_in cX3_in 3 (some .boolean), Cond.methodLink RX3 95 yX3_asked_, Cond.instanceMethod yX3_asked_, Cond.selects RX3 yX3_asked_ yX3_asked_, Cond.code yX3_asked_ cX3_asked_ 3 (some .boolean), Cond.fieldLink RX3 53 "ThreadlineModel" "thrown" "I", Cond.methodLink RX3 85 yX3_forest, Cond.instanceMethod yX3_forest, Cond.selects RX3 yX3_forest yX3_forest, Cond.code yX3_forest cX3_forest 5 none, Cond.fieldLink RX3 38 "ThreadlineModel" "link" "[I"]
def wsX3_split_r2 : List Cond := [Cond.fieldLink RX3 44 "ThreadlineModel" "grows" "[Z", Cond.fieldLink RX3 47 "ThreadlineModel" "order" "[I", Cond.fieldLink RX3 20 "ThreadlineModel" "subject" "[I", Cond.fieldLink RX3 23 "ThreadlineModel" "day" "[I", Cond.methodLink RX3 69 yX3_knows, Cond.instanceMethod yX3_knows, Cond.selects RX3 yX3_knows yX3_knows, Cond.code yX3_knows cX3_knows 2 none, Cond.fieldLink RX3 35 "ThreadlineModel" "known" "[Z", Cond.fieldLink RX3 13 "ThreadlineModel" "tells" "[I", Cond.fieldLink RX3 17 "ThreadlineModel" "beyond" "[I", Cond.methodLink RX3 72 yX3_links, Cond.instanceMethod yX3_links, Cond.selects RX3 yX3_links yX3_links, Cond.code yX3_links cX3_links 3 none, Cond.methodLink RX3 61 yX3_toldParent, Cond.instanceMethod yX3_toldParent, Cond.selects RX3 yX3_toldParent yX3_toldParent, Cond.code yX3_toldParent cX3_toldParent 3 (some .int), Cond.methodLink RX3 65 yX3_isBelow, Cond.instanceMethod yX3_isBelow, Cond.selects RX3 yX3_isBelow yX3_isBelow, Cond.code yX3_isBelow cX3_isBelow 4 (some .boolean), Cond.methodLink RX3 75 yX3_isAlone]
def wsX3_split_r3 : List Cond := [Cond.instanceMethod yX3_isAlone, Cond.selects RX3 yX3_isAlone yX3_isAlone, Cond.code yX3_isAlone cX3_isAlone 2 (some .boolean)]
def wsX3_split : List Cond := .code yX3_split cX3_split 2 (some .int) :: ((wsX3_split_r1 ++ (wsX3_split_r2 ++ wsX3_split_r3)) ++ wsX30)
def wsX3_join_r1 : List Cond := [Cond.fieldLink RX3 7 "ThreadlineModel" "there" "[Z", Cond.fieldLink RX3 79 "ThreadlineModel" "many" "I", Cond.fieldLink RX3 47 "ThreadlineModel" "order" "[I", Cond.fieldLink RX3 32 "ThreadlineModel" "hand" "[I", Cond.fieldLink RX3 41 "ThreadlineModel" "above" "[I", Cond.methodLink RX3 92 yX3_isId, Cond.static yX3_isId, Cond.initialized RX3, Cond.code yX3_isId cX3_isId 1 (some .boolean), Cond.methodLink RX3 57 yX3_in, Cond.static yX3_in, Cond.code yX3_in cX3_in 3 (some .boolean), Cond.methodLink RX3 85 yX3_forest, Cond.instanceMethod yX3_forest, Cond.selects RX3 yX3_forest yX3_forest, Cond.code yX3_forest cX3_forest 5 none, Cond.fieldLink RX3 38 "ThreadlineModel" "link" "[I", Cond.fieldLink RX3 44 "ThreadlineModel" "grows" "[Z", Cond.fieldLink RX3 20 "ThreadlineModel" "subject" "[I", Cond.fieldLink RX3 23 "ThreadlineModel" "day" "[I", Cond.methodLink RX3 69 yX3_knows, Cond.instanceMethod yX3_knows, Cond.selects RX3 yX3_knows yX3_knows, Cond.code yX3_knows cX3_knows 2 none]
def wsX3_join_r2 : List Cond := [Cond.fieldLink RX3 35 "ThreadlineModel" "known" "[Z", Cond.fieldLink RX3 13 "ThreadlineModel" "tells" "[I", Cond.fieldLink RX3 17 "ThreadlineModel" "beyond" "[I", Cond.methodLink RX3 72 yX3_links, Cond.instanceMethod yX3_links, Cond.selects RX3 yX3_links yX3_links, Cond.code yX3_links cX3_links 3 none, Cond.methodLink RX3 61 yX3_toldParent, Cond.instanceMethod yX3_toldParent, Cond.selects RX3 yX3_toldParent yX3_toldParent, Cond.code yX3_toldParent cX3_toldParent 3 (some .int), Cond.methodLink RX3 65 yX3_isBelow, Cond.instanceMethod yX3_isBelow, Cond.selects RX3 yX3_isBelow yX3_isBelow, Cond.code yX3_isBelow cX3_isBelow 4 (some .boolean), Cond.methodLink RX3 75 yX3_isAlone, Cond.instanceMethod yX3_isAlone, Cond.selects RX3 yX3_isAlone yX3_isAlone, Cond.code yX3_isAlone cX3_isAlone 2 (some .boolean), Cond.methodLink RX3 105 yX3_trees, Cond.instanceMethod yX3_trees, Cond.selects RX3 yX3_trees yX3_trees, Cond.code yX3_trees cX3_trees 9 none, Cond.fieldLink RX3 50 "ThreadlineModel" "stack" "[I"]
def wsX3_join_r3 : List Cond := [Cond.methodLink RX3 82 yX3_isAhead, Cond.instanceMethod yX3_isAhead, Cond.selects RX3 yX3_isAhead yX3_isAhead, Cond.code yX3_isAhead cX3_isAhead 3 (some .boolean), Cond.methodLink RX3 95 yX3_asked_, Cond.instanceMethod yX3_asked_, Cond.selects RX3 yX3_asked_ yX3_asked_, Cond.code yX3_asked_ cX3_asked_ 3 (some .boolean), Cond.fieldLink RX3 53 "ThreadlineModel" "thrown" "I"]
def wsX3_join : List Cond := .code yX3_join cX3_join 6 (some .int) :: ((wsX3_join_r1 ++ (wsX3_join_r2 ++ wsX3_join_r3)) ++ wsX30)
def wsX3_release : List Cond := .code yX3_release cX3_release 3 (some .boolean) :: ([.fieldLink RX3 32 "ThreadlineModel" "hand" "[I", .methodLink RX3 102 yX3_isLetter, .instanceMethod yX3_isLetter, .selects RX3 yX3_isLetter yX3_isLetter, .initialized RX3, .code yX3_isLetter cX3_isLetter 3 (some .boolean), .fieldLink RX3 7 "ThreadlineModel" "there" "[Z", .methodLink RX3 92 yX3_isId, .static yX3_isId, .code yX3_isId cX3_isId 1 (some .boolean), .methodLink RX3 57 yX3_in, .static yX3_in, .code yX3_in cX3_in 3 (some .boolean), .methodLink RX3 95 yX3_asked_, .instanceMethod yX3_asked_, .selects RX3 yX3_asked_ yX3_asked_, .code yX3_asked_ cX3_asked_ 3 (some .boolean), .fieldLink RX3 53 "ThreadlineModel" "thrown" "I"] ++ wsX30)
def wsX3_looks_r1 : List Cond := [Cond.fieldLink RX3 44 "ThreadlineModel" "grows" "[Z", Cond.methodLink RX3 92 yX3_isId, Cond.static yX3_isId, Cond.initialized RX3, Cond.code yX3_isId cX3_isId 1 (some .boolean), Cond.methodLink RX3 57 yX3_in, Cond.static yX3_in, Cond.code yX3_in cX3_in 3 (some .boolean), Cond.methodLink RX3 85 yX3_forest, Cond.instanceMethod yX3_forest, Cond.selects RX3 yX3_forest yX3_forest, Cond.code yX3_forest cX3_forest 5 none, Cond.fieldLink RX3 41 "ThreadlineModel" "above" "[I", Cond.fieldLink RX3 7 "ThreadlineModel" "there" "[Z", Cond.fieldLink RX3 38 "ThreadlineModel" "link" "[I", Cond.fieldLink RX3 47 "ThreadlineModel" "order" "[I", Cond.fieldLink RX3 20 "ThreadlineModel" "subject" "[I", Cond.fieldLink RX3 32 "ThreadlineModel" "hand" "[I", Cond.fieldLink RX3 23 "ThreadlineModel" "day" "[I", Cond.methodLink RX3 69 yX3_knows, Cond.instanceMethod yX3_knows, Cond.selects RX3 yX3_knows yX3_knows, Cond.code yX3_knows cX3_knows 2 none, Cond.fieldLink RX3 35 "ThreadlineModel" "known" "[Z"]
def wsX3_looks_r2 : List Cond := [Cond.fieldLink RX3 13 "ThreadlineModel" "tells" "[I", Cond.fieldLink RX3 17 "ThreadlineModel" "beyond" "[I", Cond.methodLink RX3 72 yX3_links, Cond.instanceMethod yX3_links, Cond.selects RX3 yX3_links yX3_links, Cond.code yX3_links cX3_links 3 none, Cond.methodLink RX3 61 yX3_toldParent, Cond.instanceMethod yX3_toldParent, Cond.selects RX3 yX3_toldParent yX3_toldParent, Cond.code yX3_toldParent cX3_toldParent 3 (some .int), Cond.methodLink RX3 65 yX3_isBelow, Cond.instanceMethod yX3_isBelow, Cond.selects RX3 yX3_isBelow yX3_isBelow, Cond.code yX3_isBelow cX3_isBelow 4 (some .boolean), Cond.methodLink RX3 75 yX3_isAlone, Cond.instanceMethod yX3_isAlone, Cond.selects RX3 yX3_isAlone yX3_isAlone, Cond.code yX3_isAlone cX3_isAlone 2 (some .boolean), Cond.methodLink RX3 95 yX3_asked_, Cond.instanceMethod yX3_asked_, Cond.selects RX3 yX3_asked_ yX3_asked_, Cond.code yX3_asked_ cX3_asked_ 3 (some .boolean), Cond.fieldLink RX3 53 "ThreadlineModel" "thrown" "I", Cond.methodLink RX3 105 yX3_trees]
def wsX3_looks_r3 : List Cond := [Cond.instanceMethod yX3_trees, Cond.selects RX3 yX3_trees yX3_trees, Cond.code yX3_trees cX3_trees 9 none, Cond.fieldLink RX3 79 "ThreadlineModel" "many" "I", Cond.fieldLink RX3 50 "ThreadlineModel" "stack" "[I", Cond.methodLink RX3 82 yX3_isAhead, Cond.instanceMethod yX3_isAhead, Cond.selects RX3 yX3_isAhead yX3_isAhead, Cond.code yX3_isAhead cX3_isAhead 3 (some .boolean)]
def wsX3_looks : List Cond := .code yX3_looks cX3_looks 4 (some .boolean) :: ((wsX3_looks_r1 ++ (wsX3_looks_r2 ++ wsX3_looks_r3)) ++ wsX30)
def wsX3_read_r1 : List Cond := [Cond.fieldLink RX3 79 "ThreadlineModel" "many" "I", Cond.fieldLink RX3 7 "ThreadlineModel" "there" "[Z", Cond.fieldLink RX3 47 "ThreadlineModel" "order" "[I", Cond.fieldLink RX3 29 "ThreadlineModel" "unread" "[Z", Cond.methodLink RX3 109 yX3_looks, Cond.instanceMethod yX3_looks, Cond.selects RX3 yX3_looks yX3_looks, Cond.initialized RX3, Cond.code yX3_looks cX3_looks 4 (some .boolean), Cond.fieldLink RX3 44 "ThreadlineModel" "grows" "[Z", Cond.methodLink RX3 92 yX3_isId, Cond.static yX3_isId, Cond.code yX3_isId cX3_isId 1 (some .boolean), Cond.methodLink RX3 57 yX3_in, Cond.static yX3_in, Cond.code yX3_in cX3_in 3 (some .boolean), Cond.methodLink RX3 85 yX3_forest, Cond.instanceMethod yX3_forest, Cond.selects RX3 yX3_forest yX3_forest, Cond.code yX3_forest cX3_forest 5 none, Cond.fieldLink RX3 41 "ThreadlineModel" "above" "[I", Cond.fieldLink RX3 38 "ThreadlineModel" "link" "[I", Cond.fieldLink RX3 20 "ThreadlineModel" "subject" "[I", Cond.fieldLink RX3 32 "ThreadlineModel" "hand" "[I"]
def wsX3_read_r2 : List Cond := [Cond.fieldLink RX3 23 "ThreadlineModel" "day" "[I", Cond.methodLink RX3 69 yX3_knows, Cond.instanceMethod yX3_knows, Cond.selects RX3 yX3_knows yX3_knows, Cond.code yX3_knows cX3_knows 2 none, Cond.fieldLink RX3 35 "ThreadlineModel" "known" "[Z", Cond.fieldLink RX3 13 "ThreadlineModel" "tells" "[I", Cond.fieldLink RX3 17 "ThreadlineModel" "beyond" "[I", Cond.methodLink RX3 72 yX3_links, Cond.instanceMethod yX3_links, Cond.selects RX3 yX3_links yX3_links, Cond.code yX3_links cX3_links 3 none, Cond.methodLink RX3 61 yX3_toldParent, Cond.instanceMethod yX3_toldParent, Cond.selects RX3 yX3_toldParent yX3_toldParent, Cond.code yX3_toldParent cX3_toldParent 3 (some .int), Cond.methodLink RX3 65 yX3_isBelow, Cond.instanceMethod yX3_isBelow, Cond.selects RX3 yX3_isBelow yX3_isBelow, Cond.code yX3_isBelow cX3_isBelow 4 (some .boolean), Cond.methodLink RX3 75 yX3_isAlone, Cond.instanceMethod yX3_isAlone, Cond.selects RX3 yX3_isAlone yX3_isAlone, Cond.code yX3_isAlone cX3_isAlone 2 (some .boolean)]
def wsX3_read_r3 : List Cond := [Cond.methodLink RX3 95 yX3_asked_, Cond.instanceMethod yX3_asked_, Cond.selects RX3 yX3_asked_ yX3_asked_, Cond.code yX3_asked_ cX3_asked_ 3 (some .boolean), Cond.fieldLink RX3 53 "ThreadlineModel" "thrown" "I", Cond.methodLink RX3 105 yX3_trees, Cond.instanceMethod yX3_trees, Cond.selects RX3 yX3_trees yX3_trees, Cond.code yX3_trees cX3_trees 9 none, Cond.fieldLink RX3 50 "ThreadlineModel" "stack" "[I", Cond.methodLink RX3 82 yX3_isAhead, Cond.instanceMethod yX3_isAhead, Cond.selects RX3 yX3_isAhead yX3_isAhead, Cond.code yX3_isAhead cX3_isAhead 3 (some .boolean)]
def wsX3_read : List Cond := .code yX3_read cX3_read 5 (some .int) :: ((wsX3_read_r1 ++ (wsX3_read_r2 ++ wsX3_read_r3)) ++ wsX30)
def wsX3_state_r1 : List Cond := [Cond.fieldLink RX3 35 "ThreadlineModel" "known" "[Z", Cond.fieldLink RX3 7 "ThreadlineModel" "there" "[Z", Cond.fieldLink RX3 44 "ThreadlineModel" "grows" "[Z", Cond.methodLink RX3 92 yX3_isId, Cond.static yX3_isId, Cond.initialized RX3, Cond.code yX3_isId cX3_isId 1 (some .boolean), Cond.methodLink RX3 57 yX3_in, Cond.static yX3_in, Cond.code yX3_in cX3_in 3 (some .boolean), Cond.methodLink RX3 112 yX3_asked, Cond.instanceMethod yX3_asked, Cond.selects RX3 yX3_asked yX3_asked, Cond.code yX3_asked cX3_asked 2 (some .boolean), Cond.fieldLink RX3 53 "ThreadlineModel" "thrown" "I", Cond.methodLink RX3 85 yX3_forest, Cond.instanceMethod yX3_forest, Cond.selects RX3 yX3_forest yX3_forest, Cond.code yX3_forest cX3_forest 5 none, Cond.fieldLink RX3 41 "ThreadlineModel" "above" "[I", Cond.fieldLink RX3 38 "ThreadlineModel" "link" "[I", Cond.fieldLink RX3 47 "ThreadlineModel" "order" "[I", Cond.fieldLink RX3 20 "ThreadlineModel" "subject" "[I", Cond.fieldLink RX3 32 "ThreadlineModel" "hand" "[I"]
def wsX3_state_r2 : List Cond := [Cond.fieldLink RX3 23 "ThreadlineModel" "day" "[I", Cond.methodLink RX3 69 yX3_knows, Cond.instanceMethod yX3_knows, Cond.selects RX3 yX3_knows yX3_knows, Cond.code yX3_knows cX3_knows 2 none, Cond.fieldLink RX3 13 "ThreadlineModel" "tells" "[I", Cond.fieldLink RX3 17 "ThreadlineModel" "beyond" "[I", Cond.methodLink RX3 72 yX3_links, Cond.instanceMethod yX3_links, Cond.selects RX3 yX3_links yX3_links, Cond.code yX3_links cX3_links 3 none, Cond.methodLink RX3 61 yX3_toldParent, Cond.instanceMethod yX3_toldParent, Cond.selects RX3 yX3_toldParent yX3_toldParent, Cond.code yX3_toldParent cX3_toldParent 3 (some .int), Cond.methodLink RX3 65 yX3_isBelow, Cond.instanceMethod yX3_isBelow, Cond.selects RX3 yX3_isBelow yX3_isBelow, Cond.code yX3_isBelow cX3_isBelow 4 (some .boolean), Cond.methodLink RX3 75 yX3_isAlone, Cond.instanceMethod yX3_isAlone, Cond.selects RX3 yX3_isAlone yX3_isAlone, Cond.code yX3_isAlone cX3_isAlone 2 (some .boolean)]
def wsX3_state : List Cond := .code yX3_state cX3_state 2 (some .int) :: ((wsX3_state_r1 ++ wsX3_state_r2) ++ wsX30)
def wsX3_parent_r1 : List Cond := [Cond.fieldLink RX3 41 "ThreadlineModel" "above" "[I", Cond.methodLink RX3 109 yX3_looks, Cond.instanceMethod yX3_looks, Cond.selects RX3 yX3_looks yX3_looks, Cond.initialized RX3, Cond.code yX3_looks cX3_looks 4 (some .boolean), Cond.fieldLink RX3 44 "ThreadlineModel" "grows" "[Z", Cond.methodLink RX3 92 yX3_isId, Cond.static yX3_isId, Cond.code yX3_isId cX3_isId 1 (some .boolean), Cond.methodLink RX3 57 yX3_in, Cond.static yX3_in, Cond.code yX3_in cX3_in 3 (some .boolean), Cond.methodLink RX3 85 yX3_forest, Cond.instanceMethod yX3_forest, Cond.selects RX3 yX3_forest yX3_forest, Cond.code yX3_forest cX3_forest 5 none, Cond.fieldLink RX3 7 "ThreadlineModel" "there" "[Z", Cond.fieldLink RX3 38 "ThreadlineModel" "link" "[I", Cond.fieldLink RX3 47 "ThreadlineModel" "order" "[I", Cond.fieldLink RX3 20 "ThreadlineModel" "subject" "[I", Cond.fieldLink RX3 32 "ThreadlineModel" "hand" "[I", Cond.fieldLink RX3 23 "ThreadlineModel" "day" "[I", Cond.methodLink RX3 69 yX3_knows]
def wsX3_parent_r2 : List Cond := [Cond.instanceMethod yX3_knows, Cond.selects RX3 yX3_knows yX3_knows, Cond.code yX3_knows cX3_knows 2 none, Cond.fieldLink RX3 35 "ThreadlineModel" "known" "[Z", Cond.fieldLink RX3 13 "ThreadlineModel" "tells" "[I", Cond.fieldLink RX3 17 "ThreadlineModel" "beyond" "[I", Cond.methodLink RX3 72 yX3_links, Cond.instanceMethod yX3_links, Cond.selects RX3 yX3_links yX3_links, Cond.code yX3_links cX3_links 3 none, Cond.methodLink RX3 61 yX3_toldParent, Cond.instanceMethod yX3_toldParent, Cond.selects RX3 yX3_toldParent yX3_toldParent, Cond.code yX3_toldParent cX3_toldParent 3 (some .int), Cond.methodLink RX3 65 yX3_isBelow, Cond.instanceMethod yX3_isBelow, Cond.selects RX3 yX3_isBelow yX3_isBelow, Cond.code yX3_isBelow cX3_isBelow 4 (some .boolean), Cond.methodLink RX3 75 yX3_isAlone, Cond.instanceMethod yX3_isAlone, Cond.selects RX3 yX3_isAlone yX3_isAlone, Cond.code yX3_isAlone cX3_isAlone 2 (some .boolean), Cond.methodLink RX3 95 yX3_asked_, Cond.instanceMethod yX3_asked_]
def wsX3_parent_r3 : List Cond := [Cond.selects RX3 yX3_asked_ yX3_asked_, Cond.code yX3_asked_ cX3_asked_ 3 (some .boolean), Cond.fieldLink RX3 53 "ThreadlineModel" "thrown" "I", Cond.methodLink RX3 105 yX3_trees, Cond.instanceMethod yX3_trees, Cond.selects RX3 yX3_trees yX3_trees, Cond.code yX3_trees cX3_trees 9 none, Cond.fieldLink RX3 79 "ThreadlineModel" "many" "I", Cond.fieldLink RX3 50 "ThreadlineModel" "stack" "[I", Cond.methodLink RX3 82 yX3_isAhead, Cond.instanceMethod yX3_isAhead, Cond.selects RX3 yX3_isAhead yX3_isAhead, Cond.code yX3_isAhead cX3_isAhead 3 (some .boolean)]
def wsX3_parent : List Cond := .code yX3_parent cX3_parent 2 (some .int) :: ((wsX3_parent_r1 ++ (wsX3_parent_r2 ++ wsX3_parent_r3)) ++ wsX30)
def wsX3_children_r1 : List Cond := [Cond.fieldLink RX3 41 "ThreadlineModel" "above" "[I", Cond.methodLink RX3 109 yX3_looks, Cond.instanceMethod yX3_looks, Cond.selects RX3 yX3_looks yX3_looks, Cond.initialized RX3, Cond.code yX3_looks cX3_looks 4 (some .boolean), Cond.fieldLink RX3 44 "ThreadlineModel" "grows" "[Z", Cond.methodLink RX3 92 yX3_isId, Cond.static yX3_isId, Cond.code yX3_isId cX3_isId 1 (some .boolean), Cond.methodLink RX3 57 yX3_in, Cond.static yX3_in, Cond.code yX3_in cX3_in 3 (some .boolean), Cond.methodLink RX3 85 yX3_forest, Cond.instanceMethod yX3_forest, Cond.selects RX3 yX3_forest yX3_forest, Cond.code yX3_forest cX3_forest 5 none, Cond.fieldLink RX3 7 "ThreadlineModel" "there" "[Z", Cond.fieldLink RX3 38 "ThreadlineModel" "link" "[I", Cond.fieldLink RX3 47 "ThreadlineModel" "order" "[I", Cond.fieldLink RX3 20 "ThreadlineModel" "subject" "[I", Cond.fieldLink RX3 32 "ThreadlineModel" "hand" "[I", Cond.fieldLink RX3 23 "ThreadlineModel" "day" "[I", Cond.methodLink RX3 69 yX3_knows]
def wsX3_children_r2 : List Cond := [Cond.instanceMethod yX3_knows, Cond.selects RX3 yX3_knows yX3_knows, Cond.code yX3_knows cX3_knows 2 none, Cond.fieldLink RX3 35 "ThreadlineModel" "known" "[Z", Cond.fieldLink RX3 13 "ThreadlineModel" "tells" "[I", Cond.fieldLink RX3 17 "ThreadlineModel" "beyond" "[I", Cond.methodLink RX3 72 yX3_links, Cond.instanceMethod yX3_links, Cond.selects RX3 yX3_links yX3_links, Cond.code yX3_links cX3_links 3 none, Cond.methodLink RX3 61 yX3_toldParent, Cond.instanceMethod yX3_toldParent, Cond.selects RX3 yX3_toldParent yX3_toldParent, Cond.code yX3_toldParent cX3_toldParent 3 (some .int), Cond.methodLink RX3 65 yX3_isBelow, Cond.instanceMethod yX3_isBelow, Cond.selects RX3 yX3_isBelow yX3_isBelow, Cond.code yX3_isBelow cX3_isBelow 4 (some .boolean), Cond.methodLink RX3 75 yX3_isAlone, Cond.instanceMethod yX3_isAlone, Cond.selects RX3 yX3_isAlone yX3_isAlone, Cond.code yX3_isAlone cX3_isAlone 2 (some .boolean), Cond.methodLink RX3 95 yX3_asked_, Cond.instanceMethod yX3_asked_]
def wsX3_children_r3 : List Cond := [Cond.selects RX3 yX3_asked_ yX3_asked_, Cond.code yX3_asked_ cX3_asked_ 3 (some .boolean), Cond.fieldLink RX3 53 "ThreadlineModel" "thrown" "I", Cond.methodLink RX3 105 yX3_trees, Cond.instanceMethod yX3_trees, Cond.selects RX3 yX3_trees yX3_trees, Cond.code yX3_trees cX3_trees 9 none, Cond.fieldLink RX3 79 "ThreadlineModel" "many" "I", Cond.fieldLink RX3 50 "ThreadlineModel" "stack" "[I", Cond.methodLink RX3 82 yX3_isAhead, Cond.instanceMethod yX3_isAhead, Cond.selects RX3 yX3_isAhead yX3_isAhead, Cond.code yX3_isAhead cX3_isAhead 3 (some .boolean)]
def wsX3_children : List Cond := .code yX3_children cX3_children 5 (some .int) :: ((wsX3_children_r1 ++ (wsX3_children_r2 ++ wsX3_children_r3)) ++ wsX30)
def wsX3_roots_r1 : List Cond := [Cond.fieldLink RX3 53 "ThreadlineModel" "thrown" "I", Cond.methodLink RX3 99 yX3_rootsThen, Cond.instanceMethod yX3_rootsThen, Cond.selects RX3 yX3_rootsThen yX3_rootsThen, Cond.initialized RX3, Cond.code yX3_rootsThen cX3_rootsThen 1 (some .int), Cond.methodLink RX3 85 yX3_forest, Cond.instanceMethod yX3_forest, Cond.selects RX3 yX3_forest yX3_forest, Cond.code yX3_forest cX3_forest 5 none, Cond.fieldLink RX3 41 "ThreadlineModel" "above" "[I", Cond.fieldLink RX3 7 "ThreadlineModel" "there" "[Z", Cond.fieldLink RX3 38 "ThreadlineModel" "link" "[I", Cond.fieldLink RX3 44 "ThreadlineModel" "grows" "[Z", Cond.fieldLink RX3 47 "ThreadlineModel" "order" "[I", Cond.fieldLink RX3 20 "ThreadlineModel" "subject" "[I", Cond.fieldLink RX3 32 "ThreadlineModel" "hand" "[I", Cond.fieldLink RX3 23 "ThreadlineModel" "day" "[I", Cond.methodLink RX3 69 yX3_knows, Cond.instanceMethod yX3_knows, Cond.selects RX3 yX3_knows yX3_knows, Cond.code yX3_knows cX3_knows 2 none, Cond.fieldLink RX3 35 "ThreadlineModel" "known" "[Z", Cond.fieldLink RX3 13 "ThreadlineModel" "tells" "[I"]
def wsX3_roots_r2 : List Cond := [Cond.fieldLink RX3 17 "ThreadlineModel" "beyond" "[I", Cond.methodLink RX3 72 yX3_links, Cond.instanceMethod yX3_links, Cond.selects RX3 yX3_links yX3_links, Cond.code yX3_links cX3_links 3 none, Cond.methodLink RX3 61 yX3_toldParent, Cond.instanceMethod yX3_toldParent, Cond.selects RX3 yX3_toldParent yX3_toldParent, Cond.code yX3_toldParent cX3_toldParent 3 (some .int), Cond.methodLink RX3 65 yX3_isBelow, Cond.instanceMethod yX3_isBelow, Cond.selects RX3 yX3_isBelow yX3_isBelow, Cond.code yX3_isBelow cX3_isBelow 4 (some .boolean), Cond.methodLink RX3 75 yX3_isAlone, Cond.instanceMethod yX3_isAlone, Cond.selects RX3 yX3_isAlone yX3_isAlone, Cond.code yX3_isAlone cX3_isAlone 2 (some .boolean), Cond.methodLink RX3 88 yX3_rootsNow, Cond.instanceMethod yX3_rootsNow, Cond.selects RX3 yX3_rootsNow yX3_rootsNow, Cond.code yX3_rootsNow cX3_rootsNow 3 (some .int)]
def wsX3_roots : List Cond := .code yX3_roots cX3_roots 1 (some .int) :: ((wsX3_roots_r1 ++ wsX3_roots_r2) ++ wsX30)
def wsX3_earliest : List Cond := .code yX3_earliest cX3_earliest 4 (some .int) :: ([.fieldLink RX3 79 "ThreadlineModel" "many" "I", .fieldLink RX3 7 "ThreadlineModel" "there" "[Z", .fieldLink RX3 47 "ThreadlineModel" "order" "[I", .fieldLink RX3 23 "ThreadlineModel" "day" "[I", .methodLink RX3 105 yX3_trees, .instanceMethod yX3_trees, .selects RX3 yX3_trees yX3_trees, .initialized RX3, .code yX3_trees cX3_trees 9 none, .fieldLink RX3 50 "ThreadlineModel" "stack" "[I", .fieldLink RX3 41 "ThreadlineModel" "above" "[I", .methodLink RX3 82 yX3_isAhead, .instanceMethod yX3_isAhead, .selects RX3 yX3_isAhead yX3_isAhead, .code yX3_isAhead cX3_isAhead 3 (some .boolean)] ++ wsX30)
def wsX3_root_r1 : List Cond := [Cond.fieldLink RX3 44 "ThreadlineModel" "grows" "[Z", Cond.fieldLink RX3 41 "ThreadlineModel" "above" "[I", Cond.methodLink RX3 85 yX3_forest, Cond.instanceMethod yX3_forest, Cond.selects RX3 yX3_forest yX3_forest, Cond.initialized RX3, Cond.code yX3_forest cX3_forest 5 none, Cond.fieldLink RX3 7 "ThreadlineModel" "there" "[Z", Cond.fieldLink RX3 38 "ThreadlineModel" "link" "[I", Cond.fieldLink RX3 47 "ThreadlineModel" "order" "[I", Cond.fieldLink RX3 20 "ThreadlineModel" "subject" "[I", Cond.fieldLink RX3 32 "ThreadlineModel" "hand" "[I", Cond.fieldLink RX3 23 "ThreadlineModel" "day" "[I", Cond.methodLink RX3 69 yX3_knows, Cond.instanceMethod yX3_knows, Cond.selects RX3 yX3_knows yX3_knows, Cond.code yX3_knows cX3_knows 2 none, Cond.fieldLink RX3 35 "ThreadlineModel" "known" "[Z", Cond.fieldLink RX3 13 "ThreadlineModel" "tells" "[I", Cond.fieldLink RX3 17 "ThreadlineModel" "beyond" "[I", Cond.methodLink RX3 72 yX3_links, Cond.instanceMethod yX3_links, Cond.selects RX3 yX3_links yX3_links, Cond.code yX3_links cX3_links 3 none]
def wsX3_root_r2 : List Cond := [Cond.methodLink RX3 61 yX3_toldParent, Cond.instanceMethod yX3_toldParent, Cond.selects RX3 yX3_toldParent yX3_toldParent, Cond.code yX3_toldParent cX3_toldParent 3 (some .int), Cond.methodLink RX3 65 yX3_isBelow, Cond.instanceMethod yX3_isBelow, Cond.selects RX3 yX3_isBelow yX3_isBelow, Cond.code yX3_isBelow cX3_isBelow 4 (some .boolean), Cond.methodLink RX3 75 yX3_isAlone, Cond.instanceMethod yX3_isAlone, Cond.selects RX3 yX3_isAlone yX3_isAlone, Cond.code yX3_isAlone cX3_isAlone 2 (some .boolean), Cond.methodLink RX3 88 yX3_rootsNow, Cond.instanceMethod yX3_rootsNow, Cond.selects RX3 yX3_rootsNow yX3_rootsNow, Cond.code yX3_rootsNow cX3_rootsNow 3 (some .int), Cond.methodLink RX3 57 yX3_in, Cond.static yX3_in, Cond.code yX3_in cX3_in 3 (some .boolean), Cond.methodLink RX3 112 yX3_asked, Cond.instanceMethod yX3_asked, Cond.selects RX3 yX3_asked yX3_asked, Cond.code yX3_asked cX3_asked 2 (some .boolean), Cond.fieldLink RX3 53 "ThreadlineModel" "thrown" "I"]
def wsX3_root_r3 : List Cond := [Cond.methodLink RX3 115 yX3_earliest, Cond.instanceMethod yX3_earliest, Cond.selects RX3 yX3_earliest yX3_earliest, Cond.code yX3_earliest cX3_earliest 4 (some .int), Cond.fieldLink RX3 79 "ThreadlineModel" "many" "I", Cond.methodLink RX3 105 yX3_trees, Cond.instanceMethod yX3_trees, Cond.selects RX3 yX3_trees yX3_trees, Cond.code yX3_trees cX3_trees 9 none, Cond.fieldLink RX3 50 "ThreadlineModel" "stack" "[I", Cond.methodLink RX3 82 yX3_isAhead, Cond.instanceMethod yX3_isAhead, Cond.selects RX3 yX3_isAhead yX3_isAhead, Cond.code yX3_isAhead cX3_isAhead 3 (some .boolean)]
def wsX3_root : List Cond := .code yX3_root cX3_root 7 (some .int) :: ((wsX3_root_r1 ++ (wsX3_root_r2 ++ wsX3_root_r3)) ++ wsX30)
def wsX3_inTree_r1 : List Cond := [Cond.fieldLink RX3 79 "ThreadlineModel" "many" "I", Cond.fieldLink RX3 47 "ThreadlineModel" "order" "[I", Cond.methodLink RX3 109 yX3_looks, Cond.instanceMethod yX3_looks, Cond.selects RX3 yX3_looks yX3_looks, Cond.initialized RX3, Cond.code yX3_looks cX3_looks 4 (some .boolean), Cond.fieldLink RX3 44 "ThreadlineModel" "grows" "[Z", Cond.methodLink RX3 92 yX3_isId, Cond.static yX3_isId, Cond.code yX3_isId cX3_isId 1 (some .boolean), Cond.methodLink RX3 57 yX3_in, Cond.static yX3_in, Cond.code yX3_in cX3_in 3 (some .boolean), Cond.methodLink RX3 85 yX3_forest, Cond.instanceMethod yX3_forest, Cond.selects RX3 yX3_forest yX3_forest, Cond.code yX3_forest cX3_forest 5 none, Cond.fieldLink RX3 41 "ThreadlineModel" "above" "[I", Cond.fieldLink RX3 7 "ThreadlineModel" "there" "[Z", Cond.fieldLink RX3 38 "ThreadlineModel" "link" "[I", Cond.fieldLink RX3 20 "ThreadlineModel" "subject" "[I", Cond.fieldLink RX3 32 "ThreadlineModel" "hand" "[I", Cond.fieldLink RX3 23 "ThreadlineModel" "day" "[I"]
def wsX3_inTree_r2 : List Cond := [Cond.methodLink RX3 69 yX3_knows, Cond.instanceMethod yX3_knows, Cond.selects RX3 yX3_knows yX3_knows, Cond.code yX3_knows cX3_knows 2 none, Cond.fieldLink RX3 35 "ThreadlineModel" "known" "[Z", Cond.fieldLink RX3 13 "ThreadlineModel" "tells" "[I", Cond.fieldLink RX3 17 "ThreadlineModel" "beyond" "[I", Cond.methodLink RX3 72 yX3_links, Cond.instanceMethod yX3_links, Cond.selects RX3 yX3_links yX3_links, Cond.code yX3_links cX3_links 3 none, Cond.methodLink RX3 61 yX3_toldParent, Cond.instanceMethod yX3_toldParent, Cond.selects RX3 yX3_toldParent yX3_toldParent, Cond.code yX3_toldParent cX3_toldParent 3 (some .int), Cond.methodLink RX3 65 yX3_isBelow, Cond.instanceMethod yX3_isBelow, Cond.selects RX3 yX3_isBelow yX3_isBelow, Cond.code yX3_isBelow cX3_isBelow 4 (some .boolean), Cond.methodLink RX3 75 yX3_isAlone, Cond.instanceMethod yX3_isAlone, Cond.selects RX3 yX3_isAlone yX3_isAlone, Cond.code yX3_isAlone cX3_isAlone 2 (some .boolean), Cond.methodLink RX3 95 yX3_asked_]
def wsX3_inTree_r3 : List Cond := [Cond.instanceMethod yX3_asked_, Cond.selects RX3 yX3_asked_ yX3_asked_, Cond.code yX3_asked_ cX3_asked_ 3 (some .boolean), Cond.fieldLink RX3 53 "ThreadlineModel" "thrown" "I", Cond.methodLink RX3 105 yX3_trees, Cond.instanceMethod yX3_trees, Cond.selects RX3 yX3_trees yX3_trees, Cond.code yX3_trees cX3_trees 9 none, Cond.fieldLink RX3 50 "ThreadlineModel" "stack" "[I", Cond.methodLink RX3 82 yX3_isAhead, Cond.instanceMethod yX3_isAhead, Cond.selects RX3 yX3_isAhead yX3_isAhead, Cond.code yX3_isAhead cX3_isAhead 3 (some .boolean)]
def wsX3_inTree : List Cond := .code yX3_inTree cX3_inTree 3 (some .int) :: ((wsX3_inTree_r1 ++ (wsX3_inTree_r2 ++ wsX3_inTree_r3)) ++ wsX30)
def wsX3_depth_r1 : List Cond := [Cond.fieldLink RX3 41 "ThreadlineModel" "above" "[I", Cond.methodLink RX3 109 yX3_looks, Cond.instanceMethod yX3_looks, Cond.selects RX3 yX3_looks yX3_looks, Cond.initialized RX3, Cond.code yX3_looks cX3_looks 4 (some .boolean), Cond.fieldLink RX3 44 "ThreadlineModel" "grows" "[Z", Cond.methodLink RX3 92 yX3_isId, Cond.static yX3_isId, Cond.code yX3_isId cX3_isId 1 (some .boolean), Cond.methodLink RX3 57 yX3_in, Cond.static yX3_in, Cond.code yX3_in cX3_in 3 (some .boolean), Cond.methodLink RX3 85 yX3_forest, Cond.instanceMethod yX3_forest, Cond.selects RX3 yX3_forest yX3_forest, Cond.code yX3_forest cX3_forest 5 none, Cond.fieldLink RX3 7 "ThreadlineModel" "there" "[Z", Cond.fieldLink RX3 38 "ThreadlineModel" "link" "[I", Cond.fieldLink RX3 47 "ThreadlineModel" "order" "[I", Cond.fieldLink RX3 20 "ThreadlineModel" "subject" "[I", Cond.fieldLink RX3 32 "ThreadlineModel" "hand" "[I", Cond.fieldLink RX3 23 "ThreadlineModel" "day" "[I", Cond.methodLink RX3 69 yX3_knows]
def wsX3_depth_r2 : List Cond := [Cond.instanceMethod yX3_knows, Cond.selects RX3 yX3_knows yX3_knows, Cond.code yX3_knows cX3_knows 2 none, Cond.fieldLink RX3 35 "ThreadlineModel" "known" "[Z", Cond.fieldLink RX3 13 "ThreadlineModel" "tells" "[I", Cond.fieldLink RX3 17 "ThreadlineModel" "beyond" "[I", Cond.methodLink RX3 72 yX3_links, Cond.instanceMethod yX3_links, Cond.selects RX3 yX3_links yX3_links, Cond.code yX3_links cX3_links 3 none, Cond.methodLink RX3 61 yX3_toldParent, Cond.instanceMethod yX3_toldParent, Cond.selects RX3 yX3_toldParent yX3_toldParent, Cond.code yX3_toldParent cX3_toldParent 3 (some .int), Cond.methodLink RX3 65 yX3_isBelow, Cond.instanceMethod yX3_isBelow, Cond.selects RX3 yX3_isBelow yX3_isBelow, Cond.code yX3_isBelow cX3_isBelow 4 (some .boolean), Cond.methodLink RX3 75 yX3_isAlone, Cond.instanceMethod yX3_isAlone, Cond.selects RX3 yX3_isAlone yX3_isAlone, Cond.code yX3_isAlone cX3_isAlone 2 (some .boolean), Cond.methodLink RX3 95 yX3_asked_, Cond.instanceMethod yX3_asked_]
def wsX3_depth_r3 : List Cond := [Cond.selects RX3 yX3_asked_ yX3_asked_, Cond.code yX3_asked_ cX3_asked_ 3 (some .boolean), Cond.fieldLink RX3 53 "ThreadlineModel" "thrown" "I", Cond.methodLink RX3 105 yX3_trees, Cond.instanceMethod yX3_trees, Cond.selects RX3 yX3_trees yX3_trees, Cond.code yX3_trees cX3_trees 9 none, Cond.fieldLink RX3 79 "ThreadlineModel" "many" "I", Cond.fieldLink RX3 50 "ThreadlineModel" "stack" "[I", Cond.methodLink RX3 82 yX3_isAhead, Cond.instanceMethod yX3_isAhead, Cond.selects RX3 yX3_isAhead yX3_isAhead, Cond.code yX3_isAhead cX3_isAhead 3 (some .boolean)]
def wsX3_depth : List Cond := .code yX3_depth cX3_depth 5 (some .int) :: ((wsX3_depth_r1 ++ (wsX3_depth_r2 ++ wsX3_depth_r3)) ++ wsX30)
def wsX3_letters_r1 : List Cond := [Cond.fieldLink RX3 79 "ThreadlineModel" "many" "I", Cond.fieldLink RX3 7 "ThreadlineModel" "there" "[Z", Cond.fieldLink RX3 47 "ThreadlineModel" "order" "[I", Cond.methodLink RX3 109 yX3_looks, Cond.instanceMethod yX3_looks, Cond.selects RX3 yX3_looks yX3_looks, Cond.initialized RX3, Cond.code yX3_looks cX3_looks 4 (some .boolean), Cond.fieldLink RX3 44 "ThreadlineModel" "grows" "[Z", Cond.methodLink RX3 92 yX3_isId, Cond.static yX3_isId, Cond.code yX3_isId cX3_isId 1 (some .boolean), Cond.methodLink RX3 57 yX3_in, Cond.static yX3_in, Cond.code yX3_in cX3_in 3 (some .boolean), Cond.methodLink RX3 85 yX3_forest, Cond.instanceMethod yX3_forest, Cond.selects RX3 yX3_forest yX3_forest, Cond.code yX3_forest cX3_forest 5 none, Cond.fieldLink RX3 41 "ThreadlineModel" "above" "[I", Cond.fieldLink RX3 38 "ThreadlineModel" "link" "[I", Cond.fieldLink RX3 20 "ThreadlineModel" "subject" "[I", Cond.fieldLink RX3 32 "ThreadlineModel" "hand" "[I", Cond.fieldLink RX3 23 "ThreadlineModel" "day" "[I"]
def wsX3_letters_r2 : List Cond := [Cond.methodLink RX3 69 yX3_knows, Cond.instanceMethod yX3_knows, Cond.selects RX3 yX3_knows yX3_knows, Cond.code yX3_knows cX3_knows 2 none, Cond.fieldLink RX3 35 "ThreadlineModel" "known" "[Z", Cond.fieldLink RX3 13 "ThreadlineModel" "tells" "[I", Cond.fieldLink RX3 17 "ThreadlineModel" "beyond" "[I", Cond.methodLink RX3 72 yX3_links, Cond.instanceMethod yX3_links, Cond.selects RX3 yX3_links yX3_links, Cond.code yX3_links cX3_links 3 none, Cond.methodLink RX3 61 yX3_toldParent, Cond.instanceMethod yX3_toldParent, Cond.selects RX3 yX3_toldParent yX3_toldParent, Cond.code yX3_toldParent cX3_toldParent 3 (some .int), Cond.methodLink RX3 65 yX3_isBelow, Cond.instanceMethod yX3_isBelow, Cond.selects RX3 yX3_isBelow yX3_isBelow, Cond.code yX3_isBelow cX3_isBelow 4 (some .boolean), Cond.methodLink RX3 75 yX3_isAlone, Cond.instanceMethod yX3_isAlone, Cond.selects RX3 yX3_isAlone yX3_isAlone, Cond.code yX3_isAlone cX3_isAlone 2 (some .boolean), Cond.methodLink RX3 95 yX3_asked_]
def wsX3_letters_r3 : List Cond := [Cond.instanceMethod yX3_asked_, Cond.selects RX3 yX3_asked_ yX3_asked_, Cond.code yX3_asked_ cX3_asked_ 3 (some .boolean), Cond.fieldLink RX3 53 "ThreadlineModel" "thrown" "I", Cond.methodLink RX3 105 yX3_trees, Cond.instanceMethod yX3_trees, Cond.selects RX3 yX3_trees yX3_trees, Cond.code yX3_trees cX3_trees 9 none, Cond.fieldLink RX3 50 "ThreadlineModel" "stack" "[I", Cond.methodLink RX3 82 yX3_isAhead, Cond.instanceMethod yX3_isAhead, Cond.selects RX3 yX3_isAhead yX3_isAhead, Cond.code yX3_isAhead cX3_isAhead 3 (some .boolean)]
def wsX3_letters : List Cond := .code yX3_letters cX3_letters 5 (some .int) :: ((wsX3_letters_r1 ++ (wsX3_letters_r2 ++ wsX3_letters_r3)) ++ wsX30)
def wsX3_unread_r1 : List Cond := [Cond.fieldLink RX3 79 "ThreadlineModel" "many" "I", Cond.fieldLink RX3 7 "ThreadlineModel" "there" "[Z", Cond.fieldLink RX3 47 "ThreadlineModel" "order" "[I", Cond.fieldLink RX3 29 "ThreadlineModel" "unread" "[Z", Cond.methodLink RX3 109 yX3_looks, Cond.instanceMethod yX3_looks, Cond.selects RX3 yX3_looks yX3_looks, Cond.initialized RX3, Cond.code yX3_looks cX3_looks 4 (some .boolean), Cond.fieldLink RX3 44 "ThreadlineModel" "grows" "[Z", Cond.methodLink RX3 92 yX3_isId, Cond.static yX3_isId, Cond.code yX3_isId cX3_isId 1 (some .boolean), Cond.methodLink RX3 57 yX3_in, Cond.static yX3_in, Cond.code yX3_in cX3_in 3 (some .boolean), Cond.methodLink RX3 85 yX3_forest, Cond.instanceMethod yX3_forest, Cond.selects RX3 yX3_forest yX3_forest, Cond.code yX3_forest cX3_forest 5 none, Cond.fieldLink RX3 41 "ThreadlineModel" "above" "[I", Cond.fieldLink RX3 38 "ThreadlineModel" "link" "[I", Cond.fieldLink RX3 20 "ThreadlineModel" "subject" "[I", Cond.fieldLink RX3 32 "ThreadlineModel" "hand" "[I"]
def wsX3_unread_r2 : List Cond := [Cond.fieldLink RX3 23 "ThreadlineModel" "day" "[I", Cond.methodLink RX3 69 yX3_knows, Cond.instanceMethod yX3_knows, Cond.selects RX3 yX3_knows yX3_knows, Cond.code yX3_knows cX3_knows 2 none, Cond.fieldLink RX3 35 "ThreadlineModel" "known" "[Z", Cond.fieldLink RX3 13 "ThreadlineModel" "tells" "[I", Cond.fieldLink RX3 17 "ThreadlineModel" "beyond" "[I", Cond.methodLink RX3 72 yX3_links, Cond.instanceMethod yX3_links, Cond.selects RX3 yX3_links yX3_links, Cond.code yX3_links cX3_links 3 none, Cond.methodLink RX3 61 yX3_toldParent, Cond.instanceMethod yX3_toldParent, Cond.selects RX3 yX3_toldParent yX3_toldParent, Cond.code yX3_toldParent cX3_toldParent 3 (some .int), Cond.methodLink RX3 65 yX3_isBelow, Cond.instanceMethod yX3_isBelow, Cond.selects RX3 yX3_isBelow yX3_isBelow, Cond.code yX3_isBelow cX3_isBelow 4 (some .boolean), Cond.methodLink RX3 75 yX3_isAlone, Cond.instanceMethod yX3_isAlone, Cond.selects RX3 yX3_isAlone yX3_isAlone, Cond.code yX3_isAlone cX3_isAlone 2 (some .boolean)]
def wsX3_unread_r3 : List Cond := [Cond.methodLink RX3 95 yX3_asked_, Cond.instanceMethod yX3_asked_, Cond.selects RX3 yX3_asked_ yX3_asked_, Cond.code yX3_asked_ cX3_asked_ 3 (some .boolean), Cond.fieldLink RX3 53 "ThreadlineModel" "thrown" "I", Cond.methodLink RX3 105 yX3_trees, Cond.instanceMethod yX3_trees, Cond.selects RX3 yX3_trees yX3_trees, Cond.code yX3_trees cX3_trees 9 none, Cond.fieldLink RX3 50 "ThreadlineModel" "stack" "[I", Cond.methodLink RX3 82 yX3_isAhead, Cond.instanceMethod yX3_isAhead, Cond.selects RX3 yX3_isAhead yX3_isAhead, Cond.code yX3_isAhead cX3_isAhead 3 (some .boolean)]
def wsX3_unread : List Cond := .code yX3_unread cX3_unread 5 (some .int) :: ((wsX3_unread_r1 ++ (wsX3_unread_r2 ++ wsX3_unread_r3)) ++ wsX30)
def wsX3_people_r1 : List Cond := [Cond.fieldLink RX3 79 "ThreadlineModel" "many" "I", Cond.fieldLink RX3 7 "ThreadlineModel" "there" "[Z", Cond.fieldLink RX3 47 "ThreadlineModel" "order" "[I", Cond.fieldLink RX3 26 "ThreadlineModel" "person" "[I", Cond.methodLink RX3 109 yX3_looks, Cond.instanceMethod yX3_looks, Cond.selects RX3 yX3_looks yX3_looks, Cond.initialized RX3, Cond.code yX3_looks cX3_looks 4 (some .boolean), Cond.fieldLink RX3 44 "ThreadlineModel" "grows" "[Z", Cond.methodLink RX3 92 yX3_isId, Cond.static yX3_isId, Cond.code yX3_isId cX3_isId 1 (some .boolean), Cond.methodLink RX3 57 yX3_in, Cond.static yX3_in, Cond.code yX3_in cX3_in 3 (some .boolean), Cond.methodLink RX3 85 yX3_forest, Cond.instanceMethod yX3_forest, Cond.selects RX3 yX3_forest yX3_forest, Cond.code yX3_forest cX3_forest 5 none, Cond.fieldLink RX3 41 "ThreadlineModel" "above" "[I", Cond.fieldLink RX3 38 "ThreadlineModel" "link" "[I", Cond.fieldLink RX3 20 "ThreadlineModel" "subject" "[I", Cond.fieldLink RX3 32 "ThreadlineModel" "hand" "[I"]
def wsX3_people_r2 : List Cond := [Cond.fieldLink RX3 23 "ThreadlineModel" "day" "[I", Cond.methodLink RX3 69 yX3_knows, Cond.instanceMethod yX3_knows, Cond.selects RX3 yX3_knows yX3_knows, Cond.code yX3_knows cX3_knows 2 none, Cond.fieldLink RX3 35 "ThreadlineModel" "known" "[Z", Cond.fieldLink RX3 13 "ThreadlineModel" "tells" "[I", Cond.fieldLink RX3 17 "ThreadlineModel" "beyond" "[I", Cond.methodLink RX3 72 yX3_links, Cond.instanceMethod yX3_links, Cond.selects RX3 yX3_links yX3_links, Cond.code yX3_links cX3_links 3 none, Cond.methodLink RX3 61 yX3_toldParent, Cond.instanceMethod yX3_toldParent, Cond.selects RX3 yX3_toldParent yX3_toldParent, Cond.code yX3_toldParent cX3_toldParent 3 (some .int), Cond.methodLink RX3 65 yX3_isBelow, Cond.instanceMethod yX3_isBelow, Cond.selects RX3 yX3_isBelow yX3_isBelow, Cond.code yX3_isBelow cX3_isBelow 4 (some .boolean), Cond.methodLink RX3 75 yX3_isAlone, Cond.instanceMethod yX3_isAlone, Cond.selects RX3 yX3_isAlone yX3_isAlone, Cond.code yX3_isAlone cX3_isAlone 2 (some .boolean)]
def wsX3_people_r3 : List Cond := [Cond.methodLink RX3 95 yX3_asked_, Cond.instanceMethod yX3_asked_, Cond.selects RX3 yX3_asked_ yX3_asked_, Cond.code yX3_asked_ cX3_asked_ 3 (some .boolean), Cond.fieldLink RX3 53 "ThreadlineModel" "thrown" "I", Cond.methodLink RX3 105 yX3_trees, Cond.instanceMethod yX3_trees, Cond.selects RX3 yX3_trees yX3_trees, Cond.code yX3_trees cX3_trees 9 none, Cond.fieldLink RX3 50 "ThreadlineModel" "stack" "[I", Cond.methodLink RX3 82 yX3_isAhead, Cond.instanceMethod yX3_isAhead, Cond.selects RX3 yX3_isAhead yX3_isAhead, Cond.code yX3_isAhead cX3_isAhead 3 (some .boolean)]
def wsX3_people : List Cond := .code yX3_people cX3_people 5 (some .int) :: ((wsX3_people_r1 ++ (wsX3_people_r2 ++ wsX3_people_r3)) ++ wsX30)
def wsX3_latest_r1 : List Cond := [Cond.fieldLink RX3 79 "ThreadlineModel" "many" "I", Cond.fieldLink RX3 7 "ThreadlineModel" "there" "[Z", Cond.fieldLink RX3 47 "ThreadlineModel" "order" "[I", Cond.fieldLink RX3 23 "ThreadlineModel" "day" "[I", Cond.methodLink RX3 109 yX3_looks, Cond.instanceMethod yX3_looks, Cond.selects RX3 yX3_looks yX3_looks, Cond.initialized RX3, Cond.code yX3_looks cX3_looks 4 (some .boolean), Cond.fieldLink RX3 44 "ThreadlineModel" "grows" "[Z", Cond.methodLink RX3 92 yX3_isId, Cond.static yX3_isId, Cond.code yX3_isId cX3_isId 1 (some .boolean), Cond.methodLink RX3 57 yX3_in, Cond.static yX3_in, Cond.code yX3_in cX3_in 3 (some .boolean), Cond.methodLink RX3 85 yX3_forest, Cond.instanceMethod yX3_forest, Cond.selects RX3 yX3_forest yX3_forest, Cond.code yX3_forest cX3_forest 5 none, Cond.fieldLink RX3 41 "ThreadlineModel" "above" "[I", Cond.fieldLink RX3 38 "ThreadlineModel" "link" "[I", Cond.fieldLink RX3 20 "ThreadlineModel" "subject" "[I", Cond.fieldLink RX3 32 "ThreadlineModel" "hand" "[I"]
def wsX3_latest_r2 : List Cond := [Cond.methodLink RX3 69 yX3_knows, Cond.instanceMethod yX3_knows, Cond.selects RX3 yX3_knows yX3_knows, Cond.code yX3_knows cX3_knows 2 none, Cond.fieldLink RX3 35 "ThreadlineModel" "known" "[Z", Cond.fieldLink RX3 13 "ThreadlineModel" "tells" "[I", Cond.fieldLink RX3 17 "ThreadlineModel" "beyond" "[I", Cond.methodLink RX3 72 yX3_links, Cond.instanceMethod yX3_links, Cond.selects RX3 yX3_links yX3_links, Cond.code yX3_links cX3_links 3 none, Cond.methodLink RX3 61 yX3_toldParent, Cond.instanceMethod yX3_toldParent, Cond.selects RX3 yX3_toldParent yX3_toldParent, Cond.code yX3_toldParent cX3_toldParent 3 (some .int), Cond.methodLink RX3 65 yX3_isBelow, Cond.instanceMethod yX3_isBelow, Cond.selects RX3 yX3_isBelow yX3_isBelow, Cond.code yX3_isBelow cX3_isBelow 4 (some .boolean), Cond.methodLink RX3 75 yX3_isAlone, Cond.instanceMethod yX3_isAlone, Cond.selects RX3 yX3_isAlone yX3_isAlone, Cond.code yX3_isAlone cX3_isAlone 2 (some .boolean), Cond.methodLink RX3 95 yX3_asked_]
def wsX3_latest_r3 : List Cond := [Cond.instanceMethod yX3_asked_, Cond.selects RX3 yX3_asked_ yX3_asked_, Cond.code yX3_asked_ cX3_asked_ 3 (some .boolean), Cond.fieldLink RX3 53 "ThreadlineModel" "thrown" "I", Cond.methodLink RX3 105 yX3_trees, Cond.instanceMethod yX3_trees, Cond.selects RX3 yX3_trees yX3_trees, Cond.code yX3_trees cX3_trees 9 none, Cond.fieldLink RX3 50 "ThreadlineModel" "stack" "[I", Cond.methodLink RX3 82 yX3_isAhead, Cond.instanceMethod yX3_isAhead, Cond.selects RX3 yX3_isAhead yX3_isAhead, Cond.code yX3_isAhead cX3_isAhead 3 (some .boolean)]
def wsX3_latest : List Cond := .code yX3_latest cX3_latest 5 (some .int) :: ((wsX3_latest_r1 ++ (wsX3_latest_r2 ++ wsX3_latest_r3)) ++ wsX30)
def wsJ9_max_7cf53 : List Cond := .code yJ9_max_7cf53 cJ9_max_7cf53 2 (some .int) :: ([])
def wsJ9_min_7cf53 : List Cond := .code yJ9_min_7cf53 cJ9_min_7cf53 2 (some .int) :: ([])
def wsL_letter_r1 : List Cond := [Cond.classLink RL 13 "java/lang/IllegalArgumentException", Cond.classLink RL 15 "java/lang/IllegalStateException", Cond.methodLink RL 7 yX2_letter, Cond.instanceMethod yX2_letter, Cond.selects RX2 yX2_letter yX2_letter, Cond.initialized RX2, Cond.code yX2_letter cX2_letter 7 (some .int), Cond.classLink RX2 40 "java/lang/IllegalStateException", Cond.initialized "java/lang/IllegalStateException", Cond.fieldLink RX2 10 "Threadline" "mail" "LThreadline$Mail;", Cond.fieldLink RX2 21 "Threadline" "forest" "LThreadline$Forest;", Cond.methodLink RX2 25 yX2_requireId, Cond.static yX2_requireId, Cond.code yX2_requireId cX2_requireId 1 none, Cond.classLink RX2 71 "java/lang/IllegalArgumentException", Cond.initialized "java/lang/IllegalArgumentException", Cond.methodLink RX2 131 yX2_isId, Cond.static yX2_isId, Cond.code yX2_isId cX2_isId 1 (some .boolean), Cond.methodLink RX2 29 yX2_requireTold, Cond.static yX2_requireTold, Cond.code yX2_requireTold cX2_requireTold 2 none, Cond.methodLink RX2 33 yX2_requireBelow, Cond.static yX2_requireBelow]
def wsL_letter_r2 : List Cond := [Cond.code yX2_requireBelow cX2_requireBelow 2 none, Cond.instanceMethod yX1_holds, Cond.initialized RX1, Cond.selects RX1 yX1_holds yX1_holds, Cond.code yX1_holds cX1_holds 2 (some .boolean), Cond.fieldLink RX1 9 "Threadline$Mail" "there" "[Z", Cond.instanceMethod yX1_put, Cond.selects RX1 yX1_put yX1_put, Cond.code yX1_put cX1_put 7 none, Cond.fieldLink RX1 15 "Threadline$Mail" "toldGrandparent" "[I", Cond.fieldLink RX1 19 "Threadline$Mail" "toldParent" "[I", Cond.fieldLink RX1 25 "Threadline$Mail" "reply" "[Z", Cond.fieldLink RX1 22 "Threadline$Mail" "subject" "[I", Cond.fieldLink RX1 28 "Threadline$Mail" "day" "[I", Cond.fieldLink RX1 31 "Threadline$Mail" "person" "[I", Cond.fieldLink RX1 34 "Threadline$Mail" "unseen" "[Z", Cond.fieldLink RX1 37 "Threadline$Mail" "hand" "[I", Cond.instanceMethod yX0_grow, Cond.initialized RX0, Cond.selects RX0 yX0_grow yX0_grow, Cond.code yX0_grow cX0_grow 1 none, Cond.methodLink RX0 65 yX0_findKnown, Cond.instanceMethod yX0_findKnown, Cond.selects RX0 yX0_findKnown yX0_findKnown]
def wsL_letter_r3 : List Cond := [Cond.code yX0_findKnown cX0_findKnown 2 none, Cond.fieldLink RX0 9 "Threadline$Forest" "known" "[Z", Cond.fieldLink RX0 46 "Threadline$Forest" "mail" "LThreadline$Mail;", Cond.instanceMethod yX1_parentToldBy, Cond.selects RX1 yX1_parentToldBy yX1_parentToldBy, Cond.code yX1_parentToldBy cX1_parentToldBy 2 (some .int), Cond.methodLink RX1 44 yX1_holds, Cond.methodLink RX0 97 yX0_learn, Cond.instanceMethod yX0_learn, Cond.selects RX0 yX0_learn yX0_learn, Cond.code yX0_learn cX0_learn 2 none, Cond.instanceMethod yX1_grandparentToldBy, Cond.selects RX1 yX1_grandparentToldBy yX1_grandparentToldBy, Cond.code yX1_grandparentToldBy cX1_grandparentToldBy 2 (some .int), Cond.instanceMethod yX1_handOf, Cond.selects RX1 yX1_handOf yX1_handOf, Cond.code yX1_handOf cX1_handOf 2 (some .int), Cond.methodLink RX0 68 yX0_linkKnown, Cond.instanceMethod yX0_linkKnown, Cond.selects RX0 yX0_linkKnown yX0_linkKnown, Cond.code yX0_linkKnown cX0_linkKnown 3 none, Cond.fieldLink RX0 15 "Threadline$Forest" "link" "[I", Cond.instanceMethod yX1_toldParentOf, Cond.selects RX1 yX1_toldParentOf yX1_toldParentOf]
def wsL_letter_r4 : List Cond := [Cond.code yX1_toldParentOf cX1_toldParentOf 3 (some .int), Cond.methodLink RX1 50 yX1_guessedParentOf, Cond.instanceMethod yX1_guessedParentOf, Cond.selects RX1 yX1_guessedParentOf yX1_guessedParentOf, Cond.code yX1_guessedParentOf cX1_guessedParentOf 3 (some .int), Cond.methodLink RX1 57 yX1_parentToldBy, Cond.methodLink RX1 60 yX1_grandparentToldBy, Cond.methodLink RX1 54 yX1_handOf, Cond.methodLink RX0 110 yX0_linksLead, Cond.instanceMethod yX0_linksLead, Cond.selects RX0 yX0_linksLead yX0_linksLead, Cond.code yX0_linksLead cX0_linksLead 5 (some .boolean), Cond.methodLink RX0 71 yX0_hangByLinks, Cond.instanceMethod yX0_hangByLinks, Cond.selects RX0 yX0_hangByLinks yX0_hangByLinks, Cond.code yX0_hangByLinks cX0_hangByLinks 2 none, Cond.fieldLink RX0 19 "Threadline$Forest" "parentOf" "[I", Cond.methodLink RX0 114 yX0_parentByLinks, Cond.instanceMethod yX0_parentByLinks, Cond.selects RX0 yX0_parentByLinks yX0_parentByLinks, Cond.code yX0_parentByLinks cX0_parentByLinks 4 (some .int), Cond.methodLink RX0 74 yX0_keepMissing, Cond.instanceMethod yX0_keepMissing, Cond.selects RX0 yX0_keepMissing yX0_keepMissing]
def wsL_letter_r5 : List Cond := [Cond.code yX0_keepMissing cX0_keepMissing 2 none, Cond.fieldLink RX0 22 "Threadline$Forest" "standing" "[Z", Cond.methodLink RX0 117 yX0_countChildren, Cond.instanceMethod yX0_countChildren, Cond.selects RX0 yX0_countChildren yX0_countChildren, Cond.code yX0_countChildren cX0_countChildren 4 (some .int), Cond.methodLink RX0 120 yX0_freeChildren, Cond.instanceMethod yX0_freeChildren, Cond.selects RX0 yX0_freeChildren yX0_freeChildren, Cond.code yX0_freeChildren cX0_freeChildren 3 none, Cond.methodLink RX0 77 yX0_hangReplies, Cond.instanceMethod yX0_hangReplies, Cond.selects RX0 yX0_hangReplies yX0_hangReplies, Cond.code yX0_hangReplies cX0_hangReplies 2 none, Cond.instanceMethod yX1_isReply, Cond.selects RX1 yX1_isReply yX1_isReply, Cond.code yX1_isReply cX1_isReply 2 (some .boolean), Cond.methodLink RX0 126 yX0_letterAnsweredBy, Cond.instanceMethod yX0_letterAnsweredBy, Cond.selects RX0 yX0_letterAnsweredBy yX0_letterAnsweredBy, Cond.code yX0_letterAnsweredBy cX0_letterAnsweredBy 5 (some .int), Cond.instanceMethod yX1_isAnsweredBy, Cond.selects RX1 yX1_isAnsweredBy yX1_isAnsweredBy, Cond.code yX1_isAnsweredBy cX1_isAnsweredBy 4 (some .boolean)]
def wsL_letter_r6 : List Cond := [Cond.instanceMethod yX1_dayOf, Cond.selects RX1 yX1_dayOf yX1_dayOf, Cond.code yX1_dayOf cX1_dayOf 2 (some .int), Cond.methodLink RX0 80 yX0_measureTrees, Cond.instanceMethod yX0_measureTrees, Cond.selects RX0 yX0_measureTrees yX0_measureTrees, Cond.code yX0_measureTrees cX0_measureTrees 2 none, Cond.fieldLink RX0 31 "Threadline$Forest" "size" "[I", Cond.fieldLink RX0 25 "Threadline$Forest" "earliest" "[I", Cond.fieldLink RX0 28 "Threadline$Forest" "turn" "[I", Cond.methodLink RX0 135 yX0_countUpwards, Cond.instanceMethod yX0_countUpwards, Cond.selects RX0 yX0_countUpwards yX0_countUpwards, Cond.code yX0_countUpwards cX0_countUpwards 5 none, Cond.methodLink RX0 138 Lib.Math.min.name, Cond.static Lib.Math.min.name, Cond.initialized "java/lang/Math", Cond.code Lib.Math.min.name Lib.Math.min.code 2 (some .int), Cond.methodLink RX0 83 yX0_placeRoots, Cond.instanceMethod yX0_placeRoots, Cond.selects RX0 yX0_placeRoots yX0_placeRoots, Cond.code yX0_placeRoots cX0_placeRoots 2 none, Cond.fieldLink RX0 57 "Threadline$Forest" "rootCount" "I", Cond.methodLink RX0 144 yX0_placeRoot]
def wsL_letter_r7 : List Cond := [Cond.instanceMethod yX0_placeRoot, Cond.selects RX0 yX0_placeRoot yX0_placeRoot, Cond.code yX0_placeRoot cX0_placeRoot 4 none, Cond.fieldLink RX0 43 "Threadline$Forest" "rootRow" "[I", Cond.methodLink RX0 147 yX0_comesBefore, Cond.instanceMethod yX0_comesBefore, Cond.selects RX0 yX0_comesBefore yX0_comesBefore, Cond.code yX0_comesBefore cX0_comesBefore 3 (some .boolean), Cond.methodLink RX0 54 yX0_contains, Cond.instanceMethod yX0_contains, Cond.selects RX0 yX0_contains yX0_contains, Cond.code yX0_contains cX0_contains 2 (some .boolean), Cond.methodLink RX0 86 yX0_placeTrees, Cond.instanceMethod yX0_placeTrees, Cond.selects RX0 yX0_placeTrees yX0_placeTrees, Cond.code yX0_placeTrees cX0_placeTrees 2 none, Cond.fieldLink RX0 34 "Threadline$Forest" "offset" "[I", Cond.fieldLink RX0 37 "Threadline$Forest" "start" "[I", Cond.fieldLink RX0 40 "Threadline$Forest" "order" "[I", Cond.methodLink RX0 150 yX0_offsetBehindParent, Cond.instanceMethod yX0_offsetBehindParent, Cond.selects RX0 yX0_offsetBehindParent yX0_offsetBehindParent, Cond.code yX0_offsetBehindParent cX0_offsetBehindParent 4 (some .int), Cond.methodLink RX0 61 yX0_parentIn]
def wsL_letter_r8 : List Cond := [Cond.instanceMethod yX0_parentIn, Cond.selects RX0 yX0_parentIn yX0_parentIn, Cond.code yX0_parentIn cX0_parentIn 2 (some .int), Cond.methodLink RX0 153 yX0_startInOrder, Cond.instanceMethod yX0_startInOrder, Cond.selects RX0 yX0_startInOrder yX0_startInOrder, Cond.code yX0_startInOrder cX0_startInOrder 5 (some .int), Cond.instanceMethod yX0_countRoots, Cond.selects RX0 yX0_countRoots yX0_countRoots, Cond.code yX0_countRoots cX0_countRoots 1 (some .int)]
def wsL_letter : List Cond := .codeWith yL_letter cL_letter 9 (some .int) [(0, 18, 21, 13), (0, 18, 25, 15)] :: ((wsL_letter_r1 ++ (wsL_letter_r2 ++ (wsL_letter_r3 ++ (wsL_letter_r4 ++ (wsL_letter_r5 ++ (wsL_letter_r6 ++ (wsL_letter_r7 ++ wsL_letter_r8))))))) ++ wsX20 ++ wsX10 ++ wsX00 ++ (vx_atS RX2 44 "java/lang/IllegalStateException" ["java/lang/RuntimeException", "java/lang/Exception"]).filter goodWord ++ (vx_atS RX2 75 "java/lang/IllegalArgumentException" ["java/lang/RuntimeException", "java/lang/Exception"]).filter goodWord)
def wsL_delete_r1 : List Cond := [Cond.classLink RL 13 "java/lang/IllegalArgumentException", Cond.classLink RL 15 "java/lang/IllegalStateException", Cond.methodLink RL 17 yX2_delete, Cond.instanceMethod yX2_delete, Cond.selects RX2 yX2_delete yX2_delete, Cond.initialized RX2, Cond.code yX2_delete cX2_delete 2 (some .int), Cond.fieldLink RX2 10 "Threadline" "mail" "LThreadline$Mail;", Cond.fieldLink RX2 21 "Threadline" "forest" "LThreadline$Forest;", Cond.methodLink RX2 58 yX2_requireLetter, Cond.instanceMethod yX2_requireLetter, Cond.selects RX2 yX2_requireLetter yX2_requireLetter, Cond.code yX2_requireLetter cX2_requireLetter 2 none, Cond.classLink RX2 40 "java/lang/IllegalStateException", Cond.initialized "java/lang/IllegalStateException", Cond.methodLink RX2 25 yX2_requireId, Cond.static yX2_requireId, Cond.code yX2_requireId cX2_requireId 1 none, Cond.classLink RX2 71 "java/lang/IllegalArgumentException", Cond.initialized "java/lang/IllegalArgumentException", Cond.methodLink RX2 131 yX2_isId, Cond.static yX2_isId, Cond.code yX2_isId cX2_isId 1 (some .boolean), Cond.instanceMethod yX1_holds]
def wsL_delete_r2 : List Cond := [Cond.initialized RX1, Cond.selects RX1 yX1_holds yX1_holds, Cond.code yX1_holds cX1_holds 2 (some .boolean), Cond.fieldLink RX1 9 "Threadline$Mail" "there" "[Z", Cond.instanceMethod yX1_drop, Cond.selects RX1 yX1_drop yX1_drop, Cond.code yX1_drop cX1_drop 2 none, Cond.instanceMethod yX0_grow, Cond.initialized RX0, Cond.selects RX0 yX0_grow yX0_grow, Cond.code yX0_grow cX0_grow 1 none, Cond.methodLink RX0 65 yX0_findKnown, Cond.instanceMethod yX0_findKnown, Cond.selects RX0 yX0_findKnown yX0_findKnown, Cond.code yX0_findKnown cX0_findKnown 2 none, Cond.fieldLink RX0 9 "Threadline$Forest" "known" "[Z", Cond.fieldLink RX0 46 "Threadline$Forest" "mail" "LThreadline$Mail;", Cond.instanceMethod yX1_parentToldBy, Cond.selects RX1 yX1_parentToldBy yX1_parentToldBy, Cond.code yX1_parentToldBy cX1_parentToldBy 2 (some .int), Cond.fieldLink RX1 19 "Threadline$Mail" "toldParent" "[I", Cond.methodLink RX1 44 yX1_holds, Cond.methodLink RX0 97 yX0_learn, Cond.instanceMethod yX0_learn]
def wsL_delete_r3 : List Cond := [Cond.selects RX0 yX0_learn yX0_learn, Cond.code yX0_learn cX0_learn 2 none, Cond.instanceMethod yX1_grandparentToldBy, Cond.selects RX1 yX1_grandparentToldBy yX1_grandparentToldBy, Cond.code yX1_grandparentToldBy cX1_grandparentToldBy 2 (some .int), Cond.fieldLink RX1 15 "Threadline$Mail" "toldGrandparent" "[I", Cond.instanceMethod yX1_handOf, Cond.selects RX1 yX1_handOf yX1_handOf, Cond.code yX1_handOf cX1_handOf 2 (some .int), Cond.fieldLink RX1 37 "Threadline$Mail" "hand" "[I", Cond.methodLink RX0 68 yX0_linkKnown, Cond.instanceMethod yX0_linkKnown, Cond.selects RX0 yX0_linkKnown yX0_linkKnown, Cond.code yX0_linkKnown cX0_linkKnown 3 none, Cond.fieldLink RX0 15 "Threadline$Forest" "link" "[I", Cond.instanceMethod yX1_toldParentOf, Cond.selects RX1 yX1_toldParentOf yX1_toldParentOf, Cond.code yX1_toldParentOf cX1_toldParentOf 3 (some .int), Cond.methodLink RX1 50 yX1_guessedParentOf, Cond.instanceMethod yX1_guessedParentOf, Cond.selects RX1 yX1_guessedParentOf yX1_guessedParentOf, Cond.code yX1_guessedParentOf cX1_guessedParentOf 3 (some .int), Cond.methodLink RX1 57 yX1_parentToldBy, Cond.methodLink RX1 60 yX1_grandparentToldBy]
def wsL_delete_r4 : List Cond := [Cond.methodLink RX1 54 yX1_handOf, Cond.methodLink RX0 110 yX0_linksLead, Cond.instanceMethod yX0_linksLead, Cond.selects RX0 yX0_linksLead yX0_linksLead, Cond.code yX0_linksLead cX0_linksLead 5 (some .boolean), Cond.methodLink RX0 71 yX0_hangByLinks, Cond.instanceMethod yX0_hangByLinks, Cond.selects RX0 yX0_hangByLinks yX0_hangByLinks, Cond.code yX0_hangByLinks cX0_hangByLinks 2 none, Cond.fieldLink RX0 19 "Threadline$Forest" "parentOf" "[I", Cond.methodLink RX0 114 yX0_parentByLinks, Cond.instanceMethod yX0_parentByLinks, Cond.selects RX0 yX0_parentByLinks yX0_parentByLinks, Cond.code yX0_parentByLinks cX0_parentByLinks 4 (some .int), Cond.methodLink RX0 74 yX0_keepMissing, Cond.instanceMethod yX0_keepMissing, Cond.selects RX0 yX0_keepMissing yX0_keepMissing, Cond.code yX0_keepMissing cX0_keepMissing 2 none, Cond.fieldLink RX0 22 "Threadline$Forest" "standing" "[Z", Cond.methodLink RX0 117 yX0_countChildren, Cond.instanceMethod yX0_countChildren, Cond.selects RX0 yX0_countChildren yX0_countChildren, Cond.code yX0_countChildren cX0_countChildren 4 (some .int), Cond.methodLink RX0 120 yX0_freeChildren]
def wsL_delete_r5 : List Cond := [Cond.instanceMethod yX0_freeChildren, Cond.selects RX0 yX0_freeChildren yX0_freeChildren, Cond.code yX0_freeChildren cX0_freeChildren 3 none, Cond.methodLink RX0 77 yX0_hangReplies, Cond.instanceMethod yX0_hangReplies, Cond.selects RX0 yX0_hangReplies yX0_hangReplies, Cond.code yX0_hangReplies cX0_hangReplies 2 none, Cond.instanceMethod yX1_isReply, Cond.selects RX1 yX1_isReply yX1_isReply, Cond.code yX1_isReply cX1_isReply 2 (some .boolean), Cond.fieldLink RX1 25 "Threadline$Mail" "reply" "[Z", Cond.methodLink RX0 126 yX0_letterAnsweredBy, Cond.instanceMethod yX0_letterAnsweredBy, Cond.selects RX0 yX0_letterAnsweredBy yX0_letterAnsweredBy, Cond.code yX0_letterAnsweredBy cX0_letterAnsweredBy 5 (some .int), Cond.instanceMethod yX1_isAnsweredBy, Cond.selects RX1 yX1_isAnsweredBy yX1_isAnsweredBy, Cond.code yX1_isAnsweredBy cX1_isAnsweredBy 4 (some .boolean), Cond.fieldLink RX1 28 "Threadline$Mail" "day" "[I", Cond.fieldLink RX1 22 "Threadline$Mail" "subject" "[I", Cond.instanceMethod yX1_dayOf, Cond.selects RX1 yX1_dayOf yX1_dayOf, Cond.code yX1_dayOf cX1_dayOf 2 (some .int), Cond.methodLink RX0 80 yX0_measureTrees]
def wsL_delete_r6 : List Cond := [Cond.instanceMethod yX0_measureTrees, Cond.selects RX0 yX0_measureTrees yX0_measureTrees, Cond.code yX0_measureTrees cX0_measureTrees 2 none, Cond.fieldLink RX0 31 "Threadline$Forest" "size" "[I", Cond.fieldLink RX0 25 "Threadline$Forest" "earliest" "[I", Cond.fieldLink RX0 28 "Threadline$Forest" "turn" "[I", Cond.methodLink RX0 135 yX0_countUpwards, Cond.instanceMethod yX0_countUpwards, Cond.selects RX0 yX0_countUpwards yX0_countUpwards, Cond.code yX0_countUpwards cX0_countUpwards 5 none, Cond.methodLink RX0 138 Lib.Math.min.name, Cond.static Lib.Math.min.name, Cond.initialized "java/lang/Math", Cond.code Lib.Math.min.name Lib.Math.min.code 2 (some .int), Cond.methodLink RX0 83 yX0_placeRoots, Cond.instanceMethod yX0_placeRoots, Cond.selects RX0 yX0_placeRoots yX0_placeRoots, Cond.code yX0_placeRoots cX0_placeRoots 2 none, Cond.fieldLink RX0 57 "Threadline$Forest" "rootCount" "I", Cond.methodLink RX0 144 yX0_placeRoot, Cond.instanceMethod yX0_placeRoot, Cond.selects RX0 yX0_placeRoot yX0_placeRoot, Cond.code yX0_placeRoot cX0_placeRoot 4 none, Cond.fieldLink RX0 43 "Threadline$Forest" "rootRow" "[I"]
def wsL_delete_r7 : List Cond := [Cond.methodLink RX0 147 yX0_comesBefore, Cond.instanceMethod yX0_comesBefore, Cond.selects RX0 yX0_comesBefore yX0_comesBefore, Cond.code yX0_comesBefore cX0_comesBefore 3 (some .boolean), Cond.methodLink RX0 54 yX0_contains, Cond.instanceMethod yX0_contains, Cond.selects RX0 yX0_contains yX0_contains, Cond.code yX0_contains cX0_contains 2 (some .boolean), Cond.methodLink RX0 86 yX0_placeTrees, Cond.instanceMethod yX0_placeTrees, Cond.selects RX0 yX0_placeTrees yX0_placeTrees, Cond.code yX0_placeTrees cX0_placeTrees 2 none, Cond.fieldLink RX0 34 "Threadline$Forest" "offset" "[I", Cond.fieldLink RX0 37 "Threadline$Forest" "start" "[I", Cond.fieldLink RX0 40 "Threadline$Forest" "order" "[I", Cond.methodLink RX0 150 yX0_offsetBehindParent, Cond.instanceMethod yX0_offsetBehindParent, Cond.selects RX0 yX0_offsetBehindParent yX0_offsetBehindParent, Cond.code yX0_offsetBehindParent cX0_offsetBehindParent 4 (some .int), Cond.methodLink RX0 61 yX0_parentIn, Cond.instanceMethod yX0_parentIn, Cond.selects RX0 yX0_parentIn yX0_parentIn, Cond.code yX0_parentIn cX0_parentIn 2 (some .int), Cond.methodLink RX0 153 yX0_startInOrder]
def wsL_delete_r8 : List Cond := [Cond.instanceMethod yX0_startInOrder, Cond.selects RX0 yX0_startInOrder yX0_startInOrder, Cond.code yX0_startInOrder cX0_startInOrder 5 (some .int), Cond.instanceMethod yX0_countRoots, Cond.selects RX0 yX0_countRoots yX0_countRoots, Cond.code yX0_countRoots cX0_countRoots 1 (some .int)]
def wsL_delete : List Cond := .codeWith yL_delete cL_delete 4 (some .int) [(0, 9, 12, 13), (0, 9, 15, 15)] :: ((wsL_delete_r1 ++ (wsL_delete_r2 ++ (wsL_delete_r3 ++ (wsL_delete_r4 ++ (wsL_delete_r5 ++ (wsL_delete_r6 ++ (wsL_delete_r7 ++ wsL_delete_r8))))))) ++ wsX20 ++ wsX10 ++ wsX00 ++ (vx_atS RX2 44 "java/lang/IllegalStateException" ["java/lang/RuntimeException", "java/lang/Exception"]).filter goodWord ++ (vx_atS RX2 75 "java/lang/IllegalArgumentException" ["java/lang/RuntimeException", "java/lang/Exception"]).filter goodWord)
def wsL_split_r1 : List Cond := [Cond.classLink RL 13 "java/lang/IllegalArgumentException", Cond.classLink RL 15 "java/lang/IllegalStateException", Cond.methodLink RL 21 yX2_split, Cond.instanceMethod yX2_split, Cond.selects RX2 yX2_split yX2_split, Cond.initialized RX2, Cond.code yX2_split cX2_split 3 (some .int), Cond.fieldLink RX2 21 "Threadline" "forest" "LThreadline$Forest;", Cond.fieldLink RX2 10 "Threadline" "mail" "LThreadline$Mail;", Cond.methodLink RX2 58 yX2_requireLetter, Cond.instanceMethod yX2_requireLetter, Cond.selects RX2 yX2_requireLetter yX2_requireLetter, Cond.code yX2_requireLetter cX2_requireLetter 2 none, Cond.classLink RX2 40 "java/lang/IllegalStateException", Cond.initialized "java/lang/IllegalStateException", Cond.methodLink RX2 25 yX2_requireId, Cond.static yX2_requireId, Cond.code yX2_requireId cX2_requireId 1 none, Cond.classLink RX2 71 "java/lang/IllegalArgumentException", Cond.initialized "java/lang/IllegalArgumentException", Cond.methodLink RX2 131 yX2_isId, Cond.static yX2_isId, Cond.code yX2_isId cX2_isId 1 (some .boolean), Cond.instanceMethod yX1_holds]
def wsL_split_r2 : List Cond := [Cond.initialized RX1, Cond.selects RX1 yX1_holds yX1_holds, Cond.code yX1_holds cX1_holds 2 (some .boolean), Cond.fieldLink RX1 9 "Threadline$Mail" "there" "[Z", Cond.instanceMethod yX0_parentIn, Cond.initialized RX0, Cond.selects RX0 yX0_parentIn yX0_parentIn, Cond.code yX0_parentIn cX0_parentIn 2 (some .int), Cond.fieldLink RX0 19 "Threadline$Forest" "parentOf" "[I", Cond.methodLink RX0 54 yX0_contains, Cond.instanceMethod yX0_contains, Cond.selects RX0 yX0_contains yX0_contains, Cond.code yX0_contains cX0_contains 2 (some .boolean), Cond.fieldLink RX0 22 "Threadline$Forest" "standing" "[Z", Cond.instanceMethod yX1_setHand, Cond.selects RX1 yX1_setHand yX1_setHand, Cond.code yX1_setHand cX1_setHand 3 none, Cond.fieldLink RX1 37 "Threadline$Mail" "hand" "[I", Cond.methodLink RX1 44 yX1_holds, Cond.instanceMethod yX0_grow, Cond.selects RX0 yX0_grow yX0_grow, Cond.code yX0_grow cX0_grow 1 none, Cond.methodLink RX0 65 yX0_findKnown, Cond.instanceMethod yX0_findKnown]
def wsL_split_r3 : List Cond := [Cond.selects RX0 yX0_findKnown yX0_findKnown, Cond.code yX0_findKnown cX0_findKnown 2 none, Cond.fieldLink RX0 9 "Threadline$Forest" "known" "[Z", Cond.fieldLink RX0 46 "Threadline$Forest" "mail" "LThreadline$Mail;", Cond.instanceMethod yX1_parentToldBy, Cond.selects RX1 yX1_parentToldBy yX1_parentToldBy, Cond.code yX1_parentToldBy cX1_parentToldBy 2 (some .int), Cond.fieldLink RX1 19 "Threadline$Mail" "toldParent" "[I", Cond.methodLink RX0 97 yX0_learn, Cond.instanceMethod yX0_learn, Cond.selects RX0 yX0_learn yX0_learn, Cond.code yX0_learn cX0_learn 2 none, Cond.instanceMethod yX1_grandparentToldBy, Cond.selects RX1 yX1_grandparentToldBy yX1_grandparentToldBy, Cond.code yX1_grandparentToldBy cX1_grandparentToldBy 2 (some .int), Cond.fieldLink RX1 15 "Threadline$Mail" "toldGrandparent" "[I", Cond.instanceMethod yX1_handOf, Cond.selects RX1 yX1_handOf yX1_handOf, Cond.code yX1_handOf cX1_handOf 2 (some .int), Cond.methodLink RX0 68 yX0_linkKnown, Cond.instanceMethod yX0_linkKnown, Cond.selects RX0 yX0_linkKnown yX0_linkKnown, Cond.code yX0_linkKnown cX0_linkKnown 3 none, Cond.fieldLink RX0 15 "Threadline$Forest" "link" "[I"]
def wsL_split_r4 : List Cond := [Cond.instanceMethod yX1_toldParentOf, Cond.selects RX1 yX1_toldParentOf yX1_toldParentOf, Cond.code yX1_toldParentOf cX1_toldParentOf 3 (some .int), Cond.methodLink RX1 50 yX1_guessedParentOf, Cond.instanceMethod yX1_guessedParentOf, Cond.selects RX1 yX1_guessedParentOf yX1_guessedParentOf, Cond.code yX1_guessedParentOf cX1_guessedParentOf 3 (some .int), Cond.methodLink RX1 57 yX1_parentToldBy, Cond.methodLink RX1 60 yX1_grandparentToldBy, Cond.methodLink RX1 54 yX1_handOf, Cond.methodLink RX0 110 yX0_linksLead, Cond.instanceMethod yX0_linksLead, Cond.selects RX0 yX0_linksLead yX0_linksLead, Cond.code yX0_linksLead cX0_linksLead 5 (some .boolean), Cond.methodLink RX0 71 yX0_hangByLinks, Cond.instanceMethod yX0_hangByLinks, Cond.selects RX0 yX0_hangByLinks yX0_hangByLinks, Cond.code yX0_hangByLinks cX0_hangByLinks 2 none, Cond.methodLink RX0 114 yX0_parentByLinks, Cond.instanceMethod yX0_parentByLinks, Cond.selects RX0 yX0_parentByLinks yX0_parentByLinks, Cond.code yX0_parentByLinks cX0_parentByLinks 4 (some .int), Cond.methodLink RX0 74 yX0_keepMissing, Cond.instanceMethod yX0_keepMissing]
def wsL_split_r5 : List Cond := [Cond.selects RX0 yX0_keepMissing yX0_keepMissing, Cond.code yX0_keepMissing cX0_keepMissing 2 none, Cond.methodLink RX0 117 yX0_countChildren, Cond.instanceMethod yX0_countChildren, Cond.selects RX0 yX0_countChildren yX0_countChildren, Cond.code yX0_countChildren cX0_countChildren 4 (some .int), Cond.methodLink RX0 120 yX0_freeChildren, Cond.instanceMethod yX0_freeChildren, Cond.selects RX0 yX0_freeChildren yX0_freeChildren, Cond.code yX0_freeChildren cX0_freeChildren 3 none, Cond.methodLink RX0 77 yX0_hangReplies, Cond.instanceMethod yX0_hangReplies, Cond.selects RX0 yX0_hangReplies yX0_hangReplies, Cond.code yX0_hangReplies cX0_hangReplies 2 none, Cond.instanceMethod yX1_isReply, Cond.selects RX1 yX1_isReply yX1_isReply, Cond.code yX1_isReply cX1_isReply 2 (some .boolean), Cond.fieldLink RX1 25 "Threadline$Mail" "reply" "[Z", Cond.methodLink RX0 126 yX0_letterAnsweredBy, Cond.instanceMethod yX0_letterAnsweredBy, Cond.selects RX0 yX0_letterAnsweredBy yX0_letterAnsweredBy, Cond.code yX0_letterAnsweredBy cX0_letterAnsweredBy 5 (some .int), Cond.instanceMethod yX1_isAnsweredBy, Cond.selects RX1 yX1_isAnsweredBy yX1_isAnsweredBy]
def wsL_split_r6 : List Cond := [Cond.code yX1_isAnsweredBy cX1_isAnsweredBy 4 (some .boolean), Cond.fieldLink RX1 28 "Threadline$Mail" "day" "[I", Cond.fieldLink RX1 22 "Threadline$Mail" "subject" "[I", Cond.instanceMethod yX1_dayOf, Cond.selects RX1 yX1_dayOf yX1_dayOf, Cond.code yX1_dayOf cX1_dayOf 2 (some .int), Cond.methodLink RX0 80 yX0_measureTrees, Cond.instanceMethod yX0_measureTrees, Cond.selects RX0 yX0_measureTrees yX0_measureTrees, Cond.code yX0_measureTrees cX0_measureTrees 2 none, Cond.fieldLink RX0 31 "Threadline$Forest" "size" "[I", Cond.fieldLink RX0 25 "Threadline$Forest" "earliest" "[I", Cond.fieldLink RX0 28 "Threadline$Forest" "turn" "[I", Cond.methodLink RX0 135 yX0_countUpwards, Cond.instanceMethod yX0_countUpwards, Cond.selects RX0 yX0_countUpwards yX0_countUpwards, Cond.code yX0_countUpwards cX0_countUpwards 5 none, Cond.methodLink RX0 138 Lib.Math.min.name, Cond.static Lib.Math.min.name, Cond.initialized "java/lang/Math", Cond.code Lib.Math.min.name Lib.Math.min.code 2 (some .int), Cond.methodLink RX0 83 yX0_placeRoots, Cond.instanceMethod yX0_placeRoots, Cond.selects RX0 yX0_placeRoots yX0_placeRoots]
def wsL_split_r7 : List Cond := [Cond.code yX0_placeRoots cX0_placeRoots 2 none, Cond.fieldLink RX0 57 "Threadline$Forest" "rootCount" "I", Cond.methodLink RX0 144 yX0_placeRoot, Cond.instanceMethod yX0_placeRoot, Cond.selects RX0 yX0_placeRoot yX0_placeRoot, Cond.code yX0_placeRoot cX0_placeRoot 4 none, Cond.fieldLink RX0 43 "Threadline$Forest" "rootRow" "[I", Cond.methodLink RX0 147 yX0_comesBefore, Cond.instanceMethod yX0_comesBefore, Cond.selects RX0 yX0_comesBefore yX0_comesBefore, Cond.code yX0_comesBefore cX0_comesBefore 3 (some .boolean), Cond.methodLink RX0 86 yX0_placeTrees, Cond.instanceMethod yX0_placeTrees, Cond.selects RX0 yX0_placeTrees yX0_placeTrees, Cond.code yX0_placeTrees cX0_placeTrees 2 none, Cond.fieldLink RX0 34 "Threadline$Forest" "offset" "[I", Cond.fieldLink RX0 37 "Threadline$Forest" "start" "[I", Cond.fieldLink RX0 40 "Threadline$Forest" "order" "[I", Cond.methodLink RX0 150 yX0_offsetBehindParent, Cond.instanceMethod yX0_offsetBehindParent, Cond.selects RX0 yX0_offsetBehindParent yX0_offsetBehindParent, Cond.code yX0_offsetBehindParent cX0_offsetBehindParent 4 (some .int), Cond.methodLink RX0 61 yX0_parentIn, Cond.methodLink RX0 153 yX0_startInOrder]
def wsL_split_r8 : List Cond := [Cond.instanceMethod yX0_startInOrder, Cond.selects RX0 yX0_startInOrder yX0_startInOrder, Cond.code yX0_startInOrder cX0_startInOrder 5 (some .int)]
def wsL_split : List Cond := .codeWith yL_split cL_split 4 (some .int) [(0, 9, 12, 13), (0, 9, 15, 15)] :: ((wsL_split_r1 ++ (wsL_split_r2 ++ (wsL_split_r3 ++ (wsL_split_r4 ++ (wsL_split_r5 ++ (wsL_split_r6 ++ (wsL_split_r7 ++ wsL_split_r8))))))) ++ wsX20 ++ wsX10 ++ wsX00 ++ (vx_atS RX2 44 "java/lang/IllegalStateException" ["java/lang/RuntimeException", "java/lang/Exception"]).filter goodWord ++ (vx_atS RX2 75 "java/lang/IllegalArgumentException" ["java/lang/RuntimeException", "java/lang/Exception"]).filter goodWord)
def wsL_join_r1 : List Cond := [Cond.classLink RL 13 "java/lang/IllegalArgumentException", Cond.classLink RL 15 "java/lang/IllegalStateException", Cond.methodLink RL 24 yX2_join, Cond.instanceMethod yX2_join, Cond.selects RX2 yX2_join yX2_join, Cond.initialized RX2, Cond.code yX2_join cX2_join 3 (some .int), Cond.classLink RX2 71 "java/lang/IllegalArgumentException", Cond.initialized "java/lang/IllegalArgumentException", Cond.classLink RX2 40 "java/lang/IllegalStateException", Cond.initialized "java/lang/IllegalStateException", Cond.fieldLink RX2 21 "Threadline" "forest" "LThreadline$Forest;", Cond.fieldLink RX2 10 "Threadline" "mail" "LThreadline$Mail;", Cond.methodLink RX2 25 yX2_requireId, Cond.static yX2_requireId, Cond.code yX2_requireId cX2_requireId 1 none, Cond.methodLink RX2 131 yX2_isId, Cond.static yX2_isId, Cond.code yX2_isId cX2_isId 1 (some .boolean), Cond.methodLink RX2 58 yX2_requireLetter, Cond.instanceMethod yX2_requireLetter, Cond.selects RX2 yX2_requireLetter yX2_requireLetter, Cond.code yX2_requireLetter cX2_requireLetter 2 none, Cond.instanceMethod yX1_holds]
def wsL_join_r2 : List Cond := [Cond.initialized RX1, Cond.selects RX1 yX1_holds yX1_holds, Cond.code yX1_holds cX1_holds 2 (some .boolean), Cond.fieldLink RX1 9 "Threadline$Mail" "there" "[Z", Cond.instanceMethod yX0_isInTree, Cond.initialized RX0, Cond.selects RX0 yX0_isInTree yX0_isInTree, Cond.code yX0_isInTree cX0_isInTree 5 (some .boolean), Cond.methodLink RX0 61 yX0_parentIn, Cond.instanceMethod yX0_parentIn, Cond.selects RX0 yX0_parentIn yX0_parentIn, Cond.code yX0_parentIn cX0_parentIn 2 (some .int), Cond.fieldLink RX0 19 "Threadline$Forest" "parentOf" "[I", Cond.methodLink RX0 54 yX0_contains, Cond.instanceMethod yX0_contains, Cond.selects RX0 yX0_contains yX0_contains, Cond.code yX0_contains cX0_contains 2 (some .boolean), Cond.fieldLink RX0 22 "Threadline$Forest" "standing" "[Z", Cond.instanceMethod yX1_setHand, Cond.selects RX1 yX1_setHand yX1_setHand, Cond.code yX1_setHand cX1_setHand 3 none, Cond.fieldLink RX1 37 "Threadline$Mail" "hand" "[I", Cond.methodLink RX1 44 yX1_holds, Cond.instanceMethod yX0_grow]
def wsL_join_r3 : List Cond := [Cond.selects RX0 yX0_grow yX0_grow, Cond.code yX0_grow cX0_grow 1 none, Cond.methodLink RX0 65 yX0_findKnown, Cond.instanceMethod yX0_findKnown, Cond.selects RX0 yX0_findKnown yX0_findKnown, Cond.code yX0_findKnown cX0_findKnown 2 none, Cond.fieldLink RX0 9 "Threadline$Forest" "known" "[Z", Cond.fieldLink RX0 46 "Threadline$Forest" "mail" "LThreadline$Mail;", Cond.instanceMethod yX1_parentToldBy, Cond.selects RX1 yX1_parentToldBy yX1_parentToldBy, Cond.code yX1_parentToldBy cX1_parentToldBy 2 (some .int), Cond.fieldLink RX1 19 "Threadline$Mail" "toldParent" "[I", Cond.methodLink RX0 97 yX0_learn, Cond.instanceMethod yX0_learn, Cond.selects RX0 yX0_learn yX0_learn, Cond.code yX0_learn cX0_learn 2 none, Cond.instanceMethod yX1_grandparentToldBy, Cond.selects RX1 yX1_grandparentToldBy yX1_grandparentToldBy, Cond.code yX1_grandparentToldBy cX1_grandparentToldBy 2 (some .int), Cond.fieldLink RX1 15 "Threadline$Mail" "toldGrandparent" "[I", Cond.instanceMethod yX1_handOf, Cond.selects RX1 yX1_handOf yX1_handOf, Cond.code yX1_handOf cX1_handOf 2 (some .int), Cond.methodLink RX0 68 yX0_linkKnown]
def wsL_join_r4 : List Cond := [Cond.instanceMethod yX0_linkKnown, Cond.selects RX0 yX0_linkKnown yX0_linkKnown, Cond.code yX0_linkKnown cX0_linkKnown 3 none, Cond.fieldLink RX0 15 "Threadline$Forest" "link" "[I", Cond.instanceMethod yX1_toldParentOf, Cond.selects RX1 yX1_toldParentOf yX1_toldParentOf, Cond.code yX1_toldParentOf cX1_toldParentOf 3 (some .int), Cond.methodLink RX1 50 yX1_guessedParentOf, Cond.instanceMethod yX1_guessedParentOf, Cond.selects RX1 yX1_guessedParentOf yX1_guessedParentOf, Cond.code yX1_guessedParentOf cX1_guessedParentOf 3 (some .int), Cond.methodLink RX1 57 yX1_parentToldBy, Cond.methodLink RX1 60 yX1_grandparentToldBy, Cond.methodLink RX1 54 yX1_handOf, Cond.methodLink RX0 110 yX0_linksLead, Cond.instanceMethod yX0_linksLead, Cond.selects RX0 yX0_linksLead yX0_linksLead, Cond.code yX0_linksLead cX0_linksLead 5 (some .boolean), Cond.methodLink RX0 71 yX0_hangByLinks, Cond.instanceMethod yX0_hangByLinks, Cond.selects RX0 yX0_hangByLinks yX0_hangByLinks, Cond.code yX0_hangByLinks cX0_hangByLinks 2 none, Cond.methodLink RX0 114 yX0_parentByLinks, Cond.instanceMethod yX0_parentByLinks]
def wsL_join_r5 : List Cond := [Cond.selects RX0 yX0_parentByLinks yX0_parentByLinks, Cond.code yX0_parentByLinks cX0_parentByLinks 4 (some .int), Cond.methodLink RX0 74 yX0_keepMissing, Cond.instanceMethod yX0_keepMissing, Cond.selects RX0 yX0_keepMissing yX0_keepMissing, Cond.code yX0_keepMissing cX0_keepMissing 2 none, Cond.methodLink RX0 117 yX0_countChildren, Cond.instanceMethod yX0_countChildren, Cond.selects RX0 yX0_countChildren yX0_countChildren, Cond.code yX0_countChildren cX0_countChildren 4 (some .int), Cond.methodLink RX0 120 yX0_freeChildren, Cond.instanceMethod yX0_freeChildren, Cond.selects RX0 yX0_freeChildren yX0_freeChildren, Cond.code yX0_freeChildren cX0_freeChildren 3 none, Cond.methodLink RX0 77 yX0_hangReplies, Cond.instanceMethod yX0_hangReplies, Cond.selects RX0 yX0_hangReplies yX0_hangReplies, Cond.code yX0_hangReplies cX0_hangReplies 2 none, Cond.instanceMethod yX1_isReply, Cond.selects RX1 yX1_isReply yX1_isReply, Cond.code yX1_isReply cX1_isReply 2 (some .boolean), Cond.fieldLink RX1 25 "Threadline$Mail" "reply" "[Z", Cond.methodLink RX0 126 yX0_letterAnsweredBy, Cond.instanceMethod yX0_letterAnsweredBy]
def wsL_join_r6 : List Cond := [Cond.selects RX0 yX0_letterAnsweredBy yX0_letterAnsweredBy, Cond.code yX0_letterAnsweredBy cX0_letterAnsweredBy 5 (some .int), Cond.instanceMethod yX1_isAnsweredBy, Cond.selects RX1 yX1_isAnsweredBy yX1_isAnsweredBy, Cond.code yX1_isAnsweredBy cX1_isAnsweredBy 4 (some .boolean), Cond.fieldLink RX1 28 "Threadline$Mail" "day" "[I", Cond.fieldLink RX1 22 "Threadline$Mail" "subject" "[I", Cond.instanceMethod yX1_dayOf, Cond.selects RX1 yX1_dayOf yX1_dayOf, Cond.code yX1_dayOf cX1_dayOf 2 (some .int), Cond.methodLink RX0 80 yX0_measureTrees, Cond.instanceMethod yX0_measureTrees, Cond.selects RX0 yX0_measureTrees yX0_measureTrees, Cond.code yX0_measureTrees cX0_measureTrees 2 none, Cond.fieldLink RX0 31 "Threadline$Forest" "size" "[I", Cond.fieldLink RX0 25 "Threadline$Forest" "earliest" "[I", Cond.fieldLink RX0 28 "Threadline$Forest" "turn" "[I", Cond.methodLink RX0 135 yX0_countUpwards, Cond.instanceMethod yX0_countUpwards, Cond.selects RX0 yX0_countUpwards yX0_countUpwards, Cond.code yX0_countUpwards cX0_countUpwards 5 none, Cond.methodLink RX0 138 Lib.Math.min.name, Cond.static Lib.Math.min.name, Cond.initialized "java/lang/Math"]
def wsL_join_r7 : List Cond := [Cond.code Lib.Math.min.name Lib.Math.min.code 2 (some .int), Cond.methodLink RX0 83 yX0_placeRoots, Cond.instanceMethod yX0_placeRoots, Cond.selects RX0 yX0_placeRoots yX0_placeRoots, Cond.code yX0_placeRoots cX0_placeRoots 2 none, Cond.fieldLink RX0 57 "Threadline$Forest" "rootCount" "I", Cond.methodLink RX0 144 yX0_placeRoot, Cond.instanceMethod yX0_placeRoot, Cond.selects RX0 yX0_placeRoot yX0_placeRoot, Cond.code yX0_placeRoot cX0_placeRoot 4 none, Cond.fieldLink RX0 43 "Threadline$Forest" "rootRow" "[I", Cond.methodLink RX0 147 yX0_comesBefore, Cond.instanceMethod yX0_comesBefore, Cond.selects RX0 yX0_comesBefore yX0_comesBefore, Cond.code yX0_comesBefore cX0_comesBefore 3 (some .boolean), Cond.methodLink RX0 86 yX0_placeTrees, Cond.instanceMethod yX0_placeTrees, Cond.selects RX0 yX0_placeTrees yX0_placeTrees, Cond.code yX0_placeTrees cX0_placeTrees 2 none, Cond.fieldLink RX0 34 "Threadline$Forest" "offset" "[I", Cond.fieldLink RX0 37 "Threadline$Forest" "start" "[I", Cond.fieldLink RX0 40 "Threadline$Forest" "order" "[I", Cond.methodLink RX0 150 yX0_offsetBehindParent, Cond.instanceMethod yX0_offsetBehindParent]
def wsL_join_r8 : List Cond := [Cond.selects RX0 yX0_offsetBehindParent yX0_offsetBehindParent, Cond.code yX0_offsetBehindParent cX0_offsetBehindParent 4 (some .int), Cond.methodLink RX0 153 yX0_startInOrder, Cond.instanceMethod yX0_startInOrder, Cond.selects RX0 yX0_startInOrder yX0_startInOrder, Cond.code yX0_startInOrder cX0_startInOrder 5 (some .int)]
def wsL_join : List Cond := .codeWith yL_join cL_join 5 (some .int) [(0, 10, 13, 13), (0, 10, 17, 15)] :: ((wsL_join_r1 ++ (wsL_join_r2 ++ (wsL_join_r3 ++ (wsL_join_r4 ++ (wsL_join_r5 ++ (wsL_join_r6 ++ (wsL_join_r7 ++ wsL_join_r8))))))) ++ wsX20 ++ wsX10 ++ wsX00 ++ (vx_atS RX2 75 "java/lang/IllegalArgumentException" ["java/lang/RuntimeException", "java/lang/Exception"]).filter goodWord ++ (vx_atS RX2 44 "java/lang/IllegalStateException" ["java/lang/RuntimeException", "java/lang/Exception"]).filter goodWord)
def wsL_release_r1 : List Cond := [Cond.classLink RL 13 "java/lang/IllegalArgumentException", Cond.classLink RL 15 "java/lang/IllegalStateException", Cond.methodLink RL 28 yX2_release, Cond.instanceMethod yX2_release, Cond.selects RX2 yX2_release yX2_release, Cond.initialized RX2, Cond.code yX2_release cX2_release 3 (some .boolean), Cond.fieldLink RX2 10 "Threadline" "mail" "LThreadline$Mail;", Cond.fieldLink RX2 21 "Threadline" "forest" "LThreadline$Forest;", Cond.methodLink RX2 58 yX2_requireLetter, Cond.instanceMethod yX2_requireLetter, Cond.selects RX2 yX2_requireLetter yX2_requireLetter, Cond.code yX2_requireLetter cX2_requireLetter 2 none, Cond.classLink RX2 40 "java/lang/IllegalStateException", Cond.initialized "java/lang/IllegalStateException", Cond.methodLink RX2 25 yX2_requireId, Cond.static yX2_requireId, Cond.code yX2_requireId cX2_requireId 1 none, Cond.classLink RX2 71 "java/lang/IllegalArgumentException", Cond.initialized "java/lang/IllegalArgumentException", Cond.methodLink RX2 131 yX2_isId, Cond.static yX2_isId, Cond.code yX2_isId cX2_isId 1 (some .boolean), Cond.instanceMethod yX1_holds]
def wsL_release_r2 : List Cond := [Cond.initialized RX1, Cond.selects RX1 yX1_holds yX1_holds, Cond.code yX1_holds cX1_holds 2 (some .boolean), Cond.fieldLink RX1 9 "Threadline$Mail" "there" "[Z", Cond.instanceMethod yX1_handOf, Cond.selects RX1 yX1_handOf yX1_handOf, Cond.code yX1_handOf cX1_handOf 2 (some .int), Cond.fieldLink RX1 37 "Threadline$Mail" "hand" "[I", Cond.methodLink RX1 44 yX1_holds, Cond.instanceMethod yX1_setHand, Cond.selects RX1 yX1_setHand yX1_setHand, Cond.code yX1_setHand cX1_setHand 3 none, Cond.instanceMethod yX0_grow, Cond.initialized RX0, Cond.selects RX0 yX0_grow yX0_grow, Cond.code yX0_grow cX0_grow 1 none, Cond.methodLink RX0 65 yX0_findKnown, Cond.instanceMethod yX0_findKnown, Cond.selects RX0 yX0_findKnown yX0_findKnown, Cond.code yX0_findKnown cX0_findKnown 2 none, Cond.fieldLink RX0 9 "Threadline$Forest" "known" "[Z", Cond.fieldLink RX0 46 "Threadline$Forest" "mail" "LThreadline$Mail;", Cond.instanceMethod yX1_parentToldBy, Cond.selects RX1 yX1_parentToldBy yX1_parentToldBy]
def wsL_release_r3 : List Cond := [Cond.code yX1_parentToldBy cX1_parentToldBy 2 (some .int), Cond.fieldLink RX1 19 "Threadline$Mail" "toldParent" "[I", Cond.methodLink RX0 97 yX0_learn, Cond.instanceMethod yX0_learn, Cond.selects RX0 yX0_learn yX0_learn, Cond.code yX0_learn cX0_learn 2 none, Cond.instanceMethod yX1_grandparentToldBy, Cond.selects RX1 yX1_grandparentToldBy yX1_grandparentToldBy, Cond.code yX1_grandparentToldBy cX1_grandparentToldBy 2 (some .int), Cond.fieldLink RX1 15 "Threadline$Mail" "toldGrandparent" "[I", Cond.methodLink RX0 68 yX0_linkKnown, Cond.instanceMethod yX0_linkKnown, Cond.selects RX0 yX0_linkKnown yX0_linkKnown, Cond.code yX0_linkKnown cX0_linkKnown 3 none, Cond.fieldLink RX0 15 "Threadline$Forest" "link" "[I", Cond.instanceMethod yX1_toldParentOf, Cond.selects RX1 yX1_toldParentOf yX1_toldParentOf, Cond.code yX1_toldParentOf cX1_toldParentOf 3 (some .int), Cond.methodLink RX1 50 yX1_guessedParentOf, Cond.instanceMethod yX1_guessedParentOf, Cond.selects RX1 yX1_guessedParentOf yX1_guessedParentOf, Cond.code yX1_guessedParentOf cX1_guessedParentOf 3 (some .int), Cond.methodLink RX1 57 yX1_parentToldBy, Cond.methodLink RX1 60 yX1_grandparentToldBy]
def wsL_release_r4 : List Cond := [Cond.methodLink RX1 54 yX1_handOf, Cond.methodLink RX0 110 yX0_linksLead, Cond.instanceMethod yX0_linksLead, Cond.selects RX0 yX0_linksLead yX0_linksLead, Cond.code yX0_linksLead cX0_linksLead 5 (some .boolean), Cond.methodLink RX0 71 yX0_hangByLinks, Cond.instanceMethod yX0_hangByLinks, Cond.selects RX0 yX0_hangByLinks yX0_hangByLinks, Cond.code yX0_hangByLinks cX0_hangByLinks 2 none, Cond.fieldLink RX0 19 "Threadline$Forest" "parentOf" "[I", Cond.methodLink RX0 114 yX0_parentByLinks, Cond.instanceMethod yX0_parentByLinks, Cond.selects RX0 yX0_parentByLinks yX0_parentByLinks, Cond.code yX0_parentByLinks cX0_parentByLinks 4 (some .int), Cond.methodLink RX0 74 yX0_keepMissing, Cond.instanceMethod yX0_keepMissing, Cond.selects RX0 yX0_keepMissing yX0_keepMissing, Cond.code yX0_keepMissing cX0_keepMissing 2 none, Cond.fieldLink RX0 22 "Threadline$Forest" "standing" "[Z", Cond.methodLink RX0 117 yX0_countChildren, Cond.instanceMethod yX0_countChildren, Cond.selects RX0 yX0_countChildren yX0_countChildren, Cond.code yX0_countChildren cX0_countChildren 4 (some .int), Cond.methodLink RX0 120 yX0_freeChildren]
def wsL_release_r5 : List Cond := [Cond.instanceMethod yX0_freeChildren, Cond.selects RX0 yX0_freeChildren yX0_freeChildren, Cond.code yX0_freeChildren cX0_freeChildren 3 none, Cond.methodLink RX0 77 yX0_hangReplies, Cond.instanceMethod yX0_hangReplies, Cond.selects RX0 yX0_hangReplies yX0_hangReplies, Cond.code yX0_hangReplies cX0_hangReplies 2 none, Cond.instanceMethod yX1_isReply, Cond.selects RX1 yX1_isReply yX1_isReply, Cond.code yX1_isReply cX1_isReply 2 (some .boolean), Cond.fieldLink RX1 25 "Threadline$Mail" "reply" "[Z", Cond.methodLink RX0 126 yX0_letterAnsweredBy, Cond.instanceMethod yX0_letterAnsweredBy, Cond.selects RX0 yX0_letterAnsweredBy yX0_letterAnsweredBy, Cond.code yX0_letterAnsweredBy cX0_letterAnsweredBy 5 (some .int), Cond.instanceMethod yX1_isAnsweredBy, Cond.selects RX1 yX1_isAnsweredBy yX1_isAnsweredBy, Cond.code yX1_isAnsweredBy cX1_isAnsweredBy 4 (some .boolean), Cond.fieldLink RX1 28 "Threadline$Mail" "day" "[I", Cond.fieldLink RX1 22 "Threadline$Mail" "subject" "[I", Cond.instanceMethod yX1_dayOf, Cond.selects RX1 yX1_dayOf yX1_dayOf, Cond.code yX1_dayOf cX1_dayOf 2 (some .int), Cond.methodLink RX0 80 yX0_measureTrees]
def wsL_release_r6 : List Cond := [Cond.instanceMethod yX0_measureTrees, Cond.selects RX0 yX0_measureTrees yX0_measureTrees, Cond.code yX0_measureTrees cX0_measureTrees 2 none, Cond.fieldLink RX0 31 "Threadline$Forest" "size" "[I", Cond.fieldLink RX0 25 "Threadline$Forest" "earliest" "[I", Cond.fieldLink RX0 28 "Threadline$Forest" "turn" "[I", Cond.methodLink RX0 135 yX0_countUpwards, Cond.instanceMethod yX0_countUpwards, Cond.selects RX0 yX0_countUpwards yX0_countUpwards, Cond.code yX0_countUpwards cX0_countUpwards 5 none, Cond.methodLink RX0 138 Lib.Math.min.name, Cond.static Lib.Math.min.name, Cond.initialized "java/lang/Math", Cond.code Lib.Math.min.name Lib.Math.min.code 2 (some .int), Cond.methodLink RX0 83 yX0_placeRoots, Cond.instanceMethod yX0_placeRoots, Cond.selects RX0 yX0_placeRoots yX0_placeRoots, Cond.code yX0_placeRoots cX0_placeRoots 2 none, Cond.fieldLink RX0 57 "Threadline$Forest" "rootCount" "I", Cond.methodLink RX0 144 yX0_placeRoot, Cond.instanceMethod yX0_placeRoot, Cond.selects RX0 yX0_placeRoot yX0_placeRoot, Cond.code yX0_placeRoot cX0_placeRoot 4 none, Cond.fieldLink RX0 43 "Threadline$Forest" "rootRow" "[I"]
def wsL_release_r7 : List Cond := [Cond.methodLink RX0 147 yX0_comesBefore, Cond.instanceMethod yX0_comesBefore, Cond.selects RX0 yX0_comesBefore yX0_comesBefore, Cond.code yX0_comesBefore cX0_comesBefore 3 (some .boolean), Cond.methodLink RX0 54 yX0_contains, Cond.instanceMethod yX0_contains, Cond.selects RX0 yX0_contains yX0_contains, Cond.code yX0_contains cX0_contains 2 (some .boolean), Cond.methodLink RX0 86 yX0_placeTrees, Cond.instanceMethod yX0_placeTrees, Cond.selects RX0 yX0_placeTrees yX0_placeTrees, Cond.code yX0_placeTrees cX0_placeTrees 2 none, Cond.fieldLink RX0 34 "Threadline$Forest" "offset" "[I", Cond.fieldLink RX0 37 "Threadline$Forest" "start" "[I", Cond.fieldLink RX0 40 "Threadline$Forest" "order" "[I", Cond.methodLink RX0 150 yX0_offsetBehindParent, Cond.instanceMethod yX0_offsetBehindParent, Cond.selects RX0 yX0_offsetBehindParent yX0_offsetBehindParent, Cond.code yX0_offsetBehindParent cX0_offsetBehindParent 4 (some .int), Cond.methodLink RX0 61 yX0_parentIn, Cond.instanceMethod yX0_parentIn, Cond.selects RX0 yX0_parentIn yX0_parentIn, Cond.code yX0_parentIn cX0_parentIn 2 (some .int), Cond.methodLink RX0 153 yX0_startInOrder]
def wsL_release_r8 : List Cond := [Cond.instanceMethod yX0_startInOrder, Cond.selects RX0 yX0_startInOrder yX0_startInOrder, Cond.code yX0_startInOrder cX0_startInOrder 5 (some .int)]
def wsL_release : List Cond := .codeWith yL_release cL_release 4 (some .int) [(0, 16, 19, 13), (0, 16, 22, 15)] :: ((wsL_release_r1 ++ (wsL_release_r2 ++ (wsL_release_r3 ++ (wsL_release_r4 ++ (wsL_release_r5 ++ (wsL_release_r6 ++ (wsL_release_r7 ++ wsL_release_r8))))))) ++ wsX20 ++ wsX10 ++ wsX00 ++ (vx_atS RX2 44 "java/lang/IllegalStateException" ["java/lang/RuntimeException", "java/lang/Exception"]).filter goodWord ++ (vx_atS RX2 75 "java/lang/IllegalArgumentException" ["java/lang/RuntimeException", "java/lang/Exception"]).filter goodWord)
def wsL_read_r1 : List Cond := [Cond.classLink RL 13 "java/lang/IllegalArgumentException", Cond.classLink RL 35 "java/lang/IndexOutOfBoundsException", Cond.methodLink RL 32 yX2_read, Cond.instanceMethod yX2_read, Cond.selects RX2 yX2_read yX2_read, Cond.initialized RX2, Cond.code yX2_read cX2_read 4 (some .int), Cond.fieldLink RX2 10 "Threadline" "mail" "LThreadline$Mail;", Cond.fieldLink RX2 21 "Threadline" "forest" "LThreadline$Forest;", Cond.methodLink RX2 85 yX2_requireInForest, Cond.instanceMethod yX2_requireInForest, Cond.selects RX2 yX2_requireInForest yX2_requireInForest, Cond.code yX2_requireInForest cX2_requireInForest 2 none, Cond.classLink RX2 107 "java/lang/IndexOutOfBoundsException", Cond.initialized "java/lang/IndexOutOfBoundsException", Cond.methodLink RX2 25 yX2_requireId, Cond.static yX2_requireId, Cond.code yX2_requireId cX2_requireId 1 none, Cond.classLink RX2 71 "java/lang/IllegalArgumentException", Cond.initialized "java/lang/IllegalArgumentException", Cond.methodLink RX2 131 yX2_isId, Cond.static yX2_isId, Cond.code yX2_isId cX2_isId 1 (some .boolean), Cond.instanceMethod yX0_contains]
def wsL_read_r2 : List Cond := [Cond.initialized RX0, Cond.selects RX0 yX0_contains yX0_contains, Cond.code yX0_contains cX0_contains 2 (some .boolean), Cond.fieldLink RX0 22 "Threadline$Forest" "standing" "[Z", Cond.instanceMethod yX0_idAt, Cond.selects RX0 yX0_idAt yX0_idAt, Cond.code yX0_idAt cX0_idAt 4 (some .int), Cond.fieldLink RX0 31 "Threadline$Forest" "size" "[I", Cond.fieldLink RX0 37 "Threadline$Forest" "start" "[I", Cond.fieldLink RX0 40 "Threadline$Forest" "order" "[I", Cond.methodLink RX0 54 yX0_contains, Cond.instanceMethod yX1_markRead, Cond.initialized RX1, Cond.selects RX1 yX1_markRead yX1_markRead, Cond.code yX1_markRead cX1_markRead 2 (some .boolean), Cond.fieldLink RX1 34 "Threadline$Mail" "unseen" "[Z", Cond.methodLink RX1 47 yX1_isUnread, Cond.instanceMethod yX1_isUnread, Cond.selects RX1 yX1_isUnread yX1_isUnread, Cond.code yX1_isUnread cX1_isUnread 2 (some .boolean), Cond.methodLink RX1 44 yX1_holds, Cond.instanceMethod yX1_holds, Cond.selects RX1 yX1_holds yX1_holds, Cond.code yX1_holds cX1_holds 2 (some .boolean)]
def wsL_read_r3 : List Cond := [Cond.fieldLink RX1 9 "Threadline$Mail" "there" "[Z"]
def wsL_read : List Cond := .codeWith yL_read cL_read 4 (some .int) [(0, 9, 12, 13), (0, 9, 15, 35)] :: ((wsL_read_r1 ++ (wsL_read_r2 ++ wsL_read_r3)) ++ wsX20 ++ wsX00 ++ wsX10 ++ (vx_atS RX2 111 "java/lang/IndexOutOfBoundsException" ["java/lang/RuntimeException", "java/lang/Exception"]).filter goodWord ++ (vx_atS RX2 75 "java/lang/IllegalArgumentException" ["java/lang/RuntimeException", "java/lang/Exception"]).filter goodWord)
def wsL_state_r1 : List Cond := [Cond.classLink RL 13 "java/lang/IllegalArgumentException", Cond.methodLink RL 37 yX2_state, Cond.instanceMethod yX2_state, Cond.selects RX2 yX2_state yX2_state, Cond.initialized RX2, Cond.code yX2_state cX2_state 2 (some .int), Cond.fieldLink RX2 10 "Threadline" "mail" "LThreadline$Mail;", Cond.fieldLink RX2 21 "Threadline" "forest" "LThreadline$Forest;", Cond.methodLink RX2 25 yX2_requireId, Cond.static yX2_requireId, Cond.code yX2_requireId cX2_requireId 1 none, Cond.classLink RX2 71 "java/lang/IllegalArgumentException", Cond.initialized "java/lang/IllegalArgumentException", Cond.methodLink RX2 131 yX2_isId, Cond.static yX2_isId, Cond.code yX2_isId cX2_isId 1 (some .boolean), Cond.instanceMethod yX1_holds, Cond.initialized RX1, Cond.selects RX1 yX1_holds yX1_holds, Cond.code yX1_holds cX1_holds 2 (some .boolean), Cond.fieldLink RX1 9 "Threadline$Mail" "there" "[Z", Cond.instanceMethod yX0_contains, Cond.initialized RX0, Cond.selects RX0 yX0_contains yX0_contains]
def wsL_state_r2 : List Cond := [Cond.code yX0_contains cX0_contains 2 (some .boolean), Cond.fieldLink RX0 22 "Threadline$Forest" "standing" "[Z", Cond.instanceMethod yX0_knows, Cond.selects RX0 yX0_knows yX0_knows, Cond.code yX0_knows cX0_knows 2 (some .boolean), Cond.fieldLink RX0 9 "Threadline$Forest" "known" "[Z"]
def wsL_state : List Cond := .codeWith yL_state cL_state 4 (some .int) [(0, 9, 12, 13)] :: ((wsL_state_r1 ++ wsL_state_r2) ++ wsX20 ++ wsX10 ++ wsX00 ++ (vx_atS RX2 75 "java/lang/IllegalArgumentException" ["java/lang/RuntimeException", "java/lang/Exception"]).filter goodWord)
def wsL_parent_r1 : List Cond := [Cond.classLink RL 13 "java/lang/IllegalArgumentException", Cond.classLink RL 35 "java/lang/IndexOutOfBoundsException", Cond.methodLink RL 40 yX2_parent, Cond.instanceMethod yX2_parent, Cond.selects RX2 yX2_parent yX2_parent, Cond.initialized RX2, Cond.code yX2_parent cX2_parent 2 (some .int), Cond.fieldLink RX2 21 "Threadline" "forest" "LThreadline$Forest;", Cond.methodLink RX2 85 yX2_requireInForest, Cond.instanceMethod yX2_requireInForest, Cond.selects RX2 yX2_requireInForest yX2_requireInForest, Cond.code yX2_requireInForest cX2_requireInForest 2 none, Cond.classLink RX2 107 "java/lang/IndexOutOfBoundsException", Cond.initialized "java/lang/IndexOutOfBoundsException", Cond.methodLink RX2 25 yX2_requireId, Cond.static yX2_requireId, Cond.code yX2_requireId cX2_requireId 1 none, Cond.classLink RX2 71 "java/lang/IllegalArgumentException", Cond.initialized "java/lang/IllegalArgumentException", Cond.methodLink RX2 131 yX2_isId, Cond.static yX2_isId, Cond.code yX2_isId cX2_isId 1 (some .boolean), Cond.instanceMethod yX0_contains, Cond.initialized RX0]
def wsL_parent_r2 : List Cond := [Cond.selects RX0 yX0_contains yX0_contains, Cond.code yX0_contains cX0_contains 2 (some .boolean), Cond.fieldLink RX0 22 "Threadline$Forest" "standing" "[Z", Cond.instanceMethod yX0_parentIn, Cond.selects RX0 yX0_parentIn yX0_parentIn, Cond.code yX0_parentIn cX0_parentIn 2 (some .int), Cond.fieldLink RX0 19 "Threadline$Forest" "parentOf" "[I", Cond.methodLink RX0 54 yX0_contains]
def wsL_parent : List Cond := .codeWith yL_parent cL_parent 4 (some .int) [(0, 9, 12, 13), (0, 9, 15, 35)] :: ((wsL_parent_r1 ++ wsL_parent_r2) ++ wsX20 ++ wsX00 ++ (vx_atS RX2 111 "java/lang/IndexOutOfBoundsException" ["java/lang/RuntimeException", "java/lang/Exception"]).filter goodWord ++ (vx_atS RX2 75 "java/lang/IllegalArgumentException" ["java/lang/RuntimeException", "java/lang/Exception"]).filter goodWord)
def wsL_children_r1 : List Cond := [Cond.classLink RL 13 "java/lang/IllegalArgumentException", Cond.classLink RL 35 "java/lang/IndexOutOfBoundsException", Cond.methodLink RL 43 yX2_children, Cond.instanceMethod yX2_children, Cond.selects RX2 yX2_children yX2_children, Cond.initialized RX2, Cond.code yX2_children cX2_children 2 (some .int), Cond.fieldLink RX2 21 "Threadline" "forest" "LThreadline$Forest;", Cond.methodLink RX2 85 yX2_requireInForest, Cond.instanceMethod yX2_requireInForest, Cond.selects RX2 yX2_requireInForest yX2_requireInForest, Cond.code yX2_requireInForest cX2_requireInForest 2 none, Cond.classLink RX2 107 "java/lang/IndexOutOfBoundsException", Cond.initialized "java/lang/IndexOutOfBoundsException", Cond.methodLink RX2 25 yX2_requireId, Cond.static yX2_requireId, Cond.code yX2_requireId cX2_requireId 1 none, Cond.classLink RX2 71 "java/lang/IllegalArgumentException", Cond.initialized "java/lang/IllegalArgumentException", Cond.methodLink RX2 131 yX2_isId, Cond.static yX2_isId, Cond.code yX2_isId cX2_isId 1 (some .boolean), Cond.instanceMethod yX0_contains, Cond.initialized RX0]
def wsL_children_r2 : List Cond := [Cond.selects RX0 yX0_contains yX0_contains, Cond.code yX0_contains cX0_contains 2 (some .boolean), Cond.fieldLink RX0 22 "Threadline$Forest" "standing" "[Z", Cond.instanceMethod yX0_countChildren, Cond.selects RX0 yX0_countChildren yX0_countChildren, Cond.code yX0_countChildren cX0_countChildren 4 (some .int), Cond.fieldLink RX0 19 "Threadline$Forest" "parentOf" "[I"]
def wsL_children : List Cond := .codeWith yL_children cL_children 4 (some .int) [(0, 9, 12, 13), (0, 9, 15, 35)] :: ((wsL_children_r1 ++ wsL_children_r2) ++ wsX20 ++ wsX00 ++ (vx_atS RX2 111 "java/lang/IndexOutOfBoundsException" ["java/lang/RuntimeException", "java/lang/Exception"]).filter goodWord ++ (vx_atS RX2 75 "java/lang/IllegalArgumentException" ["java/lang/RuntimeException", "java/lang/Exception"]).filter goodWord)
def wsL_root : List Cond := .codeWith yL_root cL_root 4 (some .int) [(0, 9, 12, 35)] :: ([.classLink RL 35 "java/lang/IndexOutOfBoundsException", .methodLink RL 46 yX2_root, .instanceMethod yX2_root, .selects RX2 yX2_root yX2_root, .initialized RX2, .code yX2_root cX2_root 3 (some .int), .classLink RX2 107 "java/lang/IndexOutOfBoundsException", .initialized "java/lang/IndexOutOfBoundsException", .fieldLink RX2 21 "Threadline" "forest" "LThreadline$Forest;", .instanceMethod yX0_rootIdAt, .initialized RX0, .selects RX0 yX0_rootIdAt yX0_rootIdAt, .code yX0_rootIdAt cX0_rootIdAt 2 (some .int), .fieldLink RX0 57 "Threadline$Forest" "rootCount" "I", .fieldLink RX0 43 "Threadline$Forest" "rootRow" "[I", .static yX2_isId, .code yX2_isId cX2_isId 1 (some .boolean)] ++ wsX20 ++ wsX00 ++ (vx_atS RX2 111 "java/lang/IndexOutOfBoundsException" ["java/lang/RuntimeException", "java/lang/Exception"]).filter goodWord)
def wsL_inTree_r1 : List Cond := [Cond.classLink RL 13 "java/lang/IllegalArgumentException", Cond.classLink RL 35 "java/lang/IndexOutOfBoundsException", Cond.methodLink RL 49 yX2_inTree, Cond.instanceMethod yX2_inTree, Cond.selects RX2 yX2_inTree yX2_inTree, Cond.initialized RX2, Cond.code yX2_inTree cX2_inTree 4 (some .int), Cond.classLink RX2 107 "java/lang/IndexOutOfBoundsException", Cond.initialized "java/lang/IndexOutOfBoundsException", Cond.fieldLink RX2 21 "Threadline" "forest" "LThreadline$Forest;", Cond.methodLink RX2 85 yX2_requireInForest, Cond.instanceMethod yX2_requireInForest, Cond.selects RX2 yX2_requireInForest yX2_requireInForest, Cond.code yX2_requireInForest cX2_requireInForest 2 none, Cond.methodLink RX2 25 yX2_requireId, Cond.static yX2_requireId, Cond.code yX2_requireId cX2_requireId 1 none, Cond.classLink RX2 71 "java/lang/IllegalArgumentException", Cond.initialized "java/lang/IllegalArgumentException", Cond.methodLink RX2 131 yX2_isId, Cond.static yX2_isId, Cond.code yX2_isId cX2_isId 1 (some .boolean), Cond.instanceMethod yX0_contains, Cond.initialized RX0]
def wsL_inTree_r2 : List Cond := [Cond.selects RX0 yX0_contains yX0_contains, Cond.code yX0_contains cX0_contains 2 (some .boolean), Cond.fieldLink RX0 22 "Threadline$Forest" "standing" "[Z", Cond.instanceMethod yX0_idAt, Cond.selects RX0 yX0_idAt yX0_idAt, Cond.code yX0_idAt cX0_idAt 4 (some .int), Cond.fieldLink RX0 31 "Threadline$Forest" "size" "[I", Cond.fieldLink RX0 37 "Threadline$Forest" "start" "[I", Cond.fieldLink RX0 40 "Threadline$Forest" "order" "[I", Cond.methodLink RX0 54 yX0_contains]
def wsL_inTree : List Cond := .codeWith yL_inTree cL_inTree 5 (some .int) [(0, 10, 13, 13), (0, 10, 17, 35)] :: ((wsL_inTree_r1 ++ wsL_inTree_r2) ++ wsX20 ++ wsX00 ++ (vx_atS RX2 111 "java/lang/IndexOutOfBoundsException" ["java/lang/RuntimeException", "java/lang/Exception"]).filter goodWord ++ (vx_atS RX2 75 "java/lang/IllegalArgumentException" ["java/lang/RuntimeException", "java/lang/Exception"]).filter goodWord)
def wsL_depth_r1 : List Cond := [Cond.classLink RL 13 "java/lang/IllegalArgumentException", Cond.classLink RL 35 "java/lang/IndexOutOfBoundsException", Cond.methodLink RL 52 yX2_depth, Cond.instanceMethod yX2_depth, Cond.selects RX2 yX2_depth yX2_depth, Cond.initialized RX2, Cond.code yX2_depth cX2_depth 2 (some .int), Cond.fieldLink RX2 21 "Threadline" "forest" "LThreadline$Forest;", Cond.methodLink RX2 85 yX2_requireInForest, Cond.instanceMethod yX2_requireInForest, Cond.selects RX2 yX2_requireInForest yX2_requireInForest, Cond.code yX2_requireInForest cX2_requireInForest 2 none, Cond.classLink RX2 107 "java/lang/IndexOutOfBoundsException", Cond.initialized "java/lang/IndexOutOfBoundsException", Cond.methodLink RX2 25 yX2_requireId, Cond.static yX2_requireId, Cond.code yX2_requireId cX2_requireId 1 none, Cond.classLink RX2 71 "java/lang/IllegalArgumentException", Cond.initialized "java/lang/IllegalArgumentException", Cond.methodLink RX2 131 yX2_isId, Cond.static yX2_isId, Cond.code yX2_isId cX2_isId 1 (some .boolean), Cond.instanceMethod yX0_contains, Cond.initialized RX0]
def wsL_depth_r2 : List Cond := [Cond.selects RX0 yX0_contains yX0_contains, Cond.code yX0_contains cX0_contains 2 (some .boolean), Cond.fieldLink RX0 22 "Threadline$Forest" "standing" "[Z", Cond.instanceMethod yX0_stepsToRoot, Cond.selects RX0 yX0_stepsToRoot yX0_stepsToRoot, Cond.code yX0_stepsToRoot cX0_stepsToRoot 4 (some .int), Cond.methodLink RX0 61 yX0_parentIn, Cond.instanceMethod yX0_parentIn, Cond.selects RX0 yX0_parentIn yX0_parentIn, Cond.code yX0_parentIn cX0_parentIn 2 (some .int), Cond.fieldLink RX0 19 "Threadline$Forest" "parentOf" "[I", Cond.methodLink RX0 54 yX0_contains]
def wsL_depth : List Cond := .codeWith yL_depth cL_depth 4 (some .int) [(0, 9, 12, 13), (0, 9, 15, 35)] :: ((wsL_depth_r1 ++ wsL_depth_r2) ++ wsX20 ++ wsX00 ++ (vx_atS RX2 111 "java/lang/IndexOutOfBoundsException" ["java/lang/RuntimeException", "java/lang/Exception"]).filter goodWord ++ (vx_atS RX2 75 "java/lang/IllegalArgumentException" ["java/lang/RuntimeException", "java/lang/Exception"]).filter goodWord)
def wsL_letters_r1 : List Cond := [Cond.classLink RL 13 "java/lang/IllegalArgumentException", Cond.classLink RL 35 "java/lang/IndexOutOfBoundsException", Cond.methodLink RL 55 yX2_letters, Cond.instanceMethod yX2_letters, Cond.selects RX2 yX2_letters yX2_letters, Cond.initialized RX2, Cond.code yX2_letters cX2_letters 4 (some .int), Cond.fieldLink RX2 10 "Threadline" "mail" "LThreadline$Mail;", Cond.fieldLink RX2 21 "Threadline" "forest" "LThreadline$Forest;", Cond.methodLink RX2 85 yX2_requireInForest, Cond.instanceMethod yX2_requireInForest, Cond.selects RX2 yX2_requireInForest yX2_requireInForest, Cond.code yX2_requireInForest cX2_requireInForest 2 none, Cond.classLink RX2 107 "java/lang/IndexOutOfBoundsException", Cond.initialized "java/lang/IndexOutOfBoundsException", Cond.methodLink RX2 25 yX2_requireId, Cond.static yX2_requireId, Cond.code yX2_requireId cX2_requireId 1 none, Cond.classLink RX2 71 "java/lang/IllegalArgumentException", Cond.initialized "java/lang/IllegalArgumentException", Cond.methodLink RX2 131 yX2_isId, Cond.static yX2_isId, Cond.code yX2_isId cX2_isId 1 (some .boolean), Cond.instanceMethod yX0_contains]
def wsL_letters_r2 : List Cond := [Cond.initialized RX0, Cond.selects RX0 yX0_contains yX0_contains, Cond.code yX0_contains cX0_contains 2 (some .boolean), Cond.fieldLink RX0 22 "Threadline$Forest" "standing" "[Z", Cond.instanceMethod yX0_idAt, Cond.selects RX0 yX0_idAt yX0_idAt, Cond.code yX0_idAt cX0_idAt 4 (some .int), Cond.fieldLink RX0 31 "Threadline$Forest" "size" "[I", Cond.fieldLink RX0 37 "Threadline$Forest" "start" "[I", Cond.fieldLink RX0 40 "Threadline$Forest" "order" "[I", Cond.methodLink RX0 54 yX0_contains, Cond.instanceMethod yX1_holds, Cond.initialized RX1, Cond.selects RX1 yX1_holds yX1_holds, Cond.code yX1_holds cX1_holds 2 (some .boolean), Cond.fieldLink RX1 9 "Threadline$Mail" "there" "[Z"]
def wsL_letters : List Cond := .codeWith yL_letters cL_letters 4 (some .int) [(0, 9, 12, 13), (0, 9, 15, 35)] :: ((wsL_letters_r1 ++ wsL_letters_r2) ++ wsX20 ++ wsX00 ++ wsX10 ++ (vx_atS RX2 111 "java/lang/IndexOutOfBoundsException" ["java/lang/RuntimeException", "java/lang/Exception"]).filter goodWord ++ (vx_atS RX2 75 "java/lang/IllegalArgumentException" ["java/lang/RuntimeException", "java/lang/Exception"]).filter goodWord)
def wsL_unread_r1 : List Cond := [Cond.classLink RL 13 "java/lang/IllegalArgumentException", Cond.classLink RL 35 "java/lang/IndexOutOfBoundsException", Cond.methodLink RL 58 yX2_unread, Cond.instanceMethod yX2_unread, Cond.selects RX2 yX2_unread yX2_unread, Cond.initialized RX2, Cond.code yX2_unread cX2_unread 4 (some .int), Cond.fieldLink RX2 10 "Threadline" "mail" "LThreadline$Mail;", Cond.fieldLink RX2 21 "Threadline" "forest" "LThreadline$Forest;", Cond.methodLink RX2 85 yX2_requireInForest, Cond.instanceMethod yX2_requireInForest, Cond.selects RX2 yX2_requireInForest yX2_requireInForest, Cond.code yX2_requireInForest cX2_requireInForest 2 none, Cond.classLink RX2 107 "java/lang/IndexOutOfBoundsException", Cond.initialized "java/lang/IndexOutOfBoundsException", Cond.methodLink RX2 25 yX2_requireId, Cond.static yX2_requireId, Cond.code yX2_requireId cX2_requireId 1 none, Cond.classLink RX2 71 "java/lang/IllegalArgumentException", Cond.initialized "java/lang/IllegalArgumentException", Cond.methodLink RX2 131 yX2_isId, Cond.static yX2_isId, Cond.code yX2_isId cX2_isId 1 (some .boolean), Cond.instanceMethod yX0_contains]
def wsL_unread_r2 : List Cond := [Cond.initialized RX0, Cond.selects RX0 yX0_contains yX0_contains, Cond.code yX0_contains cX0_contains 2 (some .boolean), Cond.fieldLink RX0 22 "Threadline$Forest" "standing" "[Z", Cond.instanceMethod yX0_idAt, Cond.selects RX0 yX0_idAt yX0_idAt, Cond.code yX0_idAt cX0_idAt 4 (some .int), Cond.fieldLink RX0 31 "Threadline$Forest" "size" "[I", Cond.fieldLink RX0 37 "Threadline$Forest" "start" "[I", Cond.fieldLink RX0 40 "Threadline$Forest" "order" "[I", Cond.methodLink RX0 54 yX0_contains, Cond.instanceMethod yX1_isUnread, Cond.initialized RX1, Cond.selects RX1 yX1_isUnread yX1_isUnread, Cond.code yX1_isUnread cX1_isUnread 2 (some .boolean), Cond.fieldLink RX1 34 "Threadline$Mail" "unseen" "[Z", Cond.methodLink RX1 44 yX1_holds, Cond.instanceMethod yX1_holds, Cond.selects RX1 yX1_holds yX1_holds, Cond.code yX1_holds cX1_holds 2 (some .boolean), Cond.fieldLink RX1 9 "Threadline$Mail" "there" "[Z"]
def wsL_unread : List Cond := .codeWith yL_unread cL_unread 4 (some .int) [(0, 9, 12, 13), (0, 9, 15, 35)] :: ((wsL_unread_r1 ++ wsL_unread_r2) ++ wsX20 ++ wsX00 ++ wsX10 ++ (vx_atS RX2 111 "java/lang/IndexOutOfBoundsException" ["java/lang/RuntimeException", "java/lang/Exception"]).filter goodWord ++ (vx_atS RX2 75 "java/lang/IllegalArgumentException" ["java/lang/RuntimeException", "java/lang/Exception"]).filter goodWord)
def wsL_people_r1 : List Cond := [Cond.classLink RL 13 "java/lang/IllegalArgumentException", Cond.classLink RL 35 "java/lang/IndexOutOfBoundsException", Cond.methodLink RL 61 yX2_people, Cond.instanceMethod yX2_people, Cond.selects RX2 yX2_people yX2_people, Cond.initialized RX2, Cond.code yX2_people cX2_people 4 (some .int), Cond.fieldLink RX2 10 "Threadline" "mail" "LThreadline$Mail;", Cond.fieldLink RX2 21 "Threadline" "forest" "LThreadline$Forest;", Cond.methodLink RX2 85 yX2_requireInForest, Cond.instanceMethod yX2_requireInForest, Cond.selects RX2 yX2_requireInForest yX2_requireInForest, Cond.code yX2_requireInForest cX2_requireInForest 2 none, Cond.classLink RX2 107 "java/lang/IndexOutOfBoundsException", Cond.initialized "java/lang/IndexOutOfBoundsException", Cond.methodLink RX2 25 yX2_requireId, Cond.static yX2_requireId, Cond.code yX2_requireId cX2_requireId 1 none, Cond.classLink RX2 71 "java/lang/IllegalArgumentException", Cond.initialized "java/lang/IllegalArgumentException", Cond.methodLink RX2 131 yX2_isId, Cond.static yX2_isId, Cond.code yX2_isId cX2_isId 1 (some .boolean), Cond.instanceMethod yX0_contains]
def wsL_people_r2 : List Cond := [Cond.initialized RX0, Cond.selects RX0 yX0_contains yX0_contains, Cond.code yX0_contains cX0_contains 2 (some .boolean), Cond.fieldLink RX0 22 "Threadline$Forest" "standing" "[Z", Cond.instanceMethod yX0_idAt, Cond.selects RX0 yX0_idAt yX0_idAt, Cond.code yX0_idAt cX0_idAt 4 (some .int), Cond.fieldLink RX0 31 "Threadline$Forest" "size" "[I", Cond.fieldLink RX0 37 "Threadline$Forest" "start" "[I", Cond.fieldLink RX0 40 "Threadline$Forest" "order" "[I", Cond.methodLink RX0 54 yX0_contains, Cond.instanceMethod yX1_writerBit, Cond.initialized RX1, Cond.selects RX1 yX1_writerBit yX1_writerBit, Cond.code yX1_writerBit cX1_writerBit 2 (some .int), Cond.fieldLink RX1 31 "Threadline$Mail" "person" "[I", Cond.methodLink RX1 44 yX1_holds, Cond.instanceMethod yX1_holds, Cond.selects RX1 yX1_holds yX1_holds, Cond.code yX1_holds cX1_holds 2 (some .boolean), Cond.fieldLink RX1 9 "Threadline$Mail" "there" "[Z"]
def wsL_people : List Cond := .codeWith yL_people cL_people 4 (some .int) [(0, 9, 12, 13), (0, 9, 15, 35)] :: ((wsL_people_r1 ++ wsL_people_r2) ++ wsX20 ++ wsX00 ++ wsX10 ++ (vx_atS RX2 111 "java/lang/IndexOutOfBoundsException" ["java/lang/RuntimeException", "java/lang/Exception"]).filter goodWord ++ (vx_atS RX2 75 "java/lang/IllegalArgumentException" ["java/lang/RuntimeException", "java/lang/Exception"]).filter goodWord)
def wsL_latest_r1 : List Cond := [Cond.classLink RL 13 "java/lang/IllegalArgumentException", Cond.classLink RL 35 "java/lang/IndexOutOfBoundsException", Cond.methodLink RL 64 yX2_latest, Cond.instanceMethod yX2_latest, Cond.selects RX2 yX2_latest yX2_latest, Cond.initialized RX2, Cond.code yX2_latest cX2_latest 5 (some .int), Cond.fieldLink RX2 21 "Threadline" "forest" "LThreadline$Forest;", Cond.fieldLink RX2 10 "Threadline" "mail" "LThreadline$Mail;", Cond.methodLink RX2 126 Lib.Math.max.name, Cond.static Lib.Math.max.name, Cond.initialized "java/lang/Math", Cond.code Lib.Math.max.name Lib.Math.max.code 2 (some .int), Cond.methodLink RX2 85 yX2_requireInForest, Cond.instanceMethod yX2_requireInForest, Cond.selects RX2 yX2_requireInForest yX2_requireInForest, Cond.code yX2_requireInForest cX2_requireInForest 2 none, Cond.classLink RX2 107 "java/lang/IndexOutOfBoundsException", Cond.initialized "java/lang/IndexOutOfBoundsException", Cond.methodLink RX2 25 yX2_requireId, Cond.static yX2_requireId, Cond.code yX2_requireId cX2_requireId 1 none, Cond.classLink RX2 71 "java/lang/IllegalArgumentException", Cond.initialized "java/lang/IllegalArgumentException"]
def wsL_latest_r2 : List Cond := [Cond.methodLink RX2 131 yX2_isId, Cond.static yX2_isId, Cond.code yX2_isId cX2_isId 1 (some .boolean), Cond.instanceMethod yX0_contains, Cond.initialized RX0, Cond.selects RX0 yX0_contains yX0_contains, Cond.code yX0_contains cX0_contains 2 (some .boolean), Cond.fieldLink RX0 22 "Threadline$Forest" "standing" "[Z", Cond.instanceMethod yX0_idAt, Cond.selects RX0 yX0_idAt yX0_idAt, Cond.code yX0_idAt cX0_idAt 4 (some .int), Cond.fieldLink RX0 31 "Threadline$Forest" "size" "[I", Cond.fieldLink RX0 37 "Threadline$Forest" "start" "[I", Cond.fieldLink RX0 40 "Threadline$Forest" "order" "[I", Cond.methodLink RX0 54 yX0_contains, Cond.instanceMethod yX1_holds, Cond.initialized RX1, Cond.selects RX1 yX1_holds yX1_holds, Cond.code yX1_holds cX1_holds 2 (some .boolean), Cond.fieldLink RX1 9 "Threadline$Mail" "there" "[Z", Cond.instanceMethod yX1_dayOf, Cond.selects RX1 yX1_dayOf yX1_dayOf, Cond.code yX1_dayOf cX1_dayOf 2 (some .int), Cond.fieldLink RX1 28 "Threadline$Mail" "day" "[I"]
def wsL_latest_r3 : List Cond := [Cond.methodLink RX1 44 yX1_holds]
def wsL_latest : List Cond := .codeWith yL_latest cL_latest 4 (some .int) [(0, 9, 12, 13), (0, 9, 15, 35)] :: ((wsL_latest_r1 ++ (wsL_latest_r2 ++ wsL_latest_r3)) ++ wsX20 ++ wsX00 ++ wsX10 ++ (vx_atS RX2 111 "java/lang/IndexOutOfBoundsException" ["java/lang/RuntimeException", "java/lang/Exception"]).filter goodWord ++ (vx_atS RX2 75 "java/lang/IllegalArgumentException" ["java/lang/RuntimeException", "java/lang/Exception"]).filter goodWord)
def wsL_law0_r1 : List Cond := [Cond.classLink RL 8 RX2, Cond.instantiable RX2 2, Cond.initialized RX2, Cond.classLink RL 68 RX3, Cond.instantiable RX3 16, Cond.initialized RX3, Cond.arrayClass .long, Cond.methodLink RL 67 yX2_init, Cond.instanceMethod yX2_init, Cond.code yX2_init cX2_init 1 none, Cond.methodLink RX2 1 objectInit, Cond.instanceMethod objectInit, Cond.code objectInit ⟨#[0xb1]⟩ 1 none, Cond.classLink RX2 7 RX1, Cond.instantiable RX1 9, Cond.initialized RX1, Cond.fieldLink RX2 10 "Threadline" "mail" "LThreadline$Mail;", Cond.classLink RX2 16 RX0, Cond.instantiable RX0 13, Cond.initialized RX0, Cond.fieldLink RX2 21 "Threadline" "forest" "LThreadline$Forest;", Cond.instanceMethod yX1_init, Cond.code yX1_init cX1_init 1 none, Cond.methodLink RX1 3 objectInit]
def wsL_law0_r2 : List Cond := [Cond.arrayClass .boolean, Cond.fieldLink RX1 9 "Threadline$Mail" "there" "[Z", Cond.arrayClass .int, Cond.fieldLink RX1 15 "Threadline$Mail" "toldGrandparent" "[I", Cond.fieldLink RX1 19 "Threadline$Mail" "toldParent" "[I", Cond.fieldLink RX1 22 "Threadline$Mail" "subject" "[I", Cond.fieldLink RX1 25 "Threadline$Mail" "reply" "[Z", Cond.fieldLink RX1 28 "Threadline$Mail" "day" "[I", Cond.fieldLink RX1 31 "Threadline$Mail" "person" "[I", Cond.fieldLink RX1 34 "Threadline$Mail" "unseen" "[Z", Cond.fieldLink RX1 37 "Threadline$Mail" "hand" "[I", Cond.instanceMethod yX0_init, Cond.code yX0_init cX0_init 2 none, Cond.methodLink RX0 3 objectInit, Cond.fieldLink RX0 9 "Threadline$Forest" "known" "[Z", Cond.fieldLink RX0 15 "Threadline$Forest" "link" "[I", Cond.fieldLink RX0 19 "Threadline$Forest" "parentOf" "[I", Cond.fieldLink RX0 22 "Threadline$Forest" "standing" "[Z", Cond.fieldLink RX0 25 "Threadline$Forest" "earliest" "[I", Cond.fieldLink RX0 28 "Threadline$Forest" "turn" "[I", Cond.fieldLink RX0 31 "Threadline$Forest" "size" "[I", Cond.fieldLink RX0 34 "Threadline$Forest" "offset" "[I", Cond.fieldLink RX0 37 "Threadline$Forest" "start" "[I", Cond.fieldLink RX0 40 "Threadline$Forest" "order" "[I"]
def wsL_law0_r3 : List Cond := [Cond.fieldLink RX0 43 "Threadline$Forest" "rootRow" "[I", Cond.fieldLink RX0 46 "Threadline$Forest" "mail" "LThreadline$Mail;", Cond.methodLink RL 70 yX3_init, Cond.instanceMethod yX3_init, Cond.code yX3_init cX3_init 2 none, Cond.methodLink RX3 1 objectInit, Cond.fieldLink RX3 7 "ThreadlineModel" "there" "[Z", Cond.fieldLink RX3 13 "ThreadlineModel" "tells" "[I", Cond.fieldLink RX3 17 "ThreadlineModel" "beyond" "[I", Cond.fieldLink RX3 20 "ThreadlineModel" "subject" "[I", Cond.fieldLink RX3 23 "ThreadlineModel" "day" "[I", Cond.fieldLink RX3 26 "ThreadlineModel" "person" "[I", Cond.fieldLink RX3 29 "ThreadlineModel" "unread" "[Z", Cond.fieldLink RX3 32 "ThreadlineModel" "hand" "[I", Cond.fieldLink RX3 35 "ThreadlineModel" "known" "[Z", Cond.fieldLink RX3 38 "ThreadlineModel" "link" "[I", Cond.fieldLink RX3 41 "ThreadlineModel" "above" "[I", Cond.fieldLink RX3 44 "ThreadlineModel" "grows" "[Z", Cond.fieldLink RX3 47 "ThreadlineModel" "order" "[I", Cond.fieldLink RX3 50 "ThreadlineModel" "stack" "[I", Cond.methodLink RL 71 yL_letter, Cond.static yL_letter, Cond.initialized RL, Cond.codeWith yL_letter cL_letter 9 (some .int) [(0, 18, 21, 13), (0, 18, 25, 15)]]
def wsL_law0_r4 : List Cond := [Cond.classLink RL 13 "java/lang/IllegalArgumentException", Cond.classLink RL 15 "java/lang/IllegalStateException", Cond.methodLink RL 7 yX2_letter, Cond.instanceMethod yX2_letter, Cond.selects RX2 yX2_letter yX2_letter, Cond.code yX2_letter cX2_letter 7 (some .int), Cond.classLink RX2 40 "java/lang/IllegalStateException", Cond.initialized "java/lang/IllegalStateException", Cond.methodLink RX2 25 yX2_requireId, Cond.static yX2_requireId, Cond.code yX2_requireId cX2_requireId 1 none, Cond.classLink RX2 71 "java/lang/IllegalArgumentException", Cond.initialized "java/lang/IllegalArgumentException", Cond.methodLink RX2 131 yX2_isId, Cond.static yX2_isId, Cond.code yX2_isId cX2_isId 1 (some .boolean), Cond.methodLink RX2 29 yX2_requireTold, Cond.static yX2_requireTold, Cond.code yX2_requireTold cX2_requireTold 2 none, Cond.methodLink RX2 33 yX2_requireBelow, Cond.static yX2_requireBelow, Cond.code yX2_requireBelow cX2_requireBelow 2 none, Cond.instanceMethod yX1_holds, Cond.selects RX1 yX1_holds yX1_holds]
def wsL_law0_r5 : List Cond := [Cond.code yX1_holds cX1_holds 2 (some .boolean), Cond.instanceMethod yX1_put, Cond.selects RX1 yX1_put yX1_put, Cond.code yX1_put cX1_put 7 none, Cond.instanceMethod yX0_grow, Cond.selects RX0 yX0_grow yX0_grow, Cond.code yX0_grow cX0_grow 1 none, Cond.methodLink RX0 65 yX0_findKnown, Cond.instanceMethod yX0_findKnown, Cond.selects RX0 yX0_findKnown yX0_findKnown, Cond.code yX0_findKnown cX0_findKnown 2 none, Cond.instanceMethod yX1_parentToldBy, Cond.selects RX1 yX1_parentToldBy yX1_parentToldBy, Cond.code yX1_parentToldBy cX1_parentToldBy 2 (some .int), Cond.methodLink RX1 44 yX1_holds, Cond.methodLink RX0 97 yX0_learn, Cond.instanceMethod yX0_learn, Cond.selects RX0 yX0_learn yX0_learn, Cond.code yX0_learn cX0_learn 2 none, Cond.instanceMethod yX1_grandparentToldBy, Cond.selects RX1 yX1_grandparentToldBy yX1_grandparentToldBy, Cond.code yX1_grandparentToldBy cX1_grandparentToldBy 2 (some .int), Cond.instanceMethod yX1_handOf, Cond.selects RX1 yX1_handOf yX1_handOf]
def wsL_law0_r6 : List Cond := [Cond.code yX1_handOf cX1_handOf 2 (some .int), Cond.methodLink RX0 68 yX0_linkKnown, Cond.instanceMethod yX0_linkKnown, Cond.selects RX0 yX0_linkKnown yX0_linkKnown, Cond.code yX0_linkKnown cX0_linkKnown 3 none, Cond.instanceMethod yX1_toldParentOf, Cond.selects RX1 yX1_toldParentOf yX1_toldParentOf, Cond.code yX1_toldParentOf cX1_toldParentOf 3 (some .int), Cond.methodLink RX1 50 yX1_guessedParentOf, Cond.instanceMethod yX1_guessedParentOf, Cond.selects RX1 yX1_guessedParentOf yX1_guessedParentOf, Cond.code yX1_guessedParentOf cX1_guessedParentOf 3 (some .int), Cond.methodLink RX1 57 yX1_parentToldBy, Cond.methodLink RX1 60 yX1_grandparentToldBy, Cond.methodLink RX1 54 yX1_handOf, Cond.methodLink RX0 110 yX0_linksLead, Cond.instanceMethod yX0_linksLead, Cond.selects RX0 yX0_linksLead yX0_linksLead, Cond.code yX0_linksLead cX0_linksLead 5 (some .boolean), Cond.methodLink RX0 71 yX0_hangByLinks, Cond.instanceMethod yX0_hangByLinks, Cond.selects RX0 yX0_hangByLinks yX0_hangByLinks, Cond.code yX0_hangByLinks cX0_hangByLinks 2 none, Cond.methodLink RX0 114 yX0_parentByLinks]
def wsL_law0_r7 : List Cond := [Cond.instanceMethod yX0_parentByLinks, Cond.selects RX0 yX0_parentByLinks yX0_parentByLinks, Cond.code yX0_parentByLinks cX0_parentByLinks 4 (some .int), Cond.methodLink RX0 74 yX0_keepMissing, Cond.instanceMethod yX0_keepMissing, Cond.selects RX0 yX0_keepMissing yX0_keepMissing, Cond.code yX0_keepMissing cX0_keepMissing 2 none, Cond.methodLink RX0 117 yX0_countChildren, Cond.instanceMethod yX0_countChildren, Cond.selects RX0 yX0_countChildren yX0_countChildren, Cond.code yX0_countChildren cX0_countChildren 4 (some .int), Cond.methodLink RX0 120 yX0_freeChildren, Cond.instanceMethod yX0_freeChildren, Cond.selects RX0 yX0_freeChildren yX0_freeChildren, Cond.code yX0_freeChildren cX0_freeChildren 3 none, Cond.methodLink RX0 77 yX0_hangReplies, Cond.instanceMethod yX0_hangReplies, Cond.selects RX0 yX0_hangReplies yX0_hangReplies, Cond.code yX0_hangReplies cX0_hangReplies 2 none, Cond.instanceMethod yX1_isReply, Cond.selects RX1 yX1_isReply yX1_isReply, Cond.code yX1_isReply cX1_isReply 2 (some .boolean), Cond.methodLink RX0 126 yX0_letterAnsweredBy, Cond.instanceMethod yX0_letterAnsweredBy]
def wsL_law0_r8 : List Cond := [Cond.selects RX0 yX0_letterAnsweredBy yX0_letterAnsweredBy, Cond.code yX0_letterAnsweredBy cX0_letterAnsweredBy 5 (some .int), Cond.instanceMethod yX1_isAnsweredBy, Cond.selects RX1 yX1_isAnsweredBy yX1_isAnsweredBy, Cond.code yX1_isAnsweredBy cX1_isAnsweredBy 4 (some .boolean), Cond.instanceMethod yX1_dayOf, Cond.selects RX1 yX1_dayOf yX1_dayOf, Cond.code yX1_dayOf cX1_dayOf 2 (some .int), Cond.methodLink RX0 80 yX0_measureTrees, Cond.instanceMethod yX0_measureTrees, Cond.selects RX0 yX0_measureTrees yX0_measureTrees, Cond.code yX0_measureTrees cX0_measureTrees 2 none, Cond.methodLink RX0 135 yX0_countUpwards, Cond.instanceMethod yX0_countUpwards, Cond.selects RX0 yX0_countUpwards yX0_countUpwards, Cond.code yX0_countUpwards cX0_countUpwards 5 none, Cond.methodLink RX0 138 Lib.Math.min.name, Cond.static Lib.Math.min.name, Cond.initialized "java/lang/Math", Cond.code Lib.Math.min.name Lib.Math.min.code 2 (some .int), Cond.methodLink RX0 83 yX0_placeRoots, Cond.instanceMethod yX0_placeRoots, Cond.selects RX0 yX0_placeRoots yX0_placeRoots, Cond.code yX0_placeRoots cX0_placeRoots 2 none]
def wsL_law0_r9 : List Cond := [Cond.fieldLink RX0 57 "Threadline$Forest" "rootCount" "I", Cond.methodLink RX0 144 yX0_placeRoot, Cond.instanceMethod yX0_placeRoot, Cond.selects RX0 yX0_placeRoot yX0_placeRoot, Cond.code yX0_placeRoot cX0_placeRoot 4 none, Cond.methodLink RX0 147 yX0_comesBefore, Cond.instanceMethod yX0_comesBefore, Cond.selects RX0 yX0_comesBefore yX0_comesBefore, Cond.code yX0_comesBefore cX0_comesBefore 3 (some .boolean), Cond.methodLink RX0 54 yX0_contains, Cond.instanceMethod yX0_contains, Cond.selects RX0 yX0_contains yX0_contains, Cond.code yX0_contains cX0_contains 2 (some .boolean), Cond.methodLink RX0 86 yX0_placeTrees, Cond.instanceMethod yX0_placeTrees, Cond.selects RX0 yX0_placeTrees yX0_placeTrees, Cond.code yX0_placeTrees cX0_placeTrees 2 none, Cond.methodLink RX0 150 yX0_offsetBehindParent, Cond.instanceMethod yX0_offsetBehindParent, Cond.selects RX0 yX0_offsetBehindParent yX0_offsetBehindParent, Cond.code yX0_offsetBehindParent cX0_offsetBehindParent 4 (some .int), Cond.methodLink RX0 61 yX0_parentIn, Cond.instanceMethod yX0_parentIn, Cond.selects RX0 yX0_parentIn yX0_parentIn]
def wsL_law0_r10 : List Cond := [Cond.code yX0_parentIn cX0_parentIn 2 (some .int), Cond.methodLink RX0 153 yX0_startInOrder, Cond.instanceMethod yX0_startInOrder, Cond.selects RX0 yX0_startInOrder yX0_startInOrder, Cond.code yX0_startInOrder cX0_startInOrder 5 (some .int), Cond.instanceMethod yX0_countRoots, Cond.selects RX0 yX0_countRoots yX0_countRoots, Cond.code yX0_countRoots cX0_countRoots 1 (some .int), Cond.methodLink RL 76 yX3_letter, Cond.instanceMethod yX3_letter, Cond.selects RX3 yX3_letter yX3_letter, Cond.code yX3_letter cX3_letter 8 (some .int), Cond.methodLink RX3 92 yX3_isId, Cond.static yX3_isId, Cond.code yX3_isId cX3_isId 1 (some .boolean), Cond.methodLink RX3 57 yX3_in, Cond.static yX3_in, Cond.code yX3_in cX3_in 3 (some .boolean), Cond.methodLink RX3 95 yX3_asked_, Cond.instanceMethod yX3_asked_, Cond.selects RX3 yX3_asked_ yX3_asked_, Cond.code yX3_asked_ cX3_asked_ 3 (some .boolean), Cond.fieldLink RX3 53 "ThreadlineModel" "thrown" "I", Cond.methodLink RX3 99 yX3_rootsThen]
def wsL_law0_r11 : List Cond := [Cond.instanceMethod yX3_rootsThen, Cond.selects RX3 yX3_rootsThen yX3_rootsThen, Cond.code yX3_rootsThen cX3_rootsThen 1 (some .int), Cond.methodLink RX3 85 yX3_forest, Cond.instanceMethod yX3_forest, Cond.selects RX3 yX3_forest yX3_forest, Cond.code yX3_forest cX3_forest 5 none, Cond.methodLink RX3 69 yX3_knows, Cond.instanceMethod yX3_knows, Cond.selects RX3 yX3_knows yX3_knows, Cond.code yX3_knows cX3_knows 2 none, Cond.methodLink RX3 72 yX3_links, Cond.instanceMethod yX3_links, Cond.selects RX3 yX3_links yX3_links, Cond.code yX3_links cX3_links 3 none, Cond.methodLink RX3 61 yX3_toldParent, Cond.instanceMethod yX3_toldParent, Cond.selects RX3 yX3_toldParent yX3_toldParent, Cond.code yX3_toldParent cX3_toldParent 3 (some .int), Cond.methodLink RX3 65 yX3_isBelow, Cond.instanceMethod yX3_isBelow, Cond.selects RX3 yX3_isBelow yX3_isBelow, Cond.code yX3_isBelow cX3_isBelow 4 (some .boolean), Cond.methodLink RX3 75 yX3_isAlone]
def wsL_law0_r12 : List Cond := [Cond.instanceMethod yX3_isAlone, Cond.selects RX3 yX3_isAlone yX3_isAlone, Cond.code yX3_isAlone cX3_isAlone 2 (some .boolean), Cond.methodLink RX3 88 yX3_rootsNow, Cond.instanceMethod yX3_rootsNow, Cond.selects RX3 yX3_rootsNow yX3_rootsNow, Cond.code yX3_rootsNow cX3_rootsNow 3 (some .int), Cond.methodLink RL 77 yX3_thrown, Cond.instanceMethod yX3_thrown, Cond.selects RX3 yX3_thrown yX3_thrown, Cond.code yX3_thrown cX3_thrown 1 (some .int), Cond.methodLink RL 81 yL_delete, Cond.static yL_delete, Cond.codeWith yL_delete cL_delete 4 (some .int) [(0, 9, 12, 13), (0, 9, 15, 15)], Cond.methodLink RL 17 yX2_delete, Cond.instanceMethod yX2_delete, Cond.selects RX2 yX2_delete yX2_delete, Cond.code yX2_delete cX2_delete 2 (some .int), Cond.methodLink RX2 58 yX2_requireLetter, Cond.instanceMethod yX2_requireLetter, Cond.selects RX2 yX2_requireLetter yX2_requireLetter, Cond.code yX2_requireLetter cX2_requireLetter 2 none, Cond.instanceMethod yX1_drop, Cond.selects RX1 yX1_drop yX1_drop]
def wsL_law0_r13 : List Cond := [Cond.code yX1_drop cX1_drop 2 none, Cond.methodLink RL 84 yX3_delete, Cond.instanceMethod yX3_delete, Cond.selects RX3 yX3_delete yX3_delete, Cond.code yX3_delete cX3_delete 2 (some .int), Cond.methodLink RX3 102 yX3_isLetter, Cond.instanceMethod yX3_isLetter, Cond.selects RX3 yX3_isLetter yX3_isLetter, Cond.code yX3_isLetter cX3_isLetter 3 (some .boolean), Cond.methodLink RL 85 yL_split, Cond.static yL_split, Cond.codeWith yL_split cL_split 4 (some .int) [(0, 9, 12, 13), (0, 9, 15, 15)], Cond.methodLink RL 21 yX2_split, Cond.instanceMethod yX2_split, Cond.selects RX2 yX2_split yX2_split, Cond.code yX2_split cX2_split 3 (some .int), Cond.instanceMethod yX1_setHand, Cond.selects RX1 yX1_setHand yX1_setHand, Cond.code yX1_setHand cX1_setHand 3 none, Cond.methodLink RL 87 yX3_split, Cond.instanceMethod yX3_split, Cond.selects RX3 yX3_split yX3_split, Cond.code yX3_split cX3_split 2 (some .int), Cond.methodLink RL 88 yL_join]
def wsL_law0_r14 : List Cond := [Cond.static yL_join, Cond.codeWith yL_join cL_join 5 (some .int) [(0, 10, 13, 13), (0, 10, 17, 15)], Cond.methodLink RL 24 yX2_join, Cond.instanceMethod yX2_join, Cond.selects RX2 yX2_join yX2_join, Cond.code yX2_join cX2_join 3 (some .int), Cond.instanceMethod yX0_isInTree, Cond.selects RX0 yX0_isInTree yX0_isInTree, Cond.code yX0_isInTree cX0_isInTree 5 (some .boolean), Cond.methodLink RL 91 yX3_join, Cond.instanceMethod yX3_join, Cond.selects RX3 yX3_join yX3_join, Cond.code yX3_join cX3_join 6 (some .int), Cond.fieldLink RX3 79 "ThreadlineModel" "many" "I", Cond.methodLink RX3 105 yX3_trees, Cond.instanceMethod yX3_trees, Cond.selects RX3 yX3_trees yX3_trees, Cond.code yX3_trees cX3_trees 9 none, Cond.methodLink RX3 82 yX3_isAhead, Cond.instanceMethod yX3_isAhead, Cond.selects RX3 yX3_isAhead yX3_isAhead, Cond.code yX3_isAhead cX3_isAhead 3 (some .boolean), Cond.methodLink RL 92 yL_release, Cond.static yL_release]
def wsL_law0_r15 : List Cond := [Cond.codeWith yL_release cL_release 4 (some .int) [(0, 16, 19, 13), (0, 16, 22, 15)], Cond.methodLink RL 28 yX2_release, Cond.instanceMethod yX2_release, Cond.selects RX2 yX2_release yX2_release, Cond.code yX2_release cX2_release 3 (some .boolean), Cond.methodLink RL 94 yX3_release, Cond.instanceMethod yX3_release, Cond.selects RX3 yX3_release yX3_release, Cond.code yX3_release cX3_release 3 (some .boolean), Cond.methodLink RL 95 yL_read, Cond.static yL_read, Cond.codeWith yL_read cL_read 4 (some .int) [(0, 9, 12, 13), (0, 9, 15, 35)], Cond.classLink RL 35 "java/lang/IndexOutOfBoundsException", Cond.methodLink RL 32 yX2_read, Cond.instanceMethod yX2_read, Cond.selects RX2 yX2_read yX2_read, Cond.code yX2_read cX2_read 4 (some .int), Cond.methodLink RX2 85 yX2_requireInForest, Cond.instanceMethod yX2_requireInForest, Cond.selects RX2 yX2_requireInForest yX2_requireInForest, Cond.code yX2_requireInForest cX2_requireInForest 2 none, Cond.classLink RX2 107 "java/lang/IndexOutOfBoundsException", Cond.initialized "java/lang/IndexOutOfBoundsException", Cond.instanceMethod yX0_idAt]
def wsL_law0_r16 : List Cond := [Cond.selects RX0 yX0_idAt yX0_idAt, Cond.code yX0_idAt cX0_idAt 4 (some .int), Cond.instanceMethod yX1_markRead, Cond.selects RX1 yX1_markRead yX1_markRead, Cond.code yX1_markRead cX1_markRead 2 (some .boolean), Cond.methodLink RX1 47 yX1_isUnread, Cond.instanceMethod yX1_isUnread, Cond.selects RX1 yX1_isUnread yX1_isUnread, Cond.code yX1_isUnread cX1_isUnread 2 (some .boolean), Cond.methodLink RL 97 yX3_read, Cond.instanceMethod yX3_read, Cond.selects RX3 yX3_read yX3_read, Cond.code yX3_read cX3_read 5 (some .int), Cond.methodLink RX3 109 yX3_looks, Cond.instanceMethod yX3_looks, Cond.selects RX3 yX3_looks yX3_looks, Cond.code yX3_looks cX3_looks 4 (some .boolean), Cond.methodLink RL 98 yL_state, Cond.static yL_state, Cond.codeWith yL_state cL_state 4 (some .int) [(0, 9, 12, 13)], Cond.methodLink RL 37 yX2_state, Cond.instanceMethod yX2_state, Cond.selects RX2 yX2_state yX2_state, Cond.code yX2_state cX2_state 2 (some .int)]
def wsL_law0_r17 : List Cond := [Cond.instanceMethod yX0_knows, Cond.selects RX0 yX0_knows yX0_knows, Cond.code yX0_knows cX0_knows 2 (some .boolean), Cond.methodLink RL 100 yX3_state, Cond.instanceMethod yX3_state, Cond.selects RX3 yX3_state yX3_state, Cond.code yX3_state cX3_state 2 (some .int), Cond.methodLink RX3 112 yX3_asked, Cond.instanceMethod yX3_asked, Cond.selects RX3 yX3_asked yX3_asked, Cond.code yX3_asked cX3_asked 2 (some .boolean), Cond.methodLink RL 101 yL_parent, Cond.static yL_parent, Cond.codeWith yL_parent cL_parent 4 (some .int) [(0, 9, 12, 13), (0, 9, 15, 35)], Cond.methodLink RL 40 yX2_parent, Cond.instanceMethod yX2_parent, Cond.selects RX2 yX2_parent yX2_parent, Cond.code yX2_parent cX2_parent 2 (some .int), Cond.methodLink RL 103 yX3_parent, Cond.instanceMethod yX3_parent, Cond.selects RX3 yX3_parent yX3_parent, Cond.code yX3_parent cX3_parent 2 (some .int), Cond.methodLink RL 104 yL_children, Cond.static yL_children]
def wsL_law0_r18 : List Cond := [Cond.codeWith yL_children cL_children 4 (some .int) [(0, 9, 12, 13), (0, 9, 15, 35)], Cond.methodLink RL 43 yX2_children, Cond.instanceMethod yX2_children, Cond.selects RX2 yX2_children yX2_children, Cond.code yX2_children cX2_children 2 (some .int), Cond.methodLink RL 106 yX3_children, Cond.instanceMethod yX3_children, Cond.selects RX3 yX3_children yX3_children, Cond.code yX3_children cX3_children 5 (some .int), Cond.methodLink RL 107 yX2_roots, Cond.instanceMethod yX2_roots, Cond.selects RX2 yX2_roots yX2_roots, Cond.code yX2_roots cX2_roots 1 (some .int), Cond.methodLink RL 110 yX3_roots, Cond.instanceMethod yX3_roots, Cond.selects RX3 yX3_roots yX3_roots, Cond.code yX3_roots cX3_roots 1 (some .int), Cond.methodLink RL 111 yL_root, Cond.static yL_root, Cond.codeWith yL_root cL_root 4 (some .int) [(0, 9, 12, 35)], Cond.methodLink RL 46 yX2_root, Cond.instanceMethod yX2_root, Cond.selects RX2 yX2_root yX2_root, Cond.code yX2_root cX2_root 3 (some .int)]
def wsL_law0_r19 : List Cond := [Cond.instanceMethod yX0_rootIdAt, Cond.selects RX0 yX0_rootIdAt yX0_rootIdAt, Cond.code yX0_rootIdAt cX0_rootIdAt 2 (some .int), Cond.methodLink RL 113 yX3_root, Cond.instanceMethod yX3_root, Cond.selects RX3 yX3_root yX3_root, Cond.code yX3_root cX3_root 7 (some .int), Cond.methodLink RX3 115 yX3_earliest, Cond.instanceMethod yX3_earliest, Cond.selects RX3 yX3_earliest yX3_earliest, Cond.code yX3_earliest cX3_earliest 4 (some .int), Cond.methodLink RL 114 yL_inTree, Cond.static yL_inTree, Cond.codeWith yL_inTree cL_inTree 5 (some .int) [(0, 10, 13, 13), (0, 10, 17, 35)], Cond.methodLink RL 49 yX2_inTree, Cond.instanceMethod yX2_inTree, Cond.selects RX2 yX2_inTree yX2_inTree, Cond.code yX2_inTree cX2_inTree 4 (some .int), Cond.methodLink RL 116 yX3_inTree, Cond.instanceMethod yX3_inTree, Cond.selects RX3 yX3_inTree yX3_inTree, Cond.code yX3_inTree cX3_inTree 3 (some .int), Cond.methodLink RL 117 yL_depth, Cond.static yL_depth]
def wsL_law0_r20 : List Cond := [Cond.codeWith yL_depth cL_depth 4 (some .int) [(0, 9, 12, 13), (0, 9, 15, 35)], Cond.methodLink RL 52 yX2_depth, Cond.instanceMethod yX2_depth, Cond.selects RX2 yX2_depth yX2_depth, Cond.code yX2_depth cX2_depth 2 (some .int), Cond.instanceMethod yX0_stepsToRoot, Cond.selects RX0 yX0_stepsToRoot yX0_stepsToRoot, Cond.code yX0_stepsToRoot cX0_stepsToRoot 4 (some .int), Cond.methodLink RL 119 yX3_depth, Cond.instanceMethod yX3_depth, Cond.selects RX3 yX3_depth yX3_depth, Cond.code yX3_depth cX3_depth 5 (some .int), Cond.methodLink RL 120 yL_letters, Cond.static yL_letters, Cond.codeWith yL_letters cL_letters 4 (some .int) [(0, 9, 12, 13), (0, 9, 15, 35)], Cond.methodLink RL 55 yX2_letters, Cond.instanceMethod yX2_letters, Cond.selects RX2 yX2_letters yX2_letters, Cond.code yX2_letters cX2_letters 4 (some .int), Cond.methodLink RL 122 yX3_letters, Cond.instanceMethod yX3_letters, Cond.selects RX3 yX3_letters yX3_letters, Cond.code yX3_letters cX3_letters 5 (some .int), Cond.methodLink RL 123 yL_unread]
def wsL_law0_r21 : List Cond := [Cond.static yL_unread, Cond.codeWith yL_unread cL_unread 4 (some .int) [(0, 9, 12, 13), (0, 9, 15, 35)], Cond.methodLink RL 58 yX2_unread, Cond.instanceMethod yX2_unread, Cond.selects RX2 yX2_unread yX2_unread, Cond.code yX2_unread cX2_unread 4 (some .int), Cond.methodLink RL 125 yX3_unread, Cond.instanceMethod yX3_unread, Cond.selects RX3 yX3_unread yX3_unread, Cond.code yX3_unread cX3_unread 5 (some .int), Cond.methodLink RL 126 yL_people, Cond.static yL_people, Cond.codeWith yL_people cL_people 4 (some .int) [(0, 9, 12, 13), (0, 9, 15, 35)], Cond.methodLink RL 61 yX2_people, Cond.instanceMethod yX2_people, Cond.selects RX2 yX2_people yX2_people, Cond.code yX2_people cX2_people 4 (some .int), Cond.instanceMethod yX1_writerBit, Cond.selects RX1 yX1_writerBit yX1_writerBit, Cond.code yX1_writerBit cX1_writerBit 2 (some .int), Cond.methodLink RL 128 yX3_people, Cond.instanceMethod yX3_people, Cond.selects RX3 yX3_people yX3_people, Cond.code yX3_people cX3_people 5 (some .int)]
def wsL_law0_r22 : List Cond := [Cond.methodLink RL 129 yL_latest, Cond.static yL_latest, Cond.codeWith yL_latest cL_latest 4 (some .int) [(0, 9, 12, 13), (0, 9, 15, 35)], Cond.methodLink RL 64 yX2_latest, Cond.instanceMethod yX2_latest, Cond.selects RX2 yX2_latest yX2_latest, Cond.code yX2_latest cX2_latest 5 (some .int), Cond.methodLink RX2 126 Lib.Math.max.name, Cond.static Lib.Math.max.name, Cond.code Lib.Math.max.name Lib.Math.max.code 2 (some .int), Cond.methodLink RL 131 yX3_latest, Cond.instanceMethod yX3_latest, Cond.selects RX3 yX3_latest yX3_latest, Cond.code yX3_latest cX3_latest 5 (some .int)]
def wsL_law0 : List Cond := (wsL_law0_r1 ++ (wsL_law0_r2 ++ (wsL_law0_r3 ++ (wsL_law0_r4 ++ (wsL_law0_r5 ++ (wsL_law0_r6 ++ (wsL_law0_r7 ++ (wsL_law0_r8 ++ (wsL_law0_r9 ++ (wsL_law0_r10 ++ (wsL_law0_r11 ++ (wsL_law0_r12 ++ (wsL_law0_r13 ++ (wsL_law0_r14 ++ (wsL_law0_r15 ++ (wsL_law0_r16 ++ (wsL_law0_r17 ++ (wsL_law0_r18 ++ (wsL_law0_r19 ++ (wsL_law0_r20 ++ (wsL_law0_r21 ++ wsL_law0_r22))))))))))))))))))))) ++ wsX20 ++ wsX30 ++ wsX10 ++ wsX00 ++ ([] : List Cond)
def wsL_law : List Cond := wsL_law0 ++ (vx_atS RX2 44 "java/lang/IllegalStateException" ["java/lang/RuntimeException", "java/lang/Exception"]).filter goodWord ++ (vx_atS RX2 75 "java/lang/IllegalArgumentException" ["java/lang/RuntimeException", "java/lang/Exception"]).filter goodWord ++ (vx_atS RX2 111 "java/lang/IndexOutOfBoundsException" ["java/lang/RuntimeException", "java/lang/Exception"]).filter goodWord
set_option maxRecDepth 20000 in
theorem wsL_law_in0 : ∀ w ∈ wsL_law0, w ∈ lw_tbl := fun w h => (goodIn_p wsL_law0 [77, 80, 85, 121, 611, 186, 189, 192, 263, 267, 272, 292, 297, 301, 306, 311, 316, 320, 324, 328, 332, 339, 343, 347, 351, 355, 359, 363, 367, 371, 375, 379, 383, 387, 390, 394, 398, 402, 406, 410, 414, 418, 422, 177, 669, 672, 675, 679, 683, 687, 691, 695, 699, 703, 707, 711, 665, 429, 433, 438, 715, 719, 445, 450, 723, 457, 462, 727, 731, 735, 470, 739, 479, 483, 504, 508, 512, 743, 747, 519, 523, 751, 755, 530, 759, 537, 763, 173, 767, 545, 549, 771, 775, 557, 779, 565, 569, 783, 576, 787, 583, 791, 591, 595, 795, 602, 606, 799] (by decide +kernel) (by decide +kernel) w h).1
theorem wsL_law_x0 : ∀ w ∈ (vx_atS RX2 44 "java/lang/IllegalStateException" ["java/lang/RuntimeException", "java/lang/Exception"]).filter goodWord, w ∈ lw_tbl := by decide +kernel
theorem wsL_law_x1 : ∀ w ∈ (vx_atS RX2 75 "java/lang/IllegalArgumentException" ["java/lang/RuntimeException", "java/lang/Exception"]).filter goodWord, w ∈ lw_tbl := by decide +kernel
theorem wsL_law_x2 : ∀ w ∈ (vx_atS RX2 111 "java/lang/IndexOutOfBoundsException" ["java/lang/RuntimeException", "java/lang/Exception"]).filter goodWord, w ∈ lw_tbl := by decide +kernel
theorem wsL_law_in : ∀ w ∈ wsL_law, w ∈ lw_tbl := fun w h => (List.mem_append.mp h).elim (fun h => (List.mem_append.mp h).elim (fun h => (List.mem_append.mp h).elim (fun h => wsL_law_in0 w h) (fun h => wsL_law_x0 w h)) (fun h => wsL_law_x1 w h)) (fun h => wsL_law_x2 w h)
theorem inlX0 : ∀ w ∈ wsX00, w ∈ wsL_law := fun _ h => List.mem_append_left _ (List.mem_append_left _ (List.mem_append_left _ (List.mem_append_left _ (List.mem_append_right _ h))))
theorem inX0 : ∀ w ∈ wsX00, w ∈ lw_tbl := fun w h => wsL_law_in w (inlX0 w h)
theorem inlX1 : ∀ w ∈ wsX10, w ∈ wsL_law := fun _ h => List.mem_append_left _ (List.mem_append_left _ (List.mem_append_left _ (List.mem_append_left _ (List.mem_append_left _ (List.mem_append_right _ h)))))
theorem inX1 : ∀ w ∈ wsX10, w ∈ lw_tbl := fun w h => wsL_law_in w (inlX1 w h)
theorem inlX2 : ∀ w ∈ wsX20, w ∈ wsL_law := fun _ h => List.mem_append_left _ (List.mem_append_left _ (List.mem_append_left _ (List.mem_append_left _ (List.mem_append_left _ (List.mem_append_left _ (List.mem_append_left _ (List.mem_append_right _ h)))))))
theorem inX2 : ∀ w ∈ wsX20, w ∈ lw_tbl := fun w h => wsL_law_in w (inlX2 w h)
theorem inlX3 : ∀ w ∈ wsX30, w ∈ wsL_law := fun _ h => List.mem_append_left _ (List.mem_append_left _ (List.mem_append_left _ (List.mem_append_left _ (List.mem_append_left _ (List.mem_append_left _ (List.mem_append_right _ h))))))
theorem inX3 : ∀ w ∈ wsX30, w ∈ lw_tbl := fun w h => wsL_law_in w (inlX3 w h)
theorem inJ9 : ∀ w ∈ wsJ90, w ∈ lw_tbl := by decide +kernel
theorem inJ0 : ∀ w ∈ wsJ00, w ∈ lw_tbl := by decide +kernel
set_option maxRecDepth 20000 in
theorem ggX0_knows_X2_isId : GoodIn wsX0_knows wsX2_isId := goodIn_r _ [4] (by decide +kernel) (by decide +kernel)
set_option maxRecDepth 20000 in
theorem gX0_knows_X2_isId_n50 : GoodIn wsX0_knows (wsX2_isId) := ggX0_knows_X2_isId
set_option maxRecDepth 20000 in
theorem ggX0_contains_X2_isId : GoodIn wsX0_contains wsX2_isId := goodIn_r _ [4] (by decide +kernel) (by decide +kernel)
set_option maxRecDepth 20000 in
theorem gX0_contains_X2_isId_n50 : GoodIn wsX0_contains (wsX2_isId) := ggX0_contains_X2_isId
set_option maxRecDepth 20000 in
theorem ggX0_parentIn_X0_contains : GoodIn wsX0_parentIn wsX0_contains := goodIn_r _ [6, 7, 8, 9, 10, 11, 12, 13, 14, 15, 16, 17, 18, 19, 20, 21, 22, 23] (by decide +kernel) (by decide +kernel)
set_option maxRecDepth 20000 in
theorem gX0_parentIn_X0_contains : GoodIn wsX0_parentIn (wsV RX0 54 RX0 yX0_contains wsX0_contains) := goodIn_app (goodIn_of _ (by decide +kernel)) ggX0_parentIn_X0_contains
set_option maxRecDepth 20000 in
theorem ggX0_rootIdAt_X2_isId : GoodIn wsX0_rootIdAt wsX2_isId := goodIn_r _ [5] (by decide +kernel) (by decide +kernel)
set_option maxRecDepth 20000 in
theorem gX0_rootIdAt_X2_isId_n50 : GoodIn wsX0_rootIdAt (wsX2_isId) := ggX0_rootIdAt_X2_isId
set_option maxRecDepth 20000 in
theorem ggX0_idAt_X0_contains : GoodIn wsX0_idAt wsX0_contains := goodIn_r _ [8, 9, 10, 11, 12, 13, 14, 15, 16, 17, 18, 19, 20, 21, 22, 23, 24, 25] (by decide +kernel) (by decide +kernel)
set_option maxRecDepth 20000 in
theorem gX0_idAt_X0_contains : GoodIn wsX0_idAt (wsV RX0 54 RX0 yX0_contains wsX0_contains) := goodIn_app (goodIn_of _ (by decide +kernel)) ggX0_idAt_X0_contains
set_option maxRecDepth 20000 in
theorem ggX0_idAt_X2_isId : GoodIn wsX0_idAt wsX2_isId := goodIn_r _ [12] (by decide +kernel) (by decide +kernel)
set_option maxRecDepth 20000 in
theorem gX0_idAt_X2_isId_n50 : GoodIn wsX0_idAt (wsX2_isId) := ggX0_idAt_X2_isId
set_option maxRecDepth 20000 in
theorem ggX0_stepsToRoot_X0_parentIn : GoodIn wsX0_stepsToRoot wsX0_parentIn := goodIn_r _ [5, 6, 7, 8, 9, 4, 10, 11, 12, 13, 14, 15, 16, 17, 18, 19, 20, 21, 22, 23, 24, 25, 26, 27] (by decide +kernel) (by decide +kernel)
set_option maxRecDepth 20000 in
theorem gX0_stepsToRoot_X0_parentIn : GoodIn wsX0_stepsToRoot (wsV RX0 61 RX0 yX0_parentIn wsX0_parentIn) := goodIn_app (goodIn_of _ (by decide +kernel)) ggX0_stepsToRoot_X0_parentIn
set_option maxRecDepth 20000 in
theorem ggX0_stepsToRoot_X2_isId : GoodIn wsX0_stepsToRoot wsX2_isId := goodIn_r _ [14] (by decide +kernel) (by decide +kernel)
set_option maxRecDepth 20000 in
theorem gX0_stepsToRoot_X2_isId_n50 : GoodIn wsX0_stepsToRoot (wsX2_isId) := ggX0_stepsToRoot_X2_isId
set_option maxRecDepth 20000 in
theorem ggX0_isInTree_X2_isId : GoodIn wsX0_isInTree wsX2_isId := goodIn_r _ [3] (by decide +kernel) (by decide +kernel)
set_option maxRecDepth 20000 in
theorem gX0_isInTree_X2_isId_n50 : GoodIn wsX0_isInTree (wsX2_isId) := ggX0_isInTree_X2_isId
set_option maxRecDepth 20000 in
theorem ggX0_isInTree_X0_parentIn : GoodIn wsX0_isInTree wsX0_parentIn := goodIn_r _ [8, 9, 10, 11, 12, 7, 13, 14, 1, 2, 3, 15, 16, 17, 18, 19, 20, 21, 22, 23, 24, 25, 26, 27] (by decide +kernel) (by decide +kernel)
set_option maxRecDepth 20000 in
theorem gX0_isInTree_X0_parentIn : GoodIn wsX0_isInTree (wsV RX0 61 RX0 yX0_parentIn wsX0_parentIn) := goodIn_app (goodIn_of _ (by decide +kernel)) ggX0_isInTree_X0_parentIn
set_option maxRecDepth 20000 in
theorem ggX0_grow_X0_findKnown : GoodIn wsX0_grow wsX0_findKnown := goodIn_r _ [5, 6, 7, 8, 9, 10, 11, 12, 13, 14, 15, 16, 17, 18, 19, 20, 4, 21, 22, 23, 24, 25, 26, 27, 28, 29, 30, 31, 32, 146, 147, 148, 149, 150, 151, 152, 153, 154, 155, 156, 157, 158, 159, 160, 161, 162, 163, 164, 165, 166, 167] (by decide +kernel) (by decide +kernel)
set_option maxRecDepth 20000 in
theorem gX0_grow_X0_findKnown : GoodIn wsX0_grow (wsV RX0 65 RX0 yX0_findKnown wsX0_findKnown) := goodIn_app (goodIn_of _ (by decide +kernel)) ggX0_grow_X0_findKnown
set_option maxRecDepth 20000 in
theorem ggX0_grow_X0_linkKnown : GoodIn wsX0_grow wsX0_linkKnown := goodIn_r _ [36, 37, 6, 7, 38, 9, 39, 40, 17, 8, 10, 11, 12, 41, 42, 43, 44, 45, 13, 14, 15, 16, 46, 25, 26, 27, 28, 47, 29, 30, 31, 32, 48, 49, 50, 4, 51, 22, 23, 24, 146, 147, 148, 149, 150, 151, 152, 153, 154, 155, 156, 157, 158, 159, 160, 161, 162, 163, 164, 165, 166, 167] (by decide +kernel) (by decide +kernel)
set_option maxRecDepth 20000 in
theorem gX0_grow_X0_linkKnown : GoodIn wsX0_grow (wsV RX0 68 RX0 yX0_linkKnown wsX0_linkKnown) := goodIn_app (goodIn_of _ (by decide +kernel)) ggX0_grow_X0_linkKnown
set_option maxRecDepth 20000 in
theorem ggX0_grow_X0_hangByLinks : GoodIn wsX0_grow wsX0_hangByLinks := goodIn_r _ [55, 56, 7, 37, 8, 9, 10, 11, 12, 57, 58, 59, 4, 60, 22, 23, 24, 146, 147, 148, 149, 150, 151, 152, 153, 154, 155, 156, 157, 158, 159, 160, 161, 162, 163, 164, 165, 166, 167] (by decide +kernel) (by decide +kernel)
set_option maxRecDepth 20000 in
theorem gX0_grow_X0_hangByLinks : GoodIn wsX0_grow (wsV RX0 71 RX0 yX0_hangByLinks wsX0_hangByLinks) := goodIn_app (goodIn_of _ (by decide +kernel)) ggX0_grow_X0_hangByLinks
set_option maxRecDepth 20000 in
theorem ggX0_grow_X0_keepMissing : GoodIn wsX0_grow wsX0_keepMissing := goodIn_r _ [64, 65, 7, 8, 9, 10, 11, 12, 66, 67, 68, 4, 69, 56, 70, 71, 72, 73, 146, 147, 148, 149, 150, 151, 152, 153, 154, 155, 156, 157, 158, 159, 160, 161, 162, 163, 164, 165, 166, 167] (by decide +kernel) (by decide +kernel)
set_option maxRecDepth 20000 in
theorem gX0_grow_X0_keepMissing : GoodIn wsX0_grow (wsV RX0 74 RX0 yX0_keepMissing wsX0_keepMissing) := goodIn_app (goodIn_of _ (by decide +kernel)) ggX0_grow_X0_keepMissing
set_option maxRecDepth 20000 in
theorem ggX0_grow_X0_hangReplies : GoodIn wsX0_grow wsX0_hangReplies := goodIn_r _ [77, 7, 56, 78, 9, 79, 80, 81, 17, 8, 10, 11, 12, 29, 30, 31, 32, 82, 83, 84, 4, 85, 86, 87, 88, 89, 90, 91, 92, 93, 146, 147, 148, 149, 150, 151, 152, 153, 154, 155, 156, 157, 158, 159, 160, 161, 162, 163, 164, 165, 166, 167] (by decide +kernel) (by decide +kernel)
set_option maxRecDepth 20000 in
theorem gX0_grow_X0_hangReplies : GoodIn wsX0_grow (wsV RX0 77 RX0 yX0_hangReplies wsX0_hangReplies) := goodIn_app (goodIn_of _ (by decide +kernel)) ggX0_grow_X0_hangReplies
set_option maxRecDepth 20000 in
theorem ggX0_grow_X0_measureTrees : GoodIn wsX0_grow wsX0_measureTrees := goodIn_r _ [97, 98, 99, 65, 100, 56, 7, 101, 102, 103, 4, 104, 105, 106, 107, 108, 91, 9, 92, 93, 89, 17, 8, 10, 11, 12, 22, 23, 24, 146, 147, 148, 149, 150, 151, 152, 153, 154, 155, 156, 157, 158, 159, 160, 161, 162, 163, 164, 165, 166, 167] (by decide +kernel) (by decide +kernel)
set_option maxRecDepth 20000 in
theorem gX0_grow_X0_measureTrees : GoodIn wsX0_grow (wsV RX0 80 RX0 yX0_measureTrees wsX0_measureTrees) := goodIn_app (goodIn_of _ (by decide +kernel)) ggX0_grow_X0_measureTrees
set_option maxRecDepth 20000 in
theorem ggX0_grow_X0_placeRoots : GoodIn wsX0_grow wsX0_placeRoots := goodIn_r _ [112, 113, 65, 56, 114, 115, 116, 4, 117, 118, 119, 120, 121, 122, 100, 123, 124, 125, 126, 22, 23, 24, 146, 147, 148, 149, 150, 151, 152, 153, 154, 155, 156, 157, 158] (by decide +kernel) (by decide +kernel)
set_option maxRecDepth 20000 in
theorem gX0_grow_X0_placeRoots : GoodIn wsX0_grow (wsV RX0 83 RX0 yX0_placeRoots wsX0_placeRoots) := goodIn_app (goodIn_of _ (by decide +kernel)) ggX0_grow_X0_placeRoots
set_option maxRecDepth 20000 in
theorem ggX0_grow_X0_placeTrees : GoodIn wsX0_grow wsX0_placeTrees := goodIn_r _ [130, 131, 132, 65, 133, 134, 135, 136, 4, 137, 98, 138, 139, 140, 141, 56, 123, 124, 125, 126, 22, 23, 24, 119, 120, 121, 122, 100, 142, 143, 144, 145, 146, 147, 148, 149, 150, 151, 152, 153, 154, 155, 156, 157, 158] (by decide +kernel) (by decide +kernel)
set_option maxRecDepth 20000 in
theorem gX0_grow_X0_placeTrees : GoodIn wsX0_grow (wsV RX0 86 RX0 yX0_placeTrees wsX0_placeTrees) := goodIn_app (goodIn_of _ (by decide +kernel)) ggX0_grow_X0_placeTrees
set_option maxRecDepth 20000 in
theorem ggX0_findKnown_X1_holds : GoodIn wsX0_findKnown wsX1_holds := goodIn_r _ [6, 7, 42, 43, 44, 45, 46, 47, 48, 49, 50] (by decide +kernel) (by decide +kernel)
set_option maxRecDepth 20000 in
theorem gX0_findKnown_X1_holds_n89 : GoodIn wsX0_findKnown (wsX1_holds) := ggX0_findKnown_X1_holds
set_option maxRecDepth 20000 in
theorem ggX0_findKnown_X1_parentToldBy : GoodIn wsX0_findKnown wsX1_parentToldBy := goodIn_r _ [10, 11, 12, 3, 5, 4, 6, 7, 42, 43, 44, 45, 46, 47, 48, 49, 50] (by decide +kernel) (by decide +kernel)
set_option maxRecDepth 20000 in
theorem gX0_findKnown_X1_parentToldBy_n94 : GoodIn wsX0_findKnown (wsX1_parentToldBy) := ggX0_findKnown_X1_parentToldBy
set_option maxRecDepth 20000 in
theorem ggX0_findKnown_X0_learn : GoodIn wsX0_findKnown wsX0_learn := goodIn_r _ [17, 1, 18, 19, 20, 29, 30, 31, 32, 33, 34, 35, 36, 37, 38, 39, 40, 41] (by decide +kernel) (by decide +kernel)
set_option maxRecDepth 20000 in
theorem gX0_findKnown_X0_learn : GoodIn wsX0_findKnown (wsV RX0 97 RX0 yX0_learn wsX0_learn) := goodIn_app (goodIn_of _ (by decide +kernel)) ggX0_findKnown_X0_learn
set_option maxRecDepth 20000 in
theorem ggX0_findKnown_X1_grandparentToldBy : GoodIn wsX0_findKnown wsX1_grandparentToldBy := goodIn_r _ [23, 24, 12, 3, 5, 4, 6, 7, 42, 43, 44, 45, 46, 47, 48, 49, 50] (by decide +kernel) (by decide +kernel)
set_option maxRecDepth 20000 in
theorem gX0_findKnown_X1_grandparentToldBy_n101 : GoodIn wsX0_findKnown (wsX1_grandparentToldBy) := ggX0_findKnown_X1_grandparentToldBy
set_option maxRecDepth 20000 in
theorem ggX0_findKnown_X1_handOf : GoodIn wsX0_findKnown wsX1_handOf := goodIn_r _ [27, 28, 12, 3, 5, 4, 6, 7, 42, 43, 44, 45, 46, 47, 48, 49, 50] (by decide +kernel) (by decide +kernel)
set_option maxRecDepth 20000 in
theorem gX0_findKnown_X1_handOf_n104 : GoodIn wsX0_findKnown (wsX1_handOf) := ggX0_findKnown_X1_handOf
set_option maxRecDepth 20000 in
theorem ggX0_learn_X2_isId : GoodIn wsX0_learn wsX2_isId := goodIn_r _ [4] (by decide +kernel) (by decide +kernel)
set_option maxRecDepth 20000 in
theorem gX0_learn_X2_isId_n50 : GoodIn wsX0_learn (wsX2_isId) := ggX0_learn_X2_isId
set_option maxRecDepth 20000 in
theorem ggX0_linkKnown_X1_toldParentOf : GoodIn wsX0_linkKnown wsX1_toldParentOf := goodIn_r _ [7, 8, 9, 10, 5, 11, 12, 13, 14, 15, 16, 17, 18, 19, 20, 21, 22, 23, 24, 25, 26, 27, 28, 29, 30, 31, 53, 54, 55, 56, 57, 58, 59, 60, 61] (by decide +kernel) (by decide +kernel)
set_option maxRecDepth 20000 in
theorem gX0_linkKnown_X1_toldParentOf_n107 : GoodIn wsX0_linkKnown (wsX1_toldParentOf) := ggX0_linkKnown_X1_toldParentOf
set_option maxRecDepth 20000 in
theorem ggX0_linkKnown_X0_linksLead : GoodIn wsX0_linkKnown wsX0_linksLead := goodIn_r _ [36, 1, 37, 38, 39, 40, 41, 42, 43, 44, 45, 46, 47, 48, 49, 50, 51, 52] (by decide +kernel) (by decide +kernel)
set_option maxRecDepth 20000 in
theorem gX0_linkKnown_X0_linksLead : GoodIn wsX0_linkKnown (wsV RX0 110 RX0 yX0_linksLead wsX0_linksLead) := goodIn_app (goodIn_of _ (by decide +kernel)) ggX0_linkKnown_X0_linksLead
set_option maxRecDepth 20000 in
theorem ggX0_linksLead_X2_isId : GoodIn wsX0_linksLead wsX2_isId := goodIn_r _ [4] (by decide +kernel) (by decide +kernel)
set_option maxRecDepth 20000 in
theorem gX0_linksLead_X2_isId_n50 : GoodIn wsX0_linksLead (wsX2_isId) := ggX0_linksLead_X2_isId
set_option maxRecDepth 20000 in
theorem ggX0_hangByLinks_X1_holds : GoodIn wsX0_hangByLinks wsX1_holds := goodIn_r _ [7, 8, 30, 31, 32, 33, 34, 35, 36, 37, 38] (by decide +kernel) (by decide +kernel)
set_option maxRecDepth 20000 in
theorem gX0_hangByLinks_X1_holds_n89 : GoodIn wsX0_hangByLinks (wsX1_holds) := ggX0_hangByLinks_X1_holds
set_option maxRecDepth 20000 in
theorem ggX0_hangByLinks_X0_parentByLinks : GoodIn wsX0_hangByLinks wsX0_parentByLinks := goodIn_r _ [13, 2, 3, 14, 15, 16, 4, 5, 6, 7, 8, 17, 18, 19, 20, 21, 22, 23, 24, 25, 26, 27, 28, 29, 30, 31, 32, 33, 34, 35, 36, 37, 38] (by decide +kernel) (by decide +kernel)
set_option maxRecDepth 20000 in
theorem gX0_hangByLinks_X0_parentByLinks : GoodIn wsX0_hangByLinks (wsV RX0 114 RX0 yX0_parentByLinks wsX0_parentByLinks) := goodIn_app (goodIn_of _ (by decide +kernel)) ggX0_hangByLinks_X0_parentByLinks
set_option maxRecDepth 20000 in
theorem ggX0_parentByLinks_X2_isId : GoodIn wsX0_parentByLinks wsX2_isId := goodIn_r _ [5] (by decide +kernel) (by decide +kernel)
set_option maxRecDepth 20000 in
theorem gX0_parentByLinks_X2_isId_n50 : GoodIn wsX0_parentByLinks (wsX2_isId) := ggX0_parentByLinks_X2_isId
set_option maxRecDepth 20000 in
theorem ggX0_parentByLinks_X1_holds : GoodIn wsX0_parentByLinks wsX1_holds := goodIn_r _ [9, 10, 24, 25, 26, 27, 28, 29, 30, 31, 32] (by decide +kernel) (by decide +kernel)
set_option maxRecDepth 20000 in
theorem gX0_parentByLinks_X1_holds_n89 : GoodIn wsX0_parentByLinks (wsX1_holds) := ggX0_parentByLinks_X1_holds
set_option maxRecDepth 20000 in
theorem ggX0_keepMissing_X1_holds : GoodIn wsX0_keepMissing wsX1_holds := goodIn_r _ [6, 7, 31, 32, 33, 34, 35, 36, 37, 38, 39] (by decide +kernel) (by decide +kernel)
set_option maxRecDepth 20000 in
theorem gX0_keepMissing_X1_holds_n89 : GoodIn wsX0_keepMissing (wsX1_holds) := ggX0_keepMissing_X1_holds
set_option maxRecDepth 20000 in
theorem ggX0_keepMissing_X0_countChildren : GoodIn wsX0_keepMissing wsX0_countChildren := goodIn_r _ [12, 13, 18, 19, 20, 21, 22, 23, 24, 25, 26, 27, 28, 29, 30] (by decide +kernel) (by decide +kernel)
set_option maxRecDepth 20000 in
theorem gX0_keepMissing_X0_countChildren : GoodIn wsX0_keepMissing (wsV RX0 117 RX0 yX0_countChildren wsX0_countChildren) := goodIn_app (goodIn_of _ (by decide +kernel)) ggX0_keepMissing_X0_countChildren
set_option maxRecDepth 20000 in
theorem ggX0_keepMissing_X0_freeChildren : GoodIn wsX0_keepMissing wsX0_freeChildren := goodIn_r _ [17, 13, 18, 19, 20, 21, 22, 23, 24, 25, 26, 27, 28, 29, 30] (by decide +kernel) (by decide +kernel)
set_option maxRecDepth 20000 in
theorem gX0_keepMissing_X0_freeChildren : GoodIn wsX0_keepMissing (wsV RX0 120 RX0 yX0_freeChildren wsX0_freeChildren) := goodIn_app (goodIn_of _ (by decide +kernel)) ggX0_keepMissing_X0_freeChildren
set_option maxRecDepth 20000 in
theorem ggX0_hangReplies_X1_isReply : GoodIn wsX0_hangReplies wsX1_isReply := goodIn_r _ [6, 7, 8, 9, 10, 4, 11, 12, 43, 44, 45, 46, 47, 48, 49, 50, 51] (by decide +kernel) (by decide +kernel)
set_option maxRecDepth 20000 in
theorem gX0_hangReplies_X1_isReply_n123 : GoodIn wsX0_hangReplies (wsX1_isReply) := ggX0_hangReplies_X1_isReply
set_option maxRecDepth 20000 in
theorem ggX0_hangReplies_X1_handOf : GoodIn wsX0_hangReplies wsX1_handOf := goodIn_r _ [15, 16, 8, 9, 10, 4, 11, 12, 43, 44, 45, 46, 47, 48, 49, 50, 51] (by decide +kernel) (by decide +kernel)
set_option maxRecDepth 20000 in
theorem gX0_hangReplies_X1_handOf_n104 : GoodIn wsX0_hangReplies (wsX1_handOf) := ggX0_hangReplies_X1_handOf
set_option maxRecDepth 20000 in
theorem ggX0_hangReplies_X0_letterAnsweredBy : GoodIn wsX0_hangReplies wsX0_letterAnsweredBy := goodIn_r _ [21, 2, 1, 22, 4, 23, 24, 7, 25, 26, 8, 9, 10, 11, 12, 27, 28, 29, 30, 31, 32, 33, 34, 35, 36, 37, 38, 39, 40, 41, 42, 43, 44, 45, 46, 47, 48, 49, 50, 51] (by decide +kernel) (by decide +kernel)
set_option maxRecDepth 20000 in
theorem gX0_hangReplies_X0_letterAnsweredBy : GoodIn wsX0_hangReplies (wsV RX0 126 RX0 yX0_letterAnsweredBy wsX0_letterAnsweredBy) := goodIn_app (goodIn_of _ (by decide +kernel)) ggX0_hangReplies_X0_letterAnsweredBy
set_option maxRecDepth 20000 in
theorem ggX0_letterAnsweredBy_X1_isAnsweredBy : GoodIn wsX0_letterAnsweredBy wsX1_isAnsweredBy := goodIn_r _ [6, 7, 8, 9, 10, 11, 12, 4, 13, 14, 31, 32, 33, 34, 35, 36, 37, 38, 39] (by decide +kernel) (by decide +kernel)
set_option maxRecDepth 20000 in
theorem gX0_letterAnsweredBy_X1_isAnsweredBy_n129 : GoodIn wsX0_letterAnsweredBy (wsX1_isAnsweredBy) := ggX0_letterAnsweredBy_X1_isAnsweredBy
set_option maxRecDepth 20000 in
theorem ggX0_letterAnsweredBy_X1_dayOf : GoodIn wsX0_letterAnsweredBy wsX1_dayOf := goodIn_r _ [17, 8, 10, 11, 12, 4, 13, 14, 31, 32, 33, 34, 35, 36, 37, 38, 39] (by decide +kernel) (by decide +kernel)
set_option maxRecDepth 20000 in
theorem gX0_letterAnsweredBy_X1_dayOf_n132 : GoodIn wsX0_letterAnsweredBy (wsX1_dayOf) := ggX0_letterAnsweredBy_X1_dayOf
set_option maxRecDepth 20000 in
theorem ggX0_measureTrees_X0_countUpwards : GoodIn wsX0_measureTrees wsX0_countUpwards := goodIn_r _ [11, 6, 1, 2, 12, 13, 14, 15, 5, 16, 17, 18, 19, 20, 21, 22, 23, 24, 25, 26, 27, 28, 29, 30, 31, 32, 33, 34, 35, 36, 37, 38, 39, 40, 41, 42, 43, 44, 45, 46, 47, 48, 49, 50] (by decide +kernel) (by decide +kernel)
set_option maxRecDepth 20000 in
theorem gX0_measureTrees_X0_countUpwards : GoodIn wsX0_measureTrees (wsV RX0 135 RX0 yX0_countUpwards wsX0_countUpwards) := goodIn_app (goodIn_of _ (by decide +kernel)) ggX0_measureTrees_X0_countUpwards
set_option maxRecDepth 20000 in
theorem ggX0_measureTrees_X1_dayOf : GoodIn wsX0_measureTrees wsX1_dayOf := goodIn_r _ [19, 20, 21, 22, 23, 17, 24, 25, 42, 43, 44, 45, 46, 47, 48, 49, 50] (by decide +kernel) (by decide +kernel)
set_option maxRecDepth 20000 in
theorem gX0_measureTrees_X1_dayOf_n132 : GoodIn wsX0_measureTrees (wsX1_dayOf) := ggX0_measureTrees_X1_dayOf
set_option maxRecDepth 20000 in
theorem ggX0_countUpwards_X1_dayOf : GoodIn wsX0_countUpwards wsX1_dayOf := goodIn_r _ [12, 13, 14, 15, 16, 10, 17, 18, 35, 36, 37, 38, 39, 40, 41, 42, 43] (by decide +kernel) (by decide +kernel)
set_option maxRecDepth 20000 in
theorem gX0_countUpwards_X1_dayOf_n132 : GoodIn wsX0_countUpwards (wsX1_dayOf) := ggX0_countUpwards_X1_dayOf
set_option maxRecDepth 20000 in
theorem ggX0_countUpwards_X2_isId : GoodIn wsX0_countUpwards wsX2_isId := goodIn_r _ [21] (by decide +kernel) (by decide +kernel)
set_option maxRecDepth 20000 in
theorem gX0_countUpwards_X2_isId_n50 : GoodIn wsX0_countUpwards (wsX2_isId) := ggX0_countUpwards_X2_isId
set_option maxRecDepth 20000 in
theorem ggX0_comesBefore_X0_contains : GoodIn wsX0_comesBefore wsX0_contains := goodIn_r _ [7, 8, 9, 10, 11, 12, 13, 14, 15, 16, 17, 18, 19, 20, 21, 22, 23, 24] (by decide +kernel) (by decide +kernel)
set_option maxRecDepth 20000 in
theorem gX0_comesBefore_X0_contains : GoodIn wsX0_comesBefore (wsV RX0 54 RX0 yX0_contains wsX0_contains) := goodIn_app (goodIn_of _ (by decide +kernel)) ggX0_comesBefore_X0_contains
set_option maxRecDepth 20000 in
theorem ggX0_placeRoots_X0_placeRoot : GoodIn wsX0_placeRoots wsX0_placeRoot := goodIn_r _ [8, 9, 10, 11, 12, 7, 13, 3, 14, 15, 16, 17, 18, 2, 19, 20, 21, 22, 23, 24, 25, 26, 27, 28, 29, 30, 31, 32, 33, 34] (by decide +kernel) (by decide +kernel)
set_option maxRecDepth 20000 in
theorem gX0_placeRoots_X0_placeRoot : GoodIn wsX0_placeRoots (wsV RX0 144 RX0 yX0_placeRoot wsX0_placeRoot) := goodIn_app (goodIn_of _ (by decide +kernel)) ggX0_placeRoots_X0_placeRoot
set_option maxRecDepth 20000 in
theorem ggX0_placeRoot_X0_comesBefore : GoodIn wsX0_placeRoot wsX0_comesBefore := goodIn_r _ [6, 7, 8, 9, 10, 11, 5, 12, 13, 14, 15, 16, 17, 18, 19, 20, 21, 22, 23, 24, 25, 26, 27, 28, 29] (by decide +kernel) (by decide +kernel)
set_option maxRecDepth 20000 in
theorem gX0_placeRoot_X0_comesBefore : GoodIn wsX0_placeRoot (wsV RX0 147 RX0 yX0_comesBefore wsX0_comesBefore) := goodIn_app (goodIn_of _ (by decide +kernel)) ggX0_placeRoot_X0_comesBefore
set_option maxRecDepth 20000 in
theorem ggX0_placeRoot_X2_isId : GoodIn wsX0_placeRoot wsX2_isId := goodIn_r _ [16] (by decide +kernel) (by decide +kernel)
set_option maxRecDepth 20000 in
theorem gX0_placeRoot_X2_isId_n50 : GoodIn wsX0_placeRoot (wsX2_isId) := ggX0_placeRoot_X2_isId
set_option maxRecDepth 20000 in
theorem ggX0_placeTrees_X0_offsetBehindParent : GoodIn wsX0_placeTrees wsX0_offsetBehindParent := goodIn_r _ [9, 10, 11, 12, 13, 8, 14, 15, 16, 17, 18, 19, 3, 20, 21, 22, 23, 24, 25, 26, 27, 32, 33, 34, 35, 36, 37, 38, 39, 40, 41, 42, 43, 44] (by decide +kernel) (by decide +kernel)
set_option maxRecDepth 20000 in
theorem gX0_placeTrees_X0_offsetBehindParent : GoodIn wsX0_placeTrees (wsV RX0 150 RX0 yX0_offsetBehindParent wsX0_offsetBehindParent) := goodIn_app (goodIn_of _ (by decide +kernel)) ggX0_placeTrees_X0_offsetBehindParent
set_option maxRecDepth 20000 in
theorem ggX0_placeTrees_X0_startInOrder : GoodIn wsX0_placeTrees wsX0_startInOrder := goodIn_r _ [31, 1, 15, 20, 21, 22, 32, 33, 34, 35, 36, 37, 38, 39, 40, 41, 42, 43, 44] (by decide +kernel) (by decide +kernel)
set_option maxRecDepth 20000 in
theorem gX0_placeTrees_X0_startInOrder : GoodIn wsX0_placeTrees (wsV RX0 153 RX0 yX0_startInOrder wsX0_startInOrder) := goodIn_app (goodIn_of _ (by decide +kernel)) ggX0_placeTrees_X0_startInOrder
set_option maxRecDepth 20000 in
theorem ggX0_placeTrees_X2_isId : GoodIn wsX0_placeTrees wsX2_isId := goodIn_r _ [22] (by decide +kernel) (by decide +kernel)
set_option maxRecDepth 20000 in
theorem gX0_placeTrees_X2_isId_n50 : GoodIn wsX0_placeTrees (wsX2_isId) := ggX0_placeTrees_X2_isId
set_option maxRecDepth 20000 in
theorem ggX0_offsetBehindParent_X0_parentIn : GoodIn wsX0_offsetBehindParent wsX0_parentIn := goodIn_r _ [6, 7, 8, 9, 10, 5, 11, 12, 13, 14, 15, 21, 22, 23, 24, 25, 26, 27, 28, 29, 30, 31, 32, 33] (by decide +kernel) (by decide +kernel)
set_option maxRecDepth 20000 in
theorem gX0_offsetBehindParent_X0_parentIn : GoodIn wsX0_offsetBehindParent (wsV RX0 61 RX0 yX0_parentIn wsX0_parentIn) := goodIn_app (goodIn_of _ (by decide +kernel)) ggX0_offsetBehindParent_X0_parentIn
set_option maxRecDepth 20000 in
theorem ggX0_offsetBehindParent_X0_comesBefore : GoodIn wsX0_offsetBehindParent wsX0_comesBefore := goodIn_r _ [19, 7, 20, 8, 9, 10, 5, 11, 12, 13, 14, 15, 21, 22, 23, 24, 25, 26, 27, 28, 29, 30, 31, 32, 33] (by decide +kernel) (by decide +kernel)
set_option maxRecDepth 20000 in
theorem gX0_offsetBehindParent_X0_comesBefore : GoodIn wsX0_offsetBehindParent (wsV RX0 147 RX0 yX0_comesBefore wsX0_comesBefore) := goodIn_app (goodIn_of _ (by decide +kernel)) ggX0_offsetBehindParent_X0_comesBefore
set_option maxRecDepth 20000 in
theorem ggX0_startInOrder_X2_isId : GoodIn wsX0_startInOrder wsX2_isId := goodIn_r _ [5] (by decide +kernel) (by decide +kernel)
set_option maxRecDepth 20000 in
theorem gX0_startInOrder_X2_isId_n50 : GoodIn wsX0_startInOrder (wsX2_isId) := ggX0_startInOrder_X2_isId
set_option maxRecDepth 20000 in
theorem ggX1_put_X2_isId : GoodIn wsX1_put wsX2_isId := goodIn_r _ [12] (by decide +kernel) (by decide +kernel)
set_option maxRecDepth 20000 in
theorem gX1_put_X2_isId_n40 : GoodIn wsX1_put (wsX2_isId) := ggX1_put_X2_isId
set_option maxRecDepth 20000 in
theorem ggX1_drop_X2_isId : GoodIn wsX1_drop wsX2_isId := goodIn_r _ [4] (by decide +kernel) (by decide +kernel)
set_option maxRecDepth 20000 in
theorem gX1_drop_X2_isId_n40 : GoodIn wsX1_drop (wsX2_isId) := ggX1_drop_X2_isId
set_option maxRecDepth 20000 in
theorem ggX1_setHand_X1_holds : GoodIn wsX1_setHand wsX1_holds := goodIn_r _ [6, 7, 8, 9, 10, 11, 12, 13, 14, 15, 16] (by decide +kernel) (by decide +kernel)
set_option maxRecDepth 20000 in
theorem gX1_setHand_X1_holds : GoodIn wsX1_setHand (wsV RX1 44 RX1 yX1_holds wsX1_holds) := goodIn_app (goodIn_of _ (by decide +kernel)) ggX1_setHand_X1_holds
set_option maxRecDepth 20000 in
theorem ggX1_handOf_X1_holds : GoodIn wsX1_handOf wsX1_holds := goodIn_r _ [6, 7, 8, 9, 10, 11, 12, 13, 14, 15, 16] (by decide +kernel) (by decide +kernel)
set_option maxRecDepth 20000 in
theorem gX1_handOf_X1_holds : GoodIn wsX1_handOf (wsV RX1 44 RX1 yX1_holds wsX1_holds) := goodIn_app (goodIn_of _ (by decide +kernel)) ggX1_handOf_X1_holds
set_option maxRecDepth 20000 in
theorem ggX1_isUnread_X1_holds : GoodIn wsX1_isUnread wsX1_holds := goodIn_r _ [6, 7, 8, 9, 10, 11, 12, 13, 14, 15, 16] (by decide +kernel) (by decide +kernel)
set_option maxRecDepth 20000 in
theorem gX1_isUnread_X1_holds : GoodIn wsX1_isUnread (wsV RX1 44 RX1 yX1_holds wsX1_holds) := goodIn_app (goodIn_of _ (by decide +kernel)) ggX1_isUnread_X1_holds
set_option maxRecDepth 20000 in
theorem ggX1_markRead_X1_isUnread : GoodIn wsX1_markRead wsX1_isUnread := goodIn_r _ [6, 1, 7, 8, 9, 5, 10, 11, 12, 13, 14, 15, 16, 17, 18, 19, 20] (by decide +kernel) (by decide +kernel)
set_option maxRecDepth 20000 in
theorem gX1_markRead_X1_isUnread : GoodIn wsX1_markRead (wsV RX1 47 RX1 yX1_isUnread wsX1_isUnread) := goodIn_app (goodIn_of _ (by decide +kernel)) ggX1_markRead_X1_isUnread
set_option maxRecDepth 20000 in
theorem ggX1_writerBit_X1_holds : GoodIn wsX1_writerBit wsX1_holds := goodIn_r _ [6, 7, 8, 9, 10, 11, 12, 13, 14, 15, 16] (by decide +kernel) (by decide +kernel)
set_option maxRecDepth 20000 in
theorem gX1_writerBit_X1_holds : GoodIn wsX1_writerBit (wsV RX1 44 RX1 yX1_holds wsX1_holds) := goodIn_app (goodIn_of _ (by decide +kernel)) ggX1_writerBit_X1_holds
set_option maxRecDepth 20000 in
theorem ggX1_dayOf_X1_holds : GoodIn wsX1_dayOf wsX1_holds := goodIn_r _ [6, 7, 8, 9, 10, 11, 12, 13, 14, 15, 16] (by decide +kernel) (by decide +kernel)
set_option maxRecDepth 20000 in
theorem gX1_dayOf_X1_holds : GoodIn wsX1_dayOf (wsV RX1 44 RX1 yX1_holds wsX1_holds) := goodIn_app (goodIn_of _ (by decide +kernel)) ggX1_dayOf_X1_holds
set_option maxRecDepth 20000 in
theorem ggX1_parentToldBy_X1_holds : GoodIn wsX1_parentToldBy wsX1_holds := goodIn_r _ [6, 7, 8, 9, 10, 11, 12, 13, 14, 15, 16] (by decide +kernel) (by decide +kernel)
set_option maxRecDepth 20000 in
theorem gX1_parentToldBy_X1_holds : GoodIn wsX1_parentToldBy (wsV RX1 44 RX1 yX1_holds wsX1_holds) := goodIn_app (goodIn_of _ (by decide +kernel)) ggX1_parentToldBy_X1_holds
set_option maxRecDepth 20000 in
theorem ggX1_grandparentToldBy_X1_holds : GoodIn wsX1_grandparentToldBy wsX1_holds := goodIn_r _ [6, 7, 8, 9, 10, 11, 12, 13, 14, 15, 16] (by decide +kernel) (by decide +kernel)
set_option maxRecDepth 20000 in
theorem gX1_grandparentToldBy_X1_holds : GoodIn wsX1_grandparentToldBy (wsV RX1 44 RX1 yX1_holds wsX1_holds) := goodIn_app (goodIn_of _ (by decide +kernel)) ggX1_grandparentToldBy_X1_holds
set_option maxRecDepth 20000 in
theorem ggX1_toldParentOf_X1_holds : GoodIn wsX1_toldParentOf wsX1_holds := goodIn_r _ [5, 6, 26, 27, 28, 29, 30, 31, 32, 33, 34] (by decide +kernel) (by decide +kernel)
set_option maxRecDepth 20000 in
theorem gX1_toldParentOf_X1_holds : GoodIn wsX1_toldParentOf (wsV RX1 44 RX1 yX1_holds wsX1_holds) := goodIn_app (goodIn_of _ (by decide +kernel)) ggX1_toldParentOf_X1_holds
set_option maxRecDepth 20000 in
theorem ggX1_toldParentOf_X1_guessedParentOf : GoodIn wsX1_toldParentOf wsX1_guessedParentOf := goodIn_r _ [10, 11, 12, 13, 4, 14, 15, 1, 2, 3, 5, 6, 16, 17, 18, 19, 20, 26, 27, 28, 29, 30, 31, 32, 33, 34] (by decide +kernel) (by decide +kernel)
set_option maxRecDepth 20000 in
theorem gX1_toldParentOf_X1_guessedParentOf : GoodIn wsX1_toldParentOf (wsV RX1 50 RX1 yX1_guessedParentOf wsX1_guessedParentOf) := goodIn_app (goodIn_of _ (by decide +kernel)) ggX1_toldParentOf_X1_guessedParentOf
set_option maxRecDepth 20000 in
theorem ggX1_toldParentOf_X1_handOf : GoodIn wsX1_toldParentOf wsX1_handOf := goodIn_r _ [24, 25, 1, 2, 3, 4, 5, 6, 26, 27, 28, 29, 30, 31, 32, 33, 34] (by decide +kernel) (by decide +kernel)
set_option maxRecDepth 20000 in
theorem gX1_toldParentOf_X1_handOf : GoodIn wsX1_toldParentOf (wsV RX1 54 RX1 yX1_handOf wsX1_handOf) := goodIn_app (goodIn_of _ (by decide +kernel)) ggX1_toldParentOf_X1_handOf
set_option maxRecDepth 20000 in
theorem ggX1_toldParentOf_X1_parentToldBy : GoodIn wsX1_toldParentOf wsX1_parentToldBy := goodIn_r _ [14, 15, 1, 2, 3, 4, 5, 6, 26, 27, 28, 29, 30, 31, 32, 33, 34] (by decide +kernel) (by decide +kernel)
set_option maxRecDepth 20000 in
theorem gX1_toldParentOf_X1_parentToldBy : GoodIn wsX1_toldParentOf (wsV RX1 57 RX1 yX1_parentToldBy wsX1_parentToldBy) := goodIn_app (goodIn_of _ (by decide +kernel)) ggX1_toldParentOf_X1_parentToldBy
set_option maxRecDepth 20000 in
theorem ggX1_guessedParentOf_X1_parentToldBy : GoodIn wsX1_guessedParentOf wsX1_parentToldBy := goodIn_r _ [5, 6, 7, 8, 9, 4, 10, 11, 17, 18, 19, 20, 21, 22, 23, 24, 25] (by decide +kernel) (by decide +kernel)
set_option maxRecDepth 20000 in
theorem gX1_guessedParentOf_X1_parentToldBy : GoodIn wsX1_guessedParentOf (wsV RX1 57 RX1 yX1_parentToldBy wsX1_parentToldBy) := goodIn_app (goodIn_of _ (by decide +kernel)) ggX1_guessedParentOf_X1_parentToldBy
set_option maxRecDepth 20000 in
theorem ggX1_guessedParentOf_X1_grandparentToldBy : GoodIn wsX1_guessedParentOf wsX1_grandparentToldBy := goodIn_r _ [15, 16, 7, 8, 9, 4, 10, 11, 17, 18, 19, 20, 21, 22, 23, 24, 25] (by decide +kernel) (by decide +kernel)
set_option maxRecDepth 20000 in
theorem gX1_guessedParentOf_X1_grandparentToldBy : GoodIn wsX1_guessedParentOf (wsV RX1 60 RX1 yX1_grandparentToldBy wsX1_grandparentToldBy) := goodIn_app (goodIn_of _ (by decide +kernel)) ggX1_guessedParentOf_X1_grandparentToldBy
set_option maxRecDepth 20000 in
theorem ggX1_isReply_X1_holds : GoodIn wsX1_isReply wsX1_holds := goodIn_r _ [6, 7, 8, 9, 10, 11, 12, 13, 14, 15, 16] (by decide +kernel) (by decide +kernel)
set_option maxRecDepth 20000 in
theorem gX1_isReply_X1_holds : GoodIn wsX1_isReply (wsV RX1 44 RX1 yX1_holds wsX1_holds) := goodIn_app (goodIn_of _ (by decide +kernel)) ggX1_isReply_X1_holds
set_option maxRecDepth 20000 in
theorem ggX1_isAnsweredBy_X1_holds : GoodIn wsX1_isAnsweredBy wsX1_holds := goodIn_r _ [8, 9, 10, 11, 12, 13, 14, 15, 16, 17, 18] (by decide +kernel) (by decide +kernel)
set_option maxRecDepth 20000 in
theorem gX1_isAnsweredBy_X1_holds : GoodIn wsX1_isAnsweredBy (wsV RX1 44 RX1 yX1_holds wsX1_holds) := goodIn_app (goodIn_of _ (by decide +kernel)) ggX1_isAnsweredBy_X1_holds
set_option maxRecDepth 20000 in
theorem ggX2_init_X1_init : GoodIn wsX2_init wsX1_init := goodIn_r _ [13, 14, 2, 3, 15, 16, 17, 18, 19, 20, 21, 22, 23, 24, 25, 41, 42, 43, 44, 45, 46, 47, 48, 49] (by decide +kernel) (by decide +kernel)
set_option maxRecDepth 20000 in
theorem gX2_init_X1_init_n9 : GoodIn wsX2_init (wsX1_init) := ggX2_init_X1_init
set_option maxRecDepth 20000 in
theorem ggX2_init_X0_init : GoodIn wsX2_init wsX0_init := goodIn_r _ [27, 28, 2, 3, 15, 29, 17, 30, 31, 32, 33, 34, 35, 36, 37, 38, 39, 40, 52, 53, 54, 55, 56, 57, 58, 59, 60, 61, 62, 63, 64] (by decide +kernel) (by decide +kernel)
set_option maxRecDepth 20000 in
theorem gX2_init_X0_init_n18 : GoodIn wsX2_init (wsX0_init) := ggX2_init_X0_init
set_option maxRecDepth 20000 in
theorem ggX2_letter_X2_requireId : GoodIn wsX2_letter wsX2_requireId := goodIn_ca (goodIn_r _ [8, 9, 10, 11, 12, 7, 13] (by decide +kernel) (by decide +kernel)) (goodIn_sub (fun _ h => List.mem_cons_of_mem _ (List.mem_append_right _ h)) (by decide +kernel))
set_option maxRecDepth 20000 in
theorem gX2_letter_X2_requireId : GoodIn wsX2_letter (va_wsS RX2 25 yX2_requireId wsX2_requireId) := goodIn_app (goodIn_of _ (by decide +kernel)) ggX2_letter_X2_requireId
set_option maxRecDepth 20000 in
theorem ggX2_letter_X2_requireTold : GoodIn wsX2_letter wsX2_requireTold := goodIn_ca (goodIn_r _ [16, 9, 10, 5, 6, 7, 8, 11, 12, 13] (by decide +kernel) (by decide +kernel)) (goodIn_sub (fun _ h => List.mem_cons_of_mem _ (List.mem_append_right _ h)) (by decide +kernel))
set_option maxRecDepth 20000 in
theorem gX2_letter_X2_requireTold : GoodIn wsX2_letter (va_wsS RX2 29 yX2_requireTold wsX2_requireTold) := goodIn_app (goodIn_of _ (by decide +kernel)) ggX2_letter_X2_requireTold
set_option maxRecDepth 20000 in
theorem ggX2_letter_X2_requireBelow : GoodIn wsX2_letter wsX2_requireBelow := goodIn_ca (goodIn_r _ [19, 9, 10] (by decide +kernel) (by decide +kernel)) (goodIn_sub (fun _ h => List.mem_cons_of_mem _ (List.mem_append_right _ h)) (by decide +kernel))
set_option maxRecDepth 20000 in
theorem gX2_letter_X2_requireBelow : GoodIn wsX2_letter (va_wsS RX2 33 yX2_requireBelow wsX2_requireBelow) := goodIn_app (goodIn_of _ (by decide +kernel)) ggX2_letter_X2_requireBelow
set_option maxRecDepth 20000 in
theorem ggX2_letter_X1_holds : GoodIn wsX2_letter wsX1_holds := goodIn_r _ [23, 24, 175, 176, 177, 178, 179, 180, 181, 182, 183] (by decide +kernel) (by decide +kernel)
set_option maxRecDepth 20000 in
theorem gX2_letter_X1_holds_n36 : GoodIn wsX2_letter (wsX1_holds) := ggX2_letter_X1_holds
set_option maxRecDepth 20000 in
theorem ggX2_letter_X1_put : GoodIn wsX2_letter wsX1_put := goodIn_r _ [27, 24, 28, 29, 30, 31, 32, 33, 34, 35, 12, 7, 13, 175, 176, 177, 178, 179, 180, 181, 182, 183] (by decide +kernel) (by decide +kernel)
set_option maxRecDepth 20000 in
theorem gX2_letter_X1_put_n47 : GoodIn wsX2_letter (wsX1_put) := ggX2_letter_X1_put
set_option maxRecDepth 20000 in
theorem ggX2_letter_X0_grow : GoodIn wsX2_letter wsX0_grow := goodIn_r _ [39, 40, 41, 42, 37, 43, 44, 45, 20, 21, 22, 23, 24, 46, 47, 48, 29, 49, 50, 51, 52, 53, 12, 7, 13, 54, 55, 56, 28, 57, 58, 59, 35, 60, 61, 62, 63, 64, 65, 66, 67, 68, 69, 70, 71, 72, 73, 74, 75, 76, 77, 78, 79, 80, 81, 82, 83, 84, 85, 86, 87, 88, 89, 90, 91, 92, 93, 94, 95, 96, 97, 98, 99, 100, 101, 102, 103, 104, 105, 106, 107, 30, 108, 109, 110, 111, 112, 113, 114, 32, 31, 115, 116, 117, 118, 119, 120, 121, 122, 123, 124, 125, 126, 127, 128, 129, 130, 131, 132, 133, 134, 135, 136, 137, 138, 139, 140, 141, 142, 143, 144, 145, 146, 147, 148, 149, 150, 151, 152, 153, 154, 155, 156, 157, 158, 159, 160, 161, 162, 163, 164, 165, 166, 167, 168, 169, 184, 185, 186, 187, 188, 189, 190, 191, 192, 193, 194, 195, 196, 175, 176, 177, 178, 179, 180, 181, 182, 183] (by decide +kernel) (by decide +kernel)
set_option maxRecDepth 20000 in
theorem gX2_letter_X0_grow_n51 : GoodIn wsX2_letter (wsX0_grow) := ggX2_letter_X0_grow
set_option maxRecDepth 20000 in
theorem ggX2_letter_X0_countRoots : GoodIn wsX2_letter wsX0_countRoots := goodIn_r _ [172, 137, 184, 185, 186, 187, 188, 189, 190, 191, 192, 193, 194, 195, 196] (by decide +kernel) (by decide +kernel)
set_option maxRecDepth 20000 in
theorem gX2_letter_X0_countRoots_n54 : GoodIn wsX2_letter (wsX0_countRoots) := ggX2_letter_X0_countRoots
set_option maxRecDepth 20000 in
theorem ggX2_delete_X2_requireLetter : GoodIn wsX2_delete wsX2_requireLetter := goodIn_ca (goodIn_ca (goodIn_r _ [7, 8, 9, 1, 10, 11, 6, 12, 13, 14, 15, 16, 17, 18, 19, 20, 21, 22, 169, 170, 171, 172, 173, 174, 175, 176, 177, 178, 179] (by decide +kernel) (by decide +kernel)) (goodIn_sub (fun _ h => List.mem_cons_of_mem _ (List.mem_append_left _ (List.mem_append_right _ h))) (by decide +kernel))) (goodIn_sub (fun _ h => List.mem_cons_of_mem _ (List.mem_append_right _ h)) (by decide +kernel))
set_option maxRecDepth 20000 in
theorem gX2_delete_X2_requireLetter : GoodIn wsX2_delete (wsV RX2 58 RX2 yX2_requireLetter wsX2_requireLetter) := goodIn_app (goodIn_of _ (by decide +kernel)) ggX2_delete_X2_requireLetter
set_option maxRecDepth 20000 in
theorem ggX2_delete_X1_drop : GoodIn wsX2_delete wsX1_drop := goodIn_r _ [25, 22, 16, 6, 17, 171, 172, 173, 174, 175, 176, 177, 178, 179] (by decide +kernel) (by decide +kernel)
set_option maxRecDepth 20000 in
theorem gX2_delete_X1_drop_n61 : GoodIn wsX2_delete (wsX1_drop) := ggX2_delete_X1_drop
set_option maxRecDepth 20000 in
theorem ggX2_delete_X0_grow : GoodIn wsX2_delete wsX0_grow := goodIn_r _ [29, 30, 31, 32, 27, 33, 34, 35, 18, 19, 20, 21, 22, 36, 37, 38, 39, 40, 41, 42, 43, 44, 16, 6, 17, 45, 46, 47, 48, 49, 50, 51, 52, 53, 54, 55, 56, 57, 58, 59, 60, 61, 62, 63, 64, 65, 66, 67, 68, 69, 70, 71, 72, 73, 74, 75, 76, 77, 78, 79, 80, 81, 82, 83, 84, 85, 86, 87, 88, 89, 90, 91, 92, 93, 94, 95, 96, 97, 98, 99, 100, 101, 102, 103, 104, 105, 106, 107, 108, 109, 110, 111, 112, 113, 114, 115, 116, 117, 118, 119, 120, 121, 122, 123, 124, 125, 126, 127, 128, 129, 130, 131, 132, 133, 134, 135, 136, 137, 138, 139, 140, 141, 142, 143, 144, 145, 146, 147, 148, 149, 150, 151, 152, 153, 154, 155, 156, 157, 158, 159, 160, 161, 162, 163, 164, 165, 180, 181, 182, 183, 184, 185, 186, 187, 188, 189, 190, 191, 192, 171, 172, 173, 174, 175, 176, 177, 178, 179] (by decide +kernel) (by decide +kernel)
set_option maxRecDepth 20000 in
theorem gX2_delete_X0_grow_n51 : GoodIn wsX2_delete (wsX0_grow) := ggX2_delete_X0_grow
set_option maxRecDepth 20000 in
theorem ggX2_delete_X0_countRoots : GoodIn wsX2_delete wsX0_countRoots := goodIn_r _ [168, 133, 180, 181, 182, 183, 184, 185, 186, 187, 188, 189, 190, 191, 192] (by decide +kernel) (by decide +kernel)
set_option maxRecDepth 20000 in
theorem gX2_delete_X0_countRoots_n54 : GoodIn wsX2_delete (wsX0_countRoots) := ggX2_delete_X0_countRoots
set_option maxRecDepth 20000 in
theorem ggX2_split_X2_requireLetter : GoodIn wsX2_split wsX2_requireLetter := goodIn_ca (goodIn_ca (goodIn_r _ [7, 8, 9, 2, 10, 11, 6, 12, 13, 14, 15, 16, 17, 18, 19, 20, 21, 22, 166, 167, 168, 169, 170, 171, 172, 173, 174, 175, 176] (by decide +kernel) (by decide +kernel)) (goodIn_sub (fun _ h => List.mem_cons_of_mem _ (List.mem_append_left _ (List.mem_append_right _ h))) (by decide +kernel))) (goodIn_sub (fun _ h => List.mem_cons_of_mem _ (List.mem_append_right _ h)) (by decide +kernel))
set_option maxRecDepth 20000 in
theorem gX2_split_X2_requireLetter : GoodIn wsX2_split (wsV RX2 58 RX2 yX2_requireLetter wsX2_requireLetter) := goodIn_app (goodIn_of _ (by decide +kernel)) ggX2_split_X2_requireLetter
set_option maxRecDepth 20000 in
theorem ggX2_split_X0_parentIn : GoodIn wsX2_split wsX0_parentIn := goodIn_r _ [26, 27, 28, 29, 30, 24, 31, 32, 16, 6, 17, 177, 178, 179, 180, 181, 182, 183, 184, 185, 186, 187, 188, 189] (by decide +kernel) (by decide +kernel)
set_option maxRecDepth 20000 in
theorem gX2_split_X0_parentIn_n64 : GoodIn wsX2_split (wsX0_parentIn) := ggX2_split_X0_parentIn
set_option maxRecDepth 20000 in
theorem ggX2_split_X1_setHand : GoodIn wsX2_split wsX1_setHand := goodIn_r _ [35, 36, 37, 18, 20, 19, 21, 22, 168, 169, 170, 171, 172, 173, 174, 175, 176] (by decide +kernel) (by decide +kernel)
set_option maxRecDepth 20000 in
theorem gX2_split_X1_setHand_n68 : GoodIn wsX2_split (wsX1_setHand) := ggX2_split_X1_setHand
set_option maxRecDepth 20000 in
theorem ggX2_split_X0_grow : GoodIn wsX2_split wsX0_grow := goodIn_r _ [40, 41, 42, 43, 24, 44, 45, 46, 18, 19, 20, 21, 22, 47, 48, 49, 50, 37, 51, 52, 53, 54, 16, 6, 17, 55, 56, 57, 58, 59, 60, 61, 36, 62, 63, 64, 65, 66, 67, 68, 69, 70, 71, 72, 73, 74, 75, 76, 77, 78, 79, 80, 81, 82, 83, 84, 27, 85, 86, 87, 88, 89, 90, 91, 92, 32, 93, 94, 95, 96, 97, 98, 99, 100, 101, 102, 103, 104, 105, 106, 107, 108, 109, 110, 111, 112, 113, 114, 115, 116, 117, 118, 119, 120, 121, 122, 123, 124, 125, 126, 127, 128, 129, 130, 131, 132, 133, 134, 135, 136, 137, 138, 139, 140, 141, 142, 143, 144, 145, 146, 147, 148, 149, 28, 29, 30, 31, 150, 151, 152, 153, 154, 155, 156, 157, 158, 159, 160, 161, 23, 25, 26, 162, 163, 164, 165, 177, 178, 179, 180, 181, 182, 183, 184, 185, 186, 187, 188, 189, 168, 169, 170, 171, 172, 173, 174, 175, 176] (by decide +kernel) (by decide +kernel)
set_option maxRecDepth 20000 in
theorem gX2_split_X0_grow_n51 : GoodIn wsX2_split (wsX0_grow) := ggX2_split_X0_grow
set_option maxRecDepth 20000 in
theorem ggX2_join_X2_requireId : GoodIn wsX2_join wsX2_requireId := goodIn_ca (goodIn_r _ [10, 1, 2, 11, 12, 9, 13] (by decide +kernel) (by decide +kernel)) (goodIn_sub (fun _ h => List.mem_cons_of_mem _ (List.mem_append_left _ (List.mem_append_right _ h))) (by decide +kernel))
set_option maxRecDepth 20000 in
theorem gX2_join_X2_requireId : GoodIn wsX2_join (va_wsS RX2 25 yX2_requireId wsX2_requireId) := goodIn_app (goodIn_of _ (by decide +kernel)) ggX2_join_X2_requireId
set_option maxRecDepth 20000 in
theorem ggX2_join_X2_requireLetter : GoodIn wsX2_join wsX2_requireLetter := goodIn_ca (goodIn_ca (goodIn_r _ [17, 3, 4, 6, 7, 8, 9, 10, 1, 2, 11, 12, 13, 18, 19, 20, 21, 22, 169, 170, 171, 172, 173, 174, 175, 176, 177, 178, 179] (by decide +kernel) (by decide +kernel)) (goodIn_sub (fun _ h => List.mem_cons_of_mem _ (List.mem_append_right _ h)) (by decide +kernel))) (goodIn_sub (fun _ h => List.mem_cons_of_mem _ (List.mem_append_left _ (List.mem_append_right _ h))) (by decide +kernel))
set_option maxRecDepth 20000 in
theorem gX2_join_X2_requireLetter : GoodIn wsX2_join (wsV RX2 58 RX2 yX2_requireLetter wsX2_requireLetter) := goodIn_app (goodIn_of _ (by decide +kernel)) ggX2_join_X2_requireLetter
set_option maxRecDepth 20000 in
theorem ggX2_join_X0_isInTree : GoodIn wsX2_join wsX0_isInTree := goodIn_r _ [26, 12, 9, 13, 27, 28, 29, 24, 30, 31, 32, 33, 34, 35, 36, 180, 181, 182, 183, 184, 185, 186, 187, 188, 189, 190, 191, 192] (by decide +kernel) (by decide +kernel)
set_option maxRecDepth 20000 in
theorem gX2_join_X0_isInTree_n76 : GoodIn wsX2_join (wsX0_isInTree) := ggX2_join_X0_isInTree
set_option maxRecDepth 20000 in
theorem ggX2_join_X1_setHand : GoodIn wsX2_join wsX1_setHand := goodIn_r _ [39, 40, 41, 18, 20, 19, 21, 22, 171, 172, 173, 174, 175, 176, 177, 178, 179] (by decide +kernel) (by decide +kernel)
set_option maxRecDepth 20000 in
theorem gX2_join_X1_setHand_n68 : GoodIn wsX2_join (wsX1_setHand) := ggX2_join_X1_setHand
set_option maxRecDepth 20000 in
theorem ggX2_join_X0_grow : GoodIn wsX2_join wsX0_grow := goodIn_r _ [44, 45, 46, 47, 24, 48, 49, 50, 18, 19, 20, 21, 22, 51, 52, 53, 54, 41, 55, 56, 57, 58, 12, 9, 13, 59, 60, 61, 62, 63, 64, 65, 40, 66, 67, 68, 69, 70, 71, 72, 73, 74, 75, 76, 77, 78, 79, 80, 81, 82, 83, 84, 85, 86, 87, 88, 31, 89, 90, 91, 92, 93, 94, 95, 96, 36, 97, 98, 99, 100, 101, 102, 103, 104, 105, 106, 107, 108, 109, 110, 111, 112, 113, 114, 115, 116, 117, 118, 119, 120, 121, 122, 123, 124, 125, 126, 127, 128, 129, 130, 131, 132, 133, 134, 135, 136, 137, 138, 139, 140, 141, 142, 143, 144, 145, 146, 147, 148, 149, 150, 151, 152, 153, 32, 33, 34, 35, 154, 155, 156, 157, 158, 159, 160, 161, 162, 163, 164, 27, 28, 29, 30, 165, 166, 167, 168, 180, 181, 182, 183, 184, 185, 186, 187, 188, 189, 190, 191, 192, 171, 172, 173, 174, 175, 176, 177, 178, 179] (by decide +kernel) (by decide +kernel)
set_option maxRecDepth 20000 in
theorem gX2_join_X0_grow_n51 : GoodIn wsX2_join (wsX0_grow) := ggX2_join_X0_grow
set_option maxRecDepth 20000 in
theorem ggX2_join_X0_parentIn : GoodIn wsX2_join wsX0_parentIn := goodIn_r _ [30, 31, 32, 33, 34, 24, 35, 36, 12, 9, 13, 180, 181, 182, 183, 184, 185, 186, 187, 188, 189, 190, 191, 192] (by decide +kernel) (by decide +kernel)
set_option maxRecDepth 20000 in
theorem gX2_join_X0_parentIn_n64 : GoodIn wsX2_join (wsX0_parentIn) := ggX2_join_X0_parentIn
set_option maxRecDepth 20000 in
theorem ggX2_release_X2_requireLetter : GoodIn wsX2_release wsX2_requireLetter := goodIn_ca (goodIn_ca (goodIn_r _ [7, 8, 9, 1, 10, 11, 6, 12, 13, 14, 15, 16, 17, 18, 19, 20, 21, 22, 166, 167, 168, 169, 170, 171, 172, 173, 174, 175, 176] (by decide +kernel) (by decide +kernel)) (goodIn_sub (fun _ h => List.mem_cons_of_mem _ (List.mem_append_left _ (List.mem_append_right _ h))) (by decide +kernel))) (goodIn_sub (fun _ h => List.mem_cons_of_mem _ (List.mem_append_right _ h)) (by decide +kernel))
set_option maxRecDepth 20000 in
theorem gX2_release_X2_requireLetter : GoodIn wsX2_release (wsV RX2 58 RX2 yX2_requireLetter wsX2_requireLetter) := goodIn_app (goodIn_of _ (by decide +kernel)) ggX2_release_X2_requireLetter
set_option maxRecDepth 20000 in
theorem ggX2_release_X1_handOf : GoodIn wsX2_release wsX1_handOf := goodIn_r _ [25, 26, 27, 18, 20, 19, 21, 22, 168, 169, 170, 171, 172, 173, 174, 175, 176] (by decide +kernel) (by decide +kernel)
set_option maxRecDepth 20000 in
theorem gX2_release_X1_handOf_n82 : GoodIn wsX2_release (wsX1_handOf) := ggX2_release_X1_handOf
set_option maxRecDepth 20000 in
theorem ggX2_release_X1_setHand : GoodIn wsX2_release wsX1_setHand := goodIn_r _ [30, 26, 27, 18, 20, 19, 21, 22, 168, 169, 170, 171, 172, 173, 174, 175, 176] (by decide +kernel) (by decide +kernel)
set_option maxRecDepth 20000 in
theorem gX2_release_X1_setHand_n68 : GoodIn wsX2_release (wsX1_setHand) := ggX2_release_X1_setHand
set_option maxRecDepth 20000 in
theorem ggX2_release_X0_grow : GoodIn wsX2_release wsX0_grow := goodIn_r _ [34, 35, 36, 37, 32, 38, 39, 40, 18, 19, 20, 21, 22, 41, 42, 43, 44, 27, 45, 46, 47, 48, 16, 6, 17, 49, 50, 51, 52, 23, 24, 25, 26, 53, 54, 55, 56, 57, 58, 59, 60, 61, 62, 63, 64, 65, 66, 67, 68, 69, 70, 71, 72, 73, 74, 75, 76, 77, 78, 79, 80, 81, 82, 83, 84, 85, 86, 87, 88, 89, 90, 91, 92, 93, 94, 95, 96, 97, 98, 99, 100, 101, 102, 103, 104, 105, 106, 107, 108, 109, 110, 111, 112, 113, 114, 115, 116, 117, 118, 119, 120, 121, 122, 123, 124, 125, 126, 127, 128, 129, 130, 131, 132, 133, 134, 135, 136, 137, 138, 139, 140, 141, 142, 143, 144, 145, 146, 147, 148, 149, 150, 151, 152, 153, 154, 155, 156, 157, 158, 159, 160, 161, 162, 163, 164, 165, 177, 178, 179, 180, 181, 182, 183, 184, 185, 186, 187, 188, 189, 168, 169, 170, 171, 172, 173, 174, 175, 176] (by decide +kernel) (by decide +kernel)
set_option maxRecDepth 20000 in
theorem gX2_release_X0_grow_n51 : GoodIn wsX2_release (wsX0_grow) := ggX2_release_X0_grow
set_option maxRecDepth 20000 in
theorem ggX2_read_X2_requireInForest : GoodIn wsX2_read wsX2_requireInForest := goodIn_ca (goodIn_ca (goodIn_r _ [7, 8, 9, 2, 10, 11, 6, 12, 13, 14, 15, 16, 17, 18, 19, 20, 21, 22, 44, 45, 46, 47, 48, 49, 50, 51, 52, 53, 54, 55, 56, 57, 58] (by decide +kernel) (by decide +kernel)) (goodIn_sub (fun _ h => List.mem_cons_of_mem _ (List.mem_append_left _ (List.mem_append_right _ h))) (by decide +kernel))) (goodIn_sub (fun _ h => List.mem_cons_of_mem _ (List.mem_append_right _ h)) (by decide +kernel))
set_option maxRecDepth 20000 in
theorem gX2_read_X2_requireInForest : GoodIn wsX2_read (wsV RX2 85 RX2 yX2_requireInForest wsX2_requireInForest) := goodIn_app (goodIn_of _ (by decide +kernel)) ggX2_read_X2_requireInForest
set_option maxRecDepth 20000 in
theorem ggX2_read_X0_idAt : GoodIn wsX2_read wsX0_idAt := goodIn_r _ [25, 26, 27, 28, 29, 18, 20, 19, 21, 22, 16, 6, 17, 46, 47, 48, 49, 50, 51, 52, 53, 54, 55, 56, 57, 58] (by decide +kernel) (by decide +kernel)
set_option maxRecDepth 20000 in
theorem gX2_read_X0_idAt_n88 : GoodIn wsX2_read (wsX0_idAt) := ggX2_read_X0_idAt
set_option maxRecDepth 20000 in
theorem ggX2_read_X1_markRead : GoodIn wsX2_read wsX1_markRead := goodIn_r _ [33, 34, 35, 36, 37, 31, 38, 39, 40, 41, 42, 43, 59, 60, 61, 62, 63, 64, 65, 66, 67] (by decide +kernel) (by decide +kernel)
set_option maxRecDepth 20000 in
theorem gX2_read_X1_markRead_n92 : GoodIn wsX2_read (wsX1_markRead) := ggX2_read_X1_markRead
set_option maxRecDepth 20000 in
theorem ggX2_state_X2_requireId : GoodIn wsX2_state wsX2_requireId := goodIn_ca (goodIn_r _ [6, 7, 8, 9, 10, 5, 11] (by decide +kernel) (by decide +kernel)) (goodIn_sub (fun _ h => List.mem_cons_of_mem _ (List.mem_append_right _ h)) (by decide +kernel))
set_option maxRecDepth 20000 in
theorem gX2_state_X2_requireId : GoodIn wsX2_state (va_wsS RX2 25 yX2_requireId wsX2_requireId) := goodIn_app (goodIn_of _ (by decide +kernel)) ggX2_state_X2_requireId
set_option maxRecDepth 20000 in
theorem ggX2_state_X1_holds : GoodIn wsX2_state wsX1_holds := goodIn_r _ [15, 16, 28, 29, 30, 31, 32, 33, 34, 35, 36] (by decide +kernel) (by decide +kernel)
set_option maxRecDepth 20000 in
theorem gX2_state_X1_holds_n36 : GoodIn wsX2_state (wsX1_holds) := ggX2_state_X1_holds
set_option maxRecDepth 20000 in
theorem ggX2_state_X0_contains : GoodIn wsX2_state wsX0_contains := goodIn_r _ [20, 21, 10, 5, 11, 37, 38, 39, 40, 41, 42, 43, 44, 45, 46, 47, 48, 49] (by decide +kernel) (by decide +kernel)
set_option maxRecDepth 20000 in
theorem gX2_state_X0_contains_n95 : GoodIn wsX2_state (wsX0_contains) := ggX2_state_X0_contains
set_option maxRecDepth 20000 in
theorem ggX2_state_X0_knows : GoodIn wsX2_state wsX0_knows := goodIn_r _ [24, 25, 10, 5, 11, 37, 38, 39, 40, 41, 42, 43, 44, 45, 46, 47, 48, 49] (by decide +kernel) (by decide +kernel)
set_option maxRecDepth 20000 in
theorem gX2_state_X0_knows_n98 : GoodIn wsX2_state (wsX0_knows) := ggX2_state_X0_knows
set_option maxRecDepth 20000 in
theorem ggX2_parent_X2_requireInForest : GoodIn wsX2_parent wsX2_requireInForest := goodIn_ca (goodIn_ca (goodIn_r _ [6, 7, 8, 1, 9, 10, 5, 11, 12, 13, 14, 15, 16, 17, 18, 19, 20, 21, 27, 28, 29, 30, 31, 32, 33, 34, 35, 36, 37, 38, 39, 40, 41] (by decide +kernel) (by decide +kernel)) (goodIn_sub (fun _ h => List.mem_cons_of_mem _ (List.mem_append_left _ (List.mem_append_right _ h))) (by decide +kernel))) (goodIn_sub (fun _ h => List.mem_cons_of_mem _ (List.mem_append_right _ h)) (by decide +kernel))
set_option maxRecDepth 20000 in
theorem gX2_parent_X2_requireInForest : GoodIn wsX2_parent (wsV RX2 85 RX2 yX2_requireInForest wsX2_requireInForest) := goodIn_app (goodIn_of _ (by decide +kernel)) ggX2_parent_X2_requireInForest
set_option maxRecDepth 20000 in
theorem ggX2_parent_X0_parentIn : GoodIn wsX2_parent wsX0_parentIn := goodIn_r _ [24, 25, 26, 17, 19, 18, 20, 21, 15, 5, 16, 29, 30, 31, 32, 33, 34, 35, 36, 37, 38, 39, 40, 41] (by decide +kernel) (by decide +kernel)
set_option maxRecDepth 20000 in
theorem gX2_parent_X0_parentIn_n64 : GoodIn wsX2_parent (wsX0_parentIn) := ggX2_parent_X0_parentIn
set_option maxRecDepth 20000 in
theorem ggX2_children_X2_requireInForest : GoodIn wsX2_children wsX2_requireInForest := goodIn_ca (goodIn_ca (goodIn_r _ [6, 7, 8, 1, 9, 10, 5, 11, 12, 13, 14, 15, 16, 17, 18, 19, 20, 21, 26, 27, 28, 29, 30, 31, 32, 33, 34, 35, 36, 37, 38, 39, 40] (by decide +kernel) (by decide +kernel)) (goodIn_sub (fun _ h => List.mem_cons_of_mem _ (List.mem_append_left _ (List.mem_append_right _ h))) (by decide +kernel))) (goodIn_sub (fun _ h => List.mem_cons_of_mem _ (List.mem_append_right _ h)) (by decide +kernel))
set_option maxRecDepth 20000 in
theorem gX2_children_X2_requireInForest : GoodIn wsX2_children (wsV RX2 85 RX2 yX2_requireInForest wsX2_requireInForest) := goodIn_app (goodIn_of _ (by decide +kernel)) ggX2_children_X2_requireInForest
set_option maxRecDepth 20000 in
theorem ggX2_children_X0_countChildren : GoodIn wsX2_children wsX0_countChildren := goodIn_r _ [24, 25, 28, 29, 30, 31, 32, 33, 34, 35, 36, 37, 38, 39, 40] (by decide +kernel) (by decide +kernel)
set_option maxRecDepth 20000 in
theorem gX2_children_X0_countChildren_n101 : GoodIn wsX2_children (wsX0_countChildren) := ggX2_children_X0_countChildren
set_option maxRecDepth 20000 in
theorem ggX2_roots_X0_countRoots : GoodIn wsX2_roots wsX0_countRoots := goodIn_r _ [5, 6, 9, 10, 11, 12, 13, 14, 15, 16, 17, 18, 19, 20, 21] (by decide +kernel) (by decide +kernel)
set_option maxRecDepth 20000 in
theorem gX2_roots_X0_countRoots_n54 : GoodIn wsX2_roots (wsX0_countRoots) := ggX2_roots_X0_countRoots
set_option maxRecDepth 20000 in
theorem ggX2_root_X0_rootIdAt : GoodIn wsX2_root wsX0_rootIdAt := goodIn_r _ [7, 8, 9, 10, 11, 12, 15, 16, 17, 18, 19, 20, 21, 22, 23, 24, 25, 26, 27] (by decide +kernel) (by decide +kernel)
set_option maxRecDepth 20000 in
theorem gX2_root_X0_rootIdAt_n104 : GoodIn wsX2_root (wsX0_rootIdAt) := ggX2_root_X0_rootIdAt
set_option maxRecDepth 20000 in
theorem ggX2_inTree_X2_requireInForest : GoodIn wsX2_inTree wsX2_requireInForest := goodIn_ca (goodIn_ca (goodIn_r _ [8, 1, 2, 3, 9, 10, 7, 11, 12, 13, 14, 15, 16, 17, 18, 19, 20, 21, 29, 30, 31, 32, 33, 34, 35, 36, 37, 38, 39, 40, 41, 42, 43] (by decide +kernel) (by decide +kernel)) (goodIn_sub (fun _ h => List.mem_cons_of_mem _ (List.mem_append_left _ (List.mem_append_right _ h))) (by decide +kernel))) (goodIn_sub (fun _ h => List.mem_cons_of_mem _ (List.mem_append_right _ h)) (by decide +kernel))
set_option maxRecDepth 20000 in
theorem gX2_inTree_X2_requireInForest : GoodIn wsX2_inTree (wsV RX2 85 RX2 yX2_requireInForest wsX2_requireInForest) := goodIn_app (goodIn_of _ (by decide +kernel)) ggX2_inTree_X2_requireInForest
set_option maxRecDepth 20000 in
theorem ggX2_inTree_X0_idAt : GoodIn wsX2_inTree wsX0_idAt := goodIn_r _ [24, 25, 26, 27, 28, 17, 19, 18, 20, 21, 15, 7, 16, 31, 32, 33, 34, 35, 36, 37, 38, 39, 40, 41, 42, 43] (by decide +kernel) (by decide +kernel)
set_option maxRecDepth 20000 in
theorem gX2_inTree_X0_idAt_n88 : GoodIn wsX2_inTree (wsX0_idAt) := ggX2_inTree_X0_idAt
set_option maxRecDepth 20000 in
theorem ggX2_depth_X2_requireInForest : GoodIn wsX2_depth wsX2_requireInForest := goodIn_ca (goodIn_ca (goodIn_r _ [6, 7, 8, 1, 9, 10, 5, 11, 12, 13, 14, 15, 16, 17, 18, 19, 20, 21, 31, 32, 33, 34, 35, 36, 37, 38, 39, 40, 41, 42, 43, 44, 45] (by decide +kernel) (by decide +kernel)) (goodIn_sub (fun _ h => List.mem_cons_of_mem _ (List.mem_append_left _ (List.mem_append_right _ h))) (by decide +kernel))) (goodIn_sub (fun _ h => List.mem_cons_of_mem _ (List.mem_append_right _ h)) (by decide +kernel))
set_option maxRecDepth 20000 in
theorem gX2_depth_X2_requireInForest : GoodIn wsX2_depth (wsV RX2 85 RX2 yX2_requireInForest wsX2_requireInForest) := goodIn_app (goodIn_of _ (by decide +kernel)) ggX2_depth_X2_requireInForest
set_option maxRecDepth 20000 in
theorem ggX2_depth_X0_stepsToRoot : GoodIn wsX2_depth wsX0_stepsToRoot := goodIn_r _ [24, 25, 26, 27, 18, 28, 29, 30, 17, 19, 20, 21, 15, 5, 16, 33, 34, 35, 36, 37, 38, 39, 40, 41, 42, 43, 44, 45] (by decide +kernel) (by decide +kernel)
set_option maxRecDepth 20000 in
theorem gX2_depth_X0_stepsToRoot_n114 : GoodIn wsX2_depth (wsX0_stepsToRoot) := ggX2_depth_X0_stepsToRoot
set_option maxRecDepth 20000 in
theorem ggX2_letters_X2_requireInForest : GoodIn wsX2_letters wsX2_requireInForest := goodIn_ca (goodIn_ca (goodIn_r _ [7, 8, 9, 2, 10, 11, 6, 12, 13, 14, 15, 16, 17, 18, 19, 20, 21, 22, 35, 36, 37, 38, 39, 40, 41, 42, 43, 44, 45, 46, 47, 48, 49] (by decide +kernel) (by decide +kernel)) (goodIn_sub (fun _ h => List.mem_cons_of_mem _ (List.mem_append_left _ (List.mem_append_right _ h))) (by decide +kernel))) (goodIn_sub (fun _ h => List.mem_cons_of_mem _ (List.mem_append_right _ h)) (by decide +kernel))
set_option maxRecDepth 20000 in
theorem gX2_letters_X2_requireInForest : GoodIn wsX2_letters (wsV RX2 85 RX2 yX2_requireInForest wsX2_requireInForest) := goodIn_app (goodIn_of _ (by decide +kernel)) ggX2_letters_X2_requireInForest
set_option maxRecDepth 20000 in
theorem ggX2_letters_X0_idAt : GoodIn wsX2_letters wsX0_idAt := goodIn_r _ [25, 26, 27, 28, 29, 18, 20, 19, 21, 22, 16, 6, 17, 37, 38, 39, 40, 41, 42, 43, 44, 45, 46, 47, 48, 49] (by decide +kernel) (by decide +kernel)
set_option maxRecDepth 20000 in
theorem gX2_letters_X0_idAt_n88 : GoodIn wsX2_letters (wsX0_idAt) := ggX2_letters_X0_idAt
set_option maxRecDepth 20000 in
theorem ggX2_letters_X1_holds : GoodIn wsX2_letters wsX1_holds := goodIn_r _ [33, 34, 50, 51, 52, 53, 54, 55, 56, 57, 58] (by decide +kernel) (by decide +kernel)
set_option maxRecDepth 20000 in
theorem gX2_letters_X1_holds_n36 : GoodIn wsX2_letters (wsX1_holds) := ggX2_letters_X1_holds
set_option maxRecDepth 20000 in
theorem ggX2_unread_X2_requireInForest : GoodIn wsX2_unread wsX2_requireInForest := goodIn_ca (goodIn_ca (goodIn_r _ [7, 8, 9, 2, 10, 11, 6, 12, 13, 14, 15, 16, 17, 18, 19, 20, 21, 22, 40, 41, 42, 43, 44, 45, 46, 47, 48, 49, 50, 51, 52, 53, 54] (by decide +kernel) (by decide +kernel)) (goodIn_sub (fun _ h => List.mem_cons_of_mem _ (List.mem_append_left _ (List.mem_append_right _ h))) (by decide +kernel))) (goodIn_sub (fun _ h => List.mem_cons_of_mem _ (List.mem_append_right _ h)) (by decide +kernel))
set_option maxRecDepth 20000 in
theorem gX2_unread_X2_requireInForest : GoodIn wsX2_unread (wsV RX2 85 RX2 yX2_requireInForest wsX2_requireInForest) := goodIn_app (goodIn_of _ (by decide +kernel)) ggX2_unread_X2_requireInForest
set_option maxRecDepth 20000 in
theorem ggX2_unread_X0_idAt : GoodIn wsX2_unread wsX0_idAt := goodIn_r _ [25, 26, 27, 28, 29, 18, 20, 19, 21, 22, 16, 6, 17, 42, 43, 44, 45, 46, 47, 48, 49, 50, 51, 52, 53, 54] (by decide +kernel) (by decide +kernel)
set_option maxRecDepth 20000 in
theorem gX2_unread_X0_idAt_n88 : GoodIn wsX2_unread (wsX0_idAt) := ggX2_unread_X0_idAt
set_option maxRecDepth 20000 in
theorem ggX2_unread_X1_isUnread : GoodIn wsX2_unread wsX1_isUnread := goodIn_r _ [33, 34, 35, 36, 37, 31, 38, 39, 55, 56, 57, 58, 59, 60, 61, 62, 63] (by decide +kernel) (by decide +kernel)
set_option maxRecDepth 20000 in
theorem gX2_unread_X1_isUnread_n117 : GoodIn wsX2_unread (wsX1_isUnread) := ggX2_unread_X1_isUnread
set_option maxRecDepth 20000 in
theorem ggX2_people_X2_requireInForest : GoodIn wsX2_people wsX2_requireInForest := goodIn_ca (goodIn_ca (goodIn_r _ [7, 8, 9, 2, 10, 11, 6, 12, 13, 14, 15, 16, 17, 18, 19, 20, 21, 22, 40, 41, 42, 43, 44, 45, 46, 47, 48, 49, 50, 51, 52, 53, 54] (by decide +kernel) (by decide +kernel)) (goodIn_sub (fun _ h => List.mem_cons_of_mem _ (List.mem_append_left _ (List.mem_append_right _ h))) (by decide +kernel))) (goodIn_sub (fun _ h => List.mem_cons_of_mem _ (List.mem_append_right _ h)) (by decide +kernel))
set_option maxRecDepth 20000 in
theorem gX2_people_X2_requireInForest : GoodIn wsX2_people (wsV RX2 85 RX2 yX2_requireInForest wsX2_requireInForest) := goodIn_app (goodIn_of _ (by decide +kernel)) ggX2_people_X2_requireInForest
set_option maxRecDepth 20000 in
theorem ggX2_people_X0_idAt : GoodIn wsX2_people wsX0_idAt := goodIn_r _ [25, 26, 27, 28, 29, 18, 20, 19, 21, 22, 16, 6, 17, 42, 43, 44, 45, 46, 47, 48, 49, 50, 51, 52, 53, 54] (by decide +kernel) (by decide +kernel)
set_option maxRecDepth 20000 in
theorem gX2_people_X0_idAt_n88 : GoodIn wsX2_people (wsX0_idAt) := ggX2_people_X0_idAt
set_option maxRecDepth 20000 in
theorem ggX2_people_X1_writerBit : GoodIn wsX2_people wsX1_writerBit := goodIn_r _ [33, 34, 35, 36, 37, 31, 38, 39, 55, 56, 57, 58, 59, 60, 61, 62, 63] (by decide +kernel) (by decide +kernel)
set_option maxRecDepth 20000 in
theorem gX2_people_X1_writerBit_n120 : GoodIn wsX2_people (wsX1_writerBit) := ggX2_people_X1_writerBit
set_option maxRecDepth 20000 in
theorem ggX2_latest_X2_requireInForest : GoodIn wsX2_latest wsX2_requireInForest := goodIn_ca (goodIn_ca (goodIn_r _ [11, 12, 13, 1, 14, 15, 10, 16, 17, 18, 19, 20, 21, 22, 23, 24, 25, 26, 44, 45, 46, 47, 48, 49, 50, 51, 52, 53, 54, 55, 56, 57, 58] (by decide +kernel) (by decide +kernel)) (goodIn_sub (fun _ h => List.mem_cons_of_mem _ (List.mem_append_left _ (List.mem_append_right _ h))) (by decide +kernel))) (goodIn_sub (fun _ h => List.mem_cons_of_mem _ (List.mem_append_right _ h)) (by decide +kernel))
set_option maxRecDepth 20000 in
theorem gX2_latest_X2_requireInForest : GoodIn wsX2_latest (wsV RX2 85 RX2 yX2_requireInForest wsX2_requireInForest) := goodIn_app (goodIn_of _ (by decide +kernel)) ggX2_latest_X2_requireInForest
set_option maxRecDepth 20000 in
theorem ggX2_latest_X0_idAt : GoodIn wsX2_latest wsX0_idAt := goodIn_r _ [29, 30, 31, 32, 33, 22, 24, 23, 25, 26, 20, 10, 21, 46, 47, 48, 49, 50, 51, 52, 53, 54, 55, 56, 57, 58] (by decide +kernel) (by decide +kernel)
set_option maxRecDepth 20000 in
theorem gX2_latest_X0_idAt_n88 : GoodIn wsX2_latest (wsX0_idAt) := ggX2_latest_X0_idAt
set_option maxRecDepth 20000 in
theorem ggX2_latest_X1_holds : GoodIn wsX2_latest wsX1_holds := goodIn_r _ [37, 38, 59, 60, 61, 62, 63, 64, 65, 66, 67] (by decide +kernel) (by decide +kernel)
set_option maxRecDepth 20000 in
theorem gX2_latest_X1_holds_n36 : GoodIn wsX2_latest (wsX1_holds) := ggX2_latest_X1_holds
set_option maxRecDepth 20000 in
theorem ggX2_latest_X1_dayOf : GoodIn wsX2_latest wsX1_dayOf := goodIn_r _ [41, 42, 43, 34, 36, 35, 37, 38, 59, 60, 61, 62, 63, 64, 65, 66, 67] (by decide +kernel) (by decide +kernel)
set_option maxRecDepth 20000 in
theorem gX2_latest_X1_dayOf_n123 : GoodIn wsX2_latest (wsX1_dayOf) := ggX2_latest_X1_dayOf
set_option maxRecDepth 20000 in
theorem ggX2_requireId_X2_isId : GoodIn wsX2_requireId wsX2_isId := goodIn_r _ [6] (by decide +kernel) (by decide +kernel)
set_option maxRecDepth 20000 in
theorem gX2_requireId_X2_isId : GoodIn wsX2_requireId (va_wsS RX2 131 yX2_isId wsX2_isId) := goodIn_app (goodIn_of _ (by decide +kernel)) ggX2_requireId_X2_isId
set_option maxRecDepth 20000 in
theorem ggX2_requireTold_X2_requireId : GoodIn wsX2_requireTold wsX2_requireId := goodIn_ca (goodIn_r _ [6, 1, 2, 7, 8, 5, 9] (by decide +kernel) (by decide +kernel)) (goodIn_sub (fun _ h => List.mem_cons_of_mem _ (List.mem_append_right _ h)) (by decide +kernel))
set_option maxRecDepth 20000 in
theorem gX2_requireTold_X2_requireId : GoodIn wsX2_requireTold (va_wsS RX2 25 yX2_requireId wsX2_requireId) := goodIn_app (goodIn_of _ (by decide +kernel)) ggX2_requireTold_X2_requireId
set_option maxRecDepth 20000 in
theorem ggX2_requireLetter_X2_requireId : GoodIn wsX2_requireLetter wsX2_requireId := goodIn_ca (goodIn_r _ [7, 8, 9, 10, 11, 6, 12] (by decide +kernel) (by decide +kernel)) (goodIn_sub (fun _ h => List.mem_cons_of_mem _ (List.mem_append_right _ h)) (by decide +kernel))
set_option maxRecDepth 20000 in
theorem gX2_requireLetter_X2_requireId : GoodIn wsX2_requireLetter (va_wsS RX2 25 yX2_requireId wsX2_requireId) := goodIn_app (goodIn_of _ (by decide +kernel)) ggX2_requireLetter_X2_requireId
set_option maxRecDepth 20000 in
theorem ggX2_requireLetter_X1_holds : GoodIn wsX2_requireLetter wsX1_holds := goodIn_r _ [16, 17, 20, 21, 22, 23, 24, 25, 26, 27, 28] (by decide +kernel) (by decide +kernel)
set_option maxRecDepth 20000 in
theorem gX2_requireLetter_X1_holds_n36 : GoodIn wsX2_requireLetter (wsX1_holds) := ggX2_requireLetter_X1_holds
set_option maxRecDepth 20000 in
theorem ggX2_requireInForest_X2_requireId : GoodIn wsX2_requireInForest wsX2_requireId := goodIn_ca (goodIn_r _ [7, 8, 9, 10, 11, 6, 12] (by decide +kernel) (by decide +kernel)) (goodIn_sub (fun _ h => List.mem_cons_of_mem _ (List.mem_append_right _ h)) (by decide +kernel))
set_option maxRecDepth 20000 in
theorem gX2_requireInForest_X2_requireId : GoodIn wsX2_requireInForest (va_wsS RX2 25 yX2_requireId wsX2_requireId) := goodIn_app (goodIn_of _ (by decide +kernel)) ggX2_requireInForest_X2_requireId
set_option maxRecDepth 20000 in
theorem ggX2_requireInForest_X0_contains : GoodIn wsX2_requireInForest wsX0_contains := goodIn_r _ [16, 17, 11, 6, 12, 20, 21, 22, 23, 24, 25, 26, 27, 28, 29, 30, 31, 32] (by decide +kernel) (by decide +kernel)
set_option maxRecDepth 20000 in
theorem gX2_requireInForest_X0_contains_n95 : GoodIn wsX2_requireInForest (wsX0_contains) := ggX2_requireInForest_X0_contains
set_option maxRecDepth 20000 in
theorem ggX3_isId_X3_in : GoodIn wsX3_isId wsX3_in := goodIn_r _ [4] (by decide +kernel) (by decide +kernel)
set_option maxRecDepth 20000 in
theorem gX3_isId_X3_in : GoodIn wsX3_isId (va_wsS RX3 57 yX3_in wsX3_in) := goodIn_app (goodIn_of _ (by decide +kernel)) ggX3_isId_X3_in
set_option maxRecDepth 20000 in
theorem ggX3_links_X3_toldParent : GoodIn wsX3_links wsX3_toldParent := goodIn_r _ [7, 8, 9, 10, 11, 16, 17, 18, 19, 20, 21, 22, 23, 24, 25, 26, 27, 28, 29, 30, 31] (by decide +kernel) (by decide +kernel)
set_option maxRecDepth 20000 in
theorem gX3_links_X3_toldParent : GoodIn wsX3_links (wsV RX3 61 RX3 yX3_toldParent wsX3_toldParent) := goodIn_app (goodIn_of _ (by decide +kernel)) ggX3_links_X3_toldParent
set_option maxRecDepth 20000 in
theorem ggX3_links_X3_isBelow : GoodIn wsX3_links wsX3_isBelow := goodIn_r _ [15, 1, 16, 17, 18, 19, 20, 21, 22, 23, 24, 25, 26, 27, 28, 29, 30, 31] (by decide +kernel) (by decide +kernel)
set_option maxRecDepth 20000 in
theorem gX3_links_X3_isBelow : GoodIn wsX3_links (wsV RX3 65 RX3 yX3_isBelow wsX3_isBelow) := goodIn_app (goodIn_of _ (by decide +kernel)) ggX3_links_X3_isBelow
set_option maxRecDepth 20000 in
theorem ggX3_forest_X3_knows : GoodIn wsX3_forest wsX3_knows := goodIn_r _ [13, 14, 2, 15, 16, 7, 33, 34, 35, 36, 37, 38, 39, 40, 41, 42, 43, 44, 45, 46, 47, 48] (by decide +kernel) (by decide +kernel)
set_option maxRecDepth 20000 in
theorem gX3_forest_X3_knows : GoodIn wsX3_forest (wsV RX3 69 RX3 yX3_knows wsX3_knows) := goodIn_app (goodIn_of _ (by decide +kernel)) ggX3_forest_X3_knows
set_option maxRecDepth 20000 in
theorem ggX3_forest_X3_links : GoodIn wsX3_forest wsX3_links := goodIn_r _ [20, 3, 14, 21, 22, 23, 12, 24, 2, 7, 15, 16, 25, 26, 27, 28, 33, 34, 35, 36, 37, 38, 39, 40, 41, 42, 43, 44, 45, 46, 47, 48] (by decide +kernel) (by decide +kernel)
set_option maxRecDepth 20000 in
theorem gX3_forest_X3_links : GoodIn wsX3_forest (wsV RX3 72 RX3 yX3_links wsX3_links) := goodIn_app (goodIn_of _ (by decide +kernel)) ggX3_forest_X3_links
set_option maxRecDepth 20000 in
theorem ggX3_forest_X3_isAlone : GoodIn wsX3_forest wsX3_isAlone := goodIn_r _ [32, 2, 1, 33, 34, 35, 36, 37, 38, 39, 40, 41, 42, 43, 44, 45, 46, 47, 48] (by decide +kernel) (by decide +kernel)
set_option maxRecDepth 20000 in
theorem gX3_forest_X3_isAlone : GoodIn wsX3_forest (wsV RX3 75 RX3 yX3_isAlone wsX3_isAlone) := goodIn_app (goodIn_of _ (by decide +kernel)) ggX3_forest_X3_isAlone
set_option maxRecDepth 20000 in
theorem ggX3_trees_X3_isAhead : GoodIn wsX3_trees wsX3_isAhead := goodIn_r _ [9, 10, 11, 12, 13, 14, 15, 16, 17, 18, 19, 20, 21, 22, 23, 24, 25, 26] (by decide +kernel) (by decide +kernel)
set_option maxRecDepth 20000 in
theorem gX3_trees_X3_isAhead : GoodIn wsX3_trees (wsV RX3 82 RX3 yX3_isAhead wsX3_isAhead) := goodIn_app (goodIn_of _ (by decide +kernel)) ggX3_trees_X3_isAhead
set_option maxRecDepth 20000 in
theorem ggX3_rootsThen_X3_forest : GoodIn wsX3_rootsThen wsX3_forest := goodIn_r _ [5, 6, 7, 8, 9, 10, 11, 12, 13, 14, 15, 16, 4, 17, 18, 19, 20, 21, 22, 23, 24, 25, 26, 27, 28, 29, 30, 31, 32, 33, 34, 35, 36, 41, 42, 43, 44, 45, 46, 47, 48, 49, 50, 51, 52, 53, 54, 55, 56] (by decide +kernel) (by decide +kernel)
set_option maxRecDepth 20000 in
theorem gX3_rootsThen_X3_forest : GoodIn wsX3_rootsThen (wsV RX3 85 RX3 yX3_forest wsX3_forest) := goodIn_app (goodIn_of _ (by decide +kernel)) ggX3_rootsThen_X3_forest
set_option maxRecDepth 20000 in
theorem ggX3_rootsThen_X3_rootsNow : GoodIn wsX3_rootsThen wsX3_rootsNow := goodIn_r _ [40, 9, 6, 41, 42, 43, 44, 45, 46, 47, 48, 49, 50, 51, 52, 53, 54, 55, 56] (by decide +kernel) (by decide +kernel)
set_option maxRecDepth 20000 in
theorem gX3_rootsThen_X3_rootsNow : GoodIn wsX3_rootsThen (wsV RX3 88 RX3 yX3_rootsNow wsX3_rootsNow) := goodIn_app (goodIn_of _ (by decide +kernel)) ggX3_rootsThen_X3_rootsNow
set_option maxRecDepth 20000 in
theorem ggX3_letter_X3_isId : GoodIn wsX3_letter wsX3_isId := goodIn_r _ [12, 13, 14, 11, 15] (by decide +kernel) (by decide +kernel)
set_option maxRecDepth 20000 in
theorem gX3_letter_X3_isId : GoodIn wsX3_letter (va_wsS RX3 92 yX3_isId wsX3_isId) := goodIn_app (goodIn_of _ (by decide +kernel)) ggX3_letter_X3_isId
set_option maxRecDepth 20000 in
theorem ggX3_letter_X3_in : GoodIn wsX3_letter wsX3_in := goodIn_r _ [15] (by decide +kernel) (by decide +kernel)
set_option maxRecDepth 20000 in
theorem gX3_letter_X3_in : GoodIn wsX3_letter (va_wsS RX3 57 yX3_in wsX3_in) := goodIn_app (goodIn_of _ (by decide +kernel)) ggX3_letter_X3_in
set_option maxRecDepth 20000 in
theorem ggX3_letter_X3_asked_ : GoodIn wsX3_letter wsX3_asked_ := goodIn_r _ [19, 20, 58, 59, 60, 61, 62, 63, 64, 65, 66, 67, 68, 69, 70, 71, 72, 73] (by decide +kernel) (by decide +kernel)
set_option maxRecDepth 20000 in
theorem gX3_letter_X3_asked_ : GoodIn wsX3_letter (wsV RX3 95 RX3 yX3_asked_ wsX3_asked_) := goodIn_app (goodIn_of _ (by decide +kernel)) ggX3_letter_X3_asked_
set_option maxRecDepth 20000 in
theorem ggX3_letter_X3_rootsThen : GoodIn wsX3_letter wsX3_rootsThen := goodIn_r _ [24, 25, 26, 27, 11, 28, 29, 1, 30, 31, 32, 4, 8, 5, 33, 34, 35, 36, 37, 2, 3, 38, 39, 40, 41, 42, 43, 44, 45, 46, 47, 48, 49, 50, 51, 52, 53, 54, 55, 56, 57, 58, 59, 60, 61, 62, 63, 64, 65, 66, 67, 68, 69, 70, 71, 72, 73] (by decide +kernel) (by decide +kernel)
set_option maxRecDepth 20000 in
theorem gX3_letter_X3_rootsThen : GoodIn wsX3_letter (wsV RX3 99 RX3 yX3_rootsThen wsX3_rootsThen) := goodIn_app (goodIn_of _ (by decide +kernel)) ggX3_letter_X3_rootsThen
set_option maxRecDepth 20000 in
theorem ggX3_isLetter_X3_isId : GoodIn wsX3_isLetter wsX3_isId := goodIn_r _ [5, 6, 7, 4, 8] (by decide +kernel) (by decide +kernel)
set_option maxRecDepth 20000 in
theorem gX3_isLetter_X3_isId : GoodIn wsX3_isLetter (va_wsS RX3 92 yX3_isId wsX3_isId) := goodIn_app (goodIn_of _ (by decide +kernel)) ggX3_isLetter_X3_isId
set_option maxRecDepth 20000 in
theorem ggX3_isLetter_X3_asked_ : GoodIn wsX3_isLetter wsX3_asked_ := goodIn_r _ [12, 13, 14, 15, 16, 17, 18, 19, 20, 21, 22, 23, 24, 25, 26, 27, 28, 29] (by decide +kernel) (by decide +kernel)
set_option maxRecDepth 20000 in
theorem gX3_isLetter_X3_asked_ : GoodIn wsX3_isLetter (wsV RX3 95 RX3 yX3_asked_ wsX3_asked_) := goodIn_app (goodIn_of _ (by decide +kernel)) ggX3_isLetter_X3_asked_
set_option maxRecDepth 20000 in
theorem ggX3_delete_X3_isLetter : GoodIn wsX3_delete wsX3_isLetter := goodIn_r _ [7, 1, 8, 9, 6, 10, 11, 12, 13, 14, 15, 16, 17, 18, 60, 61, 62, 63, 64, 65, 66, 67, 68, 69, 70, 71, 72, 73, 74, 75] (by decide +kernel) (by decide +kernel)
set_option maxRecDepth 20000 in
theorem gX3_delete_X3_isLetter : GoodIn wsX3_delete (wsV RX3 102 RX3 yX3_isLetter wsX3_isLetter) := goodIn_app (goodIn_of _ (by decide +kernel)) ggX3_delete_X3_isLetter
set_option maxRecDepth 20000 in
theorem ggX3_delete_X3_rootsThen : GoodIn wsX3_delete wsX3_rootsThen := goodIn_r _ [22, 23, 24, 25, 6, 26, 27, 1, 28, 29, 30, 31, 2, 32, 33, 34, 35, 36, 37, 38, 39, 40, 41, 42, 43, 44, 45, 46, 47, 48, 49, 50, 51, 52, 53, 54, 55, 56, 57, 58, 59, 60, 61, 62, 63, 64, 65, 66, 67, 68, 69, 70, 71, 72, 73, 74, 75] (by decide +kernel) (by decide +kernel)
set_option maxRecDepth 20000 in
theorem gX3_delete_X3_rootsThen : GoodIn wsX3_delete (wsV RX3 99 RX3 yX3_rootsThen wsX3_rootsThen) := goodIn_app (goodIn_of _ (by decide +kernel)) ggX3_delete_X3_rootsThen
set_option maxRecDepth 20000 in
theorem ggX3_split_X3_isLetter : GoodIn wsX3_split wsX3_isLetter := goodIn_r _ [7, 8, 9, 10, 6, 11, 12, 13, 14, 15, 16, 17, 18, 19, 52, 53, 54, 55, 56, 57, 58, 59, 60, 61, 62, 63, 64, 65, 66, 67] (by decide +kernel) (by decide +kernel)
set_option maxRecDepth 20000 in
theorem gX3_split_X3_isLetter : GoodIn wsX3_split (wsV RX3 102 RX3 yX3_isLetter wsX3_isLetter) := goodIn_app (goodIn_of _ (by decide +kernel)) ggX3_split_X3_isLetter
set_option maxRecDepth 20000 in
theorem ggX3_split_X3_forest : GoodIn wsX3_split wsX3_forest := goodIn_r _ [23, 2, 8, 24, 25, 26, 27, 1, 28, 29, 30, 31, 6, 32, 33, 34, 35, 36, 37, 38, 39, 40, 41, 42, 43, 44, 45, 46, 47, 48, 49, 50, 51, 52, 53, 54, 55, 56, 57, 58, 59, 60, 61, 62, 63, 64, 65, 66, 67] (by decide +kernel) (by decide +kernel)
set_option maxRecDepth 20000 in
theorem gX3_split_X3_forest : GoodIn wsX3_split (wsV RX3 85 RX3 yX3_forest wsX3_forest) := goodIn_app (goodIn_of _ (by decide +kernel)) ggX3_split_X3_forest
set_option maxRecDepth 20000 in
theorem ggX3_join_X3_isId : GoodIn wsX3_join wsX3_isId := goodIn_r _ [9, 10, 11, 8, 12] (by decide +kernel) (by decide +kernel)
set_option maxRecDepth 20000 in
theorem gX3_join_X3_isId : GoodIn wsX3_join (va_wsS RX3 92 yX3_isId wsX3_isId) := goodIn_app (goodIn_of _ (by decide +kernel)) ggX3_join_X3_isId
set_option maxRecDepth 20000 in
theorem ggX3_join_X3_forest : GoodIn wsX3_join wsX3_forest := goodIn_r _ [16, 5, 1, 17, 18, 3, 19, 4, 20, 21, 22, 23, 8, 24, 25, 26, 27, 28, 29, 30, 31, 32, 33, 34, 35, 36, 37, 38, 39, 40, 41, 42, 43, 58, 59, 60, 61, 62, 63, 64, 65, 66, 67, 68, 69, 70, 71, 72, 73] (by decide +kernel) (by decide +kernel)
set_option maxRecDepth 20000 in
theorem gX3_join_X3_forest : GoodIn wsX3_join (wsV RX3 85 RX3 yX3_forest wsX3_forest) := goodIn_app (goodIn_of _ (by decide +kernel)) ggX3_join_X3_forest
set_option maxRecDepth 20000 in
theorem ggX3_join_X3_trees : GoodIn wsX3_join wsX3_trees := goodIn_r _ [47, 2, 48, 3, 5, 49, 50, 51, 8, 52, 20, 58, 59, 60, 61, 62, 63, 64, 65, 66, 67, 68, 69, 70, 71, 72, 73] (by decide +kernel) (by decide +kernel)
set_option maxRecDepth 20000 in
theorem gX3_join_X3_trees : GoodIn wsX3_join (wsV RX3 105 RX3 yX3_trees wsX3_trees) := goodIn_app (goodIn_of _ (by decide +kernel)) ggX3_join_X3_trees
set_option maxRecDepth 20000 in
theorem ggX3_join_X3_asked_ : GoodIn wsX3_join wsX3_asked_ := goodIn_r _ [56, 57, 58, 59, 60, 61, 62, 63, 64, 65, 66, 67, 68, 69, 70, 71, 72, 73] (by decide +kernel) (by decide +kernel)
set_option maxRecDepth 20000 in
theorem gX3_join_X3_asked_ : GoodIn wsX3_join (wsV RX3 95 RX3 yX3_asked_ wsX3_asked_) := goodIn_app (goodIn_of _ (by decide +kernel)) ggX3_join_X3_asked_
set_option maxRecDepth 20000 in
theorem ggX3_release_X3_isLetter : GoodIn wsX3_release wsX3_isLetter := goodIn_r _ [6, 7, 8, 9, 5, 10, 11, 12, 13, 14, 15, 16, 17, 18, 19, 20, 21, 22, 23, 24, 25, 26, 27, 28, 29, 30, 31, 32, 33, 34] (by decide +kernel) (by decide +kernel)
set_option maxRecDepth 20000 in
theorem gX3_release_X3_isLetter : GoodIn wsX3_release (wsV RX3 102 RX3 yX3_isLetter wsX3_isLetter) := goodIn_app (goodIn_of _ (by decide +kernel)) ggX3_release_X3_isLetter
set_option maxRecDepth 20000 in
theorem ggX3_looks_X3_isId : GoodIn wsX3_looks wsX3_isId := goodIn_r _ [5, 6, 7, 4, 8] (by decide +kernel) (by decide +kernel)
set_option maxRecDepth 20000 in
theorem gX3_looks_X3_isId : GoodIn wsX3_looks (va_wsS RX3 92 yX3_isId wsX3_isId) := goodIn_app (goodIn_of _ (by decide +kernel)) ggX3_looks_X3_isId
set_option maxRecDepth 20000 in
theorem ggX3_looks_X3_forest : GoodIn wsX3_looks wsX3_forest := goodIn_r _ [12, 13, 14, 15, 1, 16, 17, 18, 19, 20, 21, 22, 4, 23, 24, 25, 26, 27, 28, 29, 30, 31, 32, 33, 34, 35, 36, 37, 38, 39, 40, 41, 42, 58, 59, 60, 61, 62, 63, 64, 65, 66, 67, 68, 69, 70, 71, 72, 73] (by decide +kernel) (by decide +kernel)
set_option maxRecDepth 20000 in
theorem gX3_looks_X3_forest : GoodIn wsX3_looks (wsV RX3 85 RX3 yX3_forest wsX3_forest) := goodIn_app (goodIn_of _ (by decide +kernel)) ggX3_looks_X3_forest
set_option maxRecDepth 20000 in
theorem ggX3_looks_X3_asked_ : GoodIn wsX3_looks wsX3_asked_ := goodIn_r _ [46, 47, 58, 59, 60, 61, 62, 63, 64, 65, 66, 67, 68, 69, 70, 71, 72, 73] (by decide +kernel) (by decide +kernel)
set_option maxRecDepth 20000 in
theorem gX3_looks_X3_asked_ : GoodIn wsX3_looks (wsV RX3 95 RX3 yX3_asked_ wsX3_asked_) := goodIn_app (goodIn_of _ (by decide +kernel)) ggX3_looks_X3_asked_
set_option maxRecDepth 20000 in
theorem ggX3_looks_X3_trees : GoodIn wsX3_looks wsX3_trees := goodIn_r _ [51, 52, 53, 16, 13, 54, 55, 56, 4, 57, 19, 58, 59, 60, 61, 62, 63, 64, 65, 66, 67, 68, 69, 70, 71, 72, 73] (by decide +kernel) (by decide +kernel)
set_option maxRecDepth 20000 in
theorem gX3_looks_X3_trees : GoodIn wsX3_looks (wsV RX3 105 RX3 yX3_trees wsX3_trees) := goodIn_app (goodIn_of _ (by decide +kernel)) ggX3_looks_X3_trees
set_option maxRecDepth 20000 in
theorem ggX3_read_X3_looks : GoodIn wsX3_read wsX3_looks := goodIn_r _ [9, 10, 11, 12, 8, 13, 14, 15, 16, 17, 18, 19, 20, 21, 2, 22, 3, 23, 24, 25, 26, 27, 28, 29, 30, 31, 32, 33, 34, 35, 36, 37, 38, 39, 40, 41, 42, 43, 44, 45, 46, 47, 48, 49, 50, 51, 52, 53, 54, 55, 56, 57, 1, 58, 59, 60, 61, 62, 63, 64, 65, 66, 67, 68, 69, 70, 71, 72, 73, 74, 75, 76, 77, 78] (by decide +kernel) (by decide +kernel)
set_option maxRecDepth 20000 in
theorem gX3_read_X3_looks : GoodIn wsX3_read (wsV RX3 109 RX3 yX3_looks wsX3_looks) := goodIn_app (goodIn_of _ (by decide +kernel)) ggX3_read_X3_looks
set_option maxRecDepth 20000 in
theorem ggX3_state_X3_isId : GoodIn wsX3_state wsX3_isId := goodIn_r _ [7, 8, 9, 6, 10] (by decide +kernel) (by decide +kernel)
set_option maxRecDepth 20000 in
theorem gX3_state_X3_isId : GoodIn wsX3_state (va_wsS RX3 92 yX3_isId wsX3_isId) := goodIn_app (goodIn_of _ (by decide +kernel)) ggX3_state_X3_isId
set_option maxRecDepth 20000 in
theorem ggX3_state_X3_asked : GoodIn wsX3_state wsX3_asked := goodIn_r _ [14, 15, 48, 49, 50, 51, 52, 53, 54, 55, 56, 57, 58, 59, 60, 61, 62, 63] (by decide +kernel) (by decide +kernel)
set_option maxRecDepth 20000 in
theorem gX3_state_X3_asked : GoodIn wsX3_state (wsV RX3 112 RX3 yX3_asked wsX3_asked) := goodIn_app (goodIn_of _ (by decide +kernel)) ggX3_state_X3_asked
set_option maxRecDepth 20000 in
theorem ggX3_state_X3_forest : GoodIn wsX3_state wsX3_forest := goodIn_r _ [19, 20, 2, 21, 3, 22, 23, 24, 25, 26, 27, 28, 6, 29, 1, 30, 31, 32, 33, 34, 35, 36, 37, 38, 39, 40, 41, 42, 43, 44, 45, 46, 47, 48, 49, 50, 51, 52, 53, 54, 55, 56, 57, 58, 59, 60, 61, 62, 63] (by decide +kernel) (by decide +kernel)
set_option maxRecDepth 20000 in
theorem gX3_state_X3_forest : GoodIn wsX3_state (wsV RX3 85 RX3 yX3_forest wsX3_forest) := goodIn_app (goodIn_of _ (by decide +kernel)) ggX3_state_X3_forest
set_option maxRecDepth 20000 in
theorem ggX3_parent_X3_looks : GoodIn wsX3_parent wsX3_looks := goodIn_r _ [6, 7, 8, 9, 5, 10, 11, 12, 13, 14, 15, 16, 17, 1, 18, 19, 20, 21, 22, 23, 24, 25, 26, 27, 28, 29, 30, 31, 32, 33, 34, 35, 36, 37, 38, 39, 40, 41, 42, 43, 44, 45, 46, 47, 48, 49, 50, 51, 52, 53, 54, 55, 56, 57, 58, 59, 60, 61, 62, 63, 64, 65, 66, 67, 68, 69, 70, 71, 72, 73, 74, 75, 76, 77] (by decide +kernel) (by decide +kernel)
set_option maxRecDepth 20000 in
theorem gX3_parent_X3_looks : GoodIn wsX3_parent (wsV RX3 109 RX3 yX3_looks wsX3_looks) := goodIn_app (goodIn_of _ (by decide +kernel)) ggX3_parent_X3_looks
set_option maxRecDepth 20000 in
theorem ggX3_children_X3_looks : GoodIn wsX3_children wsX3_looks := goodIn_r _ [6, 7, 8, 9, 5, 10, 11, 12, 13, 14, 15, 16, 17, 1, 18, 19, 20, 21, 22, 23, 24, 25, 26, 27, 28, 29, 30, 31, 32, 33, 34, 35, 36, 37, 38, 39, 40, 41, 42, 43, 44, 45, 46, 47, 48, 49, 50, 51, 52, 53, 54, 55, 56, 57, 58, 59, 60, 61, 62, 63, 64, 65, 66, 67, 68, 69, 70, 71, 72, 73, 74, 75, 76, 77] (by decide +kernel) (by decide +kernel)
set_option maxRecDepth 20000 in
theorem gX3_children_X3_looks : GoodIn wsX3_children (wsV RX3 109 RX3 yX3_looks wsX3_looks) := goodIn_app (goodIn_of _ (by decide +kernel)) ggX3_children_X3_looks
set_option maxRecDepth 20000 in
theorem ggX3_roots_X3_rootsThen : GoodIn wsX3_roots wsX3_rootsThen := goodIn_r _ [6, 7, 8, 9, 5, 10, 11, 12, 13, 14, 15, 16, 17, 18, 19, 20, 21, 22, 23, 24, 25, 26, 27, 28, 29, 30, 31, 32, 33, 34, 35, 36, 37, 38, 39, 40, 41, 42, 43, 44, 45, 46, 47, 48, 49, 50, 51, 52, 53, 54, 55, 56, 57, 58, 59, 60, 61] (by decide +kernel) (by decide +kernel)
set_option maxRecDepth 20000 in
theorem gX3_roots_X3_rootsThen : GoodIn wsX3_roots (wsV RX3 99 RX3 yX3_rootsThen wsX3_rootsThen) := goodIn_app (goodIn_of _ (by decide +kernel)) ggX3_roots_X3_rootsThen
set_option maxRecDepth 20000 in
theorem ggX3_earliest_X3_trees : GoodIn wsX3_earliest wsX3_trees := goodIn_r _ [9, 1, 10, 3, 11, 12, 13, 14, 8, 15, 4, 16, 17, 18, 19, 20, 21, 22, 23, 24, 25, 26, 27, 28, 29, 30, 31] (by decide +kernel) (by decide +kernel)
set_option maxRecDepth 20000 in
theorem gX3_earliest_X3_trees : GoodIn wsX3_earliest (wsV RX3 105 RX3 yX3_trees wsX3_trees) := goodIn_app (goodIn_of _ (by decide +kernel)) ggX3_earliest_X3_trees
set_option maxRecDepth 20000 in
theorem ggX3_root_X3_forest : GoodIn wsX3_root wsX3_forest := goodIn_r _ [7, 2, 8, 9, 1, 10, 11, 12, 13, 14, 15, 16, 6, 17, 18, 19, 20, 21, 22, 23, 24, 25, 26, 27, 28, 29, 30, 31, 32, 33, 34, 35, 36, 63, 64, 65, 66, 67, 68, 69, 70, 71, 72, 73, 74, 75, 76, 77, 78] (by decide +kernel) (by decide +kernel)
set_option maxRecDepth 20000 in
theorem gX3_root_X3_forest : GoodIn wsX3_root (wsV RX3 85 RX3 yX3_forest wsX3_forest) := goodIn_app (goodIn_of _ (by decide +kernel)) ggX3_root_X3_forest
set_option maxRecDepth 20000 in
theorem ggX3_root_X3_rootsNow : GoodIn wsX3_root wsX3_rootsNow := goodIn_r _ [40, 1, 2, 63, 64, 65, 66, 67, 68, 69, 70, 71, 72, 73, 74, 75, 76, 77, 78] (by decide +kernel) (by decide +kernel)
set_option maxRecDepth 20000 in
theorem gX3_root_X3_rootsNow : GoodIn wsX3_root (wsV RX3 88 RX3 yX3_rootsNow wsX3_rootsNow) := goodIn_app (goodIn_of _ (by decide +kernel)) ggX3_root_X3_rootsNow
set_option maxRecDepth 20000 in
theorem ggX3_root_X3_in : GoodIn wsX3_root wsX3_in := goodIn_r _ [43] (by decide +kernel) (by decide +kernel)
set_option maxRecDepth 20000 in
theorem gX3_root_X3_in : GoodIn wsX3_root (va_wsS RX3 57 yX3_in wsX3_in) := goodIn_app (goodIn_of _ (by decide +kernel)) ggX3_root_X3_in
set_option maxRecDepth 20000 in
theorem ggX3_root_X3_asked : GoodIn wsX3_root wsX3_asked := goodIn_r _ [47, 48, 63, 64, 65, 66, 67, 68, 69, 70, 71, 72, 73, 74, 75, 76, 77, 78] (by decide +kernel) (by decide +kernel)
set_option maxRecDepth 20000 in
theorem gX3_root_X3_asked : GoodIn wsX3_root (wsV RX3 112 RX3 yX3_asked wsX3_asked) := goodIn_app (goodIn_of _ (by decide +kernel)) ggX3_root_X3_asked
set_option maxRecDepth 20000 in
theorem ggX3_root_X3_earliest : GoodIn wsX3_root wsX3_earliest := goodIn_r _ [52, 53, 8, 10, 13, 54, 55, 56, 6, 57, 58, 2, 59, 60, 61, 62, 63, 64, 65, 66, 67, 68, 69, 70, 71, 72, 73, 74, 75, 76, 77, 78] (by decide +kernel) (by decide +kernel)
set_option maxRecDepth 20000 in
theorem gX3_root_X3_earliest : GoodIn wsX3_root (wsV RX3 115 RX3 yX3_earliest wsX3_earliest) := goodIn_app (goodIn_of _ (by decide +kernel)) ggX3_root_X3_earliest
set_option maxRecDepth 20000 in
theorem ggX3_inTree_X3_looks : GoodIn wsX3_inTree wsX3_looks := goodIn_r _ [7, 8, 9, 10, 6, 11, 12, 13, 14, 15, 16, 17, 18, 19, 20, 21, 2, 22, 23, 24, 25, 26, 27, 28, 29, 30, 31, 32, 33, 34, 35, 36, 37, 38, 39, 40, 41, 42, 43, 44, 45, 46, 47, 48, 49, 50, 51, 52, 53, 54, 55, 56, 1, 57, 58, 59, 60, 61, 62, 63, 64, 65, 66, 67, 68, 69, 70, 71, 72, 73, 74, 75, 76, 77] (by decide +kernel) (by decide +kernel)
set_option maxRecDepth 20000 in
theorem gX3_inTree_X3_looks : GoodIn wsX3_inTree (wsV RX3 109 RX3 yX3_looks wsX3_looks) := goodIn_app (goodIn_of _ (by decide +kernel)) ggX3_inTree_X3_looks
set_option maxRecDepth 20000 in
theorem ggX3_inTree_X3_in : GoodIn wsX3_inTree wsX3_in := goodIn_r _ [14] (by decide +kernel) (by decide +kernel)
set_option maxRecDepth 20000 in
theorem gX3_inTree_X3_in : GoodIn wsX3_inTree (va_wsS RX3 57 yX3_in wsX3_in) := goodIn_app (goodIn_of _ (by decide +kernel)) ggX3_inTree_X3_in
set_option maxRecDepth 20000 in
theorem ggX3_inTree_X3_asked_ : GoodIn wsX3_inTree wsX3_asked_ := goodIn_r _ [51, 52, 62, 63, 64, 65, 66, 67, 68, 69, 70, 71, 72, 73, 74, 75, 76, 77] (by decide +kernel) (by decide +kernel)
set_option maxRecDepth 20000 in
theorem gX3_inTree_X3_asked_ : GoodIn wsX3_inTree (wsV RX3 95 RX3 yX3_asked_ wsX3_asked_) := goodIn_app (goodIn_of _ (by decide +kernel)) ggX3_inTree_X3_asked_
set_option maxRecDepth 20000 in
theorem ggX3_depth_X3_looks : GoodIn wsX3_depth wsX3_looks := goodIn_r _ [6, 7, 8, 9, 5, 10, 11, 12, 13, 14, 15, 16, 17, 1, 18, 19, 20, 21, 22, 23, 24, 25, 26, 27, 28, 29, 30, 31, 32, 33, 34, 35, 36, 37, 38, 39, 40, 41, 42, 43, 44, 45, 46, 47, 48, 49, 50, 51, 52, 53, 54, 55, 56, 57, 58, 59, 60, 61, 62, 63, 64, 65, 66, 67, 68, 69, 70, 71, 72, 73, 74, 75, 76, 77] (by decide +kernel) (by decide +kernel)
set_option maxRecDepth 20000 in
theorem gX3_depth_X3_looks : GoodIn wsX3_depth (wsV RX3 109 RX3 yX3_looks wsX3_looks) := goodIn_app (goodIn_of _ (by decide +kernel)) ggX3_depth_X3_looks
set_option maxRecDepth 20000 in
theorem ggX3_letters_X3_looks : GoodIn wsX3_letters wsX3_looks := goodIn_r _ [8, 9, 10, 11, 7, 12, 13, 14, 15, 16, 17, 18, 19, 20, 2, 21, 3, 22, 23, 24, 25, 26, 27, 28, 29, 30, 31, 32, 33, 34, 35, 36, 37, 38, 39, 40, 41, 42, 43, 44, 45, 46, 47, 48, 49, 50, 51, 52, 53, 54, 55, 56, 1, 57, 58, 59, 60, 61, 62, 63, 64, 65, 66, 67, 68, 69, 70, 71, 72, 73, 74, 75, 76, 77] (by decide +kernel) (by decide +kernel)
set_option maxRecDepth 20000 in
theorem gX3_letters_X3_looks : GoodIn wsX3_letters (wsV RX3 109 RX3 yX3_looks wsX3_looks) := goodIn_app (goodIn_of _ (by decide +kernel)) ggX3_letters_X3_looks
set_option maxRecDepth 20000 in
theorem ggX3_unread_X3_looks : GoodIn wsX3_unread wsX3_looks := goodIn_r _ [9, 10, 11, 12, 8, 13, 14, 15, 16, 17, 18, 19, 20, 21, 2, 22, 3, 23, 24, 25, 26, 27, 28, 29, 30, 31, 32, 33, 34, 35, 36, 37, 38, 39, 40, 41, 42, 43, 44, 45, 46, 47, 48, 49, 50, 51, 52, 53, 54, 55, 56, 57, 1, 58, 59, 60, 61, 62, 63, 64, 65, 66, 67, 68, 69, 70, 71, 72, 73, 74, 75, 76, 77, 78] (by decide +kernel) (by decide +kernel)
set_option maxRecDepth 20000 in
theorem gX3_unread_X3_looks : GoodIn wsX3_unread (wsV RX3 109 RX3 yX3_looks wsX3_looks) := goodIn_app (goodIn_of _ (by decide +kernel)) ggX3_unread_X3_looks
set_option maxRecDepth 20000 in
theorem ggX3_people_X3_looks : GoodIn wsX3_people wsX3_looks := goodIn_r _ [9, 10, 11, 12, 8, 13, 14, 15, 16, 17, 18, 19, 20, 21, 2, 22, 3, 23, 24, 25, 26, 27, 28, 29, 30, 31, 32, 33, 34, 35, 36, 37, 38, 39, 40, 41, 42, 43, 44, 45, 46, 47, 48, 49, 50, 51, 52, 53, 54, 55, 56, 57, 1, 58, 59, 60, 61, 62, 63, 64, 65, 66, 67, 68, 69, 70, 71, 72, 73, 74, 75, 76, 77, 78] (by decide +kernel) (by decide +kernel)
set_option maxRecDepth 20000 in
theorem gX3_people_X3_looks : GoodIn wsX3_people (wsV RX3 109 RX3 yX3_looks wsX3_looks) := goodIn_app (goodIn_of _ (by decide +kernel)) ggX3_people_X3_looks
set_option maxRecDepth 20000 in
theorem ggX3_latest_X3_looks : GoodIn wsX3_latest wsX3_looks := goodIn_r _ [9, 10, 11, 12, 8, 13, 14, 15, 16, 17, 18, 19, 20, 21, 2, 22, 3, 23, 24, 4, 25, 26, 27, 28, 29, 30, 31, 32, 33, 34, 35, 36, 37, 38, 39, 40, 41, 42, 43, 44, 45, 46, 47, 48, 49, 50, 51, 52, 53, 54, 55, 56, 1, 57, 58, 59, 60, 61, 62, 63, 64, 65, 66, 67, 68, 69, 70, 71, 72, 73, 74, 75, 76, 77] (by decide +kernel) (by decide +kernel)
set_option maxRecDepth 20000 in
theorem gX3_latest_X3_looks : GoodIn wsX3_latest (wsV RX3 109 RX3 yX3_looks wsX3_looks) := goodIn_app (goodIn_of _ (by decide +kernel)) ggX3_latest_X3_looks
set_option maxRecDepth 20000 in
theorem ggL_letter_X2_letter : GoodIn wsL_letter wsX2_letter := goodIn_ca (goodIn_ca (goodIn_r _ [7, 8, 9, 10, 11, 12, 13, 6, 14, 15, 16, 17, 18, 19, 20, 21, 22, 23, 24, 25, 26, 27, 28, 29, 30, 31, 32, 33, 34, 35, 36, 37, 38, 39, 40, 41, 42, 43, 44, 45, 46, 47, 48, 49, 50, 51, 52, 53, 54, 55, 56, 57, 58, 59, 60, 61, 62, 63, 64, 65, 66, 67, 68, 69, 70, 71, 72, 73, 74, 75, 76, 77, 78, 79, 80, 81, 82, 83, 84, 85, 86, 87, 88, 89, 90, 91, 92, 93, 94, 95, 96, 97, 98, 99, 100, 101, 102, 103, 104, 105, 106, 107, 108, 109, 110, 111, 112, 113, 114, 115, 116, 117, 118, 119, 120, 121, 122, 123, 124, 125, 126, 127, 128, 129, 130, 131, 132, 133, 134, 135, 136, 137, 138, 139, 140, 141, 142, 143, 144, 145, 146, 147, 148, 149, 150, 151, 152, 153, 154, 155, 156, 157, 158, 159, 160, 161, 162, 163, 164, 165, 166, 167, 168, 169, 170, 171, 172, 173, 174, 175, 176, 177, 178, 179, 180, 181, 182, 183, 184, 185, 186, 187, 188, 189, 190, 191, 192, 193, 194, 195, 196, 197, 198, 199, 200, 201, 202] (by decide +kernel) (by decide +kernel)) (goodIn_sub (fun _ h => List.mem_cons_of_mem _ (List.mem_append_left _ (List.mem_append_right _ h))) (by decide +kernel))) (goodIn_sub (fun _ h => List.mem_cons_of_mem _ (List.mem_append_right _ h)) (by decide +kernel))
set_option maxRecDepth 20000 in
theorem gL_letter_X2_letter : GoodIn wsL_letter (wsV RL 7 RX2 yX2_letter wsX2_letter) := goodIn_app (goodIn_of _ (by decide +kernel)) ggL_letter_X2_letter
set_option maxRecDepth 20000 in
theorem ggL_delete_X2_delete : GoodIn wsL_delete wsX2_delete := goodIn_ca (goodIn_ca (goodIn_r _ [7, 8, 9, 10, 11, 12, 6, 13, 14, 15, 16, 17, 18, 19, 20, 21, 22, 23, 24, 25, 26, 27, 28, 29, 30, 31, 32, 33, 34, 35, 36, 37, 38, 39, 40, 41, 42, 43, 44, 45, 46, 47, 48, 49, 50, 51, 52, 53, 54, 55, 56, 57, 58, 59, 60, 61, 62, 63, 64, 65, 66, 67, 68, 69, 70, 71, 72, 73, 74, 75, 76, 77, 78, 79, 80, 81, 82, 83, 84, 85, 86, 87, 88, 89, 90, 91, 92, 93, 94, 95, 96, 97, 98, 99, 100, 101, 102, 103, 104, 105, 106, 107, 108, 109, 110, 111, 112, 113, 114, 115, 116, 117, 118, 119, 120, 121, 122, 123, 124, 125, 126, 127, 128, 129, 130, 131, 132, 133, 134, 135, 136, 137, 138, 139, 140, 141, 142, 143, 144, 145, 146, 147, 148, 149, 150, 151, 152, 153, 154, 155, 156, 157, 158, 159, 160, 161, 162, 163, 164, 165, 166, 167, 168, 169, 170, 171, 172, 173, 174, 175, 176, 177, 178, 179, 180, 181, 182, 183, 184, 185, 186, 187, 188, 189, 190, 191, 192, 193, 194, 195, 196, 197, 198] (by decide +kernel) (by decide +kernel)) (goodIn_sub (fun _ h => List.mem_cons_of_mem _ (List.mem_append_left _ (List.mem_append_right _ h))) (by decide +kernel))) (goodIn_sub (fun _ h => List.mem_cons_of_mem _ (List.mem_append_right _ h)) (by decide +kernel))
set_option maxRecDepth 20000 in
theorem gL_delete_X2_delete : GoodIn wsL_delete (wsV RL 17 RX2 yX2_delete wsX2_delete) := goodIn_app (goodIn_of _ (by decide +kernel)) ggL_delete_X2_delete
set_option maxRecDepth 20000 in
theorem ggL_split_X2_split : GoodIn wsL_split wsX2_split := goodIn_ca (goodIn_ca (goodIn_r _ [7, 8, 9, 10, 11, 12, 6, 13, 14, 15, 16, 17, 18, 19, 20, 21, 22, 23, 24, 25, 26, 27, 28, 29, 30, 31, 32, 33, 34, 35, 36, 37, 38, 39, 40, 41, 42, 43, 44, 45, 46, 47, 48, 49, 50, 51, 52, 53, 54, 55, 56, 57, 58, 59, 60, 61, 62, 63, 64, 65, 66, 67, 68, 69, 70, 71, 72, 73, 74, 75, 76, 77, 78, 79, 80, 81, 82, 83, 84, 85, 86, 87, 88, 89, 90, 91, 92, 93, 94, 95, 96, 97, 98, 99, 100, 101, 102, 103, 104, 105, 106, 107, 108, 109, 110, 111, 112, 113, 114, 115, 116, 117, 118, 119, 120, 121, 122, 123, 124, 125, 126, 127, 128, 129, 130, 131, 132, 133, 134, 135, 136, 137, 138, 139, 140, 141, 142, 143, 144, 145, 146, 147, 148, 149, 150, 151, 152, 153, 154, 155, 156, 157, 158, 159, 160, 161, 162, 163, 164, 165, 166, 167, 168, 169, 170, 171, 172, 173, 174, 175, 176, 177, 178, 179, 180, 181, 182, 183, 184, 185, 186, 187, 188, 189, 190, 191, 192, 193, 194, 195] (by decide +kernel) (by decide +kernel)) (goodIn_sub (fun _ h => List.mem_cons_of_mem _ (List.mem_append_left _ (List.mem_append_right _ h))) (by decide +kernel))) (goodIn_sub (fun _ h => List.mem_cons_of_mem _ (List.mem_append_right _ h)) (by decide +kernel))
set_option maxRecDepth 20000 in
theorem gL_split_X2_split : GoodIn wsL_split (wsV RL 21 RX2 yX2_split wsX2_split) := goodIn_app (goodIn_of _ (by decide +kernel)) ggL_split_X2_split
set_option maxRecDepth 20000 in
theorem ggL_join_X2_join : GoodIn wsL_join wsX2_join := goodIn_ca (goodIn_ca (goodIn_r _ [7, 8, 9, 10, 11, 12, 13, 14, 15, 6, 16, 17, 18, 19, 20, 21, 22, 23, 24, 25, 26, 27, 28, 29, 30, 31, 32, 33, 34, 35, 36, 37, 38, 39, 40, 41, 42, 43, 44, 45, 46, 47, 48, 49, 50, 51, 52, 53, 54, 55, 56, 57, 58, 59, 60, 61, 62, 63, 64, 65, 66, 67, 68, 69, 70, 71, 72, 73, 74, 75, 76, 77, 78, 79, 80, 81, 82, 83, 84, 85, 86, 87, 88, 89, 90, 91, 92, 93, 94, 95, 96, 97, 98, 99, 100, 101, 102, 103, 104, 105, 106, 107, 108, 109, 110, 111, 112, 113, 114, 115, 116, 117, 118, 119, 120, 121, 122, 123, 124, 125, 126, 127, 128, 129, 130, 131, 132, 133, 134, 135, 136, 137, 138, 139, 140, 141, 142, 143, 144, 145, 146, 147, 148, 149, 150, 151, 152, 153, 154, 155, 156, 157, 158, 159, 160, 161, 162, 163, 164, 165, 166, 167, 168, 169, 170, 171, 172, 173, 174, 175, 176, 177, 178, 179, 180, 181, 182, 183, 184, 185, 186, 187, 188, 189, 190, 191, 192, 193, 194, 195, 196, 197, 198] (by decide +kernel) (by decide +kernel)) (goodIn_sub (fun _ h => List.mem_cons_of_mem _ (List.mem_append_left _ (List.mem_append_right _ h))) (by decide +kernel))) (goodIn_sub (fun _ h => List.mem_cons_of_mem _ (List.mem_append_right _ h)) (by decide +kernel))
set_option maxRecDepth 20000 in
theorem gL_join_X2_join : GoodIn wsL_join (wsV RL 24 RX2 yX2_join wsX2_join) := goodIn_app (goodIn_of _ (by decide +kernel)) ggL_join_X2_join
set_option maxRecDepth 20000 in
theorem ggL_release_X2_release : GoodIn wsL_release wsX2_release := goodIn_ca (goodIn_ca (goodIn_r _ [7, 8, 9, 10, 11, 12, 6, 13, 14, 15, 16, 17, 18, 19, 20, 21, 22, 23, 24, 25, 26, 27, 28, 29, 30, 31, 32, 33, 34, 35, 36, 37, 38, 39, 40, 41, 42, 43, 44, 45, 46, 47, 48, 49, 50, 51, 52, 53, 54, 55, 56, 57, 58, 59, 60, 61, 62, 63, 64, 65, 66, 67, 68, 69, 70, 71, 72, 73, 74, 75, 76, 77, 78, 79, 80, 81, 82, 83, 84, 85, 86, 87, 88, 89, 90, 91, 92, 93, 94, 95, 96, 97, 98, 99, 100, 101, 102, 103, 104, 105, 106, 107, 108, 109, 110, 111, 112, 113, 114, 115, 116, 117, 118, 119, 120, 121, 122, 123, 124, 125, 126, 127, 128, 129, 130, 131, 132, 133, 134, 135, 136, 137, 138, 139, 140, 141, 142, 143, 144, 145, 146, 147, 148, 149, 150, 151, 152, 153, 154, 155, 156, 157, 158, 159, 160, 161, 162, 163, 164, 165, 166, 167, 168, 169, 170, 171, 172, 173, 174, 175, 176, 177, 178, 179, 180, 181, 182, 183, 184, 185, 186, 187, 188, 189, 190, 191, 192, 193, 194, 195] (by decide +kernel) (by decide +kernel)) (goodIn_sub (fun _ h => List.mem_cons_of_mem _ (List.mem_append_left _ (List.mem_append_right _ h))) (by decide +kernel))) (goodIn_sub (fun _ h => List.mem_cons_of_mem _ (List.mem_append_right _ h)) (by decide +kernel))
set_option maxRecDepth 20000 in
theorem gL_release_X2_release : GoodIn wsL_release (wsV RL 28 RX2 yX2_release wsX2_release) := goodIn_app (goodIn_of _ (by decide +kernel)) ggL_release_X2_release
set_option maxRecDepth 20000 in
theorem ggL_read_X2_read : GoodIn wsL_read wsX2_read := goodIn_ca (goodIn_ca (goodIn_r _ [7, 8, 9, 10, 11, 12, 6, 13, 14, 15, 16, 17, 18, 19, 20, 21, 22, 23, 24, 25, 26, 27, 28, 29, 30, 31, 32, 33, 34, 35, 36, 37, 38, 39, 40, 41, 42, 43, 44, 45, 46, 47, 48, 49, 50, 51, 52, 53, 54, 55, 56, 57, 58, 59, 60, 61, 62, 63, 64, 65, 66, 67, 68, 69, 70, 71, 72, 73] (by decide +kernel) (by decide +kernel)) (goodIn_sub (fun _ h => List.mem_cons_of_mem _ (List.mem_append_left _ (List.mem_append_right _ h))) (by decide +kernel))) (goodIn_sub (fun _ h => List.mem_cons_of_mem _ (List.mem_append_right _ h)) (by decide +kernel))
set_option maxRecDepth 20000 in
theorem gL_read_X2_read : GoodIn wsL_read (wsV RL 32 RX2 yX2_read wsX2_read) := goodIn_app (goodIn_of _ (by decide +kernel)) ggL_read_X2_read
set_option maxRecDepth 20000 in
theorem ggL_state_X2_state : GoodIn wsL_state wsX2_state := goodIn_ca (goodIn_r _ [6, 7, 8, 9, 10, 5, 11, 12, 13, 14, 15, 16, 17, 18, 19, 20, 21, 22, 23, 24, 25, 26, 27, 28, 29, 30, 31, 32, 33, 34, 35, 36, 37, 38, 39, 40, 41, 42, 43, 44, 45, 46, 47, 48, 49, 50, 51, 52, 53, 54] (by decide +kernel) (by decide +kernel)) (goodIn_sub (fun _ h => List.mem_cons_of_mem _ (List.mem_append_right _ h)) (by decide +kernel))
set_option maxRecDepth 20000 in
theorem gL_state_X2_state : GoodIn wsL_state (wsV RL 37 RX2 yX2_state wsX2_state) := goodIn_app (goodIn_of _ (by decide +kernel)) ggL_state_X2_state
set_option maxRecDepth 20000 in
theorem ggL_parent_X2_parent : GoodIn wsL_parent wsX2_parent := goodIn_ca (goodIn_ca (goodIn_r _ [7, 8, 9, 10, 11, 6, 12, 13, 14, 15, 16, 17, 18, 19, 20, 21, 22, 23, 24, 25, 26, 27, 28, 29, 30, 31, 32, 33, 34, 35, 36, 37, 38, 39, 40, 41, 42, 43, 44, 45, 46, 47] (by decide +kernel) (by decide +kernel)) (goodIn_sub (fun _ h => List.mem_cons_of_mem _ (List.mem_append_left _ (List.mem_append_right _ h))) (by decide +kernel))) (goodIn_sub (fun _ h => List.mem_cons_of_mem _ (List.mem_append_right _ h)) (by decide +kernel))
set_option maxRecDepth 20000 in
theorem gL_parent_X2_parent : GoodIn wsL_parent (wsV RL 40 RX2 yX2_parent wsX2_parent) := goodIn_app (goodIn_of _ (by decide +kernel)) ggL_parent_X2_parent
set_option maxRecDepth 20000 in
theorem ggL_children_X2_children : GoodIn wsL_children wsX2_children := goodIn_ca (goodIn_ca (goodIn_r _ [7, 8, 9, 10, 11, 6, 12, 13, 14, 15, 16, 17, 18, 19, 20, 21, 22, 23, 24, 25, 26, 27, 28, 29, 30, 31, 32, 33, 34, 35, 36, 37, 38, 39, 40, 41, 42, 43, 44, 45, 46] (by decide +kernel) (by decide +kernel)) (goodIn_sub (fun _ h => List.mem_cons_of_mem _ (List.mem_append_left _ (List.mem_append_right _ h))) (by decide +kernel))) (goodIn_sub (fun _ h => List.mem_cons_of_mem _ (List.mem_append_right _ h)) (by decide +kernel))
set_option maxRecDepth 20000 in
theorem gL_children_X2_children : GoodIn wsL_children (wsV RL 43 RX2 yX2_children wsX2_children) := goodIn_app (goodIn_of _ (by decide +kernel)) ggL_children_X2_children
set_option maxRecDepth 20000 in
theorem ggL_root_X2_root : GoodIn wsL_root wsX2_root := goodIn_ca (goodIn_r _ [6, 7, 8, 9, 10, 11, 12, 13, 14, 15, 16, 5, 17, 18, 19, 20, 21, 22, 23, 24, 25, 26, 27, 28, 29, 30, 31, 32] (by decide +kernel) (by decide +kernel)) (goodIn_sub (fun _ h => List.mem_cons_of_mem _ (List.mem_append_right _ h)) (by decide +kernel))
set_option maxRecDepth 20000 in
theorem gL_root_X2_root : GoodIn wsL_root (wsV RL 46 RX2 yX2_root wsX2_root) := goodIn_app (goodIn_of _ (by decide +kernel)) ggL_root_X2_root
set_option maxRecDepth 20000 in
theorem ggL_inTree_X2_inTree : GoodIn wsL_inTree wsX2_inTree := goodIn_ca (goodIn_ca (goodIn_r _ [7, 8, 9, 10, 11, 12, 13, 6, 14, 15, 16, 17, 18, 19, 20, 21, 22, 23, 24, 25, 26, 27, 28, 29, 30, 31, 32, 33, 34, 35, 36, 37, 38, 39, 40, 41, 42, 43, 44, 45, 46, 47, 48, 49] (by decide +kernel) (by decide +kernel)) (goodIn_sub (fun _ h => List.mem_cons_of_mem _ (List.mem_append_left _ (List.mem_append_right _ h))) (by decide +kernel))) (goodIn_sub (fun _ h => List.mem_cons_of_mem _ (List.mem_append_right _ h)) (by decide +kernel))
set_option maxRecDepth 20000 in
theorem gL_inTree_X2_inTree : GoodIn wsL_inTree (wsV RL 49 RX2 yX2_inTree wsX2_inTree) := goodIn_app (goodIn_of _ (by decide +kernel)) ggL_inTree_X2_inTree
set_option maxRecDepth 20000 in
theorem ggL_depth_X2_depth : GoodIn wsL_depth wsX2_depth := goodIn_ca (goodIn_ca (goodIn_r _ [7, 8, 9, 10, 11, 6, 12, 13, 14, 15, 16, 17, 18, 19, 20, 21, 22, 23, 24, 25, 26, 27, 28, 29, 30, 31, 32, 33, 34, 35, 36, 37, 38, 39, 40, 41, 42, 43, 44, 45, 46, 47, 48, 49, 50, 51] (by decide +kernel) (by decide +kernel)) (goodIn_sub (fun _ h => List.mem_cons_of_mem _ (List.mem_append_left _ (List.mem_append_right _ h))) (by decide +kernel))) (goodIn_sub (fun _ h => List.mem_cons_of_mem _ (List.mem_append_right _ h)) (by decide +kernel))
set_option maxRecDepth 20000 in
theorem gL_depth_X2_depth : GoodIn wsL_depth (wsV RL 52 RX2 yX2_depth wsX2_depth) := goodIn_app (goodIn_of _ (by decide +kernel)) ggL_depth_X2_depth
set_option maxRecDepth 20000 in
theorem ggL_letters_X2_letters : GoodIn wsL_letters wsX2_letters := goodIn_ca (goodIn_ca (goodIn_r _ [7, 8, 9, 10, 11, 12, 6, 13, 14, 15, 16, 17, 18, 19, 20, 21, 22, 23, 24, 25, 26, 27, 28, 29, 30, 31, 32, 33, 34, 35, 36, 37, 38, 39, 40, 41, 42, 43, 44, 45, 46, 47, 48, 49, 50, 51, 52, 53, 54, 55, 56, 57, 58, 59, 60, 61, 62, 63, 64] (by decide +kernel) (by decide +kernel)) (goodIn_sub (fun _ h => List.mem_cons_of_mem _ (List.mem_append_left _ (List.mem_append_right _ h))) (by decide +kernel))) (goodIn_sub (fun _ h => List.mem_cons_of_mem _ (List.mem_append_right _ h)) (by decide +kernel))
set_option maxRecDepth 20000 in
theorem gL_letters_X2_letters : GoodIn wsL_letters (wsV RL 55 RX2 yX2_letters wsX2_letters) := goodIn_app (goodIn_of _ (by decide +kernel)) ggL_letters_X2_letters
set_option maxRecDepth 20000 in
theorem ggL_unread_X2_unread : GoodIn wsL_unread wsX2_unread := goodIn_ca (goodIn_ca (goodIn_r _ [7, 8, 9, 10, 11, 12, 6, 13, 14, 15, 16, 17, 18, 19, 20, 21, 22, 23, 24, 25, 26, 27, 28, 29, 30, 31, 32, 33, 34, 35, 36, 37, 38, 39, 40, 41, 42, 43, 44, 45, 46, 47, 48, 49, 50, 51, 52, 53, 54, 55, 56, 57, 58, 59, 60, 61, 62, 63, 64, 65, 66, 67, 68, 69] (by decide +kernel) (by decide +kernel)) (goodIn_sub (fun _ h => List.mem_cons_of_mem _ (List.mem_append_left _ (List.mem_append_right _ h))) (by decide +kernel))) (goodIn_sub (fun _ h => List.mem_cons_of_mem _ (List.mem_append_right _ h)) (by decide +kernel))
set_option maxRecDepth 20000 in
theorem gL_unread_X2_unread : GoodIn wsL_unread (wsV RL 58 RX2 yX2_unread wsX2_unread) := goodIn_app (goodIn_of _ (by decide +kernel)) ggL_unread_X2_unread
set_option maxRecDepth 20000 in
theorem ggL_people_X2_people : GoodIn wsL_people wsX2_people := goodIn_ca (goodIn_ca (goodIn_r _ [7, 8, 9, 10, 11, 12, 6, 13, 14, 15, 16, 17, 18, 19, 20, 21, 22, 23, 24, 25, 26, 27, 28, 29, 30, 31, 32, 33, 34, 35, 36, 37, 38, 39, 40, 41, 42, 43, 44, 45, 46, 47, 48, 49, 50, 51, 52, 53, 54, 55, 56, 57, 58, 59, 60, 61, 62, 63, 64, 65, 66, 67, 68, 69] (by decide +kernel) (by decide +kernel)) (goodIn_sub (fun _ h => List.mem_cons_of_mem _ (List.mem_append_left _ (List.mem_append_right _ h))) (by decide +kernel))) (goodIn_sub (fun _ h => List.mem_cons_of_mem _ (List.mem_append_right _ h)) (by decide +kernel))
set_option maxRecDepth 20000 in
theorem gL_people_X2_people : GoodIn wsL_people (wsV RL 61 RX2 yX2_people wsX2_people) := goodIn_app (goodIn_of _ (by decide +kernel)) ggL_people_X2_people
set_option maxRecDepth 20000 in
theorem ggL_latest_X2_latest : GoodIn wsL_latest wsX2_latest := goodIn_ca (goodIn_ca (goodIn_r _ [7, 8, 9, 10, 11, 12, 13, 14, 15, 16, 6, 17, 18, 19, 20, 21, 22, 23, 24, 25, 26, 27, 28, 29, 30, 31, 32, 33, 34, 35, 36, 37, 38, 39, 40, 41, 42, 43, 44, 45, 46, 47, 48, 49, 50, 51, 52, 53, 54, 55, 56, 57, 58, 59, 60, 61, 62, 63, 64, 65, 66, 67, 68, 69, 70, 71, 72, 73] (by decide +kernel) (by decide +kernel)) (goodIn_sub (fun _ h => List.mem_cons_of_mem _ (List.mem_append_left _ (List.mem_append_right _ h))) (by decide +kernel))) (goodIn_sub (fun _ h => List.mem_cons_of_mem _ (List.mem_append_right _ h)) (by decide +kernel))
set_option maxRecDepth 20000 in
theorem gL_latest_X2_latest : GoodIn wsL_latest (wsV RL 64 RX2 yX2_latest wsX2_latest) := goodIn_app (goodIn_of _ (by decide +kernel)) ggL_latest_X2_latest
set_option maxRecDepth 20000 in
theorem ggL_law_X2_init : GoodIn wsL_law wsX2_init := goodIn_r _ [9, 10, 11, 12, 13, 14, 15, 16, 17, 18, 19, 20, 21, 22, 23, 24, 25, 26, 27, 28, 29, 30, 31, 32, 33, 34, 35, 36, 37, 38, 39, 40, 41, 42, 43, 44, 45, 46, 47, 48, 49, 536, 537, 538, 539, 540, 541, 542, 543, 544, 518, 519, 545, 546, 547, 548, 549, 550, 551, 552, 553, 554, 555, 556, 557] (by decide +kernel) (by decide +kernel)
set_option maxRecDepth 20000 in
theorem gL_law_X2_init : GoodIn wsL_law (wsX2_init) := ggL_law_X2_init
set_option maxRecDepth 20000 in
theorem ggL_law_X3_init : GoodIn wsL_law wsX3_init := goodIn_r _ [52, 53, 11, 12, 24, 54, 26, 55, 56, 57, 58, 59, 60, 61, 62, 63, 64, 65, 66, 67, 520, 521, 522, 523, 524, 525, 526, 527, 528, 529, 530, 531, 532, 533, 534, 535] (by decide +kernel) (by decide +kernel)
set_option maxRecDepth 20000 in
theorem gL_law_X3_init : GoodIn wsL_law (wsX3_init) := ggL_law_X3_init
set_option maxRecDepth 20000 in
theorem ggL_law_L_letter : GoodIn wsL_law wsL_letter := goodIn_ca (goodIn_ca (goodIn_r _ [71, 72, 73, 74, 75, 76, 2, 77, 78, 79, 16, 20, 80, 81, 82, 83, 84, 85, 86, 87, 88, 89, 90, 91, 92, 93, 94, 15, 95, 96, 25, 97, 98, 99, 27, 28, 30, 29, 31, 32, 33, 34, 100, 19, 101, 102, 103, 104, 105, 106, 38, 49, 107, 108, 109, 110, 111, 112, 113, 114, 115, 116, 117, 118, 119, 120, 121, 122, 123, 124, 39, 125, 126, 127, 128, 129, 130, 131, 132, 133, 134, 135, 136, 137, 138, 139, 140, 141, 142, 40, 143, 144, 145, 146, 147, 148, 149, 150, 41, 151, 152, 153, 154, 155, 156, 157, 158, 159, 160, 161, 162, 163, 164, 165, 166, 167, 168, 169, 170, 171, 172, 173, 174, 175, 176, 177, 178, 179, 44, 42, 43, 180, 181, 182, 183, 184, 185, 186, 187, 188, 189, 190, 191, 192, 193, 194, 195, 196, 48, 197, 198, 199, 200, 201, 202, 203, 204, 205, 206, 207, 208, 45, 46, 47, 209, 210, 211, 212, 213, 214, 215, 216, 217, 218, 219, 220, 221, 222, 223, 518, 519, 536, 537, 538, 539, 540, 541, 542, 543, 544, 545, 546, 547, 548, 549, 550, 551, 552, 553, 554, 555, 556, 557] (by decide +kernel) (by decide +kernel)) (goodIn_sub (fun _ h => List.mem_append_left _ (List.mem_append_left _ (List.mem_append_right _ h))) (by decide +kernel))) (goodIn_sub (fun _ h => List.mem_append_left _ (List.mem_append_right _ h)) (by decide +kernel))
set_option maxRecDepth 20000 in
theorem gL_law_L_letter : GoodIn wsL_law (va_wsS RL 71 yL_letter wsL_letter) := goodIn_app (goodIn_of _ (by decide +kernel)) ggL_law_L_letter
set_option maxRecDepth 20000 in
theorem ggL_law_X3_letter : GoodIn wsL_law wsX3_letter := goodIn_r _ [227, 54, 55, 56, 57, 58, 59, 60, 61, 228, 229, 5, 230, 231, 232, 233, 234, 235, 236, 237, 238, 239, 240, 241, 242, 243, 244, 245, 246, 64, 63, 65, 66, 247, 248, 249, 250, 62, 251, 252, 253, 254, 255, 256, 257, 258, 259, 260, 261, 262, 263, 264, 265, 266, 267, 268, 269, 270, 520, 521, 522, 523, 524, 525, 526, 527, 528, 529, 530, 531, 532, 533, 534, 535] (by decide +kernel) (by decide +kernel)
set_option maxRecDepth 20000 in
theorem gL_law_X3_letter : GoodIn wsL_law (wsV RL 76 RX3 yX3_letter wsX3_letter) := goodIn_app (goodIn_of _ (by decide +kernel)) ggL_law_X3_letter
set_option maxRecDepth 20000 in
theorem ggL_law_X3_thrown : GoodIn wsL_law wsX3_thrown := goodIn_r _ [274, 238, 520, 521, 522, 523, 524, 525, 526, 527, 528, 529, 530, 531, 532, 533, 534, 535] (by decide +kernel) (by decide +kernel)
set_option maxRecDepth 20000 in
theorem gL_law_X3_thrown : GoodIn wsL_law (wsV RL 77 RX3 yX3_thrown wsX3_thrown) := goodIn_app (goodIn_of _ (by decide +kernel)) ggL_law_X3_thrown
set_option maxRecDepth 20000 in
theorem ggL_law_L_delete : GoodIn wsL_law wsL_delete := goodIn_ca (goodIn_ca (goodIn_r _ [277, 72, 73, 278, 279, 280, 2, 281, 16, 20, 282, 283, 284, 285, 78, 79, 80, 81, 82, 83, 84, 85, 86, 87, 94, 15, 95, 96, 25, 286, 287, 288, 100, 19, 101, 102, 103, 104, 105, 106, 38, 49, 107, 108, 109, 28, 110, 111, 112, 113, 114, 115, 116, 117, 27, 118, 119, 120, 34, 121, 122, 123, 124, 39, 125, 126, 127, 128, 129, 130, 131, 132, 133, 134, 135, 136, 137, 138, 139, 140, 141, 142, 40, 143, 144, 145, 146, 147, 148, 149, 150, 41, 151, 152, 153, 154, 155, 156, 157, 158, 159, 160, 161, 162, 163, 164, 165, 30, 166, 167, 168, 169, 170, 171, 172, 31, 29, 173, 174, 175, 176, 177, 178, 179, 44, 42, 43, 180, 181, 182, 183, 184, 185, 186, 187, 188, 189, 190, 191, 192, 193, 194, 195, 196, 48, 197, 198, 199, 200, 201, 202, 203, 204, 205, 206, 207, 208, 45, 46, 47, 209, 210, 211, 212, 213, 214, 215, 216, 217, 218, 219, 220, 221, 222, 223, 518, 519, 536, 537, 538, 539, 540, 541, 542, 543, 544, 545, 546, 547, 548, 549, 550, 551, 552, 553, 554, 555, 556, 557] (by decide +kernel) (by decide +kernel)) (goodIn_sub (fun _ h => List.mem_append_left _ (List.mem_append_left _ (List.mem_append_right _ h))) (by decide +kernel))) (goodIn_sub (fun _ h => List.mem_append_left _ (List.mem_append_right _ h)) (by decide +kernel))
set_option maxRecDepth 20000 in
theorem gL_law_L_delete : GoodIn wsL_law (va_wsS RL 81 yL_delete wsL_delete) := goodIn_app (goodIn_of _ (by decide +kernel)) ggL_law_L_delete
set_option maxRecDepth 20000 in
theorem ggL_law_X3_delete : GoodIn wsL_law wsX3_delete := goodIn_r _ [292, 54, 61, 293, 294, 295, 5, 296, 228, 229, 230, 231, 232, 233, 234, 235, 236, 237, 238, 239, 240, 241, 242, 243, 244, 245, 246, 64, 63, 65, 66, 57, 58, 247, 248, 249, 250, 62, 55, 56, 251, 252, 253, 254, 255, 256, 257, 258, 259, 260, 261, 262, 263, 264, 265, 266, 267, 268, 269, 270, 520, 521, 522, 523, 524, 525, 526, 527, 528, 529, 530, 531, 532, 533, 534, 535] (by decide +kernel) (by decide +kernel)
set_option maxRecDepth 20000 in
theorem gL_law_X3_delete : GoodIn wsL_law (wsV RL 84 RX3 yX3_delete wsX3_delete) := goodIn_app (goodIn_of _ (by decide +kernel)) ggL_law_X3_delete
set_option maxRecDepth 20000 in
theorem ggL_law_L_split : GoodIn wsL_law wsL_split := goodIn_ca (goodIn_ca (goodIn_r _ [299, 72, 73, 300, 301, 302, 2, 303, 20, 16, 282, 283, 284, 285, 78, 79, 80, 81, 82, 83, 84, 85, 86, 87, 94, 15, 95, 96, 25, 214, 19, 215, 216, 40, 201, 202, 203, 204, 41, 304, 305, 306, 34, 110, 100, 101, 102, 103, 104, 105, 106, 38, 49, 107, 108, 109, 28, 111, 112, 113, 114, 115, 116, 117, 27, 118, 119, 120, 121, 122, 123, 124, 39, 125, 126, 127, 128, 129, 130, 131, 132, 133, 134, 135, 136, 137, 138, 139, 140, 141, 142, 143, 144, 145, 146, 147, 148, 149, 150, 151, 152, 153, 154, 155, 156, 157, 158, 159, 160, 161, 162, 163, 164, 165, 30, 166, 167, 168, 169, 170, 171, 172, 31, 29, 173, 174, 175, 176, 177, 178, 179, 44, 42, 43, 180, 181, 182, 183, 184, 185, 186, 187, 188, 189, 190, 191, 192, 193, 194, 195, 196, 48, 197, 198, 199, 200, 205, 206, 207, 208, 45, 46, 47, 209, 210, 211, 212, 213, 217, 218, 219, 220, 518, 519, 536, 537, 538, 539, 540, 541, 542, 543, 544, 545, 546, 547, 548, 549, 550, 551, 552, 553, 554, 555, 556, 557] (by decide +kernel) (by decide +kernel)) (goodIn_sub (fun _ h => List.mem_append_left _ (List.mem_append_left _ (List.mem_append_right _ h))) (by decide +kernel))) (goodIn_sub (fun _ h => List.mem_append_left _ (List.mem_append_right _ h)) (by decide +kernel))
set_option maxRecDepth 20000 in
theorem gL_law_L_split : GoodIn wsL_law (va_wsS RL 85 yL_split wsL_split) := goodIn_app (goodIn_of _ (by decide +kernel)) ggL_law_L_split
set_option maxRecDepth 20000 in
theorem ggL_law_X3_split : GoodIn wsL_law wsX3_split := goodIn_r _ [310, 61, 64, 293, 294, 295, 5, 296, 54, 228, 229, 230, 231, 232, 233, 234, 235, 236, 237, 238, 243, 244, 245, 246, 63, 65, 66, 57, 58, 247, 248, 249, 250, 62, 55, 56, 251, 252, 253, 254, 255, 256, 257, 258, 259, 260, 261, 262, 263, 264, 265, 266, 520, 521, 522, 523, 524, 525, 526, 527, 528, 529, 530, 531, 532, 533, 534, 535] (by decide +kernel) (by decide +kernel)
set_option maxRecDepth 20000 in
theorem gL_law_X3_split : GoodIn wsL_law (wsV RL 87 RX3 yX3_split wsX3_split) := goodIn_app (goodIn_of _ (by decide +kernel)) ggL_law_X3_split
set_option maxRecDepth 20000 in
theorem ggL_law_L_join : GoodIn wsL_law wsL_join := goodIn_ca (goodIn_ca (goodIn_r _ [313, 72, 73, 314, 315, 316, 2, 317, 83, 84, 78, 79, 20, 16, 80, 81, 82, 85, 86, 87, 282, 283, 284, 285, 94, 15, 95, 96, 25, 318, 19, 319, 320, 213, 214, 215, 216, 40, 201, 202, 203, 204, 41, 304, 305, 306, 34, 110, 100, 101, 102, 103, 104, 105, 106, 38, 49, 107, 108, 109, 28, 111, 112, 113, 114, 115, 116, 117, 27, 118, 119, 120, 121, 122, 123, 124, 39, 125, 126, 127, 128, 129, 130, 131, 132, 133, 134, 135, 136, 137, 138, 139, 140, 141, 142, 143, 144, 145, 146, 147, 148, 149, 150, 151, 152, 153, 154, 155, 156, 157, 158, 159, 160, 161, 162, 163, 164, 165, 30, 166, 167, 168, 169, 170, 171, 172, 31, 29, 173, 174, 175, 176, 177, 178, 179, 44, 42, 43, 180, 181, 182, 183, 184, 185, 186, 187, 188, 189, 190, 191, 192, 193, 194, 195, 196, 48, 197, 198, 199, 200, 205, 206, 207, 208, 45, 46, 47, 209, 210, 211, 212, 217, 218, 219, 220, 518, 519, 536, 537, 538, 539, 540, 541, 542, 543, 544, 545, 546, 547, 548, 549, 550, 551, 552, 553, 554, 555, 556, 557] (by decide +kernel) (by decide +kernel)) (goodIn_sub (fun _ h => List.mem_append_left _ (List.mem_append_right _ h)) (by decide +kernel))) (goodIn_sub (fun _ h => List.mem_append_left _ (List.mem_append_left _ (List.mem_append_right _ h))) (by decide +kernel))
set_option maxRecDepth 20000 in
theorem gL_law_L_join : GoodIn wsL_law (va_wsS RL 88 yL_join wsL_join) := goodIn_app (goodIn_of _ (by decide +kernel)) ggL_law_L_join
set_option maxRecDepth 20000 in
theorem ggL_law_X3_join : GoodIn wsL_law wsX3_join := goodIn_r _ [324, 54, 325, 66, 61, 64, 228, 229, 5, 230, 231, 232, 233, 243, 244, 245, 246, 63, 65, 57, 58, 247, 248, 249, 250, 62, 55, 56, 251, 252, 253, 254, 255, 256, 257, 258, 259, 260, 261, 262, 263, 264, 265, 266, 326, 327, 328, 329, 67, 330, 331, 332, 333, 234, 235, 236, 237, 238, 520, 521, 522, 523, 524, 525, 526, 527, 528, 529, 530, 531, 532, 533, 534, 535] (by decide +kernel) (by decide +kernel)
set_option maxRecDepth 20000 in
theorem gL_law_X3_join : GoodIn wsL_law (wsV RL 91 RX3 yX3_join wsX3_join) := goodIn_app (goodIn_of _ (by decide +kernel)) ggL_law_X3_join
set_option maxRecDepth 20000 in
theorem ggL_law_L_release : GoodIn wsL_law wsL_release := goodIn_ca (goodIn_ca (goodIn_r _ [336, 72, 73, 337, 338, 339, 2, 340, 16, 20, 282, 283, 284, 285, 78, 79, 80, 81, 82, 83, 84, 85, 86, 87, 94, 15, 95, 96, 25, 118, 119, 120, 34, 110, 304, 305, 306, 100, 19, 101, 102, 103, 104, 105, 106, 38, 49, 107, 108, 109, 28, 111, 112, 113, 114, 115, 116, 117, 27, 121, 122, 123, 124, 39, 125, 126, 127, 128, 129, 130, 131, 132, 133, 134, 135, 136, 137, 138, 139, 140, 141, 142, 40, 143, 144, 145, 146, 147, 148, 149, 150, 41, 151, 152, 153, 154, 155, 156, 157, 158, 159, 160, 161, 162, 163, 164, 165, 30, 166, 167, 168, 169, 170, 171, 172, 31, 29, 173, 174, 175, 176, 177, 178, 179, 44, 42, 43, 180, 181, 182, 183, 184, 185, 186, 187, 188, 189, 190, 191, 192, 193, 194, 195, 196, 48, 197, 198, 199, 200, 201, 202, 203, 204, 205, 206, 207, 208, 45, 46, 47, 209, 210, 211, 212, 213, 214, 215, 216, 217, 218, 219, 220, 518, 519, 536, 537, 538, 539, 540, 541, 542, 543, 544, 545, 546, 547, 548, 549, 550, 551, 552, 553, 554, 555, 556, 557] (by decide +kernel) (by decide +kernel)) (goodIn_sub (fun _ h => List.mem_append_left _ (List.mem_append_left _ (List.mem_append_right _ h))) (by decide +kernel))) (goodIn_sub (fun _ h => List.mem_append_left _ (List.mem_append_right _ h)) (by decide +kernel))
set_option maxRecDepth 20000 in
theorem gL_law_L_release : GoodIn wsL_law (va_wsS RL 92 yL_release wsL_release) := goodIn_app (goodIn_of _ (by decide +kernel)) ggL_law_L_release
set_option maxRecDepth 20000 in
theorem ggL_law_X3_release : GoodIn wsL_law wsX3_release := goodIn_r _ [344, 61, 293, 294, 295, 5, 296, 54, 228, 229, 230, 231, 232, 233, 234, 235, 236, 237, 238, 520, 521, 522, 523, 524, 525, 526, 527, 528, 529, 530, 531, 532, 533, 534, 535] (by decide +kernel) (by decide +kernel)
set_option maxRecDepth 20000 in
theorem gL_law_X3_release : GoodIn wsL_law (wsV RL 94 RX3 yX3_release wsX3_release) := goodIn_app (goodIn_of _ (by decide +kernel)) ggL_law_X3_release
set_option maxRecDepth 20000 in
theorem ggL_law_L_read : GoodIn wsL_law wsL_read := goodIn_ca (goodIn_ca (goodIn_r _ [347, 72, 348, 349, 350, 351, 2, 352, 16, 20, 353, 354, 355, 356, 357, 358, 80, 81, 82, 83, 84, 85, 86, 87, 202, 19, 203, 204, 41, 359, 360, 361, 44, 46, 47, 201, 362, 15, 363, 364, 33, 365, 366, 367, 368, 110, 94, 95, 96, 25, 518, 519, 545, 546, 547, 548, 549, 550, 551, 552, 553, 554, 555, 556, 557, 536, 537, 538, 539, 540, 541, 542, 543, 544] (by decide +kernel) (by decide +kernel)) (goodIn_sub (fun _ h => List.mem_append_right _ h) (by decide +kernel))) (goodIn_sub (fun _ h => List.mem_append_left _ (List.mem_append_right _ h)) (by decide +kernel))
set_option maxRecDepth 20000 in
theorem gL_law_L_read : GoodIn wsL_law (va_wsS RL 95 yL_read wsL_read) := goodIn_app (goodIn_of _ (by decide +kernel)) ggL_law_L_read
set_option maxRecDepth 20000 in
theorem ggL_law_X3_read : GoodIn wsL_law wsX3_read := goodIn_r _ [372, 325, 54, 66, 60, 373, 374, 375, 5, 376, 65, 228, 229, 230, 231, 232, 233, 243, 244, 245, 246, 64, 63, 57, 61, 58, 247, 248, 249, 250, 62, 55, 56, 251, 252, 253, 254, 255, 256, 257, 258, 259, 260, 261, 262, 263, 264, 265, 266, 234, 235, 236, 237, 238, 326, 327, 328, 329, 67, 330, 331, 332, 333, 520, 521, 522, 523, 524, 525, 526, 527, 528, 529, 530, 531, 532, 533, 534, 535] (by decide +kernel) (by decide +kernel)
set_option maxRecDepth 20000 in
theorem gL_law_X3_read : GoodIn wsL_law (wsV RL 97 RX3 yX3_read wsX3_read) := goodIn_app (goodIn_of _ (by decide +kernel)) ggL_law_X3_read
set_option maxRecDepth 20000 in
theorem ggL_law_L_state : GoodIn wsL_law wsL_state := goodIn_ca (goodIn_r _ [379, 72, 380, 381, 382, 2, 383, 16, 20, 80, 81, 82, 83, 84, 85, 86, 87, 94, 15, 95, 96, 25, 202, 19, 203, 204, 41, 384, 385, 386, 38, 518, 519, 536, 537, 538, 539, 540, 541, 542, 543, 544, 545, 546, 547, 548, 549, 550, 551, 552, 553, 554, 555, 556, 557] (by decide +kernel) (by decide +kernel)) (goodIn_sub (fun _ h => List.mem_append_left _ (List.mem_append_right _ h)) (by decide +kernel))
set_option maxRecDepth 20000 in
theorem gL_law_L_state : GoodIn wsL_law (va_wsS RL 98 yL_state wsL_state) := goodIn_app (goodIn_of _ (by decide +kernel)) ggL_law_L_state
set_option maxRecDepth 20000 in
theorem ggL_law_X3_state : GoodIn wsL_law wsX3_state := goodIn_r _ [390, 62, 54, 65, 228, 229, 5, 230, 231, 232, 233, 391, 392, 393, 394, 238, 243, 244, 245, 246, 64, 63, 66, 57, 61, 58, 247, 248, 249, 250, 55, 56, 251, 252, 253, 254, 255, 256, 257, 258, 259, 260, 261, 262, 263, 264, 265, 266, 520, 521, 522, 523, 524, 525, 526, 527, 528, 529, 530, 531, 532, 533, 534, 535] (by decide +kernel) (by decide +kernel)
set_option maxRecDepth 20000 in
theorem gL_law_X3_state : GoodIn wsL_law (wsV RL 100 RX3 yX3_state wsX3_state) := goodIn_app (goodIn_of _ (by decide +kernel)) ggL_law_X3_state
set_option maxRecDepth 20000 in
theorem ggL_law_L_parent : GoodIn wsL_law wsL_parent := goodIn_ca (goodIn_ca (goodIn_r _ [397, 72, 348, 398, 399, 400, 2, 401, 20, 353, 354, 355, 356, 357, 358, 80, 81, 82, 83, 84, 85, 86, 87, 202, 19, 203, 204, 41, 214, 215, 216, 40, 201, 518, 519, 545, 546, 547, 548, 549, 550, 551, 552, 553, 554, 555, 556, 557] (by decide +kernel) (by decide +kernel)) (goodIn_sub (fun _ h => List.mem_append_right _ h) (by decide +kernel))) (goodIn_sub (fun _ h => List.mem_append_left _ (List.mem_append_right _ h)) (by decide +kernel))
set_option maxRecDepth 20000 in
theorem gL_law_L_parent : GoodIn wsL_law (va_wsS RL 101 yL_parent wsL_parent) := goodIn_app (goodIn_of _ (by decide +kernel)) ggL_law_L_parent
set_option maxRecDepth 20000 in
theorem ggL_law_X3_parent : GoodIn wsL_law wsX3_parent := goodIn_r _ [405, 64, 373, 374, 375, 5, 376, 65, 228, 229, 230, 231, 232, 233, 243, 244, 245, 246, 54, 63, 66, 57, 61, 58, 247, 248, 249, 250, 62, 55, 56, 251, 252, 253, 254, 255, 256, 257, 258, 259, 260, 261, 262, 263, 264, 265, 266, 234, 235, 236, 237, 238, 326, 327, 328, 329, 325, 67, 330, 331, 332, 333, 520, 521, 522, 523, 524, 525, 526, 527, 528, 529, 530, 531, 532, 533, 534, 535] (by decide +kernel) (by decide +kernel)
set_option maxRecDepth 20000 in
theorem gL_law_X3_parent : GoodIn wsL_law (wsV RL 103 RX3 yX3_parent wsX3_parent) := goodIn_app (goodIn_of _ (by decide +kernel)) ggL_law_X3_parent
set_option maxRecDepth 20000 in
theorem ggL_law_L_children : GoodIn wsL_law wsL_children := goodIn_ca (goodIn_ca (goodIn_r _ [408, 72, 348, 409, 410, 411, 2, 412, 20, 353, 354, 355, 356, 357, 358, 80, 81, 82, 83, 84, 85, 86, 87, 202, 19, 203, 204, 41, 152, 153, 154, 40, 518, 519, 545, 546, 547, 548, 549, 550, 551, 552, 553, 554, 555, 556, 557] (by decide +kernel) (by decide +kernel)) (goodIn_sub (fun _ h => List.mem_append_right _ h) (by decide +kernel))) (goodIn_sub (fun _ h => List.mem_append_left _ (List.mem_append_right _ h)) (by decide +kernel))
set_option maxRecDepth 20000 in
theorem gL_law_L_children : GoodIn wsL_law (va_wsS RL 104 yL_children wsL_children) := goodIn_app (goodIn_of _ (by decide +kernel)) ggL_law_L_children
set_option maxRecDepth 20000 in
theorem ggL_law_X3_children : GoodIn wsL_law wsX3_children := goodIn_r _ [416, 64, 373, 374, 375, 5, 376, 65, 228, 229, 230, 231, 232, 233, 243, 244, 245, 246, 54, 63, 66, 57, 61, 58, 247, 248, 249, 250, 62, 55, 56, 251, 252, 253, 254, 255, 256, 257, 258, 259, 260, 261, 262, 263, 264, 265, 266, 234, 235, 236, 237, 238, 326, 327, 328, 329, 325, 67, 330, 331, 332, 333, 520, 521, 522, 523, 524, 525, 526, 527, 528, 529, 530, 531, 532, 533, 534, 535] (by decide +kernel) (by decide +kernel)
set_option maxRecDepth 20000 in
theorem gL_law_X3_children : GoodIn wsL_law (wsV RL 106 RX3 yX3_children wsX3_children) := goodIn_app (goodIn_of _ (by decide +kernel)) ggL_law_X3_children
set_option maxRecDepth 20000 in
theorem ggL_law_X2_roots : GoodIn wsL_law wsX2_roots := goodIn_r _ [420, 20, 221, 19, 222, 223, 192, 518, 519, 545, 546, 547, 548, 549, 550, 551, 552, 553, 554, 555, 556, 557] (by decide +kernel) (by decide +kernel)
set_option maxRecDepth 20000 in
theorem gL_law_X2_roots : GoodIn wsL_law (wsV RL 107 RX2 yX2_roots wsX2_roots) := goodIn_app (goodIn_of _ (by decide +kernel)) ggL_law_X2_roots
set_option maxRecDepth 20000 in
theorem ggL_law_X3_roots : GoodIn wsL_law wsX3_roots := goodIn_r _ [424, 238, 239, 240, 241, 5, 242, 243, 244, 245, 246, 64, 54, 63, 65, 66, 57, 61, 58, 247, 248, 249, 250, 62, 55, 56, 251, 252, 253, 254, 255, 256, 257, 258, 259, 260, 261, 262, 263, 264, 265, 266, 267, 268, 269, 270, 520, 521, 522, 523, 524, 525, 526, 527, 528, 529, 530, 531, 532, 533, 534, 535] (by decide +kernel) (by decide +kernel)
set_option maxRecDepth 20000 in
theorem gL_law_X3_roots : GoodIn wsL_law (wsV RL 110 RX3 yX3_roots wsX3_roots) := goodIn_app (goodIn_of _ (by decide +kernel)) ggL_law_X3_roots
set_option maxRecDepth 20000 in
theorem ggL_law_L_root : GoodIn wsL_law wsL_root := goodIn_ca (goodIn_r _ [427, 348, 428, 429, 430, 2, 431, 357, 358, 20, 432, 19, 433, 434, 192, 48, 86, 87, 518, 519, 545, 546, 547, 548, 549, 550, 551, 552, 553, 554, 555, 556, 557] (by decide +kernel) (by decide +kernel)) (goodIn_sub (fun _ h => List.mem_append_right _ h) (by decide +kernel))
set_option maxRecDepth 20000 in
theorem gL_law_L_root : GoodIn wsL_law (va_wsS RL 111 yL_root wsL_root) := goodIn_app (goodIn_of _ (by decide +kernel)) ggL_law_L_root
set_option maxRecDepth 20000 in
theorem ggL_law_X3_root : GoodIn wsL_law wsX3_root := goodIn_r _ [438, 65, 64, 243, 244, 245, 5, 246, 54, 63, 66, 57, 61, 58, 247, 248, 249, 250, 62, 55, 56, 251, 252, 253, 254, 255, 256, 257, 258, 259, 260, 261, 262, 263, 264, 265, 266, 267, 268, 269, 270, 231, 232, 233, 391, 392, 393, 394, 238, 439, 440, 441, 442, 325, 326, 327, 328, 329, 67, 330, 331, 332, 333, 520, 521, 522, 523, 524, 525, 526, 527, 528, 529, 530, 531, 532, 533, 534, 535] (by decide +kernel) (by decide +kernel)
set_option maxRecDepth 20000 in
theorem gL_law_X3_root : GoodIn wsL_law (wsV RL 113 RX3 yX3_root wsX3_root) := goodIn_app (goodIn_of _ (by decide +kernel)) ggL_law_X3_root
set_option maxRecDepth 20000 in
theorem ggL_law_L_inTree : GoodIn wsL_law wsL_inTree := goodIn_ca (goodIn_ca (goodIn_r _ [445, 72, 348, 446, 447, 448, 2, 449, 357, 358, 20, 353, 354, 355, 356, 80, 81, 82, 83, 84, 85, 86, 87, 202, 19, 203, 204, 41, 359, 360, 361, 44, 46, 47, 201, 518, 519, 545, 546, 547, 548, 549, 550, 551, 552, 553, 554, 555, 556, 557] (by decide +kernel) (by decide +kernel)) (goodIn_sub (fun _ h => List.mem_append_right _ h) (by decide +kernel))) (goodIn_sub (fun _ h => List.mem_append_left _ (List.mem_append_right _ h)) (by decide +kernel))
set_option maxRecDepth 20000 in
theorem gL_law_L_inTree : GoodIn wsL_law (va_wsS RL 114 yL_inTree wsL_inTree) := goodIn_app (goodIn_of _ (by decide +kernel)) ggL_law_L_inTree
set_option maxRecDepth 20000 in
theorem ggL_law_X3_inTree : GoodIn wsL_law wsX3_inTree := goodIn_r _ [453, 325, 66, 373, 374, 375, 5, 376, 65, 228, 229, 230, 231, 232, 233, 243, 244, 245, 246, 64, 54, 63, 57, 61, 58, 247, 248, 249, 250, 62, 55, 56, 251, 252, 253, 254, 255, 256, 257, 258, 259, 260, 261, 262, 263, 264, 265, 266, 234, 235, 236, 237, 238, 326, 327, 328, 329, 67, 330, 331, 332, 333, 520, 521, 522, 523, 524, 525, 526, 527, 528, 529, 530, 531, 532, 533, 534, 535] (by decide +kernel) (by decide +kernel)
set_option maxRecDepth 20000 in
theorem gL_law_X3_inTree : GoodIn wsL_law (wsV RL 116 RX3 yX3_inTree wsX3_inTree) := goodIn_app (goodIn_of _ (by decide +kernel)) ggL_law_X3_inTree
set_option maxRecDepth 20000 in
theorem ggL_law_L_depth : GoodIn wsL_law wsL_depth := goodIn_ca (goodIn_ca (goodIn_r _ [456, 72, 348, 457, 458, 459, 2, 460, 20, 353, 354, 355, 356, 357, 358, 80, 81, 82, 83, 84, 85, 86, 87, 202, 19, 203, 204, 41, 461, 462, 463, 213, 214, 215, 216, 40, 201, 518, 519, 545, 546, 547, 548, 549, 550, 551, 552, 553, 554, 555, 556, 557] (by decide +kernel) (by decide +kernel)) (goodIn_sub (fun _ h => List.mem_append_right _ h) (by decide +kernel))) (goodIn_sub (fun _ h => List.mem_append_left _ (List.mem_append_right _ h)) (by decide +kernel))
set_option maxRecDepth 20000 in
theorem gL_law_L_depth : GoodIn wsL_law (va_wsS RL 117 yL_depth wsL_depth) := goodIn_app (goodIn_of _ (by decide +kernel)) ggL_law_L_depth
set_option maxRecDepth 20000 in
theorem ggL_law_X3_depth : GoodIn wsL_law wsX3_depth := goodIn_r _ [467, 64, 373, 374, 375, 5, 376, 65, 228, 229, 230, 231, 232, 233, 243, 244, 245, 246, 54, 63, 66, 57, 61, 58, 247, 248, 249, 250, 62, 55, 56, 251, 252, 253, 254, 255, 256, 257, 258, 259, 260, 261, 262, 263, 264, 265, 266, 234, 235, 236, 237, 238, 326, 327, 328, 329, 325, 67, 330, 331, 332, 333, 520, 521, 522, 523, 524, 525, 526, 527, 528, 529, 530, 531, 532, 533, 534, 535] (by decide +kernel) (by decide +kernel)
set_option maxRecDepth 20000 in
theorem gL_law_X3_depth : GoodIn wsL_law (wsV RL 119 RX3 yX3_depth wsX3_depth) := goodIn_app (goodIn_of _ (by decide +kernel)) ggL_law_X3_depth
set_option maxRecDepth 20000 in
theorem ggL_law_L_letters : GoodIn wsL_law wsL_letters := goodIn_ca (goodIn_ca (goodIn_r _ [470, 72, 348, 471, 472, 473, 2, 474, 16, 20, 353, 354, 355, 356, 357, 358, 80, 81, 82, 83, 84, 85, 86, 87, 202, 19, 203, 204, 41, 359, 360, 361, 44, 46, 47, 201, 94, 15, 95, 96, 25, 518, 519, 545, 546, 547, 548, 549, 550, 551, 552, 553, 554, 555, 556, 557, 536, 537, 538, 539, 540, 541, 542, 543, 544] (by decide +kernel) (by decide +kernel)) (goodIn_sub (fun _ h => List.mem_append_right _ h) (by decide +kernel))) (goodIn_sub (fun _ h => List.mem_append_left _ (List.mem_append_right _ h)) (by decide +kernel))
set_option maxRecDepth 20000 in
theorem gL_law_L_letters : GoodIn wsL_law (va_wsS RL 120 yL_letters wsL_letters) := goodIn_app (goodIn_of _ (by decide +kernel)) ggL_law_L_letters
set_option maxRecDepth 20000 in
theorem ggL_law_X3_letters : GoodIn wsL_law wsX3_letters := goodIn_r _ [478, 325, 54, 66, 373, 374, 375, 5, 376, 65, 228, 229, 230, 231, 232, 233, 243, 244, 245, 246, 64, 63, 57, 61, 58, 247, 248, 249, 250, 62, 55, 56, 251, 252, 253, 254, 255, 256, 257, 258, 259, 260, 261, 262, 263, 264, 265, 266, 234, 235, 236, 237, 238, 326, 327, 328, 329, 67, 330, 331, 332, 333, 520, 521, 522, 523, 524, 525, 526, 527, 528, 529, 530, 531, 532, 533, 534, 535] (by decide +kernel) (by decide +kernel)
set_option maxRecDepth 20000 in
theorem gL_law_X3_letters : GoodIn wsL_law (wsV RL 122 RX3 yX3_letters wsX3_letters) := goodIn_app (goodIn_of _ (by decide +kernel)) ggL_law_X3_letters
set_option maxRecDepth 20000 in
theorem ggL_law_L_unread : GoodIn wsL_law wsL_unread := goodIn_ca (goodIn_ca (goodIn_r _ [481, 72, 348, 482, 483, 484, 2, 485, 16, 20, 353, 354, 355, 356, 357, 358, 80, 81, 82, 83, 84, 85, 86, 87, 202, 19, 203, 204, 41, 359, 360, 361, 44, 46, 47, 201, 366, 15, 367, 368, 33, 110, 94, 95, 96, 25, 518, 519, 545, 546, 547, 548, 549, 550, 551, 552, 553, 554, 555, 556, 557, 536, 537, 538, 539, 540, 541, 542, 543, 544] (by decide +kernel) (by decide +kernel)) (goodIn_sub (fun _ h => List.mem_append_right _ h) (by decide +kernel))) (goodIn_sub (fun _ h => List.mem_append_left _ (List.mem_append_right _ h)) (by decide +kernel))
set_option maxRecDepth 20000 in
theorem gL_law_L_unread : GoodIn wsL_law (va_wsS RL 123 yL_unread wsL_unread) := goodIn_app (goodIn_of _ (by decide +kernel)) ggL_law_L_unread
set_option maxRecDepth 20000 in
theorem ggL_law_X3_unread : GoodIn wsL_law wsX3_unread := goodIn_r _ [489, 325, 54, 66, 60, 373, 374, 375, 5, 376, 65, 228, 229, 230, 231, 232, 233, 243, 244, 245, 246, 64, 63, 57, 61, 58, 247, 248, 249, 250, 62, 55, 56, 251, 252, 253, 254, 255, 256, 257, 258, 259, 260, 261, 262, 263, 264, 265, 266, 234, 235, 236, 237, 238, 326, 327, 328, 329, 67, 330, 331, 332, 333, 520, 521, 522, 523, 524, 525, 526, 527, 528, 529, 530, 531, 532, 533, 534, 535] (by decide +kernel) (by decide +kernel)
set_option maxRecDepth 20000 in
theorem gL_law_X3_unread : GoodIn wsL_law (wsV RL 125 RX3 yX3_unread wsX3_unread) := goodIn_app (goodIn_of _ (by decide +kernel)) ggL_law_X3_unread
set_option maxRecDepth 20000 in
theorem ggL_law_L_people : GoodIn wsL_law wsL_people := goodIn_ca (goodIn_ca (goodIn_r _ [492, 72, 348, 493, 494, 495, 2, 496, 16, 20, 353, 354, 355, 356, 357, 358, 80, 81, 82, 83, 84, 85, 86, 87, 202, 19, 203, 204, 41, 359, 360, 361, 44, 46, 47, 201, 497, 15, 498, 499, 32, 110, 94, 95, 96, 25, 518, 519, 545, 546, 547, 548, 549, 550, 551, 552, 553, 554, 555, 556, 557, 536, 537, 538, 539, 540, 541, 542, 543, 544] (by decide +kernel) (by decide +kernel)) (goodIn_sub (fun _ h => List.mem_append_right _ h) (by decide +kernel))) (goodIn_sub (fun _ h => List.mem_append_left _ (List.mem_append_right _ h)) (by decide +kernel))
set_option maxRecDepth 20000 in
theorem gL_law_L_people : GoodIn wsL_law (va_wsS RL 126 yL_people wsL_people) := goodIn_app (goodIn_of _ (by decide +kernel)) ggL_law_L_people
set_option maxRecDepth 20000 in
theorem ggL_law_X3_people : GoodIn wsL_law wsX3_people := goodIn_r _ [503, 325, 54, 66, 59, 373, 374, 375, 5, 376, 65, 228, 229, 230, 231, 232, 233, 243, 244, 245, 246, 64, 63, 57, 61, 58, 247, 248, 249, 250, 62, 55, 56, 251, 252, 253, 254, 255, 256, 257, 258, 259, 260, 261, 262, 263, 264, 265, 266, 234, 235, 236, 237, 238, 326, 327, 328, 329, 67, 330, 331, 332, 333, 520, 521, 522, 523, 524, 525, 526, 527, 528, 529, 530, 531, 532, 533, 534, 535] (by decide +kernel) (by decide +kernel)
set_option maxRecDepth 20000 in
theorem gL_law_X3_people : GoodIn wsL_law (wsV RL 128 RX3 yX3_people wsX3_people) := goodIn_app (goodIn_of _ (by decide +kernel)) ggL_law_X3_people
set_option maxRecDepth 20000 in
theorem ggL_law_L_latest : GoodIn wsL_law wsL_latest := goodIn_ca (goodIn_ca (goodIn_r _ [506, 72, 348, 507, 508, 509, 2, 510, 20, 16, 511, 512, 186, 513, 353, 354, 355, 356, 357, 358, 80, 81, 82, 83, 84, 85, 86, 87, 202, 19, 203, 204, 41, 359, 360, 361, 44, 46, 47, 201, 94, 15, 95, 96, 25, 173, 174, 175, 31, 110, 518, 519, 545, 546, 547, 548, 549, 550, 551, 552, 553, 554, 555, 556, 557, 536, 537, 538, 539, 540, 541, 542, 543, 544] (by decide +kernel) (by decide +kernel)) (goodIn_sub (fun _ h => List.mem_append_right _ h) (by decide +kernel))) (goodIn_sub (fun _ h => List.mem_append_left _ (List.mem_append_right _ h)) (by decide +kernel))
set_option maxRecDepth 20000 in
theorem gL_law_L_latest : GoodIn wsL_law (va_wsS RL 129 yL_latest wsL_latest) := goodIn_app (goodIn_of _ (by decide +kernel)) ggL_law_L_latest
set_option maxRecDepth 20000 in
theorem ggL_law_X3_latest : GoodIn wsL_law wsX3_latest := goodIn_r _ [517, 325, 54, 66, 58, 373, 374, 375, 5, 376, 65, 228, 229, 230, 231, 232, 233, 243, 244, 245, 246, 64, 63, 57, 61, 247, 248, 249, 250, 62, 55, 56, 251, 252, 253, 254, 255, 256, 257, 258, 259, 260, 261, 262, 263, 264, 265, 266, 234, 235, 236, 237, 238, 326, 327, 328, 329, 67, 330, 331, 332, 333, 520, 521, 522, 523, 524, 525, 526, 527, 528, 529, 530, 531, 532, 533, 534, 535] (by decide +kernel) (by decide +kernel)
set_option maxRecDepth 20000 in
theorem gL_law_X3_latest : GoodIn wsL_law (wsV RL 131 RX3 yX3_latest wsX3_latest) := goodIn_app (goodIn_of _ (by decide +kernel)) ggL_law_X3_latest
abbrev vwCl : List vw_C := [(RX0, TX0, 13), (RX1, TX1, 9), (RX2, TX2, 2), (RX3, TX3, 16)]

