/-! ===== 03: loops of the rows, the worlds, and what the class's methods answer (a text beside the class's own) ===== -/
section TGL
variable {p : Program} {l : Launch} {e : Env} {R : Room} {s : State} {m : MethodId} {args : Array Value} {below : List Frame} {meth : Method} {c : Code} {D : va_G} {w : tg_Mem → va_W} {A : Nat → Prop} {n k z : Nat} {Q : State → Prop} {cc : ByteArray} {Ts : List Cond} {own : String} {σ : tg_Mem} {pc : Nat} {L L' : List (Nat × Value)} {st : List Value}
theorem tg_loop {X : Type} (f : Nat → X → X) (N : Nat) (x0 : X) (sf : X → tg_Mem) (Lf : Nat → X → List (Nat × Value)) (hs : ∀ i x, i < N → tg_G p l e R s m args below meth c D w A n k z Q (sf (f i x)) pc (Lf (i + 1) (f i x)) [] → tg_G p l e R s m args below meth c D w A n k z Q (sf x) pc (Lf i x) []) (he : tg_G p l e R s m args below meth c D w A n k z Q (sf (tg_it f x0 N)) pc (Lf N (tg_it f x0 N)) []) : tg_G p l e R s m args below meth c D w A n k z Q (sf x0) pc (Lf 0 x0) [] :=
  tg_up (fun i x => tg_G p l e R s m args below meth c D w A n k z Q (sf x) pc (Lf i x) []) f N x0 hs he
/-- the same, with something that holds of every state on the way -/
theorem tg_loopI {X : Type} (I : Nat → X → Prop) (f : Nat → X → X) (N : Nat) (x0 : X) (sf : X → tg_Mem) (Lf : Nat → X → List (Nat × Value)) (h0 : I 0 x0) (hI : ∀ i x, i < N → I i x → I (i + 1) (f i x)) (hs : ∀ i x, i < N → I i x → tg_G p l e R s m args below meth c D w A n k z Q (sf (f i x)) pc (Lf (i + 1) (f i x)) [] → tg_G p l e R s m args below meth c D w A n k z Q (sf x) pc (Lf i x) []) (he : I N (tg_it f x0 N) → tg_G p l e R s m args below meth c D w A n k z Q (sf (tg_it f x0 N)) pc (Lf N (tg_it f x0 N)) []) : tg_G p l e R s m args below meth c D w A n k z Q (sf x0) pc (Lf 0 x0) [] := by
  have hin := tg_inv I f N x0 h0 hI
  have key : ∀ j, j ≤ N → tg_G p l e R s m args below meth c D w A n k z Q (sf (tg_it f x0 (N - j))) pc (Lf (N - j) (tg_it f x0 (N - j))) [] := by
    intro j
    induction j with
    | zero => intro _; exact he (hin N (Nat.le_refl N))
    | succ j ih =>
      intro h
      have e1 : N - j = (N - (j + 1)) + 1 := by omega
      have h1 := ih (by omega)
      rw [e1] at h1
      exact hs _ _ (by omega) (hin _ (by omega)) h1
  have h := key N (Nat.le_refl N)
  rw [Nat.sub_self] at h
  exact h
/-- a loop with a bound, left by its condition or by a return: F n i x is what comes of it with n steps left -/
theorem tg_fuel {X ρ : Type} (F : Nat → Nat → X → ρ) (N : Nat) (x0 : X) (sf : X → tg_Mem) (Lf : Nat → X → List (Nat × Value)) {v : ρ} (hv : F N 0 x0 = v) (hs : ∀ n1 i x, i + (n1 + 1) = N → F (n1 + 1) i x = v → (∀ x', F n1 (i + 1) x' = v → tg_G p l e R s m args below meth c D w A n k z Q (sf x') pc (Lf (i + 1) x') []) → tg_G p l e R s m args below meth c D w A n k z Q (sf x) pc (Lf i x) []) (h0 : ∀ x, F 0 N x = v → tg_G p l e R s m args below meth c D w A n k z Q (sf x) pc (Lf N x) []) : tg_G p l e R s m args below meth c D w A n k z Q (sf x0) pc (Lf 0 x0) [] := by
  have key : ∀ n1 i x, i + n1 = N → F n1 i x = v → tg_G p l e R s m args below meth c D w A n k z Q (sf x) pc (Lf i x) [] := by
    intro n1
    induction n1 with
    | zero =>
      intro i x h h2
      have hi : i = N := by omega
      subst hi
      exact h0 x h2
    | succ n1 ih =>
      intro i x h h2
      exact hs n1 i x h h2 (fun x' h' => ih (i + 1) x' (by omega) h')
  exact key N 0 x0 (by omega) hv
/-- a loop whose end is known beforehand: F says what comes of it, if n steps are enough -/
theorem tg_while {X ρ : Type} (F : Nat → X → Option ρ) (N : Nat) (x0 : X) (sf : X → tg_Mem) (Lf : X → List (Nat × Value)) {v : ρ} (hF0 : ∀ x, F 0 x = none) (hv : F N x0 = some v) (hs : ∀ n1 x, F (n1 + 1) x = some v → (∀ x', F n1 x' = some v → tg_G p l e R s m args below meth c D w A n k z Q (sf x') pc (Lf x') []) → tg_G p l e R s m args below meth c D w A n k z Q (sf x) pc (Lf x) []) : tg_G p l e R s m args below meth c D w A n k z Q (sf x0) pc (Lf x0) [] := by
  have key : ∀ n1 x, F n1 x = some v → tg_G p l e R s m args below meth c D w A n k z Q (sf x) pc (Lf x) [] := by
    intro n1
    induction n1 with
    | zero => intro x h; rw [hF0 x] at h; cases h
    | succ n1 ih => intro x h; exact hs n1 x h ih
  exact key N x0 hv
theorem tg_min (S : CallFix p m c cc n s args Ts own) {index : Nat} {x y : Int32} (hlink : Cond.methodLink own index Lib.Math.min.name ∈ Ts) (hstat : Cond.static Lib.Math.min.name ∈ Ts) (hini : Cond.initialized "java/lang/Math" ∈ Ts) (hcode : Cond.code Lib.Math.min.name Lib.Math.min.code 2 (some .int) ∈ Ts) (hfr : 1 ≤ R.frames) (hlo : (st.map fun v => v.category).sum + 13 ≤ R.locals) (hf : k ≤ R.cells ∧ z ≤ R.slots) (d : decode cc pc = .ok (.invokestatic index, 3)) (kk : tg_G p l e R s m args below meth c D w A n k z Q σ (pc + 3) L (.int (if y < x then y else x) :: st)) : tg_G p l e R s m args below meth c D w A n k z Q σ pc L (.int y :: .int x :: st) := fun H locs ls hP hS hl => va_mmin S.1 S.2.1 (S.2.2.1.trans hl.1.symm) S.2.2.2.1 (S.2.2.2.2 _ hlink) (S.2.2.2.2 _ hstat) (S.2.2.2.2 _ hini) (S.2.2.2.2 _ hcode) hfr hlo hf.1 hf.2 d (kk H locs ls hP hS hl)
theorem tg_max (S : CallFix p m c cc n s args Ts own) {index : Nat} {x y : Int32} (hlink : Cond.methodLink own index Lib.Math.max.name ∈ Ts) (hstat : Cond.static Lib.Math.max.name ∈ Ts) (hini : Cond.initialized "java/lang/Math" ∈ Ts) (hcode : Cond.code Lib.Math.max.name Lib.Math.max.code 2 (some .int) ∈ Ts) (hfr : 1 ≤ R.frames) (hlo : (st.map fun v => v.category).sum + 13 ≤ R.locals) (hf : k ≤ R.cells ∧ z ≤ R.slots) (d : decode cc pc = .ok (.invokestatic index, 3)) (kk : tg_G p l e R s m args below meth c D w A n k z Q σ (pc + 3) L (.int (if x < y then y else x) :: st)) : tg_G p l e R s m args below meth c D w A n k z Q σ pc L (.int y :: .int x :: st) := fun H locs ls hP hS hl => va_mmax S.1 S.2.1 (S.2.2.1.trans hl.1.symm) S.2.2.2.1 (S.2.2.2.2 _ hlink) (S.2.2.2.2 _ hstat) (S.2.2.2.2 _ hini) (S.2.2.2.2 _ hcode) hfr hlo hf.1 hf.2 d (kk H locs ls hP hS hl)
theorem tg_w {σ2 : tg_Mem} (hw : w σ = w σ2) (kk : tg_G p l e R s m args below meth c D w A n k z Q σ2 pc L st) : tg_G p l e R s m args below meth c D w A n k z Q σ pc L st := fun H locs ls hP hS hl => kk H locs ls (hw ▸ hP) hS hl
end TGL
theorem tg_inc (i : Nat) : nI i + Int32.ofInt 1 = nI (i + 1) := nI_1 i
theorem tg_nge {i : Nat} (h : i < 30) : ¬ (30 : Int32) ≤ nI i := by
  have h1 := nI_ge (a := i) (b := 30) h (by decide)
  exact h1
theorem tg_ge : (30 : Int32) ≤ nI 30 := by decide
abbrev tb_A : Type := Nat → Int32
def tg_upA (σ : tg_Mem) (k : Nat) (f : tb_A) : tg_Mem := fun a => if a = k then f else σ a
theorem tg_uu (f : tb_A) (k : Nat) (x y : Int32) : upd (upd f k x) k y = upd f k y := by
  funext j
  by_cases h : j = k <;> simp [upd, h]
/-! the worlds -/
def tw_A (N : Nat) (h : Nat → Nat) : Nat → Prop := fun q => ∃ i, i < N ∧ q = h i
def tw_dis (N : Nat) (h : Nat → Nat) : Prop := ∀ i j, i < N → j < N → h i = h j → i = j
theorem tw_D {N : Nat} {h : Nat → Nat} {ws : va_W} (hd : tw_dis N h) (hm : ws.map Prod.fst = (List.range N).map h) : va_D (tw_A N h) ws := by
  have key : ∀ (i : Nat) (q : Nat × va_E), ws[i]? = some q → i < N ∧ q.1 = h i := by
    intro i q hq
    have h1 : (ws.map Prod.fst)[i]? = some q.1 := by rw [List.getElem?_map, hq]; rfl
    rw [hm, List.getElem?_map] at h1
    cases h2 : (List.range N)[i]? with
    | none => rw [h2] at h1; cases h1
    | some j =>
      rw [h2] at h1
      obtain ⟨h3, h4⟩ := List.getElem?_eq_some_iff.mp h2
      rw [List.length_range] at h3
      rw [List.getElem_range] at h4
      subst h4
      exact ⟨h3, (Option.some.inj h1).symm⟩
  refine ⟨fun i j p q hi hj hpq => ?_, fun i q hi => ⟨i, (key i q hi).1, (key i q hi).2⟩⟩
  obtain ⟨a1, a2⟩ := key i p hi
  obtain ⟨b1, b2⟩ := key j q hj
  exact hd i j a1 b1 (by rw [← a2, ← b2]; exact hpq)
def tw_T (h : Nat → Nat) (cI cZ : ClassId) (σ : tg_Mem) : va_W := [(h 0, .inr (2, [.ref (h 1), .ref (h 2)])), (h 1, .inr (1, [.ref (h 3), .ref (h 4), .ref (h 5), .ref (h 6), .ref (h 7), .ref (h 8), .ref (h 9), .ref (h 10), .ref (h 11)])), (h 2, .inr (0, [.ref (h 1), .ref (h 12), .ref (h 13), .ref (h 14), .ref (h 15), .ref (h 16), .ref (h 17), .ref (h 18), .ref (h 19), .ref (h 20), .ref (h 21), .ref (h 22), .int (σ 20 0)])), (h 3, .inl (cZ, 30, .inl (σ 0))), (h 4, .inl (cI, 30, .inl (σ 1))), (h 5, .inl (cI, 30, .inl (σ 2))), (h 6, .inl (cI, 30, .inl (σ 3))), (h 7, .inl (cZ, 30, .inl (σ 4))), (h 8, .inl (cI, 30, .inl (σ 5))), (h 9, .inl (cI, 30, .inl (σ 6))), (h 10, .inl (cZ, 30, .inl (σ 7))), (h 11, .inl (cI, 30, .inl (σ 8))), (h 12, .inl (cZ, 30, .inl (σ 9))), (h 13, .inl (cI, 30, .inl (σ 10))), (h 14, .inl (cI, 30, .inl (σ 11))), (h 15, .inl (cZ, 30, .inl (σ 12))), (h 16, .inl (cI, 30, .inl (σ 13))), (h 17, .inl (cI, 30, .inl (σ 14))), (h 18, .inl (cI, 30, .inl (σ 15))), (h 19, .inl (cI, 30, .inl (σ 16))), (h 20, .inl (cI, 30, .inl (σ 17))), (h 21, .inl (cI, 30, .inl (σ 18))), (h 22, .inl (cI, 30, .inl (σ 19)))]
def tw_M (h : Nat → Nat) (cI cZ : ClassId) (σ : tg_Mem) : va_W := [(h 0, .inr (3, [.ref (h 1), .ref (h 2), .ref (h 3), .ref (h 4), .ref (h 5), .ref (h 6), .ref (h 7), .ref (h 8), .ref (h 9), .ref (h 10), .ref (h 11), .ref (h 12), .ref (h 13), .int (σ 14 0), .ref (h 14), .int (σ 15 0)])), (h 1, .inl (cZ, 30, .inl (σ 0))), (h 2, .inl (cI, 30, .inl (σ 1))), (h 3, .inl (cI, 30, .inl (σ 2))), (h 4, .inl (cI, 30, .inl (σ 3))), (h 5, .inl (cI, 30, .inl (σ 4))), (h 6, .inl (cI, 30, .inl (σ 5))), (h 7, .inl (cZ, 30, .inl (σ 6))), (h 8, .inl (cI, 30, .inl (σ 7))), (h 9, .inl (cZ, 30, .inl (σ 8))), (h 10, .inl (cI, 30, .inl (σ 9))), (h 11, .inl (cI, 30, .inl (σ 10))), (h 12, .inl (cZ, 30, .inl (σ 11))), (h 13, .inl (cI, 30, .inl (σ 12))), (h 14, .inl (cI, 60, .inl (σ 13)))]
theorem tw_TD {h : Nat → Nat} {cI cZ : ClassId} (hd : tw_dis 23 h) : ∀ σ, va_D (tw_A 23 h) (tw_T h cI cZ σ) := fun _ => tw_D hd rfl
theorem tw_MD {h : Nat → Nat} {cI cZ : ClassId} (hd : tw_dis 15 h) : ∀ σ, va_D (tw_A 15 h) (tw_M h cI cZ σ) := fun _ => tw_D hd rfl
abbrev tw_ty (cI cZ : ClassId) : List (ClassId × FieldType) := [(cI, .int), (cZ, .boolean)]
def tw_nl : List (String × Nat × MethodName × String) := [(RX2, 9, yX1_init, RX2), (RX2, 18, yX0_init, RX2), (RX2, 54, yX0_countRoots, RX2), (RX2, 36, yX1_holds, RX2), (RX2, 47, yX1_put, RX2), (RX1, 40, yX2_isId, RX2), (RX2, 51, yX0_grow, RX2), (RX0, 89, yX1_holds, RX2), (RX0, 94, yX1_parentToldBy, RX2), (RX0, 50, yX2_isId, RX2), (RX0, 101, yX1_grandparentToldBy, RX2), (RX0, 104, yX1_handOf, RX2), (RX0, 107, yX1_toldParentOf, RX2), (RX0, 123, yX1_isReply, RX2), (RX0, 129, yX1_isAnsweredBy, RX2), (RX0, 132, yX1_dayOf, RX2), (RX2, 61, yX1_drop, RX2), (RX2, 64, yX0_parentIn, RX2), (RX2, 68, yX1_setHand, RX2), (RX2, 76, yX0_isInTree, RX2), (RX2, 82, yX1_handOf, RX2), (RX2, 95, yX0_contains, RX2), (RX2, 88, yX0_idAt, RX2), (RX2, 98, yX0_knows, RX2), (RX2, 104, yX0_rootIdAt, RX2), (RX2, 120, yX1_writerBit, RX2), (RX2, 123, yX1_dayOf, RX2)]
/-! the class: what its methods answer -/
def fa_id (x : Int32) : Bool := !(decide (x < 0)) && !(decide ((30 : Int32) ≤ x))
theorem fa_id_in {x : Int32} (h : fa_id x = true) : vp_in x 30 := by
  simp only [fa_id, Bool.and_eq_true, Bool.not_eq_true', decide_eq_false_iff_not] at h
  exact tg_inx h.1 h.2
theorem fa_id_nI {i : Nat} (h : i < 30) : fa_id (nI i) = true := by
  simp only [fa_id, Bool.and_eq_true, Bool.not_eq_true', decide_eq_false_iff_not]
  exact ⟨nI_pos (by omega), tg_nge h⟩
def fa_holds (σ : tg_Mem) (x : Int32) : Bool := fa_id x && !(decide (σ 0 x.toNatClampNeg = 0))
theorem fa_holds_in {σ : tg_Mem} {x : Int32} (h : fa_holds σ x = true) : vp_in x 30 := by
  simp only [fa_holds, Bool.and_eq_true] at h
  exact fa_id_in h.1
def fa_handOf (σ : tg_Mem) (x : Int32) : Int32 := if fa_holds σ x = true then σ 8 x.toNatClampNeg else -1
def fa_isUnread (σ : tg_Mem) (x : Int32) : Bool := fa_holds σ x && !(decide (σ 7 x.toNatClampNeg = 0))
theorem fa_isUnread_in {σ : tg_Mem} {x : Int32} (h : fa_isUnread σ x = true) : vp_in x 30 := by
  simp only [fa_isUnread, Bool.and_eq_true] at h
  exact fa_holds_in h.1
def fa_writerBit (σ : tg_Mem) (x : Int32) : Int32 := if fa_holds σ x = true then 1 <<< (σ 6 x.toNatClampNeg &&& 31) else 0
def fa_dayOf (σ : tg_Mem) (x : Int32) : Int32 := if fa_holds σ x = true then σ 5 x.toNatClampNeg else 1000
def fa_pTold (σ : tg_Mem) (x : Int32) : Int32 := if fa_holds σ x = true then σ 2 x.toNatClampNeg else -1
def fa_gTold (σ : tg_Mem) (x : Int32) : Int32 := if fa_holds σ x = true then σ 1 x.toNatClampNeg else -1
def fa_fnd (σ : tg_Mem) (x : Int32) : Nat → Nat → Unit → Int32
  | 0, _, _ => -1
  | n + 1, i, u => if fa_pTold σ (nI i) = x then (if fa_gTold σ (nI i) = -1 then fa_fnd σ x n (i + 1) u else fa_gTold σ (nI i)) else fa_fnd σ x n (i + 1) u
def fa_guess (σ : tg_Mem) (x : Int32) : Int32 := fa_fnd σ x 30 0 ()
def fa_told (σ : tg_Mem) (x : Int32) : Int32 := if fa_holds σ x = false then fa_guess σ x else if fa_handOf σ x = -1 then fa_pTold σ x else if fa_handOf σ x = -2 then -1 else fa_handOf σ x
def fa_isReply (σ : tg_Mem) (x : Int32) : Bool := fa_holds σ x && !(decide (σ 4 x.toNatClampNeg = 0))
def fa_ans (σ : tg_Mem) (f a : Int32) : Bool := fa_holds σ f && (fa_holds σ a && (decide (σ 4 f.toNatClampNeg = 0) && (!(decide (σ 4 a.toNatClampNeg = 0)) && (decide (σ 3 f.toNatClampNeg = σ 3 a.toNatClampNeg) && (!(decide (σ 5 a.toNatClampNeg - σ 5 f.toNatClampNeg < 0)) && !(decide (14 < σ 5 a.toNatClampNeg - σ 5 f.toNatClampNeg)))))))
def fa_put (σ : tg_Mem) (x g q sub d w0 : Int32) : tg_Mem :=
  if fa_id x = true then
    (if sub < 10 then
      tg_set (tg_set (tg_set (tg_set (tg_set (tg_set (tg_set (tg_set (tg_set σ 0 x.toNatClampNeg 1) 1 x.toNatClampNeg g) 2 x.toNatClampNeg q) 4 x.toNatClampNeg 0) 3 x.toNatClampNeg sub) 5 x.toNatClampNeg d) 6 x.toNatClampNeg w0) 7 x.toNatClampNeg 1) 8 x.toNatClampNeg (-1)
    else
      tg_set (tg_set (tg_set (tg_set (tg_set (tg_set (tg_set (tg_set (tg_set σ 0 x.toNatClampNeg 1) 1 x.toNatClampNeg g) 2 x.toNatClampNeg q) 4 x.toNatClampNeg 1) 3 x.toNatClampNeg (sub - 10)) 5 x.toNatClampNeg d) 6 x.toNatClampNeg w0) 7 x.toNatClampNeg 1) 8 x.toNatClampNeg (-1))
  else σ
def fa_drop (σ : tg_Mem) (x : Int32) : tg_Mem := if fa_id x = true then tg_set σ 0 x.toNatClampNeg 0 else σ
def fa_setHand (σ : tg_Mem) (x v : Int32) : tg_Mem := if fa_holds σ x = true then tg_set σ 8 x.toNatClampNeg v else σ
def fa_mark (σ : tg_Mem) (x : Int32) : tg_Mem := if fa_isUnread σ x = true then tg_set σ 7 x.toNatClampNeg 0 else σ
def fa_knows (σ : tg_Mem) (x : Int32) : Bool := fa_id x && !(decide (σ 9 x.toNatClampNeg = 0))
def fa_cont (σ : tg_Mem) (x : Int32) : Bool := fa_id x && !(decide (σ 12 x.toNatClampNeg = 0))
theorem fa_cont_in {σ : tg_Mem} {x : Int32} (h : fa_cont σ x = true) : vp_in x 30 := by
  simp only [fa_cont, Bool.and_eq_true] at h
  exact fa_id_in h.1
def fa_par (σ : tg_Mem) (x : Int32) : Int32 := if fa_cont σ x = true then σ 11 x.toNatClampNeg else -1
def fa_rootAt (σ : tg_Mem) (x : Int32) : Int32 := if fa_id x = true then (if σ 20 0 ≤ x then -1 else σ 19 x.toNatClampNeg) else -1
def fa_nchS (σ : tg_Mem) (x : Int32) (i : Nat) (k : Int32) : Int32 := if σ 11 i = x then k + 1 else k
def fa_nch (σ : tg_Mem) (x : Int32) : Int32 := tg_it (fa_nchS σ x) 0 30
def fa_idAt (σ : tg_Mem) (x k : Int32) : Int32 := if fa_cont σ x = true then (if k < 0 then -1 else if k < σ 15 x.toNatClampNeg then (if fa_id (σ 17 x.toNatClampNeg + k) = true then σ 18 (σ 17 x.toNatClampNeg + k).toNatClampNeg else -1) else -1) else -1
def fa_stepF (σ : tg_Mem) : Nat → Nat → Int32 → Int32
  | 0, i, _ => nI i
  | n + 1, i, a => if fa_id a = true then fa_stepF σ n (i + 1) (fa_par σ a) else nI i
def fa_depth (σ : tg_Mem) (x : Int32) : Int32 := fa_stepF σ 30 0 (fa_par σ x)
def fa_inF (σ : tg_Mem) (top : Int32) : Nat → Nat → Int32 → Bool
  | 0, _, _ => false
  | n + 1, i, a => if fa_id a = true then (if a = top then true else fa_inF σ top n (i + 1) (fa_par σ a)) else false
def fa_inT (σ : tg_Mem) (x top : Int32) : Bool := fa_inF σ top 30 0 x
def fa_learn (σ : tg_Mem) (x : Int32) : tg_Mem := if fa_id x = true then tg_set σ 9 x.toNatClampNeg 1 else σ
def fa_fk1 (i : Nat) (σ : tg_Mem) : tg_Mem := tg_set σ 9 i (tg_b (fa_holds σ (nI i)))
def fa_fk2 (i : Nat) (σ : tg_Mem) : tg_Mem := fa_learn (fa_learn (fa_learn σ (fa_pTold σ (nI i))) (fa_gTold (fa_learn σ (fa_pTold σ (nI i))) (nI i))) (fa_handOf (fa_learn (fa_learn σ (fa_pTold σ (nI i))) (fa_gTold (fa_learn σ (fa_pTold σ (nI i))) (nI i))) (nI i))
def fa_findKnown (σ : tg_Mem) : tg_Mem := tg_it fa_fk2 (tg_it fa_fk1 σ 30) 30
def fa_leadF (σ : tg_Mem) (to : Int32) : Nat → Nat → Int32 → Bool
  | 0, _, _ => false
  | n + 1, i, a => if fa_id a = true then (if a = to then true else fa_leadF σ to n (i + 1) (σ 10 a.toNatClampNeg)) else false
def fa_lead (σ : tg_Mem) (x to : Int32) : Bool := fa_leadF σ to 30 0 x
def fa_lk1 (i : Nat) (σ : tg_Mem) : tg_Mem := tg_set σ 10 i (-1)
def fa_lk2 (i : Nat) (σ : tg_Mem) : tg_Mem := if σ 9 i = 0 then σ else tg_set σ 10 i (if fa_lead σ (fa_told σ (nI i)) (nI i) = true then -1 else fa_told σ (nI i))
def fa_linkKnown (σ : tg_Mem) : tg_Mem := tg_it fa_lk2 (tg_it fa_lk1 σ 30) 30
def fa_pblF (σ : tg_Mem) : Nat → Nat → Int32 → Int32
  | 0, _, _ => -1
  | n + 1, i, a => if fa_id a = true then (if fa_holds σ a = true then a else if σ 10 a.toNatClampNeg = -1 then a else fa_pblF σ n (i + 1) (σ 10 a.toNatClampNeg)) else -1
def fa_pbl (σ : tg_Mem) (x : Int32) : Int32 := fa_pblF σ 30 0 x
def fa_hb (i : Nat) (σ : tg_Mem) : tg_Mem := tg_set σ 11 i (if fa_holds σ (nI i) = true then fa_pbl σ (σ 10 i) else -1)
def fa_hangByLinks (σ : tg_Mem) : tg_Mem := tg_it fa_hb σ 30
def fa_fr (x : Int32) (i : Nat) (σ : tg_Mem) : tg_Mem := if σ 11 i = x then tg_set σ 11 i (-1) else σ
def fa_free (σ : tg_Mem) (x : Int32) : tg_Mem := tg_it (fa_fr x) σ 30
def fa_km (i : Nat) (σ : tg_Mem) : tg_Mem := if fa_holds σ (nI i) = true then tg_set σ 12 i 1 else if fa_nch σ (nI i) < 2 then fa_free (tg_set σ 12 i 0) (nI i) else tg_set σ 12 i 1
def fa_keepMissing (σ : tg_Mem) : tg_Mem := tg_it fa_km σ 30
def fa_bestS (σ : tg_Mem) (a : Int32) (i : Nat) (b : Int32) : Int32 := if σ 11 i = -1 then (if fa_ans σ (nI i) a = true then (if b = -1 then nI i else if fa_dayOf σ (nI i) ≤ fa_dayOf σ b then b else nI i) else b) else b
def fa_best (σ : tg_Mem) (a : Int32) : Int32 := tg_it (fa_bestS σ a) (-1) 30
def fa_hr (i : Nat) (σ : tg_Mem) : tg_Mem := if fa_isReply σ (nI i) = true then (if σ 11 i = -1 then (if fa_handOf σ (nI i) = -2 then σ else tg_set σ 11 i (fa_best σ (nI i))) else σ) else σ
def fa_hangReplies (σ : tg_Mem) : tg_Mem := tg_it fa_hr σ 30
def fa_upS (sent : Int32) (x : Nat) (σ : tg_Mem) : tg_Mem := tg_set (tg_set σ 15 x (σ 15 x + 1)) 13 x (if sent < σ 13 x then sent else σ 13 x)
def fa_upF (sent : Int32) : Nat → Nat → Int32 × tg_Mem → tg_Mem
  | 0, _, q => q.2
  | n + 1, i, q => if fa_id q.1 = true then fa_upF sent n (i + 1) (q.2 11 q.1.toNatClampNeg, fa_upS sent q.1.toNatClampNeg q.2) else q.2
def fa_upwards (σ : tg_Mem) (x : Int32) : tg_Mem := fa_upF (fa_dayOf σ x) 30 0 (x, σ)
def fa_mt1 (i : Nat) (σ : tg_Mem) : tg_Mem := tg_set (tg_set σ 15 i 0) 13 i 1000
def fa_mt2 (i : Nat) (σ : tg_Mem) : tg_Mem := if σ 12 i = 0 then σ else fa_upwards σ (nI i)
def fa_mt3 (i : Nat) (σ : tg_Mem) : tg_Mem := tg_set σ 14 i (if σ 11 i = -1 then σ 13 i else fa_dayOf σ (nI i))
def fa_measure (σ : tg_Mem) : tg_Mem := tg_it fa_mt3 (tg_it fa_mt2 (tg_it fa_mt1 σ 30) 30) 30
def fa_before (σ : tg_Mem) (f g : Int32) : Bool := fa_cont σ f && (fa_cont σ g && (decide (σ 11 f.toNatClampNeg = σ 11 g.toNatClampNeg) && (decide (σ 14 f.toNatClampNeg < σ 14 g.toNatClampNeg) || (decide (σ 14 f.toNatClampNeg = σ 14 g.toNatClampNeg) && !(decide (g ≤ f))))))
def fa_placeS (σ : tg_Mem) (x : Int32) (i : Nat) (k : Int32) : Int32 := if fa_before σ (nI i) x = true then k + 1 else k
def fa_place (σ : tg_Mem) (x : Int32) : Int32 := tg_it (fa_placeS σ x) 0 30
def fa_placeRoot (σ : tg_Mem) (x : Int32) : tg_Mem := if fa_id (fa_place σ x) = true then tg_set σ 19 (fa_place σ x).toNatClampNeg x else σ
def fa_pr (i : Nat) (σ : tg_Mem) : tg_Mem := if σ 12 i = 0 then σ else if σ 11 i = -1 then tg_set (fa_placeRoot σ (nI i)) 20 0 (fa_placeRoot σ (nI i) 20 0 + 1) else σ
def fa_placeRoots (σ : tg_Mem) : tg_Mem := tg_it fa_pr (tg_set σ 20 0 0) 30
def fa_offS (σ : tg_Mem) (x : Int32) (i : Nat) (k : Int32) : Int32 := if fa_before σ (nI i) x = true then k + σ 15 i else k
def fa_off (σ : tg_Mem) (x : Int32) : Int32 := tg_it (fa_offS σ x) (if fa_par σ x = -1 then 0 else 1) 30
def fa_startF (σ : tg_Mem) : Nat → Nat → Int32 × Int32 → Int32
  | 0, _, q => q.1
  | n + 1, i, q => if fa_id q.2 = true then fa_startF σ n (i + 1) (q.1 + σ 16 q.2.toNatClampNeg, σ 11 q.2.toNatClampNeg) else q.1
def fa_start (σ : tg_Mem) (x : Int32) : Int32 := fa_startF σ 30 0 (0, x)
def fa_pt1 (i : Nat) (σ : tg_Mem) : tg_Mem := tg_set σ 16 i (fa_off σ (nI i))
def fa_pt2 (i : Nat) (σ : tg_Mem) : tg_Mem := if σ 12 i = 0 then tg_set σ 17 i (fa_start σ (nI i)) else if fa_id (fa_start σ (nI i)) = true then tg_set (tg_set σ 17 i (fa_start σ (nI i))) 18 (fa_start σ (nI i)).toNatClampNeg (nI i) else tg_set σ 17 i (fa_start σ (nI i))
def fa_placeTrees (σ : tg_Mem) : tg_Mem := tg_it fa_pt2 (tg_it fa_pt1 σ 30) 30
def fa_grow (σ : tg_Mem) : tg_Mem := fa_placeTrees (fa_placeRoots (fa_measure (fa_hangReplies (fa_keepMissing (fa_hangByLinks (fa_linkKnown (fa_findKnown σ)))))))
