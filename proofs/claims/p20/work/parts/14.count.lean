/-! ===== 14: rows of a goal that counts the new cells from below (the rows themselves turned out of part 02 by wip/p20/lay14.py) ===== -/
section VG
variable {p : Program} {l : Launch} {e : Env} {R : Room} {s : State} {m : MethodId} {args : Array Value} {below : List Frame} {meth : Method} {c : Code} {D : va_G} {ww : va_W} {A : Nat → Prop} {n k zc jj : Nat} {Q : State → Prop}
/-- the machine at pc, with k new cells and 6 k + zc new slots at the most, and jj new cells at the least -/
def vg_G (p : Program) (l : Launch) (e : Env) (R : Room) (s : State) (m : MethodId) (args : Array Value) (below : List Frame) (meth : Method) (c : Code) (D : va_G) (ww : va_W) (A : Nat → Prop) (n k zc : Nat) (Q : State → Prop) (jj : Nat) (pc : Nat) (L : List (Nat × Value)) (st : List Value) : Prop :=
  ∀ (H : Heap) (locs : List Loc) (ls : Array Slot), va_P D vwCl ww H → va_S A s.heap H locs → lv_has ls n L → s.heap.size + jj ≤ H.size → W p l e R s m args below meth c H locs k (6 * k + zc) Q (F0 m pc ls st)
variable {cc : ByteArray} {Ts : List Cond} {own : String} {pc : Nat} {L L' : List (Nat × Value)} {st : List Value}
theorem vg_mono {j0 : Nat} (h : j0 ≤ jj) (kk : vg_G p l e R s m args below meth c D ww A n k zc Q j0 pc L st) : vg_G p l e R s m args below meth c D ww A n k zc Q jj pc L st := fun H locs ls hP hS hl hj => kk H locs ls hP hS hl (by omega)
theorem vg_widen {k1 : Nat} (h : k ≤ k1) (kk : vg_G p l e R s m args below meth c D ww A n k1 zc Q jj pc L st) : vg_G p l e R s m args below meth c D ww A n k zc Q jj pc L st := fun H locs ls hP hS hl hj => W.widen h (by omega) (kk H locs ls hP hS hl hj)
theorem vg_iconst (S : CallFix p m c cc n s args Ts own) {j : Int} {v : Int32} (d : decode cc pc = .ok (.iconst j, 1)) (hv : Int32.ofInt j = v) (kk : vg_G p l e R s m args below meth c D ww A n k zc Q jj (pc + 1) L (.int v :: st)) : vg_G p l e R s m args below meth c D ww A n k zc Q jj pc L st := fun H locs ls hP hS hl h9 => lv_iconst S.1 S.2.1 d hv (kk H locs ls hP hS hl h9)
theorem vg_bipush (S : CallFix p m c cc n s args Ts own) {j : Int} {v : Int32} (d : decode cc pc = .ok (.bipush j, 2)) (hv : (Int8.ofInt j).toInt32 = v) (kk : vg_G p l e R s m args below meth c D ww A n k zc Q jj (pc + 2) L (.int v :: st)) : vg_G p l e R s m args below meth c D ww A n k zc Q jj pc L st := fun H locs ls hP hS hl h9 => lv_bipush S.1 S.2.1 d hv (kk H locs ls hP hS hl h9)
theorem vg_sipush (S : CallFix p m c cc n s args Ts own) {j : Int} {v : Int32} (d : decode cc pc = .ok (.sipush j, 3)) (hv : (Int16.ofInt j).toInt32 = v) (kk : vg_G p l e R s m args below meth c D ww A n k zc Q jj (pc + 3) L (.int v :: st)) : vg_G p l e R s m args below meth c D ww A n k zc Q jj pc L st := fun H locs ls hP hS hl h9 => lv_sipush S.1 S.2.1 d hv (kk H locs ls hP hS hl h9)
theorem vg_iload_n (S : CallFix p m c cc n s args Ts own) {j : Fin 4} {x : Int32} {i : Nat} (q : Nat) (d : decode cc pc = .ok (.iload_n j, 1)) (hj : (j : Nat) = i) (hq : L[q]? = some (i, .int x)) (kk : vg_G p l e R s m args below meth c D ww A n k zc Q jj (pc + 1) L (.int x :: st)) : vg_G p l e R s m args below meth c D ww A n k zc Q jj pc L st := fun H locs ls hP hS hl h9 => lv_iload_n S.1 S.2.1 d hj (lv_at hl q hq) (kk H locs ls hP hS hl h9)
theorem vg_iload (S : CallFix p m c cc n s args Ts own) {x : Int32} {i : Nat} (q : Nat) (d : decode cc pc = .ok (.iload i, 2)) (hq : L[q]? = some (i, .int x)) (kk : vg_G p l e R s m args below meth c D ww A n k zc Q jj (pc + 2) L (.int x :: st)) : vg_G p l e R s m args below meth c D ww A n k zc Q jj pc L st := fun H locs ls hP hS hl h9 => lv_iload S.1 S.2.1 d (lv_at hl q hq) (kk H locs ls hP hS hl h9)
theorem vg_aload_n (S : CallFix p m c cc n s args Ts own) {j : Fin 4} {x : Nat} {i : Nat} (q : Nat) (d : decode cc pc = .ok (.aload_n j, 1)) (hj : (j : Nat) = i) (hq : L[q]? = some (i, .ref x)) (kk : vg_G p l e R s m args below meth c D ww A n k zc Q jj (pc + 1) L (.ref x :: st)) : vg_G p l e R s m args below meth c D ww A n k zc Q jj pc L st := fun H locs ls hP hS hl h9 => lv_aload_n S.1 S.2.1 d hj (lv_at hl q hq) (kk H locs ls hP hS hl h9)
theorem vg_aload (S : CallFix p m c cc n s args Ts own) {x : Nat} {i : Nat} (q : Nat) (d : decode cc pc = .ok (.aload i, 2)) (hq : L[q]? = some (i, .ref x)) (kk : vg_G p l e R s m args below meth c D ww A n k zc Q jj (pc + 2) L (.ref x :: st)) : vg_G p l e R s m args below meth c D ww A n k zc Q jj pc L st := fun H locs ls hP hS hl h9 => lv_aload S.1 S.2.1 d (lv_at hl q hq) (kk H locs ls hP hS hl h9)
theorem vg_istore_n (ps : List Nat) (S : CallFix p m c cc n s args Ts own) {j : Fin 4} {x : Int32} {i : Nat} (d : decode cc pc = .ok (.istore_n j, 1)) (hj : (j : Nat) = i) (hi : i < n) (hL : lv_pick ((i, Value.int x) :: L.filter (fun q => !(q.1 == i) && !(q.1 + 1 == i && q.2.category == 2))) ps = L') (kk : vg_G p l e R s m args below meth c D ww A n k zc Q jj (pc + 1) L' st) : vg_G p l e R s m args below meth c D ww A n k zc Q jj pc L (.int x :: st) := fun H locs ls hP hS hl h9 => lv_istore_n S.1 S.2.1 d hj hl hi rfl (fun ls' hl' => kk H locs ls' hP hS (lv_sub hl' ps hL) h9)
theorem vg_istore (ps : List Nat) (S : CallFix p m c cc n s args Ts own) {x : Int32} {i : Nat} (d : decode cc pc = .ok (.istore i, 2)) (hi : i < n) (hL : lv_pick ((i, Value.int x) :: L.filter (fun q => !(q.1 == i) && !(q.1 + 1 == i && q.2.category == 2))) ps = L') (kk : vg_G p l e R s m args below meth c D ww A n k zc Q jj (pc + 2) L' st) : vg_G p l e R s m args below meth c D ww A n k zc Q jj pc L (.int x :: st) := fun H locs ls hP hS hl h9 => lv_istore S.1 S.2.1 d hl hi rfl (fun ls' hl' => kk H locs ls' hP hS (lv_sub hl' ps hL) h9)
theorem vg_iinc (ps : List Nat) (S : CallFix p m c cc n s args Ts own) {x v : Int32} {i : Nat} {j : Int} (q : Nat) (d : decode cc pc = .ok (.iinc i j, 3)) (hq : L[q]? = some (i, .int x)) (hv : x + Int32.ofInt j = v) (hi : i < n) (hL : lv_pick ((i, Value.int v) :: L.filter (fun q => !(q.1 == i) && !(q.1 + 1 == i && q.2.category == 2))) ps = L') (kk : vg_G p l e R s m args below meth c D ww A n k zc Q jj (pc + 3) L' st) : vg_G p l e R s m args below meth c D ww A n k zc Q jj pc L st := fun H locs ls hP hS hl h9 => lv_iinc S.1 S.2.1 d hl hq hv hi rfl (fun ls' hl' => kk H locs ls' hP hS (lv_sub hl' ps hL) h9)
theorem vg_goto (S : CallFix p m c cc n s args Ts own) {off : Int} {tgt : Nat} (d : decode cc pc = .ok (.goto off, 3)) (ht : (pc : Int) + off = (tgt : Int)) (kk : vg_G p l e R s m args below meth c D ww A n k zc Q jj tgt L st) : vg_G p l e R s m args below meth c D ww A n k zc Q jj pc L st := fun H locs ls hP hS hl h9 => lv_goto S.1 S.2.1 d ht (kk H locs ls hP hS hl h9)
theorem vg_icmp_eq (S : CallFix p m c cc n s args Ts own) {x y : Int32} {off : Int} {tgt : Nat} (d : decode cc pc = .ok (.if_icmp .eq off, 3)) (ht : (pc : Int) + off = (tgt : Int)) (kt : x = y → vg_G p l e R s m args below meth c D ww A n k zc Q jj tgt L st) (kf : ¬ x = y → vg_G p l e R s m args below meth c D ww A n k zc Q jj (pc + 3) L st) : vg_G p l e R s m args below meth c D ww A n k zc Q jj pc L (.int y :: .int x :: st) := fun H locs ls hP hS hl h9 => lv_icmp_eq S.1 S.2.1 d ht (fun h => kt h H locs ls hP hS hl h9) (fun h => kf h H locs ls hP hS hl h9)
theorem vg_if_eq (S : CallFix p m c cc n s args Ts own) {x : Int32} {off : Int} {tgt : Nat} (d : decode cc pc = .ok (.ifCond .eq off, 3)) (ht : (pc : Int) + off = (tgt : Int)) (kt : x = 0 → vg_G p l e R s m args below meth c D ww A n k zc Q jj tgt L st) (kf : ¬ x = 0 → vg_G p l e R s m args below meth c D ww A n k zc Q jj (pc + 3) L st) : vg_G p l e R s m args below meth c D ww A n k zc Q jj pc L (.int x :: st) := fun H locs ls hP hS hl h9 => lv_if_eq S.1 S.2.1 d ht (fun h => kt h H locs ls hP hS hl h9) (fun h => kf h H locs ls hP hS hl h9)
theorem vg_icmp_ne (S : CallFix p m c cc n s args Ts own) {x y : Int32} {off : Int} {tgt : Nat} (d : decode cc pc = .ok (.if_icmp .ne off, 3)) (ht : (pc : Int) + off = (tgt : Int)) (kt : ¬ x = y → vg_G p l e R s m args below meth c D ww A n k zc Q jj tgt L st) (kf : x = y → vg_G p l e R s m args below meth c D ww A n k zc Q jj (pc + 3) L st) : vg_G p l e R s m args below meth c D ww A n k zc Q jj pc L (.int y :: .int x :: st) := fun H locs ls hP hS hl h9 => lv_icmp_ne S.1 S.2.1 d ht (fun h => kt h H locs ls hP hS hl h9) (fun h => kf h H locs ls hP hS hl h9)
theorem vg_if_ne (S : CallFix p m c cc n s args Ts own) {x : Int32} {off : Int} {tgt : Nat} (d : decode cc pc = .ok (.ifCond .ne off, 3)) (ht : (pc : Int) + off = (tgt : Int)) (kt : ¬ x = 0 → vg_G p l e R s m args below meth c D ww A n k zc Q jj tgt L st) (kf : x = 0 → vg_G p l e R s m args below meth c D ww A n k zc Q jj (pc + 3) L st) : vg_G p l e R s m args below meth c D ww A n k zc Q jj pc L (.int x :: st) := fun H locs ls hP hS hl h9 => lv_if_ne S.1 S.2.1 d ht (fun h => kt h H locs ls hP hS hl h9) (fun h => kf h H locs ls hP hS hl h9)
theorem vg_icmp_lt (S : CallFix p m c cc n s args Ts own) {x y : Int32} {off : Int} {tgt : Nat} (d : decode cc pc = .ok (.if_icmp .lt off, 3)) (ht : (pc : Int) + off = (tgt : Int)) (kt : x < y → vg_G p l e R s m args below meth c D ww A n k zc Q jj tgt L st) (kf : ¬ x < y → vg_G p l e R s m args below meth c D ww A n k zc Q jj (pc + 3) L st) : vg_G p l e R s m args below meth c D ww A n k zc Q jj pc L (.int y :: .int x :: st) := fun H locs ls hP hS hl h9 => lv_icmp_lt S.1 S.2.1 d ht (fun h => kt h H locs ls hP hS hl h9) (fun h => kf h H locs ls hP hS hl h9)
theorem vg_if_lt (S : CallFix p m c cc n s args Ts own) {x : Int32} {off : Int} {tgt : Nat} (d : decode cc pc = .ok (.ifCond .lt off, 3)) (ht : (pc : Int) + off = (tgt : Int)) (kt : x < 0 → vg_G p l e R s m args below meth c D ww A n k zc Q jj tgt L st) (kf : ¬ x < 0 → vg_G p l e R s m args below meth c D ww A n k zc Q jj (pc + 3) L st) : vg_G p l e R s m args below meth c D ww A n k zc Q jj pc L (.int x :: st) := fun H locs ls hP hS hl h9 => lv_if_lt S.1 S.2.1 d ht (fun h => kt h H locs ls hP hS hl h9) (fun h => kf h H locs ls hP hS hl h9)
theorem vg_icmp_ge (S : CallFix p m c cc n s args Ts own) {x y : Int32} {off : Int} {tgt : Nat} (d : decode cc pc = .ok (.if_icmp .ge off, 3)) (ht : (pc : Int) + off = (tgt : Int)) (kt : y ≤ x → vg_G p l e R s m args below meth c D ww A n k zc Q jj tgt L st) (kf : ¬ y ≤ x → vg_G p l e R s m args below meth c D ww A n k zc Q jj (pc + 3) L st) : vg_G p l e R s m args below meth c D ww A n k zc Q jj pc L (.int y :: .int x :: st) := fun H locs ls hP hS hl h9 => lv_icmp_ge S.1 S.2.1 d ht (fun h => kt h H locs ls hP hS hl h9) (fun h => kf h H locs ls hP hS hl h9)
theorem vg_if_ge (S : CallFix p m c cc n s args Ts own) {x : Int32} {off : Int} {tgt : Nat} (d : decode cc pc = .ok (.ifCond .ge off, 3)) (ht : (pc : Int) + off = (tgt : Int)) (kt : 0 ≤ x → vg_G p l e R s m args below meth c D ww A n k zc Q jj tgt L st) (kf : ¬ 0 ≤ x → vg_G p l e R s m args below meth c D ww A n k zc Q jj (pc + 3) L st) : vg_G p l e R s m args below meth c D ww A n k zc Q jj pc L (.int x :: st) := fun H locs ls hP hS hl h9 => lv_if_ge S.1 S.2.1 d ht (fun h => kt h H locs ls hP hS hl h9) (fun h => kf h H locs ls hP hS hl h9)
theorem vg_icmp_gt (S : CallFix p m c cc n s args Ts own) {x y : Int32} {off : Int} {tgt : Nat} (d : decode cc pc = .ok (.if_icmp .gt off, 3)) (ht : (pc : Int) + off = (tgt : Int)) (kt : y < x → vg_G p l e R s m args below meth c D ww A n k zc Q jj tgt L st) (kf : ¬ y < x → vg_G p l e R s m args below meth c D ww A n k zc Q jj (pc + 3) L st) : vg_G p l e R s m args below meth c D ww A n k zc Q jj pc L (.int y :: .int x :: st) := fun H locs ls hP hS hl h9 => lv_icmp_gt S.1 S.2.1 d ht (fun h => kt h H locs ls hP hS hl h9) (fun h => kf h H locs ls hP hS hl h9)
theorem vg_if_gt (S : CallFix p m c cc n s args Ts own) {x : Int32} {off : Int} {tgt : Nat} (d : decode cc pc = .ok (.ifCond .gt off, 3)) (ht : (pc : Int) + off = (tgt : Int)) (kt : 0 < x → vg_G p l e R s m args below meth c D ww A n k zc Q jj tgt L st) (kf : ¬ 0 < x → vg_G p l e R s m args below meth c D ww A n k zc Q jj (pc + 3) L st) : vg_G p l e R s m args below meth c D ww A n k zc Q jj pc L (.int x :: st) := fun H locs ls hP hS hl h9 => lv_if_gt S.1 S.2.1 d ht (fun h => kt h H locs ls hP hS hl h9) (fun h => kf h H locs ls hP hS hl h9)
theorem vg_icmp_le (S : CallFix p m c cc n s args Ts own) {x y : Int32} {off : Int} {tgt : Nat} (d : decode cc pc = .ok (.if_icmp .le off, 3)) (ht : (pc : Int) + off = (tgt : Int)) (kt : x ≤ y → vg_G p l e R s m args below meth c D ww A n k zc Q jj tgt L st) (kf : ¬ x ≤ y → vg_G p l e R s m args below meth c D ww A n k zc Q jj (pc + 3) L st) : vg_G p l e R s m args below meth c D ww A n k zc Q jj pc L (.int y :: .int x :: st) := fun H locs ls hP hS hl h9 => lv_icmp_le S.1 S.2.1 d ht (fun h => kt h H locs ls hP hS hl h9) (fun h => kf h H locs ls hP hS hl h9)
theorem vg_if_le (S : CallFix p m c cc n s args Ts own) {x : Int32} {off : Int} {tgt : Nat} (d : decode cc pc = .ok (.ifCond .le off, 3)) (ht : (pc : Int) + off = (tgt : Int)) (kt : x ≤ 0 → vg_G p l e R s m args below meth c D ww A n k zc Q jj tgt L st) (kf : ¬ x ≤ 0 → vg_G p l e R s m args below meth c D ww A n k zc Q jj (pc + 3) L st) : vg_G p l e R s m args below meth c D ww A n k zc Q jj pc L (.int x :: st) := fun H locs ls hP hS hl h9 => lv_if_le S.1 S.2.1 d ht (fun h => kt h H locs ls hP hS hl h9) (fun h => kf h H locs ls hP hS hl h9)
theorem vg_sub (ps : List Nat) (hL : lv_pick L ps = L') (kk : vg_G p l e R s m args below meth c D ww A n k zc Q jj pc L' st) : vg_G p l e R s m args below meth c D ww A n k zc Q jj pc L st := fun H locs ls hP hS hl h9 => kk H locs ls hP hS (lv_sub hl ps hL) h9
theorem vg_irem {x y v : Int32} (S : CallFix p m c cc n s args Ts own) (d : decode cc pc = .ok (.irem, 1)) (hne : ¬ y = 0) (hv : x - x / y * y = v) (kk : vg_G p l e R s m args below meth c D ww A n k zc Q jj (pc + 1) L (.int v :: st)) : vg_G p l e R s m args below meth c D ww A n k zc Q jj pc L (.int y :: .int x :: st) := by
  subst hv
  exact fun H locs ls hP hS hl hj => lv_irem S.1 S.2.1 d hne (kk H locs ls hP hS hl hj)
theorem vg_idiv {x y v : Int32} (S : CallFix p m c cc n s args Ts own) (d : decode cc pc = .ok (.idiv, 1)) (hne : ¬ y = 0) (hv : x / y = v) (kk : vg_G p l e R s m args below meth c D ww A n k zc Q jj (pc + 1) L (.int v :: st)) : vg_G p l e R s m args below meth c D ww A n k zc Q jj pc L (.int y :: .int x :: st) := by
  subst hv
  exact fun H locs ls hP hS hl hj => lv_idiv S.1 S.2.1 d hne (kk H locs ls hP hS hl hj)
theorem vg_imul {x y v : Int32} (S : CallFix p m c cc n s args Ts own) (d : decode cc pc = .ok (.imul, 1)) (hv : x * y = v) (kk : vg_G p l e R s m args below meth c D ww A n k zc Q jj (pc + 1) L (.int v :: st)) : vg_G p l e R s m args below meth c D ww A n k zc Q jj pc L (.int y :: .int x :: st) := by
  subst hv
  exact fun H locs ls hP hS hl hj => lv_imul S.1 S.2.1 d (kk H locs ls hP hS hl hj)
theorem vg_iadd {x y v : Int32} (S : CallFix p m c cc n s args Ts own) (d : decode cc pc = .ok (.iadd, 1)) (hv : x + y = v) (kk : vg_G p l e R s m args below meth c D ww A n k zc Q jj (pc + 1) L (.int v :: st)) : vg_G p l e R s m args below meth c D ww A n k zc Q jj pc L (.int y :: .int x :: st) := by
  subst hv
  exact fun H locs ls hP hS hl hj => lv_iadd S.1 S.2.1 d (kk H locs ls hP hS hl hj)
theorem vg_isub {x y v : Int32} (S : CallFix p m c cc n s args Ts own) (d : decode cc pc = .ok (.isub, 1)) (hv : x - y = v) (kk : vg_G p l e R s m args below meth c D ww A n k zc Q jj (pc + 1) L (.int v :: st)) : vg_G p l e R s m args below meth c D ww A n k zc Q jj pc L (.int y :: .int x :: st) := by
  subst hv
  exact fun H locs ls hP hS hl hj => lv_isub S.1 S.2.1 d (kk H locs ls hP hS hl hj)
theorem tl_blind {w : tg_Mem → va_W} {D : va_G} {tys : List (ClassId × FieldType)} {nl : List (String × Nat × MethodName × String)} {A : Nat → Prop} {As : List Value} {σ : tg_Mem} : FrameBlind (tl_Pre w D tys nl A As σ) := fun a U g mk h => by
  obtain ⟨h1, h2, h3, h4, h5, h6, h7⟩ := h
  exact ⟨h1, h2, va_K.moved (u := U) (U := U.calling g mk a) (Vm.Alike.refl U.vm) h3, tg_NU.same (u := U) (U := U.calling g mk a) rfl h4, tx_TX.same (u := U) (U := U.calling g mk a) rfl rfl h5, va_Nc.moved (u := U) (U := U.calling g mk a) (Vm.Alike.refl U.vm) h6, va_Nc.moved (u := U) (U := U.calling g mk a) (Vm.Alike.refl U.vm) h7⟩
/-- two objects of the class, apart -/
def vg_ap (h g : Nat → Nat) : Prop := tw_dis 23 h ∧ tw_dis 23 g ∧ ∀ i j, i < 23 → j < 23 → h i ≠ g j
/-- the world: both objects -/
def vg_W (h g : Nat → Nat) (cI cZ : ClassId) (σ τ : tg_Mem) : va_W := tw_T h cI cZ σ ++ tw_T g cI cZ τ
/-- what stays so on the way of a method that knows both -/
def vg_E (s : State) (D : va_G) (h g : Nat → Nat) (cI cZ : ClassId) (A : Nat → Prop) : Prop :=
  va_K D vwCl (tw_ty cI cZ) s ∧ tg_NU tw_nl s ∧ tl_TX A s ∧ vg_ap h g ∧ (∀ q, tw_A 23 h q → A q) ∧ (∀ q, tw_A 23 g q → A q)
variable {h g : Nat → Nat} {cI cZ : ClassId} {σ τ σ2 : tg_Mem}
theorem vg_Pa {H : Heap} (hP : va_P D vwCl (vg_W h g cI cZ σ τ) H) : va_P D vwCl (tw_T h cI cZ σ) H := hP.sub [0, 1, 2, 3, 4, 5, 6, 7, 8, 9, 10, 11, 12, 13, 14, 15, 16, 17, 18, 19, 20, 21, 22] rfl
theorem vg_Pb {H : Heap} (hP : va_P D vwCl (vg_W h g cI cZ σ τ) H) : va_P D vwCl (tw_T g cI cZ τ) H := hP.sub [23, 24, 25, 26, 27, 28, 29, 30, 31, 32, 33, 34, 35, 36, 37, 38, 39, 40, 41, 42, 43, 44, 45] rfl
theorem vg_keep {H H1 : Heap} {P : Nat → Prop} (hg : tw_dis 23 g) (hP : va_P D vwCl (tw_T g cI cZ τ) H) (hk : ∀ q : Nat, q < H.size → ¬ P q → H1[q]? = H[q]?) (hn : ∀ i, i < 23 → ¬ P (g i)) : va_P D vwCl (tw_T g cI cZ τ) H1 :=
  hP.kept (fun k q hq => hk q.1 (vx_lt hP hq) (by
    obtain ⟨i, hi, e⟩ := (tw_TD (cI := cI) (cZ := cZ) hg τ).2 k q hq
    rw [e]
    exact hn i hi))
theorem vg_nA (hap : vg_ap h g) : ∀ i, i < 23 → ¬ tw_A 23 h (g i) := fun i hi ⟨j, hj, e⟩ => hap.2.2 j i hj hi e.symm
theorem vg_nB (hap : vg_ap h g) : ∀ i, i < 23 → ¬ tw_A 23 g (h i) := fun i hi ⟨j, hj, e⟩ => hap.2.2 i j hi hj e
theorem vg_Sk {H H1 : Heap} {locs Lc : List Loc} {P : Nat → Prop} (hS : va_S A s.heap H locs) (hz : H.size ≤ H1.size) (hk : ∀ q : Nat, q < H.size → ¬ P q → H1[q]? = H[q]?) (hPA : ∀ q, P q → A q) (hL : ∀ q ∈ Lc, P q.base) : va_S A s.heap H1 (locs ++ Lc) :=
  ⟨Nat.le_trans hS.1 hz, fun q h1 h2 => by rw [hk q (Nat.lt_of_lt_of_le h1 hS.1) (fun h3 => h2 (hPA q h3))]; exact hS.2.1 q h1 h2, fun q hq => by
    rcases List.mem_append.mp hq with h | h
    · exact hS.2.2 q h
    · exact hPA _ (hL q h)⟩
/-- a helper of the law is called on the first -/
theorem vg_callA (E : vg_E s D h g cI cZ A) (S : CallFix p m c cc n s args Ts RL) {y : MethodName} {bytes : ByteArray} {maxL index nA : Nat} {hh : List (Nat × Nat × Nat × Nat)} {ws ws' : List Cond} {kv : Int32} {ex : Option String} {As rest : List Value}
    (hM : vl_CT l y ws (tx_rm 9) (tw_T h cI cZ) (tw_ty cI cZ) tw_nl (tw_A 23 h) D As σ ex kv σ2) (hG : GoodIn Ts (va_wsS RL index y ws)) (hw : ws = Cond.codeWith y bytes maxL (some .int) hh :: ws')
    (hdd : y.cls ≠ "java/lang/invoke/MethodHandle" ∧ y.cls ≠ "java/lang/invoke/VarHandle" ∧ (parseMethodDescriptor y.desc).map (fun d => d.parameters.length) = some nA) (hR : (tx_rm 9).frames + 1 ≤ R.frames ∧ 8 + (maxL + 11) + (tx_rm 9).locals ≤ R.locals)
    (hnA : As.length = nA) (hst : st = As.reverse ++ rest) (hcat : (rest.map fun v => v.category).sum ≤ 8) (d : decode cc pc = .ok (.invokestatic index, 3)) (hf : k + 1 ≤ R.cells ∧ 6 * k + zc + 6 ≤ R.slots)
    (kn : ∀ j2, (ex = none ∧ j2 = jj) ∨ (ex ≠ none ∧ j2 = jj + 1) → vg_G p l e R s m args below meth c D (vg_W h g cI cZ σ2 τ) A n (k + 1) zc Q j2 (pc + 3) L (.int kv :: rest)) : vg_G p l e R s m args below meth c D (vg_W h g cI cZ σ τ) A n k zc Q jj pc L st := by
  obtain ⟨hK, hN, hX, hap, hAh, hAg⟩ := E
  intro H locs ls hP hS hl hj T hT X
  have hPt := vg_Pa hP
  have hpre : PreS s H (tl_Pre (tw_T h cI cZ) D (tw_ty cI cZ) tw_nl (tw_A 23 h) As σ) As :=
    ⟨tl_blind, fun U hU hW => ⟨rfl, by rw [hU]; exact hPt, va_K.moved hW.alike hK, hN.warm hW, (hX.1.call hW hU hS).narrow hAh, hX.2.1.moved hW.alike, hX.2.2.moved hW.alike⟩⟩
  obtain ⟨v, st₀, t, T', Lc, h0, X', hL, e1, e2, ⟨hlt, hv, hPt2, hz, hk⟩, sg⟩ := vx_runSW (As := As) (rest := rest) S hM (vx_cwSW nA S.2.2.2.2 hG hw rfl rfl hdd hR) hpre rfl hnA hl.1 hst (lv_room hcat) d hf T hT X
  cases hv
  rw [h0] at hlt hz hk
  have ez : 6 * k + zc + 6 = 6 * (k + 1) + zc := by omega
  rw [ez] at X'
  have hPn : va_P D vwCl (vg_W h g cI cZ σ2 τ) T'.heap := by
    rw [e1]
    exact hPt2.app (vg_keep hap.2.1 (vg_Pb hP) hk (vg_nA hap))
  have hSn : va_S A s.heap T'.heap (locs ++ Lc) := by
    rw [e1]
    exact vg_Sk hS hz hk hAh hL
  rcases hlt with hx | hx
  · by_cases hex : ex = none
    · obtain ⟨t2, a1, b1⟩ := kn jj (Or.inl ⟨hex, rfl⟩) T'.heap (locs ++ Lc) ls hPn hSn hl (by rw [e1]; exact Nat.le_trans hj hz) T' rfl X'
      exact ⟨t2, sg t2 a1, b1⟩
    · exact absurd hx hex
  · by_cases hex : ex = none
    · obtain ⟨t2, a1, b1⟩ := kn jj (Or.inl ⟨hex, rfl⟩) T'.heap (locs ++ Lc) ls hPn hSn hl (by rw [e1]; exact Nat.le_trans hj hz) T' rfl X'
      exact ⟨t2, sg t2 a1, b1⟩
    · obtain ⟨t2, a1, b1⟩ := kn (jj + 1) (Or.inr ⟨hex, rfl⟩) T'.heap (locs ++ Lc) ls hPn hSn hl (by rw [e1]; exact Nat.lt_of_le_of_lt hj hx) T' rfl X'
      exact ⟨t2, sg t2 a1, b1⟩
/-- a helper of the law is called on the second -/
theorem vg_callB (E : vg_E s D h g cI cZ A) (S : CallFix p m c cc n s args Ts RL) {y : MethodName} {bytes : ByteArray} {maxL index nA : Nat} {hh : List (Nat × Nat × Nat × Nat)} {ws ws' : List Cond} {kv : Int32} {ex : Option String} {As rest : List Value}
    (hM : vl_CT l y ws (tx_rm 9) (tw_T g cI cZ) (tw_ty cI cZ) tw_nl (tw_A 23 g) D As τ ex kv σ2) (hG : GoodIn Ts (va_wsS RL index y ws)) (hw : ws = Cond.codeWith y bytes maxL (some .int) hh :: ws')
    (hdd : y.cls ≠ "java/lang/invoke/MethodHandle" ∧ y.cls ≠ "java/lang/invoke/VarHandle" ∧ (parseMethodDescriptor y.desc).map (fun d => d.parameters.length) = some nA) (hR : (tx_rm 9).frames + 1 ≤ R.frames ∧ 8 + (maxL + 11) + (tx_rm 9).locals ≤ R.locals)
    (hnA : As.length = nA) (hst : st = As.reverse ++ rest) (hcat : (rest.map fun v => v.category).sum ≤ 8) (d : decode cc pc = .ok (.invokestatic index, 3)) (hf : k + 1 ≤ R.cells ∧ 6 * k + zc + 6 ≤ R.slots)
    (kn : ∀ j2, (ex = none ∧ j2 = jj) ∨ (ex ≠ none ∧ j2 = jj + 1) → vg_G p l e R s m args below meth c D (vg_W h g cI cZ σ σ2) A n (k + 1) zc Q j2 (pc + 3) L (.int kv :: rest)) : vg_G p l e R s m args below meth c D (vg_W h g cI cZ σ τ) A n k zc Q jj pc L st := by
  obtain ⟨hK, hN, hX, hap, hAh, hAg⟩ := E
  intro H locs ls hP hS hl hj T hT X
  have hPt := vg_Pb hP
  have hpre : PreS s H (tl_Pre (tw_T g cI cZ) D (tw_ty cI cZ) tw_nl (tw_A 23 g) As τ) As :=
    ⟨tl_blind, fun U hU hW => ⟨rfl, by rw [hU]; exact hPt, va_K.moved hW.alike hK, hN.warm hW, (hX.1.call hW hU hS).narrow hAg, hX.2.1.moved hW.alike, hX.2.2.moved hW.alike⟩⟩
  obtain ⟨v, st₀, t, T', Lc, h0, X', hL, e1, e2, ⟨hlt, hv, hPt2, hz, hk⟩, sg⟩ := vx_runSW (As := As) (rest := rest) S hM (vx_cwSW nA S.2.2.2.2 hG hw rfl rfl hdd hR) hpre rfl hnA hl.1 hst (lv_room hcat) d hf T hT X
  cases hv
  rw [h0] at hlt hz hk
  have ez : 6 * k + zc + 6 = 6 * (k + 1) + zc := by omega
  rw [ez] at X'
  have hPn : va_P D vwCl (vg_W h g cI cZ σ σ2) T'.heap := by
    rw [e1]
    exact (vg_keep hap.1 (vg_Pa hP) hk (vg_nB hap)).app hPt2
  have hSn : va_S A s.heap T'.heap (locs ++ Lc) := by
    rw [e1]
    exact vg_Sk hS hz hk hAg hL
  rcases hlt with hx | hx
  · by_cases hex : ex = none
    · obtain ⟨t2, a1, b1⟩ := kn jj (Or.inl ⟨hex, rfl⟩) T'.heap (locs ++ Lc) ls hPn hSn hl (by rw [e1]; exact Nat.le_trans hj hz) T' rfl X'
      exact ⟨t2, sg t2 a1, b1⟩
    · exact absurd hx hex
  · by_cases hex : ex = none
    · obtain ⟨t2, a1, b1⟩ := kn jj (Or.inl ⟨hex, rfl⟩) T'.heap (locs ++ Lc) ls hPn hSn hl (by rw [e1]; exact Nat.le_trans hj hz) T' rfl X'
      exact ⟨t2, sg t2 a1, b1⟩
    · obtain ⟨t2, a1, b1⟩ := kn (jj + 1) (Or.inr ⟨hex, rfl⟩) T'.heap (locs ++ Lc) ls hPn hSn hl (by rw [e1]; exact Nat.lt_of_le_of_lt hj hx) T' rfl X'
      exact ⟨t2, sg t2 a1, b1⟩
/-- a method of the first that throws nothing is called -/
theorem vg_callTA (E : vg_E s D h g cI cZ A) (S : CallFix p m c cc n s args Ts RL) {y : MethodName} {bytes : ByteArray} {maxL index nA fr : Nat} {ret : Option FieldType} {ws ws' : List Cond} {r : Option Value} {As rest : List Value}
    (hM : tg_CT l y ws (tg_rm fr) (tw_T h cI cZ) (tw_ty cI cZ) tw_nl (tw_A 23 h) D (.ref (h 0) :: As) σ r σ2) (hG : GoodIn Ts (wsV RL index RX2 y ws)) (hw : ws = Cond.code y bytes maxL ret :: ws')
    (hdd : y.cls = RX2 ∧ y.cls ≠ "java/lang/invoke/MethodHandle" ∧ y.cls ≠ "java/lang/invoke/VarHandle" ∧ (parseMethodDescriptor y.desc).map (fun d => d.parameters.length) = some nA) (hR : fr + 1 ≤ R.frames ∧ 8 + (maxL + 11) + 28 * fr ≤ R.locals)
    (hnA : As.length = nA) (hst : st = As.reverse ++ .ref (h 0) :: rest) (hcat : (rest.map fun v => v.category).sum ≤ 8) (d : decode cc pc = .ok (.invokevirtual index, 3)) (hf : k ≤ R.cells ∧ 6 * k + zc ≤ R.slots)
    (kn : vg_G p l e R s m args below meth c D (vg_W h g cI cZ σ2 τ) A n k zc Q jj (pc + 3) L (r.toList ++ rest)) : vg_G p l e R s m args below meth c D (vg_W h g cI cZ σ τ) A n k zc Q jj pc L st := by
  obtain ⟨hK, hN, hX, hap, hAh, hAg⟩ := E
  intro H locs ls hP hS hl hj T hT X
  have hPt := vg_Pa hP
  have hpre := tg_preV (As := As) hK hN hPt (ci := 2) (q0 := 0) (q := (RX2, TX2, 2)) rfl rfl
  obtain ⟨v, st₀, t, T', Lc, h0, X', hL, e1, e2, ⟨hv, hPt2, hz, hk⟩, sg⟩ := va_runV (As := As) (rest := rest) S hM (cwV nA S.2.2.2.2 hG hw rfl rfl hdd hR) hpre rfl hnA hl.1 hst (lv_room hcat) d hf T hT X
  cases hv
  rw [h0] at hz hk
  obtain ⟨t2, a1, b1⟩ := kn T'.heap (locs ++ Lc) ls (by
      rw [e1]
      exact hPt2.app (vg_keep hap.2.1 (vg_Pb hP) hk (vg_nA hap))) (by
      rw [e1]
      exact vg_Sk hS hz hk hAh hL) hl (by rw [e1]; exact Nat.le_trans hj hz) T' rfl X'
  exact ⟨t2, sg t2 a1, b1⟩
/-- a method of the second that throws nothing is called -/
theorem vg_callTB (E : vg_E s D h g cI cZ A) (S : CallFix p m c cc n s args Ts RL) {y : MethodName} {bytes : ByteArray} {maxL index nA fr : Nat} {ret : Option FieldType} {ws ws' : List Cond} {r : Option Value} {As rest : List Value}
    (hM : tg_CT l y ws (tg_rm fr) (tw_T g cI cZ) (tw_ty cI cZ) tw_nl (tw_A 23 g) D (.ref (g 0) :: As) τ r σ2) (hG : GoodIn Ts (wsV RL index RX2 y ws)) (hw : ws = Cond.code y bytes maxL ret :: ws')
    (hdd : y.cls = RX2 ∧ y.cls ≠ "java/lang/invoke/MethodHandle" ∧ y.cls ≠ "java/lang/invoke/VarHandle" ∧ (parseMethodDescriptor y.desc).map (fun d => d.parameters.length) = some nA) (hR : fr + 1 ≤ R.frames ∧ 8 + (maxL + 11) + 28 * fr ≤ R.locals)
    (hnA : As.length = nA) (hst : st = As.reverse ++ .ref (g 0) :: rest) (hcat : (rest.map fun v => v.category).sum ≤ 8) (d : decode cc pc = .ok (.invokevirtual index, 3)) (hf : k ≤ R.cells ∧ 6 * k + zc ≤ R.slots)
    (kn : vg_G p l e R s m args below meth c D (vg_W h g cI cZ σ σ2) A n k zc Q jj (pc + 3) L (r.toList ++ rest)) : vg_G p l e R s m args below meth c D (vg_W h g cI cZ σ τ) A n k zc Q jj pc L st := by
  obtain ⟨hK, hN, hX, hap, hAh, hAg⟩ := E
  intro H locs ls hP hS hl hj T hT X
  have hPt := vg_Pb hP
  have hpre := tg_preV (As := As) hK hN hPt (ci := 2) (q0 := 0) (q := (RX2, TX2, 2)) rfl rfl
  obtain ⟨v, st₀, t, T', Lc, h0, X', hL, e1, e2, ⟨hv, hPt2, hz, hk⟩, sg⟩ := va_runV (As := As) (rest := rest) S hM (cwV nA S.2.2.2.2 hG hw rfl rfl hdd hR) hpre rfl hnA hl.1 hst (lv_room hcat) d hf T hT X
  cases hv
  rw [h0] at hz hk
  obtain ⟨t2, a1, b1⟩ := kn T'.heap (locs ++ Lc) ls (by
      rw [e1]
      exact (vg_keep hap.1 (vg_Pa hP) hk (vg_nB hap)).app hPt2) (by
      rw [e1]
      exact vg_Sk hS hz hk hAg hL) hl (by rw [e1]; exact Nat.le_trans hj hz) T' rfl X'
  exact ⟨t2, sg t2 a1, b1⟩
end VG
