/-! ===== 50: rows of the law's walk ===== -/
theorem tl_blind {w : tg_Mem → va_W} {D : va_G} {tys : List (ClassId × FieldType)} {nl : List (String × Nat × MethodName × String)} {A : Nat → Prop} {As : List Value} {σ : tg_Mem} : FrameBlind (tl_Pre w D tys nl A As σ) := fun a U g mk h => by
  obtain ⟨h1, h2, h3, h4, h5, h6, h7⟩ := h
  exact ⟨h1, h2, va_K.moved (u := U) (U := U.calling g mk a) (Vm.Alike.refl U.vm) h3, tg_NU.same (u := U) (U := U.calling g mk a) rfl h4, tx_TX.same (u := U) (U := U.calling g mk a) rfl rfl h5, va_Nc.moved (u := U) (U := U.calling g mk a) (Vm.Alike.refl U.vm) h6, va_Nc.moved (u := U) (U := U.calling g mk a) (Vm.Alike.refl U.vm) h7⟩
/-- what stays the same on the law's whole way -/
def lq_E (l : Launch) (p : Program) (s : State) (m : MethodId) (meth : Method) (c : Code) (D : va_G) (h g : Nat → Nat) (o : Nat) (cI cZ cJ : ClassId) (b L : Nat) (xs : Nat → Int32) : Prop :=
  lw_At p s m meth c b L xs ∧ va_K D vwCl (tl_ty cI cZ cJ) s ∧ tg_NU tw_nl s ∧ tl_TX (fun q : Nat => s.heap.size ≤ q) s ∧ tl_dis h o ∧ tw_dis 15 g ∧ (∀ i, i < 15 → ¬ tl_A h o (g i)) ∧ (∀ q, tl_A h o q → s.heap.size ≤ q) ∧ (∀ i, i < 15 → s.heap.size ≤ g i) ∧ l.stackTraces = false
abbrev lq_G (l : Launch) (p : Program) (e : Env) (s : State) (m : MethodId) (below : List Frame) (meth : Method) (c : Code) (D : va_G) (h g : Nat → Nat) (o : Nat) (cI cZ cJ : ClassId) (b : Nat) (k z : Nat) (u : Nat → Int64) (σ μ : tg_Mem) (pc : Nat) (L : List (Nat × Value)) (st : List Value) : Prop :=
  tg_G p l e room_1 s m #[Value.ref b] below meth c D (fun _ => tl_w h o cI cZ cJ u σ ++ tw_M g cI cZ μ) (fun q : Nat => s.heap.size ≤ q) 7 k z (lw_Z below #[Value.ref b] s) (fun _ _ => 0) pc L st
section LQ
variable {l : Launch} {p : Program} {e : Env} {s : State} {m : MethodId} {below : List Frame} {meth : Method} {c : Code} {D : va_G} {h g : Nat → Nat} {o : Nat} {cI cZ cJ : ClassId} {b L : Nat} {xs : Nat → Int32}
variable {k z : Nat} {u u' : Nat → Int64} {σ σ' μ μ' : tg_Mem} {pc : Nat} {LL : List (Nat × Value)} {st rest As : List Value}
theorem lq_S (E : lq_E l p s m meth c D h g o cI cZ cJ b L xs) : CallFix p m c code 7 s #[Value.ref b] lw_tbl RL := by
  obtain ⟨⟨hx, hb, hr, hml, hown, hts, -⟩, -⟩ := E
  exact ⟨hx, hb, hml, hown, hts⟩
theorem lq_good {x : Cond} {ws : List Cond} (hx : x ∈ lw_tbl) (hG : GoodIn (x :: tw_G) ws) : GoodIn lw_tbl ws := fun w hw => ⟨(List.mem_cons.mp (hG w hw).1).elim (fun e => by rw [e]; exact hx) (fun hm => (List.mem_filter.mp hm).1), (hG w hw).2⟩
/-- a helper of the law is called -/
theorem lq_callL (E : lq_E l p s m meth c D h g o cI cZ cJ b L xs) {y : MethodName} {bytes : ByteArray} {maxL index nA : Nat} {hh : List (Nat × Nat × Nat × Nat)} {ws ws' : List Cond} {kk : Int32}
    (hM : tl_CT l y ws (tx_rm 9) (tl_w h o cI cZ cJ u) (tl_w h o cI cZ cJ u') (tl_ty cI cZ cJ) tw_nl (tl_A h o) D As σ kk σ') (hG : GoodIn lw_tbl (va_wsS RL index y ws)) (hw : ws = Cond.codeWith y bytes maxL (some .int) hh :: ws')
    (hdd : y.cls ≠ "java/lang/invoke/MethodHandle" ∧ y.cls ≠ "java/lang/invoke/VarHandle" ∧ (parseMethodDescriptor y.desc).map (fun d => d.parameters.length) = some nA) (hR : (tx_rm 9).frames + 1 ≤ room_1.frames ∧ 8 + (maxL + 11) + (tx_rm 9).locals ≤ room_1.locals)
    (hnA : As.length = nA) (hst : st = As.reverse ++ rest) (hcat : (rest.map fun v => v.category).sum ≤ 8) (d : decode code pc = .ok (.invokestatic index, 3)) (hf : k + 1 ≤ room_1.cells ∧ z + 6 ≤ room_1.slots)
    (kn : lq_G l p e s m below meth c D h g o cI cZ cJ b (k + 1) (z + 6) u' σ' μ (pc + 3) LL (.int kk :: rest)) : lq_G l p e s m below meth c D h g o cI cZ cJ b k z u σ μ pc LL st := by
  have S := lq_S E
  obtain ⟨-, hK, hN, hX, hd, hg, hgh, hAh, hAg, -⟩ := E
  intro H locs ls hP hS hl T hT X
  have hPt : va_P D vwCl (tl_w h o cI cZ cJ u σ) H := hP.sub [0, 1, 2, 3, 4, 5, 6, 7, 8, 9, 10, 11, 12, 13, 14, 15, 16, 17, 18, 19, 20, 21, 22, 23] rfl
  have hPm : va_P D vwCl (tw_M g cI cZ μ) H := hP.sub [24, 25, 26, 27, 28, 29, 30, 31, 32, 33, 34, 35, 36, 37, 38] rfl
  have hpre : PreS s H (tl_Pre (tl_w h o cI cZ cJ u) D (tl_ty cI cZ cJ) tw_nl (tl_A h o) As σ) As :=
    ⟨tl_blind, fun U hU hW => ⟨rfl, by rw [hU]; exact hPt, va_K.moved hW.alike hK, hN.warm hW, (hX.1.call hW hU hS).narrow hAh, hX.2.1.moved hW.alike, hX.2.2.moved hW.alike⟩⟩
  obtain ⟨v, st₀, t, T', Lc, h0, X', hL, e1, e2, ⟨hv, hPt2, hz, hk⟩, sg⟩ := vx_runSW (As := As) (rest := rest) S hM (vx_cwSW nA S.2.2.2.2 hG hw rfl rfl hdd hR) hpre rfl hnA hl.1 hst (lv_room hcat) d hf T hT X
  cases hv
  rw [h0] at hz hk
  obtain ⟨t2, a1, b1⟩ := kn T'.heap (locs ++ Lc) ls (by
      rw [e1]
      refine hPt2.app (hPm.kept (fun k q hq => hk q.1 (vx_lt hPm hq) ?_))
      obtain ⟨i, hi, e⟩ := (tw_MD (cI := cI) (cZ := cZ) hg μ).2 k q hq
      rw [e]
      exact hgh i hi)
    ⟨Nat.le_trans hS.1 (by rw [e1]; exact hz), fun q h1 h2 => by rw [e1, hk q (Nat.lt_of_lt_of_le h1 hS.1) (fun h3 => h2 (hAh q h3))]; exact hS.2.1 q h1 h2, fun q hq => by
      rcases List.mem_append.mp hq with h | h
      · exact hS.2.2 q h
      · exact hAh _ (hL q h)⟩ hl T' rfl X'
  exact ⟨t2, sg t2 a1, b1⟩
/-- a method of the reference is called -/
theorem lq_callM (E : lq_E l p s m meth c D h g o cI cZ cJ b L xs) {y : MethodName} {bytes : ByteArray} {maxL index nA fr : Nat} {ret : Option FieldType} {ws ws' : List Cond} {r : Option Value}
    (hM : tg_CT l y ws (tg_rm fr) (tw_M g cI cZ) (tw_ty cI cZ) [] (tw_A 15 g) D (.ref (g 0) :: As) μ r μ') (hG : GoodIn lw_tbl (wsV RL index RX3 y ws)) (hw : ws = Cond.code y bytes maxL ret :: ws')
    (hdd : y.cls = RX3 ∧ y.cls ≠ "java/lang/invoke/MethodHandle" ∧ y.cls ≠ "java/lang/invoke/VarHandle" ∧ (parseMethodDescriptor y.desc).map (fun d => d.parameters.length) = some nA) (hR : fr + 1 ≤ room_1.frames ∧ 8 + (maxL + 11) + 28 * fr ≤ room_1.locals)
    (hnA : As.length = nA) (hst : st = As.reverse ++ .ref (g 0) :: rest) (hcat : (rest.map fun v => v.category).sum ≤ 8) (d : decode code pc = .ok (.invokevirtual index, 3)) (hf : k ≤ room_1.cells ∧ z ≤ room_1.slots)
    (kn : lq_G l p e s m below meth c D h g o cI cZ cJ b k z u σ μ' (pc + 3) LL (r.toList ++ rest)) : lq_G l p e s m below meth c D h g o cI cZ cJ b k z u σ μ pc LL st := by
  have S := lq_S E
  obtain ⟨-, hK, hN, hX, hd, hg, hgh, hAh, hAg, -⟩ := E
  intro H locs ls hP hS hl T hT X
  have hPt : va_P D vwCl (tl_w h o cI cZ cJ u σ) H := hP.sub [0, 1, 2, 3, 4, 5, 6, 7, 8, 9, 10, 11, 12, 13, 14, 15, 16, 17, 18, 19, 20, 21, 22, 23] rfl
  have hPm : va_P D vwCl (tw_M g cI cZ μ) H := hP.sub [24, 25, 26, 27, 28, 29, 30, 31, 32, 33, 34, 35, 36, 37, 38] rfl
  have hKm : va_K D vwCl (tw_ty cI cZ) s := hK.sub [0, 1] rfl
  have hgA : ∀ q, tw_A 15 g q → s.heap.size ≤ q := fun q ⟨i, hi, e⟩ => by rw [e]; exact hAg i hi
  have hpre := tg_preV (As := As) hKm (fun q hq => absurd hq List.not_mem_nil : tg_NU [] s) hPm (ci := 3) (q0 := 0) (q := (RX3, TX3, 16)) rfl rfl
  obtain ⟨v, st₀, t, T', Lc, h0, X', hL, e1, e2, ⟨hv, hPt2, hz, hk⟩, sg⟩ := va_runV (As := As) (rest := rest) S hM (cwV nA S.2.2.2.2 hG hw rfl rfl hdd hR) hpre rfl hnA hl.1 hst (lv_room hcat) d hf T hT X
  cases hv
  rw [h0] at hz hk
  obtain ⟨t2, a1, b1⟩ := kn T'.heap (locs ++ Lc) ls (by
      rw [e1]
      refine va_P.app (hPt.kept (fun k q hq => hk q.1 (vx_lt hPt hq) ?_)) hPt2
      rintro ⟨i, hi, e⟩
      exact hgh i hi (by rw [← e]; exact (tl_D hd σ).2 k q hq))
    ⟨Nat.le_trans hS.1 (by rw [e1]; exact hz), fun q h1 h2 => by rw [e1, hk q (Nat.lt_of_lt_of_le h1 hS.1) (fun h3 => h2 (hgA q h3))]; exact hS.2.1 q h1 h2, fun q hq => by
      rcases List.mem_append.mp hq with h | h
      · exact hS.2.2 q h
      · exact hgA _ (hL q h)⟩ hl T' rfl X'
  exact ⟨t2, sg t2 a1, b1⟩
/-- a method of the class that throws nothing is called -/
theorem lq_callT (E : lq_E l p s m meth c D h g o cI cZ cJ b L xs) {y : MethodName} {bytes : ByteArray} {maxL index nA fr : Nat} {ret : Option FieldType} {ws ws' : List Cond} {r : Option Value}
    (hM : tg_CT l y ws (tg_rm fr) (tw_T h cI cZ) (tw_ty cI cZ) tw_nl (tw_A 23 h) D (.ref (h 0) :: As) σ r σ') (hG : GoodIn lw_tbl (wsV RL index RX2 y ws)) (hw : ws = Cond.code y bytes maxL ret :: ws')
    (hdd : y.cls = RX2 ∧ y.cls ≠ "java/lang/invoke/MethodHandle" ∧ y.cls ≠ "java/lang/invoke/VarHandle" ∧ (parseMethodDescriptor y.desc).map (fun d => d.parameters.length) = some nA) (hR : fr + 1 ≤ room_1.frames ∧ 8 + (maxL + 11) + 28 * fr ≤ room_1.locals)
    (hnA : As.length = nA) (hst : st = As.reverse ++ .ref (h 0) :: rest) (hcat : (rest.map fun v => v.category).sum ≤ 8) (d : decode code pc = .ok (.invokevirtual index, 3)) (hf : k ≤ room_1.cells ∧ z ≤ room_1.slots)
    (kn : lq_G l p e s m below meth c D h g o cI cZ cJ b k z u σ' μ (pc + 3) LL (r.toList ++ rest)) : lq_G l p e s m below meth c D h g o cI cZ cJ b k z u σ μ pc LL st := by
  have S := lq_S E
  obtain ⟨-, hK, hN, hX, hd, hg, hgh, hAh, hAg, -⟩ := E
  intro H locs ls hP hS hl T hT X
  have hPt : va_P D vwCl (tw_T h cI cZ σ) H := hP.sub [0, 1, 2, 3, 4, 5, 6, 7, 8, 9, 10, 11, 12, 13, 14, 15, 16, 17, 18, 19, 20, 21, 22] rfl
  have hPo : va_P D vwCl (tl_o o cJ u) H := hP.sub [23] rfl
  have hPm : va_P D vwCl (tw_M g cI cZ μ) H := hP.sub [24, 25, 26, 27, 28, 29, 30, 31, 32, 33, 34, 35, 36, 37, 38] rfl
  have hKm : va_K D vwCl (tw_ty cI cZ) s := hK.sub [0, 1] rfl
  have hpre := tg_preV (As := As) hKm hN hPt (ci := 2) (q0 := 0) (q := (RX2, TX2, 2)) rfl rfl
  obtain ⟨v, st₀, t, T', Lc, h0, X', hL, e1, e2, ⟨hv, hPt2, hz, hk⟩, sg⟩ := va_runV (As := As) (rest := rest) S hM (cwV nA S.2.2.2.2 hG hw rfl rfl hdd hR) hpre rfl hnA hl.1 hst (lv_room hcat) d hf T hT X
  cases hv
  rw [h0] at hz hk
  obtain ⟨t2, a1, b1⟩ := kn T'.heap (locs ++ Lc) ls (by
      rw [e1]
      refine va_P.app (va_P.app hPt2 (hPo.kept (fun k q hq => hk q.1 (vx_lt hPo hq) ?_))) (hPm.kept (fun k q hq => hk q.1 (vx_lt hPm hq) ?_))
      · have hz : k < 1 := (List.getElem?_eq_some_iff.mp hq).1
        rw [show k = 0 by omega] at hq
        cases hq
        exact tl_An hd
      · obtain ⟨i, hi, e⟩ := (tw_MD (cI := cI) (cZ := cZ) hg μ).2 k q hq
        rw [e]
        exact fun hc => hgh i hi (tl_AA hc))
    ⟨Nat.le_trans hS.1 (by rw [e1]; exact hz), fun q h1 h2 => by rw [e1, hk q (Nat.lt_of_lt_of_le h1 hS.1) (fun h3 => h2 (hAh q (tl_AA h3)))]; exact hS.2.1 q h1 h2, fun q hq => by
      rcases List.mem_append.mp hq with h | h
      · exact hS.2.2 q h
      · exact hAh _ (tl_AA (hL q h))⟩ hl T' rfl X'
  exact ⟨t2, sg t2 a1, b1⟩
theorem lq_widen {k1 z1 : Nat} (h1 : k ≤ k1) (h2 : z ≤ z1) (kn : lq_G l p e s m below meth c D h g o cI cZ cJ b k1 z1 u σ μ pc LL st) : lq_G l p e s m below meth c D h g o cI cZ cJ b k z u σ μ pc LL st := fun H locs ls hP hS hl => W.widen h1 h2 (kn H locs ls hP hS hl)
theorem lq_sld (E : lq_E l p s m meth c D h g o cI cZ cJ b L xs) {i v : Int32} (hin : vp_in i L) (hv : xs i.toNatClampNeg = v) (d : decode code pc = .ok (.iaload, 1)) (kn : lq_G l p e s m below meth c D h g o cI cZ cJ b k z u σ μ (pc + 1) LL (.int v :: st)) : lq_G l p e s m below meth c D h g o cI cZ cJ b k z u σ μ pc LL (.int i :: .ref b :: st) := by
  subst hv
  have S := lq_S E
  exact fun H locs ls hP hS hl => va_sld S.1 S.2.1 E.1.2.2.2.2.2.2.1 E.1.2.2.2.2.2.2.2.1 (Nat.not_le.mpr E.1.2.2.2.2.2.2.2.1) hS hin d (kn H locs ls hP hS hl)
theorem lq_slen (E : lq_E l p s m meth c D h g o cI cZ cJ b L xs) (d : decode code pc = .ok (.arraylength, 1)) (kn : lq_G l p e s m below meth c D h g o cI cZ cJ b k z u σ μ (pc + 1) LL (.int (nI L) :: st)) : lq_G l p e s m below meth c D h g o cI cZ cJ b k z u σ μ pc LL (.ref b :: st) := by
  have S := lq_S E
  exact fun H locs ls hP hS hl => va_slen S.1 S.2.1 E.1.2.2.2.2.2.2.1 E.1.2.2.2.2.2.2.2.1 (Nat.not_le.mpr E.1.2.2.2.2.2.2.2.1) hS d (kn H locs ls hP hS hl)
theorem lq_lald (E : lq_E l p s m meth c D h g o cI cZ cJ b L xs) (d : decode code pc = .ok (.laload, 1)) (kn : lq_G l p e s m below meth c D h g o cI cZ cJ b k z u σ μ (pc + 1) LL (.long (u 0) :: st)) : lq_G l p e s m below meth c D h g o cI cZ cJ b k z u σ μ pc LL (.int 0 :: .ref o :: st) := by
  have S := lq_S E
  exact fun H locs ls hP hS hl => va_lald (f := u) S.1 S.2.1 E.2.1 hP 23 2 rfl rfl (by unfold vp_in; decide) d (kn H locs ls hP hS hl)
theorem lq_iand (E : lq_E l p s m meth c D h g o cI cZ cJ b L xs) {x y : Int32} (d : decode code pc = .ok (.iand, 1)) (kn : lq_G l p e s m below meth c D h g o cI cZ cJ b k z u σ μ (pc + 1) LL (.int (x &&& y) :: st)) : lq_G l p e s m below meth c D h g o cI cZ cJ b k z u σ μ pc LL (.int y :: .int x :: st) := by
  have S := lq_S E
  exact fun H locs ls hP hS hl => lv_iand S.1 S.2.1 d (kn H locs ls hP hS hl)
theorem lq_lcmp (E : lq_E l p s m meth c D h g o cI cZ cJ b L xs) {x y : Int64} (d : decode code pc = .ok (.lcmp, 1)) (kn : lq_G l p e s m below meth c D h g o cI cZ cJ b k z u σ μ (pc + 1) LL (.int (lg_cmp x y) :: st)) : lq_G l p e s m below meth c D h g o cI cZ cJ b k z u σ μ pc LL (.long y :: .long x :: st) := by
  have S := lq_S E
  exact fun H locs ls hP hS hl => W.lcmp S.1 S.2.1 d (kn H locs ls hP hS hl)
theorem lq_icmp_gt (E : lq_E l p s m meth c D h g o cI cZ cJ b L xs) {x y : Int32} {off : Int} {tgt : Nat} (d : decode code pc = .ok (.if_icmp .gt off, 3)) (ht : (pc : Int) + off = (tgt : Int)) (kt : y < x → lq_G l p e s m below meth c D h g o cI cZ cJ b k z u σ μ tgt LL st) (kf : ¬ y < x → lq_G l p e s m below meth c D h g o cI cZ cJ b k z u σ μ (pc + 3) LL st) : lq_G l p e s m below meth c D h g o cI cZ cJ b k z u σ μ pc LL (.int y :: .int x :: st) := by
  have S := lq_S E
  exact fun H locs ls hP hS hl => lv_icmp_gt S.1 S.2.1 d ht (fun q => kt q H locs ls hP hS hl) (fun q => kf q H locs ls hP hS hl)
theorem lq_tabO (E : lq_E l p s m meth c D h g o cI cZ cJ b L xs) {dflt lo hi : Int} {offs : Array Int} {len : Nat} {x : Int32} {tgt : Nat} (d : decode code pc = .ok (.tableswitch dflt lo hi offs, len)) (hx : x.toInt < lo ∨ hi < x.toInt) (ht : (pc : Int) + dflt = (tgt : Int)) (kn : lq_G l p e s m below meth c D h g o cI cZ cJ b k z u σ μ tgt LL st) : lq_G l p e s m below meth c D h g o cI cZ cJ b k z u σ μ pc LL (.int x :: st) := by
  have S := lq_S E
  exact fun H locs ls hP hS hl => lv_tableOut S.1 S.2.1 d hx ht (kn H locs ls hP hS hl)
theorem lq_tabI (E : lq_E l p s m meth c D h g o cI cZ cJ b L xs) {dflt lo hi : Int} {offs : Array Int} {len : Nat} {x : Int32} {off : Int} {tgt : Nat} (d : decode code pc = .ok (.tableswitch dflt lo hi offs, len)) (h1 : ¬ x.toInt < lo) (h2 : ¬ hi < x.toInt) (ho : offs[(x.toInt - lo).toNat]? = some off) (ht : (pc : Int) + off = (tgt : Int)) (kn : lq_G l p e s m below meth c D h g o cI cZ cJ b k z u σ μ tgt LL st) : lq_G l p e s m below meth c D h g o cI cZ cJ b k z u σ μ pc LL (.int x :: st) := by
  have S := lq_S E
  exact fun H locs ls hP hS hl => lv_tableIn S.1 S.2.1 d h1 h2 ho ht (kn H locs ls hP hS hl)
theorem lq_lconst (E : lq_E l p s m meth c D h g o cI cZ cJ b L xs) {j : Fin 2} {v : Int64} (d : decode code pc = .ok (.lconst j, 1)) (hv : Int64.ofNat (j : Nat) = v) (kn : lq_G l p e s m below meth c D h g o cI cZ cJ b k z u σ μ (pc + 1) LL (.long v :: st)) : lq_G l p e s m below meth c D h g o cI cZ cJ b k z u σ μ pc LL st := tl_lconst (lq_S E) d hv kn
end LQ
