/-! ===== constructors ===== -/
abbrev tn_e (q : Nat) (cT : ClassId) (N : Nat) : Nat × va_E := (q, .inl (cT, N, .inl (fun _ => 0)))
abbrev tn_o (h ci : Nat) (fs : List Value) : Nat × va_E := (h, .inr (ci, fs))
theorem tn_cI {n : Nat} : ∀ cA : ClassId, vp_cell cA (n, .inl (fun _ => 0)) = arrV cA n (fun _ => defaultValue .int) := fun _ => rfl
theorem tn_cZ {n : Nat} : ∀ cA : ClassId, vp_cell cA (n, .inl (fun _ => 0)) = arrV cA n (fun _ => defaultValue .boolean) := fun _ => rfl
set_option maxRecDepth 100000 in
theorem tn_aI : Cond.arrayClass (newarray.typeOf .int) ∈ lw_tbl := by decide +kernel
set_option maxRecDepth 100000 in
theorem tn_aZ : Cond.arrayClass (newarray.typeOf .boolean) ∈ lw_tbl := by decide +kernel
theorem tn_rI {s : State} {c1 c2 : ClassId} (h1 : va_RA s c1 .int) (h2 : va_RA s c2 .int) : c1 = c2 := Option.some.inj ((show s.vm.findClass _ = some c1 from h1).symm.trans (show s.vm.findClass _ = some c2 from h2))
theorem tn_rZ {s : State} {c1 c2 : ClassId} (h1 : va_RA s c1 .boolean) (h2 : va_RA s c2 .boolean) : c1 = c2 := Option.some.inj ((show s.vm.findClass _ = some c1 from h1).symm.trans (show s.vm.findClass _ = some c2 from h2))
section TN
variable {p : Program} {l : Launch} {e : Env} {R : Room} {s : State} {m : MethodId} {args : Array Value} {below : List Frame} {meth : Method} {c : Code} {D : va_G} {A : Nat → Prop} {n k z : Nat} {Q : State → Prop}
variable {cc : ByteArray} {x : Cond} {own : String} {pc : Nat} {L : List (Nat × Value)} {st : List Value} {cI cZ : ClassId} {H : Heap} {locs : List Loc} {ls : Array Slot} {ws : va_W}
/-- an array made and kept in a final field of this -/
theorem tn_arr {atype : ArrayType} {ty : FieldType} {cT : ClassId} {N h0 ci index : Nat} {fs : List Value} {C : String} {T : u_T} {NF : Nat} {b : Int} (t0 : Nat) (ht : (tw_ty cI cZ)[t0]? = some (cT, ty)) (hr : ∀ c1 c2 : ClassId, va_RA s c1 ty → va_RA s c2 ty → c1 = c2) (hty : newarray.typeOf atype = ty)
    (ha : ∀ cA : ClassId, vp_cell cA (N, .inl (fun _ => 0)) = arrV cA N (fun _ => defaultValue ty)) (har : Cond.arrayClass (newarray.typeOf atype) ∈ lw_tbl) (hbytes : N * componentBytes ty ≤ 536870912)
    (S : CallFix p m c cc n s args (x :: tw_G) own) (hin2 : meth.name = "<init>") (hK : va_K D vwCl (tw_ty cI cZ) s) (hP : va_P D vwCl ws H) (hD : va_D A ws) (hS : va_S A s.heap H locs) (hA : ∀ q, s.heap.size ≤ q → A q) (hl : lv_has ls n L) (hL : L[0]? = some (0, .ref h0))
    (he : ws[0]? = some (h0, .inr (ci, fs))) (hc : vwCl[ci]? = some (C, T, NF)) (hin : ∀ w ∈ u_ws C T NF, w ∈ x :: tw_G) (ty0 : Nat → FieldType) (htyf : ∀ k, k < NF → parseFieldDescriptor (T k).2.2.1 = some (ty0 k)) (hnm : ∀ a, a < NF → ∀ b, b < NF → a ≠ b → (T a).2.1 ≠ (T b).2.1)
    (f : Nat) (hf : f < NF) (hlink : Cond.fieldLink own index C (T f).2.1 (T f).2.2.1 ∈ lw_tbl) (hT : (T f).1 = C) (hfin : (T f).2.2.2 = true) (hdecl : (T f).1 = own) (hd : parseFieldDescriptor (T f).2.2.1 = some (.array ty)) (hfl : f < fs.length)
    (hN : (Int8.ofInt b).toInt32.toNatClampNeg = N) (hn0 : ¬ (Int8.ofInt b).toInt32 < 0) (hR : k + 1 ≤ R.cells ∧ z + N ≤ R.slots)
    (d0 : decode cc pc = .ok (.aload_n 0, 1)) (d1 : decode cc (pc + 1) = .ok (.bipush b, 2)) (d3 : decode cc (pc + 3) = .ok (.newarray atype, 2)) (d5 : decode cc (pc + 5) = .ok (.putfield index, 3))
    (kk : ∀ (q : Nat) (H1 : Heap) (locs1 : List Loc), va_P D vwCl ((ws ++ [tn_e q cT N]).set 0 (tn_o h0 ci (fs.set f (.ref q)))) H1 → va_D A ((ws ++ [tn_e q cT N]).set 0 (tn_o h0 ci (fs.set f (.ref q)))) → va_S A s.heap H1 locs1 →
      W p l e R s m args below meth c H1 locs1 (k + 1) (z + N) Q (F0 m (pc + 8) ls st)) : W p l e R s m args below meth c H locs k z Q (F0 m pc ls st) := by
  refine lv_aload_n S.1 S.2.1 d0 rfl (lv_at hl 0 hL) ?_
  refine lv_bipush S.1 S.2.1 d1 rfl ?_
  refine va_newa (N' := N) (a0 := (N, .inl (fun _ => 0))) S.1 S.2.1 (S.2.2.2.2 _ (tw_in har rfl)) hty hK hP hD hS hA ha hn0 hN hbytes hR.1 hR.2 d3 (fun q cA H1 hK1 hP1 hD1 hS1 => ?_)
  have e : cA = cT := hr _ _ (hK1.2 2 _ rfl).2 (hK.2 t0 _ ht).2
  subst e
  have he1 : (ws ++ [tn_e q cA N])[0]? = some (tn_o h0 ci fs) := by
    rw [List.getElem?_append_left (List.getElem?_eq_some_iff.mp he).1]
    exact he
  refine va_putF (ref := C) (C := C) (T := T) (N := NF) (v := .ref q) (ty := .array ty) S.1 S.2.1 S.2.2.2.2 hin ty0 htyf hnm S.2.2.2.1 hK1 hP1 hD1 hS1 0 he1 hc f hf (S.2.2.2.2 _ (tw_in hlink rfl)) (fun _ h9 => by rw [hT] at h9; exact h9) hfin hin2 hdecl hd rfl rfl hfl d5 (fun H2 l2 hP2 hD2 hS2 => kk q H2 l2 hP2 hD2 hS2)
end TN

def tn_w1 (h0 : Nat) (cI cZ : ClassId) (g : Nat → Nat) : va_W := [tn_o h0 1 [.ref (g 0), .ref (g 1), .ref (g 2), .ref (g 3), .ref (g 4), .ref (g 5), .ref (g 6), .ref (g 7), .ref (g 8)], tn_e (g 0) cZ 30, tn_e (g 1) cI 30, tn_e (g 2) cI 30, tn_e (g 3) cI 30, tn_e (g 4) cZ 30, tn_e (g 5) cI 30, tn_e (g 6) cI 30, tn_e (g 7) cZ 30, tn_e (g 8) cI 30]
set_option maxHeartbeats 4000000 in
set_option maxRecDepth 100000 in
theorem k_X1_init (l : Launch) (D : va_G) (cI cZ : ClassId) (h0 sz : Nat) : Met l yX1_init wzX1_init ({ frames := 2, cells := 9, slots := 270, locals := 56 }) (va_Pc [.ref h0] (fun U => U.heap.size = sz ∧ va_P D vwCl [tn_o h0 1 [.null, .null, .null, .null, .null, .null, .null, .null, .null]] U.heap ∧ va_K D vwCl (tw_ty cI cZ) U ∧ va_D (fun _ => True) [tn_o h0 1 [.null, .null, .null, .null, .null, .null, .null, .null, .null]])) (va_Qv (fun _ : Nat → Nat => True) (fun g t => va_P D vwCl (tn_w1 h0 cI cZ g) t.heap ∧ va_D (va_A [tn_o h0 1 [.null, .null, .null, .null, .null, .null, .null, .null, .null]] sz) (tn_w1 h0 cI cZ g)) (va_A [tn_o h0 1 [.null, .null, .null, .null, .null, .null, .null, .null, .null]] sz)) 9 270 (va_A [tn_o h0 1 [.null, .null, .null, .null, .null, .null, .null, .null, .null]] sz) := by
  refine Met.ofW (cc := cX1_init) (maxL := 1) (ret := none) (by decide +kernel) rfl ?_
  intro p e s m args below meth c s₁ B hml hv
  obtain ⟨rfl, hsz, hP, hK, hD0⟩ := hv
  have hts := atoms_spec (ws := wzX1_init) B.pre
  have S : CallFix p m c cX1_init 1 s ([.ref h0] : List Value).toArray wzX1_init RX1 := ⟨B.exec, B.bytes, hml, findClass_of_methodNamed B.named, hts⟩
  have hr := B.returns
  have hlocks := B.notSynchronized
  have hin : meth.name = "<init>" := (name_of_methodNamed B.named B.method).1
  subst hsz
  have hD := hD0.self (sz := s.heap.size)
  generalize hAe : va_A [tn_o h0 1 [.null, .null, .null, .null, .null, .null, .null, .null, .null]] s.heap.size = A at hD ⊢
  have hA : ∀ q : Nat, s.heap.size ≤ q → A q := fun q h => by rw [← hAe]; exact Or.inr h
  have hS : va_S A s.heap s.heap [] := va_S.rf
  have hP : va_P D vwCl [tn_o h0 1 [.null, .null, .null, .null, .null, .null, .null, .null, .null]] s.heap := hP
  have hl := lv_entry ([.ref h0]) (n := 1) (Nat.le_of_ble_eq_true rfl)
  rw [lg_entry_eq]
  generalize (lg_sl ([.ref h0]) ++ List.replicate (1 - (lg_sl ([.ref h0])).length) Slot.unset).toArray = ls at hl ⊢
  have hl : lv_has ls 1 (lv_args 0 [.ref h0]) := hl
  refine lv_aload_n S.1 S.2.1 dX1_init_0 rfl (lv_at hl 0 rfl) ?_
  refine W.objInit S.1 S.2.1 S.2.2.2.1 (hts _ (tw_in ml_RX1_3 rfl)) (hts _ (tw_in im_objectInit rfl)) (hts _ (tw_in co_objectInit rfl)) rfl (by rw [hml]; exact hl.1) rfl dX1_init_1 (Nat.le_of_ble_eq_true rfl) (Nat.le_of_ble_eq_true rfl) ?_
  refine W.eq (g2 := F0 m 4 ls []) rfl ?_
  refine tn_arr (N := 30) (C := RX1) (T := TX1) (NF := 9) 1 rfl (fun _ _ => tn_rZ) rfl tn_cZ tn_aZ (Nat.le_of_ble_eq_true rfl) S hin hK hP hD hS hA hl rfl rfl rfl tw_v1 tyX1 tyX1_ok nmX1 0 (by decide) fl_RX1_9 rfl rfl rfl (by decide +kernel) (Nat.le_of_ble_eq_true rfl) (by decide) (by decide) ⟨Nat.le_of_ble_eq_true rfl, Nat.le_of_ble_eq_true rfl⟩ dX1_init_4 dX1_init_5 dX1_init_7 dX1_init_9 (fun q0 H locs hP hD hS => ?_)
  have hP : va_P D vwCl [tn_o h0 1 [.ref q0, .null, .null, .null, .null, .null, .null, .null, .null], tn_e q0 cZ 30] H := hP
  have hD : va_D A [tn_o h0 1 [.ref q0, .null, .null, .null, .null, .null, .null, .null, .null], tn_e q0 cZ 30] := hD
  refine tn_arr (N := 30) (C := RX1) (T := TX1) (NF := 9) 0 rfl (fun _ _ => tn_rI) rfl tn_cI tn_aI (Nat.le_of_ble_eq_true rfl) S hin hK hP hD hS hA hl rfl rfl rfl tw_v1 tyX1 tyX1_ok nmX1 1 (by decide) fl_RX1_15 rfl rfl rfl (by decide +kernel) (Nat.le_of_ble_eq_true rfl) (by decide) (by decide) ⟨Nat.le_of_ble_eq_true rfl, Nat.le_of_ble_eq_true rfl⟩ dX1_init_12 dX1_init_13 dX1_init_15 dX1_init_17 (fun q1 H locs hP hD hS => ?_)
  have hP : va_P D vwCl [tn_o h0 1 [.ref q0, .ref q1, .null, .null, .null, .null, .null, .null, .null], tn_e q0 cZ 30, tn_e q1 cI 30] H := hP
  have hD : va_D A [tn_o h0 1 [.ref q0, .ref q1, .null, .null, .null, .null, .null, .null, .null], tn_e q0 cZ 30, tn_e q1 cI 30] := hD
  refine tn_arr (N := 30) (C := RX1) (T := TX1) (NF := 9) 0 rfl (fun _ _ => tn_rI) rfl tn_cI tn_aI (Nat.le_of_ble_eq_true rfl) S hin hK hP hD hS hA hl rfl rfl rfl tw_v1 tyX1 tyX1_ok nmX1 2 (by decide) fl_RX1_19 rfl rfl rfl (by decide +kernel) (Nat.le_of_ble_eq_true rfl) (by decide) (by decide) ⟨Nat.le_of_ble_eq_true rfl, Nat.le_of_ble_eq_true rfl⟩ dX1_init_20 dX1_init_21 dX1_init_23 dX1_init_25 (fun q2 H locs hP hD hS => ?_)
  have hP : va_P D vwCl [tn_o h0 1 [.ref q0, .ref q1, .ref q2, .null, .null, .null, .null, .null, .null], tn_e q0 cZ 30, tn_e q1 cI 30, tn_e q2 cI 30] H := hP
  have hD : va_D A [tn_o h0 1 [.ref q0, .ref q1, .ref q2, .null, .null, .null, .null, .null, .null], tn_e q0 cZ 30, tn_e q1 cI 30, tn_e q2 cI 30] := hD
  refine tn_arr (N := 30) (C := RX1) (T := TX1) (NF := 9) 0 rfl (fun _ _ => tn_rI) rfl tn_cI tn_aI (Nat.le_of_ble_eq_true rfl) S hin hK hP hD hS hA hl rfl rfl rfl tw_v1 tyX1 tyX1_ok nmX1 3 (by decide) fl_RX1_22 rfl rfl rfl (by decide +kernel) (Nat.le_of_ble_eq_true rfl) (by decide) (by decide) ⟨Nat.le_of_ble_eq_true rfl, Nat.le_of_ble_eq_true rfl⟩ dX1_init_28 dX1_init_29 dX1_init_31 dX1_init_33 (fun q3 H locs hP hD hS => ?_)
  have hP : va_P D vwCl [tn_o h0 1 [.ref q0, .ref q1, .ref q2, .ref q3, .null, .null, .null, .null, .null], tn_e q0 cZ 30, tn_e q1 cI 30, tn_e q2 cI 30, tn_e q3 cI 30] H := hP
  have hD : va_D A [tn_o h0 1 [.ref q0, .ref q1, .ref q2, .ref q3, .null, .null, .null, .null, .null], tn_e q0 cZ 30, tn_e q1 cI 30, tn_e q2 cI 30, tn_e q3 cI 30] := hD
  refine tn_arr (N := 30) (C := RX1) (T := TX1) (NF := 9) 1 rfl (fun _ _ => tn_rZ) rfl tn_cZ tn_aZ (Nat.le_of_ble_eq_true rfl) S hin hK hP hD hS hA hl rfl rfl rfl tw_v1 tyX1 tyX1_ok nmX1 4 (by decide) fl_RX1_25 rfl rfl rfl (by decide +kernel) (Nat.le_of_ble_eq_true rfl) (by decide) (by decide) ⟨Nat.le_of_ble_eq_true rfl, Nat.le_of_ble_eq_true rfl⟩ dX1_init_36 dX1_init_37 dX1_init_39 dX1_init_41 (fun q4 H locs hP hD hS => ?_)
  have hP : va_P D vwCl [tn_o h0 1 [.ref q0, .ref q1, .ref q2, .ref q3, .ref q4, .null, .null, .null, .null], tn_e q0 cZ 30, tn_e q1 cI 30, tn_e q2 cI 30, tn_e q3 cI 30, tn_e q4 cZ 30] H := hP
  have hD : va_D A [tn_o h0 1 [.ref q0, .ref q1, .ref q2, .ref q3, .ref q4, .null, .null, .null, .null], tn_e q0 cZ 30, tn_e q1 cI 30, tn_e q2 cI 30, tn_e q3 cI 30, tn_e q4 cZ 30] := hD
  refine tn_arr (N := 30) (C := RX1) (T := TX1) (NF := 9) 0 rfl (fun _ _ => tn_rI) rfl tn_cI tn_aI (Nat.le_of_ble_eq_true rfl) S hin hK hP hD hS hA hl rfl rfl rfl tw_v1 tyX1 tyX1_ok nmX1 5 (by decide) fl_RX1_28 rfl rfl rfl (by decide +kernel) (Nat.le_of_ble_eq_true rfl) (by decide) (by decide) ⟨Nat.le_of_ble_eq_true rfl, Nat.le_of_ble_eq_true rfl⟩ dX1_init_44 dX1_init_45 dX1_init_47 dX1_init_49 (fun q5 H locs hP hD hS => ?_)
  have hP : va_P D vwCl [tn_o h0 1 [.ref q0, .ref q1, .ref q2, .ref q3, .ref q4, .ref q5, .null, .null, .null], tn_e q0 cZ 30, tn_e q1 cI 30, tn_e q2 cI 30, tn_e q3 cI 30, tn_e q4 cZ 30, tn_e q5 cI 30] H := hP
  have hD : va_D A [tn_o h0 1 [.ref q0, .ref q1, .ref q2, .ref q3, .ref q4, .ref q5, .null, .null, .null], tn_e q0 cZ 30, tn_e q1 cI 30, tn_e q2 cI 30, tn_e q3 cI 30, tn_e q4 cZ 30, tn_e q5 cI 30] := hD
  refine tn_arr (N := 30) (C := RX1) (T := TX1) (NF := 9) 0 rfl (fun _ _ => tn_rI) rfl tn_cI tn_aI (Nat.le_of_ble_eq_true rfl) S hin hK hP hD hS hA hl rfl rfl rfl tw_v1 tyX1 tyX1_ok nmX1 6 (by decide) fl_RX1_31 rfl rfl rfl (by decide +kernel) (Nat.le_of_ble_eq_true rfl) (by decide) (by decide) ⟨Nat.le_of_ble_eq_true rfl, Nat.le_of_ble_eq_true rfl⟩ dX1_init_52 dX1_init_53 dX1_init_55 dX1_init_57 (fun q6 H locs hP hD hS => ?_)
  have hP : va_P D vwCl [tn_o h0 1 [.ref q0, .ref q1, .ref q2, .ref q3, .ref q4, .ref q5, .ref q6, .null, .null], tn_e q0 cZ 30, tn_e q1 cI 30, tn_e q2 cI 30, tn_e q3 cI 30, tn_e q4 cZ 30, tn_e q5 cI 30, tn_e q6 cI 30] H := hP
  have hD : va_D A [tn_o h0 1 [.ref q0, .ref q1, .ref q2, .ref q3, .ref q4, .ref q5, .ref q6, .null, .null], tn_e q0 cZ 30, tn_e q1 cI 30, tn_e q2 cI 30, tn_e q3 cI 30, tn_e q4 cZ 30, tn_e q5 cI 30, tn_e q6 cI 30] := hD
  refine tn_arr (N := 30) (C := RX1) (T := TX1) (NF := 9) 1 rfl (fun _ _ => tn_rZ) rfl tn_cZ tn_aZ (Nat.le_of_ble_eq_true rfl) S hin hK hP hD hS hA hl rfl rfl rfl tw_v1 tyX1 tyX1_ok nmX1 7 (by decide) fl_RX1_34 rfl rfl rfl (by decide +kernel) (Nat.le_of_ble_eq_true rfl) (by decide) (by decide) ⟨Nat.le_of_ble_eq_true rfl, Nat.le_of_ble_eq_true rfl⟩ dX1_init_60 dX1_init_61 dX1_init_63 dX1_init_65 (fun q7 H locs hP hD hS => ?_)
  have hP : va_P D vwCl [tn_o h0 1 [.ref q0, .ref q1, .ref q2, .ref q3, .ref q4, .ref q5, .ref q6, .ref q7, .null], tn_e q0 cZ 30, tn_e q1 cI 30, tn_e q2 cI 30, tn_e q3 cI 30, tn_e q4 cZ 30, tn_e q5 cI 30, tn_e q6 cI 30, tn_e q7 cZ 30] H := hP
  have hD : va_D A [tn_o h0 1 [.ref q0, .ref q1, .ref q2, .ref q3, .ref q4, .ref q5, .ref q6, .ref q7, .null], tn_e q0 cZ 30, tn_e q1 cI 30, tn_e q2 cI 30, tn_e q3 cI 30, tn_e q4 cZ 30, tn_e q5 cI 30, tn_e q6 cI 30, tn_e q7 cZ 30] := hD
  refine tn_arr (N := 30) (C := RX1) (T := TX1) (NF := 9) 0 rfl (fun _ _ => tn_rI) rfl tn_cI tn_aI (Nat.le_of_ble_eq_true rfl) S hin hK hP hD hS hA hl rfl rfl rfl tw_v1 tyX1 tyX1_ok nmX1 8 (by decide) fl_RX1_37 rfl rfl rfl (by decide +kernel) (Nat.le_of_ble_eq_true rfl) (by decide) (by decide) ⟨Nat.le_of_ble_eq_true rfl, Nat.le_of_ble_eq_true rfl⟩ dX1_init_68 dX1_init_69 dX1_init_71 dX1_init_73 (fun q8 H locs hP hD hS => ?_)
  have hP : va_P D vwCl [tn_o h0 1 [.ref q0, .ref q1, .ref q2, .ref q3, .ref q4, .ref q5, .ref q6, .ref q7, .ref q8], tn_e q0 cZ 30, tn_e q1 cI 30, tn_e q2 cI 30, tn_e q3 cI 30, tn_e q4 cZ 30, tn_e q5 cI 30, tn_e q6 cI 30, tn_e q7 cZ 30, tn_e q8 cI 30] H := hP
  have hD : va_D A [tn_o h0 1 [.ref q0, .ref q1, .ref q2, .ref q3, .ref q4, .ref q5, .ref q6, .ref q7, .ref q8], tn_e q0 cZ 30, tn_e q1 cI 30, tn_e q2 cI 30, tn_e q3 cI 30, tn_e q4 cZ 30, tn_e q5 cI 30, tn_e q6 cI 30, tn_e q7 cZ 30, tn_e q8 cI 30] := hD
  exact W.vret S.1 S.2.1 hr (fun t ht hW => ⟨⟨(fun j => match j with | 0 => q0 | 1 => q1 | 2 => q2 | 3 => q3 | 4 => q4 | 5 => q5 | 6 => q6 | 7 => q7 | _ => q8), rfl, trivial, by rw [ht]; exact hP, hD⟩, hS.F ht⟩) hS.2.2 dX1_init_76 hlocks
def tn_w0 (h0 mm : Nat) (cI cZ : ClassId) (g : Nat → Nat) : va_W := [tn_o h0 0 [.ref mm, .ref (g 0), .ref (g 1), .ref (g 2), .ref (g 3), .ref (g 4), .ref (g 5), .ref (g 6), .ref (g 7), .ref (g 8), .ref (g 9), .ref (g 10), .int 0], tn_e (g 0) cZ 30, tn_e (g 1) cI 30, tn_e (g 2) cI 30, tn_e (g 3) cZ 30, tn_e (g 4) cI 30, tn_e (g 5) cI 30, tn_e (g 6) cI 30, tn_e (g 7) cI 30, tn_e (g 8) cI 30, tn_e (g 9) cI 30, tn_e (g 10) cI 30]
set_option maxHeartbeats 4000000 in
set_option maxRecDepth 100000 in
theorem k_X0_init (l : Launch) (D : va_G) (cI cZ : ClassId) (h0 mm sz : Nat) : Met l yX0_init wzX0_init ({ frames := 2, cells := 11, slots := 330, locals := 56 }) (va_Pc [.ref h0, .ref mm] (fun U => U.heap.size = sz ∧ va_P D vwCl [tn_o h0 0 [.null, .null, .null, .null, .null, .null, .null, .null, .null, .null, .null, .null, .int 0]] U.heap ∧ va_K D vwCl (tw_ty cI cZ) U ∧ va_D (fun _ => True) [tn_o h0 0 [.null, .null, .null, .null, .null, .null, .null, .null, .null, .null, .null, .null, .int 0]])) (va_Qv (fun _ : Nat → Nat => True) (fun g t => va_P D vwCl (tn_w0 h0 mm cI cZ g) t.heap ∧ va_D (va_A [tn_o h0 0 [.null, .null, .null, .null, .null, .null, .null, .null, .null, .null, .null, .null, .int 0]] sz) (tn_w0 h0 mm cI cZ g)) (va_A [tn_o h0 0 [.null, .null, .null, .null, .null, .null, .null, .null, .null, .null, .null, .null, .int 0]] sz)) 11 330 (va_A [tn_o h0 0 [.null, .null, .null, .null, .null, .null, .null, .null, .null, .null, .null, .null, .int 0]] sz) := by
  refine Met.ofW (cc := cX0_init) (maxL := 2) (ret := none) (by decide +kernel) rfl ?_
  intro p e s m args below meth c s₁ B hml hv
  obtain ⟨rfl, hsz, hP, hK, hD0⟩ := hv
  have hts := atoms_spec (ws := wzX0_init) B.pre
  have S : CallFix p m c cX0_init 2 s ([.ref h0, .ref mm] : List Value).toArray wzX0_init RX0 := ⟨B.exec, B.bytes, hml, findClass_of_methodNamed B.named, hts⟩
  have hr := B.returns
  have hlocks := B.notSynchronized
  have hin : meth.name = "<init>" := (name_of_methodNamed B.named B.method).1
  subst hsz
  have hD := hD0.self (sz := s.heap.size)
  generalize hAe : va_A [tn_o h0 0 [.null, .null, .null, .null, .null, .null, .null, .null, .null, .null, .null, .null, .int 0]] s.heap.size = A at hD ⊢
  have hA : ∀ q : Nat, s.heap.size ≤ q → A q := fun q h => by rw [← hAe]; exact Or.inr h
  have hS : va_S A s.heap s.heap [] := va_S.rf
  have hP : va_P D vwCl [tn_o h0 0 [.null, .null, .null, .null, .null, .null, .null, .null, .null, .null, .null, .null, .int 0]] s.heap := hP
  have hl := lv_entry ([.ref h0, .ref mm]) (n := 2) (Nat.le_of_ble_eq_true rfl)
  rw [lg_entry_eq]
  generalize (lg_sl ([.ref h0, .ref mm]) ++ List.replicate (2 - (lg_sl ([.ref h0, .ref mm])).length) Slot.unset).toArray = ls at hl ⊢
  have hl : lv_has ls 2 (lv_args 0 [.ref h0, .ref mm]) := hl
  refine lv_aload_n S.1 S.2.1 dX0_init_0 rfl (lv_at hl 0 rfl) ?_
  refine W.objInit S.1 S.2.1 S.2.2.2.1 (hts _ (tw_in ml_RX0_3 rfl)) (hts _ (tw_in im_objectInit rfl)) (hts _ (tw_in co_objectInit rfl)) rfl (by rw [hml]; exact hl.1) rfl dX0_init_1 (Nat.le_of_ble_eq_true rfl) (Nat.le_of_ble_eq_true rfl) ?_
  refine W.eq (g2 := F0 m 4 ls []) rfl ?_
  refine tn_arr (N := 30) (C := RX0) (T := TX0) (NF := 13) 1 rfl (fun _ _ => tn_rZ) rfl tn_cZ tn_aZ (Nat.le_of_ble_eq_true rfl) S hin hK hP hD hS hA hl rfl rfl rfl tw_v0 tyX0 tyX0_ok nmX0 1 (by decide) fl_RX0_9 rfl rfl rfl (by decide +kernel) (Nat.le_of_ble_eq_true rfl) (by decide) (by decide) ⟨Nat.le_of_ble_eq_true rfl, Nat.le_of_ble_eq_true rfl⟩ dX0_init_4 dX0_init_5 dX0_init_7 dX0_init_9 (fun q0 H locs hP hD hS => ?_)
  have hP : va_P D vwCl [tn_o h0 0 [.null, .ref q0, .null, .null, .null, .null, .null, .null, .null, .null, .null, .null, .int 0], tn_e q0 cZ 30] H := hP
  have hD : va_D A [tn_o h0 0 [.null, .ref q0, .null, .null, .null, .null, .null, .null, .null, .null, .null, .null, .int 0], tn_e q0 cZ 30] := hD
  refine tn_arr (N := 30) (C := RX0) (T := TX0) (NF := 13) 0 rfl (fun _ _ => tn_rI) rfl tn_cI tn_aI (Nat.le_of_ble_eq_true rfl) S hin hK hP hD hS hA hl rfl rfl rfl tw_v0 tyX0 tyX0_ok nmX0 2 (by decide) fl_RX0_15 rfl rfl rfl (by decide +kernel) (Nat.le_of_ble_eq_true rfl) (by decide) (by decide) ⟨Nat.le_of_ble_eq_true rfl, Nat.le_of_ble_eq_true rfl⟩ dX0_init_12 dX0_init_13 dX0_init_15 dX0_init_17 (fun q1 H locs hP hD hS => ?_)
  have hP : va_P D vwCl [tn_o h0 0 [.null, .ref q0, .ref q1, .null, .null, .null, .null, .null, .null, .null, .null, .null, .int 0], tn_e q0 cZ 30, tn_e q1 cI 30] H := hP
  have hD : va_D A [tn_o h0 0 [.null, .ref q0, .ref q1, .null, .null, .null, .null, .null, .null, .null, .null, .null, .int 0], tn_e q0 cZ 30, tn_e q1 cI 30] := hD
  refine tn_arr (N := 30) (C := RX0) (T := TX0) (NF := 13) 0 rfl (fun _ _ => tn_rI) rfl tn_cI tn_aI (Nat.le_of_ble_eq_true rfl) S hin hK hP hD hS hA hl rfl rfl rfl tw_v0 tyX0 tyX0_ok nmX0 3 (by decide) fl_RX0_19 rfl rfl rfl (by decide +kernel) (Nat.le_of_ble_eq_true rfl) (by decide) (by decide) ⟨Nat.le_of_ble_eq_true rfl, Nat.le_of_ble_eq_true rfl⟩ dX0_init_20 dX0_init_21 dX0_init_23 dX0_init_25 (fun q2 H locs hP hD hS => ?_)
  have hP : va_P D vwCl [tn_o h0 0 [.null, .ref q0, .ref q1, .ref q2, .null, .null, .null, .null, .null, .null, .null, .null, .int 0], tn_e q0 cZ 30, tn_e q1 cI 30, tn_e q2 cI 30] H := hP
  have hD : va_D A [tn_o h0 0 [.null, .ref q0, .ref q1, .ref q2, .null, .null, .null, .null, .null, .null, .null, .null, .int 0], tn_e q0 cZ 30, tn_e q1 cI 30, tn_e q2 cI 30] := hD
  refine tn_arr (N := 30) (C := RX0) (T := TX0) (NF := 13) 1 rfl (fun _ _ => tn_rZ) rfl tn_cZ tn_aZ (Nat.le_of_ble_eq_true rfl) S hin hK hP hD hS hA hl rfl rfl rfl tw_v0 tyX0 tyX0_ok nmX0 4 (by decide) fl_RX0_22 rfl rfl rfl (by decide +kernel) (Nat.le_of_ble_eq_true rfl) (by decide) (by decide) ⟨Nat.le_of_ble_eq_true rfl, Nat.le_of_ble_eq_true rfl⟩ dX0_init_28 dX0_init_29 dX0_init_31 dX0_init_33 (fun q3 H locs hP hD hS => ?_)
  have hP : va_P D vwCl [tn_o h0 0 [.null, .ref q0, .ref q1, .ref q2, .ref q3, .null, .null, .null, .null, .null, .null, .null, .int 0], tn_e q0 cZ 30, tn_e q1 cI 30, tn_e q2 cI 30, tn_e q3 cZ 30] H := hP
  have hD : va_D A [tn_o h0 0 [.null, .ref q0, .ref q1, .ref q2, .ref q3, .null, .null, .null, .null, .null, .null, .null, .int 0], tn_e q0 cZ 30, tn_e q1 cI 30, tn_e q2 cI 30, tn_e q3 cZ 30] := hD
  refine tn_arr (N := 30) (C := RX0) (T := TX0) (NF := 13) 0 rfl (fun _ _ => tn_rI) rfl tn_cI tn_aI (Nat.le_of_ble_eq_true rfl) S hin hK hP hD hS hA hl rfl rfl rfl tw_v0 tyX0 tyX0_ok nmX0 5 (by decide) fl_RX0_25 rfl rfl rfl (by decide +kernel) (Nat.le_of_ble_eq_true rfl) (by decide) (by decide) ⟨Nat.le_of_ble_eq_true rfl, Nat.le_of_ble_eq_true rfl⟩ dX0_init_36 dX0_init_37 dX0_init_39 dX0_init_41 (fun q4 H locs hP hD hS => ?_)
  have hP : va_P D vwCl [tn_o h0 0 [.null, .ref q0, .ref q1, .ref q2, .ref q3, .ref q4, .null, .null, .null, .null, .null, .null, .int 0], tn_e q0 cZ 30, tn_e q1 cI 30, tn_e q2 cI 30, tn_e q3 cZ 30, tn_e q4 cI 30] H := hP
  have hD : va_D A [tn_o h0 0 [.null, .ref q0, .ref q1, .ref q2, .ref q3, .ref q4, .null, .null, .null, .null, .null, .null, .int 0], tn_e q0 cZ 30, tn_e q1 cI 30, tn_e q2 cI 30, tn_e q3 cZ 30, tn_e q4 cI 30] := hD
  refine tn_arr (N := 30) (C := RX0) (T := TX0) (NF := 13) 0 rfl (fun _ _ => tn_rI) rfl tn_cI tn_aI (Nat.le_of_ble_eq_true rfl) S hin hK hP hD hS hA hl rfl rfl rfl tw_v0 tyX0 tyX0_ok nmX0 6 (by decide) fl_RX0_28 rfl rfl rfl (by decide +kernel) (Nat.le_of_ble_eq_true rfl) (by decide) (by decide) ⟨Nat.le_of_ble_eq_true rfl, Nat.le_of_ble_eq_true rfl⟩ dX0_init_44 dX0_init_45 dX0_init_47 dX0_init_49 (fun q5 H locs hP hD hS => ?_)
  have hP : va_P D vwCl [tn_o h0 0 [.null, .ref q0, .ref q1, .ref q2, .ref q3, .ref q4, .ref q5, .null, .null, .null, .null, .null, .int 0], tn_e q0 cZ 30, tn_e q1 cI 30, tn_e q2 cI 30, tn_e q3 cZ 30, tn_e q4 cI 30, tn_e q5 cI 30] H := hP
  have hD : va_D A [tn_o h0 0 [.null, .ref q0, .ref q1, .ref q2, .ref q3, .ref q4, .ref q5, .null, .null, .null, .null, .null, .int 0], tn_e q0 cZ 30, tn_e q1 cI 30, tn_e q2 cI 30, tn_e q3 cZ 30, tn_e q4 cI 30, tn_e q5 cI 30] := hD
  refine tn_arr (N := 30) (C := RX0) (T := TX0) (NF := 13) 0 rfl (fun _ _ => tn_rI) rfl tn_cI tn_aI (Nat.le_of_ble_eq_true rfl) S hin hK hP hD hS hA hl rfl rfl rfl tw_v0 tyX0 tyX0_ok nmX0 7 (by decide) fl_RX0_31 rfl rfl rfl (by decide +kernel) (Nat.le_of_ble_eq_true rfl) (by decide) (by decide) ⟨Nat.le_of_ble_eq_true rfl, Nat.le_of_ble_eq_true rfl⟩ dX0_init_52 dX0_init_53 dX0_init_55 dX0_init_57 (fun q6 H locs hP hD hS => ?_)
  have hP : va_P D vwCl [tn_o h0 0 [.null, .ref q0, .ref q1, .ref q2, .ref q3, .ref q4, .ref q5, .ref q6, .null, .null, .null, .null, .int 0], tn_e q0 cZ 30, tn_e q1 cI 30, tn_e q2 cI 30, tn_e q3 cZ 30, tn_e q4 cI 30, tn_e q5 cI 30, tn_e q6 cI 30] H := hP
  have hD : va_D A [tn_o h0 0 [.null, .ref q0, .ref q1, .ref q2, .ref q3, .ref q4, .ref q5, .ref q6, .null, .null, .null, .null, .int 0], tn_e q0 cZ 30, tn_e q1 cI 30, tn_e q2 cI 30, tn_e q3 cZ 30, tn_e q4 cI 30, tn_e q5 cI 30, tn_e q6 cI 30] := hD
  refine tn_arr (N := 30) (C := RX0) (T := TX0) (NF := 13) 0 rfl (fun _ _ => tn_rI) rfl tn_cI tn_aI (Nat.le_of_ble_eq_true rfl) S hin hK hP hD hS hA hl rfl rfl rfl tw_v0 tyX0 tyX0_ok nmX0 8 (by decide) fl_RX0_34 rfl rfl rfl (by decide +kernel) (Nat.le_of_ble_eq_true rfl) (by decide) (by decide) ⟨Nat.le_of_ble_eq_true rfl, Nat.le_of_ble_eq_true rfl⟩ dX0_init_60 dX0_init_61 dX0_init_63 dX0_init_65 (fun q7 H locs hP hD hS => ?_)
  have hP : va_P D vwCl [tn_o h0 0 [.null, .ref q0, .ref q1, .ref q2, .ref q3, .ref q4, .ref q5, .ref q6, .ref q7, .null, .null, .null, .int 0], tn_e q0 cZ 30, tn_e q1 cI 30, tn_e q2 cI 30, tn_e q3 cZ 30, tn_e q4 cI 30, tn_e q5 cI 30, tn_e q6 cI 30, tn_e q7 cI 30] H := hP
  have hD : va_D A [tn_o h0 0 [.null, .ref q0, .ref q1, .ref q2, .ref q3, .ref q4, .ref q5, .ref q6, .ref q7, .null, .null, .null, .int 0], tn_e q0 cZ 30, tn_e q1 cI 30, tn_e q2 cI 30, tn_e q3 cZ 30, tn_e q4 cI 30, tn_e q5 cI 30, tn_e q6 cI 30, tn_e q7 cI 30] := hD
  refine tn_arr (N := 30) (C := RX0) (T := TX0) (NF := 13) 0 rfl (fun _ _ => tn_rI) rfl tn_cI tn_aI (Nat.le_of_ble_eq_true rfl) S hin hK hP hD hS hA hl rfl rfl rfl tw_v0 tyX0 tyX0_ok nmX0 9 (by decide) fl_RX0_37 rfl rfl rfl (by decide +kernel) (Nat.le_of_ble_eq_true rfl) (by decide) (by decide) ⟨Nat.le_of_ble_eq_true rfl, Nat.le_of_ble_eq_true rfl⟩ dX0_init_68 dX0_init_69 dX0_init_71 dX0_init_73 (fun q8 H locs hP hD hS => ?_)
  have hP : va_P D vwCl [tn_o h0 0 [.null, .ref q0, .ref q1, .ref q2, .ref q3, .ref q4, .ref q5, .ref q6, .ref q7, .ref q8, .null, .null, .int 0], tn_e q0 cZ 30, tn_e q1 cI 30, tn_e q2 cI 30, tn_e q3 cZ 30, tn_e q4 cI 30, tn_e q5 cI 30, tn_e q6 cI 30, tn_e q7 cI 30, tn_e q8 cI 30] H := hP
  have hD : va_D A [tn_o h0 0 [.null, .ref q0, .ref q1, .ref q2, .ref q3, .ref q4, .ref q5, .ref q6, .ref q7, .ref q8, .null, .null, .int 0], tn_e q0 cZ 30, tn_e q1 cI 30, tn_e q2 cI 30, tn_e q3 cZ 30, tn_e q4 cI 30, tn_e q5 cI 30, tn_e q6 cI 30, tn_e q7 cI 30, tn_e q8 cI 30] := hD
  refine tn_arr (N := 30) (C := RX0) (T := TX0) (NF := 13) 0 rfl (fun _ _ => tn_rI) rfl tn_cI tn_aI (Nat.le_of_ble_eq_true rfl) S hin hK hP hD hS hA hl rfl rfl rfl tw_v0 tyX0 tyX0_ok nmX0 10 (by decide) fl_RX0_40 rfl rfl rfl (by decide +kernel) (Nat.le_of_ble_eq_true rfl) (by decide) (by decide) ⟨Nat.le_of_ble_eq_true rfl, Nat.le_of_ble_eq_true rfl⟩ dX0_init_76 dX0_init_77 dX0_init_79 dX0_init_81 (fun q9 H locs hP hD hS => ?_)
  have hP : va_P D vwCl [tn_o h0 0 [.null, .ref q0, .ref q1, .ref q2, .ref q3, .ref q4, .ref q5, .ref q6, .ref q7, .ref q8, .ref q9, .null, .int 0], tn_e q0 cZ 30, tn_e q1 cI 30, tn_e q2 cI 30, tn_e q3 cZ 30, tn_e q4 cI 30, tn_e q5 cI 30, tn_e q6 cI 30, tn_e q7 cI 30, tn_e q8 cI 30, tn_e q9 cI 30] H := hP
  have hD : va_D A [tn_o h0 0 [.null, .ref q0, .ref q1, .ref q2, .ref q3, .ref q4, .ref q5, .ref q6, .ref q7, .ref q8, .ref q9, .null, .int 0], tn_e q0 cZ 30, tn_e q1 cI 30, tn_e q2 cI 30, tn_e q3 cZ 30, tn_e q4 cI 30, tn_e q5 cI 30, tn_e q6 cI 30, tn_e q7 cI 30, tn_e q8 cI 30, tn_e q9 cI 30] := hD
  refine tn_arr (N := 30) (C := RX0) (T := TX0) (NF := 13) 0 rfl (fun _ _ => tn_rI) rfl tn_cI tn_aI (Nat.le_of_ble_eq_true rfl) S hin hK hP hD hS hA hl rfl rfl rfl tw_v0 tyX0 tyX0_ok nmX0 11 (by decide) fl_RX0_43 rfl rfl rfl (by decide +kernel) (Nat.le_of_ble_eq_true rfl) (by decide) (by decide) ⟨Nat.le_of_ble_eq_true rfl, Nat.le_of_ble_eq_true rfl⟩ dX0_init_84 dX0_init_85 dX0_init_87 dX0_init_89 (fun q10 H locs hP hD hS => ?_)
  have hP : va_P D vwCl [tn_o h0 0 [.null, .ref q0, .ref q1, .ref q2, .ref q3, .ref q4, .ref q5, .ref q6, .ref q7, .ref q8, .ref q9, .ref q10, .int 0], tn_e q0 cZ 30, tn_e q1 cI 30, tn_e q2 cI 30, tn_e q3 cZ 30, tn_e q4 cI 30, tn_e q5 cI 30, tn_e q6 cI 30, tn_e q7 cI 30, tn_e q8 cI 30, tn_e q9 cI 30, tn_e q10 cI 30] H := hP
  have hD : va_D A [tn_o h0 0 [.null, .ref q0, .ref q1, .ref q2, .ref q3, .ref q4, .ref q5, .ref q6, .ref q7, .ref q8, .ref q9, .ref q10, .int 0], tn_e q0 cZ 30, tn_e q1 cI 30, tn_e q2 cI 30, tn_e q3 cZ 30, tn_e q4 cI 30, tn_e q5 cI 30, tn_e q6 cI 30, tn_e q7 cI 30, tn_e q8 cI 30, tn_e q9 cI 30, tn_e q10 cI 30] := hD
  refine lv_aload_n S.1 S.2.1 dX0_init_92 rfl (lv_at hl 0 rfl) ?_
  refine lv_aload_n S.1 S.2.1 dX0_init_93 rfl (lv_at hl 1 rfl) ?_
  refine va_putF (ref := RX0) (C := RX0) (T := TX0) (N := 13) (v := .ref mm) (ty := .object "Threadline$Mail") S.1 S.2.1 S.2.2.2.2 tw_v0 tyX0 tyX0_ok nmX0 S.2.2.2.1 hK hP hD hS 0 rfl rfl 0 (by decide) (hts _ (tw_in fl_RX0_46 rfl)) (fun _ h9 => h9) rfl hin rfl (by decide +kernel) rfl rfl (Nat.le_of_ble_eq_true rfl) dX0_init_94 (fun H locs hP hD hS => ?_)
  have hP : va_P D vwCl [tn_o h0 0 [.ref mm, .ref q0, .ref q1, .ref q2, .ref q3, .ref q4, .ref q5, .ref q6, .ref q7, .ref q8, .ref q9, .ref q10, .int 0], tn_e q0 cZ 30, tn_e q1 cI 30, tn_e q2 cI 30, tn_e q3 cZ 30, tn_e q4 cI 30, tn_e q5 cI 30, tn_e q6 cI 30, tn_e q7 cI 30, tn_e q8 cI 30, tn_e q9 cI 30, tn_e q10 cI 30] H := hP
  have hD : va_D A [tn_o h0 0 [.ref mm, .ref q0, .ref q1, .ref q2, .ref q3, .ref q4, .ref q5, .ref q6, .ref q7, .ref q8, .ref q9, .ref q10, .int 0], tn_e q0 cZ 30, tn_e q1 cI 30, tn_e q2 cI 30, tn_e q3 cZ 30, tn_e q4 cI 30, tn_e q5 cI 30, tn_e q6 cI 30, tn_e q7 cI 30, tn_e q8 cI 30, tn_e q9 cI 30, tn_e q10 cI 30] := hD
  exact W.vret S.1 S.2.1 hr (fun t ht hW => ⟨⟨(fun j => match j with | 0 => q0 | 1 => q1 | 2 => q2 | 3 => q3 | 4 => q4 | 5 => q5 | 6 => q6 | 7 => q7 | 8 => q8 | 9 => q9 | _ => q10), rfl, trivial, by rw [ht]; exact hP, hD⟩, hS.F ht⟩) hS.2.2 dX0_init_97 hlocks
