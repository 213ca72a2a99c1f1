/-! ===== constructors: the class ===== -/
theorem tn_Dmap {A : Nat → Prop} {ws ws' : va_W} (h : va_D A ws) (e : ws.map Prod.fst = ws'.map Prod.fst) : va_D A ws' := by
  have key : ∀ (i : Nat) (p : Nat × va_E), ws'[i]? = some p → ∃ p0 : Nat × va_E, ws[i]? = some p0 ∧ p0.1 = p.1 := by
    intro i p hp
    have h1 : (ws'.map Prod.fst)[i]? = some p.1 := by rw [List.getElem?_map, hp]; rfl
    rw [← e, List.getElem?_map] at h1
    cases h2 : ws[i]? with
    | none => rw [h2] at h1; cases h1
    | some p0 =>
      rw [h2] at h1
      exact ⟨p0, rfl, Option.some.inj h1⟩
  refine ⟨fun i j p q hp hq hpq => ?_, fun k q hk => ?_⟩
  · obtain ⟨p0, a1, a2⟩ := key i p hp
    obtain ⟨q0, b1, b2⟩ := key j q hq
    exact h.1 i j p0 q0 a1 b1 (by rw [a2, b2]; exact hpq)
  · obtain ⟨p0, a1, a2⟩ := key k q hk
    rw [← a2]
    exact h.2 k p0 a1
set_option maxRecDepth 100000 in
theorem tn_c7 : Cond.classLink RX2 7 RX1 ∈ lw_tbl := by decide +kernel
set_option maxRecDepth 100000 in
theorem tn_c16 : Cond.classLink RX2 16 RX0 ∈ lw_tbl := by decide +kernel
set_option maxRecDepth 100000 in
theorem tn_i1 : Cond.instantiable RX1 9 ∈ lw_tbl := by decide +kernel
set_option maxRecDepth 100000 in
theorem tn_i0 : Cond.instantiable RX0 13 ∈ lw_tbl := by decide +kernel
set_option maxHeartbeats 4000000 in
set_option maxRecDepth 100000 in
theorem k_X2_init (l : Launch) (D : va_G) (cI cZ : ClassId) (h0 sz : Nat) : Met l yX2_init wzX2_init ({ frames := 3, cells := 22, slots := 622, locals := 112 }) (va_Pc [.ref h0] (fun U => U.heap.size = sz ∧ va_P D vwCl [tn_o h0 2 [.null, .null]] U.heap ∧ va_K D vwCl (tw_ty cI cZ) U ∧ tg_NU tw_nl U ∧ va_D (fun _ => True) [tn_o h0 2 [.null, .null]])) (va_Qv (fun h : Nat → Nat => h 0 = h0) (fun h t => va_P D vwCl (tw_T h cI cZ (fun _ _ => 0)) t.heap ∧ va_D (va_A [tn_o h0 2 [.null, .null]] sz) (tw_T h cI cZ (fun _ _ => 0))) (va_A [tn_o h0 2 [.null, .null]] sz)) 22 622 (va_A [tn_o h0 2 [.null, .null]] sz) := by
  refine Met.ofW (cc := cX2_init) (maxL := 1) (ret := none) (by decide +kernel) rfl ?_
  intro p e s m args below meth c s₁ B hml hv
  obtain ⟨rfl, hsz, hP, hK, hN, hD0⟩ := hv
  have hts := atoms_spec (ws := wzX2_init) B.pre
  have S : CallFix p m c cX2_init 1 s ([.ref h0] : List Value).toArray wzX2_init RX2 := ⟨B.exec, B.bytes, hml, findClass_of_methodNamed B.named, hts⟩
  have hr := B.returns
  have hlocks := B.notSynchronized
  have hin : meth.name = "<init>" := (name_of_methodNamed B.named B.method).1
  subst hsz
  have hD := hD0.self (sz := s.heap.size)
  generalize hAe : va_A [tn_o h0 2 [.null, .null]] s.heap.size = A at hD ⊢
  have hA : ∀ q : Nat, s.heap.size ≤ q → A q := fun q h => by rw [← hAe]; exact Or.inr h
  have hS : va_S A s.heap s.heap [] := va_S.rf
  have hP : va_P D vwCl [tn_o h0 2 [.null, .null]] s.heap := hP
  have hl := lv_entry ([.ref h0]) (n := 1) (Nat.le_of_ble_eq_true rfl)
  rw [lg_entry_eq]
  generalize (lg_sl ([.ref h0]) ++ List.replicate (1 - (lg_sl ([.ref h0])).length) Slot.unset).toArray = ls at hl ⊢
  have hl : lv_has ls 1 [(0, .ref h0)] := hl
  refine lv_aload_n S.1 S.2.1 dX2_init_0 rfl (lv_at hl 0 rfl) ?_
  refine W.objInit S.1 S.2.1 S.2.2.2.1 (hts _ (tw_in ml_RX2_1 rfl)) (hts _ (tw_in im_objectInit rfl)) (hts _ (tw_in co_objectInit rfl)) rfl (by rw [hml]; exact hl.1) rfl dX2_init_1 (Nat.le_of_ble_eq_true rfl) (Nat.le_of_ble_eq_true rfl) ?_
  refine W.eq (g2 := F0 m 4 ls []) rfl ?_
  refine lv_aload_n S.1 S.2.1 dX2_init_4 rfl (lv_at hl 0 rfl) ?_
  refine va_new (ci := 1) (fs := [.null, .null, .null, .null, .null, .null, .null, .null, .null]) (C := RX1) (T := TX1) (N := 9) S.1 S.2.1 hts tw_v1 tyX1 tyX1_ok S.2.2.2.1 (hts _ (tw_in tn_c7 rfl)) (hts _ (tw_in tn_i1 rfl)) (hts _ (tw_in in_RX1 rfl)) hK hP hD hS hA rfl (fun j hj => by rcases (show j = 0 ∨ j = 1 ∨ j = 2 ∨ j = 3 ∨ j = 4 ∨ j = 5 ∨ j = 6 ∨ j = 7 ∨ j = 8 by omega) with rfl | rfl | rfl | rfl | rfl | rfl | rfl | rfl | rfl <;> rfl) (Nat.le_of_ble_eq_true rfl) (Nat.le_of_ble_eq_true rfl) dX2_init_5 (fun q5 H hP hD hS => ?_)
  have hP : va_P D vwCl [tn_o h0 2 [.null, .null], tn_o q5 1 [.null, .null, .null, .null, .null, .null, .null, .null, .null]] H := hP
  have hD : va_D A [tn_o h0 2 [.null, .null], tn_o q5 1 [.null, .null, .null, .null, .null, .null, .null, .null, .null]] := hD
  refine lv_dup S.1 S.2.1 dX2_init_8 rfl ?_
  have hPc := hP.sub (ws' := [tn_o q5 1 [.null, .null, .null, .null, .null, .null, .null, .null, .null]]) [1] rfl
  have hDc := hD.sub (ws' := [tn_o q5 1 [.null, .null, .null, .null, .null, .null, .null, .null, .null]]) [1] (by decide) rfl
  have hFc := va_free (wc := [tn_o q5 1 [.null, .null, .null, .null, .null, .null, .null, .null, .null]]) hD hS hA [1] rfl
  refine va_callv (va_runIN (host := RX2) (As := []) (rest := [.ref q5, .ref h0]) S (k_X1_init l D cI cZ q5 H.size) ⟨va_cnB 0 hts (tw_gW co_X1_init rfl) rfl rfl rfl (hN _ (List.mem_of_getElem? (i := 0) rfl)) (hts _ (tw_in in_RX1 rfl)) (by decide +kernel) ⟨Nat.le_of_ble_eq_true rfl, Nat.le_of_ble_eq_true rfl⟩, rfl, hts _ (tw_in im_X1_init rfl)⟩ ⟨fun a U g mk q => by obtain ⟨b0, b1, bP, bK, bD⟩ := q; exact ⟨b0, b1, bP, va_K.moved (u := U) (U := U.calling g mk a) (Vm.Alike.refl U.vm) bK, bD⟩, fun U hU hW => ⟨rfl, by rw [hU], by rw [hU]; exact hPc, va_K.moved hW.alike hK, hDc.weaken (fun _ _ _ _ => trivial)⟩⟩ rfl rfl hl.1 rfl (lv_room (Nat.le_of_ble_eq_true rfl)) dX2_init_9 ⟨Nat.le_of_ble_eq_true rfl, Nat.le_of_ble_eq_true rfl⟩) hS (fun q _ h => hFc q h) hFc (fun u t H1 locs ht hvm h5 hB hz1 hk1 hS => ?_)
  obtain ⟨hP1, hD1⟩ := hB
  rw [ht] at hP1
  obtain ⟨hP, hD⟩ := va_join (wr := [tn_o h0 2 [.null, .null]]) (w1 := tn_w1 q5 cI cZ u) hP hD [1] [0] rfl rfl (by decide) (by decide) hk1 hFc hP1 hD1
  generalize H1 = H at hP hS ⊢
  refine va_putF (ref := RX2) (C := RX2) (T := TX2) (N := 2) (v := .ref q5) (ty := .object "Threadline$Mail") S.1 S.2.1 hts tw_v2 tyX2 tyX2_ok nmX2 S.2.2.2.1 hK hP hD hS 0 rfl rfl 0 (by decide) (hts _ (tw_in fl_RX2_10 rfl)) (fun _ h9 => h9) rfl hin rfl (by decide +kernel) rfl rfl (Nat.le_of_ble_eq_true rfl) dX2_init_12 (fun H locs hP hD hS => ?_)
  have hP : va_P D vwCl (tn_o h0 2 [.ref q5, .null] :: tn_w1 q5 cI cZ u) H := hP
  have hD : va_D A (tn_o h0 2 [.ref q5, .null] :: tn_w1 q5 cI cZ u) := hD
  refine lv_aload_n S.1 S.2.1 dX2_init_15 rfl (lv_at hl 0 rfl) ?_
  refine va_new (ci := 0) (fs := [.null, .null, .null, .null, .null, .null, .null, .null, .null, .null, .null, .null, .int 0]) (C := RX0) (T := TX0) (N := 13) S.1 S.2.1 hts tw_v0 tyX0 tyX0_ok S.2.2.2.1 (hts _ (tw_in tn_c16 rfl)) (hts _ (tw_in tn_i0 rfl)) (hts _ (tw_in in_RX0 rfl)) hK hP hD hS hA rfl (fun j hj => by rcases (show j = 0 ∨ j = 1 ∨ j = 2 ∨ j = 3 ∨ j = 4 ∨ j = 5 ∨ j = 6 ∨ j = 7 ∨ j = 8 ∨ j = 9 ∨ j = 10 ∨ j = 11 ∨ j = 12 by omega) with rfl | rfl | rfl | rfl | rfl | rfl | rfl | rfl | rfl | rfl | rfl | rfl | rfl <;> rfl) (Nat.le_of_ble_eq_true rfl) (Nat.le_of_ble_eq_true rfl) dX2_init_16 (fun q16 H hP hD hS => ?_)
  refine lv_dup S.1 S.2.1 dX2_init_19 rfl ?_
  refine lv_aload_n S.1 S.2.1 dX2_init_20 rfl (lv_at hl 0 rfl) ?_
  refine va_get (D := D) (ci := 2) (v := .ref q5) (C := RX2) (T := TX2) (N := 2) S.1 S.2.1 hts tw_v2 S.2.2.2.1 hK hP 0 rfl rfl 0 (by decide) (hts _ (tw_in fl_RX2_10 rfl)) (fun _ h9 => h9) rfl dX2_init_21 ?_
  have hPc := hP.sub (ws' := [tn_o q16 0 [.null, .null, .null, .null, .null, .null, .null, .null, .null, .null, .null, .null, .int 0]]) [11] rfl
  have hDc := hD.sub (ws' := [tn_o q16 0 [.null, .null, .null, .null, .null, .null, .null, .null, .null, .null, .null, .null, .int 0]]) [11] (by decide) rfl
  have hFc := va_free (wc := [tn_o q16 0 [.null, .null, .null, .null, .null, .null, .null, .null, .null, .null, .null, .null, .int 0]]) hD hS hA [11] rfl
  refine va_callv (va_runIN (host := RX2) (As := [.ref q5]) (rest := [.ref q16, .ref h0]) S (k_X0_init l D cI cZ q16 q5 H.size) ⟨va_cnB 1 hts (tw_gW co_X0_init rfl) rfl rfl rfl (hN _ (List.mem_of_getElem? (i := 1) rfl)) (hts _ (tw_in in_RX0 rfl)) (by decide +kernel) ⟨Nat.le_of_ble_eq_true rfl, Nat.le_of_ble_eq_true rfl⟩, rfl, hts _ (tw_in im_X0_init rfl)⟩ ⟨fun a U g mk q => by obtain ⟨b0, b1, bP, bK, bD⟩ := q; exact ⟨b0, b1, bP, va_K.moved (u := U) (U := U.calling g mk a) (Vm.Alike.refl U.vm) bK, bD⟩, fun U hU hW => ⟨rfl, by rw [hU], by rw [hU]; exact hPc, va_K.moved hW.alike hK, hDc.weaken (fun _ _ _ _ => trivial)⟩⟩ rfl rfl hl.1 rfl (lv_room (Nat.le_of_ble_eq_true rfl)) dX2_init_24 ⟨Nat.le_of_ble_eq_true rfl, Nat.le_of_ble_eq_true rfl⟩) hS (fun q _ h => hFc q h) hFc (fun u2 t H1 locs ht hvm h5 hB hz1 hk1 hS => ?_)
  obtain ⟨hP1, hD1⟩ := hB
  rw [ht] at hP1
  obtain ⟨hP, hD⟩ := va_join (wr := tn_o h0 2 [.ref q5, .null] :: tn_w1 q5 cI cZ u) (w1 := tn_w0 q16 q5 cI cZ u2) hP hD [11] [0, 1, 2, 3, 4, 5, 6, 7, 8, 9, 10] rfl rfl (by decide) (by decide) hk1 hFc hP1 hD1
  generalize H1 = H at hP hS ⊢
  refine va_putF (ref := RX2) (C := RX2) (T := TX2) (N := 2) (v := .ref q16) (ty := .object "Threadline$Forest") S.1 S.2.1 hts tw_v2 tyX2 tyX2_ok nmX2 S.2.2.2.1 hK hP hD hS 0 rfl rfl 1 (by decide) (hts _ (tw_in fl_RX2_21 rfl)) (fun _ h9 => h9) rfl hin rfl (by decide +kernel) rfl rfl (Nat.le_of_ble_eq_true rfl) dX2_init_27 (fun H locs hP hD hS => ?_)
  have hP : va_P D vwCl ((tn_o h0 2 [.ref q5, .ref q16] :: tn_w1 q5 cI cZ u) ++ tn_w0 q16 q5 cI cZ u2) H := hP
  have hD : va_D A ((tn_o h0 2 [.ref q5, .ref q16] :: tn_w1 q5 cI cZ u) ++ tn_w0 q16 q5 cI cZ u2) := hD
  obtain ⟨h, hh⟩ : ∃ h : Nat → Nat, h = (fun j => match j with | 0 => h0 | 1 => q5 | 2 => q16 | 3 => u 0 | 4 => u 1 | 5 => u 2 | 6 => u 3 | 7 => u 4 | 8 => u 5 | 9 => u 6 | 10 => u 7 | 11 => u 8 | 12 => u2 0 | 13 => u2 1 | 14 => u2 2 | 15 => u2 3 | 16 => u2 4 | 17 => u2 5 | 18 => u2 6 | 19 => u2 7 | 20 => u2 8 | 21 => u2 9 | _ => u2 10) := ⟨_, rfl⟩
  have hP9 := hP.sub (ws' := tw_T h cI cZ (fun _ _ => 0)) [0, 1, 11, 2, 3, 4, 5, 6, 7, 8, 9, 10, 12, 13, 14, 15, 16, 17, 18, 19, 20, 21, 22] (by rw [hh]; rfl)
  have hD9 := hD.sub (ws' := tw_T h cI cZ (fun _ _ => 0)) [0, 1, 11, 2, 3, 4, 5, 6, 7, 8, 9, 10, 12, 13, 14, 15, 16, 17, 18, 19, 20, 21, 22] (by decide) (by rw [hh]; rfl)
  have e0 : h 0 = h0 := by subst hh; rfl
  exact W.vret S.1 S.2.1 hr (fun t ht hW => ⟨⟨h, rfl, e0, by rw [ht]; exact hP9, hD9⟩, hS.F ht⟩) hS.2.2 dX2_init_30 hlocks

