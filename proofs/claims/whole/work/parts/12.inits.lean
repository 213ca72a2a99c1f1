/-! ===== constructors: the model, the class ===== -/
theorem tn_Dmap {A : Nat → Prop} {ws ws' : va_W} (h : va_D A ws) (e : ws.map Prod.fst = ws'.map Prod.fst) : va_D A ws' := by
  have key : ∀ (i : Nat) (p : Nat × va_E), ws'[i]? = some p → ∃ p0 : Nat × va_E, ws[i]? = some p0 ∧ p0.1 = p.1 := by
    intro i p hp
    have h1 : (ws'.map Prod.fst)[i]? = some p.1 := by rw [List.getElem?_map, hp]; rfl
    rw [← e, List.getElem?_map] at h1
    cases h2 : ws[i]? with
    | none => rw [h2] at h1; cases h1
    | some p0 =>
      rw [h2] at h1
      exact ⟨p0, rfl, Option.some.inj h1⟩
  refine ⟨fun i j p q hp hq hpq => ?_, fun k q hk => ?_⟩
  · obtain ⟨p0, a1, a2⟩ := key i p hp
    obtain ⟨q0, b1, b2⟩ := key j q hq
    exact h.1 i j p0 q0 a1 b1 (by rw [a2, b2]; exact hpq)
  · obtain ⟨p0, a1, a2⟩ := key k q hk
    rw [← a2]
    exact h.2 k p0 a1
def tn_M0 : tg_Mem := tg_upA (fun _ _ => 0) 7 (tg_it (fun i f => upd f i (-1)) (fun _ => 0) 30)

set_option maxHeartbeats 4000000 in
set_option maxRecDepth 100000 in
theorem k_X3_init (l : Launch) (D : va_G) (cI cZ : ClassId) (h0 sz : Nat) : Met l yX3_init wzX3_init ({ frames := 2, cells := 14, slots := 450, locals := 56 }) (va_Pc [.ref h0] (fun U => U.heap.size = sz ∧ va_P D vwCl [tn_o h0 3 [.null, .null, .null, .null, .null, .null, .null, .null, .null, .null, .null, .null, .null, .int 0, .null, .int 0]] U.heap ∧ va_K D vwCl (tw_ty cI cZ) U ∧ va_D (fun _ => True) [tn_o h0 3 [.null, .null, .null, .null, .null, .null, .null, .null, .null, .null, .null, .null, .null, .int 0, .null, .int 0]])) (va_Qv (fun h : Nat → Nat => h 0 = h0) (fun h t => va_P D vwCl (tw_M h cI cZ tn_M0) t.heap ∧ va_D (va_A [tn_o h0 3 [.null, .null, .null, .null, .null, .null, .null, .null, .null, .null, .null, .null, .null, .int 0, .null, .int 0]] sz) (tw_M h cI cZ tn_M0)) (va_A [tn_o h0 3 [.null, .null, .null, .null, .null, .null, .null, .null, .null, .null, .null, .null, .null, .int 0, .null, .int 0]] sz)) 14 450 (va_A [tn_o h0 3 [.null, .null, .null, .null, .null, .null, .null, .null, .null, .null, .null, .null, .null, .int 0, .null, .int 0]] sz) := by
  refine Met.ofW (cc := cX3_init) (maxL := 2) (ret := none) (by decide +kernel) rfl ?_
  intro p e s m args below meth c s₁ B hml hv
  obtain ⟨rfl, hsz, hP, hK, hD0⟩ := hv
  have hts := atoms_spec (ws := wzX3_init) B.pre
  have S : CallFix p m c cX3_init 2 s ([.ref h0] : List Value).toArray wzX3_init RX3 := ⟨B.exec, B.bytes, hml, findClass_of_methodNamed B.named, hts⟩
  have hr := B.returns
  have hlocks := B.notSynchronized
  have hin : meth.name = "<init>" := (name_of_methodNamed B.named B.method).1
  subst hsz
  have hD := hD0.self (sz := s.heap.size)
  generalize hAe : va_A [tn_o h0 3 [.null, .null, .null, .null, .null, .null, .null, .null, .null, .null, .null, .null, .null, .int 0, .null, .int 0]] s.heap.size = A at hD ⊢
  have hA : ∀ q : Nat, s.heap.size ≤ q → A q := fun q h => by rw [← hAe]; exact Or.inr h
  have hS : va_S A s.heap s.heap [] := va_S.rf
  have hP : va_P D vwCl [tn_o h0 3 [.null, .null, .null, .null, .null, .null, .null, .null, .null, .null, .null, .null, .null, .int 0, .null, .int 0]] s.heap := hP
  have hl := lv_entry ([.ref h0]) (n := 2) (Nat.le_of_ble_eq_true rfl)
  rw [lg_entry_eq]
  generalize (lg_sl ([.ref h0]) ++ List.replicate (2 - (lg_sl ([.ref h0])).length) Slot.unset).toArray = ls at hl ⊢
  have hl : lv_has ls 2 (lv_args 0 [.ref h0]) := hl
  refine lv_aload_n S.1 S.2.1 dX3_init_0 rfl (lv_at hl 0 rfl) ?_
  refine W.objInit S.1 S.2.1 S.2.2.2.1 (hts _ (tw_in ml_RX3_1 rfl)) (hts _ (tw_in im_objectInit rfl)) (hts _ (tw_in co_objectInit rfl)) rfl (by rw [hml]; exact hl.1) rfl dX3_init_1 (Nat.le_of_ble_eq_true rfl) (Nat.le_of_ble_eq_true rfl) ?_
  refine W.eq (g2 := F0 m 4 ls []) rfl ?_
  refine tn_arr (N := 30) (C := RX3) (T := TX3) (NF := 16) 1 rfl (fun _ _ => tn_rZ) rfl tn_cZ tn_aZ (Nat.le_of_ble_eq_true rfl) S hin hK hP hD hS hA hl rfl rfl rfl tw_v3 tyX3 tyX3_ok nmX3 0 (by decide) fl_RX3_7 rfl rfl rfl (by decide +kernel) (Nat.le_of_ble_eq_true rfl) (by decide) (by decide) ⟨Nat.le_of_ble_eq_true rfl, Nat.le_of_ble_eq_true rfl⟩ dX3_init_4 dX3_init_5 dX3_init_7 dX3_init_9 (fun q0 H locs hP hD hS => ?_)
  have hP : va_P D vwCl [tn_o h0 3 [.ref q0, .null, .null, .null, .null, .null, .null, .null, .null, .null, .null, .null, .null, .int 0, .null, .int 0], tn_e q0 cZ 30] H := hP
  have hD : va_D A [tn_o h0 3 [.ref q0, .null, .null, .null, .null, .null, .null, .null, .null, .null, .null, .null, .null, .int 0, .null, .int 0], tn_e q0 cZ 30] := hD
  refine tn_arr (N := 30) (C := RX3) (T := TX3) (NF := 16) 0 rfl (fun _ _ => tn_rI) rfl tn_cI tn_aI (Nat.le_of_ble_eq_true rfl) S hin hK hP hD hS hA hl rfl rfl rfl tw_v3 tyX3 tyX3_ok nmX3 1 (by decide) fl_RX3_13 rfl rfl rfl (by decide +kernel) (Nat.le_of_ble_eq_true rfl) (by decide) (by decide) ⟨Nat.le_of_ble_eq_true rfl, Nat.le_of_ble_eq_true rfl⟩ dX3_init_12 dX3_init_13 dX3_init_15 dX3_init_17 (fun q1 H locs hP hD hS => ?_)
  have hP : va_P D vwCl [tn_o h0 3 [.ref q0, .ref q1, .null, .null, .null, .null, .null, .null, .null, .null, .null, .null, .null, .int 0, .null, .int 0], tn_e q0 cZ 30, tn_e q1 cI 30] H := hP
  have hD : va_D A [tn_o h0 3 [.ref q0, .ref q1, .null, .null, .null, .null, .null, .null, .null, .null, .null, .null, .null, .int 0, .null, .int 0], tn_e q0 cZ 30, tn_e q1 cI 30] := hD
  refine tn_arr (N := 30) (C := RX3) (T := TX3) (NF := 16) 0 rfl (fun _ _ => tn_rI) rfl tn_cI tn_aI (Nat.le_of_ble_eq_true rfl) S hin hK hP hD hS hA hl rfl rfl rfl tw_v3 tyX3 tyX3_ok nmX3 2 (by decide) fl_RX3_17 rfl rfl rfl (by decide +kernel) (Nat.le_of_ble_eq_true rfl) (by decide) (by decide) ⟨Nat.le_of_ble_eq_true rfl, Nat.le_of_ble_eq_true rfl⟩ dX3_init_20 dX3_init_21 dX3_init_23 dX3_init_25 (fun q2 H locs hP hD hS => ?_)
  have hP : va_P D vwCl [tn_o h0 3 [.ref q0, .ref q1, .ref q2, .null, .null, .null, .null, .null, .null, .null, .null, .null, .null, .int 0, .null, .int 0], tn_e q0 cZ 30, tn_e q1 cI 30, tn_e q2 cI 30] H := hP
  have hD : va_D A [tn_o h0 3 [.ref q0, .ref q1, .ref q2, .null, .null, .null, .null, .null, .null, .null, .null, .null, .null, .int 0, .null, .int 0], tn_e q0 cZ 30, tn_e q1 cI 30, tn_e q2 cI 30] := hD
  refine tn_arr (N := 30) (C := RX3) (T := TX3) (NF := 16) 0 rfl (fun _ _ => tn_rI) rfl tn_cI tn_aI (Nat.le_of_ble_eq_true rfl) S hin hK hP hD hS hA hl rfl rfl rfl tw_v3 tyX3 tyX3_ok nmX3 3 (by decide) fl_RX3_20 rfl rfl rfl (by decide +kernel) (Nat.le_of_ble_eq_true rfl) (by decide) (by decide) ⟨Nat.le_of_ble_eq_true rfl, Nat.le_of_ble_eq_true rfl⟩ dX3_init_28 dX3_init_29 dX3_init_31 dX3_init_33 (fun q3 H locs hP hD hS => ?_)
  have hP : va_P D vwCl [tn_o h0 3 [.ref q0, .ref q1, .ref q2, .ref q3, .null, .null, .null, .null, .null, .null, .null, .null, .null, .int 0, .null, .int 0], tn_e q0 cZ 30, tn_e q1 cI 30, tn_e q2 cI 30, tn_e q3 cI 30] H := hP
  have hD : va_D A [tn_o h0 3 [.ref q0, .ref q1, .ref q2, .ref q3, .null, .null, .null, .null, .null, .null, .null, .null, .null, .int 0, .null, .int 0], tn_e q0 cZ 30, tn_e q1 cI 30, tn_e q2 cI 30, tn_e q3 cI 30] := hD
  refine tn_arr (N := 30) (C := RX3) (T := TX3) (NF := 16) 0 rfl (fun _ _ => tn_rI) rfl tn_cI tn_aI (Nat.le_of_ble_eq_true rfl) S hin hK hP hD hS hA hl rfl rfl rfl tw_v3 tyX3 tyX3_ok nmX3 4 (by decide) fl_RX3_23 rfl rfl rfl (by decide +kernel) (Nat.le_of_ble_eq_true rfl) (by decide) (by decide) ⟨Nat.le_of_ble_eq_true rfl, Nat.le_of_ble_eq_true rfl⟩ dX3_init_36 dX3_init_37 dX3_init_39 dX3_init_41 (fun q4 H locs hP hD hS => ?_)
  have hP : va_P D vwCl [tn_o h0 3 [.ref q0, .ref q1, .ref q2, .ref q3, .ref q4, .null, .null, .null, .null, .null, .null, .null, .null, .int 0, .null, .int 0], tn_e q0 cZ 30, tn_e q1 cI 30, tn_e q2 cI 30, tn_e q3 cI 30, tn_e q4 cI 30] H := hP
  have hD : va_D A [tn_o h0 3 [.ref q0, .ref q1, .ref q2, .ref q3, .ref q4, .null, .null, .null, .null, .null, .null, .null, .null, .int 0, .null, .int 0], tn_e q0 cZ 30, tn_e q1 cI 30, tn_e q2 cI 30, tn_e q3 cI 30, tn_e q4 cI 30] := hD
  refine tn_arr (N := 30) (C := RX3) (T := TX3) (NF := 16) 0 rfl (fun _ _ => tn_rI) rfl tn_cI tn_aI (Nat.le_of_ble_eq_true rfl) S hin hK hP hD hS hA hl rfl rfl rfl tw_v3 tyX3 tyX3_ok nmX3 5 (by decide) fl_RX3_26 rfl rfl rfl (by decide +kernel) (Nat.le_of_ble_eq_true rfl) (by decide) (by decide) ⟨Nat.le_of_ble_eq_true rfl, Nat.le_of_ble_eq_true rfl⟩ dX3_init_44 dX3_init_45 dX3_init_47 dX3_init_49 (fun q5 H locs hP hD hS => ?_)
  have hP : va_P D vwCl [tn_o h0 3 [.ref q0, .ref q1, .ref q2, .ref q3, .ref q4, .ref q5, .null, .null, .null, .null, .null, .null, .null, .int 0, .null, .int 0], tn_e q0 cZ 30, tn_e q1 cI 30, tn_e q2 cI 30, tn_e q3 cI 30, tn_e q4 cI 30, tn_e q5 cI 30] H := hP
  have hD : va_D A [tn_o h0 3 [.ref q0, .ref q1, .ref q2, .ref q3, .ref q4, .ref q5, .null, .null, .null, .null, .null, .null, .null, .int 0, .null, .int 0], tn_e q0 cZ 30, tn_e q1 cI 30, tn_e q2 cI 30, tn_e q3 cI 30, tn_e q4 cI 30, tn_e q5 cI 30] := hD
  refine tn_arr (N := 30) (C := RX3) (T := TX3) (NF := 16) 1 rfl (fun _ _ => tn_rZ) rfl tn_cZ tn_aZ (Nat.le_of_ble_eq_true rfl) S hin hK hP hD hS hA hl rfl rfl rfl tw_v3 tyX3 tyX3_ok nmX3 6 (by decide) fl_RX3_29 rfl rfl rfl (by decide +kernel) (Nat.le_of_ble_eq_true rfl) (by decide) (by decide) ⟨Nat.le_of_ble_eq_true rfl, Nat.le_of_ble_eq_true rfl⟩ dX3_init_52 dX3_init_53 dX3_init_55 dX3_init_57 (fun q6 H locs hP hD hS => ?_)
  have hP : va_P D vwCl [tn_o h0 3 [.ref q0, .ref q1, .ref q2, .ref q3, .ref q4, .ref q5, .ref q6, .null, .null, .null, .null, .null, .null, .int 0, .null, .int 0], tn_e q0 cZ 30, tn_e q1 cI 30, tn_e q2 cI 30, tn_e q3 cI 30, tn_e q4 cI 30, tn_e q5 cI 30, tn_e q6 cZ 30] H := hP
  have hD : va_D A [tn_o h0 3 [.ref q0, .ref q1, .ref q2, .ref q3, .ref q4, .ref q5, .ref q6, .null, .null, .null, .null, .null, .null, .int 0, .null, .int 0], tn_e q0 cZ 30, tn_e q1 cI 30, tn_e q2 cI 30, tn_e q3 cI 30, tn_e q4 cI 30, tn_e q5 cI 30, tn_e q6 cZ 30] := hD
  refine tn_arr (N := 30) (C := RX3) (T := TX3) (NF := 16) 0 rfl (fun _ _ => tn_rI) rfl tn_cI tn_aI (Nat.le_of_ble_eq_true rfl) S hin hK hP hD hS hA hl rfl rfl rfl tw_v3 tyX3 tyX3_ok nmX3 7 (by decide) fl_RX3_32 rfl rfl rfl (by decide +kernel) (Nat.le_of_ble_eq_true rfl) (by decide) (by decide) ⟨Nat.le_of_ble_eq_true rfl, Nat.le_of_ble_eq_true rfl⟩ dX3_init_60 dX3_init_61 dX3_init_63 dX3_init_65 (fun q7 H locs hP hD hS => ?_)
  have hP : va_P D vwCl [tn_o h0 3 [.ref q0, .ref q1, .ref q2, .ref q3, .ref q4, .ref q5, .ref q6, .ref q7, .null, .null, .null, .null, .null, .int 0, .null, .int 0], tn_e q0 cZ 30, tn_e q1 cI 30, tn_e q2 cI 30, tn_e q3 cI 30, tn_e q4 cI 30, tn_e q5 cI 30, tn_e q6 cZ 30, tn_e q7 cI 30] H := hP
  have hD : va_D A [tn_o h0 3 [.ref q0, .ref q1, .ref q2, .ref q3, .ref q4, .ref q5, .ref q6, .ref q7, .null, .null, .null, .null, .null, .int 0, .null, .int 0], tn_e q0 cZ 30, tn_e q1 cI 30, tn_e q2 cI 30, tn_e q3 cI 30, tn_e q4 cI 30, tn_e q5 cI 30, tn_e q6 cZ 30, tn_e q7 cI 30] := hD
  refine tn_arr (N := 30) (C := RX3) (T := TX3) (NF := 16) 1 rfl (fun _ _ => tn_rZ) rfl tn_cZ tn_aZ (Nat.le_of_ble_eq_true rfl) S hin hK hP hD hS hA hl rfl rfl rfl tw_v3 tyX3 tyX3_ok nmX3 8 (by decide) fl_RX3_35 rfl rfl rfl (by decide +kernel) (Nat.le_of_ble_eq_true rfl) (by decide) (by decide) ⟨Nat.le_of_ble_eq_true rfl, Nat.le_of_ble_eq_true rfl⟩ dX3_init_68 dX3_init_69 dX3_init_71 dX3_init_73 (fun q8 H locs hP hD hS => ?_)
  have hP : va_P D vwCl [tn_o h0 3 [.ref q0, .ref q1, .ref q2, .ref q3, .ref q4, .ref q5, .ref q6, .ref q7, .ref q8, .null, .null, .null, .null, .int 0, .null, .int 0], tn_e q0 cZ 30, tn_e q1 cI 30, tn_e q2 cI 30, tn_e q3 cI 30, tn_e q4 cI 30, tn_e q5 cI 30, tn_e q6 cZ 30, tn_e q7 cI 30, tn_e q8 cZ 30] H := hP
  have hD : va_D A [tn_o h0 3 [.ref q0, .ref q1, .ref q2, .ref q3, .ref q4, .ref q5, .ref q6, .ref q7, .ref q8, .null, .null, .null, .null, .int 0, .null, .int 0], tn_e q0 cZ 30, tn_e q1 cI 30, tn_e q2 cI 30, tn_e q3 cI 30, tn_e q4 cI 30, tn_e q5 cI 30, tn_e q6 cZ 30, tn_e q7 cI 30, tn_e q8 cZ 30] := hD
  refine tn_arr (N := 30) (C := RX3) (T := TX3) (NF := 16) 0 rfl (fun _ _ => tn_rI) rfl tn_cI tn_aI (Nat.le_of_ble_eq_true rfl) S hin hK hP hD hS hA hl rfl rfl rfl tw_v3 tyX3 tyX3_ok nmX3 9 (by decide) fl_RX3_38 rfl rfl rfl (by decide +kernel) (Nat.le_of_ble_eq_true rfl) (by decide) (by decide) ⟨Nat.le_of_ble_eq_true rfl, Nat.le_of_ble_eq_true rfl⟩ dX3_init_76 dX3_init_77 dX3_init_79 dX3_init_81 (fun q9 H locs hP hD hS => ?_)
  have hP : va_P D vwCl [tn_o h0 3 [.ref q0, .ref q1, .ref q2, .ref q3, .ref q4, .ref q5, .ref q6, .ref q7, .ref q8, .ref q9, .null, .null, .null, .int 0, .null, .int 0], tn_e q0 cZ 30, tn_e q1 cI 30, tn_e q2 cI 30, tn_e q3 cI 30, tn_e q4 cI 30, tn_e q5 cI 30, tn_e q6 cZ 30, tn_e q7 cI 30, tn_e q8 cZ 30, tn_e q9 cI 30] H := hP
  have hD : va_D A [tn_o h0 3 [.ref q0, .ref q1, .ref q2, .ref q3, .ref q4, .ref q5, .ref q6, .ref q7, .ref q8, .ref q9, .null, .null, .null, .int 0, .null, .int 0], tn_e q0 cZ 30, tn_e q1 cI 30, tn_e q2 cI 30, tn_e q3 cI 30, tn_e q4 cI 30, tn_e q5 cI 30, tn_e q6 cZ 30, tn_e q7 cI 30, tn_e q8 cZ 30, tn_e q9 cI 30] := hD
  refine tn_arr (N := 30) (C := RX3) (T := TX3) (NF := 16) 0 rfl (fun _ _ => tn_rI) rfl tn_cI tn_aI (Nat.le_of_ble_eq_true rfl) S hin hK hP hD hS hA hl rfl rfl rfl tw_v3 tyX3 tyX3_ok nmX3 10 (by decide) fl_RX3_41 rfl rfl rfl (by decide +kernel) (Nat.le_of_ble_eq_true rfl) (by decide) (by decide) ⟨Nat.le_of_ble_eq_true rfl, Nat.le_of_ble_eq_true rfl⟩ dX3_init_84 dX3_init_85 dX3_init_87 dX3_init_89 (fun q10 H locs hP hD hS => ?_)
  have hP : va_P D vwCl [tn_o h0 3 [.ref q0, .ref q1, .ref q2, .ref q3, .ref q4, .ref q5, .ref q6, .ref q7, .ref q8, .ref q9, .ref q10, .null, .null, .int 0, .null, .int 0], tn_e q0 cZ 30, tn_e q1 cI 30, tn_e q2 cI 30, tn_e q3 cI 30, tn_e q4 cI 30, tn_e q5 cI 30, tn_e q6 cZ 30, tn_e q7 cI 30, tn_e q8 cZ 30, tn_e q9 cI 30, tn_e q10 cI 30] H := hP
  have hD : va_D A [tn_o h0 3 [.ref q0, .ref q1, .ref q2, .ref q3, .ref q4, .ref q5, .ref q6, .ref q7, .ref q8, .ref q9, .ref q10, .null, .null, .int 0, .null, .int 0], tn_e q0 cZ 30, tn_e q1 cI 30, tn_e q2 cI 30, tn_e q3 cI 30, tn_e q4 cI 30, tn_e q5 cI 30, tn_e q6 cZ 30, tn_e q7 cI 30, tn_e q8 cZ 30, tn_e q9 cI 30, tn_e q10 cI 30] := hD
  refine tn_arr (N := 30) (C := RX3) (T := TX3) (NF := 16) 1 rfl (fun _ _ => tn_rZ) rfl tn_cZ tn_aZ (Nat.le_of_ble_eq_true rfl) S hin hK hP hD hS hA hl rfl rfl rfl tw_v3 tyX3 tyX3_ok nmX3 11 (by decide) fl_RX3_44 rfl rfl rfl (by decide +kernel) (Nat.le_of_ble_eq_true rfl) (by decide) (by decide) ⟨Nat.le_of_ble_eq_true rfl, Nat.le_of_ble_eq_true rfl⟩ dX3_init_92 dX3_init_93 dX3_init_95 dX3_init_97 (fun q11 H locs hP hD hS => ?_)
  have hP : va_P D vwCl [tn_o h0 3 [.ref q0, .ref q1, .ref q2, .ref q3, .ref q4, .ref q5, .ref q6, .ref q7, .ref q8, .ref q9, .ref q10, .ref q11, .null, .int 0, .null, .int 0], tn_e q0 cZ 30, tn_e q1 cI 30, tn_e q2 cI 30, tn_e q3 cI 30, tn_e q4 cI 30, tn_e q5 cI 30, tn_e q6 cZ 30, tn_e q7 cI 30, tn_e q8 cZ 30, tn_e q9 cI 30, tn_e q10 cI 30, tn_e q11 cZ 30] H := hP
  have hD : va_D A [tn_o h0 3 [.ref q0, .ref q1, .ref q2, .ref q3, .ref q4, .ref q5, .ref q6, .ref q7, .ref q8, .ref q9, .ref q10, .ref q11, .null, .int 0, .null, .int 0], tn_e q0 cZ 30, tn_e q1 cI 30, tn_e q2 cI 30, tn_e q3 cI 30, tn_e q4 cI 30, tn_e q5 cI 30, tn_e q6 cZ 30, tn_e q7 cI 30, tn_e q8 cZ 30, tn_e q9 cI 30, tn_e q10 cI 30, tn_e q11 cZ 30] := hD
  refine tn_arr (N := 30) (C := RX3) (T := TX3) (NF := 16) 0 rfl (fun _ _ => tn_rI) rfl tn_cI tn_aI (Nat.le_of_ble_eq_true rfl) S hin hK hP hD hS hA hl rfl rfl rfl tw_v3 tyX3 tyX3_ok nmX3 12 (by decide) fl_RX3_47 rfl rfl rfl (by decide +kernel) (Nat.le_of_ble_eq_true rfl) (by decide) (by decide) ⟨Nat.le_of_ble_eq_true rfl, Nat.le_of_ble_eq_true rfl⟩ dX3_init_100 dX3_init_101 dX3_init_103 dX3_init_105 (fun q12 H locs hP hD hS => ?_)
  have hP : va_P D vwCl [tn_o h0 3 [.ref q0, .ref q1, .ref q2, .ref q3, .ref q4, .ref q5, .ref q6, .ref q7, .ref q8, .ref q9, .ref q10, .ref q11, .ref q12, .int 0, .null, .int 0], tn_e q0 cZ 30, tn_e q1 cI 30, tn_e q2 cI 30, tn_e q3 cI 30, tn_e q4 cI 30, tn_e q5 cI 30, tn_e q6 cZ 30, tn_e q7 cI 30, tn_e q8 cZ 30, tn_e q9 cI 30, tn_e q10 cI 30, tn_e q11 cZ 30, tn_e q12 cI 30] H := hP
  have hD : va_D A [tn_o h0 3 [.ref q0, .ref q1, .ref q2, .ref q3, .ref q4, .ref q5, .ref q6, .ref q7, .ref q8, .ref q9, .ref q10, .ref q11, .ref q12, .int 0, .null, .int 0], tn_e q0 cZ 30, tn_e q1 cI 30, tn_e q2 cI 30, tn_e q3 cI 30, tn_e q4 cI 30, tn_e q5 cI 30, tn_e q6 cZ 30, tn_e q7 cI 30, tn_e q8 cZ 30, tn_e q9 cI 30, tn_e q10 cI 30, tn_e q11 cZ 30, tn_e q12 cI 30] := hD
  refine tn_arr (N := 60) (C := RX3) (T := TX3) (NF := 16) 0 rfl (fun _ _ => tn_rI) rfl tn_cI tn_aI (Nat.le_of_ble_eq_true rfl) S hin hK hP hD hS hA hl rfl rfl rfl tw_v3 tyX3 tyX3_ok nmX3 14 (by decide) fl_RX3_50 rfl rfl rfl (by decide +kernel) (Nat.le_of_ble_eq_true rfl) (by decide) (by decide) ⟨Nat.le_of_ble_eq_true rfl, Nat.le_of_ble_eq_true rfl⟩ dX3_init_108 dX3_init_109 dX3_init_111 dX3_init_113 (fun q13 H locs hP hD hS => ?_)
  have hP : va_P D vwCl [tn_o h0 3 [.ref q0, .ref q1, .ref q2, .ref q3, .ref q4, .ref q5, .ref q6, .ref q7, .ref q8, .ref q9, .ref q10, .ref q11, .ref q12, .int 0, .ref q13, .int 0], tn_e q0 cZ 30, tn_e q1 cI 30, tn_e q2 cI 30, tn_e q3 cI 30, tn_e q4 cI 30, tn_e q5 cI 30, tn_e q6 cZ 30, tn_e q7 cI 30, tn_e q8 cZ 30, tn_e q9 cI 30, tn_e q10 cI 30, tn_e q11 cZ 30, tn_e q12 cI 30, tn_e q13 cI 60] H := hP
  have hD : va_D A [tn_o h0 3 [.ref q0, .ref q1, .ref q2, .ref q3, .ref q4, .ref q5, .ref q6, .ref q7, .ref q8, .ref q9, .ref q10, .ref q11, .ref q12, .int 0, .ref q13, .int 0], tn_e q0 cZ 30, tn_e q1 cI 30, tn_e q2 cI 30, tn_e q3 cI 30, tn_e q4 cI 30, tn_e q5 cI 30, tn_e q6 cZ 30, tn_e q7 cI 30, tn_e q8 cZ 30, tn_e q9 cI 30, tn_e q10 cI 30, tn_e q11 cZ 30, tn_e q12 cI 30, tn_e q13 cI 60] := hD
  obtain ⟨h, hh⟩ : ∃ h : Nat → Nat, h = (fun j => match j with | 0 => h0 | 1 => q0 | 2 => q1 | 3 => q2 | 4 => q3 | 5 => q4 | 6 => q5 | 7 => q6 | 8 => q7 | 9 => q8 | 10 => q9 | 11 => q10 | 12 => q11 | 13 => q12 | _ => q13) := ⟨_, rfl⟩
  have e0 : h 0 = h0 := by subst hh; rfl
  have hPm : va_P D vwCl (tw_M h cI cZ (fun _ _ => 0)) H := by rw [hh]; exact hP
  have hDm : ∀ σ, va_D A (tw_M h cI cZ σ) := fun σ => tn_Dmap hD (by rw [hh]; rfl)
  have e8 : h 8 = q7 := by subst hh; rfl
  have hl : lv_has ls 2 [(0, .ref (h 0))] := by rw [e0]; exact hl
  have key : tg_G p l e (headSpec wzX3_init ({ frames := 2, cells := 14, slots := 450, locals := 56 })).room s m #[Value.ref h0] below meth c D (tw_M h cI cZ) A 2 14 450 (MQ below (va_Qv (fun h : Nat → Nat => h 0 = h0) (fun h t => va_P D vwCl (tw_M h cI cZ tn_M0) t.heap ∧ va_D A (tw_M h cI cZ tn_M0)) A) #[Value.ref h0] s 14 450 A) (fun _ _ => 0) 116 [(0, .ref (h 0))] [] := by
    refine tg_iconst (v := nI 0) S dX3_init_116 (by decide) ?_
    refine tg_istore_n (L' := [(0, .ref (h 0)), (1, .int (nI 0))]) [1, 0] S dX3_init_117 rfl (by decide) rfl ?_
    refine tg_w (σ2 := tg_upA (fun _ _ => 0) 7 (fun _ => 0)) rfl ?_
    refine tg_loop (X := tb_A) (fun i f => upd f i (-1)) 30 (fun _ => 0) (fun f => tg_upA (fun _ _ => 0) 7 f) (fun i f => [(0, .ref (h 0)), (1, .int (nI i))]) ?_ ?_
    · intro i f hi_i hk_i
      refine tg_iload_n S 1 dX3_init_118 rfl rfl ?_
      refine tg_bipush (v := 30) S dX3_init_119 (by decide) ?_
      refine tg_icmp_ge (tgt := 137) S dX3_init_121 (by decide) (fun c => absurd c (tg_nge hi_i)) (fun _ => ?_)
      refine tg_aload_n S 0 dX3_init_124 rfl rfl ?_
      refine tg_get (v := .ref (h 8)) S tw_v3 hK 0 rfl rfl 7 (by decide) (tw_in fl_RX3_32 rfl) dX3_init_125 rfl ?_
      refine tg_iload_n S 1 dX3_init_128 rfl rfl ?_
      refine tg_iconst (v := -1) S dX3_init_129 (by decide) ?_
      refine tg_iast (σ2 := tg_upA (fun _ _ => 0) 7 (upd f i (-1))) S hK hDm 8 0 rfl rfl dX3_init_130 (tg_in hi_i (by decide)) (by rw [tg_cl (Nat.lt_trans hi_i (by decide))]; exact (tw_Ms7 (upd f i (-1))).trans rfl) ?_
      refine tg_iinc (v := nI (i + 1)) (L' := [(0, .ref (h 0)), (1, .int (nI (i + 1)))]) [1, 0] S 1 dX3_init_131 rfl (tg_inc _) (by decide) rfl ?_
      refine tg_goto (tgt := 118) S dX3_init_134 (by decide) ?_
      exact hk_i
    · refine tg_iload_n S 1 dX3_init_118 rfl rfl ?_
      refine tg_bipush (v := 30) S dX3_init_119 (by decide) ?_
      refine tg_icmp_ge (tgt := 137) S dX3_init_121 (by decide) (fun _ => ?_) (fun c => absurd tg_ge c)
      exact fun H locs ls hP hS hl => W.vret S.1 S.2.1 hr (fun t ht hW => ⟨⟨h, rfl, e0, by rw [ht]; exact hP, hDm _⟩, hS.F ht⟩) hS.2.2 dX3_init_137 hlocks
  exact key H _ ls hPm hS hl
set_option maxRecDepth 100000 in
theorem tn_c7 : Cond.classLink RX2 7 RX1 ∈ lw_tbl := by decide +kernel
set_option maxRecDepth 100000 in
theorem tn_c16 : Cond.classLink RX2 16 RX0 ∈ lw_tbl := by decide +kernel
set_option maxRecDepth 100000 in
theorem tn_i1 : Cond.instantiable RX1 9 ∈ lw_tbl := by decide +kernel
set_option maxRecDepth 100000 in
theorem tn_i0 : Cond.instantiable RX0 13 ∈ lw_tbl := by decide +kernel
set_option maxHeartbeats 4000000 in
set_option maxRecDepth 100000 in
theorem k_X2_init (l : Launch) (D : va_G) (cI cZ : ClassId) (h0 sz : Nat) : Met l yX2_init wzX2_init ({ frames := 3, cells := 22, slots := 622, locals := 112 }) (va_Pc [.ref h0] (fun U => U.heap.size = sz ∧ va_P D vwCl [tn_o h0 2 [.null, .null]] U.heap ∧ va_K D vwCl (tw_ty cI cZ) U ∧ tg_NU tw_nl U ∧ va_D (fun _ => True) [tn_o h0 2 [.null, .null]])) (va_Qv (fun h : Nat → Nat => h 0 = h0) (fun h t => va_P D vwCl (tw_T h cI cZ (fun _ _ => 0)) t.heap ∧ va_D (va_A [tn_o h0 2 [.null, .null]] sz) (tw_T h cI cZ (fun _ _ => 0))) (va_A [tn_o h0 2 [.null, .null]] sz)) 22 622 (va_A [tn_o h0 2 [.null, .null]] sz) := by
  refine Met.ofW (cc := cX2_init) (maxL := 1) (ret := none) (by decide +kernel) rfl ?_
  intro p e s m args below meth c s₁ B hml hv
  obtain ⟨rfl, hsz, hP, hK, hN, hD0⟩ := hv
  have hts := atoms_spec (ws := wzX2_init) B.pre
  have S : CallFix p m c cX2_init 1 s ([.ref h0] : List Value).toArray wzX2_init RX2 := ⟨B.exec, B.bytes, hml, findClass_of_methodNamed B.named, hts⟩
  have hr := B.returns
  have hlocks := B.notSynchronized
  have hin : meth.name = "<init>" := (name_of_methodNamed B.named B.method).1
  subst hsz
  have hD := hD0.self (sz := s.heap.size)
  generalize hAe : va_A [tn_o h0 2 [.null, .null]] s.heap.size = A at hD ⊢
  have hA : ∀ q : Nat, s.heap.size ≤ q → A q := fun q h => by rw [← hAe]; exact Or.inr h
  have hS : va_S A s.heap s.heap [] := va_S.rf
  have hP : va_P D vwCl [tn_o h0 2 [.null, .null]] s.heap := hP
  have hl := lv_entry ([.ref h0]) (n := 1) (Nat.le_of_ble_eq_true rfl)
  rw [lg_entry_eq]
  generalize (lg_sl ([.ref h0]) ++ List.replicate (1 - (lg_sl ([.ref h0])).length) Slot.unset).toArray = ls at hl ⊢
  have hl : lv_has ls 1 [(0, .ref h0)] := hl
  refine lv_aload_n S.1 S.2.1 dX2_init_0 rfl (lv_at hl 0 rfl) ?_
  refine W.objInit S.1 S.2.1 S.2.2.2.1 (hts _ (tw_in ml_RX2_1 rfl)) (hts _ (tw_in im_objectInit rfl)) (hts _ (tw_in co_objectInit rfl)) rfl (by rw [hml]; exact hl.1) rfl dX2_init_1 (Nat.le_of_ble_eq_true rfl) (Nat.le_of_ble_eq_true rfl) ?_
  refine W.eq (g2 := F0 m 4 ls []) rfl ?_
  refine lv_aload_n S.1 S.2.1 dX2_init_4 rfl (lv_at hl 0 rfl) ?_
  refine va_new (ci := 1) (fs := [.null, .null, .null, .null, .null, .null, .null, .null, .null]) (C := RX1) (T := TX1) (N := 9) S.1 S.2.1 hts tw_v1 tyX1 tyX1_ok S.2.2.2.1 (hts _ (tw_in tn_c7 rfl)) (hts _ (tw_in tn_i1 rfl)) (hts _ (tw_in in_RX1 rfl)) hK hP hD hS hA rfl (fun j hj => by rcases (show j = 0 ∨ j = 1 ∨ j = 2 ∨ j = 3 ∨ j = 4 ∨ j = 5 ∨ j = 6 ∨ j = 7 ∨ j = 8 by omega) with rfl | rfl | rfl | rfl | rfl | rfl | rfl | rfl | rfl <;> rfl) (Nat.le_of_ble_eq_true rfl) (Nat.le_of_ble_eq_true rfl) dX2_init_5 (fun q5 H hP hD hS => ?_)
  have hP : va_P D vwCl [tn_o h0 2 [.null, .null], tn_o q5 1 [.null, .null, .null, .null, .null, .null, .null, .null, .null]] H := hP
  have hD : va_D A [tn_o h0 2 [.null, .null], tn_o q5 1 [.null, .null, .null, .null, .null, .null, .null, .null, .null]] := hD
  refine lv_dup S.1 S.2.1 dX2_init_8 rfl ?_
  have hPc := hP.sub (ws' := [tn_o q5 1 [.null, .null, .null, .null, .null, .null, .null, .null, .null]]) [1] rfl
  have hDc := hD.sub (ws' := [tn_o q5 1 [.null, .null, .null, .null, .null, .null, .null, .null, .null]]) [1] (by decide) rfl
  have hFc := va_free (wc := [tn_o q5 1 [.null, .null, .null, .null, .null, .null, .null, .null, .null]]) hD hS hA [1] rfl
  refine va_callv (va_runIN (host := RX2) (As := []) (rest := [.ref q5, .ref h0]) S (k_X1_init l D cI cZ q5 H.size) ⟨va_cnB 0 hts (tw_gW co_X1_init rfl) rfl rfl rfl (hN _ (List.mem_of_getElem? (i := 0) rfl)) (hts _ (tw_in in_RX1 rfl)) (by decide +kernel) ⟨Nat.le_of_ble_eq_true rfl, Nat.le_of_ble_eq_true rfl⟩, rfl, hts _ (tw_in im_X1_init rfl)⟩ ⟨fun a U g mk q => by obtain ⟨b0, b1, bP, bK, bD⟩ := q; exact ⟨b0, b1, bP, va_K.moved (u := U) (U := U.calling g mk a) (Vm.Alike.refl U.vm) bK, bD⟩, fun U hU hW => ⟨rfl, by rw [hU], by rw [hU]; exact hPc, va_K.moved hW.alike hK, hDc.weaken (fun _ _ _ _ => trivial)⟩⟩ rfl rfl hl.1 rfl (lv_room (Nat.le_of_ble_eq_true rfl)) dX2_init_9 ⟨Nat.le_of_ble_eq_true rfl, Nat.le_of_ble_eq_true rfl⟩) hS (fun q _ h => hFc q h) hFc (fun u t H1 locs ht hvm h5 hB hz1 hk1 hS => ?_)
  obtain ⟨hP1, hD1⟩ := hB
  rw [ht] at hP1
  obtain ⟨hP, hD⟩ := va_join (wr := [tn_o h0 2 [.null, .null]]) (w1 := tn_w1 q5 cI cZ u) hP hD [1] [0] rfl rfl (by decide) (by decide) hk1 hFc hP1 hD1
  generalize H1 = H at hP hS ⊢
  refine va_putF (ref := RX2) (C := RX2) (T := TX2) (N := 2) (v := .ref q5) (ty := .object "Threadline$Mail") S.1 S.2.1 hts tw_v2 tyX2 tyX2_ok nmX2 S.2.2.2.1 hK hP hD hS 0 rfl rfl 0 (by decide) (hts _ (tw_in fl_RX2_10 rfl)) (fun _ h9 => h9) rfl hin rfl (by decide +kernel) rfl rfl (Nat.le_of_ble_eq_true rfl) dX2_init_12 (fun H locs hP hD hS => ?_)
  have hP : va_P D vwCl (tn_o h0 2 [.ref q5, .null] :: tn_w1 q5 cI cZ u) H := hP
  have hD : va_D A (tn_o h0 2 [.ref q5, .null] :: tn_w1 q5 cI cZ u) := hD
  refine lv_aload_n S.1 S.2.1 dX2_init_15 rfl (lv_at hl 0 rfl) ?_
  refine va_new (ci := 0) (fs := [.null, .null, .null, .null, .null, .null, .null, .null, .null, .null, .null, .null, .int 0]) (C := RX0) (T := TX0) (N := 13) S.1 S.2.1 hts tw_v0 tyX0 tyX0_ok S.2.2.2.1 (hts _ (tw_in tn_c16 rfl)) (hts _ (tw_in tn_i0 rfl)) (hts _ (tw_in in_RX0 rfl)) hK hP hD hS hA rfl (fun j hj => by rcases (show j = 0 ∨ j = 1 ∨ j = 2 ∨ j = 3 ∨ j = 4 ∨ j = 5 ∨ j = 6 ∨ j = 7 ∨ j = 8 ∨ j = 9 ∨ j = 10 ∨ j = 11 ∨ j = 12 by omega) with rfl | rfl | rfl | rfl | rfl | rfl | rfl | rfl | rfl | rfl | rfl | rfl | rfl <;> rfl) (Nat.le_of_ble_eq_true rfl) (Nat.le_of_ble_eq_true rfl) dX2_init_16 (fun q16 H hP hD hS => ?_)
  refine lv_dup S.1 S.2.1 dX2_init_19 rfl ?_
  refine lv_aload_n S.1 S.2.1 dX2_init_20 rfl (lv_at hl 0 rfl) ?_
  refine va_get (D := D) (ci := 2) (v := .ref q5) (C := RX2) (T := TX2) (N := 2) S.1 S.2.1 hts tw_v2 S.2.2.2.1 hK hP 0 rfl rfl 0 (by decide) (hts _ (tw_in fl_RX2_10 rfl)) (fun _ h9 => h9) rfl dX2_init_21 ?_
  have hPc := hP.sub (ws' := [tn_o q16 0 [.null, .null, .null, .null, .null, .null, .null, .null, .null, .null, .null, .null, .int 0]]) [11] rfl
  have hDc := hD.sub (ws' := [tn_o q16 0 [.null, .null, .null, .null, .null, .null, .null, .null, .null, .null, .null, .null, .int 0]]) [11] (by decide) rfl
  have hFc := va_free (wc := [tn_o q16 0 [.null, .null, .null, .null, .null, .null, .null, .null, .null, .null, .null, .null, .int 0]]) hD hS hA [11] rfl
  refine va_callv (va_runIN (host := RX2) (As := [.ref q5]) (rest := [.ref q16, .ref h0]) S (k_X0_init l D cI cZ q16 q5 H.size) ⟨va_cnB 1 hts (tw_gW co_X0_init rfl) rfl rfl rfl (hN _ (List.mem_of_getElem? (i := 1) rfl)) (hts _ (tw_in in_RX0 rfl)) (by decide +kernel) ⟨Nat.le_of_ble_eq_true rfl, Nat.le_of_ble_eq_true rfl⟩, rfl, hts _ (tw_in im_X0_init rfl)⟩ ⟨fun a U g mk q => by obtain ⟨b0, b1, bP, bK, bD⟩ := q; exact ⟨b0, b1, bP, va_K.moved (u := U) (U := U.calling g mk a) (Vm.Alike.refl U.vm) bK, bD⟩, fun U hU hW => ⟨rfl, by rw [hU], by rw [hU]; exact hPc, va_K.moved hW.alike hK, hDc.weaken (fun _ _ _ _ => trivial)⟩⟩ rfl rfl hl.1 rfl (lv_room (Nat.le_of_ble_eq_true rfl)) dX2_init_24 ⟨Nat.le_of_ble_eq_true rfl, Nat.le_of_ble_eq_true rfl⟩) hS (fun q _ h => hFc q h) hFc (fun u2 t H1 locs ht hvm h5 hB hz1 hk1 hS => ?_)
  obtain ⟨hP1, hD1⟩ := hB
  rw [ht] at hP1
  obtain ⟨hP, hD⟩ := va_join (wr := tn_o h0 2 [.ref q5, .null] :: tn_w1 q5 cI cZ u) (w1 := tn_w0 q16 q5 cI cZ u2) hP hD [11] [0, 1, 2, 3, 4, 5, 6, 7, 8, 9, 10] rfl rfl (by decide) (by decide) hk1 hFc hP1 hD1
  generalize H1 = H at hP hS ⊢
  refine va_putF (ref := RX2) (C := RX2) (T := TX2) (N := 2) (v := .ref q16) (ty := .object "Threadline$Forest") S.1 S.2.1 hts tw_v2 tyX2 tyX2_ok nmX2 S.2.2.2.1 hK hP hD hS 0 rfl rfl 1 (by decide) (hts _ (tw_in fl_RX2_21 rfl)) (fun _ h9 => h9) rfl hin rfl (by decide +kernel) rfl rfl (Nat.le_of_ble_eq_true rfl) dX2_init_27 (fun H locs hP hD hS => ?_)
  have hP : va_P D vwCl ((tn_o h0 2 [.ref q5, .ref q16] :: tn_w1 q5 cI cZ u) ++ tn_w0 q16 q5 cI cZ u2) H := hP
  have hD : va_D A ((tn_o h0 2 [.ref q5, .ref q16] :: tn_w1 q5 cI cZ u) ++ tn_w0 q16 q5 cI cZ u2) := hD
  obtain ⟨h, hh⟩ : ∃ h : Nat → Nat, h = (fun j => match j with | 0 => h0 | 1 => q5 | 2 => q16 | 3 => u 0 | 4 => u 1 | 5 => u 2 | 6 => u 3 | 7 => u 4 | 8 => u 5 | 9 => u 6 | 10 => u 7 | 11 => u 8 | 12 => u2 0 | 13 => u2 1 | 14 => u2 2 | 15 => u2 3 | 16 => u2 4 | 17 => u2 5 | 18 => u2 6 | 19 => u2 7 | 20 => u2 8 | 21 => u2 9 | _ => u2 10) := ⟨_, rfl⟩
  have hP9 := hP.sub (ws' := tw_T h cI cZ (fun _ _ => 0)) [0, 1, 11, 2, 3, 4, 5, 6, 7, 8, 9, 10, 12, 13, 14, 15, 16, 17, 18, 19, 20, 21, 22] (by rw [hh]; rfl)
  have hD9 := hD.sub (ws' := tw_T h cI cZ (fun _ _ => 0)) [0, 1, 11, 2, 3, 4, 5, 6, 7, 8, 9, 10, 12, 13, 14, 15, 16, 17, 18, 19, 20, 21, 22] (by decide) (by rw [hh]; rfl)
  have e0 : h 0 = h0 := by subst hh; rfl
  exact W.vret S.1 S.2.1 hr (fun t ht hW => ⟨⟨h, rfl, e0, by rw [ht]; exact hP9, hD9⟩, hS.F ht⟩) hS.2.2 dX2_init_30 hlocks
