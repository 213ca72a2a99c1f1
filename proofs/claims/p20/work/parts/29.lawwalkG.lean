/-! ===== 29: the law's walk at any script, in a larger room: it answers true (printed by wip/p20/genR2.py) ===== -/
section WSW
variable {p : Program} {l : Launch} {e : Env} {s : State} {m : MethodId} {below : List Frame} {meth : Method} {c : Code} {D : va_G} {h g : Nat → Nat} {cI cZ : ClassId} {σ τ : tg_Mem} {k jj b L f : Nat} {xs : Nat → Int32} {ww : va_W}
set_option maxHeartbeats 4000000 in
theorem ws_P6 (E : ws_E p l s m meth c D h g cI cZ b L xs) {v : Int32} (hsm : sm σ τ) (hk : k + 3960 ≤ 24000) : ws_G p l e s m b below meth c D (vg_W h g cI cZ σ τ) k jj 503 [(0, .ref b), (1, .ref (h 0)), (2, .ref (g 0)), (3, .int (nI f)), (4, .int 1), (5, .int v)] [] := by
  have S := E.2.1
  refine vg_iload S 4 dL_law_503 rfl ?_
  refine vg_if_eq (tgt := 520) S dL_law_505 (by decide) (fun c => absurd c (by decide)) (fun _ => ?_)
  refine vg_aload_n S 1 dL_law_508 rfl rfl ?_
  refine vg_aload_n S 2 dL_law_509 rfl rfl ?_
  refine ws_like (rest := []) E hsm rfl (Nat.le_of_ble_eq_true rfl) dL_law_510 (by omega) ?_
  refine vg_if_eq (tgt := 520) S dL_law_513 (by decide) (fun c => absurd c (by decide)) (fun _ => ?_)
  refine vg_iconst (v := 1) S dL_law_516 (by decide) ?_
  refine vg_goto (tgt := 521) S dL_law_517 (by decide) ?_
  exact ws_ret E (by omega)
set_option maxHeartbeats 4000000 in
theorem ws_461 (E : ws_E p l s m meth c D h g cI cZ b L xs) {i : Nat} {z6 z7 z8 z9 : Int32} (hi : i < 49) (h25 : 25 ≤ i) (ih : ∀ (σ τ : tg_Mem) (jj : Nat), sm σ τ → ws_G p l e s m b below meth c D (vg_W h g cI cZ σ τ) (4168 + 2 * ((i + 1) - 25) + 3960 * ((i + 1) / 8 - 3)) jj 298 [(0, .ref b), (1, .ref (h 0)), (2, .ref (g 0)), (3, .int (nI f)), (4, .int 1), (5, .int (nI (i + 1)))] []) (hsm : sm σ τ) (hk : k ≤ 4168 + 2 * (i - 25) + 3960 * (i / 8 - 3) + 2) : ws_G p l e s m b below meth c D (vg_W h g cI cZ σ τ) k jj 461 [(0, .ref b), (1, .ref (h 0)), (2, .ref (g 0)), (3, .int (nI f)), (4, .int 1), (5, .int (nI i)), (6, .int z6), (7, .int z7), (8, .int z8), (9, .int z9)] [] := by
  have S := E.2.1
  refine vg_aload_n S 1 dL_law_461 rfl rfl ?_
  refine vg_callTA (nA := 0) (As := []) (rest := []) E.1 S (k_X2_roots E.1.2.2.2.1.1 σ) (lq_good in_RL (tw_gV ml_RL_56 im_X2_roots se_X2_roots in_RX2 co_X2_roots rfl)) rfl (by decide +kernel) ⟨Nat.le_of_ble_eq_true rfl, Nat.le_of_ble_eq_true rfl⟩ rfl rfl (Nat.le_of_ble_eq_true rfl) dL_law_462 ⟨by show _ ≤ 24000; omega, by show _ ≤ 145000; omega⟩ ?_
  refine vg_aload_n S 2 dL_law_465 rfl rfl ?_
  refine vg_callTB (nA := 0) (As := []) (rest := [_]) E.1 S (k_X2_roots E.1.2.2.2.1.2.1 τ) (lq_good in_RL (tw_gV ml_RL_56 im_X2_roots se_X2_roots in_RX2 co_X2_roots rfl)) rfl (by decide +kernel) ⟨Nat.le_of_ble_eq_true rfl, Nat.le_of_ble_eq_true rfl⟩ rfl rfl (Nat.le_of_ble_eq_true rfl) dL_law_466 ⟨by show _ ≤ 24000; omega, by show _ ≤ 145000; omega⟩ ?_
  refine vg_icmp_ne (tgt := 494) S dL_law_469 (by decide) (fun c => absurd (sm_roots hsm).1 c) (fun _ => ?_)
  refine vg_iload S 5 dL_law_472 rfl ?_
  refine vg_bipush (v := 8) S dL_law_474 (by decide) ?_
  refine vg_irem (v := nI (i % 8)) S dL_law_476 (by decide) (vr_mod8 i hi) ?_
  refine vg_bipush (v := 7) S dL_law_477 (by decide) ?_
  refine vg_icmp_lt (tgt := 490) S dL_law_479 (by decide) (fun c8 => ?_) (fun c8 => ?_)
  · have q8 := (vr_lt7 hi).mp c8
    refine vg_iconst (v := 1) S dL_law_490 (by decide) ?_
    refine vg_goto (tgt := 495) S dL_law_491 (by decide) ?_
    refine vg_istore (L' := [(0, .ref b), (1, .ref (h 0)), (2, .ref (g 0)), (3, .int (nI f)), (4, .int 1), (5, .int (nI i)), (6, .int z6), (7, .int z7), (8, .int z8), (9, .int z9)]) [1, 2, 3, 4, 0, 5, 6, 7, 8, 9] S dL_law_495 (by decide) rfl ?_
    refine vg_iinc (v := nI (i + 1)) (L' := [(0, .ref b), (1, .ref (h 0)), (2, .ref (g 0)), (3, .int (nI f)), (4, .int 1), (5, .int (nI (i + 1))), (6, .int z6), (7, .int z7), (8, .int z8), (9, .int z9)]) [1, 2, 3, 4, 5, 0, 6, 7, 8, 9] S 5 dL_law_497 rfl (tg_inc _) (by decide) rfl ?_
    refine vg_goto (tgt := 298) S dL_law_500 (by decide) ?_
    refine vg_sub (L' := [(0, .ref b), (1, .ref (h 0)), (2, .ref (g 0)), (3, .int (nI f)), (4, .int 1), (5, .int (nI (i + 1)))]) [0, 1, 2, 3, 4, 5] rfl ?_
    exact vg_widen (k1 := 4168 + 2 * ((i + 1) - 25) + 3960 * ((i + 1) / 8 - 3)) (by omega) (ih σ τ _ hsm)
  · have q8 : ¬ i % 8 < 7 := fun q => c8 ((vr_lt7 hi).mpr q)
    refine vg_aload_n S 1 dL_law_482 rfl rfl ?_
    refine vg_aload_n S 2 dL_law_483 rfl rfl ?_
    refine ws_like (rest := []) E hsm rfl (Nat.le_of_ble_eq_true rfl) dL_law_484 (by omega) ?_
    refine vg_if_eq (tgt := 494) S dL_law_487 (by decide) (fun c => absurd c (by decide)) (fun _ => ?_)
    refine vg_iconst (v := 1) S dL_law_490 (by decide) ?_
    refine vg_goto (tgt := 495) S dL_law_491 (by decide) ?_
    refine vg_istore (L' := [(0, .ref b), (1, .ref (h 0)), (2, .ref (g 0)), (3, .int (nI f)), (4, .int 1), (5, .int (nI i)), (6, .int z6), (7, .int z7), (8, .int z8), (9, .int z9)]) [1, 2, 3, 4, 0, 5, 6, 7, 8, 9] S dL_law_495 (by decide) rfl ?_
    refine vg_iinc (v := nI (i + 1)) (L' := [(0, .ref b), (1, .ref (h 0)), (2, .ref (g 0)), (3, .int (nI f)), (4, .int 1), (5, .int (nI (i + 1))), (6, .int z6), (7, .int z7), (8, .int z8), (9, .int z9)]) [1, 2, 3, 4, 5, 0, 6, 7, 8, 9] S 5 dL_law_497 rfl (tg_inc _) (by decide) rfl ?_
    refine vg_goto (tgt := 298) S dL_law_500 (by decide) ?_
    refine vg_sub (L' := [(0, .ref b), (1, .ref (h 0)), (2, .ref (g 0)), (3, .int (nI f)), (4, .int 1), (5, .int (nI (i + 1)))]) [0, 1, 2, 3, 4, 5] rfl ?_
    exact vg_widen (k1 := 4168 + 2 * ((i + 1) - 25) + 3960 * ((i + 1) / 8 - 3)) (by omega) (ih σ τ _ hsm)
set_option maxHeartbeats 4000000 in
theorem ws_416a (E : ws_E p l s m meth c D h g cI cZ b L xs) {i : Nat} {z6 z7 z8 : Int32} (hi : i < 49) (h25 : 25 ≤ i) (ih : ∀ (σ τ : tg_Mem) (jj : Nat), sm σ τ → ws_G p l e s m b below meth c D (vg_W h g cI cZ σ τ) (4168 + 2 * ((i + 1) - 25) + 3960 * ((i + 1) / 8 - 3)) jj 298 [(0, .ref b), (1, .ref (h 0)), (2, .ref (g 0)), (3, .int (nI f)), (4, .int 1), (5, .int (nI (i + 1)))] []) (hsm : sm σ τ) (hk : k ≤ 4168 + 2 * (i - 25) + 3960 * (i / 8 - 3)) : ws_G p l e s m b below meth c D (vg_W h g cI cZ σ τ) k jj 416 [(0, .ref b), (1, .ref (h 0)), (2, .ref (g 0)), (3, .int (nI f)), (4, .int 1), (5, .int (nI i)), (6, .int z6), (7, .int z7), (8, .int z8), (9, .int 0)] [] := by
  have S := E.2.1
  refine vg_aload_n S 1 dL_law_416 rfl rfl ?_
  refine vg_iload S 9 dL_law_417 rfl ?_
  refine vg_iload S 7 dL_law_419 rfl ?_
  refine vg_callA (nA := 3) (As := [.ref (h 0), .int 0, .int z7]) (rest := []) E.1 S (k_L_does0 E.1.2.2.2.1.1 E.2.2.2.2.1 σ z7) (lq_good in_RL (tw_gS ml_RL_76 st_L_does in_RL co_L_does rfl)) rfl (by decide +kernel) ⟨Nat.le_of_ble_eq_true rfl, Nat.le_of_ble_eq_true rfl⟩ rfl rfl (Nat.le_of_ble_eq_true rfl) dL_law_421 ⟨by show _ ≤ 24000; omega, by show _ ≤ 145000; omega⟩ (fun j2 _ => ?_)
  refine vg_aload_n S 2 dL_law_424 rfl rfl ?_
  refine vg_iload S 9 dL_law_425 rfl ?_
  refine vg_iload S 7 dL_law_427 rfl ?_
  refine vg_callB (nA := 3) (As := [.ref (g 0), .int 0, .int z7]) (rest := [_]) E.1 S (k_L_does0 E.1.2.2.2.1.2.1 E.2.2.2.2.1 τ z7) (lq_good in_RL (tw_gS ml_RL_76 st_L_does in_RL co_L_does rfl)) rfl (by decide +kernel) ⟨Nat.le_of_ble_eq_true rfl, Nat.le_of_ble_eq_true rfl⟩ rfl rfl (Nat.le_of_ble_eq_true rfl) dL_law_429 ⟨by show _ ≤ 24000; omega, by show _ ≤ 145000; omega⟩ (fun j3 _ => ?_)
  refine vg_icmp_ne (tgt := 494) S dL_law_432 (by decide) (fun c => absurd (sm_del hsm z7).1 c) (fun _ => ?_)
  refine vg_goto (tgt := 461) S dL_law_435 (by decide) ?_
  exact ws_461 E hi h25 ih (sm_del hsm z7).2 (by omega)
set_option maxHeartbeats 4000000 in
theorem ws_416b (E : ws_E p l s m meth c D h g cI cZ b L xs) {i : Nat} {z6 z7 z8 : Int32} (hi : i < 49) (h25 : 25 ≤ i) (ih : ∀ (σ τ : tg_Mem) (jj : Nat), sm σ τ → ws_G p l e s m b below meth c D (vg_W h g cI cZ σ τ) (4168 + 2 * ((i + 1) - 25) + 3960 * ((i + 1) / 8 - 3)) jj 298 [(0, .ref b), (1, .ref (h 0)), (2, .ref (g 0)), (3, .int (nI f)), (4, .int 1), (5, .int (nI (i + 1)))] []) (hsm : sm σ τ) (hk : k ≤ 4168 + 2 * (i - 25) + 3960 * (i / 8 - 3)) : ws_G p l e s m b below meth c D (vg_W h g cI cZ σ τ) k jj 416 [(0, .ref b), (1, .ref (h 0)), (2, .ref (g 0)), (3, .int (nI f)), (4, .int 1), (5, .int (nI i)), (6, .int z6), (7, .int z7), (8, .int z8), (9, .int 1)] [] := by
  have S := E.2.1
  refine vg_aload_n S 1 dL_law_416 rfl rfl ?_
  refine vg_iload S 9 dL_law_417 rfl ?_
  refine vg_iload S 7 dL_law_419 rfl ?_
  refine vg_callA (nA := 3) (As := [.ref (h 0), .int 1, .int z7]) (rest := []) E.1 S (k_L_does1 E.1.2.2.2.1.1 E.2.2.2.2.1 σ z7) (lq_good in_RL (tw_gS ml_RL_76 st_L_does in_RL co_L_does rfl)) rfl (by decide +kernel) ⟨Nat.le_of_ble_eq_true rfl, Nat.le_of_ble_eq_true rfl⟩ rfl rfl (Nat.le_of_ble_eq_true rfl) dL_law_421 ⟨by show _ ≤ 24000; omega, by show _ ≤ 145000; omega⟩ (fun j2 _ => ?_)
  refine vg_aload_n S 2 dL_law_424 rfl rfl ?_
  refine vg_iload S 9 dL_law_425 rfl ?_
  refine vg_iload S 7 dL_law_427 rfl ?_
  refine vg_callB (nA := 3) (As := [.ref (g 0), .int 1, .int z7]) (rest := [_]) E.1 S (k_L_does1 E.1.2.2.2.1.2.1 E.2.2.2.2.1 τ z7) (lq_good in_RL (tw_gS ml_RL_76 st_L_does in_RL co_L_does rfl)) rfl (by decide +kernel) ⟨Nat.le_of_ble_eq_true rfl, Nat.le_of_ble_eq_true rfl⟩ rfl rfl (Nat.le_of_ble_eq_true rfl) dL_law_429 ⟨by show _ ≤ 24000; omega, by show _ ≤ 145000; omega⟩ (fun j3 _ => ?_)
  refine vg_icmp_ne (tgt := 494) S dL_law_432 (by decide) (fun c => absurd (sm_spl hsm z7).1 c) (fun _ => ?_)
  refine vg_goto (tgt := 461) S dL_law_435 (by decide) ?_
  exact ws_461 E hi h25 ih (sm_spl hsm z7).2 (by omega)
set_option maxHeartbeats 4000000 in
theorem ws_416c (E : ws_E p l s m meth c D h g cI cZ b L xs) {i : Nat} {z6 z7 z8 : Int32} (hi : i < 49) (h25 : 25 ≤ i) (ih : ∀ (σ τ : tg_Mem) (jj : Nat), sm σ τ → ws_G p l e s m b below meth c D (vg_W h g cI cZ σ τ) (4168 + 2 * ((i + 1) - 25) + 3960 * ((i + 1) / 8 - 3)) jj 298 [(0, .ref b), (1, .ref (h 0)), (2, .ref (g 0)), (3, .int (nI f)), (4, .int 1), (5, .int (nI (i + 1)))] []) (hsm : sm σ τ) (hk : k ≤ 4168 + 2 * (i - 25) + 3960 * (i / 8 - 3)) : ws_G p l e s m b below meth c D (vg_W h g cI cZ σ τ) k jj 416 [(0, .ref b), (1, .ref (h 0)), (2, .ref (g 0)), (3, .int (nI f)), (4, .int 1), (5, .int (nI i)), (6, .int z6), (7, .int z7), (8, .int z8), (9, .int 2)] [] := by
  have S := E.2.1
  refine vg_aload_n S 1 dL_law_416 rfl rfl ?_
  refine vg_iload S 9 dL_law_417 rfl ?_
  refine vg_iload S 7 dL_law_419 rfl ?_
  refine vg_callA (nA := 3) (As := [.ref (h 0), .int 2, .int z7]) (rest := []) E.1 S (k_L_does2 E.1.2.2.2.1.1 E.2.2.2.2.1 σ z7) (lq_good in_RL (tw_gS ml_RL_76 st_L_does in_RL co_L_does rfl)) rfl (by decide +kernel) ⟨Nat.le_of_ble_eq_true rfl, Nat.le_of_ble_eq_true rfl⟩ rfl rfl (Nat.le_of_ble_eq_true rfl) dL_law_421 ⟨by show _ ≤ 24000; omega, by show _ ≤ 145000; omega⟩ (fun j2 _ => ?_)
  refine vg_aload_n S 2 dL_law_424 rfl rfl ?_
  refine vg_iload S 9 dL_law_425 rfl ?_
  refine vg_iload S 7 dL_law_427 rfl ?_
  refine vg_callB (nA := 3) (As := [.ref (g 0), .int 2, .int z7]) (rest := [_]) E.1 S (k_L_does2 E.1.2.2.2.1.2.1 E.2.2.2.2.1 τ z7) (lq_good in_RL (tw_gS ml_RL_76 st_L_does in_RL co_L_does rfl)) rfl (by decide +kernel) ⟨Nat.le_of_ble_eq_true rfl, Nat.le_of_ble_eq_true rfl⟩ rfl rfl (Nat.le_of_ble_eq_true rfl) dL_law_429 ⟨by show _ ≤ 24000; omega, by show _ ≤ 145000; omega⟩ (fun j3 _ => ?_)
  refine vg_icmp_ne (tgt := 494) S dL_law_432 (by decide) (fun c => absurd (sm_rel hsm z7).1 c) (fun _ => ?_)
  refine vg_goto (tgt := 461) S dL_law_435 (by decide) ?_
  exact ws_461 E hi h25 ih (sm_rel hsm z7).2 (by omega)
set_option maxHeartbeats 4000000 in
theorem ws_416d (E : ws_E p l s m meth c D h g cI cZ b L xs) {i o : Nat} {z6 z7 z8 : Int32} (ho : o < 30) (hi : i < 49) (h25 : 25 ≤ i) (ih : ∀ (σ τ : tg_Mem) (jj : Nat), sm σ τ → ws_G p l e s m b below meth c D (vg_W h g cI cZ σ τ) (4168 + 2 * ((i + 1) - 25) + 3960 * ((i + 1) / 8 - 3)) jj 298 [(0, .ref b), (1, .ref (h 0)), (2, .ref (g 0)), (3, .int (nI f)), (4, .int 1), (5, .int (nI (i + 1)))] []) (hsm : sm σ τ) (hk : k ≤ 4168 + 2 * (i - 25) + 3960 * (i / 8 - 3)) : ws_G p l e s m b below meth c D (vg_W h g cI cZ σ τ) k jj 416 [(0, .ref b), (1, .ref (h 0)), (2, .ref (g 0)), (3, .int (nI f)), (4, .int 1), (5, .int (nI i)), (6, .int z6), (7, .int z7), (8, .int z8), (9, .int (nI (3 + o)))] [] := by
  have S := E.2.1
  refine vg_aload_n S 1 dL_law_416 rfl rfl ?_
  refine vg_iload S 9 dL_law_417 rfl ?_
  refine vg_iload S 7 dL_law_419 rfl ?_
  refine vg_callA (nA := 3) (As := [.ref (h 0), .int (nI (3 + o)), .int z7]) (rest := []) E.1 S (k_L_does3o E.1.2.2.2.1.1 E.2.2.2.2.1 σ z7 ho) (lq_good in_RL (tw_gS ml_RL_76 st_L_does in_RL co_L_does rfl)) rfl (by decide +kernel) ⟨Nat.le_of_ble_eq_true rfl, Nat.le_of_ble_eq_true rfl⟩ rfl rfl (Nat.le_of_ble_eq_true rfl) dL_law_421 ⟨by show _ ≤ 24000; omega, by show _ ≤ 145000; omega⟩ (fun j2 _ => ?_)
  refine vg_aload_n S 2 dL_law_424 rfl rfl ?_
  refine vg_iload S 9 dL_law_425 rfl ?_
  refine vg_iload S 7 dL_law_427 rfl ?_
  refine vg_callB (nA := 3) (As := [.ref (g 0), .int (nI (3 + o)), .int z7]) (rest := [_]) E.1 S (k_L_does3o E.1.2.2.2.1.2.1 E.2.2.2.2.1 τ z7 ho) (lq_good in_RL (tw_gS ml_RL_76 st_L_does in_RL co_L_does rfl)) rfl (by decide +kernel) ⟨Nat.le_of_ble_eq_true rfl, Nat.le_of_ble_eq_true rfl⟩ rfl rfl (Nat.le_of_ble_eq_true rfl) dL_law_429 ⟨by show _ ≤ 24000; omega, by show _ ≤ 145000; omega⟩ (fun j3 _ => ?_)
  refine vg_icmp_ne (tgt := 494) S dL_law_432 (by decide) (fun c => absurd (sm_join hsm z7 (nI o)).1 c) (fun _ => ?_)
  refine vg_goto (tgt := 461) S dL_law_435 (by decide) ?_
  exact ws_461 E hi h25 ih (sm_join hsm z7 (nI o)).2 (by omega)
set_option maxHeartbeats 4000000 in
theorem ws_438 (E : ws_E p l s m meth c D h g cI cZ b L xs) {i n : Nat} {z7 z8 z9 : Int32} (hn : n < 2 ^ 31) (hi : i < 49) (h25 : 25 ≤ i) (ih : ∀ (σ τ : tg_Mem) (jj : Nat), sm σ τ → ws_G p l e s m b below meth c D (vg_W h g cI cZ σ τ) (4168 + 2 * ((i + 1) - 25) + 3960 * ((i + 1) / 8 - 3)) jj 298 [(0, .ref b), (1, .ref (h 0)), (2, .ref (g 0)), (3, .int (nI f)), (4, .int 1), (5, .int (nI (i + 1)))] []) (hsm : sm σ τ) (hk : k ≤ 4168 + 2 * (i - 25) + 3960 * (i / 8 - 3)) : ws_G p l e s m b below meth c D (vg_W h g cI cZ σ τ) k jj 438 [(0, .ref b), (1, .ref (h 0)), (2, .ref (g 0)), (3, .int (nI f)), (4, .int 1), (5, .int (nI i)), (6, .int (nI n)), (7, .int z7), (8, .int z8), (9, .int z9)] [] := by
  have S := E.2.1
  have hn3 : n / 3 < 2 ^ 31 := by omega
  refine vg_aload_n S 1 dL_law_438 rfl rfl ?_
  refine vg_iload S 7 dL_law_439 rfl ?_
  refine vg_iload S 6 dL_law_441 rfl ?_
  refine vg_iconst (v := nI 3) S dL_law_443 (by decide) ?_
  refine vg_idiv (v := nI (n / 3)) S dL_law_444 (by decide) (pk_div hn (by decide) (by decide)) ?_
  refine vg_callA (nA := 3) (As := [.ref (h 0), .int z7, .int (nI (n / 3))]) (rest := []) E.1 S (k_L_comeZ E.1.2.2.2.1.1 E.2.2.2.2.1 σ z7 hn3) (lq_good in_RL (tw_gS ml_RL_73 st_L_come in_RL co_L_come rfl)) rfl (by decide +kernel) ⟨Nat.le_of_ble_eq_true rfl, Nat.le_of_ble_eq_true rfl⟩ rfl rfl (Nat.le_of_ble_eq_true rfl) dL_law_445 ⟨by show _ ≤ 24000; omega, by show _ ≤ 145000; omega⟩ (fun j2 _ => ?_)
  refine vg_aload_n S 2 dL_law_448 rfl rfl ?_
  refine vg_iload S 7 dL_law_449 rfl ?_
  refine vg_iload S 6 dL_law_451 rfl ?_
  refine vg_iconst (v := nI 3) S dL_law_453 (by decide) ?_
  refine vg_idiv (v := nI (n / 3)) S dL_law_454 (by decide) (pk_div hn (by decide) (by decide)) ?_
  refine vg_callB (nA := 3) (As := [.ref (g 0), .int z7, .int (nI (n / 3))]) (rest := [_]) E.1 S (k_L_comeZ E.1.2.2.2.1.2.1 E.2.2.2.2.1 τ z7 hn3) (lq_good in_RL (tw_gS ml_RL_73 st_L_come in_RL co_L_come rfl)) rfl (by decide +kernel) ⟨Nat.le_of_ble_eq_true rfl, Nat.le_of_ble_eq_true rfl⟩ rfl rfl (Nat.le_of_ble_eq_true rfl) dL_law_455 ⟨by show _ ≤ 24000; omega, by show _ ≤ 145000; omega⟩ (fun j3 _ => ?_)
  refine vg_icmp_ne (tgt := 494) S dL_law_458 (by decide) (fun c => absurd (sm_come hsm z7 (zg (n / 3)) (zp (n / 3)) (zs (n / 3)) (zd (n / 3)) (zw (n / 3))).1 c) (fun _ => ?_)
  exact ws_461 E hi h25 ih (sm_come hsm z7 (zg (n / 3)) (zp (n / 3)) (zs (n / 3)) (zd (n / 3)) (zw (n / 3))).2 (by omega)
set_option maxHeartbeats 4000000 in
theorem ws_P5 (E : ws_E p l s m meth c D h g cI cZ b L xs) (hf : f < 30) : ∀ (n i : Nat) (σ τ : tg_Mem) (jj : Nat), i + n = 49 → 25 ≤ i → sm σ τ → ws_G p l e s m b below meth c D (vg_W h g cI cZ σ τ) (4168 + 2 * (i - 25) + 3960 * (i / 8 - 3)) jj 298 [(0, .ref b), (1, .ref (h 0)), (2, .ref (g 0)), (3, .int (nI f)), (4, .int 1), (5, .int (nI i))] [] := by
  have S := E.2.1
  intro n
  induction n with
  | zero =>
    intro i σ τ jj hi h25 hsm
    have hi2 : i = 49 := by omega
    subst hi2
    refine vg_iload S 5 dL_law_298 rfl ?_
    refine vg_bipush (v := 49) S dL_law_300 (by decide) ?_
    refine vg_icmp_ge (tgt := 503) S dL_law_302 (by decide) (fun _ => ?_) (fun c => absurd (by decide) c)
    exact vg_widen (k1 := 16096) (by decide) (ws_P6 E hsm (by omega))
  | succ n0 ih =>
    intro i σ τ jj hi h25 hsm
    have hi2 : i < 49 := by omega
    have ih2 : ∀ (σ τ : tg_Mem) (jj : Nat), sm σ τ → ws_G p l e s m b below meth c D (vg_W h g cI cZ σ τ) (4168 + 2 * ((i + 1) - 25) + 3960 * ((i + 1) / 8 - 3)) jj 298 [(0, .ref b), (1, .ref (h 0)), (2, .ref (g 0)), (3, .int (nI f)), (4, .int 1), (5, .int (nI (i + 1)))] [] := fun σ τ jj h => ih (i + 1) σ τ jj (by omega) (by omega) h
    refine vg_iload S 5 dL_law_298 rfl ?_
    refine vg_bipush (v := 49) S dL_law_300 (by decide) ?_
    refine vg_icmp_ge (tgt := 503) S dL_law_302 (by decide) (fun c => absurd c (nI_ge hi2 (by decide))) (fun _ => ?_)
    refine vg_iload S 4 dL_law_305 rfl ?_
    refine vg_if_eq (tgt := 503) S dL_law_307 (by decide) (fun c => absurd c (by decide)) (fun _ => ?_)
    refine vg_aload_n S 0 dL_law_310 rfl rfl ?_
    refine vg_iload S 5 dL_law_311 rfl ?_
    refine ws_drawn (i := i) (rest := []) E hi2 rfl (Nat.le_of_ble_eq_true rfl) dL_law_313 (by omega) ?_
    have hn := dn_lt xs L i
    generalize dn xs L i = n at hn ⊢
    refine vg_istore (L' := [(0, .ref b), (1, .ref (h 0)), (2, .ref (g 0)), (3, .int (nI f)), (4, .int 1), (5, .int (nI i)), (6, .int (nI n))]) [1, 2, 3, 4, 5, 6, 0] S dL_law_316 (by decide) rfl ?_
    refine vg_iload_n S 3 dL_law_318 rfl rfl ?_
    refine vg_bipush (v := 7) S dL_law_319 (by decide) ?_
    refine vg_iload S 6 dL_law_321 rfl ?_
    refine vg_bipush (v := nI 8) S dL_law_323 (by decide) ?_
    refine vg_idiv (v := nI (n / 8)) S dL_law_325 (by decide) (pk_div hn (by decide) (by decide)) ?_
    refine vg_bipush (v := nI 16) S dL_law_326 (by decide) ?_
    refine vg_irem (v := nI (n / 8 % 16)) S dL_law_328 (by decide) (pk_rem (by omega) (by decide) (by decide)) ?_
    refine vg_imul (v := nI (7 * (n / 8 % 16))) S dL_law_329 (vr_mul _) ?_
    refine vg_iadd (v := nI (f + 7 * (n / 8 % 16))) S dL_law_330 (nI_add _ _) ?_
    refine vg_bipush (v := nI 30) S dL_law_331 (by decide) ?_
    refine vg_irem (v := nI ((f + 7 * (n / 8 % 16)) % 30)) S dL_law_333 (by decide) (pk_rem (by omega) (by decide) (by decide)) ?_
    refine vg_istore (L' := [(0, .ref b), (1, .ref (h 0)), (2, .ref (g 0)), (3, .int (nI f)), (4, .int 1), (5, .int (nI i)), (6, .int (nI n)), (7, .int (nI ((f + 7 * (n / 8 % 16)) % 30)))]) [1, 2, 3, 4, 5, 6, 7, 0] S dL_law_334 (by decide) rfl ?_
    refine vg_iload_n S 3 dL_law_336 rfl rfl ?_
    refine vg_bipush (v := 7) S dL_law_337 (by decide) ?_
    refine vg_iload S 6 dL_law_339 rfl ?_
    refine vg_sipush (v := nI 128) S dL_law_341 (by decide) ?_
    refine vg_idiv (v := nI (n / 128)) S dL_law_344 (by decide) (pk_div hn (by decide) (by decide)) ?_
    refine vg_bipush (v := nI 16) S dL_law_345 (by decide) ?_
    refine vg_irem (v := nI (n / 128 % 16)) S dL_law_347 (by decide) (pk_rem (by omega) (by decide) (by decide)) ?_
    refine vg_imul (v := nI (7 * (n / 128 % 16))) S dL_law_348 (vr_mul _) ?_
    refine vg_iadd (v := nI (f + 7 * (n / 128 % 16))) S dL_law_349 (nI_add _ _) ?_
    refine vg_bipush (v := nI 30) S dL_law_350 (by decide) ?_
    refine vg_irem (v := nI ((f + 7 * (n / 128 % 16)) % 30)) S dL_law_352 (by decide) (pk_rem (by omega) (by decide) (by decide)) ?_
    refine vg_istore (L' := [(0, .ref b), (1, .ref (h 0)), (2, .ref (g 0)), (3, .int (nI f)), (4, .int 1), (5, .int (nI i)), (6, .int (nI n)), (7, .int (nI ((f + 7 * (n / 8 % 16)) % 30))), (8, .int (nI ((f + 7 * (n / 128 % 16)) % 30)))]) [1, 2, 3, 4, 5, 6, 7, 8, 0] S dL_law_353 (by decide) rfl ?_
    refine vg_iload S 6 dL_law_355 rfl ?_
    refine vg_bipush (v := nI 8) S dL_law_357 (by decide) ?_
    refine vg_irem (v := nI (n % 8)) S dL_law_359 (by decide) (pk_rem hn (by decide) (by decide)) ?_
    refine vg_iconst (v := 3) S dL_law_360 (by decide) ?_
    refine vg_icmp_ge (tgt := 371) S dL_law_361 (by decide) (fun c3 => ?_) (fun c3 => ?_)
    · skip
      refine vg_iload S 6 dL_law_371 rfl ?_
      refine vg_bipush (v := nI 8) S dL_law_373 (by decide) ?_
      refine vg_irem (v := nI (n % 8)) S dL_law_375 (by decide) (pk_rem hn (by decide) (by decide)) ?_
      refine vg_iconst (v := 5) S dL_law_376 (by decide) ?_
      refine vg_icmp_ge (tgt := 384) S dL_law_377 (by decide) (fun c5 => ?_) (fun c5 => ?_)
      · skip
        refine vg_iload S 6 dL_law_384 rfl ?_
        refine vg_bipush (v := nI 8) S dL_law_386 (by decide) ?_
        refine vg_irem (v := nI (n % 8)) S dL_law_388 (by decide) (pk_rem hn (by decide) (by decide)) ?_
        refine vg_iconst (v := 5) S dL_law_389 (by decide) ?_
        refine vg_icmp_ne (tgt := 397) S dL_law_390 (by decide) (fun c6 => ?_) (fun c6 => ?_)
        · skip
          refine vg_iconst (v := 0) S dL_law_397 (by decide) ?_
          refine vg_istore (L' := [(0, .ref b), (1, .ref (h 0)), (2, .ref (g 0)), (3, .int (nI f)), (4, .int 1), (5, .int (nI i)), (6, .int (nI n)), (7, .int (nI ((f + 7 * (n / 8 % 16)) % 30))), (8, .int (nI ((f + 7 * (n / 128 % 16)) % 30))), (9, .int 0)]) [1, 2, 3, 4, 5, 6, 7, 8, 9, 0] S dL_law_398 (by decide) rfl ?_
          refine vg_iload S 9 dL_law_400 rfl ?_
          refine vg_if_gt (tgt := 416) S dL_law_402 (by decide) (fun c => absurd c (by decide)) (fun _ => ?_)
          refine vg_iload S 6 dL_law_405 rfl ?_
          refine vg_sipush (v := nI 2048) S dL_law_407 (by decide) ?_
          refine vg_idiv (v := nI (n / 2048)) S dL_law_410 (by decide) (pk_div hn (by decide) (by decide)) ?_
          refine vg_iconst (v := nI 2) S dL_law_411 (by decide) ?_
          refine vg_irem (v := nI (n / 2048 % 2)) S dL_law_412 (by decide) (pk_rem (by omega) (by decide) (by decide)) ?_
          refine vg_if_ne (tgt := 438) S dL_law_413 (by decide) (fun _ => ?_) (fun _ => ?_)
          · exact ws_438 E hn hi2 h25 ih2 hsm (Nat.le_refl _)
          · exact ws_416a E hi2 h25 ih2 hsm (Nat.le_refl _)
        · skip
          refine vg_iconst (v := 2) S dL_law_393 (by decide) ?_
          refine vg_goto (tgt := 398) S dL_law_394 (by decide) ?_
          refine vg_istore (L' := [(0, .ref b), (1, .ref (h 0)), (2, .ref (g 0)), (3, .int (nI f)), (4, .int 1), (5, .int (nI i)), (6, .int (nI n)), (7, .int (nI ((f + 7 * (n / 8 % 16)) % 30))), (8, .int (nI ((f + 7 * (n / 128 % 16)) % 30))), (9, .int 2)]) [1, 2, 3, 4, 5, 6, 7, 8, 9, 0] S dL_law_398 (by decide) rfl ?_
          refine vg_iload S 9 dL_law_400 rfl ?_
          refine vg_if_gt (tgt := 416) S dL_law_402 (by decide) (fun _ => ?_) (fun c => absurd (by decide) c)
          exact ws_416c E hi2 h25 ih2 hsm (Nat.le_refl _)
      · skip
        refine vg_iconst (v := 1) S dL_law_380 (by decide) ?_
        refine vg_goto (tgt := 398) S dL_law_381 (by decide) ?_
        refine vg_istore (L' := [(0, .ref b), (1, .ref (h 0)), (2, .ref (g 0)), (3, .int (nI f)), (4, .int 1), (5, .int (nI i)), (6, .int (nI n)), (7, .int (nI ((f + 7 * (n / 8 % 16)) % 30))), (8, .int (nI ((f + 7 * (n / 128 % 16)) % 30))), (9, .int 1)]) [1, 2, 3, 4, 5, 6, 7, 8, 9, 0] S dL_law_398 (by decide) rfl ?_
        refine vg_iload S 9 dL_law_400 rfl ?_
        refine vg_if_gt (tgt := 416) S dL_law_402 (by decide) (fun _ => ?_) (fun c => absurd (by decide) c)
        exact ws_416b E hi2 h25 ih2 hsm (Nat.le_refl _)
    · skip
      refine vg_iconst (v := nI 3) S dL_law_364 (by decide) ?_
      refine vg_iload S 8 dL_law_365 rfl ?_
      refine vg_iadd (v := nI (3 + ((f + 7 * (n / 128 % 16)) % 30))) S dL_law_367 (nI_add 3 _) ?_
      refine vg_goto (tgt := 398) S dL_law_368 (by decide) ?_
      refine vg_istore (L' := [(0, .ref b), (1, .ref (h 0)), (2, .ref (g 0)), (3, .int (nI f)), (4, .int 1), (5, .int (nI i)), (6, .int (nI n)), (7, .int (nI ((f + 7 * (n / 8 % 16)) % 30))), (8, .int (nI ((f + 7 * (n / 128 % 16)) % 30))), (9, .int (nI (3 + ((f + 7 * (n / 128 % 16)) % 30))))]) [1, 2, 3, 4, 5, 6, 7, 8, 9, 0] S dL_law_398 (by decide) rfl ?_
      refine vg_iload S 9 dL_law_400 rfl ?_
      refine vg_if_gt (tgt := 416) S dL_law_402 (by decide) (fun _ => ?_) (fun c => absurd (show nI 0 < nI (3 + ((f + 7 * (n / 128 % 16)) % 30)) from nI_lt (by omega) (by omega)) c)
      exact ws_416d E (wi_lt _) hi2 h25 ih2 hsm (Nat.le_refl _)
set_option maxHeartbeats 4000000 in
theorem ws_P4 (E : ws_E p l s m meth c D h g cI cZ b L xs) (hf : f < 30) (ha : wa xs L f 16 σ) : ∀ (n i : Nat) (τ : tg_Mem) (jj : Nat), i + n = 30 → wd xs L f i σ τ → ws_G p l e s m b below meth c D (vg_W h g cI cZ σ τ) (118 + 3 * i) jj 217 [(0, .ref b), (1, .ref (h 0)), (2, .ref (g 0)), (3, .int (nI f)), (4, .int 1), (5, .int (nI i))] [] := by
  have S := E.2.1
  intro n
  induction n with
  | zero =>
    intro i τ jj hi hd
    have hi2 : i = 30 := by omega
    subst hi2
    have hsm := wd_end ha hd
    refine vg_iload S 5 dL_law_217 rfl ?_
    refine vg_bipush (v := 30) S dL_law_219 (by decide) ?_
    refine vg_icmp_ge (tgt := 274) S dL_law_221 (by decide) (fun _ => ?_) (fun c => absurd tg_ge c)
    refine vg_iload S 4 dL_law_274 rfl ?_
    refine vg_if_eq (tgt := 291) S dL_law_276 (by decide) (fun c => absurd c (by decide)) (fun _ => ?_)
    refine vg_aload_n S 1 dL_law_279 rfl rfl ?_
    refine vg_aload_n S 2 dL_law_280 rfl rfl ?_
    refine ws_like (rest := []) E hsm rfl (Nat.le_of_ble_eq_true rfl) dL_law_281 (by omega) ?_
    refine vg_if_eq (tgt := 291) S dL_law_284 (by decide) (fun c => absurd c (by decide)) (fun _ => ?_)
    refine vg_iconst (v := 1) S dL_law_287 (by decide) ?_
    refine vg_goto (tgt := 292) S dL_law_288 (by decide) ?_
    refine vg_istore (L' := [(0, .ref b), (1, .ref (h 0)), (2, .ref (g 0)), (3, .int (nI f)), (4, .int 1), (5, .int (nI 30))]) [1, 2, 3, 4, 0, 5] S dL_law_292 (by decide) rfl ?_
    refine vg_bipush (v := nI 25) S dL_law_294 (by decide) ?_
    refine vg_istore (L' := [(0, .ref b), (1, .ref (h 0)), (2, .ref (g 0)), (3, .int (nI f)), (4, .int 1), (5, .int (nI 25))]) [1, 2, 3, 4, 5, 0] S dL_law_296 (by decide) rfl ?_
    exact vg_widen (k1 := 4168 + 2 * (25 - 25) + 3960 * (25 / 8 - 3)) (by decide) (ws_P5 E hf 24 25 σ τ _ rfl (by omega) hsm)
  | succ n ih =>
    intro i τ jj hi hd
    have hi2 : i < 30 := by omega
    refine vg_iload S 5 dL_law_217 rfl ?_
    refine vg_bipush (v := 30) S dL_law_219 (by decide) ?_
    refine vg_icmp_ge (tgt := 274) S dL_law_221 (by decide) (fun c => absurd c (tg_nge hi2)) (fun _ => ?_)
    refine vg_iload S 4 dL_law_224 rfl ?_
    refine vg_if_eq (tgt := 274) S dL_law_226 (by decide) (fun c => absurd c (by decide)) (fun _ => ?_)
    refine vg_aload_n S 1 dL_law_229 rfl rfl ?_
    refine vg_iconst (v := 0) S dL_law_230 (by decide) ?_
    refine vg_iload S 5 dL_law_231 rfl ?_
    refine vg_callA (nA := 3) (As := [.ref (h 0), .int 0, .int (nI i)]) (rest := []) E.1 S (k_L_of0 E.1.2.2.2.1.1 E.2.2.2.2.1 σ (nI i)) (lq_good in_RL (tw_gS ml_RL_60 st_L_of in_RL co_L_of rfl)) rfl (by decide +kernel) ⟨Nat.le_of_ble_eq_true rfl, Nat.le_of_ble_eq_true rfl⟩ rfl rfl (Nat.le_of_ble_eq_true rfl) dL_law_233 ⟨by show _ ≤ 24000; omega, by show _ ≤ 145000; omega⟩ (fun j2 _ => ?_)
    refine vg_iconst (v := 3) S dL_law_236 (by decide) ?_
    refine vg_icmp_eq (tgt := 261) S dL_law_237 (by decide) (fun c3 => ?_) (fun c3 => ?_)
    · have q1 := (wst (σ := σ) hi2).2.2.1 c3
      refine vg_iconst (v := 1) S dL_law_261 (by decide) ?_
      refine vg_goto (tgt := 266) S dL_law_262 (by decide) ?_
      refine vg_istore (L' := [(0, .ref b), (1, .ref (h 0)), (2, .ref (g 0)), (3, .int (nI f)), (4, .int 1), (5, .int (nI i))]) [1, 2, 3, 4, 0, 5] S dL_law_266 (by decide) rfl ?_
      refine vg_iinc (v := nI (i + 1)) (L' := [(0, .ref b), (1, .ref (h 0)), (2, .ref (g 0)), (3, .int (nI f)), (4, .int 1), (5, .int (nI (i + 1)))]) [1, 2, 3, 4, 5, 0] S 5 dL_law_268 rfl (tg_inc _) (by decide) rfl ?_
      refine vg_goto (tgt := 217) S dL_law_271 (by decide) ?_
      exact vg_widen (k1 := 118 + 3 * (i + 1)) (by omega) (ih (i + 1) τ _ (by omega) (wd_keep hd (fun _ => q1)))
    · have q1 := (wst (σ := σ) hi2).2.2.2 c3
      refine vg_aload_n S 2 dL_law_240 rfl rfl ?_
      refine vg_iconst (v := 0) S dL_law_241 (by decide) ?_
      refine vg_iload S 5 dL_law_242 rfl ?_
      refine vg_callB (nA := 3) (As := [.ref (g 0), .int 0, .int (nI i)]) (rest := []) E.1 S (k_L_of0 E.1.2.2.2.1.2.1 E.2.2.2.2.1 τ (nI i)) (lq_good in_RL (tw_gS ml_RL_60 st_L_of in_RL co_L_of rfl)) rfl (by decide +kernel) ⟨Nat.le_of_ble_eq_true rfl, Nat.le_of_ble_eq_true rfl⟩ rfl rfl (Nat.le_of_ble_eq_true rfl) dL_law_244 ⟨by show _ ≤ 24000; omega, by show _ ≤ 145000; omega⟩ (fun j3 _ => ?_)
      refine vg_iconst (v := 3) S dL_law_247 (by decide) ?_
      refine vg_icmp_lt (tgt := 261) S dL_law_248 (by decide) (fun c4 => ?_) (fun c4 => ?_)
      · have q2 := (wst (σ := τ) hi2).1 c4
        refine vg_iconst (v := 1) S dL_law_261 (by decide) ?_
        refine vg_goto (tgt := 266) S dL_law_262 (by decide) ?_
        refine vg_istore (L' := [(0, .ref b), (1, .ref (h 0)), (2, .ref (g 0)), (3, .int (nI f)), (4, .int 1), (5, .int (nI i))]) [1, 2, 3, 4, 0, 5] S dL_law_266 (by decide) rfl ?_
        refine vg_iinc (v := nI (i + 1)) (L' := [(0, .ref b), (1, .ref (h 0)), (2, .ref (g 0)), (3, .int (nI f)), (4, .int 1), (5, .int (nI (i + 1)))]) [1, 2, 3, 4, 5, 0] S 5 dL_law_268 rfl (tg_inc _) (by decide) rfl ?_
        refine vg_goto (tgt := 217) S dL_law_271 (by decide) ?_
        exact vg_widen (k1 := 118 + 3 * (i + 1)) (by omega) (ih (i + 1) τ _ (by omega) (wd_keep hd (fun w => absurd q2 w)))
      · have q2 := (wst (σ := τ) hi2).2.1 c4
        obtain ⟨d1, d2, d3⟩ := wd_del ha hd hi2 q1 q2
        refine vg_aload_n S 2 dL_law_251 rfl rfl ?_
        refine vg_iconst (v := 0) S dL_law_252 (by decide) ?_
        refine vg_iload S 5 dL_law_253 rfl ?_
        refine vg_callB (nA := 3) (As := [.ref (g 0), .int 0, .int (nI i)]) (rest := []) E.1 S (k_L_does0 E.1.2.2.2.1.2.1 E.2.2.2.2.1 τ (nI i)) (lq_good in_RL (tw_gS ml_RL_76 st_L_does in_RL co_L_does rfl)) rfl (by decide +kernel) ⟨Nat.le_of_ble_eq_true rfl, Nat.le_of_ble_eq_true rfl⟩ rfl rfl (Nat.le_of_ble_eq_true rfl) dL_law_255 ⟨by show _ ≤ 24000; omega, by show _ ≤ 145000; omega⟩ (fun j4 _ => ?_)
        rw [show tl_s (fx_letter τ (nI i)) (fa_grow (fa_drop τ (nI i))) τ = fa_grow (fa_drop τ (nI i)) from (vl_sN d1).symm]
        refine vg_if_lt (tgt := 265) S dL_law_258 (by decide) (fun c => absurd (by rw [← vl_kN d1] at c; exact c) d2) (fun _ => ?_)
        refine vg_iconst (v := 1) S dL_law_261 (by decide) ?_
        refine vg_goto (tgt := 266) S dL_law_262 (by decide) ?_
        refine vg_istore (L' := [(0, .ref b), (1, .ref (h 0)), (2, .ref (g 0)), (3, .int (nI f)), (4, .int 1), (5, .int (nI i))]) [1, 2, 3, 4, 0, 5] S dL_law_266 (by decide) rfl ?_
        refine vg_iinc (v := nI (i + 1)) (L' := [(0, .ref b), (1, .ref (h 0)), (2, .ref (g 0)), (3, .int (nI f)), (4, .int 1), (5, .int (nI (i + 1)))]) [1, 2, 3, 4, 5, 0] S 5 dL_law_268 rfl (tg_inc _) (by decide) rfl ?_
        refine vg_goto (tgt := 217) S dL_law_271 (by decide) ?_
        exact vg_widen (k1 := 118 + 3 * (i + 1)) (by omega) (ih (i + 1) _ _ (by omega) d3)
set_option maxHeartbeats 4000000 in
theorem ws_P3b (E : ws_E p l s m meth c D h g cI cZ b L xs) {n : Nat} (hn : n < 16) (ih : ∀ (τ : tg_Mem) (jj : Nat), wc xs L f n τ → ws_G p l e s m b below meth c D (vg_W h g cI cZ σ τ) (70 + 3 * (16 - n)) jj 141 [(0, .ref b), (1, .ref (h 0)), (2, .ref (g 0)), (3, .int (nI f)), (4, .int 1), (5, .int (nI n - 1))] []) (hc : wc xs L f (n + 1) τ) (h0 : τ 0 ((f + 7 * n) % 30) = 0) (hk : k + 1 ≤ 70 + 3 * (16 - n)) : ws_G p l e s m b below meth c D (vg_W h g cI cZ σ τ) k jj 184 [(0, .ref b), (1, .ref (h 0)), (2, .ref (g 0)), (3, .int (nI f)), (4, .int 1), (5, .int (nI n)), (6, .int (nI ((f + 7 * n) % 30)))] [] := by
  have S := E.2.1
  obtain ⟨e1, e2, e3⟩ := wc_come hc hn h0
  refine vg_aload_n S 2 dL_law_184 rfl rfl ?_
  refine vg_iload S 6 dL_law_185 rfl ?_
  refine vg_aload_n S 0 dL_law_187 rfl rfl ?_
  refine vg_iconst (v := 1) S dL_law_188 (by decide) ?_
  refine vg_iload S 5 dL_law_189 rfl ?_
  refine vg_iadd (v := nI (1 + n)) S dL_law_191 (nI_add 1 n) ?_
  refine ws_drawn (i := 1 + n) (rest := [_, _]) E (by omega) rfl (Nat.le_of_ble_eq_true rfl) dL_law_192 (by omega) ?_
  refine vg_callB (nA := 3) (As := [.ref (g 0), .int (nI ((f + 7 * n) % 30)), .int (nI (dn xs L (1 + n)))]) (rest := []) E.1 S (k_L_comeZ E.1.2.2.2.1.2.1 E.2.2.2.2.1 τ (nI ((f + 7 * n) % 30)) (dn_lt xs L (1 + n))) (lq_good in_RL (tw_gS ml_RL_73 st_L_come in_RL co_L_come rfl)) rfl (by decide +kernel) ⟨Nat.le_of_ble_eq_true rfl, Nat.le_of_ble_eq_true rfl⟩ rfl rfl (Nat.le_of_ble_eq_true rfl) dL_law_195 ⟨by show _ ≤ 24000; omega, by show _ ≤ 145000; omega⟩ (fun j2 _ => ?_)
  rw [show tl_s (zex τ (nI ((f + 7 * n) % 30)) (dn xs L (1 + n))) (fa_grow (zput τ (nI ((f + 7 * n) % 30)) (dn xs L (1 + n)))) τ = fa_grow (zput τ (nI ((f + 7 * n) % 30)) (dn xs L (1 + n))) from (vl_sN e1).symm]
  refine vg_if_lt (tgt := 205) S dL_law_198 (by decide) (fun c => absurd (by rw [← vl_kN e1] at c; exact c) e2) (fun _ => ?_)
  refine vg_iconst (v := 1) S dL_law_201 (by decide) ?_
  refine vg_goto (tgt := 206) S dL_law_202 (by decide) ?_
  refine vg_istore (L' := [(0, .ref b), (1, .ref (h 0)), (2, .ref (g 0)), (3, .int (nI f)), (4, .int 1), (5, .int (nI n)), (6, .int (nI ((f + 7 * n) % 30)))]) [1, 2, 3, 4, 0, 5, 6] S dL_law_206 (by decide) rfl ?_
  refine vg_iinc (v := nI n - 1) (L' := [(0, .ref b), (1, .ref (h 0)), (2, .ref (g 0)), (3, .int (nI f)), (4, .int 1), (5, .int (nI n - 1)), (6, .int (nI ((f + 7 * n) % 30)))]) [1, 2, 3, 4, 5, 0, 6] S 5 dL_law_208 rfl (vr_dec n hn) (by decide) rfl ?_
  refine vg_goto (tgt := 141) S dL_law_211 (by decide) ?_
  refine vg_sub (L' := [(0, .ref b), (1, .ref (h 0)), (2, .ref (g 0)), (3, .int (nI f)), (4, .int 1), (5, .int (nI n - 1))]) [0, 1, 2, 3, 4, 5] rfl ?_
  exact vg_widen hk (ih _ _ e3)
set_option maxHeartbeats 4000000 in
theorem ws_P3 (E : ws_E p l s m meth c D h g cI cZ b L xs) (hf : f < 30) (ha : wa xs L f 16 σ) : ∀ (n : Nat) (τ : tg_Mem) (jj : Nat), n ≤ 16 → wc xs L f n τ → ws_G p l e s m b below meth c D (vg_W h g cI cZ σ τ) (70 + 3 * (16 - n)) jj 141 [(0, .ref b), (1, .ref (h 0)), (2, .ref (g 0)), (3, .int (nI f)), (4, .int 1), (5, .int (nI n - 1))] [] := by
  have S := E.2.1
  intro n
  induction n with
  | zero =>
    intro τ jj hn hc
    refine vg_iload S 5 dL_law_141 rfl ?_
    refine vg_if_lt (tgt := 214) S dL_law_143 (by decide) (fun _ => ?_) (fun c => absurd (by decide) c)
    refine vg_iconst (v := nI 0) S dL_law_214 (by decide) ?_
    refine vg_istore (L' := [(0, .ref b), (1, .ref (h 0)), (2, .ref (g 0)), (3, .int (nI f)), (4, .int 1), (5, .int (nI 0))]) [1, 2, 3, 4, 5, 0] S dL_law_215 (by decide) rfl ?_
    exact ws_P4 E hf ha 30 0 τ jj rfl ⟨hc, fun j hj => absurd hj (Nat.not_lt_zero j)⟩
  | succ n ih =>
    intro τ jj hn hc
    rw [nI_pred]
    have hn2 : n < 16 := by omega
    have hx : ((f + 7 * n) % 30) < 30 := wi_lt _
    refine vg_iload S 5 dL_law_141 rfl ?_
    refine vg_if_lt (tgt := 214) S dL_law_143 (by decide) (fun c => absurd c (nI_pos (by omega))) (fun _ => ?_)
    refine vg_iload S 4 dL_law_146 rfl ?_
    refine vg_if_eq (tgt := 214) S dL_law_148 (by decide) (fun c => absurd c (by decide)) (fun _ => ?_)
    refine vg_iload_n S 3 dL_law_151 rfl rfl ?_
    refine vg_bipush (v := 7) S dL_law_152 (by decide) ?_
    refine vg_iload S 5 dL_law_154 rfl ?_
    refine vg_imul (v := nI (7 * n)) S dL_law_156 (vr_mul _) ?_
    refine vg_iadd (v := nI (f + 7 * n)) S dL_law_157 (nI_add _ _) ?_
    refine vg_bipush (v := nI 30) S dL_law_158 (by decide) ?_
    refine vg_irem (v := nI ((f + 7 * n) % 30)) S dL_law_160 (by decide) (pk_rem (by omega) (by decide) (by decide)) ?_
    refine vg_istore (L' := [(0, .ref b), (1, .ref (h 0)), (2, .ref (g 0)), (3, .int (nI f)), (4, .int 1), (5, .int (nI n)), (6, .int (nI ((f + 7 * n) % 30)))]) [1, 2, 3, 4, 5, 6, 0] S dL_law_161 (by decide) rfl ?_
    refine vg_aload_n S 2 dL_law_163 rfl rfl ?_
    refine vg_iconst (v := 0) S dL_law_164 (by decide) ?_
    refine vg_iload S 6 dL_law_165 rfl ?_
    refine vg_callB (nA := 3) (As := [.ref (g 0), .int 0, .int (nI ((f + 7 * n) % 30))]) (rest := []) E.1 S (k_L_of0 E.1.2.2.2.1.2.1 E.2.2.2.2.1 τ (nI ((f + 7 * n) % 30))) (lq_good in_RL (tw_gS ml_RL_60 st_L_of in_RL co_L_of rfl)) rfl (by decide +kernel) ⟨Nat.le_of_ble_eq_true rfl, Nat.le_of_ble_eq_true rfl⟩ rfl rfl (Nat.le_of_ble_eq_true rfl) dL_law_167 ⟨by show _ ≤ 24000; omega, by show _ ≤ 145000; omega⟩ (fun j2 _ => ?_)
    refine vg_iconst (v := 3) S dL_law_170 (by decide) ?_
    refine vg_icmp_lt (tgt := 184) S dL_law_171 (by decide) (fun c3 => ?_) (fun c3 => ?_)
    · exact ws_P3b E hn2 (fun τ jj h => ih τ jj (by omega) h) hc ((wst (σ := τ) hx).1 c3) (by omega)
    · obtain ⟨d1, d2, d3, d4⟩ := wc_del hc hn2 ((wst (σ := τ) hx).2.1 c3)
      refine vg_aload_n S 2 dL_law_174 rfl rfl ?_
      refine vg_iconst (v := 0) S dL_law_175 (by decide) ?_
      refine vg_iload S 6 dL_law_176 rfl ?_
      refine vg_callB (nA := 3) (As := [.ref (g 0), .int 0, .int (nI ((f + 7 * n) % 30))]) (rest := []) E.1 S (k_L_does0 E.1.2.2.2.1.2.1 E.2.2.2.2.1 τ (nI ((f + 7 * n) % 30))) (lq_good in_RL (tw_gS ml_RL_76 st_L_does in_RL co_L_does rfl)) rfl (by decide +kernel) ⟨Nat.le_of_ble_eq_true rfl, Nat.le_of_ble_eq_true rfl⟩ rfl rfl (Nat.le_of_ble_eq_true rfl) dL_law_178 ⟨by show _ ≤ 24000; omega, by show _ ≤ 145000; omega⟩ (fun j3 _ => ?_)
      rw [show tl_s (fx_letter τ (nI ((f + 7 * n) % 30))) (fa_grow (fa_drop τ (nI ((f + 7 * n) % 30)))) τ = fa_grow (fa_drop τ (nI ((f + 7 * n) % 30))) from (vl_sN d1).symm]
      refine vg_if_lt (tgt := 205) S dL_law_181 (by decide) (fun c => absurd (by rw [← vl_kN d1] at c; exact c) d2) (fun _ => ?_)
      exact ws_P3b E hn2 (fun τ jj h => ih τ jj (by omega) h) d3 d4 (by omega)
set_option maxHeartbeats 4000000 in
theorem ws_P2 (E : ws_E p l s m meth c D h g cI cZ b L xs) (hf : f < 30) (ha : wa xs L f 16 σ) : ∀ (n i : Nat) (τ : tg_Mem) (jj : Nat), i + n = 8 → wb f i τ → ws_G p l e s m b below meth c D (vg_W h g cI cZ σ τ) (62 + i) jj 84 [(0, .ref b), (1, .ref (h 0)), (2, .ref (g 0)), (3, .int (nI f)), (4, .int 1), (5, .int (nI i))] [] := by
  have S := E.2.1
  intro n
  induction n with
  | zero =>
    intro i τ jj hi hb
    have hi2 : i = 8 := by omega
    subst hi2
    refine vg_iload S 5 dL_law_84 rfl ?_
    refine vg_bipush (v := 8) S dL_law_86 (by decide) ?_
    refine vg_icmp_ge (tgt := 137) S dL_law_88 (by decide) (fun _ => ?_) (fun c => absurd (by decide) c)
    refine vg_bipush (v := nI 16 - 1) S dL_law_137 (by decide) ?_
    refine vg_istore (L' := [(0, .ref b), (1, .ref (h 0)), (2, .ref (g 0)), (3, .int (nI f)), (4, .int 1), (5, .int (nI 16 - 1))]) [1, 2, 3, 4, 5, 0] S dL_law_139 (by decide) rfl ?_
    exact ws_P3 E hf ha 16 τ jj (Nat.le_refl _) ⟨hb.1, fun q h1 h2 => absurd h1 (by omega)⟩
  | succ n ih =>
    intro i τ jj hi hb
    have hi2 : i < 8 := by omega
    obtain ⟨e1, e2, e3⟩ := wb_step (n := dn xs L (17 + i)) hb hi2
    refine vg_iload S 5 dL_law_84 rfl ?_
    refine vg_bipush (v := 8) S dL_law_86 (by decide) ?_
    refine vg_icmp_ge (tgt := 137) S dL_law_88 (by decide) (fun c => absurd c (nI_ge hi2 (by decide))) (fun _ => ?_)
    refine vg_iload S 4 dL_law_91 rfl ?_
    refine vg_if_eq (tgt := 137) S dL_law_93 (by decide) (fun c => absurd c (by decide)) (fun _ => ?_)
    refine vg_aload_n S 2 dL_law_96 rfl rfl ?_
    refine vg_iload_n S 3 dL_law_97 rfl rfl ?_
    refine vg_bipush (v := 7) S dL_law_98 (by decide) ?_
    refine vg_iload S 5 dL_law_100 rfl ?_
    refine vg_imul (v := nI (7 * i)) S dL_law_102 (vr_mul _) ?_
    refine vg_iadd (v := nI (f + 7 * i)) S dL_law_103 (nI_add _ _) ?_
    refine vg_iconst (v := nI 2) S dL_law_104 (by decide) ?_
    refine vg_iadd (v := nI (f + 7 * i + 2)) S dL_law_105 (nI_add _ _) ?_
    refine vg_bipush (v := nI 30) S dL_law_106 (by decide) ?_
    refine vg_irem (v := nI ((f + 7 * i + 2) % 30)) S dL_law_108 (by decide) (pk_rem (by omega) (by decide) (by decide)) ?_
    refine vg_aload_n S 0 dL_law_109 rfl rfl ?_
    refine vg_bipush (v := 17) S dL_law_110 (by decide) ?_
    refine vg_iload S 5 dL_law_112 rfl ?_
    refine vg_iadd (v := nI (17 + i)) S dL_law_114 (nI_add 17 i) ?_
    refine ws_drawn (i := 17 + i) (rest := [_, _]) E (by omega) rfl (Nat.le_of_ble_eq_true rfl) dL_law_115 (by omega) ?_
    refine vg_callB (nA := 3) (As := [.ref (g 0), .int (nI ((f + 7 * i + 2) % 30)), .int (nI (dn xs L (17 + i)))]) (rest := []) E.1 S (k_L_comeZ E.1.2.2.2.1.2.1 E.2.2.2.2.1 τ (nI ((f + 7 * i + 2) % 30)) (dn_lt xs L (17 + i))) (lq_good in_RL (tw_gS ml_RL_73 st_L_come in_RL co_L_come rfl)) rfl (by decide +kernel) ⟨Nat.le_of_ble_eq_true rfl, Nat.le_of_ble_eq_true rfl⟩ rfl rfl (Nat.le_of_ble_eq_true rfl) dL_law_118 ⟨by show _ ≤ 24000; omega, by show _ ≤ 145000; omega⟩ (fun j2 _ => ?_)
    rw [show tl_s (zex τ (nI ((f + 7 * i + 2) % 30)) (dn xs L (17 + i))) (fa_grow (zput τ (nI ((f + 7 * i + 2) % 30)) (dn xs L (17 + i)))) τ = fa_grow (zput τ (nI ((f + 7 * i + 2) % 30)) (dn xs L (17 + i))) from (vl_sN e1).symm]
    refine vg_if_lt (tgt := 128) S dL_law_121 (by decide) (fun c => absurd (by rw [← vl_kN e1] at c; exact c) e2) (fun _ => ?_)
    refine vg_iconst (v := 1) S dL_law_124 (by decide) ?_
    refine vg_goto (tgt := 129) S dL_law_125 (by decide) ?_
    refine vg_istore (L' := [(0, .ref b), (1, .ref (h 0)), (2, .ref (g 0)), (3, .int (nI f)), (4, .int 1), (5, .int (nI i))]) [1, 2, 3, 4, 0, 5] S dL_law_129 (by decide) rfl ?_
    refine vg_iinc (v := nI (i + 1)) (L' := [(0, .ref b), (1, .ref (h 0)), (2, .ref (g 0)), (3, .int (nI f)), (4, .int 1), (5, .int (nI (i + 1)))]) [1, 2, 3, 4, 5, 0] S 5 dL_law_131 rfl (tg_inc _) (by decide) rfl ?_
    refine vg_goto (tgt := 84) S dL_law_134 (by decide) ?_
    exact vg_widen (k1 := 62 + (i + 1)) (by omega) (ih (i + 1) _ _ (by omega) e3)
set_option maxHeartbeats 4000000 in
theorem ws_P1 (E : ws_E p l s m meth c D h g cI cZ b L xs) (hf : f < 30) (hb : wb f 0 τ) : ∀ (n i : Nat) (σ : tg_Mem) (jj : Nat), i + n = 16 → wa xs L f i σ → ws_G p l e s m b below meth c D (vg_W h g cI cZ σ τ) (46 + i) jj 31 [(0, .ref b), (1, .ref (h 0)), (2, .ref (g 0)), (3, .int (nI f)), (4, .int 1), (5, .int (nI i))] [] := by
  have S := E.2.1
  intro n
  induction n with
  | zero =>
    intro i σ jj hi ha
    have hi2 : i = 16 := by omega
    subst hi2
    refine vg_iload S 5 dL_law_31 rfl ?_
    refine vg_bipush (v := 16) S dL_law_33 (by decide) ?_
    refine vg_icmp_ge (tgt := 81) S dL_law_35 (by decide) (fun _ => ?_) (fun c => absurd (by decide) c)
    refine vg_iconst (v := nI 0) S dL_law_81 (by decide) ?_
    refine vg_istore (L' := [(0, .ref b), (1, .ref (h 0)), (2, .ref (g 0)), (3, .int (nI f)), (4, .int 1), (5, .int (nI 0))]) [1, 2, 3, 4, 5, 0] S dL_law_82 (by decide) rfl ?_
    exact ws_P2 E hf ha 8 0 τ jj rfl hb
  | succ n ih =>
    intro i σ jj hi ha
    have hi2 : i < 16 := by omega
    obtain ⟨e1, e2, e3⟩ := wa_step ha hi2
    refine vg_iload S 5 dL_law_31 rfl ?_
    refine vg_bipush (v := 16) S dL_law_33 (by decide) ?_
    refine vg_icmp_ge (tgt := 81) S dL_law_35 (by decide) (fun c => absurd c (nI_ge hi2 (by decide))) (fun _ => ?_)
    refine vg_iload S 4 dL_law_38 rfl ?_
    refine vg_if_eq (tgt := 81) S dL_law_40 (by decide) (fun c => absurd c (by decide)) (fun _ => ?_)
    refine vg_aload_n S 1 dL_law_43 rfl rfl ?_
    refine vg_iload_n S 3 dL_law_44 rfl rfl ?_
    refine vg_bipush (v := 7) S dL_law_45 (by decide) ?_
    refine vg_iload S 5 dL_law_47 rfl ?_
    refine vg_imul (v := nI (7 * i)) S dL_law_49 (vr_mul i) ?_
    refine vg_iadd (v := nI (f + 7 * i)) S dL_law_50 (nI_add _ _) ?_
    refine vg_bipush (v := nI 30) S dL_law_51 (by decide) ?_
    refine vg_irem (v := nI ((f + 7 * i) % 30)) S dL_law_53 (by decide) (pk_rem (by omega) (by decide) (by decide)) ?_
    refine vg_aload_n S 0 dL_law_54 rfl rfl ?_
    refine vg_iconst (v := 1) S dL_law_55 (by decide) ?_
    refine vg_iload S 5 dL_law_56 rfl ?_
    refine vg_iadd (v := nI (1 + i)) S dL_law_58 (nI_add 1 i) ?_
    refine ws_drawn (i := 1 + i) (rest := [_, _]) E (by omega) rfl (Nat.le_of_ble_eq_true rfl) dL_law_59 (by omega) ?_
    refine vg_callA (nA := 3) (As := [.ref (h 0), .int (nI ((f + 7 * i) % 30)), .int (nI (dn xs L (1 + i)))]) (rest := []) E.1 S (k_L_comeZ E.1.2.2.2.1.1 E.2.2.2.2.1 σ (nI ((f + 7 * i) % 30)) (dn_lt xs L (1 + i))) (lq_good in_RL (tw_gS ml_RL_73 st_L_come in_RL co_L_come rfl)) rfl (by decide +kernel) ⟨Nat.le_of_ble_eq_true rfl, Nat.le_of_ble_eq_true rfl⟩ rfl rfl (Nat.le_of_ble_eq_true rfl) dL_law_62 ⟨by show _ ≤ 24000; omega, by show _ ≤ 145000; omega⟩ (fun j2 _ => ?_)
    rw [show tl_s (zex σ (nI ((f + 7 * i) % 30)) (dn xs L (1 + i))) (fa_grow (zput σ (nI ((f + 7 * i) % 30)) (dn xs L (1 + i)))) σ = fa_grow (zput σ (nI ((f + 7 * i) % 30)) (dn xs L (1 + i))) from (vl_sN e1).symm]
    refine vg_if_lt (tgt := 72) S dL_law_65 (by decide) (fun c => absurd (by rw [← vl_kN e1] at c; exact c) e2) (fun _ => ?_)
    refine vg_iconst (v := 1) S dL_law_68 (by decide) ?_
    refine vg_goto (tgt := 73) S dL_law_69 (by decide) ?_
    refine vg_istore (L' := [(0, .ref b), (1, .ref (h 0)), (2, .ref (g 0)), (3, .int (nI f)), (4, .int 1), (5, .int (nI i))]) [1, 2, 3, 4, 0, 5] S dL_law_73 (by decide) rfl ?_
    refine vg_iinc (v := nI (i + 1)) (L' := [(0, .ref b), (1, .ref (h 0)), (2, .ref (g 0)), (3, .int (nI f)), (4, .int 1), (5, .int (nI (i + 1)))]) [1, 2, 3, 4, 5, 0] S 5 dL_law_75 rfl (tg_inc _) (by decide) rfl ?_
    refine vg_goto (tgt := 31) S dL_law_78 (by decide) ?_
    exact vg_widen (k1 := 46 + (i + 1)) (by omega) (ih (i + 1) _ _ (by omega) e3)
set_option maxHeartbeats 4000000 in
theorem ws_P0 (E : ws_E p l s m meth c D h g cI cZ b L xs)  : ws_G p l e s m b below meth c D (vg_W h g cI cZ (fun _ _ => 0) (fun _ _ => 0)) 46 0 16 [(0, .ref b), (1, .ref (h 0)), (2, .ref (g 0))] [] := by
  have S := E.2.1
  refine vg_aload_n S 0 dL_law_16 rfl rfl ?_
  refine vg_iconst (v := nI 0) S dL_law_17 (by decide) ?_
  refine ws_drawn (i := 0) (rest := []) E (by decide) rfl (Nat.le_of_ble_eq_true rfl) dL_law_18 (by omega) ?_
  refine vg_bipush (v := nI 30) S dL_law_21 (by decide) ?_
  refine vg_irem (v := nI (dn xs L 0 % 30)) S dL_law_23 (by decide) (pk_rem (dn_lt xs L 0) (by decide) (by decide)) ?_
  refine vg_istore_n (L' := [(0, .ref b), (1, .ref (h 0)), (2, .ref (g 0)), (3, .int (nI (dn xs L 0 % 30)))]) [1, 2, 3, 0] S dL_law_24 rfl (by decide) rfl ?_
  refine vg_iconst (v := 1) S dL_law_25 (by decide) ?_
  refine vg_istore (L' := [(0, .ref b), (1, .ref (h 0)), (2, .ref (g 0)), (3, .int (nI (dn xs L 0 % 30))), (4, .int 1)]) [1, 2, 3, 4, 0] S dL_law_26 (by decide) rfl ?_
  refine vg_iconst (v := nI 0) S dL_law_28 (by decide) ?_
  refine vg_istore (L' := [(0, .ref b), (1, .ref (h 0)), (2, .ref (g 0)), (3, .int (nI (dn xs L 0 % 30))), (4, .int 1), (5, .int (nI 0))]) [1, 2, 3, 4, 5, 0] S dL_law_29 (by decide) rfl ?_
  exact ws_P1 E (wi_lt _) wb_0 16 0 (fun _ _ => 0) 0 rfl wa_0
end WSW
