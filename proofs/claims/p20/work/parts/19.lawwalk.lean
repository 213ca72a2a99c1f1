/-! ===== 19: the law's walk at a script of zeros, in a larger room (printed by wip/p20/genR.py) ===== -/
theorem vr_rem : ∀ i, i < 16 → nI (7 * i) - nI (7 * i) / 30 * 30 = nI (7 * i % 30) := by decide +kernel
theorem vr_mod8 : ∀ i, i < 49 → nI i - nI i / 8 * 8 = nI (i % 8) := by decide +kernel
theorem vr_dec : ∀ i, i < 16 → nI i + Int32.ofInt (-1) = nI i - 1 := by decide +kernel
theorem vr_mul (i : Nat) : 7 * nI i = nI (7 * i) := (Int32.ofNat_mul 7 i).symm
theorem vr_lt7 {i : Nat} (hi : i < 49) : nI (i % 8) < 7 ↔ i % 8 < 7 := nI_ltI (a := i % 8) (b := 7) (by omega) (by omega)
theorem vr_Ns {ex : Option String} {x y : tg_Mem} (h1 : vn_N x) (h2 : vn_N y) : vn_N (tl_s ex x y) := by
  cases ex with
  | none => exact h1
  | some _ => exact h2
theorem vr_mj {P : Prop} {jj j2 : Nat} (h : (P ∧ j2 = jj) ∨ (¬ P ∧ j2 = jj + 1)) : jj ≤ j2 := by rcases h with ⟨-, h⟩ | ⟨-, h⟩ <;> omega
section VRW
variable {p : Program} {l : Launch} {e : Env} {s : State} {m : MethodId} {below : List Frame} {meth : Method} {c : Code} {D : va_G} {h g : Nat → Nat} {cI cZ : ClassId} {σ τ : tg_Mem} {k jj b : Nat} {xs : Nat → Int32} {ww : va_W}
set_option maxHeartbeats 4000000 in
theorem vr_F520 (E : vr_E p l s m meth c D h g cI cZ b xs) {L : List (Nat × Value)} (hk : k ≤ 15000) : vr_G p l e s m b below meth c D ww k jj 520 L [] := by
  have S := E.2.1
  refine vg_widen hk ?_
  refine vg_iconst (v := 0) S dL_law_520 (by decide) ?_
  exact vr_ret (f := false) E (fun c => absurd c (by decide))
set_option maxHeartbeats 4000000 in
theorem vr_F503 (E : vr_E p l s m meth c D h g cI cZ b xs) {v : Int32} (hk : k ≤ 15000) : vr_G p l e s m b below meth c D ww k jj 503 [(0, .ref b), (1, .ref (h 0)), (2, .ref (g 0)), (3, .int 0), (4, .int 0), (5, .int v)] [] := by
  have S := E.2.1
  refine vg_iload S 4 dL_law_503 rfl ?_
  refine vg_if_eq (tgt := 520) S dL_law_505 (by decide) (fun _ => vr_F520 E hk) (fun c => absurd rfl c)
set_option maxHeartbeats 4000000 in
theorem vr_F298 (E : vr_E p l s m meth c D h g cI cZ b xs) {v : Int32} (hk : k ≤ 15000) : vr_G p l e s m b below meth c D ww k jj 298 [(0, .ref b), (1, .ref (h 0)), (2, .ref (g 0)), (3, .int 0), (4, .int 0), (5, .int v)] [] := by
  have S := E.2.1
  refine vg_iload S 5 dL_law_298 rfl ?_
  refine vg_bipush (v := 49) S dL_law_300 (by decide) ?_
  refine vg_icmp_ge (tgt := 503) S dL_law_302 (by decide) (fun _ => vr_F503 E hk) (fun _ => ?_)
  refine vg_iload S 4 dL_law_305 rfl ?_
  refine vg_if_eq (tgt := 503) S dL_law_307 (by decide) (fun _ => vr_F503 E hk) (fun c => absurd rfl c)
set_option maxHeartbeats 4000000 in
theorem vr_F294 (E : vr_E p l s m meth c D h g cI cZ b xs) (hk : k ≤ 15000) : vr_G p l e s m b below meth c D ww k jj 294 [(0, .ref b), (1, .ref (h 0)), (2, .ref (g 0)), (3, .int 0), (4, .int 0)] [] := by
  have S := E.2.1
  refine vg_bipush (v := 25) S dL_law_294 (by decide) ?_
  refine vg_istore (L' := [(0, .ref b), (1, .ref (h 0)), (2, .ref (g 0)), (3, .int 0), (4, .int 0), (5, .int 25)]) [1, 2, 3, 4, 5, 0] S dL_law_296 (by decide) rfl ?_
  exact vr_F298 E hk
set_option maxHeartbeats 4000000 in
theorem vr_F291 (E : vr_E p l s m meth c D h g cI cZ b xs) {i4 : Int32} (hk : k ≤ 15000) : vr_G p l e s m b below meth c D ww k jj 291 [(0, .ref b), (1, .ref (h 0)), (2, .ref (g 0)), (3, .int 0), (4, .int i4)] [] := by
  have S := E.2.1
  refine vg_iconst (v := 0) S dL_law_291 (by decide) ?_
  refine vg_istore (L' := [(0, .ref b), (1, .ref (h 0)), (2, .ref (g 0)), (3, .int 0), (4, .int 0)]) [1, 2, 3, 4, 0] S dL_law_292 (by decide) rfl ?_
  exact vr_F294 E hk
set_option maxHeartbeats 4000000 in
theorem vr_F274 (E : vr_E p l s m meth c D h g cI cZ b xs) {v : Int32} (hk : k ≤ 15000) : vr_G p l e s m b below meth c D ww k jj 274 [(0, .ref b), (1, .ref (h 0)), (2, .ref (g 0)), (3, .int 0), (4, .int 0), (5, .int v)] [] := by
  have S := E.2.1
  refine vg_iload S 4 dL_law_274 rfl ?_
  refine vg_if_eq (tgt := 291) S dL_law_276 (by decide) (fun _ => ?_) (fun c => absurd rfl c)
  refine vg_sub (L' := [(0, .ref b), (1, .ref (h 0)), (2, .ref (g 0)), (3, .int 0), (4, .int 0)]) [0, 1, 2, 3, 4] rfl ?_
  exact vr_F291 E hk
set_option maxHeartbeats 4000000 in
theorem vr_F217 (E : vr_E p l s m meth c D h g cI cZ b xs) {v : Int32} (hk : k ≤ 15000) : vr_G p l e s m b below meth c D ww k jj 217 [(0, .ref b), (1, .ref (h 0)), (2, .ref (g 0)), (3, .int 0), (4, .int 0), (5, .int v)] [] := by
  have S := E.2.1
  refine vg_iload S 5 dL_law_217 rfl ?_
  refine vg_bipush (v := 30) S dL_law_219 (by decide) ?_
  refine vg_icmp_ge (tgt := 274) S dL_law_221 (by decide) (fun _ => vr_F274 E hk) (fun _ => ?_)
  refine vg_iload S 4 dL_law_224 rfl ?_
  refine vg_if_eq (tgt := 274) S dL_law_226 (by decide) (fun _ => vr_F274 E hk) (fun c => absurd rfl c)
set_option maxHeartbeats 4000000 in
theorem vr_F214 (E : vr_E p l s m meth c D h g cI cZ b xs) {v : Int32} (hk : k ≤ 15000) : vr_G p l e s m b below meth c D ww k jj 214 [(0, .ref b), (1, .ref (h 0)), (2, .ref (g 0)), (3, .int 0), (4, .int 0), (5, .int v)] [] := by
  have S := E.2.1
  refine vg_iconst (v := 0) S dL_law_214 (by decide) ?_
  refine vg_istore (L' := [(0, .ref b), (1, .ref (h 0)), (2, .ref (g 0)), (3, .int 0), (4, .int 0), (5, .int 0)]) [1, 2, 3, 4, 5, 0] S dL_law_215 (by decide) rfl ?_
  exact vr_F217 E hk
set_option maxHeartbeats 4000000 in
theorem vr_F141 (E : vr_E p l s m meth c D h g cI cZ b xs) {v : Int32} (hk : k ≤ 15000) : vr_G p l e s m b below meth c D ww k jj 141 [(0, .ref b), (1, .ref (h 0)), (2, .ref (g 0)), (3, .int 0), (4, .int 0), (5, .int v)] [] := by
  have S := E.2.1
  refine vg_iload S 5 dL_law_141 rfl ?_
  refine vg_if_lt (tgt := 214) S dL_law_143 (by decide) (fun _ => vr_F214 E hk) (fun _ => ?_)
  refine vg_iload S 4 dL_law_146 rfl ?_
  refine vg_if_eq (tgt := 214) S dL_law_148 (by decide) (fun _ => vr_F214 E hk) (fun c => absurd rfl c)
set_option maxHeartbeats 4000000 in
theorem vr_F137 (E : vr_E p l s m meth c D h g cI cZ b xs) {v : Int32} (hk : k ≤ 15000) : vr_G p l e s m b below meth c D ww k jj 137 [(0, .ref b), (1, .ref (h 0)), (2, .ref (g 0)), (3, .int 0), (4, .int 0), (5, .int v)] [] := by
  have S := E.2.1
  refine vg_bipush (v := 15) S dL_law_137 (by decide) ?_
  refine vg_istore (L' := [(0, .ref b), (1, .ref (h 0)), (2, .ref (g 0)), (3, .int 0), (4, .int 0), (5, .int 15)]) [1, 2, 3, 4, 5, 0] S dL_law_139 (by decide) rfl ?_
  exact vr_F141 E hk
set_option maxHeartbeats 4000000 in
theorem vr_F84 (E : vr_E p l s m meth c D h g cI cZ b xs) {v : Int32} (hk : k ≤ 15000) : vr_G p l e s m b below meth c D ww k jj 84 [(0, .ref b), (1, .ref (h 0)), (2, .ref (g 0)), (3, .int 0), (4, .int 0), (5, .int v)] [] := by
  have S := E.2.1
  refine vg_iload S 5 dL_law_84 rfl ?_
  refine vg_bipush (v := 8) S dL_law_86 (by decide) ?_
  refine vg_icmp_ge (tgt := 137) S dL_law_88 (by decide) (fun _ => vr_F137 E hk) (fun _ => ?_)
  refine vg_iload S 4 dL_law_91 rfl ?_
  refine vg_if_eq (tgt := 137) S dL_law_93 (by decide) (fun _ => vr_F137 E hk) (fun c => absurd rfl c)
set_option maxHeartbeats 4000000 in
theorem vr_F81 (E : vr_E p l s m meth c D h g cI cZ b xs) {v : Int32} (hk : k ≤ 15000) : vr_G p l e s m b below meth c D ww k jj 81 [(0, .ref b), (1, .ref (h 0)), (2, .ref (g 0)), (3, .int 0), (4, .int 0), (5, .int v)] [] := by
  have S := E.2.1
  refine vg_iconst (v := 0) S dL_law_81 (by decide) ?_
  refine vg_istore (L' := [(0, .ref b), (1, .ref (h 0)), (2, .ref (g 0)), (3, .int 0), (4, .int 0), (5, .int 0)]) [1, 2, 3, 4, 5, 0] S dL_law_82 (by decide) rfl ?_
  exact vr_F84 E hk
set_option maxHeartbeats 4000000 in
theorem vr_F31 (E : vr_E p l s m meth c D h g cI cZ b xs) {v : Int32} (hk : k ≤ 15000) : vr_G p l e s m b below meth c D ww k jj 31 [(0, .ref b), (1, .ref (h 0)), (2, .ref (g 0)), (3, .int 0), (4, .int 0), (5, .int v)] [] := by
  have S := E.2.1
  refine vg_iload S 5 dL_law_31 rfl ?_
  refine vg_bipush (v := 16) S dL_law_33 (by decide) ?_
  refine vg_icmp_ge (tgt := 81) S dL_law_35 (by decide) (fun _ => vr_F81 E hk) (fun _ => ?_)
  refine vg_iload S 4 dL_law_38 rfl ?_
  refine vg_if_eq (tgt := 81) S dL_law_40 (by decide) (fun _ => vr_F81 E hk) (fun c => absurd rfl c)
set_option maxHeartbeats 4000000 in
theorem vr_P6 (E : vr_E p l s m meth c D h g cI cZ b xs) {v : Int32} (hNs : vn_N σ) (hNt : vn_N τ) (hro : σ 20 0 = nI 16) (hk : k + 2112 ≤ 15000) (hj : 99 ≤ jj) : vr_G p l e s m b below meth c D (vg_W h g cI cZ σ τ) k jj 503 [(0, .ref b), (1, .ref (h 0)), (2, .ref (g 0)), (3, .int 0), (4, .int 1), (5, .int v)] [] := by
  have S := E.2.1
  refine vg_iload S 4 dL_law_503 rfl ?_
  refine vg_if_eq (tgt := 520) S dL_law_505 (by decide) (fun c => absurd c (by decide)) (fun _ => ?_)
  refine vg_aload_n S 1 dL_law_508 rfl rfl ?_
  refine vg_aload_n S 2 dL_law_509 rfl rfl ?_
  refine vr_like (rest := []) E hNs hNt hro rfl (Nat.le_of_ble_eq_true rfl) dL_law_510 (by omega) (fun f j2 h1 h2 => ?_)
  cases f with
  | false =>
    refine vg_if_eq (tgt := 520) S dL_law_513 (by decide) (fun _ => vr_F520 E (by omega)) (fun c => absurd rfl c)
  | true =>
    refine vg_if_eq (tgt := 520) S dL_law_513 (by decide) (fun c => absurd c (by decide)) (fun _ => ?_)
    refine vg_iconst (v := 1) S dL_law_516 (by decide) ?_
    refine vg_goto (tgt := 521) S dL_law_517 (by decide) ?_
    have h3 := h1 rfl
    refine vg_widen (k1 := 15000) (by omega) ?_
    exact vr_ret (f := true) E (fun _ => by omega)
set_option maxHeartbeats 4000000 in
theorem vr_P5 (E : vr_E p l s m meth c D h g cI cZ b xs) (hNs : vn_N σ) (hNt : vn_N τ) (hro : σ 20 0 = nI 16) : ∀ (n i jj : Nat), i + n = 49 → 25 ≤ i → 32 * (1 + (i / 8 - 3)) ≤ jj → vr_G p l e s m b below meth c D (vg_W h g cI cZ σ τ) (2320 + 2 * (i - 25) + 2112 * (i / 8 - 3)) jj 298 [(0, .ref b), (1, .ref (h 0)), (2, .ref (g 0)), (3, .int 0), (4, .int 1), (5, .int (nI i))] [] := by
  have S := E.2.1
  intro n
  induction n with
  | zero =>
    intro i jj hi h25 hj
    have hi2 : i = 49 := by omega
    subst hi2
    refine vg_iload S 5 dL_law_298 rfl ?_
    refine vg_bipush (v := 49) S dL_law_300 (by decide) ?_
    refine vg_icmp_ge (tgt := 503) S dL_law_302 (by decide) (fun _ => ?_) (fun c => absurd (by decide) c)
    exact vg_widen (k1 := 8704) (by decide) (vr_P6 E hNs hNt hro (by omega) (by omega))
  | succ n ih =>
    intro i jj hi h25 hj
    have hi2 : i < 49 := by omega
    refine vg_iload S 5 dL_law_298 rfl ?_
    refine vg_bipush (v := 49) S dL_law_300 (by decide) ?_
    refine vg_icmp_ge (tgt := 503) S dL_law_302 (by decide) (fun c => absurd c (nI_ge hi2 (by decide))) (fun _ => ?_)
    refine vg_iload S 4 dL_law_305 rfl ?_
    refine vg_if_eq (tgt := 503) S dL_law_307 (by decide) (fun c => absurd c (by decide)) (fun _ => ?_)
    refine vg_aload_n S 0 dL_law_310 rfl rfl ?_
    refine vg_iload S 5 dL_law_311 rfl ?_
    refine vr_drawn (i := i) (rest := []) E hi2 rfl (Nat.le_of_ble_eq_true rfl) dL_law_313 (by omega) ?_
    refine vg_istore (L' := [(0, .ref b), (1, .ref (h 0)), (2, .ref (g 0)), (3, .int 0), (4, .int 1), (5, .int (nI i)), (6, .int 0)]) [1, 2, 3, 4, 5, 6, 0] S dL_law_316 (by decide) rfl ?_
    refine vg_iload_n S 3 dL_law_318 rfl rfl ?_
    refine vg_bipush (v := 7) S dL_law_319 (by decide) ?_
    refine vg_iload S 6 dL_law_321 rfl ?_
    refine vg_bipush (v := 8) S dL_law_323 (by decide) ?_
    refine vg_idiv (v := 0) S dL_law_325 (by decide) (by decide) ?_
    refine vg_bipush (v := 16) S dL_law_326 (by decide) ?_
    refine vg_irem (v := 0) S dL_law_328 (by decide) (by decide) ?_
    refine vg_imul (v := 0) S dL_law_329 (by decide) ?_
    refine vg_iadd (v := 0) S dL_law_330 (by decide) ?_
    refine vg_bipush (v := 30) S dL_law_331 (by decide) ?_
    refine vg_irem (v := 0) S dL_law_333 (by decide) (by decide) ?_
    refine vg_istore (L' := [(0, .ref b), (1, .ref (h 0)), (2, .ref (g 0)), (3, .int 0), (4, .int 1), (5, .int (nI i)), (6, .int 0), (7, .int 0)]) [1, 2, 3, 4, 5, 6, 7, 0] S dL_law_334 (by decide) rfl ?_
    refine vg_iload_n S 3 dL_law_336 rfl rfl ?_
    refine vg_bipush (v := 7) S dL_law_337 (by decide) ?_
    refine vg_iload S 6 dL_law_339 rfl ?_
    refine vg_sipush (v := 128) S dL_law_341 (by decide) ?_
    refine vg_idiv (v := 0) S dL_law_344 (by decide) (by decide) ?_
    refine vg_bipush (v := 16) S dL_law_345 (by decide) ?_
    refine vg_irem (v := 0) S dL_law_347 (by decide) (by decide) ?_
    refine vg_imul (v := 0) S dL_law_348 (by decide) ?_
    refine vg_iadd (v := 0) S dL_law_349 (by decide) ?_
    refine vg_bipush (v := 30) S dL_law_350 (by decide) ?_
    refine vg_irem (v := 0) S dL_law_352 (by decide) (by decide) ?_
    refine vg_istore (L' := [(0, .ref b), (1, .ref (h 0)), (2, .ref (g 0)), (3, .int 0), (4, .int 1), (5, .int (nI i)), (6, .int 0), (7, .int 0), (8, .int 0)]) [1, 2, 3, 4, 5, 6, 7, 8, 0] S dL_law_353 (by decide) rfl ?_
    refine vg_iload S 6 dL_law_355 rfl ?_
    refine vg_bipush (v := 8) S dL_law_357 (by decide) ?_
    refine vg_irem (v := 0) S dL_law_359 (by decide) (by decide) ?_
    refine vg_iconst (v := 3) S dL_law_360 (by decide) ?_
    refine vg_icmp_ge (tgt := 371) S dL_law_361 (by decide) (fun c => absurd c (by decide)) (fun _ => ?_)
    refine vg_iconst (v := 3) S dL_law_364 (by decide) ?_
    refine vg_iload S 8 dL_law_365 rfl ?_
    refine vg_iadd (v := 3) S dL_law_367 (by decide) ?_
    refine vg_goto (tgt := 398) S dL_law_368 (by decide) ?_
    refine vg_istore (L' := [(0, .ref b), (1, .ref (h 0)), (2, .ref (g 0)), (3, .int 0), (4, .int 1), (5, .int (nI i)), (6, .int 0), (7, .int 0), (8, .int 0), (9, .int 3)]) [1, 2, 3, 4, 5, 6, 7, 8, 9, 0] S dL_law_398 (by decide) rfl ?_
    refine vg_iload S 9 dL_law_400 rfl ?_
    refine vg_if_gt (tgt := 416) S dL_law_402 (by decide) (fun _ => ?_) (fun c => absurd (by decide) c)
    refine vg_aload_n S 1 dL_law_416 rfl rfl ?_
    refine vg_iload S 9 dL_law_417 rfl ?_
    refine vg_iload S 7 dL_law_419 rfl ?_
    refine vg_callA (nA := 3) (As := [.ref (h 0), .int 3, .int 0]) (rest := []) E.1 S (k_L_join0 E.1.2.2.2.1.1 E.2.2.2.2.1 σ ) (lq_good in_RL (tw_gS ml_RL_76 st_L_does in_RL co_L_does rfl)) rfl (by decide +kernel) ⟨Nat.le_of_ble_eq_true rfl, Nat.le_of_ble_eq_true rfl⟩ rfl rfl (Nat.le_of_ble_eq_true rfl) dL_law_421 ⟨by show _ ≤ 15000; omega, by show _ ≤ 91000; omega⟩ (fun j2 hj2 => ?_)
    refine vg_aload_n S 2 dL_law_424 rfl rfl ?_
    refine vg_iload S 9 dL_law_425 rfl ?_
    refine vg_iload S 7 dL_law_427 rfl ?_
    refine vg_callB (nA := 3) (As := [.ref (g 0), .int 3, .int 0]) (rest := [_]) E.1 S (k_L_join0 E.1.2.2.2.1.2.1 E.2.2.2.2.1 τ ) (lq_good in_RL (tw_gS ml_RL_76 st_L_does in_RL co_L_does rfl)) rfl (by decide +kernel) ⟨Nat.le_of_ble_eq_true rfl, Nat.le_of_ble_eq_true rfl⟩ rfl rfl (Nat.le_of_ble_eq_true rfl) dL_law_429 ⟨by show _ ≤ 15000; omega, by show _ ≤ 91000; omega⟩ (fun j3 hj3 => ?_)
    refine vg_icmp_ne (tgt := 494) S dL_law_432 (by decide) (fun _ => ?_) (fun _ => ?_)
    · skip
      refine vg_iconst (v := 0) S dL_law_494 (by decide) ?_
      refine vg_istore (L' := [(0, .ref b), (1, .ref (h 0)), (2, .ref (g 0)), (3, .int 0), (4, .int 0), (5, .int (nI i)), (6, .int 0), (7, .int 0), (8, .int 0), (9, .int 3)]) [1, 2, 3, 4, 0, 5, 6, 7, 8, 9] S dL_law_495 (by decide) rfl ?_
      refine vg_iinc (v := nI (i + 1)) (L' := [(0, .ref b), (1, .ref (h 0)), (2, .ref (g 0)), (3, .int 0), (4, .int 0), (5, .int (nI (i + 1))), (6, .int 0), (7, .int 0), (8, .int 0), (9, .int 3)]) [1, 2, 3, 4, 5, 0, 6, 7, 8, 9] S 5 dL_law_497 rfl (tg_inc _) (by decide) rfl ?_
      refine vg_goto (tgt := 298) S dL_law_500 (by decide) ?_
      refine vg_sub (L' := [(0, .ref b), (1, .ref (h 0)), (2, .ref (g 0)), (3, .int 0), (4, .int 0), (5, .int (nI (i + 1)))]) [0, 1, 2, 3, 4, 5] rfl ?_
      exact vr_F298 E (by omega)
    · skip
      refine vg_goto (tgt := 461) S dL_law_435 (by decide) ?_
      refine vg_aload_n S 1 dL_law_461 rfl rfl ?_
      refine vg_callTA (nA := 0) (As := []) (rest := []) E.1 S (k_X2_roots E.1.2.2.2.1.1 σ) (lq_good in_RL (tw_gV ml_RL_56 im_X2_roots se_X2_roots in_RX2 co_X2_roots rfl)) rfl (by decide +kernel) ⟨Nat.le_of_ble_eq_true rfl, Nat.le_of_ble_eq_true rfl⟩ rfl rfl (Nat.le_of_ble_eq_true rfl) dL_law_462 ⟨by show _ ≤ 15000; omega, by show _ ≤ 91000; omega⟩ ?_
      refine vg_aload_n S 2 dL_law_465 rfl rfl ?_
      refine vg_callTB (nA := 0) (As := []) (rest := [_]) E.1 S (k_X2_roots E.1.2.2.2.1.2.1 τ) (lq_good in_RL (tw_gV ml_RL_56 im_X2_roots se_X2_roots in_RX2 co_X2_roots rfl)) rfl (by decide +kernel) ⟨Nat.le_of_ble_eq_true rfl, Nat.le_of_ble_eq_true rfl⟩ rfl rfl (Nat.le_of_ble_eq_true rfl) dL_law_466 ⟨by show _ ≤ 15000; omega, by show _ ≤ 91000; omega⟩ ?_
      refine vg_icmp_ne (tgt := 494) S dL_law_469 (by decide) (fun _ => ?_) (fun _ => ?_)
      · skip
        refine vg_iconst (v := 0) S dL_law_494 (by decide) ?_
        refine vg_istore (L' := [(0, .ref b), (1, .ref (h 0)), (2, .ref (g 0)), (3, .int 0), (4, .int 0), (5, .int (nI i)), (6, .int 0), (7, .int 0), (8, .int 0), (9, .int 3)]) [1, 2, 3, 4, 0, 5, 6, 7, 8, 9] S dL_law_495 (by decide) rfl ?_
        refine vg_iinc (v := nI (i + 1)) (L' := [(0, .ref b), (1, .ref (h 0)), (2, .ref (g 0)), (3, .int 0), (4, .int 0), (5, .int (nI (i + 1))), (6, .int 0), (7, .int 0), (8, .int 0), (9, .int 3)]) [1, 2, 3, 4, 5, 0, 6, 7, 8, 9] S 5 dL_law_497 rfl (tg_inc _) (by decide) rfl ?_
        refine vg_goto (tgt := 298) S dL_law_500 (by decide) ?_
        refine vg_sub (L' := [(0, .ref b), (1, .ref (h 0)), (2, .ref (g 0)), (3, .int 0), (4, .int 0), (5, .int (nI (i + 1)))]) [0, 1, 2, 3, 4, 5] rfl ?_
        exact vr_F298 E (by omega)
      · skip
        refine vg_iload S 5 dL_law_472 rfl ?_
        refine vg_bipush (v := 8) S dL_law_474 (by decide) ?_
        refine vg_irem (v := nI (i % 8)) S dL_law_476 (by decide) (vr_mod8 i hi2) ?_
        refine vg_bipush (v := 7) S dL_law_477 (by decide) ?_
        refine vg_icmp_lt (tgt := 490) S dL_law_479 (by decide) (fun c8 => ?_) (fun c8 => ?_)
        · have q8 := (vr_lt7 hi2).mp c8
          have q2 := vr_mj hj2
          have q3 := vr_mj hj3
          refine vg_iconst (v := 1) S dL_law_490 (by decide) ?_
          refine vg_goto (tgt := 495) S dL_law_491 (by decide) ?_
          refine vg_istore (L' := [(0, .ref b), (1, .ref (h 0)), (2, .ref (g 0)), (3, .int 0), (4, .int 1), (5, .int (nI i)), (6, .int 0), (7, .int 0), (8, .int 0), (9, .int 3)]) [1, 2, 3, 4, 0, 5, 6, 7, 8, 9] S dL_law_495 (by decide) rfl ?_
          refine vg_iinc (v := nI (i + 1)) (L' := [(0, .ref b), (1, .ref (h 0)), (2, .ref (g 0)), (3, .int 0), (4, .int 1), (5, .int (nI (i + 1))), (6, .int 0), (7, .int 0), (8, .int 0), (9, .int 3)]) [1, 2, 3, 4, 5, 0, 6, 7, 8, 9] S 5 dL_law_497 rfl (tg_inc _) (by decide) rfl ?_
          refine vg_goto (tgt := 298) S dL_law_500 (by decide) ?_
          refine vg_sub (L' := [(0, .ref b), (1, .ref (h 0)), (2, .ref (g 0)), (3, .int 0), (4, .int 1), (5, .int (nI (i + 1)))]) [0, 1, 2, 3, 4, 5] rfl ?_
          exact vg_widen (k1 := 2320 + 2 * ((i + 1) - 25) + 2112 * ((i + 1) / 8 - 3)) (by omega) (ih (i + 1) j3 (by omega) (by omega) (by omega))
        · have q8 : ¬ i % 8 < 7 := fun q => c8 ((vr_lt7 hi2).mpr q)
          have q2 := vr_mj hj2
          have q3 := vr_mj hj3
          refine vg_aload_n S 1 dL_law_482 rfl rfl ?_
          refine vg_aload_n S 2 dL_law_483 rfl rfl ?_
          refine vr_like (rest := []) E hNs hNt hro rfl (Nat.le_of_ble_eq_true rfl) dL_law_484 (by omega) (fun f j4 h1 h2 => ?_)
          cases f with
          | false =>
            refine vg_if_eq (tgt := 494) S dL_law_487 (by decide) (fun _ => ?_) (fun c => absurd rfl c)
            refine vg_iconst (v := 0) S dL_law_494 (by decide) ?_
            refine vg_istore (L' := [(0, .ref b), (1, .ref (h 0)), (2, .ref (g 0)), (3, .int 0), (4, .int 0), (5, .int (nI i)), (6, .int 0), (7, .int 0), (8, .int 0), (9, .int 3)]) [1, 2, 3, 4, 0, 5, 6, 7, 8, 9] S dL_law_495 (by decide) rfl ?_
            refine vg_iinc (v := nI (i + 1)) (L' := [(0, .ref b), (1, .ref (h 0)), (2, .ref (g 0)), (3, .int 0), (4, .int 0), (5, .int (nI (i + 1))), (6, .int 0), (7, .int 0), (8, .int 0), (9, .int 3)]) [1, 2, 3, 4, 5, 0, 6, 7, 8, 9] S 5 dL_law_497 rfl (tg_inc _) (by decide) rfl ?_
            refine vg_goto (tgt := 298) S dL_law_500 (by decide) ?_
            refine vg_sub (L' := [(0, .ref b), (1, .ref (h 0)), (2, .ref (g 0)), (3, .int 0), (4, .int 0), (5, .int (nI (i + 1)))]) [0, 1, 2, 3, 4, 5] rfl ?_
            exact vr_F298 E (by omega)
          | true =>
            have h3 := h1 rfl
            refine vg_if_eq (tgt := 494) S dL_law_487 (by decide) (fun c => absurd c (by decide)) (fun _ => ?_)
            refine vg_iconst (v := 1) S dL_law_490 (by decide) ?_
            refine vg_goto (tgt := 495) S dL_law_491 (by decide) ?_
            refine vg_istore (L' := [(0, .ref b), (1, .ref (h 0)), (2, .ref (g 0)), (3, .int 0), (4, .int 1), (5, .int (nI i)), (6, .int 0), (7, .int 0), (8, .int 0), (9, .int 3)]) [1, 2, 3, 4, 0, 5, 6, 7, 8, 9] S dL_law_495 (by decide) rfl ?_
            refine vg_iinc (v := nI (i + 1)) (L' := [(0, .ref b), (1, .ref (h 0)), (2, .ref (g 0)), (3, .int 0), (4, .int 1), (5, .int (nI (i + 1))), (6, .int 0), (7, .int 0), (8, .int 0), (9, .int 3)]) [1, 2, 3, 4, 5, 0, 6, 7, 8, 9] S 5 dL_law_497 rfl (tg_inc _) (by decide) rfl ?_
            refine vg_goto (tgt := 298) S dL_law_500 (by decide) ?_
            refine vg_sub (L' := [(0, .ref b), (1, .ref (h 0)), (2, .ref (g 0)), (3, .int 0), (4, .int 1), (5, .int (nI (i + 1)))]) [0, 1, 2, 3, 4, 5] rfl ?_
            exact vg_widen (k1 := 2320 + 2 * ((i + 1) - 25) + 2112 * ((i + 1) / 8 - 3)) (by omega) (ih (i + 1) j4 (by omega) (by omega) (by omega))
set_option maxHeartbeats 4000000 in
theorem vr_P4 (E : vr_E p l s m meth c D h g cI cZ b xs) (hNs : vn_N σ) (hro : σ 20 0 = nI 16) : ∀ (n i : Nat) (τ : tg_Mem) (jj : Nat), i + n = 30 → vn_N τ → vr_G p l e s m b below meth c D (vg_W h g cI cZ σ τ) (118 + 3 * i) jj 217 [(0, .ref b), (1, .ref (h 0)), (2, .ref (g 0)), (3, .int 0), (4, .int 1), (5, .int (nI i))] [] := by
  have S := E.2.1
  intro n
  induction n with
  | zero =>
    intro i τ jj hi hNt
    have hi2 : i = 30 := by omega
    subst hi2
    refine vg_iload S 5 dL_law_217 rfl ?_
    refine vg_bipush (v := 30) S dL_law_219 (by decide) ?_
    refine vg_icmp_ge (tgt := 274) S dL_law_221 (by decide) (fun _ => ?_) (fun c => absurd tg_ge c)
    refine vg_iload S 4 dL_law_274 rfl ?_
    refine vg_if_eq (tgt := 291) S dL_law_276 (by decide) (fun c => absurd c (by decide)) (fun _ => ?_)
    refine vg_aload_n S 1 dL_law_279 rfl rfl ?_
    refine vg_aload_n S 2 dL_law_280 rfl rfl ?_
    refine vr_like (rest := []) E hNs hNt hro rfl (Nat.le_of_ble_eq_true rfl) dL_law_281 (by omega) (fun f j2 h1 h2 => ?_)
    cases f with
    | false =>
      refine vg_if_eq (tgt := 291) S dL_law_284 (by decide) (fun _ => ?_) (fun c => absurd rfl c)
      refine vg_sub (L' := [(0, .ref b), (1, .ref (h 0)), (2, .ref (g 0)), (3, .int 0), (4, .int 1)]) [0, 1, 2, 3, 4] rfl ?_
      exact vr_F291 E (by omega)
    | true =>
      have h3 := h1 rfl
      refine vg_if_eq (tgt := 291) S dL_law_284 (by decide) (fun c => absurd c (by decide)) (fun _ => ?_)
      refine vg_iconst (v := 1) S dL_law_287 (by decide) ?_
      refine vg_goto (tgt := 292) S dL_law_288 (by decide) ?_
      refine vg_istore (L' := [(0, .ref b), (1, .ref (h 0)), (2, .ref (g 0)), (3, .int 0), (4, .int 1), (5, .int (nI 30))]) [1, 2, 3, 4, 0, 5] S dL_law_292 (by decide) rfl ?_
      refine vg_bipush (v := nI 25) S dL_law_294 (by decide) ?_
      refine vg_istore (L' := [(0, .ref b), (1, .ref (h 0)), (2, .ref (g 0)), (3, .int 0), (4, .int 1), (5, .int (nI 25))]) [1, 2, 3, 4, 5, 0] S dL_law_296 (by decide) rfl ?_
      exact vg_widen (k1 := 2320 + 2 * (25 - 25) + 2112 * (25 / 8 - 3)) (by decide) (vr_P5 E hNs hNt hro 24 25 j2 rfl (by omega) (by omega))
  | succ n ih =>
    intro i τ jj hi hNt
    have hi2 : i < 30 := by omega
    refine vg_iload S 5 dL_law_217 rfl ?_
    refine vg_bipush (v := 30) S dL_law_219 (by decide) ?_
    refine vg_icmp_ge (tgt := 274) S dL_law_221 (by decide) (fun c => absurd c (tg_nge hi2)) (fun _ => ?_)
    refine vg_iload S 4 dL_law_224 rfl ?_
    refine vg_if_eq (tgt := 274) S dL_law_226 (by decide) (fun c => absurd c (by decide)) (fun _ => ?_)
    refine vg_aload_n S 1 dL_law_229 rfl rfl ?_
    refine vg_iconst (v := 0) S dL_law_230 (by decide) ?_
    refine vg_iload S 5 dL_law_231 rfl ?_
    refine vg_callA (nA := 3) (As := [.ref (h 0), .int 0, .int (nI i)]) (rest := []) E.1 S (k_L_of0 E.1.2.2.2.1.1 E.2.2.2.2.1 σ (nI i)) (lq_good in_RL (tw_gS ml_RL_60 st_L_of in_RL co_L_of rfl)) rfl (by decide +kernel) ⟨Nat.le_of_ble_eq_true rfl, Nat.le_of_ble_eq_true rfl⟩ rfl rfl (Nat.le_of_ble_eq_true rfl) dL_law_233 ⟨by show _ ≤ 15000; omega, by show _ ≤ 91000; omega⟩ (fun j2 hj2 => ?_)
    refine vg_iconst (v := 3) S dL_law_236 (by decide) ?_
    refine vg_icmp_eq (tgt := 261) S dL_law_237 (by decide) (fun _ => ?_) (fun _ => ?_)
    · skip
      refine vg_iconst (v := 1) S dL_law_261 (by decide) ?_
      refine vg_goto (tgt := 266) S dL_law_262 (by decide) ?_
      refine vg_istore (L' := [(0, .ref b), (1, .ref (h 0)), (2, .ref (g 0)), (3, .int 0), (4, .int 1), (5, .int (nI i))]) [1, 2, 3, 4, 0, 5] S dL_law_266 (by decide) rfl ?_
      refine vg_iinc (v := nI (i + 1)) (L' := [(0, .ref b), (1, .ref (h 0)), (2, .ref (g 0)), (3, .int 0), (4, .int 1), (5, .int (nI (i + 1)))]) [1, 2, 3, 4, 5, 0] S 5 dL_law_268 rfl (tg_inc _) (by decide) rfl ?_
      refine vg_goto (tgt := 217) S dL_law_271 (by decide) ?_
      exact vg_widen (k1 := 118 + 3 * (i + 1)) (by omega) (ih (i + 1) τ j2 (by omega) hNt)
    · skip
      refine vg_aload_n S 2 dL_law_240 rfl rfl ?_
      refine vg_iconst (v := 0) S dL_law_241 (by decide) ?_
      refine vg_iload S 5 dL_law_242 rfl ?_
      refine vg_callB (nA := 3) (As := [.ref (g 0), .int 0, .int (nI i)]) (rest := []) E.1 S (k_L_of0 E.1.2.2.2.1.2.1 E.2.2.2.2.1 τ (nI i)) (lq_good in_RL (tw_gS ml_RL_60 st_L_of in_RL co_L_of rfl)) rfl (by decide +kernel) ⟨Nat.le_of_ble_eq_true rfl, Nat.le_of_ble_eq_true rfl⟩ rfl rfl (Nat.le_of_ble_eq_true rfl) dL_law_244 ⟨by show _ ≤ 15000; omega, by show _ ≤ 91000; omega⟩ (fun j3 hj3 => ?_)
      refine vg_iconst (v := 3) S dL_law_247 (by decide) ?_
      refine vg_icmp_lt (tgt := 261) S dL_law_248 (by decide) (fun _ => ?_) (fun _ => ?_)
      · skip
        refine vg_iconst (v := 1) S dL_law_261 (by decide) ?_
        refine vg_goto (tgt := 266) S dL_law_262 (by decide) ?_
        refine vg_istore (L' := [(0, .ref b), (1, .ref (h 0)), (2, .ref (g 0)), (3, .int 0), (4, .int 1), (5, .int (nI i))]) [1, 2, 3, 4, 0, 5] S dL_law_266 (by decide) rfl ?_
        refine vg_iinc (v := nI (i + 1)) (L' := [(0, .ref b), (1, .ref (h 0)), (2, .ref (g 0)), (3, .int 0), (4, .int 1), (5, .int (nI (i + 1)))]) [1, 2, 3, 4, 5, 0] S 5 dL_law_268 rfl (tg_inc _) (by decide) rfl ?_
        refine vg_goto (tgt := 217) S dL_law_271 (by decide) ?_
        exact vg_widen (k1 := 118 + 3 * (i + 1)) (by omega) (ih (i + 1) τ j3 (by omega) hNt)
      · skip
        refine vg_aload_n S 2 dL_law_251 rfl rfl ?_
        refine vg_iconst (v := 0) S dL_law_252 (by decide) ?_
        refine vg_iload S 5 dL_law_253 rfl ?_
        refine vg_callB (nA := 3) (As := [.ref (g 0), .int 0, .int (nI i)]) (rest := []) E.1 S (k_L_does0 E.1.2.2.2.1.2.1 E.2.2.2.2.1 τ (nI i)) (lq_good in_RL (tw_gS ml_RL_76 st_L_does in_RL co_L_does rfl)) rfl (by decide +kernel) ⟨Nat.le_of_ble_eq_true rfl, Nat.le_of_ble_eq_true rfl⟩ rfl rfl (Nat.le_of_ble_eq_true rfl) dL_law_255 ⟨by show _ ≤ 15000; omega, by show _ ≤ 91000; omega⟩ (fun j4 hj4 => ?_)
        refine vg_if_lt (tgt := 265) S dL_law_258 (by decide) (fun _ => ?_) (fun _ => ?_)
        · skip
          refine vg_iconst (v := 0) S dL_law_265 (by decide) ?_
          refine vg_istore (L' := [(0, .ref b), (1, .ref (h 0)), (2, .ref (g 0)), (3, .int 0), (4, .int 0), (5, .int (nI i))]) [1, 2, 3, 4, 0, 5] S dL_law_266 (by decide) rfl ?_
          refine vg_iinc (v := nI (i + 1)) (L' := [(0, .ref b), (1, .ref (h 0)), (2, .ref (g 0)), (3, .int 0), (4, .int 0), (5, .int (nI (i + 1)))]) [1, 2, 3, 4, 5, 0] S 5 dL_law_268 rfl (tg_inc _) (by decide) rfl ?_
          refine vg_goto (tgt := 217) S dL_law_271 (by decide) ?_
          exact vr_F217 E (by omega)
        · skip
          refine vg_iconst (v := 1) S dL_law_261 (by decide) ?_
          refine vg_goto (tgt := 266) S dL_law_262 (by decide) ?_
          refine vg_istore (L' := [(0, .ref b), (1, .ref (h 0)), (2, .ref (g 0)), (3, .int 0), (4, .int 1), (5, .int (nI i))]) [1, 2, 3, 4, 0, 5] S dL_law_266 (by decide) rfl ?_
          refine vg_iinc (v := nI (i + 1)) (L' := [(0, .ref b), (1, .ref (h 0)), (2, .ref (g 0)), (3, .int 0), (4, .int 1), (5, .int (nI (i + 1)))]) [1, 2, 3, 4, 5, 0] S 5 dL_law_268 rfl (tg_inc _) (by decide) rfl ?_
          refine vg_goto (tgt := 217) S dL_law_271 (by decide) ?_
          exact vg_widen (k1 := 118 + 3 * (i + 1)) (by omega) (ih (i + 1) _ j4 (by omega) (vr_Ns (vq_N (vq_Ndrop hNt)) hNt))
set_option maxHeartbeats 4000000 in
theorem vr_P3b (E : vr_E p l s m meth c D h g cI cZ b xs) {n : Nat} {x : Int32} (hn : n < 16) (ih : ∀ (τ : tg_Mem) (jj : Nat), vn_N τ → vr_G p l e s m b below meth c D (vg_W h g cI cZ σ τ) (70 + 3 * (16 - n)) jj 141 [(0, .ref b), (1, .ref (h 0)), (2, .ref (g 0)), (3, .int 0), (4, .int 1), (5, .int (nI n - 1))] []) (hNt : vn_N τ) (hk : k + 1 ≤ 70 + 3 * (16 - n)) : vr_G p l e s m b below meth c D (vg_W h g cI cZ σ τ) k jj 184 [(0, .ref b), (1, .ref (h 0)), (2, .ref (g 0)), (3, .int 0), (4, .int 1), (5, .int (nI n)), (6, .int x)] [] := by
  have S := E.2.1
  refine vg_aload_n S 2 dL_law_184 rfl rfl ?_
  refine vg_iload S 6 dL_law_185 rfl ?_
  refine vg_aload_n S 0 dL_law_187 rfl rfl ?_
  refine vg_iconst (v := 1) S dL_law_188 (by decide) ?_
  refine vg_iload S 5 dL_law_189 rfl ?_
  refine vg_iadd (v := nI (1 + n)) S dL_law_191 (nI_add 1 n) ?_
  refine vr_drawn (i := 1 + n) (rest := [_, _]) E (by omega) rfl (Nat.le_of_ble_eq_true rfl) dL_law_192 (by omega) ?_
  refine vg_callB (nA := 3) (As := [.ref (g 0), .int x, .int 0]) (rest := []) E.1 S (k_L_come E.1.2.2.2.1.2.1 E.2.2.2.2.1 τ x) (lq_good in_RL (tw_gS ml_RL_73 st_L_come in_RL co_L_come rfl)) rfl (by decide +kernel) ⟨Nat.le_of_ble_eq_true rfl, Nat.le_of_ble_eq_true rfl⟩ rfl rfl (Nat.le_of_ble_eq_true rfl) dL_law_195 ⟨by show _ ≤ 15000; omega, by show _ ≤ 91000; omega⟩ (fun j2 hj2 => ?_)
  refine vg_if_lt (tgt := 205) S dL_law_198 (by decide) (fun _ => ?_) (fun _ => ?_)
  · skip
    refine vg_iconst (v := 0) S dL_law_205 (by decide) ?_
    refine vg_istore (L' := [(0, .ref b), (1, .ref (h 0)), (2, .ref (g 0)), (3, .int 0), (4, .int 0), (5, .int (nI n)), (6, .int x)]) [1, 2, 3, 4, 0, 5, 6] S dL_law_206 (by decide) rfl ?_
    refine vg_iinc (v := nI n - 1) (L' := [(0, .ref b), (1, .ref (h 0)), (2, .ref (g 0)), (3, .int 0), (4, .int 0), (5, .int (nI n - 1)), (6, .int x)]) [1, 2, 3, 4, 5, 0, 6] S 5 dL_law_208 rfl (vr_dec n hn) (by decide) rfl ?_
    refine vg_goto (tgt := 141) S dL_law_211 (by decide) ?_
    refine vg_sub (L' := [(0, .ref b), (1, .ref (h 0)), (2, .ref (g 0)), (3, .int 0), (4, .int 0), (5, .int (nI n - 1))]) [0, 1, 2, 3, 4, 5] rfl ?_
    exact vr_F141 E (by omega)
  · skip
    refine vg_iconst (v := 1) S dL_law_201 (by decide) ?_
    refine vg_goto (tgt := 206) S dL_law_202 (by decide) ?_
    refine vg_istore (L' := [(0, .ref b), (1, .ref (h 0)), (2, .ref (g 0)), (3, .int 0), (4, .int 1), (5, .int (nI n)), (6, .int x)]) [1, 2, 3, 4, 0, 5, 6] S dL_law_206 (by decide) rfl ?_
    refine vg_iinc (v := nI n - 1) (L' := [(0, .ref b), (1, .ref (h 0)), (2, .ref (g 0)), (3, .int 0), (4, .int 1), (5, .int (nI n - 1)), (6, .int x)]) [1, 2, 3, 4, 5, 0, 6] S 5 dL_law_208 rfl (vr_dec n hn) (by decide) rfl ?_
    refine vg_goto (tgt := 141) S dL_law_211 (by decide) ?_
    refine vg_sub (L' := [(0, .ref b), (1, .ref (h 0)), (2, .ref (g 0)), (3, .int 0), (4, .int 1), (5, .int (nI n - 1))]) [0, 1, 2, 3, 4, 5] rfl ?_
    exact vg_widen hk (ih _ j2 (vr_Ns (vq_N (vq_Nput hNt)) hNt))
set_option maxHeartbeats 4000000 in
theorem vr_P3 (E : vr_E p l s m meth c D h g cI cZ b xs) (hNs : vn_N σ) (hro : σ 20 0 = nI 16) : ∀ (n : Nat) (τ : tg_Mem) (jj : Nat), n ≤ 16 → vn_N τ → vr_G p l e s m b below meth c D (vg_W h g cI cZ σ τ) (70 + 3 * (16 - n)) jj 141 [(0, .ref b), (1, .ref (h 0)), (2, .ref (g 0)), (3, .int 0), (4, .int 1), (5, .int (nI n - 1))] [] := by
  have S := E.2.1
  intro n
  induction n with
  | zero =>
    intro τ jj hn hNt
    refine vg_iload S 5 dL_law_141 rfl ?_
    refine vg_if_lt (tgt := 214) S dL_law_143 (by decide) (fun _ => ?_) (fun c => absurd (by decide) c)
    refine vg_iconst (v := nI 0) S dL_law_214 (by decide) ?_
    refine vg_istore (L' := [(0, .ref b), (1, .ref (h 0)), (2, .ref (g 0)), (3, .int 0), (4, .int 1), (5, .int (nI 0))]) [1, 2, 3, 4, 5, 0] S dL_law_215 (by decide) rfl ?_
    exact vr_P4 E hNs hro 30 0 τ jj rfl hNt
  | succ n ih =>
    intro τ jj hn hNt
    rw [nI_pred]
    refine vg_iload S 5 dL_law_141 rfl ?_
    refine vg_if_lt (tgt := 214) S dL_law_143 (by decide) (fun c => absurd c (nI_pos (by omega))) (fun _ => ?_)
    refine vg_iload S 4 dL_law_146 rfl ?_
    refine vg_if_eq (tgt := 214) S dL_law_148 (by decide) (fun c => absurd c (by decide)) (fun _ => ?_)
    obtain ⟨x, hx⟩ : ∃ x : Int32, (0 + 7 * nI n) - (0 + 7 * nI n) / 30 * 30 = x := ⟨_, rfl⟩
    refine vg_iload_n S 3 dL_law_151 rfl rfl ?_
    refine vg_bipush (v := 7) S dL_law_152 (by decide) ?_
    refine vg_iload S 5 dL_law_154 rfl ?_
    refine vg_imul (v := 7 * nI n) S dL_law_156 rfl ?_
    refine vg_iadd (v := 0 + 7 * nI n) S dL_law_157 rfl ?_
    refine vg_bipush (v := 30) S dL_law_158 (by decide) ?_
    refine vg_irem (v := x) S dL_law_160 (by decide) hx ?_
    refine vg_istore (L' := [(0, .ref b), (1, .ref (h 0)), (2, .ref (g 0)), (3, .int 0), (4, .int 1), (5, .int (nI n)), (6, .int x)]) [1, 2, 3, 4, 5, 6, 0] S dL_law_161 (by decide) rfl ?_
    refine vg_aload_n S 2 dL_law_163 rfl rfl ?_
    refine vg_iconst (v := 0) S dL_law_164 (by decide) ?_
    refine vg_iload S 6 dL_law_165 rfl ?_
    refine vg_callB (nA := 3) (As := [.ref (g 0), .int 0, .int x]) (rest := []) E.1 S (k_L_of0 E.1.2.2.2.1.2.1 E.2.2.2.2.1 τ x) (lq_good in_RL (tw_gS ml_RL_60 st_L_of in_RL co_L_of rfl)) rfl (by decide +kernel) ⟨Nat.le_of_ble_eq_true rfl, Nat.le_of_ble_eq_true rfl⟩ rfl rfl (Nat.le_of_ble_eq_true rfl) dL_law_167 ⟨by show _ ≤ 15000; omega, by show _ ≤ 91000; omega⟩ (fun j2 hj2 => ?_)
    refine vg_iconst (v := 3) S dL_law_170 (by decide) ?_
    refine vg_icmp_lt (tgt := 184) S dL_law_171 (by decide) (fun _ => ?_) (fun _ => ?_)
    · exact vr_P3b E (by omega) (fun τ jj h => ih τ jj (by omega) h) hNt (by omega)
    · skip
      refine vg_aload_n S 2 dL_law_174 rfl rfl ?_
      refine vg_iconst (v := 0) S dL_law_175 (by decide) ?_
      refine vg_iload S 6 dL_law_176 rfl ?_
      refine vg_callB (nA := 3) (As := [.ref (g 0), .int 0, .int x]) (rest := []) E.1 S (k_L_does0 E.1.2.2.2.1.2.1 E.2.2.2.2.1 τ x) (lq_good in_RL (tw_gS ml_RL_76 st_L_does in_RL co_L_does rfl)) rfl (by decide +kernel) ⟨Nat.le_of_ble_eq_true rfl, Nat.le_of_ble_eq_true rfl⟩ rfl rfl (Nat.le_of_ble_eq_true rfl) dL_law_178 ⟨by show _ ≤ 15000; omega, by show _ ≤ 91000; omega⟩ (fun j3 hj3 => ?_)
      refine vg_if_lt (tgt := 205) S dL_law_181 (by decide) (fun _ => ?_) (fun _ => ?_)
      · skip
        refine vg_iconst (v := 0) S dL_law_205 (by decide) ?_
        refine vg_istore (L' := [(0, .ref b), (1, .ref (h 0)), (2, .ref (g 0)), (3, .int 0), (4, .int 0), (5, .int (nI n)), (6, .int x)]) [1, 2, 3, 4, 0, 5, 6] S dL_law_206 (by decide) rfl ?_
        refine vg_iinc (v := nI n - 1) (L' := [(0, .ref b), (1, .ref (h 0)), (2, .ref (g 0)), (3, .int 0), (4, .int 0), (5, .int (nI n - 1)), (6, .int x)]) [1, 2, 3, 4, 5, 0, 6] S 5 dL_law_208 rfl (vr_dec n (by omega)) (by decide) rfl ?_
        refine vg_goto (tgt := 141) S dL_law_211 (by decide) ?_
        refine vg_sub (L' := [(0, .ref b), (1, .ref (h 0)), (2, .ref (g 0)), (3, .int 0), (4, .int 0), (5, .int (nI n - 1))]) [0, 1, 2, 3, 4, 5] rfl ?_
        exact vr_F141 E (by omega)
      · exact vr_P3b E (by omega) (fun τ jj h => ih τ jj (by omega) h) (vr_Ns (vq_N (vq_Ndrop hNt)) hNt) (by omega)
set_option maxHeartbeats 4000000 in
theorem vr_P2 (E : vr_E p l s m meth c D h g cI cZ b xs) (hNs : vn_N σ) (hro : σ 20 0 = nI 16) : ∀ (n i : Nat) (τ : tg_Mem) (jj : Nat), i + n = 8 → vn_N τ → vr_G p l e s m b below meth c D (vg_W h g cI cZ σ τ) (62 + i) jj 84 [(0, .ref b), (1, .ref (h 0)), (2, .ref (g 0)), (3, .int 0), (4, .int 1), (5, .int (nI i))] [] := by
  have S := E.2.1
  intro n
  induction n with
  | zero =>
    intro i τ jj hi hNt
    have hi2 : i = 8 := by omega
    subst hi2
    refine vg_iload S 5 dL_law_84 rfl ?_
    refine vg_bipush (v := 8) S dL_law_86 (by decide) ?_
    refine vg_icmp_ge (tgt := 137) S dL_law_88 (by decide) (fun _ => ?_) (fun c => absurd (by decide) c)
    refine vg_bipush (v := nI 16 - 1) S dL_law_137 (by decide) ?_
    refine vg_istore (L' := [(0, .ref b), (1, .ref (h 0)), (2, .ref (g 0)), (3, .int 0), (4, .int 1), (5, .int (nI 16 - 1))]) [1, 2, 3, 4, 5, 0] S dL_law_139 (by decide) rfl ?_
    exact vr_P3 E hNs hro 16 τ jj (Nat.le_refl _) hNt
  | succ n ih =>
    intro i τ jj hi hNt
    have hi2 : i < 8 := by omega
    refine vg_iload S 5 dL_law_84 rfl ?_
    refine vg_bipush (v := 8) S dL_law_86 (by decide) ?_
    refine vg_icmp_ge (tgt := 137) S dL_law_88 (by decide) (fun c => absurd c (nI_ge hi2 (by decide))) (fun _ => ?_)
    refine vg_iload S 4 dL_law_91 rfl ?_
    refine vg_if_eq (tgt := 137) S dL_law_93 (by decide) (fun c => absurd c (by decide)) (fun _ => ?_)
    obtain ⟨x, hx⟩ : ∃ x : Int32, (0 + 7 * nI i + 2) - (0 + 7 * nI i + 2) / 30 * 30 = x := ⟨_, rfl⟩
    refine vg_aload_n S 2 dL_law_96 rfl rfl ?_
    refine vg_iload_n S 3 dL_law_97 rfl rfl ?_
    refine vg_bipush (v := 7) S dL_law_98 (by decide) ?_
    refine vg_iload S 5 dL_law_100 rfl ?_
    refine vg_imul (v := 7 * nI i) S dL_law_102 rfl ?_
    refine vg_iadd (v := 0 + 7 * nI i) S dL_law_103 rfl ?_
    refine vg_iconst (v := 2) S dL_law_104 (by decide) ?_
    refine vg_iadd (v := 0 + 7 * nI i + 2) S dL_law_105 rfl ?_
    refine vg_bipush (v := 30) S dL_law_106 (by decide) ?_
    refine vg_irem (v := x) S dL_law_108 (by decide) hx ?_
    refine vg_aload_n S 0 dL_law_109 rfl rfl ?_
    refine vg_bipush (v := 17) S dL_law_110 (by decide) ?_
    refine vg_iload S 5 dL_law_112 rfl ?_
    refine vg_iadd (v := nI (17 + i)) S dL_law_114 (nI_add 17 i) ?_
    refine vr_drawn (i := 17 + i) (rest := [_, _]) E (by omega) rfl (Nat.le_of_ble_eq_true rfl) dL_law_115 (by omega) ?_
    refine vg_callB (nA := 3) (As := [.ref (g 0), .int x, .int 0]) (rest := []) E.1 S (k_L_come E.1.2.2.2.1.2.1 E.2.2.2.2.1 τ x) (lq_good in_RL (tw_gS ml_RL_73 st_L_come in_RL co_L_come rfl)) rfl (by decide +kernel) ⟨Nat.le_of_ble_eq_true rfl, Nat.le_of_ble_eq_true rfl⟩ rfl rfl (Nat.le_of_ble_eq_true rfl) dL_law_118 ⟨by show _ ≤ 15000; omega, by show _ ≤ 91000; omega⟩ (fun j2 hj2 => ?_)
    refine vg_if_lt (tgt := 128) S dL_law_121 (by decide) (fun _ => ?_) (fun _ => ?_)
    · skip
      refine vg_iconst (v := 0) S dL_law_128 (by decide) ?_
      refine vg_istore (L' := [(0, .ref b), (1, .ref (h 0)), (2, .ref (g 0)), (3, .int 0), (4, .int 0), (5, .int (nI i))]) [1, 2, 3, 4, 0, 5] S dL_law_129 (by decide) rfl ?_
      refine vg_iinc (v := nI (i + 1)) (L' := [(0, .ref b), (1, .ref (h 0)), (2, .ref (g 0)), (3, .int 0), (4, .int 0), (5, .int (nI (i + 1)))]) [1, 2, 3, 4, 5, 0] S 5 dL_law_131 rfl (tg_inc _) (by decide) rfl ?_
      refine vg_goto (tgt := 84) S dL_law_134 (by decide) ?_
      exact vr_F84 E (by omega)
    · skip
      refine vg_iconst (v := 1) S dL_law_124 (by decide) ?_
      refine vg_goto (tgt := 129) S dL_law_125 (by decide) ?_
      refine vg_istore (L' := [(0, .ref b), (1, .ref (h 0)), (2, .ref (g 0)), (3, .int 0), (4, .int 1), (5, .int (nI i))]) [1, 2, 3, 4, 0, 5] S dL_law_129 (by decide) rfl ?_
      refine vg_iinc (v := nI (i + 1)) (L' := [(0, .ref b), (1, .ref (h 0)), (2, .ref (g 0)), (3, .int 0), (4, .int 1), (5, .int (nI (i + 1)))]) [1, 2, 3, 4, 5, 0] S 5 dL_law_131 rfl (tg_inc _) (by decide) rfl ?_
      refine vg_goto (tgt := 84) S dL_law_134 (by decide) ?_
      exact vg_widen (k1 := 62 + (i + 1)) (by omega) (ih (i + 1) _ j2 (by omega) (vr_Ns (vq_N (vq_Nput hNt)) hNt))
set_option maxHeartbeats 4000000 in
theorem vr_P1 (E : vr_E p l s m meth c D h g cI cZ b xs) (hNt : vn_N τ) : ∀ (n i : Nat) (σ : tg_Mem) (jj : Nat), i + n = 16 → vq_fl σ → (∀ j, j < 30 → (σ 0 j ≠ 0 ↔ ∃ q, q < i ∧ j = 7 * q % 30)) → vn_N σ → (i = 16 → σ 20 0 = nI 16) → vr_G p l e s m b below meth c D (vg_W h g cI cZ σ τ) (46 + i) jj 31 [(0, .ref b), (1, .ref (h 0)), (2, .ref (g 0)), (3, .int 0), (4, .int 1), (5, .int (nI i))] [] := by
  have S := E.2.1
  intro n
  induction n with
  | zero =>
    intro i σ jj hi hfl hset hNs hro
    have hi2 : i = 16 := by omega
    subst hi2
    refine vg_iload S 5 dL_law_31 rfl ?_
    refine vg_bipush (v := 16) S dL_law_33 (by decide) ?_
    refine vg_icmp_ge (tgt := 81) S dL_law_35 (by decide) (fun _ => ?_) (fun c => absurd (by decide) c)
    refine vg_iconst (v := nI 0) S dL_law_81 (by decide) ?_
    refine vg_istore (L' := [(0, .ref b), (1, .ref (h 0)), (2, .ref (g 0)), (3, .int 0), (4, .int 1), (5, .int (nI 0))]) [1, 2, 3, 4, 5, 0] S dL_law_82 (by decide) rfl ?_
    exact vr_P2 E hNs (hro rfl) 8 0 τ jj rfl hNt
  | succ n ih =>
    intro i σ jj hi hfl hset hNs hro
    have hi2 : i < 16 := by omega
    refine vg_iload S 5 dL_law_31 rfl ?_
    refine vg_bipush (v := 16) S dL_law_33 (by decide) ?_
    refine vg_icmp_ge (tgt := 81) S dL_law_35 (by decide) (fun c => absurd c (nI_ge hi2 (by decide))) (fun _ => ?_)
    refine vg_iload S 4 dL_law_38 rfl ?_
    refine vg_if_eq (tgt := 81) S dL_law_40 (by decide) (fun c => absurd c (by decide)) (fun _ => ?_)
    refine vg_aload_n S 1 dL_law_43 rfl rfl ?_
    refine vg_iload_n S 3 dL_law_44 rfl rfl ?_
    refine vg_bipush (v := 7) S dL_law_45 (by decide) ?_
    refine vg_iload S 5 dL_law_47 rfl ?_
    refine vg_imul (v := nI (7 * i)) S dL_law_49 (vr_mul i) ?_
    refine vg_iadd (v := nI (7 * i)) S dL_law_50 (Int32.zero_add _) ?_
    refine vg_bipush (v := 30) S dL_law_51 (by decide) ?_
    refine vg_irem (v := nI (7 * i % 30)) S dL_law_53 (by decide) (vr_rem i hi2) ?_
    refine vg_aload_n S 0 dL_law_54 rfl rfl ?_
    refine vg_iconst (v := 1) S dL_law_55 (by decide) ?_
    refine vg_iload S 5 dL_law_56 rfl ?_
    refine vg_iadd (v := nI (1 + i)) S dL_law_58 (nI_add 1 i) ?_
    refine vr_drawn (i := 1 + i) (rest := [_, _]) E (by omega) rfl (Nat.le_of_ble_eq_true rfl) dL_law_59 (by omega) ?_
    refine vg_callA (nA := 3) (As := [.ref (h 0), .int (nI (7 * i % 30)), .int 0]) (rest := []) E.1 S (k_L_come E.1.2.2.2.1.1 E.2.2.2.2.1 σ (nI (7 * i % 30))) (lq_good in_RL (tw_gS ml_RL_73 st_L_come in_RL co_L_come rfl)) rfl (by decide +kernel) ⟨Nat.le_of_ble_eq_true rfl, Nat.le_of_ble_eq_true rfl⟩ rfl rfl (Nat.le_of_ble_eq_true rfl) dL_law_62 ⟨by show _ ≤ 15000; omega, by show _ ≤ 91000; omega⟩ (fun j2 hj2 => ?_)
    refine vg_if_lt (tgt := 72) S dL_law_65 (by decide) (fun _ => ?_) (fun hge => ?_)
    · skip
      refine vg_iconst (v := 0) S dL_law_72 (by decide) ?_
      refine vg_istore (L' := [(0, .ref b), (1, .ref (h 0)), (2, .ref (g 0)), (3, .int 0), (4, .int 0), (5, .int (nI i))]) [1, 2, 3, 4, 0, 5] S dL_law_73 (by decide) rfl ?_
      refine vg_iinc (v := nI (i + 1)) (L' := [(0, .ref b), (1, .ref (h 0)), (2, .ref (g 0)), (3, .int 0), (4, .int 0), (5, .int (nI (i + 1)))]) [1, 2, 3, 4, 5, 0] S 5 dL_law_75 rfl (tg_inc _) (by decide) rfl ?_
      refine vg_goto (tgt := 31) S dL_law_78 (by decide) ?_
      exact vr_F31 E (by omega)
    · skip
      have hn := vn_pos hge
      have hx : 7 * i % 30 < 30 := Nat.mod_lt _ (by decide)
      obtain ⟨f1, f2⟩ := vq_flp hfl hx
      have hs2 : ∀ j, j < 30 → (fa_put σ (nI (7 * i % 30)) (-1) (-1) 0 0 0 0 j ≠ 0 ↔ ∃ q, q < i + 1 ∧ j = 7 * q % 30) := fun j hj => (f2 j hj).trans (by
        rw [hset j hj]
        constructor
        · rintro (⟨q, a, b⟩ | a)
          · exact ⟨q, by omega, b⟩
          · exact ⟨i, by omega, a⟩
        · rintro ⟨q, a, b⟩
          by_cases e : q = i
          · exact Or.inr (by rw [b, e])
          · exact Or.inl ⟨q, by omega, b⟩)
      rw [show tl_s (fx_put σ (nI (7 * i % 30)) (-1) (-1) 0 0 0) (fa_grow (fa_put σ (nI (7 * i % 30)) (-1) (-1) 0 0 0)) σ = fa_grow (fa_put σ (nI (7 * i % 30)) (-1) (-1) 0 0 0) from (vl_sN hn).symm]
      refine vg_iconst (v := 1) S dL_law_68 (by decide) ?_
      refine vg_goto (tgt := 73) S dL_law_69 (by decide) ?_
      refine vg_istore (L' := [(0, .ref b), (1, .ref (h 0)), (2, .ref (g 0)), (3, .int 0), (4, .int 1), (5, .int (nI i))]) [1, 2, 3, 4, 0, 5] S dL_law_73 (by decide) rfl ?_
      refine vg_iinc (v := nI (i + 1)) (L' := [(0, .ref b), (1, .ref (h 0)), (2, .ref (g 0)), (3, .int 0), (4, .int 1), (5, .int (nI (i + 1)))]) [1, 2, 3, 4, 5, 0] S 5 dL_law_75 rfl (tg_inc _) (by decide) rfl ?_
      refine vg_goto (tgt := 31) S dL_law_78 (by decide) ?_
      refine vg_widen (k1 := 46 + (i + 1)) (by omega) (ih (i + 1) _ j2 (by omega) (vq_flc f1 (fun a ha => vq_low ha)) (fun j hj => ?_) (vq_N (vq_Nput hNs)) (fun e16 => ?_))
      · rw [vq_low (by decide)]; exact hs2 j hj
      · rw [vq_roots f1]; exact congrArg nI (vq_16 (fun j hj => by rw [← e16]; exact hs2 j hj))
set_option maxHeartbeats 4000000 in
theorem vr_P0 (E : vr_E p l s m meth c D h g cI cZ b xs)  : vr_G p l e s m b below meth c D (vg_W h g cI cZ (fun _ _ => 0) (fun _ _ => 0)) 46 0 16 [(0, .ref b), (1, .ref (h 0)), (2, .ref (g 0))] [] := by
  have S := E.2.1
  refine vg_aload_n S 0 dL_law_16 rfl rfl ?_
  refine vg_iconst (v := nI 0) S dL_law_17 (by decide) ?_
  refine vr_drawn (i := 0) (rest := []) E (by decide) rfl (Nat.le_of_ble_eq_true rfl) dL_law_18 (by omega) ?_
  refine vg_bipush (v := 30) S dL_law_21 (by decide) ?_
  refine vg_irem (v := 0) S dL_law_23 (by decide) (by decide) ?_
  refine vg_istore_n (L' := [(0, .ref b), (1, .ref (h 0)), (2, .ref (g 0)), (3, .int 0)]) [1, 2, 3, 0] S dL_law_24 rfl (by decide) rfl ?_
  refine vg_iconst (v := 1) S dL_law_25 (by decide) ?_
  refine vg_istore (L' := [(0, .ref b), (1, .ref (h 0)), (2, .ref (g 0)), (3, .int 0), (4, .int 1)]) [1, 2, 3, 4, 0] S dL_law_26 (by decide) rfl ?_
  refine vg_iconst (v := nI 0) S dL_law_28 (by decide) ?_
  refine vg_istore (L' := [(0, .ref b), (1, .ref (h 0)), (2, .ref (g 0)), (3, .int 0), (4, .int 1), (5, .int (nI 0))]) [1, 2, 3, 4, 5, 0] S dL_law_29 (by decide) rfl ?_
  have hN0 : vn_N (fun _ _ => 0) := ⟨fun i hi => Int32.le_refl 0, fun i hi => Int32.le_refl 0⟩
  exact vr_P1 E hN0 16 0 (fun _ _ => 0) 0 rfl (fun i hi c => absurd rfl c) (fun j hj => ⟨fun c => absurd rfl c, fun ⟨q, a, b⟩ => absurd a (Nat.not_lt_zero q)⟩) hN0 (fun c => absurd c (by decide))
end VRW
