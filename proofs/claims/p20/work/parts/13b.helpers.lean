/-! ===== 13b: the law's helpers by contract (printed by wip/p20/genP.py) ===== -/
set_option maxHeartbeats 4000000 in
set_option maxRecDepth 100000 in
theorem k_L_come {l : Launch} {D : va_G} {h : Nat → Nat} {cI cZ : ClassId} (hd : tw_dis 23 h) (hl : l.stackTraces = false) (σ : tg_Mem) (x : Int32) : vl_CT l yL_come wzL_come (tx_rm 9) (tw_T h cI cZ) (tw_ty cI cZ) tw_nl (tw_A 23 h) D [.ref (h 0), .int x, .int 0] σ (fx_put σ x (-1) (-1) 0 0 0) (vl_k (fx_put σ x (-1) (-1) 0 0 0) (fa_grow (fa_put σ x (-1) (-1) 0 0 0) 20 0)) (tl_s (fx_put σ x (-1) (-1) 0 0 0) (fa_grow (fa_put σ x (-1) (-1) 0 0 0)) σ) := by
  refine vl_met (own := RL) (hh := [(45, 86, 87, 14), (45, 86, 92, 16)]) (by decide +kernel) rfl rfl (Nat.le_of_ble_eq_true rfl) ?_
  intro p e s m below meth c S hK hN hX hr hlk ht
  refine tg_sub (L' := [(0, .ref (h 0)), (1, .int x), (2, .int 0)]) [0, 1, 2] rfl ?_
  refine tg_iload_n S 2 dL_come_0 rfl rfl ?_
  refine tg_iconst (v := 4) S dL_come_1 (by decide) ?_
  refine vl_irem (v := 0) S dL_come_2 (by decide) (by decide) ?_
  refine tg_if_ne (tgt := 10) S dL_come_3 (by decide) (fun c => absurd rfl c) (fun _ => ?_)
  refine tg_iconst (v := -1) S dL_come_6 (by decide) ?_
  refine tg_goto (tgt := 16) S dL_come_7 (by decide) ?_
  refine tg_istore_n (L' := [(0, .ref (h 0)), (1, .int x), (2, .int 0), (3, .int (-1))]) [1, 2, 3, 0] S dL_come_16 rfl (by decide) rfl ?_
  refine tg_iload_n S 3 dL_come_17 rfl rfl ?_
  refine tg_iconst (v := -1) S dL_come_18 (by decide) ?_
  refine tg_icmp_eq (tgt := 31) S dL_come_19 (by decide) (fun _ => ?_) (fun c => absurd rfl c)
  refine tg_iconst (v := -1) S dL_come_31 (by decide) ?_
  refine tg_goto (tgt := 43) S dL_come_32 (by decide) ?_
  refine tg_istore (L' := [(0, .ref (h 0)), (1, .int x), (2, .int 0), (3, .int (-1)), (4, .int (-1))]) [1, 2, 3, 4, 0] S dL_come_43 (by decide) rfl ?_
  refine tg_aload_n S 0 dL_come_45 rfl rfl ?_
  refine tg_iload_n S 1 dL_come_46 rfl rfl ?_
  refine tg_iload S 4 dL_come_47 rfl ?_
  refine tg_iload_n S 3 dL_come_49 rfl rfl ?_
  refine tg_iload_n S 2 dL_come_50 rfl rfl ?_
  refine tg_sipush (v := 2048) S dL_come_51 (by decide) ?_
  refine vl_idiv (v := 0) S dL_come_54 (by decide) (by decide) ?_
  refine tg_iconst (v := 2) S dL_come_55 (by decide) ?_
  refine vl_irem (v := 0) S dL_come_56 (by decide) (by decide) ?_
  refine tg_bipush (v := 10) S dL_come_57 (by decide) ?_
  refine vl_imul (v := 0) S dL_come_59 (by decide) ?_
  refine tg_iload_n S 2 dL_come_60 rfl rfl ?_
  refine tg_sipush (v := 4096) S dL_come_61 (by decide) ?_
  refine vl_idiv (v := 0) S dL_come_64 (by decide) (by decide) ?_
  refine tg_iconst (v := 2) S dL_come_65 (by decide) ?_
  refine vl_irem (v := 0) S dL_come_66 (by decide) (by decide) ?_
  refine vl_iadd (v := 0) S dL_come_67 (by decide) ?_
  refine tg_iload_n S 2 dL_come_68 rfl rfl ?_
  refine tg_sipush (v := 8192) S dL_come_69 (by decide) ?_
  refine vl_idiv (v := 0) S dL_come_72 (by decide) (by decide) ?_
  refine tg_bipush (v := 50) S dL_come_73 (by decide) ?_
  refine vl_irem (v := 0) S dL_come_75 (by decide) (by decide) ?_
  refine tg_iload_n S 2 dL_come_76 rfl rfl ?_
  refine tg_bipush (v := 11) S dL_come_77 (by decide) ?_
  refine vl_idiv (v := 0) S dL_come_79 (by decide) (by decide) ?_
  refine tg_bipush (v := 10) S dL_come_80 (by decide) ?_
  refine vl_irem (v := 0) S dL_come_82 (by decide) (by decide) ?_
  refine vl_call (nA := 6) (As := [.int x, .int (-1), .int (-1), .int 0, .int 0, .int 0]) (rest := []) S hK hN hX.1 (k_X2_letter hd hl σ x (-1) (-1) 0 0 0) (tw_gV ml_RL_8 im_X2_letter se_X2_letter in_RX2 co_X2_letter rfl) rfl (by decide +kernel) ⟨Nat.le_of_ble_eq_true rfl, Nat.le_of_ble_eq_true rfl⟩ rfl rfl (Nat.le_of_ble_eq_true rfl) dL_come_83 ⟨Nat.le_of_ble_eq_true rfl, Nat.le_of_ble_eq_true rfl⟩ ?_ (fun hx => ?_)
  · intro E hE H locs ls qa ce hP hS hlt hlv hce hcv hcl
    rcases tl_eP hE with rfl | rfl
    · refine tl_catch1 (x1 := ⟨45, 86, 87, 14⟩) S ht rfl (by decide) tl_lI (hX.1.1 _ (by simp [tx_I, tx_J, tx_O])) hce hcv hcl ?_
      refine lv_astore S.1 S.2.1 dL_come_87 hlv (by decide) rfl (fun ls2 hl2 => ?_)
      exact vl_hand S hr hlk hP hS hlt hl2.1 dL_come_89 dL_come_91 (vl_kS hE) (vl_sS hE)
    · refine tl_catch2 (E1 := tx_I) (x1 := ⟨45, 86, 87, 14⟩) (x2 := ⟨45, 86, 92, 16⟩) S ht (by decide) tl_lI hX.2.1 rfl (by decide) tl_lJ (hX.1.1 _ (by simp [tx_I, tx_J, tx_O])) hce hcv hcl ?_
      refine lv_astore S.1 S.2.1 dL_come_92 hlv (by decide) rfl (fun ls2 hl2 => ?_)
      exact vl_hand S hr hlk hP hS hlt hl2.1 dL_come_94 dL_come_96 (vl_kS hE) (vl_sS hE)
  · skip
    exact vl_ret S hr hlk dL_come_86 hx (vl_kN hx) (vl_sN hx)
set_option maxHeartbeats 4000000 in
set_option maxRecDepth 100000 in
theorem k_L_does0 {l : Launch} {D : va_G} {h : Nat → Nat} {cI cZ : ClassId} (hd : tw_dis 23 h) (hl : l.stackTraces = false) (σ : tg_Mem) (x : Int32) : vl_CT l yL_does wzL_does (tx_rm 9) (tw_T h cI cZ) (tw_ty cI cZ) tw_nl (tw_A 23 h) D [.ref (h 0), .int 0, .int x] σ (fx_letter σ x) (vl_k (fx_letter σ x) (fa_grow (fa_drop σ x) 20 0)) (tl_s (fx_letter σ x) (fa_grow (fa_drop σ x)) σ) := by
  refine vl_met (own := RL) (hh := [(0, 54, 55, 14), (0, 54, 59, 16)]) (by decide +kernel) rfl rfl (Nat.le_of_ble_eq_true rfl) ?_
  intro p e s m below meth c S hK hN hX hr hlk ht
  refine tg_sub (L' := [(0, .ref (h 0)), (1, .int 0), (2, .int x)]) [0, 1, 2] rfl ?_
  refine tg_iload_n S 1 dL_does_0 rfl rfl ?_
  refine tg_if_ne (tgt := 12) S dL_does_1 (by decide) (fun c => absurd rfl c) (fun _ => ?_)
  refine tg_aload_n S 0 dL_does_4 rfl rfl ?_
  refine tg_iload_n S 2 dL_does_5 rfl rfl ?_
  refine vl_call (nA := 1) (As := [.int x]) (rest := []) S hK hN hX.1 (k_X2_delete hd hl σ x) (tw_gV ml_RL_18 im_X2_delete se_X2_delete in_RX2 co_X2_delete rfl) rfl (by decide +kernel) ⟨Nat.le_of_ble_eq_true rfl, Nat.le_of_ble_eq_true rfl⟩ rfl rfl (Nat.le_of_ble_eq_true rfl) dL_does_6 ⟨Nat.le_of_ble_eq_true rfl, Nat.le_of_ble_eq_true rfl⟩ ?_ (fun hx => ?_)
  · intro E hE H locs ls qa ce hP hS hlt hlv hce hcv hcl
    rcases tl_eL hE with rfl | rfl
    · refine tl_catch1 (x1 := ⟨0, 54, 55, 14⟩) S ht rfl (by decide) tl_lI (hX.1.1 _ (by simp [tx_I, tx_J, tx_O])) hce hcv hcl ?_
      refine lv_astore_n S.1 S.2.1 dL_does_55 rfl hlv (by decide) rfl (fun ls2 hl2 => ?_)
      exact vl_hand S hr hlk hP hS hlt hl2.1 dL_does_56 dL_does_58 (vl_kS hE) (vl_sS hE)
    · refine tl_catch2 (E1 := tx_I) (x1 := ⟨0, 54, 55, 14⟩) (x2 := ⟨0, 54, 59, 16⟩) S ht (by decide) tl_lI hX.2.1 rfl (by decide) tl_lJ (hX.1.1 _ (by simp [tx_I, tx_J, tx_O])) hce hcv hcl ?_
      refine lv_astore_n S.1 S.2.1 dL_does_59 rfl hlv (by decide) rfl (fun ls2 hl2 => ?_)
      exact vl_hand S hr hlk hP hS hlt hl2.1 dL_does_60 dL_does_62 (vl_kS hE) (vl_sS hE)
  · skip
    refine tg_goto (tgt := 54) S dL_does_9 (by decide) ?_
    exact vl_ret S hr hlk dL_does_54 hx (vl_kN hx) (vl_sN hx)
set_option maxHeartbeats 4000000 in
set_option maxRecDepth 100000 in
theorem k_L_does3 {l : Launch} {D : va_G} {h : Nat → Nat} {cI cZ : ClassId} (hd : tw_dis 23 h) (hl : l.stackTraces = false) (σ : tg_Mem) (x : Int32) : vl_CT l yL_does wzL_does (tx_rm 9) (tw_T h cI cZ) (tw_ty cI cZ) tw_nl (tw_A 23 h) D [.ref (h 0), .int 3, .int x] σ (fx_join σ x 0) (vl_k (fx_join σ x 0) (fa_par (fa_grow (fa_setHand σ x 0)) x)) (tl_s (fx_join σ x 0) (fa_grow (fa_setHand σ x 0)) σ) := by
  refine vl_met (own := RL) (hh := [(0, 54, 55, 14), (0, 54, 59, 16)]) (by decide +kernel) rfl rfl (Nat.le_of_ble_eq_true rfl) ?_
  intro p e s m below meth c S hK hN hX hr hlk ht
  refine tg_sub (L' := [(0, .ref (h 0)), (1, .int 3), (2, .int x)]) [0, 1, 2] rfl ?_
  refine tg_iload_n S 1 dL_does_0 rfl rfl ?_
  refine tg_if_ne (tgt := 12) S dL_does_1 (by decide) (fun _ => ?_) (fun c => absurd c (by decide))
  refine tg_iload_n S 1 dL_does_12 rfl rfl ?_
  refine tg_iconst (v := 1) S dL_does_13 (by decide) ?_
  refine tg_icmp_ne (tgt := 25) S dL_does_14 (by decide) (fun _ => ?_) (fun c => absurd c (by decide))
  refine tg_iload_n S 1 dL_does_25 rfl rfl ?_
  refine tg_iconst (v := 2) S dL_does_26 (by decide) ?_
  refine tg_icmp_ne (tgt := 46) S dL_does_27 (by decide) (fun _ => ?_) (fun c => absurd c (by decide))
  refine tg_aload_n S 0 dL_does_46 rfl rfl ?_
  refine tg_iload_n S 2 dL_does_47 rfl rfl ?_
  refine tg_iload_n S 1 dL_does_48 rfl rfl ?_
  refine tg_iconst (v := 3) S dL_does_49 (by decide) ?_
  refine vl_isub (v := 0) S dL_does_50 (by decide) ?_
  refine vl_call (nA := 2) (As := [.int x, .int 0]) (rest := []) S hK hN hX.1 (k_X2_join hd hl σ x 0) (tw_gV ml_RL_29 im_X2_join se_X2_join in_RX2 co_X2_join rfl) rfl (by decide +kernel) ⟨Nat.le_of_ble_eq_true rfl, Nat.le_of_ble_eq_true rfl⟩ rfl rfl (Nat.le_of_ble_eq_true rfl) dL_does_51 ⟨Nat.le_of_ble_eq_true rfl, Nat.le_of_ble_eq_true rfl⟩ ?_ (fun hx => ?_)
  · intro E hE H locs ls qa ce hP hS hlt hlv hce hcv hcl
    rcases tl_eJ hE with rfl | rfl
    · refine tl_catch1 (x1 := ⟨0, 54, 55, 14⟩) S ht rfl (by decide) tl_lI (hX.1.1 _ (by simp [tx_I, tx_J, tx_O])) hce hcv hcl ?_
      refine lv_astore_n S.1 S.2.1 dL_does_55 rfl hlv (by decide) rfl (fun ls2 hl2 => ?_)
      exact vl_hand S hr hlk hP hS hlt hl2.1 dL_does_56 dL_does_58 (vl_kS hE) (vl_sS hE)
    · refine tl_catch2 (E1 := tx_I) (x1 := ⟨0, 54, 55, 14⟩) (x2 := ⟨0, 54, 59, 16⟩) S ht (by decide) tl_lI hX.2.1 rfl (by decide) tl_lJ (hX.1.1 _ (by simp [tx_I, tx_J, tx_O])) hce hcv hcl ?_
      refine lv_astore_n S.1 S.2.1 dL_does_59 rfl hlv (by decide) rfl (fun ls2 hl2 => ?_)
      exact vl_hand S hr hlk hP hS hlt hl2.1 dL_does_60 dL_does_62 (vl_kS hE) (vl_sS hE)
  · skip
    exact vl_ret S hr hlk dL_does_54 hx (vl_kN hx) (vl_sN hx)
set_option maxHeartbeats 4000000 in
set_option maxRecDepth 100000 in
theorem k_L_of0 {l : Launch} {D : va_G} {h : Nat → Nat} {cI cZ : ClassId} (hd : tw_dis 23 h) (hl : l.stackTraces = false) (σ : tg_Mem) (x : Int32) : vl_CT l yL_of wzL_of (tx_rm 9) (tw_T h cI cZ) (tw_ty cI cZ) tw_nl (tw_A 23 h) D [.ref (h 0), .int 0, .int x] σ (fx_id x) (vl_k (fx_id x) (fx_state σ x)) σ := by
  refine vl_met (own := RL) (hh := [(0, 69, 70, 14), (0, 69, 74, 51)]) (by decide +kernel) rfl rfl (Nat.le_of_ble_eq_true rfl) ?_
  intro p e s m below meth c S hK hN hX hr hlk ht
  refine tg_sub (L' := [(0, .ref (h 0)), (1, .int 0), (2, .int x)]) [0, 1, 2] rfl ?_
  refine tg_iload_n S 1 dL_of_0 rfl rfl ?_
  refine tg_if_ne (tgt := 12) S dL_of_1 (by decide) (fun c => absurd rfl c) (fun _ => ?_)
  refine tg_aload_n S 0 dL_of_4 rfl rfl ?_
  refine tg_iload_n S 2 dL_of_5 rfl rfl ?_
  refine vl_call (nA := 1) (As := [.int x]) (rest := []) S hK hN hX.1 (k_X2_state hd hl σ x) (tw_gV ml_RL_33 im_X2_state se_X2_state in_RX2 co_X2_state rfl) rfl (by decide +kernel) ⟨Nat.le_of_ble_eq_true rfl, Nat.le_of_ble_eq_true rfl⟩ rfl rfl (Nat.le_of_ble_eq_true rfl) dL_of_6 ⟨Nat.le_of_ble_eq_true rfl, Nat.le_of_ble_eq_true rfl⟩ ?_ (fun hx => ?_)
  · intro E hE H locs ls qa ce hP hS hlt hlv hce hcv hcl
    obtain rfl := tl_eI hE
    refine tl_catch1 (x1 := ⟨0, 69, 70, 14⟩) S ht rfl (by decide) tl_lI (hX.1.1 _ (by simp [tx_I, tx_J, tx_O])) hce hcv hcl ?_
    refine lv_astore_n S.1 S.2.1 dL_of_70 rfl hlv (by decide) rfl (fun ls2 hl2 => ?_)
    exact vl_hand S hr hlk hP hS hlt hl2.1 dL_of_71 dL_of_73 (vl_kS hE) rfl
  · skip
    refine tg_goto (tgt := 69) S dL_of_9 (by decide) ?_
    exact vl_ret S hr hlk dL_of_69 hx (vl_kN hx) rfl
set_option maxHeartbeats 4000000 in
set_option maxRecDepth 100000 in
theorem k_L_of1 {l : Launch} {D : va_G} {h : Nat → Nat} {cI cZ : ClassId} (hd : tw_dis 23 h) (hl : l.stackTraces = false) (σ : tg_Mem) (x : Int32) : vl_CT l yL_of wzL_of (tx_rm 9) (tw_T h cI cZ) (tw_ty cI cZ) tw_nl (tw_A 23 h) D [.ref (h 0), .int 1, .int x] σ (fx_forest σ x) (vl_k (fx_forest σ x) (fa_par σ x)) σ := by
  refine vl_met (own := RL) (hh := [(0, 69, 70, 14), (0, 69, 74, 51)]) (by decide +kernel) rfl rfl (Nat.le_of_ble_eq_true rfl) ?_
  intro p e s m below meth c S hK hN hX hr hlk ht
  refine tg_sub (L' := [(0, .ref (h 0)), (1, .int 1), (2, .int x)]) [0, 1, 2] rfl ?_
  refine tg_iload_n S 1 dL_of_0 rfl rfl ?_
  refine tg_if_ne (tgt := 12) S dL_of_1 (by decide) (fun _ => ?_) (fun c => absurd c (by decide))
  refine tg_iload_n S 1 dL_of_12 rfl rfl ?_
  refine tg_iconst (v := 1) S dL_of_13 (by decide) ?_
  refine tg_icmp_ne (tgt := 25) S dL_of_14 (by decide) (fun c => absurd rfl c) (fun _ => ?_)
  refine tg_aload_n S 0 dL_of_17 rfl rfl ?_
  refine tg_iload_n S 2 dL_of_18 rfl rfl ?_
  refine vl_call (nA := 1) (As := [.int x]) (rest := []) S hK hN hX.1 (k_X2_parent hd hl σ x) (tw_gV ml_RL_36 im_X2_parent se_X2_parent in_RX2 co_X2_parent rfl) rfl (by decide +kernel) ⟨Nat.le_of_ble_eq_true rfl, Nat.le_of_ble_eq_true rfl⟩ rfl rfl (Nat.le_of_ble_eq_true rfl) dL_of_19 ⟨Nat.le_of_ble_eq_true rfl, Nat.le_of_ble_eq_true rfl⟩ ?_ (fun hx => ?_)
  · intro E hE H locs ls qa ce hP hS hlt hlv hce hcv hcl
    rcases tl_eF hE with rfl | rfl
    · refine tl_catch1 (x1 := ⟨0, 69, 70, 14⟩) S ht rfl (by decide) tl_lI (hX.1.1 _ (by simp [tx_I, tx_J, tx_O])) hce hcv hcl ?_
      refine lv_astore_n S.1 S.2.1 dL_of_70 rfl hlv (by decide) rfl (fun ls2 hl2 => ?_)
      exact vl_hand S hr hlk hP hS hlt hl2.1 dL_of_71 dL_of_73 (vl_kS hE) rfl
    · refine tl_catch2 (E1 := tx_I) (x1 := ⟨0, 69, 70, 14⟩) (x2 := ⟨0, 69, 74, 51⟩) S ht (by decide) tl_lI hX.2.2 rfl (by decide) tl_lO (hX.1.1 _ (by simp [tx_I, tx_J, tx_O])) hce hcv hcl ?_
      refine lv_astore_n S.1 S.2.1 dL_of_74 rfl hlv (by decide) rfl (fun ls2 hl2 => ?_)
      exact vl_hand S hr hlk hP hS hlt hl2.1 dL_of_75 dL_of_77 (vl_kS hE) rfl
  · skip
    refine tg_goto (tgt := 69) S dL_of_22 (by decide) ?_
    exact vl_ret S hr hlk dL_of_69 hx (vl_kN hx) rfl
set_option maxHeartbeats 4000000 in
set_option maxRecDepth 100000 in
theorem k_L_of2 {l : Launch} {D : va_G} {h : Nat → Nat} {cI cZ : ClassId} (hd : tw_dis 23 h) (hl : l.stackTraces = false) (σ : tg_Mem) (x : Int32) : vl_CT l yL_of wzL_of (tx_rm 9) (tw_T h cI cZ) (tw_ty cI cZ) tw_nl (tw_A 23 h) D [.ref (h 0), .int 2, .int x] σ (fx_root σ x) (vl_k (fx_root σ x) (fa_rootAt σ x)) σ := by
  refine vl_met (own := RL) (hh := [(0, 69, 70, 14), (0, 69, 74, 51)]) (by decide +kernel) rfl rfl (Nat.le_of_ble_eq_true rfl) ?_
  intro p e s m below meth c S hK hN hX hr hlk ht
  refine tg_sub (L' := [(0, .ref (h 0)), (1, .int 2), (2, .int x)]) [0, 1, 2] rfl ?_
  refine tg_iload_n S 1 dL_of_0 rfl rfl ?_
  refine tg_if_ne (tgt := 12) S dL_of_1 (by decide) (fun _ => ?_) (fun c => absurd c (by decide))
  refine tg_iload_n S 1 dL_of_12 rfl rfl ?_
  refine tg_iconst (v := 1) S dL_of_13 (by decide) ?_
  refine tg_icmp_ne (tgt := 25) S dL_of_14 (by decide) (fun _ => ?_) (fun c => absurd c (by decide))
  refine tg_iload_n S 1 dL_of_25 rfl rfl ?_
  refine tg_iconst (v := 2) S dL_of_26 (by decide) ?_
  refine tg_icmp_ne (tgt := 38) S dL_of_27 (by decide) (fun c => absurd rfl c) (fun _ => ?_)
  refine tg_aload_n S 0 dL_of_30 rfl rfl ?_
  refine tg_iload_n S 2 dL_of_31 rfl rfl ?_
  refine vl_call (nA := 1) (As := [.int x]) (rest := []) S hK hN hX.1 (k_X2_root hd hl σ x) (tw_gV ml_RL_39 im_X2_root se_X2_root in_RX2 co_X2_root rfl) rfl (by decide +kernel) ⟨Nat.le_of_ble_eq_true rfl, Nat.le_of_ble_eq_true rfl⟩ rfl rfl (Nat.le_of_ble_eq_true rfl) dL_of_32 ⟨Nat.le_of_ble_eq_true rfl, Nat.le_of_ble_eq_true rfl⟩ ?_ (fun hx => ?_)
  · intro E hE H locs ls qa ce hP hS hlt hlv hce hcv hcl
    obtain rfl := tl_eR hE
    refine tl_catch2 (E1 := tx_I) (x1 := ⟨0, 69, 70, 14⟩) (x2 := ⟨0, 69, 74, 51⟩) S ht (by decide) tl_lI hX.2.2 rfl (by decide) tl_lO (hX.1.1 _ (by simp [tx_I, tx_J, tx_O])) hce hcv hcl ?_
    refine lv_astore_n S.1 S.2.1 dL_of_74 rfl hlv (by decide) rfl (fun ls2 hl2 => ?_)
    exact vl_hand S hr hlk hP hS hlt hl2.1 dL_of_75 dL_of_77 (vl_kS hE) rfl
  · skip
    refine tg_goto (tgt := 69) S dL_of_35 (by decide) ?_
    exact vl_ret S hr hlk dL_of_69 hx (vl_kN hx) rfl
set_option maxHeartbeats 4000000 in
set_option maxRecDepth 100000 in
theorem k_L_of3 {l : Launch} {D : va_G} {h : Nat → Nat} {cI cZ : ClassId} (hd : tw_dis 23 h) (hl : l.stackTraces = false) (σ : tg_Mem) (x : Int32) : vl_CT l yL_of wzL_of (tx_rm 9) (tw_T h cI cZ) (tw_ty cI cZ) tw_nl (tw_A 23 h) D [.ref (h 0), .int 3, .int x] σ (fx_forest σ x) (vl_k (fx_forest σ x) (fx_letters σ x)) σ := by
  refine vl_met (own := RL) (hh := [(0, 69, 70, 14), (0, 69, 74, 51)]) (by decide +kernel) rfl rfl (Nat.le_of_ble_eq_true rfl) ?_
  intro p e s m below meth c S hK hN hX hr hlk ht
  refine tg_sub (L' := [(0, .ref (h 0)), (1, .int 3), (2, .int x)]) [0, 1, 2] rfl ?_
  refine tg_iload_n S 1 dL_of_0 rfl rfl ?_
  refine tg_if_ne (tgt := 12) S dL_of_1 (by decide) (fun _ => ?_) (fun c => absurd c (by decide))
  refine tg_iload_n S 1 dL_of_12 rfl rfl ?_
  refine tg_iconst (v := 1) S dL_of_13 (by decide) ?_
  refine tg_icmp_ne (tgt := 25) S dL_of_14 (by decide) (fun _ => ?_) (fun c => absurd c (by decide))
  refine tg_iload_n S 1 dL_of_25 rfl rfl ?_
  refine tg_iconst (v := 2) S dL_of_26 (by decide) ?_
  refine tg_icmp_ne (tgt := 38) S dL_of_27 (by decide) (fun _ => ?_) (fun c => absurd c (by decide))
  refine tg_iload_n S 1 dL_of_38 rfl rfl ?_
  refine tg_iconst (v := 3) S dL_of_39 (by decide) ?_
  refine tg_icmp_ne (tgt := 51) S dL_of_40 (by decide) (fun c => absurd rfl c) (fun _ => ?_)
  refine tg_aload_n S 0 dL_of_43 rfl rfl ?_
  refine tg_iload_n S 2 dL_of_44 rfl rfl ?_
  refine vl_call (nA := 1) (As := [.int x]) (rest := []) S hK hN hX.1 (k_X2_letters hd hl σ x) (tw_gV ml_RL_42 im_X2_letters se_X2_letters in_RX2 co_X2_letters rfl) rfl (by decide +kernel) ⟨Nat.le_of_ble_eq_true rfl, Nat.le_of_ble_eq_true rfl⟩ rfl rfl (Nat.le_of_ble_eq_true rfl) dL_of_45 ⟨Nat.le_of_ble_eq_true rfl, Nat.le_of_ble_eq_true rfl⟩ ?_ (fun hx => ?_)
  · intro E hE H locs ls qa ce hP hS hlt hlv hce hcv hcl
    rcases tl_eF hE with rfl | rfl
    · refine tl_catch1 (x1 := ⟨0, 69, 70, 14⟩) S ht rfl (by decide) tl_lI (hX.1.1 _ (by simp [tx_I, tx_J, tx_O])) hce hcv hcl ?_
      refine lv_astore_n S.1 S.2.1 dL_of_70 rfl hlv (by decide) rfl (fun ls2 hl2 => ?_)
      exact vl_hand S hr hlk hP hS hlt hl2.1 dL_of_71 dL_of_73 (vl_kS hE) rfl
    · refine tl_catch2 (E1 := tx_I) (x1 := ⟨0, 69, 70, 14⟩) (x2 := ⟨0, 69, 74, 51⟩) S ht (by decide) tl_lI hX.2.2 rfl (by decide) tl_lO (hX.1.1 _ (by simp [tx_I, tx_J, tx_O])) hce hcv hcl ?_
      refine lv_astore_n S.1 S.2.1 dL_of_74 rfl hlv (by decide) rfl (fun ls2 hl2 => ?_)
      exact vl_hand S hr hlk hP hS hlt hl2.1 dL_of_75 dL_of_77 (vl_kS hE) rfl
  · skip
    refine tg_goto (tgt := 69) S dL_of_48 (by decide) ?_
    exact vl_ret S hr hlk dL_of_69 hx (vl_kN hx) rfl
set_option maxHeartbeats 4000000 in
set_option maxRecDepth 100000 in
theorem k_L_of4 {l : Launch} {D : va_G} {h : Nat → Nat} {cI cZ : ClassId} (hd : tw_dis 23 h) (hl : l.stackTraces = false) (σ : tg_Mem) (x : Int32) : vl_CT l yL_of wzL_of (tx_rm 9) (tw_T h cI cZ) (tw_ty cI cZ) tw_nl (tw_A 23 h) D [.ref (h 0), .int 4, .int x] σ (fx_forest σ x) (vl_k (fx_forest σ x) (fx_people σ x)) σ := by
  refine vl_met (own := RL) (hh := [(0, 69, 70, 14), (0, 69, 74, 51)]) (by decide +kernel) rfl rfl (Nat.le_of_ble_eq_true rfl) ?_
  intro p e s m below meth c S hK hN hX hr hlk ht
  refine tg_sub (L' := [(0, .ref (h 0)), (1, .int 4), (2, .int x)]) [0, 1, 2] rfl ?_
  refine tg_iload_n S 1 dL_of_0 rfl rfl ?_
  refine tg_if_ne (tgt := 12) S dL_of_1 (by decide) (fun _ => ?_) (fun c => absurd c (by decide))
  refine tg_iload_n S 1 dL_of_12 rfl rfl ?_
  refine tg_iconst (v := 1) S dL_of_13 (by decide) ?_
  refine tg_icmp_ne (tgt := 25) S dL_of_14 (by decide) (fun _ => ?_) (fun c => absurd c (by decide))
  refine tg_iload_n S 1 dL_of_25 rfl rfl ?_
  refine tg_iconst (v := 2) S dL_of_26 (by decide) ?_
  refine tg_icmp_ne (tgt := 38) S dL_of_27 (by decide) (fun _ => ?_) (fun c => absurd c (by decide))
  refine tg_iload_n S 1 dL_of_38 rfl rfl ?_
  refine tg_iconst (v := 3) S dL_of_39 (by decide) ?_
  refine tg_icmp_ne (tgt := 51) S dL_of_40 (by decide) (fun _ => ?_) (fun c => absurd c (by decide))
  refine tg_iload_n S 1 dL_of_51 rfl rfl ?_
  refine tg_iconst (v := 4) S dL_of_52 (by decide) ?_
  refine tg_icmp_ne (tgt := 64) S dL_of_53 (by decide) (fun c => absurd rfl c) (fun _ => ?_)
  refine tg_aload_n S 0 dL_of_56 rfl rfl ?_
  refine tg_iload_n S 2 dL_of_57 rfl rfl ?_
  refine vl_call (nA := 1) (As := [.int x]) (rest := []) S hK hN hX.1 (k_X2_people hd hl σ x) (tw_gV ml_RL_45 im_X2_people se_X2_people in_RX2 co_X2_people rfl) rfl (by decide +kernel) ⟨Nat.le_of_ble_eq_true rfl, Nat.le_of_ble_eq_true rfl⟩ rfl rfl (Nat.le_of_ble_eq_true rfl) dL_of_58 ⟨Nat.le_of_ble_eq_true rfl, Nat.le_of_ble_eq_true rfl⟩ ?_ (fun hx => ?_)
  · intro E hE H locs ls qa ce hP hS hlt hlv hce hcv hcl
    rcases tl_eF hE with rfl | rfl
    · refine tl_catch1 (x1 := ⟨0, 69, 70, 14⟩) S ht rfl (by decide) tl_lI (hX.1.1 _ (by simp [tx_I, tx_J, tx_O])) hce hcv hcl ?_
      refine lv_astore_n S.1 S.2.1 dL_of_70 rfl hlv (by decide) rfl (fun ls2 hl2 => ?_)
      exact vl_hand S hr hlk hP hS hlt hl2.1 dL_of_71 dL_of_73 (vl_kS hE) rfl
    · refine tl_catch2 (E1 := tx_I) (x1 := ⟨0, 69, 70, 14⟩) (x2 := ⟨0, 69, 74, 51⟩) S ht (by decide) tl_lI hX.2.2 rfl (by decide) tl_lO (hX.1.1 _ (by simp [tx_I, tx_J, tx_O])) hce hcv hcl ?_
      refine lv_astore_n S.1 S.2.1 dL_of_74 rfl hlv (by decide) rfl (fun ls2 hl2 => ?_)
      exact vl_hand S hr hlk hP hS hlt hl2.1 dL_of_75 dL_of_77 (vl_kS hE) rfl
  · skip
    refine tg_goto (tgt := 69) S dL_of_61 (by decide) ?_
    exact vl_ret S hr hlk dL_of_69 hx (vl_kN hx) rfl
set_option maxHeartbeats 4000000 in
set_option maxRecDepth 100000 in
theorem k_L_of5 {l : Launch} {D : va_G} {h : Nat → Nat} {cI cZ : ClassId} (hd : tw_dis 23 h) (hl : l.stackTraces = false) (σ : tg_Mem) (x : Int32) : vl_CT l yL_of wzL_of (tx_rm 9) (tw_T h cI cZ) (tw_ty cI cZ) tw_nl (tw_A 23 h) D [.ref (h 0), .int 5, .int x] σ (fx_forest σ x) (vl_k (fx_forest σ x) (fx_latest σ x)) σ := by
  refine vl_met (own := RL) (hh := [(0, 69, 70, 14), (0, 69, 74, 51)]) (by decide +kernel) rfl rfl (Nat.le_of_ble_eq_true rfl) ?_
  intro p e s m below meth c S hK hN hX hr hlk ht
  refine tg_sub (L' := [(0, .ref (h 0)), (1, .int 5), (2, .int x)]) [0, 1, 2] rfl ?_
  refine tg_iload_n S 1 dL_of_0 rfl rfl ?_
  refine tg_if_ne (tgt := 12) S dL_of_1 (by decide) (fun _ => ?_) (fun c => absurd c (by decide))
  refine tg_iload_n S 1 dL_of_12 rfl rfl ?_
  refine tg_iconst (v := 1) S dL_of_13 (by decide) ?_
  refine tg_icmp_ne (tgt := 25) S dL_of_14 (by decide) (fun _ => ?_) (fun c => absurd c (by decide))
  refine tg_iload_n S 1 dL_of_25 rfl rfl ?_
  refine tg_iconst (v := 2) S dL_of_26 (by decide) ?_
  refine tg_icmp_ne (tgt := 38) S dL_of_27 (by decide) (fun _ => ?_) (fun c => absurd c (by decide))
  refine tg_iload_n S 1 dL_of_38 rfl rfl ?_
  refine tg_iconst (v := 3) S dL_of_39 (by decide) ?_
  refine tg_icmp_ne (tgt := 51) S dL_of_40 (by decide) (fun _ => ?_) (fun c => absurd c (by decide))
  refine tg_iload_n S 1 dL_of_51 rfl rfl ?_
  refine tg_iconst (v := 4) S dL_of_52 (by decide) ?_
  refine tg_icmp_ne (tgt := 64) S dL_of_53 (by decide) (fun _ => ?_) (fun c => absurd c (by decide))
  refine tg_aload_n S 0 dL_of_64 rfl rfl ?_
  refine tg_iload_n S 2 dL_of_65 rfl rfl ?_
  refine vl_call (nA := 1) (As := [.int x]) (rest := []) S hK hN hX.1 (k_X2_latest hd hl σ x) (tw_gV ml_RL_48 im_X2_latest se_X2_latest in_RX2 co_X2_latest rfl) rfl (by decide +kernel) ⟨Nat.le_of_ble_eq_true rfl, Nat.le_of_ble_eq_true rfl⟩ rfl rfl (Nat.le_of_ble_eq_true rfl) dL_of_66 ⟨Nat.le_of_ble_eq_true rfl, Nat.le_of_ble_eq_true rfl⟩ ?_ (fun hx => ?_)
  · intro E hE H locs ls qa ce hP hS hlt hlv hce hcv hcl
    rcases tl_eF hE with rfl | rfl
    · refine tl_catch1 (x1 := ⟨0, 69, 70, 14⟩) S ht rfl (by decide) tl_lI (hX.1.1 _ (by simp [tx_I, tx_J, tx_O])) hce hcv hcl ?_
      refine lv_astore_n S.1 S.2.1 dL_of_70 rfl hlv (by decide) rfl (fun ls2 hl2 => ?_)
      exact vl_hand S hr hlk hP hS hlt hl2.1 dL_of_71 dL_of_73 (vl_kS hE) rfl
    · refine tl_catch2 (E1 := tx_I) (x1 := ⟨0, 69, 70, 14⟩) (x2 := ⟨0, 69, 74, 51⟩) S ht (by decide) tl_lI hX.2.2 rfl (by decide) tl_lO (hX.1.1 _ (by simp [tx_I, tx_J, tx_O])) hce hcv hcl ?_
      refine lv_astore_n S.1 S.2.1 dL_of_74 rfl hlv (by decide) rfl (fun ls2 hl2 => ?_)
      exact vl_hand S hr hlk hP hS hlt hl2.1 dL_of_75 dL_of_77 (vl_kS hE) rfl
  · skip
    exact vl_ret S hr hlk dL_of_69 hx (vl_kN hx) rfl
set_option maxHeartbeats 4000000 in
set_option maxRecDepth 100000 in
theorem k_L_inTree {l : Launch} {D : va_G} {h : Nat → Nat} {cI cZ : ClassId} (hd : tw_dis 23 h) (hl : l.stackTraces = false) (σ : tg_Mem) (x : Int32) (y : Int32) : vl_CT l yL_inTree wzL_inTree (tx_rm 9) (tw_T h cI cZ) (tw_ty cI cZ) tw_nl (tw_A 23 h) D [.ref (h 0), .int x, .int y] σ (fx_inTree σ x y) (vl_k (fx_inTree σ x y) (fa_idAt σ x y)) σ := by
  refine vl_met (own := RL) (hh := [(0, 6, 7, 14), (0, 6, 11, 51)]) (by decide +kernel) rfl rfl (Nat.le_of_ble_eq_true rfl) ?_
  intro p e s m below meth c S hK hN hX hr hlk ht
  refine tg_sub (L' := [(0, .ref (h 0)), (1, .int x), (2, .int y)]) [0, 1, 2] rfl ?_
  refine tg_aload_n S 0 dL_inTree_0 rfl rfl ?_
  refine tg_iload_n S 1 dL_inTree_1 rfl rfl ?_
  refine tg_iload_n S 2 dL_inTree_2 rfl rfl ?_
  refine vl_call (nA := 2) (As := [.int x, .int y]) (rest := []) S hK hN hX.1 (k_X2_inTree hd hl σ x y) (tw_gV ml_RL_53 im_X2_inTree se_X2_inTree in_RX2 co_X2_inTree rfl) rfl (by decide +kernel) ⟨Nat.le_of_ble_eq_true rfl, Nat.le_of_ble_eq_true rfl⟩ rfl rfl (Nat.le_of_ble_eq_true rfl) dL_inTree_3 ⟨Nat.le_of_ble_eq_true rfl, Nat.le_of_ble_eq_true rfl⟩ ?_ (fun hx => ?_)
  · intro E hE H locs ls qa ce hP hS hlt hlv hce hcv hcl
    rcases tl_eN hE with rfl | rfl
    · refine tl_catch1 (x1 := ⟨0, 6, 7, 14⟩) S ht rfl (by decide) tl_lI (hX.1.1 _ (by simp [tx_I, tx_J, tx_O])) hce hcv hcl ?_
      refine lv_astore_n S.1 S.2.1 dL_inTree_7 rfl hlv (by decide) rfl (fun ls2 hl2 => ?_)
      exact vl_hand S hr hlk hP hS hlt hl2.1 dL_inTree_8 dL_inTree_10 (vl_kS hE) rfl
    · refine tl_catch2 (E1 := tx_I) (x1 := ⟨0, 6, 7, 14⟩) (x2 := ⟨0, 6, 11, 51⟩) S ht (by decide) tl_lI hX.2.2 rfl (by decide) tl_lO (hX.1.1 _ (by simp [tx_I, tx_J, tx_O])) hce hcv hcl ?_
      refine lv_astore_n S.1 S.2.1 dL_inTree_11 rfl hlv (by decide) rfl (fun ls2 hl2 => ?_)
      exact vl_hand S hr hlk hP hS hlt hl2.1 dL_inTree_12 dL_inTree_14 (vl_kS hE) rfl
  · skip
    exact vl_ret S hr hlk dL_inTree_6 hx (vl_kN hx) rfl
