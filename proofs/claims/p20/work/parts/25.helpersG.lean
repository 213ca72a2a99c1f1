/-! ===== 25: the law's helpers at any drawn number (printed by wip/p20/genP2.py) ===== -/
set_option maxHeartbeats 4000000 in
set_option maxRecDepth 100000 in
theorem k_L_does1 {l : Launch} {D : va_G} {h : Nat → Nat} {cI cZ : ClassId} (hd : tw_dis 23 h) (hl : l.stackTraces = false) (σ : tg_Mem) (x : Int32) : vl_CT l yL_does wzL_does (tx_rm 9) (tw_T h cI cZ) (tw_ty cI cZ) tw_nl (tw_A 23 h) D [.ref (h 0), .int 1, .int x] σ (fx_letter σ x) (vl_k (fx_letter σ x) (fa_par σ x)) (tl_s (fx_letter σ x) (fa_grow (fa_setHand σ x (-2))) σ) := by
  refine vl_met (own := RL) (hh := [(0, 54, 55, 14), (0, 54, 59, 16)]) (by decide +kernel) rfl rfl (Nat.le_of_ble_eq_true rfl) ?_
  intro p e s m below meth c S hK hN hX hr hlk ht
  refine tg_sub (L' := [(0, .ref (h 0)), (1, .int 1), (2, .int x)]) [0, 1, 2] rfl ?_
  refine tg_iload_n S 1 dL_does_0 rfl rfl ?_
  refine tg_if_ne (tgt := 12) S dL_does_1 (by decide) (fun _ => ?_) (fun c => absurd c (by decide))
  refine tg_iload_n S 1 dL_does_12 rfl rfl ?_
  refine tg_iconst (v := 1) S dL_does_13 (by decide) ?_
  refine tg_icmp_ne (tgt := 25) S dL_does_14 (by decide) (fun c => absurd rfl c) (fun _ => ?_)
  refine tg_aload_n S 0 dL_does_17 rfl rfl ?_
  refine tg_iload_n S 2 dL_does_18 rfl rfl ?_
  refine vl_call (nA := 1) (As := [.int x]) (rest := []) S hK hN hX.1 (k_X2_split hd hl σ x) (tw_gV ml_RL_22 im_X2_split se_X2_split in_RX2 co_X2_split rfl) rfl (by decide +kernel) ⟨Nat.le_of_ble_eq_true rfl, Nat.le_of_ble_eq_true rfl⟩ rfl rfl (Nat.le_of_ble_eq_true rfl) dL_does_19 ⟨Nat.le_of_ble_eq_true rfl, Nat.le_of_ble_eq_true rfl⟩ ?_ (fun hx => ?_)
  · intro E hE H locs ls qa ce hP hS hlt hlv hce hcv hcl
    rcases tl_eL hE with rfl | rfl
    · refine tl_catch1 (x1 := ⟨0, 54, 55, 14⟩) S ht rfl (by decide) tl_lI (hX.1.1 _ (by simp [tx_I, tx_J, tx_O])) hce hcv hcl ?_
      refine lv_astore_n S.1 S.2.1 dL_does_55 rfl hlv (by decide) rfl (fun ls2 hl2 => ?_)
      exact vl_hand S hr hlk hP hS hlt hl2.1 dL_does_56 dL_does_58 (vl_kS hE) (vl_sS hE)
    · refine tl_catch2 (E1 := tx_I) (x1 := ⟨0, 54, 55, 14⟩) (x2 := ⟨0, 54, 59, 16⟩) S ht (by decide) tl_lI hX.2.1 rfl (by decide) tl_lJ (hX.1.1 _ (by simp [tx_I, tx_J, tx_O])) hce hcv hcl ?_
      refine lv_astore_n S.1 S.2.1 dL_does_59 rfl hlv (by decide) rfl (fun ls2 hl2 => ?_)
      exact vl_hand S hr hlk hP hS hlt hl2.1 dL_does_60 dL_does_62 (vl_kS hE) (vl_sS hE)
  · skip
    refine tg_goto (tgt := 54) S dL_does_22 (by decide) ?_
    exact vl_ret S hr hlk dL_does_54 hx (vl_kN hx) (vl_sN hx)
set_option maxHeartbeats 4000000 in
set_option maxRecDepth 100000 in
theorem k_L_does2 {l : Launch} {D : va_G} {h : Nat → Nat} {cI cZ : ClassId} (hd : tw_dis 23 h) (hl : l.stackTraces = false) (σ : tg_Mem) (x : Int32) : vl_CT l yL_does wzL_does (tx_rm 9) (tw_T h cI cZ) (tw_ty cI cZ) tw_nl (tw_A 23 h) D [.ref (h 0), .int 2, .int x] σ (fx_letter σ x) (vl_k (fx_letter σ x) (tg_b (fx_touched σ x))) (tl_s (fx_letter σ x) (fa_grow (fa_setHand σ x (-1))) σ) := by
  refine vl_met (own := RL) (hh := [(0, 54, 55, 14), (0, 54, 59, 16)]) (by decide +kernel) rfl rfl (Nat.le_of_ble_eq_true rfl) ?_
  intro p e s m below meth c S hK hN hX hr hlk ht
  refine tg_sub (L' := [(0, .ref (h 0)), (1, .int 2), (2, .int x)]) [0, 1, 2] rfl ?_
  refine tg_iload_n S 1 dL_does_0 rfl rfl ?_
  refine tg_if_ne (tgt := 12) S dL_does_1 (by decide) (fun _ => ?_) (fun c => absurd c (by decide))
  refine tg_iload_n S 1 dL_does_12 rfl rfl ?_
  refine tg_iconst (v := 1) S dL_does_13 (by decide) ?_
  refine tg_icmp_ne (tgt := 25) S dL_does_14 (by decide) (fun _ => ?_) (fun c => absurd c (by decide))
  refine tg_iload_n S 1 dL_does_25 rfl rfl ?_
  refine tg_iconst (v := 2) S dL_does_26 (by decide) ?_
  refine tg_icmp_ne (tgt := 46) S dL_does_27 (by decide) (fun c => absurd rfl c) (fun _ => ?_)
  refine tg_aload_n S 0 dL_does_30 rfl rfl ?_
  refine tg_iload_n S 2 dL_does_31 rfl rfl ?_
  refine vl_call (nA := 1) (As := [.int x]) (rest := []) S hK hN hX.1 (k_X2_release hd hl σ x) (tw_gV ml_RL_25 im_X2_release se_X2_release in_RX2 co_X2_release rfl) rfl (by decide +kernel) ⟨Nat.le_of_ble_eq_true rfl, Nat.le_of_ble_eq_true rfl⟩ rfl rfl (Nat.le_of_ble_eq_true rfl) dL_does_32 ⟨Nat.le_of_ble_eq_true rfl, Nat.le_of_ble_eq_true rfl⟩ ?_ (fun hx => ?_)
  · intro E hE H locs ls qa ce hP hS hlt hlv hce hcv hcl
    rcases tl_eL hE with rfl | rfl
    · refine tl_catch1 (x1 := ⟨0, 54, 55, 14⟩) S ht rfl (by decide) tl_lI (hX.1.1 _ (by simp [tx_I, tx_J, tx_O])) hce hcv hcl ?_
      refine lv_astore_n S.1 S.2.1 dL_does_55 rfl hlv (by decide) rfl (fun ls2 hl2 => ?_)
      exact vl_hand S hr hlk hP hS hlt hl2.1 dL_does_56 dL_does_58 (vl_kS hE) (vl_sS hE)
    · refine tl_catch2 (E1 := tx_I) (x1 := ⟨0, 54, 55, 14⟩) (x2 := ⟨0, 54, 59, 16⟩) S ht (by decide) tl_lI hX.2.1 rfl (by decide) tl_lJ (hX.1.1 _ (by simp [tx_I, tx_J, tx_O])) hce hcv hcl ?_
      refine lv_astore_n S.1 S.2.1 dL_does_59 rfl hlv (by decide) rfl (fun ls2 hl2 => ?_)
      exact vl_hand S hr hlk hP hS hlt hl2.1 dL_does_60 dL_does_62 (vl_kS hE) (vl_sS hE)
  · refine tg_ifz (b := fx_touched σ x) (tgt := 42) S dL_does_35 (by decide) (fun c_1 => ?_) (fun c_1 => ?_)
    · refine tg_iconst (v := 0) S dL_does_42 (by decide) ?_
      refine tg_goto (tgt := 54) S dL_does_43 (by decide) ?_
      exact vl_ret S hr hlk dL_does_54 hx (by rw [c_1]; exact vl_kN hx) (vl_sN hx)
    · refine tg_iconst (v := 1) S dL_does_38 (by decide) ?_
      refine tg_goto (tgt := 54) S dL_does_39 (by decide) ?_
      exact vl_ret S hr hlk dL_does_54 hx (by rw [c_1]; exact vl_kN hx) (vl_sN hx)
theorem zsub3 : ∀ o, o < 30 → nI (3 + o) - 3 = nI o := by decide +kernel
set_option maxHeartbeats 4000000 in
set_option maxRecDepth 100000 in
theorem k_L_does3o {l : Launch} {D : va_G} {h : Nat → Nat} {cI cZ : ClassId} (hd : tw_dis 23 h) (hl : l.stackTraces = false) (σ : tg_Mem) (x : Int32) {o : Nat} (ho : o < 30) : vl_CT l yL_does wzL_does (tx_rm 9) (tw_T h cI cZ) (tw_ty cI cZ) tw_nl (tw_A 23 h) D [.ref (h 0), .int (nI (3 + o)), .int x] σ (fx_join σ x (nI o)) (vl_k (fx_join σ x (nI o)) (fa_par (fa_grow (fa_setHand σ x (nI o))) x)) (tl_s (fx_join σ x (nI o)) (fa_grow (fa_setHand σ x (nI o))) σ) := by
  refine vl_met (own := RL) (hh := [(0, 54, 55, 14), (0, 54, 59, 16)]) (by decide +kernel) rfl rfl (Nat.le_of_ble_eq_true rfl) ?_
  intro p e s m below meth c S hK hN hX hr hlk ht
  refine tg_sub (L' := [(0, .ref (h 0)), (1, .int (nI (3 + o))), (2, .int x)]) [0, 1, 2] rfl ?_
  refine tg_iload_n S 1 dL_does_0 rfl rfl ?_
  refine tg_if_ne (tgt := 12) S dL_does_1 (by decide) (fun _ => ?_) (fun c => absurd c (nI_ne0 (by omega) (by omega)))
  refine tg_iload_n S 1 dL_does_12 rfl rfl ?_
  refine tg_iconst (v := 1) S dL_does_13 (by decide) ?_
  refine tg_icmp_ne (tgt := 25) S dL_does_14 (by decide) (fun _ => ?_) (fun c => absurd ((nI_eq (a := 3 + o) (b := 1) (by omega) (by omega)).mp c) (by omega))
  refine tg_iload_n S 1 dL_does_25 rfl rfl ?_
  refine tg_iconst (v := 2) S dL_does_26 (by decide) ?_
  refine tg_icmp_ne (tgt := 46) S dL_does_27 (by decide) (fun _ => ?_) (fun c => absurd ((nI_eq (a := 3 + o) (b := 2) (by omega) (by omega)).mp c) (by omega))
  refine tg_aload_n S 0 dL_does_46 rfl rfl ?_
  refine tg_iload_n S 2 dL_does_47 rfl rfl ?_
  refine tg_iload_n S 1 dL_does_48 rfl rfl ?_
  refine tg_iconst (v := 3) S dL_does_49 (by decide) ?_
  refine vl_isub (v := nI o) S dL_does_50 (zsub3 o ho) ?_
  refine vl_call (nA := 2) (As := [.int x, .int (nI o)]) (rest := []) S hK hN hX.1 (k_X2_join hd hl σ x (nI o)) (tw_gV ml_RL_29 im_X2_join se_X2_join in_RX2 co_X2_join rfl) rfl (by decide +kernel) ⟨Nat.le_of_ble_eq_true rfl, Nat.le_of_ble_eq_true rfl⟩ rfl rfl (Nat.le_of_ble_eq_true rfl) dL_does_51 ⟨Nat.le_of_ble_eq_true rfl, Nat.le_of_ble_eq_true rfl⟩ ?_ (fun hx => ?_)
  · intro E hE H locs ls qa ce hP hS hlt hlv hce hcv hcl
    rcases tl_eJ hE with rfl | rfl
    · refine tl_catch1 (x1 := ⟨0, 54, 55, 14⟩) S ht rfl (by decide) tl_lI (hX.1.1 _ (by simp [tx_I, tx_J, tx_O])) hce hcv hcl ?_
      refine lv_astore_n S.1 S.2.1 dL_does_55 rfl hlv (by decide) rfl (fun ls2 hl2 => ?_)
      exact vl_hand S hr hlk hP hS hlt hl2.1 dL_does_56 dL_does_58 (vl_kS hE) (vl_sS hE)
    · refine tl_catch2 (E1 := tx_I) (x1 := ⟨0, 54, 55, 14⟩) (x2 := ⟨0, 54, 59, 16⟩) S ht (by decide) tl_lI hX.2.1 rfl (by decide) tl_lJ (hX.1.1 _ (by simp [tx_I, tx_J, tx_O])) hce hcv hcl ?_
      refine lv_astore_n S.1 S.2.1 dL_does_59 rfl hlv (by decide) rfl (fun ls2 hl2 => ?_)
      exact vl_hand S hr hlk hP hS hlt hl2.1 dL_does_60 dL_does_62 (vl_kS hE) (vl_sS hE)
  · exact vl_ret S hr hlk dL_does_54 hx (vl_kN hx) (vl_sN hx)
set_option maxHeartbeats 4000000 in
set_option maxRecDepth 100000 in
theorem k_L_comeZ {l : Launch} {D : va_G} {h : Nat → Nat} {cI cZ : ClassId} (hd : tw_dis 23 h) (hl : l.stackTraces = false) (σ : tg_Mem) (x : Int32) {n : Nat} (hn : n < 2 ^ 31) : vl_CT l yL_come wzL_come (tx_rm 9) (tw_T h cI cZ) (tw_ty cI cZ) tw_nl (tw_A 23 h) D [.ref (h 0), .int x, .int (nI n)] σ (zex σ x n) (vl_k (zex σ x n) (fa_grow (zput σ x n) 20 0)) (tl_s (zex σ x n) (fa_grow (zput σ x n)) σ) := by
  refine vl_met (own := RL) (hh := [(45, 86, 87, 14), (45, 86, 92, 16)]) (by decide +kernel) rfl rfl (Nat.le_of_ble_eq_true rfl) ?_
  intro p e s m below meth c S hK hN hX hr hlk ht
  refine tg_sub (L' := [(0, .ref (h 0)), (1, .int x), (2, .int (nI n))]) [0, 1, 2] rfl ?_
  refine tg_iload_n S 2 dL_come_0 rfl rfl ?_
  refine tg_iconst (v := nI 4) S dL_come_1 (by decide) ?_
  refine vl_irem (v := nI (n % 4)) S dL_come_2 (by decide) (pk_rem (by omega) (by decide) (by decide)) ?_
  refine tg_if_ne (tgt := 10) S dL_come_3 (by decide) (fun c4 => ?_) (fun c4 => ?_)
  · have q4 : ¬ n % 4 = 0 := fun q => c4 (by rw [q]; decide)
    have hzp : zp n = nI (n / 4 % 16) := by unfold zp; rw [if_neg q4]
    refine tg_iload_n S 2 dL_come_10 rfl rfl ?_
    refine tg_iconst (v := nI 4) S dL_come_11 (by decide) ?_
    refine vl_idiv (v := nI (n / 4)) S dL_come_12 (by decide) (pk_div hn (by decide) (by decide)) ?_
    refine tg_bipush (v := nI 16) S dL_come_13 (by decide) ?_
    refine vl_irem (v := nI (n / 4 % 16)) S dL_come_15 (by decide) (pk_rem (by omega) (by decide) (by decide)) ?_
    refine tg_istore_n (L' := [(0, .ref (h 0)), (1, .int x), (2, .int (nI n)), (3, .int (nI (n / 4 % 16)))]) [1, 2, 3, 0] S dL_come_16 rfl (by decide) rfl ?_
    refine tg_iload_n S 3 dL_come_17 rfl rfl ?_
    refine tg_iconst (v := -1) S dL_come_18 (by decide) ?_
    refine tg_icmp_eq (tgt := 31) S dL_come_19 (by decide) (fun c => absurd c (tr_nI1 (by omega))) (fun c1 => ?_)
    refine tg_iload_n S 2 dL_come_22 rfl rfl ?_
    refine tg_bipush (v := nI 64) S dL_come_23 (by decide) ?_
    refine vl_idiv (v := nI (n / 64)) S dL_come_25 (by decide) (pk_div hn (by decide) (by decide)) ?_
    refine tg_iconst (v := nI 2) S dL_come_26 (by decide) ?_
    refine vl_irem (v := nI (n / 64 % 2)) S dL_come_27 (by decide) (pk_rem (by omega) (by decide) (by decide)) ?_
    refine tg_if_ne (tgt := 35) S dL_come_28 (by decide) (fun c6 => ?_) (fun c6 => ?_)
    · have q6 : ¬ n / 64 % 2 = 0 := fun q => c6 (by rw [q]; decide)
      have hzg : zg n = nI (n / 128 % 16) := by unfold zg; rw [hzp, if_neg c1, if_neg q6]
      refine tg_iload_n S 2 dL_come_35 rfl rfl ?_
      refine tg_sipush (v := nI 128) S dL_come_36 (by decide) ?_
      refine vl_idiv (v := nI (n / 128)) S dL_come_39 (by decide) (pk_div hn (by decide) (by decide)) ?_
      refine tg_bipush (v := nI 16) S dL_come_40 (by decide) ?_
      refine vl_irem (v := nI (n / 128 % 16)) S dL_come_42 (by decide) (pk_rem (by omega) (by decide) (by decide)) ?_
      refine tg_eq (σ2 := σ) (L2 := [(0, .ref (h 0)), (1, .int x), (2, .int (nI n)), (3, .int (zp n))]) (st2 := [.int (zg n)]) rfl (by rw [hzp]) (by rw [hzg]) ?_
      refine tg_istore (L' := [(0, .ref (h 0)), (1, .int x), (2, .int (nI n)), (3, .int (zp n)), (4, .int (zg n))]) [1, 2, 3, 4, 0] S dL_come_43 (by decide) rfl ?_
      refine tg_aload_n S 0 dL_come_45 rfl rfl ?_
      refine tg_iload_n S 1 dL_come_46 rfl rfl ?_
      refine tg_iload S 4 dL_come_47 rfl ?_
      refine tg_iload_n S 3 dL_come_49 rfl rfl ?_
      refine tg_iload_n S 2 dL_come_50 rfl rfl ?_
      refine tg_sipush (v := nI 2048) S dL_come_51 (by decide) ?_
      refine vl_idiv (v := nI (n / 2048)) S dL_come_54 (by decide) (pk_div hn (by decide) (by decide)) ?_
      refine tg_iconst (v := nI 2) S dL_come_55 (by decide) ?_
      refine vl_irem (v := nI (n / 2048 % 2)) S dL_come_56 (by decide) (pk_rem (by omega) (by decide) (by decide)) ?_
      refine tg_bipush (v := nI 10) S dL_come_57 (by decide) ?_
      refine vl_imul (v := nI (n / 2048 % 2 * 10)) S dL_come_59 (Int32.ofNat_mul _ _).symm ?_
      refine tg_iload_n S 2 dL_come_60 rfl rfl ?_
      refine tg_sipush (v := nI 4096) S dL_come_61 (by decide) ?_
      refine vl_idiv (v := nI (n / 4096)) S dL_come_64 (by decide) (pk_div hn (by decide) (by decide)) ?_
      refine tg_iconst (v := nI 2) S dL_come_65 (by decide) ?_
      refine vl_irem (v := nI (n / 4096 % 2)) S dL_come_66 (by decide) (pk_rem (by omega) (by decide) (by decide)) ?_
      refine vl_iadd (v := zs n) S dL_come_67 (nI_add _ _) ?_
      refine tg_iload_n S 2 dL_come_68 rfl rfl ?_
      refine tg_sipush (v := nI 8192) S dL_come_69 (by decide) ?_
      refine vl_idiv (v := nI (n / 8192)) S dL_come_72 (by decide) (pk_div hn (by decide) (by decide)) ?_
      refine tg_bipush (v := nI 50) S dL_come_73 (by decide) ?_
      refine vl_irem (v := zd n) S dL_come_75 (by decide) (pk_rem (by omega) (by decide) (by decide)) ?_
      refine tg_iload_n S 2 dL_come_76 rfl rfl ?_
      refine tg_bipush (v := nI 11) S dL_come_77 (by decide) ?_
      refine vl_idiv (v := nI (n / 11)) S dL_come_79 (by decide) (pk_div hn (by decide) (by decide)) ?_
      refine tg_bipush (v := nI 10) S dL_come_80 (by decide) ?_
      refine vl_irem (v := zw n) S dL_come_82 (by decide) (pk_rem (by omega) (by decide) (by decide)) ?_
      refine vl_call (nA := 6) (As := [.int x, .int (zg n), .int (zp n), .int (zs n), .int (zd n), .int (zw n)]) (rest := []) S hK hN hX.1 (k_X2_letter hd hl σ x (zg n) (zp n) (zs n) (zd n) (zw n)) (tw_gV ml_RL_8 im_X2_letter se_X2_letter in_RX2 co_X2_letter rfl) rfl (by decide +kernel) ⟨Nat.le_of_ble_eq_true rfl, Nat.le_of_ble_eq_true rfl⟩ rfl rfl (Nat.le_of_ble_eq_true rfl) dL_come_83 ⟨Nat.le_of_ble_eq_true rfl, Nat.le_of_ble_eq_true rfl⟩ ?_ (fun hx => ?_)
      · intro E hE H locs ls qa ce hP hS hlt hlv hce hcv hcl
        rcases tl_eP hE with rfl | rfl
        · refine tl_catch1 (x1 := ⟨45, 86, 87, 14⟩) S ht rfl (by decide) tl_lI (hX.1.1 _ (by simp [tx_I, tx_J, tx_O])) hce hcv hcl ?_
          refine lv_astore S.1 S.2.1 dL_come_87 hlv (by decide) rfl (fun ls2 hl2 => ?_)
          exact vl_hand S hr hlk hP hS hlt hl2.1 dL_come_89 dL_come_91 (vl_kS hE) (vl_sS hE)
        · refine tl_catch2 (E1 := tx_I) (x1 := ⟨45, 86, 87, 14⟩) (x2 := ⟨45, 86, 92, 16⟩) S ht (by decide) tl_lI hX.2.1 rfl (by decide) tl_lJ (hX.1.1 _ (by simp [tx_I, tx_J, tx_O])) hce hcv hcl ?_
          refine lv_astore S.1 S.2.1 dL_come_92 hlv (by decide) rfl (fun ls2 hl2 => ?_)
          exact vl_hand S hr hlk hP hS hlt hl2.1 dL_come_94 dL_come_96 (vl_kS hE) (vl_sS hE)
      · exact vl_ret S hr hlk dL_come_86 hx (vl_kN hx) (vl_sN hx)
    · have q6 : n / 64 % 2 = 0 := (nI_eq (a := n / 64 % 2) (b := 0) (by omega) (by omega)).mp (c6.trans nI_0.symm)
      have hzg : zg n = -1 := by unfold zg; rw [hzp, if_neg c1, if_pos q6]
      refine tg_iconst (v := -1) S dL_come_31 (by decide) ?_
      refine tg_goto (tgt := 43) S dL_come_32 (by decide) ?_
      refine tg_eq (σ2 := σ) (L2 := [(0, .ref (h 0)), (1, .int x), (2, .int (nI n)), (3, .int (zp n))]) (st2 := [.int (zg n)]) rfl (by rw [hzp]) (by rw [hzg]) ?_
      refine tg_istore (L' := [(0, .ref (h 0)), (1, .int x), (2, .int (nI n)), (3, .int (zp n)), (4, .int (zg n))]) [1, 2, 3, 4, 0] S dL_come_43 (by decide) rfl ?_
      refine tg_aload_n S 0 dL_come_45 rfl rfl ?_
      refine tg_iload_n S 1 dL_come_46 rfl rfl ?_
      refine tg_iload S 4 dL_come_47 rfl ?_
      refine tg_iload_n S 3 dL_come_49 rfl rfl ?_
      refine tg_iload_n S 2 dL_come_50 rfl rfl ?_
      refine tg_sipush (v := nI 2048) S dL_come_51 (by decide) ?_
      refine vl_idiv (v := nI (n / 2048)) S dL_come_54 (by decide) (pk_div hn (by decide) (by decide)) ?_
      refine tg_iconst (v := nI 2) S dL_come_55 (by decide) ?_
      refine vl_irem (v := nI (n / 2048 % 2)) S dL_come_56 (by decide) (pk_rem (by omega) (by decide) (by decide)) ?_
      refine tg_bipush (v := nI 10) S dL_come_57 (by decide) ?_
      refine vl_imul (v := nI (n / 2048 % 2 * 10)) S dL_come_59 (Int32.ofNat_mul _ _).symm ?_
      refine tg_iload_n S 2 dL_come_60 rfl rfl ?_
      refine tg_sipush (v := nI 4096) S dL_come_61 (by decide) ?_
      refine vl_idiv (v := nI (n / 4096)) S dL_come_64 (by decide) (pk_div hn (by decide) (by decide)) ?_
      refine tg_iconst (v := nI 2) S dL_come_65 (by decide) ?_
      refine vl_irem (v := nI (n / 4096 % 2)) S dL_come_66 (by decide) (pk_rem (by omega) (by decide) (by decide)) ?_
      refine vl_iadd (v := zs n) S dL_come_67 (nI_add _ _) ?_
      refine tg_iload_n S 2 dL_come_68 rfl rfl ?_
      refine tg_sipush (v := nI 8192) S dL_come_69 (by decide) ?_
      refine vl_idiv (v := nI (n / 8192)) S dL_come_72 (by decide) (pk_div hn (by decide) (by decide)) ?_
      refine tg_bipush (v := nI 50) S dL_come_73 (by decide) ?_
      refine vl_irem (v := zd n) S dL_come_75 (by decide) (pk_rem (by omega) (by decide) (by decide)) ?_
      refine tg_iload_n S 2 dL_come_76 rfl rfl ?_
      refine tg_bipush (v := nI 11) S dL_come_77 (by decide) ?_
      refine vl_idiv (v := nI (n / 11)) S dL_come_79 (by decide) (pk_div hn (by decide) (by decide)) ?_
      refine tg_bipush (v := nI 10) S dL_come_80 (by decide) ?_
      refine vl_irem (v := zw n) S dL_come_82 (by decide) (pk_rem (by omega) (by decide) (by decide)) ?_
      refine vl_call (nA := 6) (As := [.int x, .int (zg n), .int (zp n), .int (zs n), .int (zd n), .int (zw n)]) (rest := []) S hK hN hX.1 (k_X2_letter hd hl σ x (zg n) (zp n) (zs n) (zd n) (zw n)) (tw_gV ml_RL_8 im_X2_letter se_X2_letter in_RX2 co_X2_letter rfl) rfl (by decide +kernel) ⟨Nat.le_of_ble_eq_true rfl, Nat.le_of_ble_eq_true rfl⟩ rfl rfl (Nat.le_of_ble_eq_true rfl) dL_come_83 ⟨Nat.le_of_ble_eq_true rfl, Nat.le_of_ble_eq_true rfl⟩ ?_ (fun hx => ?_)
      · intro E hE H locs ls qa ce hP hS hlt hlv hce hcv hcl
        rcases tl_eP hE with rfl | rfl
        · refine tl_catch1 (x1 := ⟨45, 86, 87, 14⟩) S ht rfl (by decide) tl_lI (hX.1.1 _ (by simp [tx_I, tx_J, tx_O])) hce hcv hcl ?_
          refine lv_astore S.1 S.2.1 dL_come_87 hlv (by decide) rfl (fun ls2 hl2 => ?_)
          exact vl_hand S hr hlk hP hS hlt hl2.1 dL_come_89 dL_come_91 (vl_kS hE) (vl_sS hE)
        · refine tl_catch2 (E1 := tx_I) (x1 := ⟨45, 86, 87, 14⟩) (x2 := ⟨45, 86, 92, 16⟩) S ht (by decide) tl_lI hX.2.1 rfl (by decide) tl_lJ (hX.1.1 _ (by simp [tx_I, tx_J, tx_O])) hce hcv hcl ?_
          refine lv_astore S.1 S.2.1 dL_come_92 hlv (by decide) rfl (fun ls2 hl2 => ?_)
          exact vl_hand S hr hlk hP hS hlt hl2.1 dL_come_94 dL_come_96 (vl_kS hE) (vl_sS hE)
      · exact vl_ret S hr hlk dL_come_86 hx (vl_kN hx) (vl_sN hx)
  · have q4 : n % 4 = 0 := (nI_eq (a := n % 4) (b := 0) (by omega) (by omega)).mp (c4.trans nI_0.symm)
    have hzp : zp n = -1 := by unfold zp; rw [if_pos q4]
    have hzg : zg n = -1 := by unfold zg; rw [if_pos hzp]
    refine tg_iconst (v := -1) S dL_come_6 (by decide) ?_
    refine tg_goto (tgt := 16) S dL_come_7 (by decide) ?_
    refine tg_istore_n (L' := [(0, .ref (h 0)), (1, .int x), (2, .int (nI n)), (3, .int (-1))]) [1, 2, 3, 0] S dL_come_16 rfl (by decide) rfl ?_
    refine tg_iload_n S 3 dL_come_17 rfl rfl ?_
    refine tg_iconst (v := -1) S dL_come_18 (by decide) ?_
    refine tg_icmp_eq (tgt := 31) S dL_come_19 (by decide) (fun _ => ?_) (fun c => absurd rfl c)
    refine tg_iconst (v := -1) S dL_come_31 (by decide) ?_
    refine tg_goto (tgt := 43) S dL_come_32 (by decide) ?_
    refine tg_eq (σ2 := σ) (L2 := [(0, .ref (h 0)), (1, .int x), (2, .int (nI n)), (3, .int (zp n))]) (st2 := [.int (zg n)]) rfl (by rw [hzp]) (by rw [hzg]) ?_
    refine tg_istore (L' := [(0, .ref (h 0)), (1, .int x), (2, .int (nI n)), (3, .int (zp n)), (4, .int (zg n))]) [1, 2, 3, 4, 0] S dL_come_43 (by decide) rfl ?_
    refine tg_aload_n S 0 dL_come_45 rfl rfl ?_
    refine tg_iload_n S 1 dL_come_46 rfl rfl ?_
    refine tg_iload S 4 dL_come_47 rfl ?_
    refine tg_iload_n S 3 dL_come_49 rfl rfl ?_
    refine tg_iload_n S 2 dL_come_50 rfl rfl ?_
    refine tg_sipush (v := nI 2048) S dL_come_51 (by decide) ?_
    refine vl_idiv (v := nI (n / 2048)) S dL_come_54 (by decide) (pk_div hn (by decide) (by decide)) ?_
    refine tg_iconst (v := nI 2) S dL_come_55 (by decide) ?_
    refine vl_irem (v := nI (n / 2048 % 2)) S dL_come_56 (by decide) (pk_rem (by omega) (by decide) (by decide)) ?_
    refine tg_bipush (v := nI 10) S dL_come_57 (by decide) ?_
    refine vl_imul (v := nI (n / 2048 % 2 * 10)) S dL_come_59 (Int32.ofNat_mul _ _).symm ?_
    refine tg_iload_n S 2 dL_come_60 rfl rfl ?_
    refine tg_sipush (v := nI 4096) S dL_come_61 (by decide) ?_
    refine vl_idiv (v := nI (n / 4096)) S dL_come_64 (by decide) (pk_div hn (by decide) (by decide)) ?_
    refine tg_iconst (v := nI 2) S dL_come_65 (by decide) ?_
    refine vl_irem (v := nI (n / 4096 % 2)) S dL_come_66 (by decide) (pk_rem (by omega) (by decide) (by decide)) ?_
    refine vl_iadd (v := zs n) S dL_come_67 (nI_add _ _) ?_
    refine tg_iload_n S 2 dL_come_68 rfl rfl ?_
    refine tg_sipush (v := nI 8192) S dL_come_69 (by decide) ?_
    refine vl_idiv (v := nI (n / 8192)) S dL_come_72 (by decide) (pk_div hn (by decide) (by decide)) ?_
    refine tg_bipush (v := nI 50) S dL_come_73 (by decide) ?_
    refine vl_irem (v := zd n) S dL_come_75 (by decide) (pk_rem (by omega) (by decide) (by decide)) ?_
    refine tg_iload_n S 2 dL_come_76 rfl rfl ?_
    refine tg_bipush (v := nI 11) S dL_come_77 (by decide) ?_
    refine vl_idiv (v := nI (n / 11)) S dL_come_79 (by decide) (pk_div hn (by decide) (by decide)) ?_
    refine tg_bipush (v := nI 10) S dL_come_80 (by decide) ?_
    refine vl_irem (v := zw n) S dL_come_82 (by decide) (pk_rem (by omega) (by decide) (by decide)) ?_
    refine vl_call (nA := 6) (As := [.int x, .int (zg n), .int (zp n), .int (zs n), .int (zd n), .int (zw n)]) (rest := []) S hK hN hX.1 (k_X2_letter hd hl σ x (zg n) (zp n) (zs n) (zd n) (zw n)) (tw_gV ml_RL_8 im_X2_letter se_X2_letter in_RX2 co_X2_letter rfl) rfl (by decide +kernel) ⟨Nat.le_of_ble_eq_true rfl, Nat.le_of_ble_eq_true rfl⟩ rfl rfl (Nat.le_of_ble_eq_true rfl) dL_come_83 ⟨Nat.le_of_ble_eq_true rfl, Nat.le_of_ble_eq_true rfl⟩ ?_ (fun hx => ?_)
    · intro E hE H locs ls qa ce hP hS hlt hlv hce hcv hcl
      rcases tl_eP hE with rfl | rfl
      · refine tl_catch1 (x1 := ⟨45, 86, 87, 14⟩) S ht rfl (by decide) tl_lI (hX.1.1 _ (by simp [tx_I, tx_J, tx_O])) hce hcv hcl ?_
        refine lv_astore S.1 S.2.1 dL_come_87 hlv (by decide) rfl (fun ls2 hl2 => ?_)
        exact vl_hand S hr hlk hP hS hlt hl2.1 dL_come_89 dL_come_91 (vl_kS hE) (vl_sS hE)
      · refine tl_catch2 (E1 := tx_I) (x1 := ⟨45, 86, 87, 14⟩) (x2 := ⟨45, 86, 92, 16⟩) S ht (by decide) tl_lI hX.2.1 rfl (by decide) tl_lJ (hX.1.1 _ (by simp [tx_I, tx_J, tx_O])) hce hcv hcl ?_
        refine lv_astore S.1 S.2.1 dL_come_92 hlv (by decide) rfl (fun ls2 hl2 => ?_)
        exact vl_hand S hr hlk hP hS hlt hl2.1 dL_come_94 dL_come_96 (vl_kS hE) (vl_sS hE)
    · exact vl_ret S hr hlk dL_come_86 hx (vl_kN hx) (vl_sN hx)
/-! drawn, at any script -/
def du (xs : Nat → Int32) (L k : Nat) : Int32 := if k < L then xs k else 12203 * nI k + 7753
def dn (xs : Nat → Int32) (L k : Nat) : Nat := (du xs L k).toBitVec.toNat % 2 ^ 31
theorem dn_lt (xs : Nat → Int32) (L k : Nat) : dn xs L k < 2 ^ 31 := Nat.mod_lt _ (by decide)
theorem dn_and (xs : Nat → Int32) (L k : Nat) : du xs L k &&& 2147483647 = nI (dn xs L k) := pk_and _ 31 (by decide)
set_option maxHeartbeats 4000000 in
theorem k_L_drawnG {l : Launch} {b i L : Nat} (hi : i < 49) (hL : L ≤ 260) {xs : Nat → Int32} :
    Met l yL_drawn wzL_drawn (tg_rm 0) (va_Pc [.ref b, .int (nI i)] (fun U => va_X b L xs U U.heap ∧ b < U.heap.size)) (fun _ st o t => o = .returned (some (.int (nI (dn xs L i)))) ∧ va_F (fun _ => False) st t) 0 0 (fun _ => False) := by
  refine Met.ofW (cc := cL_drawn) (maxL := 3) (ret := some .int) (by decide +kernel) rfl ?_
  intro p e s m args below meth c s₁ B hml hv
  obtain ⟨rfl, hX, hb⟩ := hv
  have S : CallFix p m c cL_drawn 3 s ([.ref b, .int (nI i)] : List Value).toArray wzL_drawn RL := ⟨B.exec, B.bytes, hml, findClass_of_methodNamed B.named, atoms_spec (ws := wzL_drawn) B.pre⟩
  have hr := B.returns
  have hlk := B.notSynchronized
  have hS : va_S (fun _ : Nat => False) s.heap s.heap [] := va_S.rf
  have hl := lv_entry ([.ref b, .int (nI i)]) (n := 3) (Nat.le_of_ble_eq_true rfl)
  rw [lg_entry_eq]
  generalize (lg_sl ([.ref b, .int (nI i)]) ++ List.replicate (3 - (lg_sl ([.ref b, .int (nI i)])).length) Slot.unset).toArray = ls at hl ⊢
  have hl : lv_has ls 3 [(0, .ref b), (1, .int (nI i))] := hl
  have k21 : W p l e (tg_rm 0) s m ([.ref b, .int (nI i)] : List Value).toArray below meth c s.heap [] 0 0 (MQ below (fun _ st o t => o = .returned (some (.int (nI (dn xs L i)))) ∧ va_F (fun _ => False) st t) ([.ref b, .int (nI i)] : List Value).toArray s 0 0 (fun _ => False)) (F0 m 21 ls [.int (du xs L i)]) := by
    refine lv_istore_n (lv' := [(2, .int (du xs L i)), (0, .ref b), (1, .int (nI i))]) S.1 S.2.1 dL_drawn_21 rfl hl (by decide) rfl (fun ls2 hl2 => ?_)
    refine lv_iload_n S.1 S.2.1 dL_drawn_22 rfl (lv_at hl2 0 rfl) ?_
    refine lv_ldc (own := RL) (v := 2147483647) S.1 S.2.1 S.2.2.2.1 (S.2.2.2.2 _ (tw_in vr_max rfl)) dL_drawn_23 ?_
    refine lv_iand S.1 S.2.1 dL_drawn_25 ?_
    rw [dn_and]
    exact W.iret S.1 S.2.1 hr (fun t ht hW => ⟨rfl, hS.F ht⟩) hS.2.2 dL_drawn_26 hlk
  refine lv_iload_n S.1 S.2.1 dL_drawn_0 rfl (lv_at hl 1 rfl) ?_
  refine lv_aload_n S.1 S.2.1 dL_drawn_1 rfl (lv_at hl 0 rfl) ?_
  refine va_slen S.1 S.2.1 hX hb (fun h => h) hS dL_drawn_2 ?_
  refine lv_icmp_ge (tgt := 12) S.1 S.2.1 dL_drawn_3 (by decide) (fun c1 => ?_) (fun c1 => ?_)
  · have hd : du xs L i = 12203 * nI i + 7753 := by
      unfold du
      rw [if_neg (fun q => nI_ge q (by omega) c1)]
    refine lv_sipush (v := 12203) S.1 S.2.1 dL_drawn_12 (by decide) ?_
    refine lv_iload_n S.1 S.2.1 dL_drawn_15 rfl (lv_at hl 1 rfl) ?_
    refine lv_imul S.1 S.2.1 dL_drawn_16 ?_
    refine lv_sipush (v := 7753) S.1 S.2.1 dL_drawn_17 (by decide) ?_
    refine lv_iadd S.1 S.2.1 dL_drawn_20 ?_
    rw [← hd]
    exact k21
  · have hlt : i < L := Nat.not_le.mp (fun q => c1 (nI_le q (by omega)))
    have hd : du xs L i = xs i := by
      unfold du
      rw [if_pos hlt]
    refine lv_aload_n S.1 S.2.1 dL_drawn_6 rfl (lv_at hl 0 rfl) ?_
    refine lv_iload_n S.1 S.2.1 dL_drawn_7 rfl (lv_at hl 1 rfl) ?_
    refine va_sld S.1 S.2.1 hX hb (fun h => h) hS (nI_in hlt (by omega)) dL_drawn_8 ?_
    rw [nI_clamp (by omega), ← hd]
    refine lv_goto (tgt := 21) S.1 S.2.1 dL_drawn_9 (by decide) ?_
    exact k21
