/-! ===== 13c: the law's helpers (printed by wip/whole/genL.py) ===== -/
theorem tl_kN {ex : Option String} (h : ex = none) : 0 = tl_k ex := by subst h; rfl
theorem tl_kI0 : tl_k (some tx_I) = 1 := by decide +kernel
theorem tl_kJ0 : tl_k (some tx_J) = 2 := by decide +kernel
theorem tl_kO0 : tl_k (some tx_O) = 2 := by decide +kernel
theorem tl_kI {ex : Option String} (h : ex = some tx_I) : 1 = tl_k ex := by rw [h]; exact tl_kI0.symm
theorem tl_kJ {ex : Option String} (h : ex = some tx_J) : 2 = tl_k ex := by rw [h]; exact tl_kJ0.symm
theorem tl_kO {ex : Option String} (h : ex = some tx_O) : 2 = tl_k ex := by rw [h]; exact tl_kO0.symm
theorem tl_k1N {ex : Option String} (h : ex = none) : 0 = tl_k1 ex := by subst h; rfl
theorem tl_k1S {ex : Option String} {E : String} (h : ex = some E) : 1 = tl_k1 ex := by subst h; rfl
theorem tl_wS {h : Nat → Nat} {o : Nat} {cI cZ cJ : ClassId} {ex : Option String} {E : String} {u a : Nat → Int64} {σ b : tg_Mem} (hE : ex = some E) : tl_w h o cI cZ cJ u σ = tl_w h o cI cZ cJ (tl_s ex a u) (tl_s ex b σ) := by subst hE; rfl
theorem tl_wN {h : Nat → Nat} {o : Nat} {cI cZ cJ : ClassId} {ex : Option String} {u a : Nat → Int64} {σ b : tg_Mem} (hE : ex = none) : tl_w h o cI cZ cJ a b = tl_w h o cI cZ cJ (tl_s ex a u) (tl_s ex b σ) := by subst hE; rfl

set_option maxHeartbeats 4000000 in
set_option maxRecDepth 100000 in
theorem k_L_letter {l : Launch} {D : va_G} {h : Nat → Nat} {o : Nat} {cI cZ cJ : ClassId} (hd : tl_dis h o) (hl : l.stackTraces = false) (σ : tg_Mem) (u : Nat → Int64) (x : Int32) (g : Int32) (q : Int32) (sub : Int32) (d : Int32) (w0 : Int32) : tl_CT l yL_letter wzL_letter (tx_rm 9) (tl_w h o cI cZ cJ u) (tl_w h o cI cZ cJ (tl_s (fx_put σ x g q sub d w0) (tl_u u (fa_grow (fa_put σ x g q sub d w0) 20 0).toInt64) u)) (tl_ty cI cZ cJ) tw_nl (tl_A h o) D [.ref (h 0), .int x, .int g, .int q, .int sub, .int d, .int w0, .ref o] σ (tl_k (fx_put σ x g q sub d w0)) (tl_s (fx_put σ x g q sub d w0) (fa_grow (fa_put σ x g q sub d w0)) σ) := by
  refine tl_met (own := RL) (hh := [(0, 18, 21, 13), (0, 18, 25, 15)]) (by decide +kernel) rfl rfl (Nat.le_of_ble_eq_true rfl) ?_
  intro p e s m below meth c S hK hN hX hr hlk ht
  refine tg_sub (L' := [(0, .ref (h 0)), (1, .int x), (2, .int g), (3, .int q), (4, .int sub), (5, .int d), (6, .int w0), (7, .ref o)]) [0, 1, 2, 3, 4, 5, 6, 7] rfl ?_
  refine tg_aload S 7 dL_letter_0 rfl ?_
  refine tg_iconst (v := 0) S dL_letter_2 (by decide) ?_
  refine tg_aload_n S 0 dL_letter_3 rfl rfl ?_
  refine tg_iload_n S 1 dL_letter_4 rfl rfl ?_
  refine tg_iload_n S 2 dL_letter_5 rfl rfl ?_
  refine tg_iload_n S 3 dL_letter_6 rfl rfl ?_
  refine tg_iload S 4 dL_letter_7 rfl ?_
  refine tg_iload S 5 dL_letter_9 rfl ?_
  refine tg_iload S 6 dL_letter_11 rfl ?_
  refine tl_call (nA := 6) (As := [.int x, .int g, .int q, .int sub, .int d, .int w0]) (rest := [.int 0, .ref o]) S hK hN hX.1 hd (k_X2_letter hd.1 hl σ x g q sub d w0) (tw_gV ml_RL_7 im_X2_letter se_X2_letter in_RX2 co_X2_letter rfl) rfl (by decide +kernel) ⟨Nat.le_of_ble_eq_true rfl, Nat.le_of_ble_eq_true rfl⟩ rfl rfl (Nat.le_of_ble_eq_true rfl) dL_letter_13 ⟨Nat.le_of_ble_eq_true rfl, Nat.le_of_ble_eq_true rfl⟩ ?_ (fun hx => ?_)
  · intro E hE H locs ls qa ce hP hS hlv hce hcv hcl
    rcases tl_eP hE with rfl | rfl
    · refine tl_catch1 (x1 := ⟨0, 18, 21, 13⟩) S ht rfl (by decide) tl_lI (hX.1.1 _ (by simp [tx_I, tx_J, tx_O])) hce hcv hcl ?_
      refine tl_app (w := tl_w h o cI cZ cJ u) (L := [(0, .ref (h 0)), (1, .int x), (2, .int g), (3, .int q), (4, .int sub), (5, .int d), (6, .int w0), (7, .ref o)]) hP hS hlv ?_
      refine tl_astore (L' := [(0, .ref (h 0)), (1, .int x), (2, .int g), (3, .int q), (4, .int sub), (5, .int d), (6, .int w0), (7, .ref o), (8, .ref qa)]) [1, 2, 3, 4, 5, 6, 7, 8, 0] S dL_letter_21 (by decide) rfl ?_
      refine tg_iconst (v := 1) S dL_letter_23 (by decide) ?_
      exact tl_ret S hr hlk dL_letter_24 (tl_kI hE) (tl_wS hE)
    · refine tl_catch2 (E1 := tx_I) (x1 := ⟨0, 18, 21, 13⟩) (x2 := ⟨0, 18, 25, 15⟩) S ht (by decide) tl_lI hX.2.1 rfl (by decide) tl_lJ (hX.1.1 _ (by simp [tx_I, tx_J, tx_O])) hce hcv hcl ?_
      refine tl_app (w := tl_w h o cI cZ cJ u) (L := [(0, .ref (h 0)), (1, .int x), (2, .int g), (3, .int q), (4, .int sub), (5, .int d), (6, .int w0), (7, .ref o)]) hP hS hlv ?_
      refine tl_astore (L' := [(0, .ref (h 0)), (1, .int x), (2, .int g), (3, .int q), (4, .int sub), (5, .int d), (6, .int w0), (7, .ref o), (8, .ref qa)]) [1, 2, 3, 4, 5, 6, 7, 8, 0] S dL_letter_25 (by decide) rfl ?_
      refine tg_iconst (v := 2) S dL_letter_27 (by decide) ?_
      exact tl_ret S hr hlk dL_letter_28 (tl_kJ hE) (tl_wS hE)
  · skip
    refine tl_i2l S dL_letter_16 ?_
    refine tl_last S hK hd dL_letter_17 ?_
    refine tg_goto (tgt := 29) S dL_letter_18 (by decide) ?_
    refine tg_iconst (v := 0) S dL_letter_29 (by decide) ?_
    exact tl_ret S hr hlk dL_letter_30 (tl_kN hx) (tl_wN hx)
set_option maxHeartbeats 4000000 in
set_option maxRecDepth 100000 in
theorem k_L_delete {l : Launch} {D : va_G} {h : Nat → Nat} {o : Nat} {cI cZ cJ : ClassId} (hd : tl_dis h o) (hl : l.stackTraces = false) (σ : tg_Mem) (u : Nat → Int64) (x : Int32) : tl_CT l yL_delete wzL_delete (tx_rm 9) (tl_w h o cI cZ cJ u) (tl_w h o cI cZ cJ (tl_s (fx_letter σ x) (tl_u u (fa_grow (fa_drop σ x) 20 0).toInt64) u)) (tl_ty cI cZ cJ) tw_nl (tl_A h o) D [.ref (h 0), .int x, .ref o] σ (tl_k (fx_letter σ x)) (tl_s (fx_letter σ x) (fa_grow (fa_drop σ x)) σ) := by
  refine tl_met (own := RL) (hh := [(0, 9, 12, 13), (0, 9, 15, 15)]) (by decide +kernel) rfl rfl (Nat.le_of_ble_eq_true rfl) ?_
  intro p e s m below meth c S hK hN hX hr hlk ht
  refine tg_sub (L' := [(0, .ref (h 0)), (1, .int x), (2, .ref o)]) [0, 1, 2] rfl ?_
  refine tg_aload_n S 2 dL_delete_0 rfl rfl ?_
  refine tg_iconst (v := 0) S dL_delete_1 (by decide) ?_
  refine tg_aload_n S 0 dL_delete_2 rfl rfl ?_
  refine tg_iload_n S 1 dL_delete_3 rfl rfl ?_
  refine tl_call (nA := 1) (As := [.int x]) (rest := [.int 0, .ref o]) S hK hN hX.1 hd (k_X2_delete hd.1 hl σ x) (tw_gV ml_RL_17 im_X2_delete se_X2_delete in_RX2 co_X2_delete rfl) rfl (by decide +kernel) ⟨Nat.le_of_ble_eq_true rfl, Nat.le_of_ble_eq_true rfl⟩ rfl rfl (Nat.le_of_ble_eq_true rfl) dL_delete_4 ⟨Nat.le_of_ble_eq_true rfl, Nat.le_of_ble_eq_true rfl⟩ ?_ (fun hx => ?_)
  · intro E hE H locs ls qa ce hP hS hlv hce hcv hcl
    rcases tl_eL hE with rfl | rfl
    · refine tl_catch1 (x1 := ⟨0, 9, 12, 13⟩) S ht rfl (by decide) tl_lI (hX.1.1 _ (by simp [tx_I, tx_J, tx_O])) hce hcv hcl ?_
      refine tl_app (w := tl_w h o cI cZ cJ u) (L := [(0, .ref (h 0)), (1, .int x), (2, .ref o)]) hP hS hlv ?_
      refine tl_astore_n (L' := [(0, .ref (h 0)), (1, .int x), (2, .ref o), (3, .ref qa)]) [1, 2, 3, 0] S dL_delete_12 rfl (by decide) rfl ?_
      refine tg_iconst (v := 1) S dL_delete_13 (by decide) ?_
      exact tl_ret S hr hlk dL_delete_14 (tl_kI hE) (tl_wS hE)
    · refine tl_catch2 (E1 := tx_I) (x1 := ⟨0, 9, 12, 13⟩) (x2 := ⟨0, 9, 15, 15⟩) S ht (by decide) tl_lI hX.2.1 rfl (by decide) tl_lJ (hX.1.1 _ (by simp [tx_I, tx_J, tx_O])) hce hcv hcl ?_
      refine tl_app (w := tl_w h o cI cZ cJ u) (L := [(0, .ref (h 0)), (1, .int x), (2, .ref o)]) hP hS hlv ?_
      refine tl_astore_n (L' := [(0, .ref (h 0)), (1, .int x), (2, .ref o), (3, .ref qa)]) [1, 2, 3, 0] S dL_delete_15 rfl (by decide) rfl ?_
      refine tg_iconst (v := 2) S dL_delete_16 (by decide) ?_
      exact tl_ret S hr hlk dL_delete_17 (tl_kJ hE) (tl_wS hE)
  · skip
    refine tl_i2l S dL_delete_7 ?_
    refine tl_last S hK hd dL_delete_8 ?_
    refine tg_goto (tgt := 18) S dL_delete_9 (by decide) ?_
    refine tg_iconst (v := 0) S dL_delete_18 (by decide) ?_
    exact tl_ret S hr hlk dL_delete_19 (tl_kN hx) (tl_wN hx)
set_option maxHeartbeats 4000000 in
set_option maxRecDepth 100000 in
theorem k_L_split {l : Launch} {D : va_G} {h : Nat → Nat} {o : Nat} {cI cZ cJ : ClassId} (hd : tl_dis h o) (hl : l.stackTraces = false) (σ : tg_Mem) (u : Nat → Int64) (x : Int32) : tl_CT l yL_split wzL_split (tx_rm 9) (tl_w h o cI cZ cJ u) (tl_w h o cI cZ cJ (tl_s (fx_letter σ x) (tl_u u (fa_par σ x).toInt64) u)) (tl_ty cI cZ cJ) tw_nl (tl_A h o) D [.ref (h 0), .int x, .ref o] σ (tl_k (fx_letter σ x)) (tl_s (fx_letter σ x) (fa_grow (fa_setHand σ x (-2))) σ) := by
  refine tl_met (own := RL) (hh := [(0, 9, 12, 13), (0, 9, 15, 15)]) (by decide +kernel) rfl rfl (Nat.le_of_ble_eq_true rfl) ?_
  intro p e s m below meth c S hK hN hX hr hlk ht
  refine tg_sub (L' := [(0, .ref (h 0)), (1, .int x), (2, .ref o)]) [0, 1, 2] rfl ?_
  refine tg_aload_n S 2 dL_split_0 rfl rfl ?_
  refine tg_iconst (v := 0) S dL_split_1 (by decide) ?_
  refine tg_aload_n S 0 dL_split_2 rfl rfl ?_
  refine tg_iload_n S 1 dL_split_3 rfl rfl ?_
  refine tl_call (nA := 1) (As := [.int x]) (rest := [.int 0, .ref o]) S hK hN hX.1 hd (k_X2_split hd.1 hl σ x) (tw_gV ml_RL_21 im_X2_split se_X2_split in_RX2 co_X2_split rfl) rfl (by decide +kernel) ⟨Nat.le_of_ble_eq_true rfl, Nat.le_of_ble_eq_true rfl⟩ rfl rfl (Nat.le_of_ble_eq_true rfl) dL_split_4 ⟨Nat.le_of_ble_eq_true rfl, Nat.le_of_ble_eq_true rfl⟩ ?_ (fun hx => ?_)
  · intro E hE H locs ls qa ce hP hS hlv hce hcv hcl
    rcases tl_eL hE with rfl | rfl
    · refine tl_catch1 (x1 := ⟨0, 9, 12, 13⟩) S ht rfl (by decide) tl_lI (hX.1.1 _ (by simp [tx_I, tx_J, tx_O])) hce hcv hcl ?_
      refine tl_app (w := tl_w h o cI cZ cJ u) (L := [(0, .ref (h 0)), (1, .int x), (2, .ref o)]) hP hS hlv ?_
      refine tl_astore_n (L' := [(0, .ref (h 0)), (1, .int x), (2, .ref o), (3, .ref qa)]) [1, 2, 3, 0] S dL_split_12 rfl (by decide) rfl ?_
      refine tg_iconst (v := 1) S dL_split_13 (by decide) ?_
      exact tl_ret S hr hlk dL_split_14 (tl_kI hE) (tl_wS hE)
    · refine tl_catch2 (E1 := tx_I) (x1 := ⟨0, 9, 12, 13⟩) (x2 := ⟨0, 9, 15, 15⟩) S ht (by decide) tl_lI hX.2.1 rfl (by decide) tl_lJ (hX.1.1 _ (by simp [tx_I, tx_J, tx_O])) hce hcv hcl ?_
      refine tl_app (w := tl_w h o cI cZ cJ u) (L := [(0, .ref (h 0)), (1, .int x), (2, .ref o)]) hP hS hlv ?_
      refine tl_astore_n (L' := [(0, .ref (h 0)), (1, .int x), (2, .ref o), (3, .ref qa)]) [1, 2, 3, 0] S dL_split_15 rfl (by decide) rfl ?_
      refine tg_iconst (v := 2) S dL_split_16 (by decide) ?_
      exact tl_ret S hr hlk dL_split_17 (tl_kJ hE) (tl_wS hE)
  · skip
    refine tl_i2l S dL_split_7 ?_
    refine tl_last S hK hd dL_split_8 ?_
    refine tg_goto (tgt := 18) S dL_split_9 (by decide) ?_
    refine tg_iconst (v := 0) S dL_split_18 (by decide) ?_
    exact tl_ret S hr hlk dL_split_19 (tl_kN hx) (tl_wN hx)
set_option maxHeartbeats 4000000 in
set_option maxRecDepth 100000 in
theorem k_L_join {l : Launch} {D : va_G} {h : Nat → Nat} {o : Nat} {cI cZ cJ : ClassId} (hd : tl_dis h o) (hl : l.stackTraces = false) (σ : tg_Mem) (u : Nat → Int64) (x : Int32) (y : Int32) : tl_CT l yL_join wzL_join (tx_rm 9) (tl_w h o cI cZ cJ u) (tl_w h o cI cZ cJ (tl_s (fx_join σ x y) (tl_u u (fa_par (fa_grow (fa_setHand σ x y)) x).toInt64) u)) (tl_ty cI cZ cJ) tw_nl (tl_A h o) D [.ref (h 0), .int x, .int y, .ref o] σ (tl_k (fx_join σ x y)) (tl_s (fx_join σ x y) (fa_grow (fa_setHand σ x y)) σ) := by
  refine tl_met (own := RL) (hh := [(0, 10, 13, 13), (0, 10, 17, 15)]) (by decide +kernel) rfl rfl (Nat.le_of_ble_eq_true rfl) ?_
  intro p e s m below meth c S hK hN hX hr hlk ht
  refine tg_sub (L' := [(0, .ref (h 0)), (1, .int x), (2, .int y), (3, .ref o)]) [0, 1, 2, 3] rfl ?_
  refine tg_aload_n S 3 dL_join_0 rfl rfl ?_
  refine tg_iconst (v := 0) S dL_join_1 (by decide) ?_
  refine tg_aload_n S 0 dL_join_2 rfl rfl ?_
  refine tg_iload_n S 1 dL_join_3 rfl rfl ?_
  refine tg_iload_n S 2 dL_join_4 rfl rfl ?_
  refine tl_call (nA := 2) (As := [.int x, .int y]) (rest := [.int 0, .ref o]) S hK hN hX.1 hd (k_X2_join hd.1 hl σ x y) (tw_gV ml_RL_24 im_X2_join se_X2_join in_RX2 co_X2_join rfl) rfl (by decide +kernel) ⟨Nat.le_of_ble_eq_true rfl, Nat.le_of_ble_eq_true rfl⟩ rfl rfl (Nat.le_of_ble_eq_true rfl) dL_join_5 ⟨Nat.le_of_ble_eq_true rfl, Nat.le_of_ble_eq_true rfl⟩ ?_ (fun hx => ?_)
  · intro E hE H locs ls qa ce hP hS hlv hce hcv hcl
    rcases tl_eJ hE with rfl | rfl
    · refine tl_catch1 (x1 := ⟨0, 10, 13, 13⟩) S ht rfl (by decide) tl_lI (hX.1.1 _ (by simp [tx_I, tx_J, tx_O])) hce hcv hcl ?_
      refine tl_app (w := tl_w h o cI cZ cJ u) (L := [(0, .ref (h 0)), (1, .int x), (2, .int y), (3, .ref o)]) hP hS hlv ?_
      refine tl_astore (L' := [(0, .ref (h 0)), (1, .int x), (2, .int y), (3, .ref o), (4, .ref qa)]) [1, 2, 3, 4, 0] S dL_join_13 (by decide) rfl ?_
      refine tg_iconst (v := 1) S dL_join_15 (by decide) ?_
      exact tl_ret S hr hlk dL_join_16 (tl_kI hE) (tl_wS hE)
    · refine tl_catch2 (E1 := tx_I) (x1 := ⟨0, 10, 13, 13⟩) (x2 := ⟨0, 10, 17, 15⟩) S ht (by decide) tl_lI hX.2.1 rfl (by decide) tl_lJ (hX.1.1 _ (by simp [tx_I, tx_J, tx_O])) hce hcv hcl ?_
      refine tl_app (w := tl_w h o cI cZ cJ u) (L := [(0, .ref (h 0)), (1, .int x), (2, .int y), (3, .ref o)]) hP hS hlv ?_
      refine tl_astore (L' := [(0, .ref (h 0)), (1, .int x), (2, .int y), (3, .ref o), (4, .ref qa)]) [1, 2, 3, 4, 0] S dL_join_17 (by decide) rfl ?_
      refine tg_iconst (v := 2) S dL_join_19 (by decide) ?_
      exact tl_ret S hr hlk dL_join_20 (tl_kJ hE) (tl_wS hE)
  · skip
    refine tl_i2l S dL_join_8 ?_
    refine tl_last S hK hd dL_join_9 ?_
    refine tg_goto (tgt := 21) S dL_join_10 (by decide) ?_
    refine tg_iconst (v := 0) S dL_join_21 (by decide) ?_
    exact tl_ret S hr hlk dL_join_22 (tl_kN hx) (tl_wN hx)
set_option maxHeartbeats 4000000 in
set_option maxRecDepth 100000 in
theorem k_L_release {l : Launch} {D : va_G} {h : Nat → Nat} {o : Nat} {cI cZ cJ : ClassId} (hd : tl_dis h o) (hl : l.stackTraces = false) (σ : tg_Mem) (u : Nat → Int64) (x : Int32) : tl_CT l yL_release wzL_release (tx_rm 9) (tl_w h o cI cZ cJ u) (tl_w h o cI cZ cJ (tl_s (fx_letter σ x) (tl_u u (if (fx_touched σ x) = true then 1 else 0)) u)) (tl_ty cI cZ cJ) tw_nl (tl_A h o) D [.ref (h 0), .int x, .ref o] σ (tl_k (fx_letter σ x)) (tl_s (fx_letter σ x) (fa_grow (fa_setHand σ x (-1))) σ) := by
  refine tl_met (own := RL) (hh := [(0, 16, 19, 13), (0, 16, 22, 15)]) (by decide +kernel) rfl rfl (Nat.le_of_ble_eq_true rfl) ?_
  intro p e s m below meth c S hK hN hX hr hlk ht
  refine tg_sub (L' := [(0, .ref (h 0)), (1, .int x), (2, .ref o)]) [0, 1, 2] rfl ?_
  refine tg_aload_n S 2 dL_release_0 rfl rfl ?_
  refine tg_iconst (v := 0) S dL_release_1 (by decide) ?_
  refine tg_aload_n S 0 dL_release_2 rfl rfl ?_
  refine tg_iload_n S 1 dL_release_3 rfl rfl ?_
  refine tl_call (nA := 1) (As := [.int x]) (rest := [.int 0, .ref o]) S hK hN hX.1 hd (k_X2_release hd.1 hl σ x) (tw_gV ml_RL_28 im_X2_release se_X2_release in_RX2 co_X2_release rfl) rfl (by decide +kernel) ⟨Nat.le_of_ble_eq_true rfl, Nat.le_of_ble_eq_true rfl⟩ rfl rfl (Nat.le_of_ble_eq_true rfl) dL_release_4 ⟨Nat.le_of_ble_eq_true rfl, Nat.le_of_ble_eq_true rfl⟩ ?_ (fun hx => ?_)
  · intro E hE H locs ls qa ce hP hS hlv hce hcv hcl
    rcases tl_eL hE with rfl | rfl
    · refine tl_catch1 (x1 := ⟨0, 16, 19, 13⟩) S ht rfl (by decide) tl_lI (hX.1.1 _ (by simp [tx_I, tx_J, tx_O])) hce hcv hcl ?_
      refine tl_app (w := tl_w h o cI cZ cJ u) (L := [(0, .ref (h 0)), (1, .int x), (2, .ref o)]) hP hS hlv ?_
      refine tl_astore_n (L' := [(0, .ref (h 0)), (1, .int x), (2, .ref o), (3, .ref qa)]) [1, 2, 3, 0] S dL_release_19 rfl (by decide) rfl ?_
      refine tg_iconst (v := 1) S dL_release_20 (by decide) ?_
      exact tl_ret S hr hlk dL_release_21 (tl_kI hE) (tl_wS hE)
    · refine tl_catch2 (E1 := tx_I) (x1 := ⟨0, 16, 19, 13⟩) (x2 := ⟨0, 16, 22, 15⟩) S ht (by decide) tl_lI hX.2.1 rfl (by decide) tl_lJ (hX.1.1 _ (by simp [tx_I, tx_J, tx_O])) hce hcv hcl ?_
      refine tl_app (w := tl_w h o cI cZ cJ u) (L := [(0, .ref (h 0)), (1, .int x), (2, .ref o)]) hP hS hlv ?_
      refine tl_astore_n (L' := [(0, .ref (h 0)), (1, .int x), (2, .ref o), (3, .ref qa)]) [1, 2, 3, 0] S dL_release_22 rfl (by decide) rfl ?_
      refine tg_iconst (v := 2) S dL_release_23 (by decide) ?_
      exact tl_ret S hr hlk dL_release_24 (tl_kJ hE) (tl_wS hE)
  · skip
    refine tg_ifz (b := fx_touched σ x) (tgt := 14) S dL_release_7 (by decide) (fun c_1 => ?_) (fun c_1 => ?_)
    · refine tl_lconst (v := 0) S dL_release_14 rfl ?_
      refine tl_last S hK hd dL_release_15 ?_
      refine tg_goto (tgt := 25) S dL_release_16 (by decide) ?_
      refine tg_iconst (v := 0) S dL_release_25 (by decide) ?_
      exact tl_ret S hr hlk dL_release_26 (tl_kN hx) (by rw [c_1]; exact tl_wN hx)
    · refine tl_lconst (v := 1) S dL_release_10 rfl ?_
      refine tg_goto (tgt := 15) S dL_release_11 (by decide) ?_
      refine tl_last S hK hd dL_release_15 ?_
      refine tg_goto (tgt := 25) S dL_release_16 (by decide) ?_
      refine tg_iconst (v := 0) S dL_release_25 (by decide) ?_
      exact tl_ret S hr hlk dL_release_26 (tl_kN hx) (by rw [c_1]; exact tl_wN hx)
set_option maxHeartbeats 4000000 in
set_option maxRecDepth 100000 in
theorem k_L_read {l : Launch} {D : va_G} {h : Nat → Nat} {o : Nat} {cI cZ cJ : ClassId} (hd : tl_dis h o) (hl : l.stackTraces = false) (σ : tg_Mem) (u : Nat → Int64) (x : Int32) : tl_CT l yL_read wzL_read (tx_rm 9) (tl_w h o cI cZ cJ u) (tl_w h o cI cZ cJ (tl_s (fx_forest σ x) (tl_u u ((fx_read σ x).1).toInt64) u)) (tl_ty cI cZ cJ) tw_nl (tl_A h o) D [.ref (h 0), .int x, .ref o] σ (tl_k (fx_forest σ x)) (tl_s (fx_forest σ x) ((fx_read σ x).2) σ) := by
  refine tl_met (own := RL) (hh := [(0, 9, 12, 13), (0, 9, 15, 35)]) (by decide +kernel) rfl rfl (Nat.le_of_ble_eq_true rfl) ?_
  intro p e s m below meth c S hK hN hX hr hlk ht
  refine tg_sub (L' := [(0, .ref (h 0)), (1, .int x), (2, .ref o)]) [0, 1, 2] rfl ?_
  refine tg_aload_n S 2 dL_read_0 rfl rfl ?_
  refine tg_iconst (v := 0) S dL_read_1 (by decide) ?_
  refine tg_aload_n S 0 dL_read_2 rfl rfl ?_
  refine tg_iload_n S 1 dL_read_3 rfl rfl ?_
  refine tl_call (nA := 1) (As := [.int x]) (rest := [.int 0, .ref o]) S hK hN hX.1 hd (k_X2_read hd.1 hl σ x) (tw_gV ml_RL_32 im_X2_read se_X2_read in_RX2 co_X2_read rfl) rfl (by decide +kernel) ⟨Nat.le_of_ble_eq_true rfl, Nat.le_of_ble_eq_true rfl⟩ rfl rfl (Nat.le_of_ble_eq_true rfl) dL_read_4 ⟨Nat.le_of_ble_eq_true rfl, Nat.le_of_ble_eq_true rfl⟩ ?_ (fun hx => ?_)
  · intro E hE H locs ls qa ce hP hS hlv hce hcv hcl
    rcases tl_eF hE with rfl | rfl
    · refine tl_catch1 (x1 := ⟨0, 9, 12, 13⟩) S ht rfl (by decide) tl_lI (hX.1.1 _ (by simp [tx_I, tx_J, tx_O])) hce hcv hcl ?_
      refine tl_app (w := tl_w h o cI cZ cJ u) (L := [(0, .ref (h 0)), (1, .int x), (2, .ref o)]) hP hS hlv ?_
      refine tl_astore_n (L' := [(0, .ref (h 0)), (1, .int x), (2, .ref o), (3, .ref qa)]) [1, 2, 3, 0] S dL_read_12 rfl (by decide) rfl ?_
      refine tg_iconst (v := 1) S dL_read_13 (by decide) ?_
      exact tl_ret S hr hlk dL_read_14 (tl_kI hE) (tl_wS hE)
    · refine tl_catch2 (E1 := tx_I) (x1 := ⟨0, 9, 12, 13⟩) (x2 := ⟨0, 9, 15, 35⟩) S ht (by decide) tl_lI hX.2.2 rfl (by decide) tl_lO (hX.1.1 _ (by simp [tx_I, tx_J, tx_O])) hce hcv hcl ?_
      refine tl_app (w := tl_w h o cI cZ cJ u) (L := [(0, .ref (h 0)), (1, .int x), (2, .ref o)]) hP hS hlv ?_
      refine tl_astore_n (L' := [(0, .ref (h 0)), (1, .int x), (2, .ref o), (3, .ref qa)]) [1, 2, 3, 0] S dL_read_15 rfl (by decide) rfl ?_
      refine tg_iconst (v := 2) S dL_read_16 (by decide) ?_
      exact tl_ret S hr hlk dL_read_17 (tl_kO hE) (tl_wS hE)
  · skip
    refine tl_i2l S dL_read_7 ?_
    refine tl_last S hK hd dL_read_8 ?_
    refine tg_goto (tgt := 18) S dL_read_9 (by decide) ?_
    refine tg_iconst (v := 0) S dL_read_18 (by decide) ?_
    exact tl_ret S hr hlk dL_read_19 (tl_kN hx) (tl_wN hx)
set_option maxHeartbeats 4000000 in
set_option maxRecDepth 100000 in
theorem k_L_state {l : Launch} {D : va_G} {h : Nat → Nat} {o : Nat} {cI cZ cJ : ClassId} (hd : tl_dis h o) (hl : l.stackTraces = false) (σ : tg_Mem) (u : Nat → Int64) (x : Int32) : tl_CT l yL_state wzL_state (tx_rm 9) (tl_w h o cI cZ cJ u) (tl_w h o cI cZ cJ (tl_s (fx_id x) (tl_u u (fx_state σ x).toInt64) u)) (tl_ty cI cZ cJ) tw_nl (tl_A h o) D [.ref (h 0), .int x, .ref o] σ (tl_k (fx_id x)) (tl_s (fx_id x) σ σ) := by
  refine tl_met (own := RL) (hh := [(0, 9, 12, 13)]) (by decide +kernel) rfl rfl (Nat.le_of_ble_eq_true rfl) ?_
  intro p e s m below meth c S hK hN hX hr hlk ht
  refine tg_sub (L' := [(0, .ref (h 0)), (1, .int x), (2, .ref o)]) [0, 1, 2] rfl ?_
  refine tg_aload_n S 2 dL_state_0 rfl rfl ?_
  refine tg_iconst (v := 0) S dL_state_1 (by decide) ?_
  refine tg_aload_n S 0 dL_state_2 rfl rfl ?_
  refine tg_iload_n S 1 dL_state_3 rfl rfl ?_
  refine tl_call (nA := 1) (As := [.int x]) (rest := [.int 0, .ref o]) S hK hN hX.1 hd (k_X2_state hd.1 hl σ x) (tw_gV ml_RL_37 im_X2_state se_X2_state in_RX2 co_X2_state rfl) rfl (by decide +kernel) ⟨Nat.le_of_ble_eq_true rfl, Nat.le_of_ble_eq_true rfl⟩ rfl rfl (Nat.le_of_ble_eq_true rfl) dL_state_4 ⟨Nat.le_of_ble_eq_true rfl, Nat.le_of_ble_eq_true rfl⟩ ?_ (fun hx => ?_)
  · intro E hE H locs ls qa ce hP hS hlv hce hcv hcl
    obtain rfl := tl_eI hE
    refine tl_catch1 (x1 := ⟨0, 9, 12, 13⟩) S ht rfl (by decide) tl_lI (hX.1.1 _ (by simp [tx_I, tx_J, tx_O])) hce hcv hcl ?_
    refine tl_app (w := tl_w h o cI cZ cJ u) (L := [(0, .ref (h 0)), (1, .int x), (2, .ref o)]) hP hS hlv ?_
    refine tl_astore_n (L' := [(0, .ref (h 0)), (1, .int x), (2, .ref o), (3, .ref qa)]) [1, 2, 3, 0] S dL_state_12 rfl (by decide) rfl ?_
    refine tg_iconst (v := 1) S dL_state_13 (by decide) ?_
    exact tl_ret S hr hlk dL_state_14 (tl_kI hE) (tl_wS hE)
  · skip
    refine tl_i2l S dL_state_7 ?_
    refine tl_last S hK hd dL_state_8 ?_
    refine tg_goto (tgt := 15) S dL_state_9 (by decide) ?_
    refine tg_iconst (v := 0) S dL_state_15 (by decide) ?_
    exact tl_ret S hr hlk dL_state_16 (tl_kN hx) (tl_wN hx)
set_option maxHeartbeats 4000000 in
set_option maxRecDepth 100000 in
theorem k_L_parent {l : Launch} {D : va_G} {h : Nat → Nat} {o : Nat} {cI cZ cJ : ClassId} (hd : tl_dis h o) (hl : l.stackTraces = false) (σ : tg_Mem) (u : Nat → Int64) (x : Int32) : tl_CT l yL_parent wzL_parent (tx_rm 9) (tl_w h o cI cZ cJ u) (tl_w h o cI cZ cJ (tl_s (fx_forest σ x) (tl_u u (fa_par σ x).toInt64) u)) (tl_ty cI cZ cJ) tw_nl (tl_A h o) D [.ref (h 0), .int x, .ref o] σ (tl_k (fx_forest σ x)) (tl_s (fx_forest σ x) σ σ) := by
  refine tl_met (own := RL) (hh := [(0, 9, 12, 13), (0, 9, 15, 35)]) (by decide +kernel) rfl rfl (Nat.le_of_ble_eq_true rfl) ?_
  intro p e s m below meth c S hK hN hX hr hlk ht
  refine tg_sub (L' := [(0, .ref (h 0)), (1, .int x), (2, .ref o)]) [0, 1, 2] rfl ?_
  refine tg_aload_n S 2 dL_parent_0 rfl rfl ?_
  refine tg_iconst (v := 0) S dL_parent_1 (by decide) ?_
  refine tg_aload_n S 0 dL_parent_2 rfl rfl ?_
  refine tg_iload_n S 1 dL_parent_3 rfl rfl ?_
  refine tl_call (nA := 1) (As := [.int x]) (rest := [.int 0, .ref o]) S hK hN hX.1 hd (k_X2_parent hd.1 hl σ x) (tw_gV ml_RL_40 im_X2_parent se_X2_parent in_RX2 co_X2_parent rfl) rfl (by decide +kernel) ⟨Nat.le_of_ble_eq_true rfl, Nat.le_of_ble_eq_true rfl⟩ rfl rfl (Nat.le_of_ble_eq_true rfl) dL_parent_4 ⟨Nat.le_of_ble_eq_true rfl, Nat.le_of_ble_eq_true rfl⟩ ?_ (fun hx => ?_)
  · intro E hE H locs ls qa ce hP hS hlv hce hcv hcl
    rcases tl_eF hE with rfl | rfl
    · refine tl_catch1 (x1 := ⟨0, 9, 12, 13⟩) S ht rfl (by decide) tl_lI (hX.1.1 _ (by simp [tx_I, tx_J, tx_O])) hce hcv hcl ?_
      refine tl_app (w := tl_w h o cI cZ cJ u) (L := [(0, .ref (h 0)), (1, .int x), (2, .ref o)]) hP hS hlv ?_
      refine tl_astore_n (L' := [(0, .ref (h 0)), (1, .int x), (2, .ref o), (3, .ref qa)]) [1, 2, 3, 0] S dL_parent_12 rfl (by decide) rfl ?_
      refine tg_iconst (v := 1) S dL_parent_13 (by decide) ?_
      exact tl_ret S hr hlk dL_parent_14 (tl_kI hE) (tl_wS hE)
    · refine tl_catch2 (E1 := tx_I) (x1 := ⟨0, 9, 12, 13⟩) (x2 := ⟨0, 9, 15, 35⟩) S ht (by decide) tl_lI hX.2.2 rfl (by decide) tl_lO (hX.1.1 _ (by simp [tx_I, tx_J, tx_O])) hce hcv hcl ?_
      refine tl_app (w := tl_w h o cI cZ cJ u) (L := [(0, .ref (h 0)), (1, .int x), (2, .ref o)]) hP hS hlv ?_
      refine tl_astore_n (L' := [(0, .ref (h 0)), (1, .int x), (2, .ref o), (3, .ref qa)]) [1, 2, 3, 0] S dL_parent_15 rfl (by decide) rfl ?_
      refine tg_iconst (v := 2) S dL_parent_16 (by decide) ?_
      exact tl_ret S hr hlk dL_parent_17 (tl_kO hE) (tl_wS hE)
  · skip
    refine tl_i2l S dL_parent_7 ?_
    refine tl_last S hK hd dL_parent_8 ?_
    refine tg_goto (tgt := 18) S dL_parent_9 (by decide) ?_
    refine tg_iconst (v := 0) S dL_parent_18 (by decide) ?_
    exact tl_ret S hr hlk dL_parent_19 (tl_kN hx) (tl_wN hx)
set_option maxHeartbeats 4000000 in
set_option maxRecDepth 100000 in
theorem k_L_children {l : Launch} {D : va_G} {h : Nat → Nat} {o : Nat} {cI cZ cJ : ClassId} (hd : tl_dis h o) (hl : l.stackTraces = false) (σ : tg_Mem) (u : Nat → Int64) (x : Int32) : tl_CT l yL_children wzL_children (tx_rm 9) (tl_w h o cI cZ cJ u) (tl_w h o cI cZ cJ (tl_s (fx_forest σ x) (tl_u u (fa_nch σ x).toInt64) u)) (tl_ty cI cZ cJ) tw_nl (tl_A h o) D [.ref (h 0), .int x, .ref o] σ (tl_k (fx_forest σ x)) (tl_s (fx_forest σ x) σ σ) := by
  refine tl_met (own := RL) (hh := [(0, 9, 12, 13), (0, 9, 15, 35)]) (by decide +kernel) rfl rfl (Nat.le_of_ble_eq_true rfl) ?_
  intro p e s m below meth c S hK hN hX hr hlk ht
  refine tg_sub (L' := [(0, .ref (h 0)), (1, .int x), (2, .ref o)]) [0, 1, 2] rfl ?_
  refine tg_aload_n S 2 dL_children_0 rfl rfl ?_
  refine tg_iconst (v := 0) S dL_children_1 (by decide) ?_
  refine tg_aload_n S 0 dL_children_2 rfl rfl ?_
  refine tg_iload_n S 1 dL_children_3 rfl rfl ?_
  refine tl_call (nA := 1) (As := [.int x]) (rest := [.int 0, .ref o]) S hK hN hX.1 hd (k_X2_children hd.1 hl σ x) (tw_gV ml_RL_43 im_X2_children se_X2_children in_RX2 co_X2_children rfl) rfl (by decide +kernel) ⟨Nat.le_of_ble_eq_true rfl, Nat.le_of_ble_eq_true rfl⟩ rfl rfl (Nat.le_of_ble_eq_true rfl) dL_children_4 ⟨Nat.le_of_ble_eq_true rfl, Nat.le_of_ble_eq_true rfl⟩ ?_ (fun hx => ?_)
  · intro E hE H locs ls qa ce hP hS hlv hce hcv hcl
    rcases tl_eF hE with rfl | rfl
    · refine tl_catch1 (x1 := ⟨0, 9, 12, 13⟩) S ht rfl (by decide) tl_lI (hX.1.1 _ (by simp [tx_I, tx_J, tx_O])) hce hcv hcl ?_
      refine tl_app (w := tl_w h o cI cZ cJ u) (L := [(0, .ref (h 0)), (1, .int x), (2, .ref o)]) hP hS hlv ?_
      refine tl_astore_n (L' := [(0, .ref (h 0)), (1, .int x), (2, .ref o), (3, .ref qa)]) [1, 2, 3, 0] S dL_children_12 rfl (by decide) rfl ?_
      refine tg_iconst (v := 1) S dL_children_13 (by decide) ?_
      exact tl_ret S hr hlk dL_children_14 (tl_kI hE) (tl_wS hE)
    · refine tl_catch2 (E1 := tx_I) (x1 := ⟨0, 9, 12, 13⟩) (x2 := ⟨0, 9, 15, 35⟩) S ht (by decide) tl_lI hX.2.2 rfl (by decide) tl_lO (hX.1.1 _ (by simp [tx_I, tx_J, tx_O])) hce hcv hcl ?_
      refine tl_app (w := tl_w h o cI cZ cJ u) (L := [(0, .ref (h 0)), (1, .int x), (2, .ref o)]) hP hS hlv ?_
      refine tl_astore_n (L' := [(0, .ref (h 0)), (1, .int x), (2, .ref o), (3, .ref qa)]) [1, 2, 3, 0] S dL_children_15 rfl (by decide) rfl ?_
      refine tg_iconst (v := 2) S dL_children_16 (by decide) ?_
      exact tl_ret S hr hlk dL_children_17 (tl_kO hE) (tl_wS hE)
  · skip
    refine tl_i2l S dL_children_7 ?_
    refine tl_last S hK hd dL_children_8 ?_
    refine tg_goto (tgt := 18) S dL_children_9 (by decide) ?_
    refine tg_iconst (v := 0) S dL_children_18 (by decide) ?_
    exact tl_ret S hr hlk dL_children_19 (tl_kN hx) (tl_wN hx)
set_option maxHeartbeats 4000000 in
set_option maxRecDepth 100000 in
theorem k_L_root {l : Launch} {D : va_G} {h : Nat → Nat} {o : Nat} {cI cZ cJ : ClassId} (hd : tl_dis h o) (hl : l.stackTraces = false) (σ : tg_Mem) (u : Nat → Int64) (x : Int32) : tl_CT l yL_root wzL_root (tx_rm 9) (tl_w h o cI cZ cJ u) (tl_w h o cI cZ cJ (tl_s (fx_root σ x) (tl_u u (fa_rootAt σ x).toInt64) u)) (tl_ty cI cZ cJ) tw_nl (tl_A h o) D [.ref (h 0), .int x, .ref o] σ (tl_k1 (fx_root σ x)) (tl_s (fx_root σ x) σ σ) := by
  refine tl_met (own := RL) (hh := [(0, 9, 12, 35)]) (by decide +kernel) rfl rfl (Nat.le_of_ble_eq_true rfl) ?_
  intro p e s m below meth c S hK hN hX hr hlk ht
  refine tg_sub (L' := [(0, .ref (h 0)), (1, .int x), (2, .ref o)]) [0, 1, 2] rfl ?_
  refine tg_aload_n S 2 dL_root_0 rfl rfl ?_
  refine tg_iconst (v := 0) S dL_root_1 (by decide) ?_
  refine tg_aload_n S 0 dL_root_2 rfl rfl ?_
  refine tg_iload_n S 1 dL_root_3 rfl rfl ?_
  refine tl_call (nA := 1) (As := [.int x]) (rest := [.int 0, .ref o]) S hK hN hX.1 hd (k_X2_root hd.1 hl σ x) (tw_gV ml_RL_46 im_X2_root se_X2_root in_RX2 co_X2_root rfl) rfl (by decide +kernel) ⟨Nat.le_of_ble_eq_true rfl, Nat.le_of_ble_eq_true rfl⟩ rfl rfl (Nat.le_of_ble_eq_true rfl) dL_root_4 ⟨Nat.le_of_ble_eq_true rfl, Nat.le_of_ble_eq_true rfl⟩ ?_ (fun hx => ?_)
  · intro E hE H locs ls qa ce hP hS hlv hce hcv hcl
    obtain rfl := tl_eR hE
    refine tl_catch1 (x1 := ⟨0, 9, 12, 35⟩) S ht rfl (by decide) tl_lO (hX.1.1 _ (by simp [tx_I, tx_J, tx_O])) hce hcv hcl ?_
    refine tl_app (w := tl_w h o cI cZ cJ u) (L := [(0, .ref (h 0)), (1, .int x), (2, .ref o)]) hP hS hlv ?_
    refine tl_astore_n (L' := [(0, .ref (h 0)), (1, .int x), (2, .ref o), (3, .ref qa)]) [1, 2, 3, 0] S dL_root_12 rfl (by decide) rfl ?_
    refine tg_iconst (v := 1) S dL_root_13 (by decide) ?_
    exact tl_ret S hr hlk dL_root_14 (tl_k1S hE) (tl_wS hE)
  · skip
    refine tl_i2l S dL_root_7 ?_
    refine tl_last S hK hd dL_root_8 ?_
    refine tg_goto (tgt := 15) S dL_root_9 (by decide) ?_
    refine tg_iconst (v := 0) S dL_root_15 (by decide) ?_
    exact tl_ret S hr hlk dL_root_16 (tl_k1N hx) (tl_wN hx)
set_option maxHeartbeats 4000000 in
set_option maxRecDepth 100000 in
theorem k_L_inTree {l : Launch} {D : va_G} {h : Nat → Nat} {o : Nat} {cI cZ cJ : ClassId} (hd : tl_dis h o) (hl : l.stackTraces = false) (σ : tg_Mem) (u : Nat → Int64) (x : Int32) (y : Int32) : tl_CT l yL_inTree wzL_inTree (tx_rm 9) (tl_w h o cI cZ cJ u) (tl_w h o cI cZ cJ (tl_s (fx_inTree σ x y) (tl_u u (fa_idAt σ x y).toInt64) u)) (tl_ty cI cZ cJ) tw_nl (tl_A h o) D [.ref (h 0), .int x, .int y, .ref o] σ (tl_k (fx_inTree σ x y)) (tl_s (fx_inTree σ x y) σ σ) := by
  refine tl_met (own := RL) (hh := [(0, 10, 13, 13), (0, 10, 17, 35)]) (by decide +kernel) rfl rfl (Nat.le_of_ble_eq_true rfl) ?_
  intro p e s m below meth c S hK hN hX hr hlk ht
  refine tg_sub (L' := [(0, .ref (h 0)), (1, .int x), (2, .int y), (3, .ref o)]) [0, 1, 2, 3] rfl ?_
  refine tg_aload_n S 3 dL_inTree_0 rfl rfl ?_
  refine tg_iconst (v := 0) S dL_inTree_1 (by decide) ?_
  refine tg_aload_n S 0 dL_inTree_2 rfl rfl ?_
  refine tg_iload_n S 1 dL_inTree_3 rfl rfl ?_
  refine tg_iload_n S 2 dL_inTree_4 rfl rfl ?_
  refine tl_call (nA := 2) (As := [.int x, .int y]) (rest := [.int 0, .ref o]) S hK hN hX.1 hd (k_X2_inTree hd.1 hl σ x y) (tw_gV ml_RL_49 im_X2_inTree se_X2_inTree in_RX2 co_X2_inTree rfl) rfl (by decide +kernel) ⟨Nat.le_of_ble_eq_true rfl, Nat.le_of_ble_eq_true rfl⟩ rfl rfl (Nat.le_of_ble_eq_true rfl) dL_inTree_5 ⟨Nat.le_of_ble_eq_true rfl, Nat.le_of_ble_eq_true rfl⟩ ?_ (fun hx => ?_)
  · intro E hE H locs ls qa ce hP hS hlv hce hcv hcl
    rcases tl_eN hE with rfl | rfl
    · refine tl_catch1 (x1 := ⟨0, 10, 13, 13⟩) S ht rfl (by decide) tl_lI (hX.1.1 _ (by simp [tx_I, tx_J, tx_O])) hce hcv hcl ?_
      refine tl_app (w := tl_w h o cI cZ cJ u) (L := [(0, .ref (h 0)), (1, .int x), (2, .int y), (3, .ref o)]) hP hS hlv ?_
      refine tl_astore (L' := [(0, .ref (h 0)), (1, .int x), (2, .int y), (3, .ref o), (4, .ref qa)]) [1, 2, 3, 4, 0] S dL_inTree_13 (by decide) rfl ?_
      refine tg_iconst (v := 1) S dL_inTree_15 (by decide) ?_
      exact tl_ret S hr hlk dL_inTree_16 (tl_kI hE) (tl_wS hE)
    · refine tl_catch2 (E1 := tx_I) (x1 := ⟨0, 10, 13, 13⟩) (x2 := ⟨0, 10, 17, 35⟩) S ht (by decide) tl_lI hX.2.2 rfl (by decide) tl_lO (hX.1.1 _ (by simp [tx_I, tx_J, tx_O])) hce hcv hcl ?_
      refine tl_app (w := tl_w h o cI cZ cJ u) (L := [(0, .ref (h 0)), (1, .int x), (2, .int y), (3, .ref o)]) hP hS hlv ?_
      refine tl_astore (L' := [(0, .ref (h 0)), (1, .int x), (2, .int y), (3, .ref o), (4, .ref qa)]) [1, 2, 3, 4, 0] S dL_inTree_17 (by decide) rfl ?_
      refine tg_iconst (v := 2) S dL_inTree_19 (by decide) ?_
      exact tl_ret S hr hlk dL_inTree_20 (tl_kO hE) (tl_wS hE)
  · skip
    refine tl_i2l S dL_inTree_8 ?_
    refine tl_last S hK hd dL_inTree_9 ?_
    refine tg_goto (tgt := 21) S dL_inTree_10 (by decide) ?_
    refine tg_iconst (v := 0) S dL_inTree_21 (by decide) ?_
    exact tl_ret S hr hlk dL_inTree_22 (tl_kN hx) (tl_wN hx)
set_option maxHeartbeats 4000000 in
set_option maxRecDepth 100000 in
theorem k_L_depth {l : Launch} {D : va_G} {h : Nat → Nat} {o : Nat} {cI cZ cJ : ClassId} (hd : tl_dis h o) (hl : l.stackTraces = false) (σ : tg_Mem) (u : Nat → Int64) (x : Int32) : tl_CT l yL_depth wzL_depth (tx_rm 9) (tl_w h o cI cZ cJ u) (tl_w h o cI cZ cJ (tl_s (fx_forest σ x) (tl_u u (fa_depth σ x).toInt64) u)) (tl_ty cI cZ cJ) tw_nl (tl_A h o) D [.ref (h 0), .int x, .ref o] σ (tl_k (fx_forest σ x)) (tl_s (fx_forest σ x) σ σ) := by
  refine tl_met (own := RL) (hh := [(0, 9, 12, 13), (0, 9, 15, 35)]) (by decide +kernel) rfl rfl (Nat.le_of_ble_eq_true rfl) ?_
  intro p e s m below meth c S hK hN hX hr hlk ht
  refine tg_sub (L' := [(0, .ref (h 0)), (1, .int x), (2, .ref o)]) [0, 1, 2] rfl ?_
  refine tg_aload_n S 2 dL_depth_0 rfl rfl ?_
  refine tg_iconst (v := 0) S dL_depth_1 (by decide) ?_
  refine tg_aload_n S 0 dL_depth_2 rfl rfl ?_
  refine tg_iload_n S 1 dL_depth_3 rfl rfl ?_
  refine tl_call (nA := 1) (As := [.int x]) (rest := [.int 0, .ref o]) S hK hN hX.1 hd (k_X2_depth hd.1 hl σ x) (tw_gV ml_RL_52 im_X2_depth se_X2_depth in_RX2 co_X2_depth rfl) rfl (by decide +kernel) ⟨Nat.le_of_ble_eq_true rfl, Nat.le_of_ble_eq_true rfl⟩ rfl rfl (Nat.le_of_ble_eq_true rfl) dL_depth_4 ⟨Nat.le_of_ble_eq_true rfl, Nat.le_of_ble_eq_true rfl⟩ ?_ (fun hx => ?_)
  · intro E hE H locs ls qa ce hP hS hlv hce hcv hcl
    rcases tl_eF hE with rfl | rfl
    · refine tl_catch1 (x1 := ⟨0, 9, 12, 13⟩) S ht rfl (by decide) tl_lI (hX.1.1 _ (by simp [tx_I, tx_J, tx_O])) hce hcv hcl ?_
      refine tl_app (w := tl_w h o cI cZ cJ u) (L := [(0, .ref (h 0)), (1, .int x), (2, .ref o)]) hP hS hlv ?_
      refine tl_astore_n (L' := [(0, .ref (h 0)), (1, .int x), (2, .ref o), (3, .ref qa)]) [1, 2, 3, 0] S dL_depth_12 rfl (by decide) rfl ?_
      refine tg_iconst (v := 1) S dL_depth_13 (by decide) ?_
      exact tl_ret S hr hlk dL_depth_14 (tl_kI hE) (tl_wS hE)
    · refine tl_catch2 (E1 := tx_I) (x1 := ⟨0, 9, 12, 13⟩) (x2 := ⟨0, 9, 15, 35⟩) S ht (by decide) tl_lI hX.2.2 rfl (by decide) tl_lO (hX.1.1 _ (by simp [tx_I, tx_J, tx_O])) hce hcv hcl ?_
      refine tl_app (w := tl_w h o cI cZ cJ u) (L := [(0, .ref (h 0)), (1, .int x), (2, .ref o)]) hP hS hlv ?_
      refine tl_astore_n (L' := [(0, .ref (h 0)), (1, .int x), (2, .ref o), (3, .ref qa)]) [1, 2, 3, 0] S dL_depth_15 rfl (by decide) rfl ?_
      refine tg_iconst (v := 2) S dL_depth_16 (by decide) ?_
      exact tl_ret S hr hlk dL_depth_17 (tl_kO hE) (tl_wS hE)
  · skip
    refine tl_i2l S dL_depth_7 ?_
    refine tl_last S hK hd dL_depth_8 ?_
    refine tg_goto (tgt := 18) S dL_depth_9 (by decide) ?_
    refine tg_iconst (v := 0) S dL_depth_18 (by decide) ?_
    exact tl_ret S hr hlk dL_depth_19 (tl_kN hx) (tl_wN hx)
set_option maxHeartbeats 4000000 in
set_option maxRecDepth 100000 in
theorem k_L_letters {l : Launch} {D : va_G} {h : Nat → Nat} {o : Nat} {cI cZ cJ : ClassId} (hd : tl_dis h o) (hl : l.stackTraces = false) (σ : tg_Mem) (u : Nat → Int64) (x : Int32) : tl_CT l yL_letters wzL_letters (tx_rm 9) (tl_w h o cI cZ cJ u) (tl_w h o cI cZ cJ (tl_s (fx_forest σ x) (tl_u u (fx_letters σ x).toInt64) u)) (tl_ty cI cZ cJ) tw_nl (tl_A h o) D [.ref (h 0), .int x, .ref o] σ (tl_k (fx_forest σ x)) (tl_s (fx_forest σ x) σ σ) := by
  refine tl_met (own := RL) (hh := [(0, 9, 12, 13), (0, 9, 15, 35)]) (by decide +kernel) rfl rfl (Nat.le_of_ble_eq_true rfl) ?_
  intro p e s m below meth c S hK hN hX hr hlk ht
  refine tg_sub (L' := [(0, .ref (h 0)), (1, .int x), (2, .ref o)]) [0, 1, 2] rfl ?_
  refine tg_aload_n S 2 dL_letters_0 rfl rfl ?_
  refine tg_iconst (v := 0) S dL_letters_1 (by decide) ?_
  refine tg_aload_n S 0 dL_letters_2 rfl rfl ?_
  refine tg_iload_n S 1 dL_letters_3 rfl rfl ?_
  refine tl_call (nA := 1) (As := [.int x]) (rest := [.int 0, .ref o]) S hK hN hX.1 hd (k_X2_letters hd.1 hl σ x) (tw_gV ml_RL_55 im_X2_letters se_X2_letters in_RX2 co_X2_letters rfl) rfl (by decide +kernel) ⟨Nat.le_of_ble_eq_true rfl, Nat.le_of_ble_eq_true rfl⟩ rfl rfl (Nat.le_of_ble_eq_true rfl) dL_letters_4 ⟨Nat.le_of_ble_eq_true rfl, Nat.le_of_ble_eq_true rfl⟩ ?_ (fun hx => ?_)
  · intro E hE H locs ls qa ce hP hS hlv hce hcv hcl
    rcases tl_eF hE with rfl | rfl
    · refine tl_catch1 (x1 := ⟨0, 9, 12, 13⟩) S ht rfl (by decide) tl_lI (hX.1.1 _ (by simp [tx_I, tx_J, tx_O])) hce hcv hcl ?_
      refine tl_app (w := tl_w h o cI cZ cJ u) (L := [(0, .ref (h 0)), (1, .int x), (2, .ref o)]) hP hS hlv ?_
      refine tl_astore_n (L' := [(0, .ref (h 0)), (1, .int x), (2, .ref o), (3, .ref qa)]) [1, 2, 3, 0] S dL_letters_12 rfl (by decide) rfl ?_
      refine tg_iconst (v := 1) S dL_letters_13 (by decide) ?_
      exact tl_ret S hr hlk dL_letters_14 (tl_kI hE) (tl_wS hE)
    · refine tl_catch2 (E1 := tx_I) (x1 := ⟨0, 9, 12, 13⟩) (x2 := ⟨0, 9, 15, 35⟩) S ht (by decide) tl_lI hX.2.2 rfl (by decide) tl_lO (hX.1.1 _ (by simp [tx_I, tx_J, tx_O])) hce hcv hcl ?_
      refine tl_app (w := tl_w h o cI cZ cJ u) (L := [(0, .ref (h 0)), (1, .int x), (2, .ref o)]) hP hS hlv ?_
      refine tl_astore_n (L' := [(0, .ref (h 0)), (1, .int x), (2, .ref o), (3, .ref qa)]) [1, 2, 3, 0] S dL_letters_15 rfl (by decide) rfl ?_
      refine tg_iconst (v := 2) S dL_letters_16 (by decide) ?_
      exact tl_ret S hr hlk dL_letters_17 (tl_kO hE) (tl_wS hE)
  · skip
    refine tl_i2l S dL_letters_7 ?_
    refine tl_last S hK hd dL_letters_8 ?_
    refine tg_goto (tgt := 18) S dL_letters_9 (by decide) ?_
    refine tg_iconst (v := 0) S dL_letters_18 (by decide) ?_
    exact tl_ret S hr hlk dL_letters_19 (tl_kN hx) (tl_wN hx)
set_option maxHeartbeats 4000000 in
set_option maxRecDepth 100000 in
theorem k_L_unread {l : Launch} {D : va_G} {h : Nat → Nat} {o : Nat} {cI cZ cJ : ClassId} (hd : tl_dis h o) (hl : l.stackTraces = false) (σ : tg_Mem) (u : Nat → Int64) (x : Int32) : tl_CT l yL_unread wzL_unread (tx_rm 9) (tl_w h o cI cZ cJ u) (tl_w h o cI cZ cJ (tl_s (fx_forest σ x) (tl_u u (fx_unread σ x).toInt64) u)) (tl_ty cI cZ cJ) tw_nl (tl_A h o) D [.ref (h 0), .int x, .ref o] σ (tl_k (fx_forest σ x)) (tl_s (fx_forest σ x) σ σ) := by
  refine tl_met (own := RL) (hh := [(0, 9, 12, 13), (0, 9, 15, 35)]) (by decide +kernel) rfl rfl (Nat.le_of_ble_eq_true rfl) ?_
  intro p e s m below meth c S hK hN hX hr hlk ht
  refine tg_sub (L' := [(0, .ref (h 0)), (1, .int x), (2, .ref o)]) [0, 1, 2] rfl ?_
  refine tg_aload_n S 2 dL_unread_0 rfl rfl ?_
  refine tg_iconst (v := 0) S dL_unread_1 (by decide) ?_
  refine tg_aload_n S 0 dL_unread_2 rfl rfl ?_
  refine tg_iload_n S 1 dL_unread_3 rfl rfl ?_
  refine tl_call (nA := 1) (As := [.int x]) (rest := [.int 0, .ref o]) S hK hN hX.1 hd (k_X2_unread hd.1 hl σ x) (tw_gV ml_RL_58 im_X2_unread se_X2_unread in_RX2 co_X2_unread rfl) rfl (by decide +kernel) ⟨Nat.le_of_ble_eq_true rfl, Nat.le_of_ble_eq_true rfl⟩ rfl rfl (Nat.le_of_ble_eq_true rfl) dL_unread_4 ⟨Nat.le_of_ble_eq_true rfl, Nat.le_of_ble_eq_true rfl⟩ ?_ (fun hx => ?_)
  · intro E hE H locs ls qa ce hP hS hlv hce hcv hcl
    rcases tl_eF hE with rfl | rfl
    · refine tl_catch1 (x1 := ⟨0, 9, 12, 13⟩) S ht rfl (by decide) tl_lI (hX.1.1 _ (by simp [tx_I, tx_J, tx_O])) hce hcv hcl ?_
      refine tl_app (w := tl_w h o cI cZ cJ u) (L := [(0, .ref (h 0)), (1, .int x), (2, .ref o)]) hP hS hlv ?_
      refine tl_astore_n (L' := [(0, .ref (h 0)), (1, .int x), (2, .ref o), (3, .ref qa)]) [1, 2, 3, 0] S dL_unread_12 rfl (by decide) rfl ?_
      refine tg_iconst (v := 1) S dL_unread_13 (by decide) ?_
      exact tl_ret S hr hlk dL_unread_14 (tl_kI hE) (tl_wS hE)
    · refine tl_catch2 (E1 := tx_I) (x1 := ⟨0, 9, 12, 13⟩) (x2 := ⟨0, 9, 15, 35⟩) S ht (by decide) tl_lI hX.2.2 rfl (by decide) tl_lO (hX.1.1 _ (by simp [tx_I, tx_J, tx_O])) hce hcv hcl ?_
      refine tl_app (w := tl_w h o cI cZ cJ u) (L := [(0, .ref (h 0)), (1, .int x), (2, .ref o)]) hP hS hlv ?_
      refine tl_astore_n (L' := [(0, .ref (h 0)), (1, .int x), (2, .ref o), (3, .ref qa)]) [1, 2, 3, 0] S dL_unread_15 rfl (by decide) rfl ?_
      refine tg_iconst (v := 2) S dL_unread_16 (by decide) ?_
      exact tl_ret S hr hlk dL_unread_17 (tl_kO hE) (tl_wS hE)
  · skip
    refine tl_i2l S dL_unread_7 ?_
    refine tl_last S hK hd dL_unread_8 ?_
    refine tg_goto (tgt := 18) S dL_unread_9 (by decide) ?_
    refine tg_iconst (v := 0) S dL_unread_18 (by decide) ?_
    exact tl_ret S hr hlk dL_unread_19 (tl_kN hx) (tl_wN hx)
set_option maxHeartbeats 4000000 in
set_option maxRecDepth 100000 in
theorem k_L_people {l : Launch} {D : va_G} {h : Nat → Nat} {o : Nat} {cI cZ cJ : ClassId} (hd : tl_dis h o) (hl : l.stackTraces = false) (σ : tg_Mem) (u : Nat → Int64) (x : Int32) : tl_CT l yL_people wzL_people (tx_rm 9) (tl_w h o cI cZ cJ u) (tl_w h o cI cZ cJ (tl_s (fx_forest σ x) (tl_u u (fx_people σ x).toInt64) u)) (tl_ty cI cZ cJ) tw_nl (tl_A h o) D [.ref (h 0), .int x, .ref o] σ (tl_k (fx_forest σ x)) (tl_s (fx_forest σ x) σ σ) := by
  refine tl_met (own := RL) (hh := [(0, 9, 12, 13), (0, 9, 15, 35)]) (by decide +kernel) rfl rfl (Nat.le_of_ble_eq_true rfl) ?_
  intro p e s m below meth c S hK hN hX hr hlk ht
  refine tg_sub (L' := [(0, .ref (h 0)), (1, .int x), (2, .ref o)]) [0, 1, 2] rfl ?_
  refine tg_aload_n S 2 dL_people_0 rfl rfl ?_
  refine tg_iconst (v := 0) S dL_people_1 (by decide) ?_
  refine tg_aload_n S 0 dL_people_2 rfl rfl ?_
  refine tg_iload_n S 1 dL_people_3 rfl rfl ?_
  refine tl_call (nA := 1) (As := [.int x]) (rest := [.int 0, .ref o]) S hK hN hX.1 hd (k_X2_people hd.1 hl σ x) (tw_gV ml_RL_61 im_X2_people se_X2_people in_RX2 co_X2_people rfl) rfl (by decide +kernel) ⟨Nat.le_of_ble_eq_true rfl, Nat.le_of_ble_eq_true rfl⟩ rfl rfl (Nat.le_of_ble_eq_true rfl) dL_people_4 ⟨Nat.le_of_ble_eq_true rfl, Nat.le_of_ble_eq_true rfl⟩ ?_ (fun hx => ?_)
  · intro E hE H locs ls qa ce hP hS hlv hce hcv hcl
    rcases tl_eF hE with rfl | rfl
    · refine tl_catch1 (x1 := ⟨0, 9, 12, 13⟩) S ht rfl (by decide) tl_lI (hX.1.1 _ (by simp [tx_I, tx_J, tx_O])) hce hcv hcl ?_
      refine tl_app (w := tl_w h o cI cZ cJ u) (L := [(0, .ref (h 0)), (1, .int x), (2, .ref o)]) hP hS hlv ?_
      refine tl_astore_n (L' := [(0, .ref (h 0)), (1, .int x), (2, .ref o), (3, .ref qa)]) [1, 2, 3, 0] S dL_people_12 rfl (by decide) rfl ?_
      refine tg_iconst (v := 1) S dL_people_13 (by decide) ?_
      exact tl_ret S hr hlk dL_people_14 (tl_kI hE) (tl_wS hE)
    · refine tl_catch2 (E1 := tx_I) (x1 := ⟨0, 9, 12, 13⟩) (x2 := ⟨0, 9, 15, 35⟩) S ht (by decide) tl_lI hX.2.2 rfl (by decide) tl_lO (hX.1.1 _ (by simp [tx_I, tx_J, tx_O])) hce hcv hcl ?_
      refine tl_app (w := tl_w h o cI cZ cJ u) (L := [(0, .ref (h 0)), (1, .int x), (2, .ref o)]) hP hS hlv ?_
      refine tl_astore_n (L' := [(0, .ref (h 0)), (1, .int x), (2, .ref o), (3, .ref qa)]) [1, 2, 3, 0] S dL_people_15 rfl (by decide) rfl ?_
      refine tg_iconst (v := 2) S dL_people_16 (by decide) ?_
      exact tl_ret S hr hlk dL_people_17 (tl_kO hE) (tl_wS hE)
  · skip
    refine tl_i2l S dL_people_7 ?_
    refine tl_last S hK hd dL_people_8 ?_
    refine tg_goto (tgt := 18) S dL_people_9 (by decide) ?_
    refine tg_iconst (v := 0) S dL_people_18 (by decide) ?_
    exact tl_ret S hr hlk dL_people_19 (tl_kN hx) (tl_wN hx)
set_option maxHeartbeats 4000000 in
set_option maxRecDepth 100000 in
theorem k_L_latest {l : Launch} {D : va_G} {h : Nat → Nat} {o : Nat} {cI cZ cJ : ClassId} (hd : tl_dis h o) (hl : l.stackTraces = false) (σ : tg_Mem) (u : Nat → Int64) (x : Int32) : tl_CT l yL_latest wzL_latest (tx_rm 9) (tl_w h o cI cZ cJ u) (tl_w h o cI cZ cJ (tl_s (fx_forest σ x) (tl_u u (fx_latest σ x).toInt64) u)) (tl_ty cI cZ cJ) tw_nl (tl_A h o) D [.ref (h 0), .int x, .ref o] σ (tl_k (fx_forest σ x)) (tl_s (fx_forest σ x) σ σ) := by
  refine tl_met (own := RL) (hh := [(0, 9, 12, 13), (0, 9, 15, 35)]) (by decide +kernel) rfl rfl (Nat.le_of_ble_eq_true rfl) ?_
  intro p e s m below meth c S hK hN hX hr hlk ht
  refine tg_sub (L' := [(0, .ref (h 0)), (1, .int x), (2, .ref o)]) [0, 1, 2] rfl ?_
  refine tg_aload_n S 2 dL_latest_0 rfl rfl ?_
  refine tg_iconst (v := 0) S dL_latest_1 (by decide) ?_
  refine tg_aload_n S 0 dL_latest_2 rfl rfl ?_
  refine tg_iload_n S 1 dL_latest_3 rfl rfl ?_
  refine tl_call (nA := 1) (As := [.int x]) (rest := [.int 0, .ref o]) S hK hN hX.1 hd (k_X2_latest hd.1 hl σ x) (tw_gV ml_RL_64 im_X2_latest se_X2_latest in_RX2 co_X2_latest rfl) rfl (by decide +kernel) ⟨Nat.le_of_ble_eq_true rfl, Nat.le_of_ble_eq_true rfl⟩ rfl rfl (Nat.le_of_ble_eq_true rfl) dL_latest_4 ⟨Nat.le_of_ble_eq_true rfl, Nat.le_of_ble_eq_true rfl⟩ ?_ (fun hx => ?_)
  · intro E hE H locs ls qa ce hP hS hlv hce hcv hcl
    rcases tl_eF hE with rfl | rfl
    · refine tl_catch1 (x1 := ⟨0, 9, 12, 13⟩) S ht rfl (by decide) tl_lI (hX.1.1 _ (by simp [tx_I, tx_J, tx_O])) hce hcv hcl ?_
      refine tl_app (w := tl_w h o cI cZ cJ u) (L := [(0, .ref (h 0)), (1, .int x), (2, .ref o)]) hP hS hlv ?_
      refine tl_astore_n (L' := [(0, .ref (h 0)), (1, .int x), (2, .ref o), (3, .ref qa)]) [1, 2, 3, 0] S dL_latest_12 rfl (by decide) rfl ?_
      refine tg_iconst (v := 1) S dL_latest_13 (by decide) ?_
      exact tl_ret S hr hlk dL_latest_14 (tl_kI hE) (tl_wS hE)
    · refine tl_catch2 (E1 := tx_I) (x1 := ⟨0, 9, 12, 13⟩) (x2 := ⟨0, 9, 15, 35⟩) S ht (by decide) tl_lI hX.2.2 rfl (by decide) tl_lO (hX.1.1 _ (by simp [tx_I, tx_J, tx_O])) hce hcv hcl ?_
      refine tl_app (w := tl_w h o cI cZ cJ u) (L := [(0, .ref (h 0)), (1, .int x), (2, .ref o)]) hP hS hlv ?_
      refine tl_astore_n (L' := [(0, .ref (h 0)), (1, .int x), (2, .ref o), (3, .ref qa)]) [1, 2, 3, 0] S dL_latest_15 rfl (by decide) rfl ?_
      refine tg_iconst (v := 2) S dL_latest_16 (by decide) ?_
      exact tl_ret S hr hlk dL_latest_17 (tl_kO hE) (tl_wS hE)
  · skip
    refine tl_i2l S dL_latest_7 ?_
    refine tl_last S hK hd dL_latest_8 ?_
    refine tg_goto (tgt := 18) S dL_latest_9 (by decide) ?_
    refine tg_iconst (v := 0) S dL_latest_18 (by decide) ?_
    exact tl_ret S hr hlk dL_latest_19 (tl_kN hx) (tl_wN hx)
