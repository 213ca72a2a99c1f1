/-! ===== the reference: its methods by contract (printed by wip/whole/genB.py) ===== -/
set_option maxHeartbeats 4000000 in
set_option maxRecDepth 100000 in
theorem k_X3_in {l : Launch} {D : va_G} {h : Nat → Nat} {cI cZ : ClassId} (hd : tw_dis 15 h) (σ : tg_Mem) (x : Int32) (lo : Int32) (hi : Int32) : tg_CT l yX3_in wzX3_in (tg_rm 0) (tw_M h cI cZ) (tw_ty cI cZ) [] (tw_A 15 h) D [.int x, .int lo, .int hi] σ (some (.int (tg_b (fb_in x lo hi)))) σ := by
  refine tg_met (own := RX3) (cc := cX3_in) (maxL := 3) (ret := (some .boolean)) (by decide +kernel) rfl rfl (Nat.le_of_ble_eq_true rfl) ?_
  intro p e s m below meth c S hK hN hr hlk
  refine tg_sub (L' := [(0, .int x), (1, .int lo), (2, .int hi)]) [0, 1, 2] rfl ?_
  refine tg_iload_n S 0 dX3_in_0 rfl rfl ?_
  refine tg_iload_n S 1 dX3_in_1 rfl rfl ?_
  refine tg_icmp_lt (tgt := 14) S dX3_in_2 (by decide) (fun c_1 => ?_) (fun c_1 => ?_)
  · skip
    refine tg_iconst (v := 0) S dX3_in_14 (by decide) ?_
    exact tg_zret (b := false) S hr hlk dX3_in_15 (congrArg tg_b (by simp [fb_in, c_1])) rfl
  · skip
    refine tg_iload_n S 0 dX3_in_5 rfl rfl ?_
    refine tg_iload_n S 2 dX3_in_6 rfl rfl ?_
    refine tg_icmp_gt (tgt := 14) S dX3_in_7 (by decide) (fun c_2 => ?_) (fun c_2 => ?_)
    · skip
      refine tg_iconst (v := 0) S dX3_in_14 (by decide) ?_
      exact tg_zret (b := false) S hr hlk dX3_in_15 (congrArg tg_b (by simp [fb_in, c_1, c_2])) rfl
    · skip
      refine tg_iconst (v := 1) S dX3_in_10 (by decide) ?_
      refine tg_goto (tgt := 15) S dX3_in_11 (by decide) ?_
      exact tg_zret (b := true) S hr hlk dX3_in_15 (congrArg tg_b (by simp [fb_in, c_1, c_2])) rfl
set_option maxHeartbeats 4000000 in
set_option maxRecDepth 100000 in
theorem k_X3_isId {l : Launch} {D : va_G} {h : Nat → Nat} {cI cZ : ClassId} (hd : tw_dis 15 h) (σ : tg_Mem) (x : Int32) : tg_CT l yX3_isId wzX3_isId (tg_rm 1) (tw_M h cI cZ) (tw_ty cI cZ) [] (tw_A 15 h) D [.int x] σ (some (.int (tg_b (fb_in x 0 29)))) σ := by
  refine tg_met (own := RX3) (cc := cX3_isId) (maxL := 1) (ret := (some .boolean)) (by decide +kernel) rfl rfl (Nat.le_of_ble_eq_true rfl) ?_
  intro p e s m below meth c S hK hN hr hlk
  refine tg_sub (L' := [(0, .int x)]) [0] rfl ?_
  refine tg_iload_n S 0 dX3_isId_0 rfl rfl ?_
  refine tg_iconst (v := 0) S dX3_isId_1 (by decide) ?_
  refine tg_bipush (v := 29) S dX3_isId_2 (by decide) ?_
  refine tg_callS (nA := 3) (As := [.int x, .int 0, .int 29]) (rest := []) S hK hN (k_X3_in hd σ x 0 29) (tw_gS ml_RX3_57 st_X3_in in_RX3 co_X3_in rfl) rfl (by decide +kernel) ⟨Nat.le_of_ble_eq_true rfl, Nat.le_of_ble_eq_true rfl⟩ rfl rfl (Nat.le_of_ble_eq_true rfl) dX3_isId_4 ⟨Nat.le_of_ble_eq_true rfl, Nat.le_of_ble_eq_true rfl⟩ ?_
  exact tg_zret (b := fb_in x 0 29) S hr hlk dX3_isId_7 (congrArg tg_b (by simp [])) rfl
set_option maxHeartbeats 4000000 in
set_option maxRecDepth 100000 in
theorem k_X3_thrown {l : Launch} {D : va_G} {h : Nat → Nat} {cI cZ : ClassId} (hd : tw_dis 15 h) (σ : tg_Mem)  : tg_CT l yX3_thrown wzX3_thrown (tg_rm 0) (tw_M h cI cZ) (tw_ty cI cZ) [] (tw_A 15 h) D [.ref (h 0)] σ (some (.int (σ 15 0))) σ := by
  refine tg_met (own := RX3) (cc := cX3_thrown) (maxL := 1) (ret := (some .int)) (by decide +kernel) rfl rfl (Nat.le_of_ble_eq_true rfl) ?_
  intro p e s m below meth c S hK hN hr hlk
  refine tg_sub (L' := [(0, .ref (h 0))]) [0] rfl ?_
  refine tg_aload_n S 0 dX3_thrown_0 rfl rfl ?_
  refine tg_get (v := .int (σ 15 0)) S tw_v3 hK 0 rfl rfl 15 (by decide) (tw_in fl_RX3_53 rfl) dX3_thrown_1 rfl ?_
  exact tg_iret S hr hlk dX3_thrown_4 rfl rfl
set_option maxHeartbeats 4000000 in
set_option maxRecDepth 100000 in
theorem k_X3_asked {l : Launch} {D : va_G} {h : Nat → Nat} {cI cZ : ClassId} (hd : tw_dis 15 h) (σ : tg_Mem) (b : Bool) : tg_CT l yX3_asked wzX3_asked (tg_rm 0) (tw_M h cI cZ) (tw_ty cI cZ) [] (tw_A 15 h) D [.ref (h 0), .int (tg_b b)] σ (some (.int (tg_b b))) (tg_upA σ 15 (fun _ => fb_thr1 b)) := by
  refine tg_met (own := RX3) (cc := cX3_asked) (maxL := 2) (ret := (some .boolean)) (by decide +kernel) rfl rfl (Nat.le_of_ble_eq_true rfl) ?_
  intro p e s m below meth c S hK hN hr hlk
  refine tg_sub (L' := [(0, .ref (h 0)), (1, .int (tg_b b))]) [0, 1] rfl ?_
  refine tg_aload_n S 0 dX3_asked_0 rfl rfl ?_
  refine tg_iload_n S 1 dX3_asked_1 rfl rfl ?_
  refine tg_ifz (tgt := 9) S dX3_asked_2 (by decide) (fun c_1 => ?_) (fun c_1 => ?_)
  · skip
    refine tg_eq (σ2 := σ) (L2 := [(0, .ref (h 0)), (1, .int (tg_b false))]) (st2 := [.ref (h 0)]) rfl (by first | (simp only [c_1]; done) | (simp only [c_1]; rfl)) rfl ?_
    refine tg_iconst (v := 1) S dX3_asked_9 (by decide) ?_
    refine tg_put (σ2 := tg_upA σ 15 (fun _ => 1)) S tw_v3 tyX3 tyX3_ok nmX3 hK (tw_MD hd) 0 rfl rfl 15 (by decide) (tw_in fl_RX3_53 rfl) dX3_asked_10 rfl (by decide +kernel) (Nat.le_of_ble_eq_true rfl) rfl ?_
    refine tg_iload_n S 1 dX3_asked_13 rfl rfl ?_
    exact tg_zret (b := false) S hr hlk dX3_asked_14 (congrArg tg_b (by simp [fb_thr1, c_1])) (by simp [fb_thr1, c_1])
  · skip
    refine tg_eq (σ2 := σ) (L2 := [(0, .ref (h 0)), (1, .int (tg_b true))]) (st2 := [.ref (h 0)]) rfl (by first | (simp only [c_1]; done) | (simp only [c_1]; rfl)) rfl ?_
    refine tg_iconst (v := 0) S dX3_asked_5 (by decide) ?_
    refine tg_goto (tgt := 10) S dX3_asked_6 (by decide) ?_
    refine tg_put (σ2 := tg_upA σ 15 (fun _ => 0)) S tw_v3 tyX3 tyX3_ok nmX3 hK (tw_MD hd) 0 rfl rfl 15 (by decide) (tw_in fl_RX3_53 rfl) dX3_asked_10 rfl (by decide +kernel) (Nat.le_of_ble_eq_true rfl) rfl ?_
    refine tg_iload_n S 1 dX3_asked_13 rfl rfl ?_
    exact tg_zret (b := true) S hr hlk dX3_asked_14 (congrArg tg_b (by simp [fb_thr1, c_1])) (by simp [fb_thr1, c_1])
set_option maxHeartbeats 4000000 in
set_option maxRecDepth 100000 in
theorem k_X3_asked_ {l : Launch} {D : va_G} {h : Nat → Nat} {cI cZ : ClassId} (hd : tw_dis 15 h) (σ : tg_Mem) (b : Bool) (b2 : Bool) : tg_CT l yX3_asked_ wzX3_asked_ (tg_rm 0) (tw_M h cI cZ) (tw_ty cI cZ) [] (tw_A 15 h) D [.ref (h 0), .int (tg_b b), .int (tg_b b2)] σ (some (.int (tg_b (b && b2)))) (tg_upA σ 15 (fun _ => fb_thr2 b b2)) := by
  refine tg_met (own := RX3) (cc := cX3_asked_) (maxL := 3) (ret := (some .boolean)) (by decide +kernel) rfl rfl (Nat.le_of_ble_eq_true rfl) ?_
  intro p e s m below meth c S hK hN hr hlk
  refine tg_sub (L' := [(0, .ref (h 0)), (1, .int (tg_b b)), (2, .int (tg_b b2))]) [0, 1, 2] rfl ?_
  refine tg_aload_n S 0 dX3_asked__0 rfl rfl ?_
  refine tg_iload_n S 1 dX3_asked__1 rfl rfl ?_
  refine tg_ifnz (tgt := 9) S dX3_asked__2 (by decide) (fun c_1 => ?_) (fun c_1 => ?_)
  · skip
    refine tg_eq (σ2 := σ) (L2 := [(0, .ref (h 0)), (1, .int (tg_b true)), (2, .int (tg_b b2))]) (st2 := [.ref (h 0)]) rfl (by first | (simp only [c_1]; done) | (simp only [c_1]; rfl)) rfl ?_
    refine tg_iload_n S 2 dX3_asked__9 rfl rfl ?_
    refine tg_ifz (tgt := 17) S dX3_asked__10 (by decide) (fun c_2 => ?_) (fun c_2 => ?_)
    · skip
      refine tg_eq (σ2 := σ) (L2 := [(0, .ref (h 0)), (1, .int (tg_b true)), (2, .int (tg_b false))]) (st2 := [.ref (h 0)]) rfl (by first | (simp only [c_2]; done) | (simp only [c_2]; rfl)) rfl ?_
      refine tg_iconst (v := 2) S dX3_asked__17 (by decide) ?_
      refine tg_put (σ2 := tg_upA σ 15 (fun _ => 2)) S tw_v3 tyX3 tyX3_ok nmX3 hK (tw_MD hd) 0 rfl rfl 15 (by decide) (tw_in fl_RX3_53 rfl) dX3_asked__18 rfl (by decide +kernel) (Nat.le_of_ble_eq_true rfl) rfl ?_
      refine tg_aload_n S 0 dX3_asked__21 rfl rfl ?_
      refine tg_get (v := .int 2) S tw_v3 hK 0 rfl rfl 15 (by decide) (tw_in fl_RX3_53 rfl) dX3_asked__22 rfl ?_
      refine tg_if_ne (tgt := 32) S dX3_asked__25 (by decide) (fun _ => ?_) (fun c => absurd c (by decide))
      refine tg_iconst (v := 0) S dX3_asked__32 (by decide) ?_
      exact tg_zret (b := false) S hr hlk dX3_asked__33 (congrArg tg_b (by simp [fb_thr2, c_1, c_2])) (by simp [fb_thr2, c_1, c_2])
    · skip
      refine tg_eq (σ2 := σ) (L2 := [(0, .ref (h 0)), (1, .int (tg_b true)), (2, .int (tg_b true))]) (st2 := [.ref (h 0)]) rfl (by first | (simp only [c_2]; done) | (simp only [c_2]; rfl)) rfl ?_
      refine tg_iconst (v := 0) S dX3_asked__13 (by decide) ?_
      refine tg_goto (tgt := 18) S dX3_asked__14 (by decide) ?_
      refine tg_put (σ2 := tg_upA σ 15 (fun _ => 0)) S tw_v3 tyX3 tyX3_ok nmX3 hK (tw_MD hd) 0 rfl rfl 15 (by decide) (tw_in fl_RX3_53 rfl) dX3_asked__18 rfl (by decide +kernel) (Nat.le_of_ble_eq_true rfl) rfl ?_
      refine tg_aload_n S 0 dX3_asked__21 rfl rfl ?_
      refine tg_get (v := .int 0) S tw_v3 hK 0 rfl rfl 15 (by decide) (tw_in fl_RX3_53 rfl) dX3_asked__22 rfl ?_
      refine tg_if_ne (tgt := 32) S dX3_asked__25 (by decide) (fun c => absurd (by decide) c) (fun _ => ?_)
      refine tg_iconst (v := 1) S dX3_asked__28 (by decide) ?_
      refine tg_goto (tgt := 33) S dX3_asked__29 (by decide) ?_
      exact tg_zret (b := true) S hr hlk dX3_asked__33 (congrArg tg_b (by simp [fb_thr2, c_1, c_2])) (by simp [fb_thr2, c_1, c_2])
  · skip
    refine tg_eq (σ2 := σ) (L2 := [(0, .ref (h 0)), (1, .int (tg_b false)), (2, .int (tg_b b2))]) (st2 := [.ref (h 0)]) rfl (by first | (simp only [c_1]; done) | (simp only [c_1]; rfl)) rfl ?_
    refine tg_iconst (v := 1) S dX3_asked__5 (by decide) ?_
    refine tg_goto (tgt := 18) S dX3_asked__6 (by decide) ?_
    refine tg_put (σ2 := tg_upA σ 15 (fun _ => 1)) S tw_v3 tyX3 tyX3_ok nmX3 hK (tw_MD hd) 0 rfl rfl 15 (by decide) (tw_in fl_RX3_53 rfl) dX3_asked__18 rfl (by decide +kernel) (Nat.le_of_ble_eq_true rfl) rfl ?_
    refine tg_aload_n S 0 dX3_asked__21 rfl rfl ?_
    refine tg_get (v := .int 1) S tw_v3 hK 0 rfl rfl 15 (by decide) (tw_in fl_RX3_53 rfl) dX3_asked__22 rfl ?_
    refine tg_if_ne (tgt := 32) S dX3_asked__25 (by decide) (fun _ => ?_) (fun c => absurd c (by decide))
    refine tg_iconst (v := 0) S dX3_asked__32 (by decide) ?_
    exact tg_zret (b := false) S hr hlk dX3_asked__33 (congrArg tg_b (by simp [fb_thr2, c_1])) (by simp [fb_thr2, c_1])
set_option maxHeartbeats 4000000 in
set_option maxRecDepth 100000 in
theorem k_X3_knows {l : Launch} {D : va_G} {h : Nat → Nat} {cI cZ : ClassId} (hd : tw_dis 15 h) (σ : tg_Mem)  (h1 : ∀ i, i < 30 → σ 1 i = -1 ∨ vp_in (σ 1 i) 30) (h2 : ∀ i, i < 30 → σ 2 i = -1 ∨ vp_in (σ 2 i) 30) (h7 : ∀ i, i < 30 → σ 7 i < 0 ∨ vp_in (σ 7 i) 30) : tg_CT l yX3_knows wzX3_knows (tg_rm 0) (tw_M h cI cZ) (tw_ty cI cZ) [] (tw_A 15 h) D [.ref (h 0)] σ none (tg_upA σ 8 (fb_known (σ 0) (σ 1) (σ 2) (σ 7) (σ 8))) := by
  refine tg_met (own := RX3) (cc := cX3_knows) (maxL := 2) (ret := none) (by decide +kernel) rfl rfl (Nat.le_of_ble_eq_true rfl) ?_
  intro p e s m below meth c S hK hN hr hlk
  refine tg_sub (L' := [(0, .ref (h 0))]) [0] rfl ?_
  refine tg_iconst (v := nI 0) S dX3_knows_0 (by decide) ?_
  refine tg_istore_n (L' := [(0, .ref (h 0)), (1, .int (nI 0))]) [1, 0] S dX3_knows_1 rfl (by decide) rfl ?_
  refine tg_w (σ2 := tg_upA σ 8 (σ 8)) rfl ?_
  refine tg_loop (X := tb_A) fb_k1 30 (σ 8) (fun κ => tg_upA σ 8 κ) (fun i κ => [(0, .ref (h 0)), (1, .int (nI i))]) ?_ ?_
  · skip
    intro i κ hi_i hk_i
    refine tg_iload_n S 1 dX3_knows_2 rfl rfl ?_
    refine tg_bipush (v := 30) S dX3_knows_3 (by decide) ?_
    refine tg_icmp_ge (tgt := 21) S dX3_knows_5 (by decide) (fun c => absurd c (tg_nge hi_i)) (fun _ => ?_)
    refine tg_aload_n S 0 dX3_knows_8 rfl rfl ?_
    refine tg_get (v := .ref (h 9)) S tw_v3 hK 0 rfl rfl 8 (by decide) (tw_in fl_RX3_35 rfl) dX3_knows_9 rfl ?_
    refine tg_iload_n S 1 dX3_knows_12 rfl rfl ?_
    refine tg_iconst (v := 0) S dX3_knows_13 (by decide) ?_
    refine tg_zast (b := false) (σ2 := tg_upA σ 8 (upd κ i 0)) S hK (tw_MD hd) 9 1 rfl rfl dX3_knows_14 (tg_in hi_i (by decide)) (by rw [tg_cl (Nat.lt_trans hi_i (by decide))]; exact (tw_Ms8 (upd κ i 0)).trans rfl) ?_
    refine tg_iinc (v := nI (i + 1)) (L' := [(0, .ref (h 0)), (1, .int (nI (i + 1)))]) [1, 0] S 1 dX3_knows_15 rfl (tg_inc _) (by decide) rfl ?_
    refine tg_goto (tgt := 2) S dX3_knows_18 (by decide) ?_
    have e_1 : fb_k1 i κ = upd κ i 0 := (by first | (simp [fb_k1]; done))
    rw [e_1] at hk_i
    exact hk_i
  · skip
    refine tg_iload_n S 1 dX3_knows_2 rfl rfl ?_
    refine tg_bipush (v := 30) S dX3_knows_3 (by decide) ?_
    refine tg_icmp_ge (tgt := 21) S dX3_knows_5 (by decide) (fun _ => ?_) (fun c => absurd tg_ge c)
    refine tg_iconst (v := nI 0) S dX3_knows_21 (by decide) ?_
    refine tg_istore_n (L' := [(0, .ref (h 0)), (1, .int (nI 0))]) [1, 0] S dX3_knows_22 rfl (by decide) rfl ?_
    refine tg_loop (X := tb_A) (fb_k2 (σ 0) (σ 1) (σ 2) (σ 7)) 30 (tg_it fb_k1 (σ 8) 30) (fun κ => tg_upA σ 8 κ) (fun i κ => [(0, .ref (h 0)), (1, .int (nI i))]) ?_ ?_
    · skip
      intro i κ hi_i hk_i
      refine tg_iload_n S 1 dX3_knows_23 rfl rfl ?_
      refine tg_bipush (v := 30) S dX3_knows_24 (by decide) ?_
      refine tg_icmp_ge (tgt := 116) S dX3_knows_26 (by decide) (fun c => absurd c (tg_nge hi_i)) (fun _ => ?_)
      refine tg_aload_n S 0 dX3_knows_29 rfl rfl ?_
      refine tg_get (v := .ref (h 1)) S tw_v3 hK 0 rfl rfl 0 (by decide) (tw_in fl_RX3_7 rfl) dX3_knows_30 rfl ?_
      refine tg_iload_n S 1 dX3_knows_33 rfl rfl ?_
      refine tg_zald (v := σ 0 i) S hK 1 1 rfl rfl dX3_knows_34 (tg_in hi_i (by decide)) (congrArg ((σ 0)) (tg_cl (Nat.lt_trans hi_i (by decide)))) ?_
      refine tg_if_eq (tgt := 110) S dX3_knows_35 (by decide) (fun c_1 => ?_) (fun c_1 => ?_)
      · skip
        refine tg_iinc (v := nI (i + 1)) (L' := [(0, .ref (h 0)), (1, .int (nI (i + 1)))]) [1, 0] S 1 dX3_knows_110 rfl (tg_inc _) (by decide) rfl ?_
        refine tg_goto (tgt := 23) S dX3_knows_113 (by decide) ?_
        have e_2 : fb_k2 (σ 0) (σ 1) (σ 2) (σ 7) i κ = κ := (by first | (simp [fb_k2, fb_kT, fb_kH, c_1]; done) | (simp only [fb_k2, fb_kT, fb_kH, if_pos c_1]; done))
        rw [e_2] at hk_i
        exact hk_i
      · skip
        refine tg_aload_n S 0 dX3_knows_38 rfl rfl ?_
        refine tg_get (v := .ref (h 9)) S tw_v3 hK 0 rfl rfl 8 (by decide) (tw_in fl_RX3_35 rfl) dX3_knows_39 rfl ?_
        refine tg_iload_n S 1 dX3_knows_42 rfl rfl ?_
        refine tg_iconst (v := 1) S dX3_knows_43 (by decide) ?_
        refine tg_zast (b := true) (σ2 := tg_upA σ 8 (upd κ i 1)) S hK (tw_MD hd) 9 1 rfl rfl dX3_knows_44 (tg_in hi_i (by decide)) (by rw [tg_cl (Nat.lt_trans hi_i (by decide))]; exact (tw_Ms8 (upd κ i 1)).trans rfl) ?_
        refine tg_aload_n S 0 dX3_knows_45 rfl rfl ?_
        refine tg_get (v := .ref (h 2)) S tw_v3 hK 0 rfl rfl 1 (by decide) (tw_in fl_RX3_13 rfl) dX3_knows_46 rfl ?_
        refine tg_iload_n S 1 dX3_knows_49 rfl rfl ?_
        refine tg_iald (v := σ 1 i) S hK 2 0 rfl rfl dX3_knows_50 (tg_in hi_i (by decide)) (congrArg ((σ 1)) (tg_cl (Nat.lt_trans hi_i (by decide)))) ?_
        refine tg_iconst (v := -1) S dX3_knows_51 (by decide) ?_
        refine tg_icmp_eq (tgt := 67) S dX3_knows_52 (by decide) (fun c_2 => ?_) (fun c_2 => ?_)
        · skip
          refine tg_aload_n S 0 dX3_knows_67 rfl rfl ?_
          refine tg_get (v := .ref (h 3)) S tw_v3 hK 0 rfl rfl 2 (by decide) (tw_in fl_RX3_17 rfl) dX3_knows_68 rfl ?_
          refine tg_iload_n S 1 dX3_knows_71 rfl rfl ?_
          refine tg_iald (v := σ 2 i) S hK 3 0 rfl rfl dX3_knows_72 (tg_in hi_i (by decide)) (congrArg ((σ 2)) (tg_cl (Nat.lt_trans hi_i (by decide)))) ?_
          refine tg_iconst (v := -1) S dX3_knows_73 (by decide) ?_
          refine tg_icmp_eq (tgt := 89) S dX3_knows_74 (by decide) (fun c_3 => ?_) (fun c_3 => ?_)
          · skip
            refine tg_aload_n S 0 dX3_knows_89 rfl rfl ?_
            refine tg_get (v := .ref (h 8)) S tw_v3 hK 0 rfl rfl 7 (by decide) (tw_in fl_RX3_32 rfl) dX3_knows_90 rfl ?_
            refine tg_iload_n S 1 dX3_knows_93 rfl rfl ?_
            refine tg_iald (v := σ 7 i) S hK 8 0 rfl rfl dX3_knows_94 (tg_in hi_i (by decide)) (congrArg ((σ 7)) (tg_cl (Nat.lt_trans hi_i (by decide)))) ?_
            refine tg_if_lt (tgt := 110) S dX3_knows_95 (by decide) (fun c_4 => ?_) (fun c_4 => ?_)
            · skip
              refine tg_iinc (v := nI (i + 1)) (L' := [(0, .ref (h 0)), (1, .int (nI (i + 1)))]) [1, 0] S 1 dX3_knows_110 rfl (tg_inc _) (by decide) rfl ?_
              refine tg_goto (tgt := 23) S dX3_knows_113 (by decide) ?_
              have e_3 : fb_k2 (σ 0) (σ 1) (σ 2) (σ 7) i κ = upd κ i 1 := (by first | (simp [fb_k2, fb_kT, fb_kH, c_1, c_2, c_3, c_4]; done) | (simp only [fb_k2, fb_kT, fb_kH, if_neg c_1, if_pos c_2, if_pos c_3, if_pos c_4]; done))
              rw [e_3] at hk_i
              exact hk_i
            · skip
              refine tg_aload_n S 0 dX3_knows_98 rfl rfl ?_
              refine tg_get (v := .ref (h 9)) S tw_v3 hK 0 rfl rfl 8 (by decide) (tw_in fl_RX3_35 rfl) dX3_knows_99 rfl ?_
              refine tg_aload_n S 0 dX3_knows_102 rfl rfl ?_
              refine tg_get (v := .ref (h 8)) S tw_v3 hK 0 rfl rfl 7 (by decide) (tw_in fl_RX3_32 rfl) dX3_knows_103 rfl ?_
              refine tg_iload_n S 1 dX3_knows_106 rfl rfl ?_
              refine tg_iald (v := σ 7 i) S hK 8 0 rfl rfl dX3_knows_107 (tg_in hi_i (by decide)) (congrArg ((σ 7)) (tg_cl (Nat.lt_trans hi_i (by decide)))) ?_
              refine tg_iconst (v := 1) S dX3_knows_108 (by decide) ?_
              refine tg_zast (b := true) (σ2 := tg_upA σ 8 (upd (upd κ i 1) (σ 7 i).toNatClampNeg 1)) S hK (tw_MD hd) 9 1 rfl rfl dX3_knows_109 ((h7 i hi_i).resolve_left c_4) ((tw_Ms8 (upd (upd κ i 1) (σ 7 i).toNatClampNeg 1)).trans rfl) ?_
              refine tg_iinc (v := nI (i + 1)) (L' := [(0, .ref (h 0)), (1, .int (nI (i + 1)))]) [1, 0] S 1 dX3_knows_110 rfl (tg_inc _) (by decide) rfl ?_
              refine tg_goto (tgt := 23) S dX3_knows_113 (by decide) ?_
              have e_4 : fb_k2 (σ 0) (σ 1) (σ 2) (σ 7) i κ = upd (upd κ i 1) (σ 7 i).toNatClampNeg 1 := (by first | (simp [fb_k2, fb_kT, fb_kH, c_1, c_2, c_3, c_4]; done) | (simp only [fb_k2, fb_kT, fb_kH, if_neg c_1, if_pos c_2, if_pos c_3, if_neg c_4]; done))
              rw [e_4] at hk_i
              exact hk_i
          · skip
            refine tg_aload_n S 0 dX3_knows_77 rfl rfl ?_
            refine tg_get (v := .ref (h 9)) S tw_v3 hK 0 rfl rfl 8 (by decide) (tw_in fl_RX3_35 rfl) dX3_knows_78 rfl ?_
            refine tg_aload_n S 0 dX3_knows_81 rfl rfl ?_
            refine tg_get (v := .ref (h 3)) S tw_v3 hK 0 rfl rfl 2 (by decide) (tw_in fl_RX3_17 rfl) dX3_knows_82 rfl ?_
            refine tg_iload_n S 1 dX3_knows_85 rfl rfl ?_
            refine tg_iald (v := σ 2 i) S hK 3 0 rfl rfl dX3_knows_86 (tg_in hi_i (by decide)) (congrArg ((σ 2)) (tg_cl (Nat.lt_trans hi_i (by decide)))) ?_
            refine tg_iconst (v := 1) S dX3_knows_87 (by decide) ?_
            refine tg_zast (b := true) (σ2 := tg_upA σ 8 (upd (upd κ i 1) (σ 2 i).toNatClampNeg 1)) S hK (tw_MD hd) 9 1 rfl rfl dX3_knows_88 ((h2 i hi_i).resolve_left c_3) ((tw_Ms8 (upd (upd κ i 1) (σ 2 i).toNatClampNeg 1)).trans rfl) ?_
            refine tg_aload_n S 0 dX3_knows_89 rfl rfl ?_
            refine tg_get (v := .ref (h 8)) S tw_v3 hK 0 rfl rfl 7 (by decide) (tw_in fl_RX3_32 rfl) dX3_knows_90 rfl ?_
            refine tg_iload_n S 1 dX3_knows_93 rfl rfl ?_
            refine tg_iald (v := σ 7 i) S hK 8 0 rfl rfl dX3_knows_94 (tg_in hi_i (by decide)) (congrArg ((σ 7)) (tg_cl (Nat.lt_trans hi_i (by decide)))) ?_
            refine tg_if_lt (tgt := 110) S dX3_knows_95 (by decide) (fun c_5 => ?_) (fun c_5 => ?_)
            · skip
              refine tg_iinc (v := nI (i + 1)) (L' := [(0, .ref (h 0)), (1, .int (nI (i + 1)))]) [1, 0] S 1 dX3_knows_110 rfl (tg_inc _) (by decide) rfl ?_
              refine tg_goto (tgt := 23) S dX3_knows_113 (by decide) ?_
              have e_5 : fb_k2 (σ 0) (σ 1) (σ 2) (σ 7) i κ = upd (upd κ i 1) (σ 2 i).toNatClampNeg 1 := (by first | (simp [fb_k2, fb_kT, fb_kH, c_1, c_2, c_3, c_5]; done) | (simp only [fb_k2, fb_kT, fb_kH, if_neg c_1, if_pos c_2, if_neg c_3, if_pos c_5]; done))
              rw [e_5] at hk_i
              exact hk_i
            · skip
              refine tg_aload_n S 0 dX3_knows_98 rfl rfl ?_
              refine tg_get (v := .ref (h 9)) S tw_v3 hK 0 rfl rfl 8 (by decide) (tw_in fl_RX3_35 rfl) dX3_knows_99 rfl ?_
              refine tg_aload_n S 0 dX3_knows_102 rfl rfl ?_
              refine tg_get (v := .ref (h 8)) S tw_v3 hK 0 rfl rfl 7 (by decide) (tw_in fl_RX3_32 rfl) dX3_knows_103 rfl ?_
              refine tg_iload_n S 1 dX3_knows_106 rfl rfl ?_
              refine tg_iald (v := σ 7 i) S hK 8 0 rfl rfl dX3_knows_107 (tg_in hi_i (by decide)) (congrArg ((σ 7)) (tg_cl (Nat.lt_trans hi_i (by decide)))) ?_
              refine tg_iconst (v := 1) S dX3_knows_108 (by decide) ?_
              refine tg_zast (b := true) (σ2 := tg_upA σ 8 (upd (upd (upd κ i 1) (σ 2 i).toNatClampNeg 1) (σ 7 i).toNatClampNeg 1)) S hK (tw_MD hd) 9 1 rfl rfl dX3_knows_109 ((h7 i hi_i).resolve_left c_5) ((tw_Ms8 (upd (upd (upd κ i 1) (σ 2 i).toNatClampNeg 1) (σ 7 i).toNatClampNeg 1)).trans rfl) ?_
              refine tg_iinc (v := nI (i + 1)) (L' := [(0, .ref (h 0)), (1, .int (nI (i + 1)))]) [1, 0] S 1 dX3_knows_110 rfl (tg_inc _) (by decide) rfl ?_
              refine tg_goto (tgt := 23) S dX3_knows_113 (by decide) ?_
              have e_6 : fb_k2 (σ 0) (σ 1) (σ 2) (σ 7) i κ = upd (upd (upd κ i 1) (σ 2 i).toNatClampNeg 1) (σ 7 i).toNatClampNeg 1 := (by first | (simp [fb_k2, fb_kT, fb_kH, c_1, c_2, c_3, c_5]; done) | (simp only [fb_k2, fb_kT, fb_kH, if_neg c_1, if_pos c_2, if_neg c_3, if_neg c_5]; done))
              rw [e_6] at hk_i
              exact hk_i
        · skip
          refine tg_aload_n S 0 dX3_knows_55 rfl rfl ?_
          refine tg_get (v := .ref (h 9)) S tw_v3 hK 0 rfl rfl 8 (by decide) (tw_in fl_RX3_35 rfl) dX3_knows_56 rfl ?_
          refine tg_aload_n S 0 dX3_knows_59 rfl rfl ?_
          refine tg_get (v := .ref (h 2)) S tw_v3 hK 0 rfl rfl 1 (by decide) (tw_in fl_RX3_13 rfl) dX3_knows_60 rfl ?_
          refine tg_iload_n S 1 dX3_knows_63 rfl rfl ?_
          refine tg_iald (v := σ 1 i) S hK 2 0 rfl rfl dX3_knows_64 (tg_in hi_i (by decide)) (congrArg ((σ 1)) (tg_cl (Nat.lt_trans hi_i (by decide)))) ?_
          refine tg_iconst (v := 1) S dX3_knows_65 (by decide) ?_
          refine tg_zast (b := true) (σ2 := tg_upA σ 8 (upd (upd κ i 1) (σ 1 i).toNatClampNeg 1)) S hK (tw_MD hd) 9 1 rfl rfl dX3_knows_66 ((h1 i hi_i).resolve_left c_2) ((tw_Ms8 (upd (upd κ i 1) (σ 1 i).toNatClampNeg 1)).trans rfl) ?_
          refine tg_aload_n S 0 dX3_knows_67 rfl rfl ?_
          refine tg_get (v := .ref (h 3)) S tw_v3 hK 0 rfl rfl 2 (by decide) (tw_in fl_RX3_17 rfl) dX3_knows_68 rfl ?_
          refine tg_iload_n S 1 dX3_knows_71 rfl rfl ?_
          refine tg_iald (v := σ 2 i) S hK 3 0 rfl rfl dX3_knows_72 (tg_in hi_i (by decide)) (congrArg ((σ 2)) (tg_cl (Nat.lt_trans hi_i (by decide)))) ?_
          refine tg_iconst (v := -1) S dX3_knows_73 (by decide) ?_
          refine tg_icmp_eq (tgt := 89) S dX3_knows_74 (by decide) (fun c_6 => ?_) (fun c_6 => ?_)
          · skip
            refine tg_aload_n S 0 dX3_knows_89 rfl rfl ?_
            refine tg_get (v := .ref (h 8)) S tw_v3 hK 0 rfl rfl 7 (by decide) (tw_in fl_RX3_32 rfl) dX3_knows_90 rfl ?_
            refine tg_iload_n S 1 dX3_knows_93 rfl rfl ?_
            refine tg_iald (v := σ 7 i) S hK 8 0 rfl rfl dX3_knows_94 (tg_in hi_i (by decide)) (congrArg ((σ 7)) (tg_cl (Nat.lt_trans hi_i (by decide)))) ?_
            refine tg_if_lt (tgt := 110) S dX3_knows_95 (by decide) (fun c_7 => ?_) (fun c_7 => ?_)
            · skip
              refine tg_iinc (v := nI (i + 1)) (L' := [(0, .ref (h 0)), (1, .int (nI (i + 1)))]) [1, 0] S 1 dX3_knows_110 rfl (tg_inc _) (by decide) rfl ?_
              refine tg_goto (tgt := 23) S dX3_knows_113 (by decide) ?_
              have e_7 : fb_k2 (σ 0) (σ 1) (σ 2) (σ 7) i κ = upd (upd κ i 1) (σ 1 i).toNatClampNeg 1 := (by first | (simp [fb_k2, fb_kT, fb_kH, c_1, c_2, c_6, c_7]; done) | (simp only [fb_k2, fb_kT, fb_kH, if_neg c_1, if_neg c_2, if_pos c_6, if_pos c_7]; done))
              rw [e_7] at hk_i
              exact hk_i
            · skip
              refine tg_aload_n S 0 dX3_knows_98 rfl rfl ?_
              refine tg_get (v := .ref (h 9)) S tw_v3 hK 0 rfl rfl 8 (by decide) (tw_in fl_RX3_35 rfl) dX3_knows_99 rfl ?_
              refine tg_aload_n S 0 dX3_knows_102 rfl rfl ?_
              refine tg_get (v := .ref (h 8)) S tw_v3 hK 0 rfl rfl 7 (by decide) (tw_in fl_RX3_32 rfl) dX3_knows_103 rfl ?_
              refine tg_iload_n S 1 dX3_knows_106 rfl rfl ?_
              refine tg_iald (v := σ 7 i) S hK 8 0 rfl rfl dX3_knows_107 (tg_in hi_i (by decide)) (congrArg ((σ 7)) (tg_cl (Nat.lt_trans hi_i (by decide)))) ?_
              refine tg_iconst (v := 1) S dX3_knows_108 (by decide) ?_
              refine tg_zast (b := true) (σ2 := tg_upA σ 8 (upd (upd (upd κ i 1) (σ 1 i).toNatClampNeg 1) (σ 7 i).toNatClampNeg 1)) S hK (tw_MD hd) 9 1 rfl rfl dX3_knows_109 ((h7 i hi_i).resolve_left c_7) ((tw_Ms8 (upd (upd (upd κ i 1) (σ 1 i).toNatClampNeg 1) (σ 7 i).toNatClampNeg 1)).trans rfl) ?_
              refine tg_iinc (v := nI (i + 1)) (L' := [(0, .ref (h 0)), (1, .int (nI (i + 1)))]) [1, 0] S 1 dX3_knows_110 rfl (tg_inc _) (by decide) rfl ?_
              refine tg_goto (tgt := 23) S dX3_knows_113 (by decide) ?_
              have e_8 : fb_k2 (σ 0) (σ 1) (σ 2) (σ 7) i κ = upd (upd (upd κ i 1) (σ 1 i).toNatClampNeg 1) (σ 7 i).toNatClampNeg 1 := (by first | (simp [fb_k2, fb_kT, fb_kH, c_1, c_2, c_6, c_7]; done) | (simp only [fb_k2, fb_kT, fb_kH, if_neg c_1, if_neg c_2, if_pos c_6, if_neg c_7]; done))
              rw [e_8] at hk_i
              exact hk_i
          · skip
            refine tg_aload_n S 0 dX3_knows_77 rfl rfl ?_
            refine tg_get (v := .ref (h 9)) S tw_v3 hK 0 rfl rfl 8 (by decide) (tw_in fl_RX3_35 rfl) dX3_knows_78 rfl ?_
            refine tg_aload_n S 0 dX3_knows_81 rfl rfl ?_
            refine tg_get (v := .ref (h 3)) S tw_v3 hK 0 rfl rfl 2 (by decide) (tw_in fl_RX3_17 rfl) dX3_knows_82 rfl ?_
            refine tg_iload_n S 1 dX3_knows_85 rfl rfl ?_
            refine tg_iald (v := σ 2 i) S hK 3 0 rfl rfl dX3_knows_86 (tg_in hi_i (by decide)) (congrArg ((σ 2)) (tg_cl (Nat.lt_trans hi_i (by decide)))) ?_
            refine tg_iconst (v := 1) S dX3_knows_87 (by decide) ?_
            refine tg_zast (b := true) (σ2 := tg_upA σ 8 (upd (upd (upd κ i 1) (σ 1 i).toNatClampNeg 1) (σ 2 i).toNatClampNeg 1)) S hK (tw_MD hd) 9 1 rfl rfl dX3_knows_88 ((h2 i hi_i).resolve_left c_6) ((tw_Ms8 (upd (upd (upd κ i 1) (σ 1 i).toNatClampNeg 1) (σ 2 i).toNatClampNeg 1)).trans rfl) ?_
            refine tg_aload_n S 0 dX3_knows_89 rfl rfl ?_
            refine tg_get (v := .ref (h 8)) S tw_v3 hK 0 rfl rfl 7 (by decide) (tw_in fl_RX3_32 rfl) dX3_knows_90 rfl ?_
            refine tg_iload_n S 1 dX3_knows_93 rfl rfl ?_
            refine tg_iald (v := σ 7 i) S hK 8 0 rfl rfl dX3_knows_94 (tg_in hi_i (by decide)) (congrArg ((σ 7)) (tg_cl (Nat.lt_trans hi_i (by decide)))) ?_
            refine tg_if_lt (tgt := 110) S dX3_knows_95 (by decide) (fun c_8 => ?_) (fun c_8 => ?_)
            · skip
              refine tg_iinc (v := nI (i + 1)) (L' := [(0, .ref (h 0)), (1, .int (nI (i + 1)))]) [1, 0] S 1 dX3_knows_110 rfl (tg_inc _) (by decide) rfl ?_
              refine tg_goto (tgt := 23) S dX3_knows_113 (by decide) ?_
              have e_9 : fb_k2 (σ 0) (σ 1) (σ 2) (σ 7) i κ = upd (upd (upd κ i 1) (σ 1 i).toNatClampNeg 1) (σ 2 i).toNatClampNeg 1 := (by first | (simp [fb_k2, fb_kT, fb_kH, c_1, c_2, c_6, c_8]; done) | (simp only [fb_k2, fb_kT, fb_kH, if_neg c_1, if_neg c_2, if_neg c_6, if_pos c_8]; done))
              rw [e_9] at hk_i
              exact hk_i
            · skip
              refine tg_aload_n S 0 dX3_knows_98 rfl rfl ?_
              refine tg_get (v := .ref (h 9)) S tw_v3 hK 0 rfl rfl 8 (by decide) (tw_in fl_RX3_35 rfl) dX3_knows_99 rfl ?_
              refine tg_aload_n S 0 dX3_knows_102 rfl rfl ?_
              refine tg_get (v := .ref (h 8)) S tw_v3 hK 0 rfl rfl 7 (by decide) (tw_in fl_RX3_32 rfl) dX3_knows_103 rfl ?_
              refine tg_iload_n S 1 dX3_knows_106 rfl rfl ?_
              refine tg_iald (v := σ 7 i) S hK 8 0 rfl rfl dX3_knows_107 (tg_in hi_i (by decide)) (congrArg ((σ 7)) (tg_cl (Nat.lt_trans hi_i (by decide)))) ?_
              refine tg_iconst (v := 1) S dX3_knows_108 (by decide) ?_
              refine tg_zast (b := true) (σ2 := tg_upA σ 8 (upd (upd (upd (upd κ i 1) (σ 1 i).toNatClampNeg 1) (σ 2 i).toNatClampNeg 1) (σ 7 i).toNatClampNeg 1)) S hK (tw_MD hd) 9 1 rfl rfl dX3_knows_109 ((h7 i hi_i).resolve_left c_8) ((tw_Ms8 (upd (upd (upd (upd κ i 1) (σ 1 i).toNatClampNeg 1) (σ 2 i).toNatClampNeg 1) (σ 7 i).toNatClampNeg 1)).trans rfl) ?_
              refine tg_iinc (v := nI (i + 1)) (L' := [(0, .ref (h 0)), (1, .int (nI (i + 1)))]) [1, 0] S 1 dX3_knows_110 rfl (tg_inc _) (by decide) rfl ?_
              refine tg_goto (tgt := 23) S dX3_knows_113 (by decide) ?_
              have e_10 : fb_k2 (σ 0) (σ 1) (σ 2) (σ 7) i κ = upd (upd (upd (upd κ i 1) (σ 1 i).toNatClampNeg 1) (σ 2 i).toNatClampNeg 1) (σ 7 i).toNatClampNeg 1 := (by first | (simp [fb_k2, fb_kT, fb_kH, c_1, c_2, c_6, c_8]; done) | (simp only [fb_k2, fb_kT, fb_kH, if_neg c_1, if_neg c_2, if_neg c_6, if_neg c_8]; done))
              rw [e_10] at hk_i
              exact hk_i
    · skip
      refine tg_iload_n S 1 dX3_knows_23 rfl rfl ?_
      refine tg_bipush (v := 30) S dX3_knows_24 (by decide) ?_
      refine tg_icmp_ge (tgt := 116) S dX3_knows_26 (by decide) (fun _ => ?_) (fun c => absurd tg_ge c)
      refine tg_w (σ2 := tg_upA σ 8 (fb_known (σ 0) (σ 1) (σ 2) (σ 7) (σ 8))) rfl ?_
      exact tg_vret S hr hlk dX3_knows_116 rfl
set_option maxHeartbeats 4000000 in
set_option maxRecDepth 100000 in
theorem k_X3_toldParent {l : Launch} {D : va_G} {h : Nat → Nat} {cI cZ : ClassId} (hd : tw_dis 15 h) (σ : tg_Mem) (x : Int32) (hx : vp_in x 30) : tg_CT l yX3_toldParent wzX3_toldParent (tg_rm 0) (tw_M h cI cZ) (tw_ty cI cZ) [] (tw_A 15 h) D [.ref (h 0), .int x] σ (some (.int (fb_told (σ 0) (σ 1) (σ 2) (σ 7) x))) σ := by
  refine tg_met (own := RX3) (cc := cX3_toldParent) (maxL := 3) (ret := (some .int)) (by decide +kernel) rfl rfl (Nat.le_of_ble_eq_true rfl) ?_
  intro p e s m below meth c S hK hN hr hlk
  refine tg_sub (L' := [(0, .ref (h 0)), (1, .int x)]) [0, 1] rfl ?_
  refine tg_aload_n S 0 dX3_toldParent_0 rfl rfl ?_
  refine tg_get (v := .ref (h 1)) S tw_v3 hK 0 rfl rfl 0 (by decide) (tw_in fl_RX3_7 rfl) dX3_toldParent_1 rfl ?_
  refine tg_iload_n S 1 dX3_toldParent_4 rfl rfl ?_
  refine tg_zald (v := σ 0 x.toNatClampNeg) S hK 1 1 rfl rfl dX3_toldParent_5 hx rfl ?_
  refine tg_if_eq (tgt := 50) S dX3_toldParent_6 (by decide) (fun c_1 => ?_) (fun c_1 => ?_)
  · skip
    refine tg_iconst (v := nI 0) S dX3_toldParent_50 (by decide) ?_
    refine tg_istore_n (L' := [(0, .ref (h 0)), (1, .int x), (2, .int (nI 0))]) [1, 2, 0] S dX3_toldParent_51 rfl (by decide) rfl ?_
    obtain ⟨v0, hv0⟩ : ∃ v, fb_guess (σ 0) (σ 1) (σ 2) x = v := ⟨_, rfl⟩
    have hg0 : fb_told (σ 0) (σ 1) (σ 2) (σ 7) x = v0 := by simp [fb_told, c_1, hv0]
    rw [hg0]
    refine tg_fuel (X := Unit) (fb_fnd (σ 0) (σ 1) (σ 2) x) 30 () (fun u => σ) (fun i u => [(0, .ref (h 0)), (1, .int x), (2, .int (nI i))]) hv0 ?_ ?_
    · skip
      intro n1 i u hn_i hF_i hk_i
      have hi_i : i < 30 := by omega
      refine tg_iload_n S 2 dX3_toldParent_52 rfl rfl ?_
      refine tg_bipush (v := 30) S dX3_toldParent_53 (by decide) ?_
      refine tg_icmp_ge (tgt := 100) S dX3_toldParent_55 (by decide) (fun c => absurd c (tg_nge hi_i)) (fun _ => ?_)
      refine tg_aload_n S 0 dX3_toldParent_58 rfl rfl ?_
      refine tg_get (v := .ref (h 1)) S tw_v3 hK 0 rfl rfl 0 (by decide) (tw_in fl_RX3_7 rfl) dX3_toldParent_59 rfl ?_
      refine tg_iload_n S 2 dX3_toldParent_62 rfl rfl ?_
      refine tg_zald (v := σ 0 i) S hK 1 1 rfl rfl dX3_toldParent_63 (tg_in hi_i (by decide)) (congrArg ((σ 0)) (tg_cl (Nat.lt_trans hi_i (by decide)))) ?_
      refine tg_if_eq (tgt := 94) S dX3_toldParent_64 (by decide) (fun c_2 => ?_) (fun c_2 => ?_)
      · skip
        refine tg_iinc (v := nI (i + 1)) (L' := [(0, .ref (h 0)), (1, .int x), (2, .int (nI (i + 1)))]) [1, 2, 0] S 2 dX3_toldParent_94 rfl (tg_inc _) (by decide) rfl ?_
        refine tg_goto (tgt := 52) S dX3_toldParent_97 (by decide) ?_
        exact hk_i u (((by first | (simp [fb_fnd, c_1, c_2]; done) | (simp only [fb_fnd, if_pos c_1, if_pos c_2]; done)) : fb_fnd (σ 0) (σ 1) (σ 2) x n1 (i + 1) u = fb_fnd (σ 0) (σ 1) (σ 2) x (n1 + 1) i u).trans hF_i)
      · skip
        refine tg_aload_n S 0 dX3_toldParent_67 rfl rfl ?_
        refine tg_get (v := .ref (h 2)) S tw_v3 hK 0 rfl rfl 1 (by decide) (tw_in fl_RX3_13 rfl) dX3_toldParent_68 rfl ?_
        refine tg_iload_n S 2 dX3_toldParent_71 rfl rfl ?_
        refine tg_iald (v := σ 1 i) S hK 2 0 rfl rfl dX3_toldParent_72 (tg_in hi_i (by decide)) (congrArg ((σ 1)) (tg_cl (Nat.lt_trans hi_i (by decide)))) ?_
        refine tg_iload_n S 1 dX3_toldParent_73 rfl rfl ?_
        refine tg_icmp_ne (tgt := 94) S dX3_toldParent_74 (by decide) (fun c_3 => ?_) (fun c_3 => ?_)
        · skip
          refine tg_iinc (v := nI (i + 1)) (L' := [(0, .ref (h 0)), (1, .int x), (2, .int (nI (i + 1)))]) [1, 2, 0] S 2 dX3_toldParent_94 rfl (tg_inc _) (by decide) rfl ?_
          refine tg_goto (tgt := 52) S dX3_toldParent_97 (by decide) ?_
          exact hk_i u (((by first | (simp [fb_fnd, c_1, c_2, c_3]; done) | (simp only [fb_fnd, if_pos c_1, if_neg c_2, if_neg c_3]; done)) : fb_fnd (σ 0) (σ 1) (σ 2) x n1 (i + 1) u = fb_fnd (σ 0) (σ 1) (σ 2) x (n1 + 1) i u).trans hF_i)
        · skip
          refine tg_aload_n S 0 dX3_toldParent_77 rfl rfl ?_
          refine tg_get (v := .ref (h 3)) S tw_v3 hK 0 rfl rfl 2 (by decide) (tw_in fl_RX3_17 rfl) dX3_toldParent_78 rfl ?_
          refine tg_iload_n S 2 dX3_toldParent_81 rfl rfl ?_
          refine tg_iald (v := σ 2 i) S hK 3 0 rfl rfl dX3_toldParent_82 (tg_in hi_i (by decide)) (congrArg ((σ 2)) (tg_cl (Nat.lt_trans hi_i (by decide)))) ?_
          refine tg_iconst (v := -1) S dX3_toldParent_83 (by decide) ?_
          refine tg_icmp_eq (tgt := 94) S dX3_toldParent_84 (by decide) (fun c_4 => ?_) (fun c_4 => ?_)
          · skip
            refine tg_iinc (v := nI (i + 1)) (L' := [(0, .ref (h 0)), (1, .int x), (2, .int (nI (i + 1)))]) [1, 2, 0] S 2 dX3_toldParent_94 rfl (tg_inc _) (by decide) rfl ?_
            refine tg_goto (tgt := 52) S dX3_toldParent_97 (by decide) ?_
            exact hk_i u (((by first | (simp [fb_fnd, c_1, c_2, c_3, c_4]; done) | (simp only [fb_fnd, if_pos c_1, if_neg c_2, if_pos c_3, if_pos c_4]; done)) : fb_fnd (σ 0) (σ 1) (σ 2) x n1 (i + 1) u = fb_fnd (σ 0) (σ 1) (σ 2) x (n1 + 1) i u).trans hF_i)
          · skip
            refine tg_aload_n S 0 dX3_toldParent_87 rfl rfl ?_
            refine tg_get (v := .ref (h 3)) S tw_v3 hK 0 rfl rfl 2 (by decide) (tw_in fl_RX3_17 rfl) dX3_toldParent_88 rfl ?_
            refine tg_iload_n S 2 dX3_toldParent_91 rfl rfl ?_
            refine tg_iald (v := σ 2 i) S hK 3 0 rfl rfl dX3_toldParent_92 (tg_in hi_i (by decide)) (congrArg ((σ 2)) (tg_cl (Nat.lt_trans hi_i (by decide)))) ?_
            exact tg_iret S hr hlk dX3_toldParent_93 (((by first | (simp [fb_fnd, c_1, c_2, c_3, c_4]; done) | (simp only [fb_fnd, if_pos c_1, if_neg c_2, if_pos c_3, if_neg c_4]; done)) : σ 2 i = fb_fnd (σ 0) (σ 1) (σ 2) x (n1 + 1) i u).trans hF_i) rfl
    · skip
      intro u hF_i
      refine tg_iload_n S 2 dX3_toldParent_52 rfl rfl ?_
      refine tg_bipush (v := 30) S dX3_toldParent_53 (by decide) ?_
      refine tg_icmp_ge (tgt := 100) S dX3_toldParent_55 (by decide) (fun _ => ?_) (fun c => absurd tg_ge c)
      refine tg_iconst (v := -1) S dX3_toldParent_100 (by decide) ?_
      exact tg_iret S hr hlk dX3_toldParent_101 (((by first | (simp [fb_fnd, c_1]; done) | (simp only [fb_fnd, if_pos c_1]; done)) : -1 = fb_fnd (σ 0) (σ 1) (σ 2) x 0 30 u).trans hF_i) rfl
  · skip
    refine tg_aload_n S 0 dX3_toldParent_9 rfl rfl ?_
    refine tg_get (v := .ref (h 8)) S tw_v3 hK 0 rfl rfl 7 (by decide) (tw_in fl_RX3_32 rfl) dX3_toldParent_10 rfl ?_
    refine tg_iload_n S 1 dX3_toldParent_13 rfl rfl ?_
    refine tg_iald (v := σ 7 x.toNatClampNeg) S hK 8 0 rfl rfl dX3_toldParent_14 hx rfl ?_
    refine tg_bipush (v := -2) S dX3_toldParent_15 (by decide) ?_
    refine tg_icmp_ne (tgt := 24) S dX3_toldParent_17 (by decide) (fun c_5 => ?_) (fun c_5 => ?_)
    · skip
      refine tg_aload_n S 0 dX3_toldParent_24 rfl rfl ?_
      refine tg_get (v := .ref (h 8)) S tw_v3 hK 0 rfl rfl 7 (by decide) (tw_in fl_RX3_32 rfl) dX3_toldParent_25 rfl ?_
      refine tg_iload_n S 1 dX3_toldParent_28 rfl rfl ?_
      refine tg_iald (v := σ 7 x.toNatClampNeg) S hK 8 0 rfl rfl dX3_toldParent_29 hx rfl ?_
      refine tg_iconst (v := -1) S dX3_toldParent_30 (by decide) ?_
      refine tg_icmp_ne (tgt := 43) S dX3_toldParent_31 (by decide) (fun c_6 => ?_) (fun c_6 => ?_)
      · skip
        refine tg_aload_n S 0 dX3_toldParent_43 rfl rfl ?_
        refine tg_get (v := .ref (h 8)) S tw_v3 hK 0 rfl rfl 7 (by decide) (tw_in fl_RX3_32 rfl) dX3_toldParent_44 rfl ?_
        refine tg_iload_n S 1 dX3_toldParent_47 rfl rfl ?_
        refine tg_iald (v := σ 7 x.toNatClampNeg) S hK 8 0 rfl rfl dX3_toldParent_48 hx rfl ?_
        exact tg_iret S hr hlk dX3_toldParent_49 (by simp [fb_told, c_1, c_5, c_6]) rfl
      · skip
        refine tg_aload_n S 0 dX3_toldParent_34 rfl rfl ?_
        refine tg_get (v := .ref (h 2)) S tw_v3 hK 0 rfl rfl 1 (by decide) (tw_in fl_RX3_13 rfl) dX3_toldParent_35 rfl ?_
        refine tg_iload_n S 1 dX3_toldParent_38 rfl rfl ?_
        refine tg_iald (v := σ 1 x.toNatClampNeg) S hK 2 0 rfl rfl dX3_toldParent_39 hx rfl ?_
        refine tg_goto (tgt := 49) S dX3_toldParent_40 (by decide) ?_
        exact tg_iret S hr hlk dX3_toldParent_49 (by simp [fb_told, c_1, c_5, c_6]) rfl
    · skip
      refine tg_iconst (v := -1) S dX3_toldParent_20 (by decide) ?_
      refine tg_goto (tgt := 49) S dX3_toldParent_21 (by decide) ?_
      exact tg_iret S hr hlk dX3_toldParent_49 (by simp [fb_told, c_1, c_5]) rfl
set_option maxHeartbeats 4000000 in
set_option maxRecDepth 100000 in
theorem k_X3_isBelow {l : Launch} {D : va_G} {h : Nat → Nat} {cI cZ : ClassId} (hd : tw_dis 15 h) (σ : tg_Mem) (x : Int32) (y : Int32) (hv : fb_belF (σ 9) y 31 x = some (fb_bel (σ 9) x y)) : tg_CT l yX3_isBelow wzX3_isBelow (tg_rm 0) (tw_M h cI cZ) (tw_ty cI cZ) [] (tw_A 15 h) D [.ref (h 0), .int x, .int y] σ (some (.int (tg_b (fb_bel (σ 9) x y)))) σ := by
  refine tg_met (own := RX3) (cc := cX3_isBelow) (maxL := 4) (ret := (some .boolean)) (by decide +kernel) rfl rfl (Nat.le_of_ble_eq_true rfl) ?_
  intro p e s m below meth c S hK hN hr hlk
  refine tg_sub (L' := [(0, .ref (h 0)), (1, .int x), (2, .int y)]) [0, 1, 2] rfl ?_
  refine tg_iload_n S 1 dX3_isBelow_0 rfl rfl ?_
  refine tg_istore_n (L' := [(0, .ref (h 0)), (1, .int x), (2, .int y), (3, .int x)]) [1, 2, 3, 0] S dX3_isBelow_1 rfl (by decide) rfl ?_
  refine tg_while (X := Int32) (fb_belF (σ 9) y) 31 x (fun a => σ) (fun a => [(0, .ref (h 0)), (1, .int x), (2, .int y), (3, .int a)]) (fun _ => rfl) hv ?_
  intro n1 a hF_a hk_a
  refine tg_iload_n S 3 dX3_isBelow_2 rfl rfl ?_
  refine tg_iconst (v := -1) S dX3_isBelow_3 (by decide) ?_
  refine tg_icmp_eq (tgt := 22) S dX3_isBelow_4 (by decide) (fun c_1 => ?_) (fun c_1 => ?_)
  · skip
    refine tg_iload_n S 3 dX3_isBelow_22 rfl rfl ?_
    refine tg_iload_n S 2 dX3_isBelow_23 rfl rfl ?_
    refine tg_icmp_ne (tgt := 31) S dX3_isBelow_24 (by decide) (fun c_2 => ?_) (fun c_2 => ?_)
    · skip
      refine tg_iconst (v := 0) S dX3_isBelow_31 (by decide) ?_
      exact tg_zret (b := false) S hr hlk dX3_isBelow_32 (congrArg tg_b (by have h9 := hF_a; simp only [fb_belF, if_pos c_1, if_neg c_2, Option.some.injEq] at h9; first | exact h9 | (rw [← h9]; done) | (rw [← h9]; simp [c_2]; done))) rfl
    · skip
      refine tg_iconst (v := 1) S dX3_isBelow_27 (by decide) ?_
      refine tg_goto (tgt := 32) S dX3_isBelow_28 (by decide) ?_
      exact tg_zret (b := true) S hr hlk dX3_isBelow_32 (congrArg tg_b (by have h9 := hF_a; simp only [fb_belF, if_pos c_1, if_pos c_2, Option.some.injEq] at h9; first | exact h9 | (rw [← h9]; done) | (rw [← h9]; simp [c_2]; done))) rfl
  · skip
    refine tg_iload_n S 3 dX3_isBelow_7 rfl rfl ?_
    refine tg_iload_n S 2 dX3_isBelow_8 rfl rfl ?_
    refine tg_icmp_eq (tgt := 22) S dX3_isBelow_9 (by decide) (fun c_3 => ?_) (fun c_3 => ?_)
    · skip
      refine tg_iload_n S 3 dX3_isBelow_22 rfl rfl ?_
      refine tg_iload_n S 2 dX3_isBelow_23 rfl rfl ?_
      refine tg_icmp_ne (tgt := 31) S dX3_isBelow_24 (by decide) (fun c => absurd c_3 c) (fun _ => ?_)
      refine tg_iconst (v := 1) S dX3_isBelow_27 (by decide) ?_
      refine tg_goto (tgt := 32) S dX3_isBelow_28 (by decide) ?_
      exact tg_zret (b := true) S hr hlk dX3_isBelow_32 (congrArg tg_b (by have h9 := hF_a; simp only [fb_belF, if_neg c_1, if_pos c_3, Option.some.injEq] at h9; first | exact h9 | (rw [← h9]; done) | (rw [← h9]; simp [c_3]; done))) rfl
    · skip
      refine tg_aload_n S 0 dX3_isBelow_12 rfl rfl ?_
      refine tg_get (v := .ref (h 10)) S tw_v3 hK 0 rfl rfl 9 (by decide) (tw_in fl_RX3_38 rfl) dX3_isBelow_13 rfl ?_
      refine tg_iload_n S 3 dX3_isBelow_16 rfl rfl ?_
      have v_1 : fa_id a = true := by
        cases hh : fa_id a with
        | true => rfl
        | false => simp [fb_belF, c_1, c_3, hh] at hF_a
      refine tg_iald (v := σ 9 a.toNatClampNeg) S hK 10 0 rfl rfl dX3_isBelow_17 (fa_id_in v_1) rfl ?_
      refine tg_istore_n (L' := [(0, .ref (h 0)), (1, .int x), (2, .int y), (3, .int (σ 9 a.toNatClampNeg))]) [1, 2, 3, 0] S dX3_isBelow_18 rfl (by decide) rfl ?_
      refine tg_goto (tgt := 2) S dX3_isBelow_19 (by decide) ?_
      exact hk_a (σ 9 a.toNatClampNeg) (by have h9 := hF_a; simp only [fb_belF, if_neg c_1, if_neg c_3, if_pos v_1] at h9; exact h9)
set_option maxHeartbeats 4000000 in
set_option maxRecDepth 100000 in
theorem k_X3_links {l : Launch} {D : va_G} {h : Nat → Nat} {cI cZ : ClassId} (hd : tw_dis 15 h) (σ : tg_Mem)  (hT : ∀ i, i < 30 → fb_toldK (σ 0) (σ 1) (σ 2) (σ 7) (σ 8) i ≠ -1 → fb_belF (tg_it (fb_l2 (σ 0) (σ 1) (σ 2) (σ 7) (σ 8)) (tg_it fb_l1 (σ 9) 30) i) (nI i) 31 (fb_toldK (σ 0) (σ 1) (σ 2) (σ 7) (σ 8) i) = some (fb_bel (tg_it (fb_l2 (σ 0) (σ 1) (σ 2) (σ 7) (σ 8)) (tg_it fb_l1 (σ 9) 30) i) (fb_toldK (σ 0) (σ 1) (σ 2) (σ 7) (σ 8) i) (nI i))) : tg_CT l yX3_links wzX3_links (tg_rm 1) (tw_M h cI cZ) (tw_ty cI cZ) [] (tw_A 15 h) D [.ref (h 0)] σ none (tg_upA σ 9 (fb_link (σ 0) (σ 1) (σ 2) (σ 7) (σ 8) (σ 9))) := by
  refine tg_met (own := RX3) (cc := cX3_links) (maxL := 3) (ret := none) (by decide +kernel) rfl rfl (Nat.le_of_ble_eq_true rfl) ?_
  intro p e s m below meth c S hK hN hr hlk
  refine tg_sub (L' := [(0, .ref (h 0))]) [0] rfl ?_
  refine tg_iconst (v := nI 0) S dX3_links_0 (by decide) ?_
  refine tg_istore_n (L' := [(0, .ref (h 0)), (1, .int (nI 0))]) [1, 0] S dX3_links_1 rfl (by decide) rfl ?_
  refine tg_w (σ2 := tg_upA σ 9 (σ 9)) rfl ?_
  refine tg_loop (X := tb_A) fb_l1 30 (σ 9) (fun lk => tg_upA σ 9 lk) (fun i lk => [(0, .ref (h 0)), (1, .int (nI i))]) ?_ ?_
  · skip
    intro i lk hi_i hk_i
    refine tg_iload_n S 1 dX3_links_2 rfl rfl ?_
    refine tg_bipush (v := 30) S dX3_links_3 (by decide) ?_
    refine tg_icmp_ge (tgt := 21) S dX3_links_5 (by decide) (fun c => absurd c (tg_nge hi_i)) (fun _ => ?_)
    refine tg_aload_n S 0 dX3_links_8 rfl rfl ?_
    refine tg_get (v := .ref (h 10)) S tw_v3 hK 0 rfl rfl 9 (by decide) (tw_in fl_RX3_38 rfl) dX3_links_9 rfl ?_
    refine tg_iload_n S 1 dX3_links_12 rfl rfl ?_
    refine tg_iconst (v := -1) S dX3_links_13 (by decide) ?_
    refine tg_iast (σ2 := tg_upA σ 9 (upd lk i (-1))) S hK (tw_MD hd) 10 0 rfl rfl dX3_links_14 (tg_in hi_i (by decide)) (by rw [tg_cl (Nat.lt_trans hi_i (by decide))]; exact (tw_Ms9 (upd lk i (-1))).trans rfl) ?_
    refine tg_iinc (v := nI (i + 1)) (L' := [(0, .ref (h 0)), (1, .int (nI (i + 1)))]) [1, 0] S 1 dX3_links_15 rfl (tg_inc _) (by decide) rfl ?_
    refine tg_goto (tgt := 2) S dX3_links_18 (by decide) ?_
    have e_1 : fb_l1 i lk = upd lk i (-1) := (by first | (simp [fb_l1]; done))
    rw [e_1] at hk_i
    exact hk_i
  · skip
    refine tg_iload_n S 1 dX3_links_2 rfl rfl ?_
    refine tg_bipush (v := 30) S dX3_links_3 (by decide) ?_
    refine tg_icmp_ge (tgt := 21) S dX3_links_5 (by decide) (fun _ => ?_) (fun c => absurd tg_ge c)
    refine tg_iconst (v := nI 0) S dX3_links_21 (by decide) ?_
    refine tg_istore_n (L' := [(0, .ref (h 0)), (1, .int (nI 0))]) [1, 0] S dX3_links_22 rfl (by decide) rfl ?_
    refine tg_loopI (X := tb_A) (fun i lk => lk = tg_it (fb_l2 (σ 0) (σ 1) (σ 2) (σ 7) (σ 8)) (tg_it fb_l1 (σ 9) 30) i) (fb_l2 (σ 0) (σ 1) (σ 2) (σ 7) (σ 8)) 30 (tg_it fb_l1 (σ 9) 30) (fun lk => tg_upA σ 9 lk) (fun i lk => [(0, .ref (h 0)), (1, .int (nI i))]) rfl (fun i x _ h => by rw [h]; rfl) ?_ ?_
    · skip
      intro i lk hi_i hI_i hk_i
      refine tg_iload_n S 1 dX3_links_23 rfl rfl ?_
      refine tg_bipush (v := 30) S dX3_links_24 (by decide) ?_
      refine tg_icmp_ge (tgt := 79) S dX3_links_26 (by decide) (fun c => absurd c (tg_nge hi_i)) (fun _ => ?_)
      refine tg_aload_n S 0 dX3_links_29 rfl rfl ?_
      refine tg_get (v := .ref (h 9)) S tw_v3 hK 0 rfl rfl 8 (by decide) (tw_in fl_RX3_35 rfl) dX3_links_30 rfl ?_
      refine tg_iload_n S 1 dX3_links_33 rfl rfl ?_
      refine tg_zald (v := σ 8 i) S hK 9 1 rfl rfl dX3_links_34 (tg_in hi_i (by decide)) (congrArg ((σ 8)) (tg_cl (Nat.lt_trans hi_i (by decide)))) ?_
      refine tg_if_eq (tgt := 46) S dX3_links_35 (by decide) (fun c_1 => ?_) (fun c_1 => ?_)
      · skip
        refine tg_iconst (v := -1) S dX3_links_46 (by decide) ?_
        refine tg_istore_n (L' := [(0, .ref (h 0)), (1, .int (nI i)), (2, .int (-1))]) [1, 2, 0] S dX3_links_47 rfl (by decide) rfl ?_
        refine tg_aload_n S 0 dX3_links_48 rfl rfl ?_
        refine tg_get (v := .ref (h 10)) S tw_v3 hK 0 rfl rfl 9 (by decide) (tw_in fl_RX3_38 rfl) dX3_links_49 rfl ?_
        refine tg_iload_n S 1 dX3_links_52 rfl rfl ?_
        refine tg_iload_n S 2 dX3_links_53 rfl rfl ?_
        refine tg_iconst (v := -1) S dX3_links_54 (by decide) ?_
        refine tg_icmp_eq (tgt := 67) S dX3_links_55 (by decide) (fun _ => ?_) (fun c => absurd (by decide) c)
        refine tg_iconst (v := -1) S dX3_links_67 (by decide) ?_
        refine tg_goto (tgt := 72) S dX3_links_68 (by decide) ?_
        refine tg_iast (σ2 := tg_upA σ 9 (upd lk i (-1))) S hK (tw_MD hd) 10 0 rfl rfl dX3_links_72 (tg_in hi_i (by decide)) (by rw [tg_cl (Nat.lt_trans hi_i (by decide))]; exact (tw_Ms9 (upd lk i (-1))).trans rfl) ?_
        refine tg_iinc (v := nI (i + 1)) (L' := [(0, .ref (h 0)), (1, .int (nI (i + 1))), (2, .int (-1))]) [1, 0, 2] S 1 dX3_links_73 rfl (tg_inc _) (by decide) rfl ?_
        refine tg_goto (tgt := 23) S dX3_links_76 (by decide) ?_
        refine tg_sub (L' := [(0, .ref (h 0)), (1, .int (nI (i + 1)))]) [0, 1] rfl ?_
        have e_2 : fb_l2 (σ 0) (σ 1) (σ 2) (σ 7) (σ 8) i lk = upd lk i (-1) := (by first | (simp [fb_l2, fb_toldK, c_1]; done) | (simp only [fb_l2, fb_toldK, if_pos c_1]; done))
        rw [e_2] at hk_i
        exact hk_i
      · skip
        refine tg_aload_n S 0 dX3_links_38 rfl rfl ?_
        refine tg_iload_n S 1 dX3_links_39 rfl rfl ?_
        refine tg_callV (nA := 1) (As := [.int (nI i)]) (rest := []) (q := (RX3, TX3, 16)) S hK hN (k_X3_toldParent hd (tg_upA σ 9 lk) (nI i) (tg_in hi_i (by decide))) 0 rfl rfl (tw_gV ml_RX3_61 im_X3_toldParent se_X3_toldParent in_RX3 co_X3_toldParent rfl) rfl (by decide +kernel) ⟨Nat.le_of_ble_eq_true rfl, Nat.le_of_ble_eq_true rfl⟩ rfl rfl (Nat.le_of_ble_eq_true rfl) dX3_links_40 ⟨Nat.le_of_ble_eq_true rfl, Nat.le_of_ble_eq_true rfl⟩ ?_
        refine tg_w (σ2 := tg_upA σ 9 lk) rfl ?_
        refine tg_eq (σ2 := tg_upA σ 9 lk) (L2 := [(0, .ref (h 0)), (1, .int (nI i))]) (st2 := [.int (fb_told (σ 0) (σ 1) (σ 2) (σ 7) (nI i))]) rfl rfl rfl ?_
        refine tg_goto (tgt := 47) S dX3_links_43 (by decide) ?_
        refine tg_istore_n (L' := [(0, .ref (h 0)), (1, .int (nI i)), (2, .int (fb_told (σ 0) (σ 1) (σ 2) (σ 7) (nI i)))]) [1, 2, 0] S dX3_links_47 rfl (by decide) rfl ?_
        refine tg_aload_n S 0 dX3_links_48 rfl rfl ?_
        refine tg_get (v := .ref (h 10)) S tw_v3 hK 0 rfl rfl 9 (by decide) (tw_in fl_RX3_38 rfl) dX3_links_49 rfl ?_
        refine tg_iload_n S 1 dX3_links_52 rfl rfl ?_
        refine tg_iload_n S 2 dX3_links_53 rfl rfl ?_
        refine tg_iconst (v := -1) S dX3_links_54 (by decide) ?_
        refine tg_icmp_eq (tgt := 67) S dX3_links_55 (by decide) (fun c_3 => ?_) (fun c_3 => ?_)
        · skip
          refine tg_iconst (v := -1) S dX3_links_67 (by decide) ?_
          refine tg_goto (tgt := 72) S dX3_links_68 (by decide) ?_
          refine tg_iast (σ2 := tg_upA σ 9 (upd lk i (-1))) S hK (tw_MD hd) 10 0 rfl rfl dX3_links_72 (tg_in hi_i (by decide)) (by rw [tg_cl (Nat.lt_trans hi_i (by decide))]; exact (tw_Ms9 (upd lk i (-1))).trans rfl) ?_
          refine tg_iinc (v := nI (i + 1)) (L' := [(0, .ref (h 0)), (1, .int (nI (i + 1))), (2, .int (fb_told (σ 0) (σ 1) (σ 2) (σ 7) (nI i)))]) [1, 0, 2] S 1 dX3_links_73 rfl (tg_inc _) (by decide) rfl ?_
          refine tg_goto (tgt := 23) S dX3_links_76 (by decide) ?_
          refine tg_sub (L' := [(0, .ref (h 0)), (1, .int (nI (i + 1)))]) [0, 1] rfl ?_
          have e_3 : fb_l2 (σ 0) (σ 1) (σ 2) (σ 7) (σ 8) i lk = upd lk i (-1) := (by first | (simp [fb_l2, fb_toldK, c_1, c_3]; done) | (simp only [fb_l2, fb_toldK, if_neg c_1, if_pos c_3]; done))
          rw [e_3] at hk_i
          exact hk_i
        · skip
          refine tg_aload_n S 0 dX3_links_58 rfl rfl ?_
          refine tg_iload_n S 2 dX3_links_59 rfl rfl ?_
          refine tg_iload_n S 1 dX3_links_60 rfl rfl ?_
          refine tg_callV (nA := 2) (As := [.int (fb_told (σ 0) (σ 1) (σ 2) (σ 7) (nI i)), .int (nI i)]) (rest := [.int (nI i), .ref (h 10)]) (q := (RX3, TX3, 16)) S hK hN (k_X3_isBelow hd (tg_upA σ 9 lk) (fb_told (σ 0) (σ 1) (σ 2) (σ 7) (nI i)) (nI i) (by have h9 := hT i hi_i (by simp [fb_toldK, c_1, c_3]); rw [← hI_i] at h9; simp only [fb_toldK, if_neg c_1, if_neg c_3] at h9; exact h9)) 0 rfl rfl (tw_gV ml_RX3_65 im_X3_isBelow se_X3_isBelow in_RX3 co_X3_isBelow rfl) rfl (by decide +kernel) ⟨Nat.le_of_ble_eq_true rfl, Nat.le_of_ble_eq_true rfl⟩ rfl rfl (Nat.le_of_ble_eq_true rfl) dX3_links_61 ⟨Nat.le_of_ble_eq_true rfl, Nat.le_of_ble_eq_true rfl⟩ ?_
          refine tg_w (σ2 := tg_upA σ 9 lk) rfl ?_
          refine tg_eq (σ2 := tg_upA σ 9 lk) (L2 := [(0, .ref (h 0)), (1, .int (nI i)), (2, .int (fb_told (σ 0) (σ 1) (σ 2) (σ 7) (nI i)))]) (st2 := [.int (tg_b (fb_bel (lk) (fb_told (σ 0) (σ 1) (σ 2) (σ 7) (nI i)) (nI i))), .int (nI i), .ref (h 10)]) rfl rfl rfl ?_
          refine tg_ifz (tgt := 71) S dX3_links_64 (by decide) (fun c_4 => ?_) (fun c_4 => ?_)
          · skip
            refine tg_iload_n S 2 dX3_links_71 rfl rfl ?_
            refine tg_iast (σ2 := tg_upA σ 9 (upd lk i (fb_told (σ 0) (σ 1) (σ 2) (σ 7) (nI i)))) S hK (tw_MD hd) 10 0 rfl rfl dX3_links_72 (tg_in hi_i (by decide)) (by rw [tg_cl (Nat.lt_trans hi_i (by decide))]; exact (tw_Ms9 (upd lk i (fb_told (σ 0) (σ 1) (σ 2) (σ 7) (nI i)))).trans rfl) ?_
            refine tg_iinc (v := nI (i + 1)) (L' := [(0, .ref (h 0)), (1, .int (nI (i + 1))), (2, .int (fb_told (σ 0) (σ 1) (σ 2) (σ 7) (nI i)))]) [1, 0, 2] S 1 dX3_links_73 rfl (tg_inc _) (by decide) rfl ?_
            refine tg_goto (tgt := 23) S dX3_links_76 (by decide) ?_
            refine tg_sub (L' := [(0, .ref (h 0)), (1, .int (nI (i + 1)))]) [0, 1] rfl ?_
            have e_4 : fb_l2 (σ 0) (σ 1) (σ 2) (σ 7) (σ 8) i lk = upd lk i (fb_told (σ 0) (σ 1) (σ 2) (σ 7) (nI i)) := (by first | (simp [fb_l2, fb_toldK, c_1, c_3, c_4]; done) | (simp only [fb_l2, fb_toldK, if_neg c_1, if_neg c_3, if_neg (ne_true_of_eq_false c_4)]; done))
            rw [e_4] at hk_i
            exact hk_i
          · skip
            refine tg_iconst (v := -1) S dX3_links_67 (by decide) ?_
            refine tg_goto (tgt := 72) S dX3_links_68 (by decide) ?_
            refine tg_iast (σ2 := tg_upA σ 9 (upd lk i (-1))) S hK (tw_MD hd) 10 0 rfl rfl dX3_links_72 (tg_in hi_i (by decide)) (by rw [tg_cl (Nat.lt_trans hi_i (by decide))]; exact (tw_Ms9 (upd lk i (-1))).trans rfl) ?_
            refine tg_iinc (v := nI (i + 1)) (L' := [(0, .ref (h 0)), (1, .int (nI (i + 1))), (2, .int (fb_told (σ 0) (σ 1) (σ 2) (σ 7) (nI i)))]) [1, 0, 2] S 1 dX3_links_73 rfl (tg_inc _) (by decide) rfl ?_
            refine tg_goto (tgt := 23) S dX3_links_76 (by decide) ?_
            refine tg_sub (L' := [(0, .ref (h 0)), (1, .int (nI (i + 1)))]) [0, 1] rfl ?_
            have e_5 : fb_l2 (σ 0) (σ 1) (σ 2) (σ 7) (σ 8) i lk = upd lk i (-1) := (by first | (simp [fb_l2, fb_toldK, c_1, c_3, c_4]; done) | (simp only [fb_l2, fb_toldK, if_neg c_1, if_neg c_3, if_pos c_4]; done))
            rw [e_5] at hk_i
            exact hk_i
    · skip
      intro hE_i
      refine tg_iload_n S 1 dX3_links_23 rfl rfl ?_
      refine tg_bipush (v := 30) S dX3_links_24 (by decide) ?_
      refine tg_icmp_ge (tgt := 79) S dX3_links_26 (by decide) (fun _ => ?_) (fun c => absurd tg_ge c)
      refine tg_w (σ2 := tg_upA σ 9 (fb_link (σ 0) (σ 1) (σ 2) (σ 7) (σ 8) (σ 9))) rfl ?_
      exact tg_vret S hr hlk dX3_links_79 rfl
set_option maxHeartbeats 4000000 in
set_option maxRecDepth 100000 in
theorem k_X3_isAlone {l : Launch} {D : va_G} {h : Nat → Nat} {cI cZ : ClassId} (hd : tw_dis 15 h) (σ : tg_Mem) (x : Int32) (hx : vp_in x 30) : tg_CT l yX3_isAlone wzX3_isAlone (tg_rm 0) (tw_M h cI cZ) (tw_ty cI cZ) [] (tw_A 15 h) D [.ref (h 0), .int x] σ (some (.int (tg_b (fb_alone (σ 0) (σ 10) x)))) σ := by
  refine tg_met (own := RX3) (cc := cX3_isAlone) (maxL := 2) (ret := (some .boolean)) (by decide +kernel) rfl rfl (Nat.le_of_ble_eq_true rfl) ?_
  intro p e s m below meth c S hK hN hr hlk
  refine tg_sub (L' := [(0, .ref (h 0)), (1, .int x)]) [0, 1] rfl ?_
  refine tg_aload_n S 0 dX3_isAlone_0 rfl rfl ?_
  refine tg_get (v := .ref (h 1)) S tw_v3 hK 0 rfl rfl 0 (by decide) (tw_in fl_RX3_7 rfl) dX3_isAlone_1 rfl ?_
  refine tg_iload_n S 1 dX3_isAlone_4 rfl rfl ?_
  refine tg_zald (v := σ 0 x.toNatClampNeg) S hK 1 1 rfl rfl dX3_isAlone_5 hx rfl ?_
  refine tg_if_eq (tgt := 23) S dX3_isAlone_6 (by decide) (fun c_1 => ?_) (fun c_1 => ?_)
  · skip
    refine tg_iconst (v := 0) S dX3_isAlone_23 (by decide) ?_
    exact tg_zret (b := false) S hr hlk dX3_isAlone_24 (congrArg tg_b (by simp [fb_alone, c_1])) rfl
  · skip
    refine tg_aload_n S 0 dX3_isAlone_9 rfl rfl ?_
    refine tg_get (v := .ref (h 11)) S tw_v3 hK 0 rfl rfl 10 (by decide) (tw_in fl_RX3_41 rfl) dX3_isAlone_10 rfl ?_
    refine tg_iload_n S 1 dX3_isAlone_13 rfl rfl ?_
    refine tg_iald (v := σ 10 x.toNatClampNeg) S hK 11 0 rfl rfl dX3_isAlone_14 hx rfl ?_
    refine tg_iconst (v := -1) S dX3_isAlone_15 (by decide) ?_
    refine tg_icmp_ne (tgt := 23) S dX3_isAlone_16 (by decide) (fun c_2 => ?_) (fun c_2 => ?_)
    · skip
      refine tg_iconst (v := 0) S dX3_isAlone_23 (by decide) ?_
      exact tg_zret (b := false) S hr hlk dX3_isAlone_24 (congrArg tg_b (by simp [fb_alone, c_1, c_2])) rfl
    · skip
      refine tg_iconst (v := 1) S dX3_isAlone_19 (by decide) ?_
      refine tg_goto (tgt := 24) S dX3_isAlone_20 (by decide) ?_
      exact tg_zret (b := true) S hr hlk dX3_isAlone_24 (congrArg tg_b (by simp [fb_alone, c_1, c_2])) rfl
set_option maxHeartbeats 4000000 in
set_option maxRecDepth 100000 in
theorem k_X3_isAhead {l : Launch} {D : va_G} {h : Nat → Nat} {cI cZ : ClassId} (hd : tw_dis 15 h) (σ : tg_Mem) (x : Int32) (y : Int32) (hx : vp_in x 30) (hy : vp_in y 30) : tg_CT l yX3_isAhead wzX3_isAhead (tg_rm 0) (tw_M h cI cZ) (tw_ty cI cZ) [] (tw_A 15 h) D [.ref (h 0), .int x, .int y] σ (some (.int (tg_b (fb_ahead (σ 4) x y)))) σ := by
  refine tg_met (own := RX3) (cc := cX3_isAhead) (maxL := 3) (ret := (some .boolean)) (by decide +kernel) rfl rfl (Nat.le_of_ble_eq_true rfl) ?_
  intro p e s m below meth c S hK hN hr hlk
  refine tg_sub (L' := [(0, .ref (h 0)), (1, .int x), (2, .int y)]) [0, 1, 2] rfl ?_
  refine tg_aload_n S 0 dX3_isAhead_0 rfl rfl ?_
  refine tg_get (v := .ref (h 5)) S tw_v3 hK 0 rfl rfl 4 (by decide) (tw_in fl_RX3_23 rfl) dX3_isAhead_1 rfl ?_
  refine tg_iload_n S 1 dX3_isAhead_4 rfl rfl ?_
  refine tg_iald (v := σ 4 x.toNatClampNeg) S hK 5 0 rfl rfl dX3_isAhead_5 hx rfl ?_
  refine tg_aload_n S 0 dX3_isAhead_6 rfl rfl ?_
  refine tg_get (v := .ref (h 5)) S tw_v3 hK 0 rfl rfl 4 (by decide) (tw_in fl_RX3_23 rfl) dX3_isAhead_7 rfl ?_
  refine tg_iload_n S 2 dX3_isAhead_10 rfl rfl ?_
  refine tg_iald (v := σ 4 y.toNatClampNeg) S hK 5 0 rfl rfl dX3_isAhead_11 hy rfl ?_
  refine tg_icmp_lt (tgt := 35) S dX3_isAhead_12 (by decide) (fun c_1 => ?_) (fun c_1 => ?_)
  · skip
    refine tg_iconst (v := 1) S dX3_isAhead_35 (by decide) ?_
    refine tg_goto (tgt := 40) S dX3_isAhead_36 (by decide) ?_
    exact tg_zret (b := true) S hr hlk dX3_isAhead_40 (congrArg tg_b (by simp [fb_ahead, c_1])) rfl
  · skip
    refine tg_aload_n S 0 dX3_isAhead_15 rfl rfl ?_
    refine tg_get (v := .ref (h 5)) S tw_v3 hK 0 rfl rfl 4 (by decide) (tw_in fl_RX3_23 rfl) dX3_isAhead_16 rfl ?_
    refine tg_iload_n S 1 dX3_isAhead_19 rfl rfl ?_
    refine tg_iald (v := σ 4 x.toNatClampNeg) S hK 5 0 rfl rfl dX3_isAhead_20 hx rfl ?_
    refine tg_aload_n S 0 dX3_isAhead_21 rfl rfl ?_
    refine tg_get (v := .ref (h 5)) S tw_v3 hK 0 rfl rfl 4 (by decide) (tw_in fl_RX3_23 rfl) dX3_isAhead_22 rfl ?_
    refine tg_iload_n S 2 dX3_isAhead_25 rfl rfl ?_
    refine tg_iald (v := σ 4 y.toNatClampNeg) S hK 5 0 rfl rfl dX3_isAhead_26 hy rfl ?_
    refine tg_icmp_ne (tgt := 39) S dX3_isAhead_27 (by decide) (fun c_2 => ?_) (fun c_2 => ?_)
    · skip
      refine tg_iconst (v := 0) S dX3_isAhead_39 (by decide) ?_
      exact tg_zret (b := false) S hr hlk dX3_isAhead_40 (congrArg tg_b (by simp [fb_ahead, c_1, c_2])) rfl
    · skip
      refine tg_iload_n S 1 dX3_isAhead_30 rfl rfl ?_
      refine tg_iload_n S 2 dX3_isAhead_31 rfl rfl ?_
      refine tg_icmp_ge (tgt := 39) S dX3_isAhead_32 (by decide) (fun c_3 => ?_) (fun c_3 => ?_)
      · skip
        refine tg_iconst (v := 0) S dX3_isAhead_39 (by decide) ?_
        exact tg_zret (b := false) S hr hlk dX3_isAhead_40 (congrArg tg_b (by simp [fb_ahead, c_1, c_2, c_3])) rfl
      · skip
        refine tg_iconst (v := 1) S dX3_isAhead_35 (by decide) ?_
        refine tg_goto (tgt := 40) S dX3_isAhead_36 (by decide) ?_
        exact tg_zret (b := true) S hr hlk dX3_isAhead_40 (congrArg tg_b (by simp [fb_ahead, c_1, c_2, c_3])) rfl
set_option maxHeartbeats 4000000 in
set_option maxRecDepth 100000 in
theorem k_X3_rootsNow {l : Launch} {D : va_G} {h : Nat → Nat} {cI cZ : ClassId} (hd : tw_dis 15 h) (σ : tg_Mem)  : tg_CT l yX3_rootsNow wzX3_rootsNow (tg_rm 0) (tw_M h cI cZ) (tw_ty cI cZ) [] (tw_A 15 h) D [.ref (h 0)] σ (some (.int (fb_rn (σ 11) (σ 10)))) σ := by
  refine tg_met (own := RX3) (cc := cX3_rootsNow) (maxL := 3) (ret := (some .int)) (by decide +kernel) rfl rfl (Nat.le_of_ble_eq_true rfl) ?_
  intro p e s m below meth c S hK hN hr hlk
  refine tg_sub (L' := [(0, .ref (h 0))]) [0] rfl ?_
  refine tg_iconst (v := 0) S dX3_rootsNow_0 (by decide) ?_
  refine tg_istore_n (L' := [(0, .ref (h 0)), (1, .int 0)]) [1, 0] S dX3_rootsNow_1 rfl (by decide) rfl ?_
  refine tg_iconst (v := nI 0) S dX3_rootsNow_2 (by decide) ?_
  refine tg_istore_n (L' := [(0, .ref (h 0)), (1, .int 0), (2, .int (nI 0))]) [1, 2, 0] S dX3_rootsNow_3 rfl (by decide) rfl ?_
  refine tg_loop (X := Int32) (fb_rnS (σ 11) (σ 10)) 30 0 (fun b => σ) (fun i b => [(0, .ref (h 0)), (1, .int b), (2, .int (nI i))]) ?_ ?_
  · skip
    intro i b hi_i hk_i
    refine tg_iload_n S 2 dX3_rootsNow_4 rfl rfl ?_
    refine tg_bipush (v := 30) S dX3_rootsNow_5 (by decide) ?_
    refine tg_icmp_ge (tgt := 43) S dX3_rootsNow_7 (by decide) (fun c => absurd c (tg_nge hi_i)) (fun _ => ?_)
    refine tg_iload_n S 1 dX3_rootsNow_10 rfl rfl ?_
    refine tg_aload_n S 0 dX3_rootsNow_11 rfl rfl ?_
    refine tg_get (v := .ref (h 12)) S tw_v3 hK 0 rfl rfl 11 (by decide) (tw_in fl_RX3_44 rfl) dX3_rootsNow_12 rfl ?_
    refine tg_iload_n S 2 dX3_rootsNow_15 rfl rfl ?_
    refine tg_zald (v := σ 11 i) S hK 12 1 rfl rfl dX3_rootsNow_16 (tg_in hi_i (by decide)) (congrArg ((σ 11)) (tg_cl (Nat.lt_trans hi_i (by decide)))) ?_
    refine tg_if_eq (tgt := 34) S dX3_rootsNow_17 (by decide) (fun c_1 => ?_) (fun c_1 => ?_)
    · skip
      refine tg_iconst (v := 0) S dX3_rootsNow_34 (by decide) ?_
      refine tg_iadd S dX3_rootsNow_35 ?_
      refine tg_istore_n (L' := [(0, .ref (h 0)), (1, .int (b + 0)), (2, .int (nI i))]) [1, 0, 2] S dX3_rootsNow_36 rfl (by decide) rfl ?_
      refine tg_iinc (v := nI (i + 1)) (L' := [(0, .ref (h 0)), (1, .int (b + 0)), (2, .int (nI (i + 1)))]) [1, 2, 0] S 2 dX3_rootsNow_37 rfl (tg_inc _) (by decide) rfl ?_
      refine tg_goto (tgt := 4) S dX3_rootsNow_40 (by decide) ?_
      have e_1 : fb_rnS (σ 11) (σ 10) i b = b + 0 := (by first | (simp [fb_rnS, c_1]; done) | (simp only [fb_rnS, if_pos c_1]; done))
      rw [e_1] at hk_i
      exact hk_i
    · skip
      refine tg_aload_n S 0 dX3_rootsNow_20 rfl rfl ?_
      refine tg_get (v := .ref (h 11)) S tw_v3 hK 0 rfl rfl 10 (by decide) (tw_in fl_RX3_41 rfl) dX3_rootsNow_21 rfl ?_
      refine tg_iload_n S 2 dX3_rootsNow_24 rfl rfl ?_
      refine tg_iald (v := σ 10 i) S hK 11 0 rfl rfl dX3_rootsNow_25 (tg_in hi_i (by decide)) (congrArg ((σ 10)) (tg_cl (Nat.lt_trans hi_i (by decide)))) ?_
      refine tg_iconst (v := -1) S dX3_rootsNow_26 (by decide) ?_
      refine tg_icmp_ne (tgt := 34) S dX3_rootsNow_27 (by decide) (fun c_2 => ?_) (fun c_2 => ?_)
      · skip
        refine tg_iconst (v := 0) S dX3_rootsNow_34 (by decide) ?_
        refine tg_iadd S dX3_rootsNow_35 ?_
        refine tg_istore_n (L' := [(0, .ref (h 0)), (1, .int (b + 0)), (2, .int (nI i))]) [1, 0, 2] S dX3_rootsNow_36 rfl (by decide) rfl ?_
        refine tg_iinc (v := nI (i + 1)) (L' := [(0, .ref (h 0)), (1, .int (b + 0)), (2, .int (nI (i + 1)))]) [1, 2, 0] S 2 dX3_rootsNow_37 rfl (tg_inc _) (by decide) rfl ?_
        refine tg_goto (tgt := 4) S dX3_rootsNow_40 (by decide) ?_
        have e_2 : fb_rnS (σ 11) (σ 10) i b = b + 0 := (by first | (simp [fb_rnS, c_1, c_2]; done) | (simp only [fb_rnS, if_neg c_1, if_neg c_2]; done))
        rw [e_2] at hk_i
        exact hk_i
      · skip
        refine tg_iconst (v := 1) S dX3_rootsNow_30 (by decide) ?_
        refine tg_goto (tgt := 35) S dX3_rootsNow_31 (by decide) ?_
        refine tg_iadd S dX3_rootsNow_35 ?_
        refine tg_istore_n (L' := [(0, .ref (h 0)), (1, .int (b + 1)), (2, .int (nI i))]) [1, 0, 2] S dX3_rootsNow_36 rfl (by decide) rfl ?_
        refine tg_iinc (v := nI (i + 1)) (L' := [(0, .ref (h 0)), (1, .int (b + 1)), (2, .int (nI (i + 1)))]) [1, 2, 0] S 2 dX3_rootsNow_37 rfl (tg_inc _) (by decide) rfl ?_
        refine tg_goto (tgt := 4) S dX3_rootsNow_40 (by decide) ?_
        have e_3 : fb_rnS (σ 11) (σ 10) i b = b + 1 := (by first | (simp [fb_rnS, c_1, c_2]; done) | (simp only [fb_rnS, if_neg c_1, if_pos c_2]; done))
        rw [e_3] at hk_i
        exact hk_i
  · skip
    refine tg_iload_n S 2 dX3_rootsNow_4 rfl rfl ?_
    refine tg_bipush (v := 30) S dX3_rootsNow_5 (by decide) ?_
    refine tg_icmp_ge (tgt := 43) S dX3_rootsNow_7 (by decide) (fun _ => ?_) (fun c => absurd tg_ge c)
    refine tg_iload_n S 1 dX3_rootsNow_43 rfl rfl ?_
    exact tg_iret S hr hlk dX3_rootsNow_44 (by simp [fb_rn]) rfl
set_option maxHeartbeats 4000000 in
set_option maxRecDepth 100000 in
theorem k_X3_forest {l : Launch} {D : va_G} {h : Nat → Nat} {cI cZ : ClassId} (hd : tw_dis 15 h) (σ : tg_Mem)  (H : fb_hyp (σ 0) (σ 1) (σ 2) (σ 7) (σ 8) (σ 9)) : tg_CT l yX3_forest wzX3_forest (tg_rm 2) (tw_M h cI cZ) (tw_ty cI cZ) [] (tw_A 15 h) D [.ref (h 0)] σ none (fb_forest σ) := by
  refine tg_met (own := RX3) (cc := cX3_forest) (maxL := 5) (ret := none) (by decide +kernel) rfl rfl (Nat.le_of_ble_eq_true rfl) ?_
  intro p e s m below meth c S hK hN hr hlk
  obtain ⟨h1, h2, h7, hT, hA⟩ := id H
  refine tg_sub (L' := [(0, .ref (h 0))]) [0] rfl ?_
  refine tg_aload_n S 0 dX3_forest_0 rfl rfl ?_
  refine tg_callV (nA := 0) (As := []) (rest := []) (q := (RX3, TX3, 16)) S hK hN (k_X3_knows hd σ h1 h2 h7) 0 rfl rfl (tw_gV ml_RX3_69 im_X3_knows se_X3_knows in_RX3 co_X3_knows rfl) rfl (by decide +kernel) ⟨Nat.le_of_ble_eq_true rfl, Nat.le_of_ble_eq_true rfl⟩ rfl rfl (Nat.le_of_ble_eq_true rfl) dX3_forest_1 ⟨Nat.le_of_ble_eq_true rfl, Nat.le_of_ble_eq_true rfl⟩ ?_
  refine tg_w (σ2 := tg_upA σ 8 (fb_known (σ 0) (σ 1) (σ 2) (σ 7) (σ 8))) rfl ?_
  refine tg_w (σ2 := tg_upA σ 8 (fb_K σ)) rfl ?_
  refine tg_aload_n S 0 dX3_forest_4 rfl rfl ?_
  refine tg_callV (nA := 0) (As := []) (rest := []) (q := (RX3, TX3, 16)) S hK hN (k_X3_links hd (tg_upA σ 8 (fb_K σ)) hT) 0 rfl rfl (tw_gV ml_RX3_72 im_X3_links se_X3_links in_RX3 co_X3_links rfl) rfl (by decide +kernel) ⟨Nat.le_of_ble_eq_true rfl, Nat.le_of_ble_eq_true rfl⟩ rfl rfl (Nat.le_of_ble_eq_true rfl) dX3_forest_5 ⟨Nat.le_of_ble_eq_true rfl, Nat.le_of_ble_eq_true rfl⟩ ?_
  refine tg_w (σ2 := tg_upA (tg_upA σ 8 (fb_K σ)) 9 (fb_link (σ 0) (σ 1) (σ 2) (σ 7) (fb_K σ) (σ 9))) rfl ?_
  refine tg_w (σ2 := tg_upA (tg_upA σ 8 (fb_K σ)) 9 (fb_L σ)) rfl ?_
  refine tg_iconst (v := nI 0) S dX3_forest_8 (by decide) ?_
  refine tg_istore_n (L' := [(0, .ref (h 0)), (1, .int (nI 0))]) [1, 0] S dX3_forest_9 rfl (by decide) rfl ?_
  refine tg_w (σ2 := tg_upA (tg_upA (tg_upA σ 8 (fb_K σ)) 9 (fb_L σ)) 10 (σ 10)) rfl ?_
  refine tg_loop (X := tb_A) (fb_a0 (σ 0) (fb_L σ)) 30 (σ 10) (fun α => tg_upA (tg_upA (tg_upA σ 8 (fb_K σ)) 9 (fb_L σ)) 10 α) (fun i α => [(0, .ref (h 0)), (1, .int (nI i))]) ?_ ?_
  · skip
    intro i α hi_i hk_i
    refine tg_iload_n S 1 dX3_forest_10 rfl rfl ?_
    refine tg_bipush (v := 30) S dX3_forest_11 (by decide) ?_
    refine tg_icmp_ge (tgt := 106) S dX3_forest_13 (by decide) (fun c => absurd c (tg_nge hi_i)) (fun _ => ?_)
    refine tg_aload_n S 0 dX3_forest_16 rfl rfl ?_
    refine tg_get (v := .ref (h 11)) S tw_v3 hK 0 rfl rfl 10 (by decide) (tw_in fl_RX3_41 rfl) dX3_forest_17 rfl ?_
    refine tg_iload_n S 1 dX3_forest_20 rfl rfl ?_
    refine tg_aload_n S 0 dX3_forest_21 rfl rfl ?_
    refine tg_get (v := .ref (h 1)) S tw_v3 hK 0 rfl rfl 0 (by decide) (tw_in fl_RX3_7 rfl) dX3_forest_22 rfl ?_
    refine tg_iload_n S 1 dX3_forest_25 rfl rfl ?_
    refine tg_zald (v := σ 0 i) S hK 1 1 rfl rfl dX3_forest_26 (tg_in hi_i (by decide)) (congrArg ((σ 0)) (tg_cl (Nat.lt_trans hi_i (by decide)))) ?_
    refine tg_if_eq (tgt := 39) S dX3_forest_27 (by decide) (fun c_1 => ?_) (fun c_1 => ?_)
    · skip
      refine tg_iconst (v := -1) S dX3_forest_39 (by decide) ?_
      refine tg_iast (σ2 := tg_upA (tg_upA (tg_upA σ 8 (fb_K σ)) 9 (fb_L σ)) 10 (upd α i (-1))) S hK (tw_MD hd) 11 0 rfl rfl dX3_forest_40 (tg_in hi_i (by decide)) (by rw [tg_cl (Nat.lt_trans hi_i (by decide))]; exact (tw_Ms10 (upd α i (-1))).trans rfl) ?_
      refine tg_while (v := fb_abv (σ 0) (fb_L σ) (-1)) (X := Int32) (fb_abvF (σ 0) (fb_L σ)) 31 (-1) (fun a => tg_upA (tg_upA (tg_upA σ 8 (fb_K σ)) 9 (fb_L σ)) 10 (upd α i a)) (fun a => [(0, .ref (h 0)), (1, .int (nI i))]) (fun _ => rfl) (by have h9 := hA i hi_i; simp only [if_pos c_1] at h9; exact h9) ?_
      intro n1 a hF_a hk_a
      refine tg_aload_n S 0 dX3_forest_41 rfl rfl ?_
      refine tg_get (v := .ref (h 11)) S tw_v3 hK 0 rfl rfl 10 (by decide) (tw_in fl_RX3_41 rfl) dX3_forest_42 rfl ?_
      refine tg_iload_n S 1 dX3_forest_45 rfl rfl ?_
      refine tg_iald (v := a) S hK 11 0 rfl rfl dX3_forest_46 (tg_in hi_i (by decide)) (by simp [tg_set, tg_upA, upd, (tg_cl (Nat.lt_trans hi_i (by decide)))]) ?_
      refine tg_iconst (v := -1) S dX3_forest_47 (by decide) ?_
      refine tg_icmp_eq (tgt := 100) S dX3_forest_48 (by decide) (fun c_2 => ?_) (fun c_2 => ?_)
      · skip
        refine tg_iinc (v := nI (i + 1)) (L' := [(0, .ref (h 0)), (1, .int (nI (i + 1)))]) [1, 0] S 1 dX3_forest_100 rfl (tg_inc _) (by decide) rfl ?_
        refine tg_goto (tgt := 10) S dX3_forest_103 (by decide) ?_
        have hx_1 : fb_abv (σ 0) (fb_L σ) (-1) = a := by
          revert hF_a
          generalize fb_abv (σ 0) (fb_L σ) (-1) = w9
          intro h9
          simp [fb_abvF, c_1, c_2] at h9
          first | exact h9.symm | (rw [c_1]; exact h9.symm) | (rw [c_2]; exact h9.symm)
        have e_1 : fb_a0 (σ 0) (fb_L σ) i α = upd α i a := (by unfold fb_a0; simp only [if_pos c_1]; rw [hx_1])
        rw [e_1] at hk_i
        exact hk_i
      · skip
        refine tg_aload_n S 0 dX3_forest_51 rfl rfl ?_
        refine tg_get (v := .ref (h 1)) S tw_v3 hK 0 rfl rfl 0 (by decide) (tw_in fl_RX3_7 rfl) dX3_forest_52 rfl ?_
        refine tg_aload_n S 0 dX3_forest_55 rfl rfl ?_
        refine tg_get (v := .ref (h 11)) S tw_v3 hK 0 rfl rfl 10 (by decide) (tw_in fl_RX3_41 rfl) dX3_forest_56 rfl ?_
        refine tg_iload_n S 1 dX3_forest_59 rfl rfl ?_
        refine tg_iald (v := a) S hK 11 0 rfl rfl dX3_forest_60 (tg_in hi_i (by decide)) (by simp [tg_set, tg_upA, upd, (tg_cl (Nat.lt_trans hi_i (by decide)))]) ?_
        have v_2 : fa_id a = true := by
          cases hh : fa_id a with
          | true => rfl
          | false => simp [fb_abvF, c_1, c_2, hh] at hF_a
        refine tg_zald (v := σ 0 a.toNatClampNeg) S hK 1 1 rfl rfl dX3_forest_61 (fa_id_in v_2) rfl ?_
        refine tg_if_ne (tgt := 100) S dX3_forest_62 (by decide) (fun c_3 => ?_) (fun c_3 => ?_)
        · skip
          refine tg_iinc (v := nI (i + 1)) (L' := [(0, .ref (h 0)), (1, .int (nI (i + 1)))]) [1, 0] S 1 dX3_forest_100 rfl (tg_inc _) (by decide) rfl ?_
          refine tg_goto (tgt := 10) S dX3_forest_103 (by decide) ?_
          have hx_1 : fb_abv (σ 0) (fb_L σ) (-1) = a := by
            revert hF_a
            generalize fb_abv (σ 0) (fb_L σ) (-1) = w9
            intro h9
            simp [fb_abvF, c_1, c_2, v_2, c_3] at h9
            first | exact h9.symm | (rw [c_1]; exact h9.symm) | (rw [c_2]; exact h9.symm) | (rw [c_3]; exact h9.symm)
          have e_3 : fb_a0 (σ 0) (fb_L σ) i α = upd α i a := (by unfold fb_a0; simp only [if_pos c_1]; rw [hx_1])
          rw [e_3] at hk_i
          exact hk_i
        · skip
          refine tg_aload_n S 0 dX3_forest_65 rfl rfl ?_
          refine tg_get (v := .ref (h 10)) S tw_v3 hK 0 rfl rfl 9 (by decide) (tw_in fl_RX3_38 rfl) dX3_forest_66 rfl ?_
          refine tg_aload_n S 0 dX3_forest_69 rfl rfl ?_
          refine tg_get (v := .ref (h 11)) S tw_v3 hK 0 rfl rfl 10 (by decide) (tw_in fl_RX3_41 rfl) dX3_forest_70 rfl ?_
          refine tg_iload_n S 1 dX3_forest_73 rfl rfl ?_
          refine tg_iald (v := a) S hK 11 0 rfl rfl dX3_forest_74 (tg_in hi_i (by decide)) (by simp [tg_set, tg_upA, upd, (tg_cl (Nat.lt_trans hi_i (by decide)))]) ?_
          refine tg_iald (v := (fb_L σ) a.toNatClampNeg) S hK 10 0 rfl rfl dX3_forest_75 (fa_id_in v_2) rfl ?_
          refine tg_iconst (v := -1) S dX3_forest_76 (by decide) ?_
          refine tg_icmp_eq (tgt := 100) S dX3_forest_77 (by decide) (fun c_4 => ?_) (fun c_4 => ?_)
          · skip
            refine tg_iinc (v := nI (i + 1)) (L' := [(0, .ref (h 0)), (1, .int (nI (i + 1)))]) [1, 0] S 1 dX3_forest_100 rfl (tg_inc _) (by decide) rfl ?_
            refine tg_goto (tgt := 10) S dX3_forest_103 (by decide) ?_
            have hx_1 : fb_abv (σ 0) (fb_L σ) (-1) = a := by
              revert hF_a
              generalize fb_abv (σ 0) (fb_L σ) (-1) = w9
              intro h9
              simp [fb_abvF, c_1, c_2, v_2, c_3, c_4] at h9
              first | exact h9.symm | (rw [c_1]; exact h9.symm) | (rw [c_2]; exact h9.symm) | (rw [c_3]; exact h9.symm) | (rw [c_4]; exact h9.symm)
            have e_4 : fb_a0 (σ 0) (fb_L σ) i α = upd α i a := (by unfold fb_a0; simp only [if_pos c_1]; rw [hx_1])
            rw [e_4] at hk_i
            exact hk_i
          · skip
            refine tg_aload_n S 0 dX3_forest_80 rfl rfl ?_
            refine tg_get (v := .ref (h 11)) S tw_v3 hK 0 rfl rfl 10 (by decide) (tw_in fl_RX3_41 rfl) dX3_forest_81 rfl ?_
            refine tg_iload_n S 1 dX3_forest_84 rfl rfl ?_
            refine tg_aload_n S 0 dX3_forest_85 rfl rfl ?_
            refine tg_get (v := .ref (h 10)) S tw_v3 hK 0 rfl rfl 9 (by decide) (tw_in fl_RX3_38 rfl) dX3_forest_86 rfl ?_
            refine tg_aload_n S 0 dX3_forest_89 rfl rfl ?_
            refine tg_get (v := .ref (h 11)) S tw_v3 hK 0 rfl rfl 10 (by decide) (tw_in fl_RX3_41 rfl) dX3_forest_90 rfl ?_
            refine tg_iload_n S 1 dX3_forest_93 rfl rfl ?_
            refine tg_iald (v := a) S hK 11 0 rfl rfl dX3_forest_94 (tg_in hi_i (by decide)) (by simp [tg_set, tg_upA, upd, (tg_cl (Nat.lt_trans hi_i (by decide)))]) ?_
            refine tg_iald (v := (fb_L σ) a.toNatClampNeg) S hK 10 0 rfl rfl dX3_forest_95 (fa_id_in v_2) rfl ?_
            refine tg_iast (σ2 := tg_upA (tg_upA (tg_upA σ 8 (fb_K σ)) 9 (fb_L σ)) 10 (upd α i ((fb_L σ) a.toNatClampNeg))) S hK (tw_MD hd) 11 0 rfl rfl dX3_forest_96 (tg_in hi_i (by decide)) (by rw [tg_cl (Nat.lt_trans hi_i (by decide))]; exact congrArg (fun zz => tw_M h cI cZ (tg_upA (tg_upA (tg_upA σ 8 (fb_K σ)) 9 (fb_L σ)) 10 zz)) (tg_uu α i a ((fb_L σ) a.toNatClampNeg))) ?_
            refine tg_goto (tgt := 41) S dX3_forest_97 (by decide) ?_
            exact hk_a ((fb_L σ) a.toNatClampNeg) (by have h9 := hF_a; simp only [fb_abvF, if_pos c_1, if_neg c_2, if_pos v_2, if_pos c_3, if_neg c_4] at h9; exact h9)
    · skip
      refine tg_aload_n S 0 dX3_forest_30 rfl rfl ?_
      refine tg_get (v := .ref (h 10)) S tw_v3 hK 0 rfl rfl 9 (by decide) (tw_in fl_RX3_38 rfl) dX3_forest_31 rfl ?_
      refine tg_iload_n S 1 dX3_forest_34 rfl rfl ?_
      refine tg_iald (v := (fb_L σ) i) S hK 10 0 rfl rfl dX3_forest_35 (tg_in hi_i (by decide)) (congrArg ((fb_L σ)) (tg_cl (Nat.lt_trans hi_i (by decide)))) ?_
      refine tg_goto (tgt := 40) S dX3_forest_36 (by decide) ?_
      refine tg_iast (σ2 := tg_upA (tg_upA (tg_upA σ 8 (fb_K σ)) 9 (fb_L σ)) 10 (upd α i ((fb_L σ) i))) S hK (tw_MD hd) 11 0 rfl rfl dX3_forest_40 (tg_in hi_i (by decide)) (by rw [tg_cl (Nat.lt_trans hi_i (by decide))]; exact (tw_Ms10 (upd α i ((fb_L σ) i))).trans rfl) ?_
      refine tg_while (v := fb_abv (σ 0) (fb_L σ) (fb_L σ i)) (X := Int32) (fb_abvF (σ 0) (fb_L σ)) 31 ((fb_L σ) i) (fun a => tg_upA (tg_upA (tg_upA σ 8 (fb_K σ)) 9 (fb_L σ)) 10 (upd α i a)) (fun a => [(0, .ref (h 0)), (1, .int (nI i))]) (fun _ => rfl) (by have h9 := hA i hi_i; simp only [if_neg c_1] at h9; exact h9) ?_
      intro n1 a hF_a hk_a
      refine tg_aload_n S 0 dX3_forest_41 rfl rfl ?_
      refine tg_get (v := .ref (h 11)) S tw_v3 hK 0 rfl rfl 10 (by decide) (tw_in fl_RX3_41 rfl) dX3_forest_42 rfl ?_
      refine tg_iload_n S 1 dX3_forest_45 rfl rfl ?_
      refine tg_iald (v := a) S hK 11 0 rfl rfl dX3_forest_46 (tg_in hi_i (by decide)) (by simp [tg_set, tg_upA, upd, (tg_cl (Nat.lt_trans hi_i (by decide)))]) ?_
      refine tg_iconst (v := -1) S dX3_forest_47 (by decide) ?_
      refine tg_icmp_eq (tgt := 100) S dX3_forest_48 (by decide) (fun c_5 => ?_) (fun c_5 => ?_)
      · skip
        refine tg_iinc (v := nI (i + 1)) (L' := [(0, .ref (h 0)), (1, .int (nI (i + 1)))]) [1, 0] S 1 dX3_forest_100 rfl (tg_inc _) (by decide) rfl ?_
        refine tg_goto (tgt := 10) S dX3_forest_103 (by decide) ?_
        have hx_1 : fb_abv (σ 0) (fb_L σ) (fb_L σ i) = a := by
          revert hF_a
          generalize fb_abv (σ 0) (fb_L σ) (fb_L σ i) = w9
          intro h9
          simp [fb_abvF, c_1, c_5] at h9
          first | exact h9.symm | (rw [c_1]; exact h9.symm) | (rw [c_5]; exact h9.symm)
        have e_6 : fb_a0 (σ 0) (fb_L σ) i α = upd α i a := (by unfold fb_a0; simp only [if_neg c_1]; rw [hx_1])
        rw [e_6] at hk_i
        exact hk_i
      · skip
        refine tg_aload_n S 0 dX3_forest_51 rfl rfl ?_
        refine tg_get (v := .ref (h 1)) S tw_v3 hK 0 rfl rfl 0 (by decide) (tw_in fl_RX3_7 rfl) dX3_forest_52 rfl ?_
        refine tg_aload_n S 0 dX3_forest_55 rfl rfl ?_
        refine tg_get (v := .ref (h 11)) S tw_v3 hK 0 rfl rfl 10 (by decide) (tw_in fl_RX3_41 rfl) dX3_forest_56 rfl ?_
        refine tg_iload_n S 1 dX3_forest_59 rfl rfl ?_
        refine tg_iald (v := a) S hK 11 0 rfl rfl dX3_forest_60 (tg_in hi_i (by decide)) (by simp [tg_set, tg_upA, upd, (tg_cl (Nat.lt_trans hi_i (by decide)))]) ?_
        have v_7 : fa_id a = true := by
          cases hh : fa_id a with
          | true => rfl
          | false => simp [fb_abvF, c_1, c_5, hh] at hF_a
        refine tg_zald (v := σ 0 a.toNatClampNeg) S hK 1 1 rfl rfl dX3_forest_61 (fa_id_in v_7) rfl ?_
        refine tg_if_ne (tgt := 100) S dX3_forest_62 (by decide) (fun c_6 => ?_) (fun c_6 => ?_)
        · skip
          refine tg_iinc (v := nI (i + 1)) (L' := [(0, .ref (h 0)), (1, .int (nI (i + 1)))]) [1, 0] S 1 dX3_forest_100 rfl (tg_inc _) (by decide) rfl ?_
          refine tg_goto (tgt := 10) S dX3_forest_103 (by decide) ?_
          have hx_1 : fb_abv (σ 0) (fb_L σ) (fb_L σ i) = a := by
            revert hF_a
            generalize fb_abv (σ 0) (fb_L σ) (fb_L σ i) = w9
            intro h9
            simp [fb_abvF, c_1, c_5, v_7, c_6] at h9
            first | exact h9.symm | (rw [c_1]; exact h9.symm) | (rw [c_5]; exact h9.symm) | (rw [c_6]; exact h9.symm)
          have e_8 : fb_a0 (σ 0) (fb_L σ) i α = upd α i a := (by unfold fb_a0; simp only [if_neg c_1]; rw [hx_1])
          rw [e_8] at hk_i
          exact hk_i
        · skip
          refine tg_aload_n S 0 dX3_forest_65 rfl rfl ?_
          refine tg_get (v := .ref (h 10)) S tw_v3 hK 0 rfl rfl 9 (by decide) (tw_in fl_RX3_38 rfl) dX3_forest_66 rfl ?_
          refine tg_aload_n S 0 dX3_forest_69 rfl rfl ?_
          refine tg_get (v := .ref (h 11)) S tw_v3 hK 0 rfl rfl 10 (by decide) (tw_in fl_RX3_41 rfl) dX3_forest_70 rfl ?_
          refine tg_iload_n S 1 dX3_forest_73 rfl rfl ?_
          refine tg_iald (v := a) S hK 11 0 rfl rfl dX3_forest_74 (tg_in hi_i (by decide)) (by simp [tg_set, tg_upA, upd, (tg_cl (Nat.lt_trans hi_i (by decide)))]) ?_
          refine tg_iald (v := (fb_L σ) a.toNatClampNeg) S hK 10 0 rfl rfl dX3_forest_75 (fa_id_in v_7) rfl ?_
          refine tg_iconst (v := -1) S dX3_forest_76 (by decide) ?_
          refine tg_icmp_eq (tgt := 100) S dX3_forest_77 (by decide) (fun c_7 => ?_) (fun c_7 => ?_)
          · skip
            refine tg_iinc (v := nI (i + 1)) (L' := [(0, .ref (h 0)), (1, .int (nI (i + 1)))]) [1, 0] S 1 dX3_forest_100 rfl (tg_inc _) (by decide) rfl ?_
            refine tg_goto (tgt := 10) S dX3_forest_103 (by decide) ?_
            have hx_1 : fb_abv (σ 0) (fb_L σ) (fb_L σ i) = a := by
              revert hF_a
              generalize fb_abv (σ 0) (fb_L σ) (fb_L σ i) = w9
              intro h9
              simp [fb_abvF, c_1, c_5, v_7, c_6, c_7] at h9
              first | exact h9.symm | (rw [c_1]; exact h9.symm) | (rw [c_5]; exact h9.symm) | (rw [c_6]; exact h9.symm) | (rw [c_7]; exact h9.symm)
            have e_9 : fb_a0 (σ 0) (fb_L σ) i α = upd α i a := (by unfold fb_a0; simp only [if_neg c_1]; rw [hx_1])
            rw [e_9] at hk_i
            exact hk_i
          · skip
            refine tg_aload_n S 0 dX3_forest_80 rfl rfl ?_
            refine tg_get (v := .ref (h 11)) S tw_v3 hK 0 rfl rfl 10 (by decide) (tw_in fl_RX3_41 rfl) dX3_forest_81 rfl ?_
            refine tg_iload_n S 1 dX3_forest_84 rfl rfl ?_
            refine tg_aload_n S 0 dX3_forest_85 rfl rfl ?_
            refine tg_get (v := .ref (h 10)) S tw_v3 hK 0 rfl rfl 9 (by decide) (tw_in fl_RX3_38 rfl) dX3_forest_86 rfl ?_
            refine tg_aload_n S 0 dX3_forest_89 rfl rfl ?_
            refine tg_get (v := .ref (h 11)) S tw_v3 hK 0 rfl rfl 10 (by decide) (tw_in fl_RX3_41 rfl) dX3_forest_90 rfl ?_
            refine tg_iload_n S 1 dX3_forest_93 rfl rfl ?_
            refine tg_iald (v := a) S hK 11 0 rfl rfl dX3_forest_94 (tg_in hi_i (by decide)) (by simp [tg_set, tg_upA, upd, (tg_cl (Nat.lt_trans hi_i (by decide)))]) ?_
            refine tg_iald (v := (fb_L σ) a.toNatClampNeg) S hK 10 0 rfl rfl dX3_forest_95 (fa_id_in v_7) rfl ?_
            refine tg_iast (σ2 := tg_upA (tg_upA (tg_upA σ 8 (fb_K σ)) 9 (fb_L σ)) 10 (upd α i ((fb_L σ) a.toNatClampNeg))) S hK (tw_MD hd) 11 0 rfl rfl dX3_forest_96 (tg_in hi_i (by decide)) (by rw [tg_cl (Nat.lt_trans hi_i (by decide))]; exact congrArg (fun zz => tw_M h cI cZ (tg_upA (tg_upA (tg_upA σ 8 (fb_K σ)) 9 (fb_L σ)) 10 zz)) (tg_uu α i a ((fb_L σ) a.toNatClampNeg))) ?_
            refine tg_goto (tgt := 41) S dX3_forest_97 (by decide) ?_
            exact hk_a ((fb_L σ) a.toNatClampNeg) (by have h9 := hF_a; simp only [fb_abvF, if_neg c_1, if_neg c_5, if_pos v_7, if_pos c_6, if_neg c_7] at h9; exact h9)
  · skip
    refine tg_w (σ2 := tg_upA (tg_upA (tg_upA σ 8 (fb_K σ)) 9 (fb_L σ)) 10 (fb_A0 σ)) rfl ?_
    refine tg_sub (L' := [(0, .ref (h 0)), (1, .int (nI 30))]) [0, 1] rfl ?_
    refine tg_iload_n S 1 dX3_forest_10 rfl rfl ?_
    refine tg_bipush (v := 30) S dX3_forest_11 (by decide) ?_
    refine tg_icmp_ge (tgt := 106) S dX3_forest_13 (by decide) (fun _ => ?_) (fun c => absurd tg_ge c)
    refine tg_iconst (v := nI 0) S dX3_forest_106 (by decide) ?_
    refine tg_istore_n (L' := [(0, .ref (h 0)), (1, .int (nI 0))]) [1, 0] S dX3_forest_107 rfl (by decide) rfl ?_
    refine tg_w (σ2 := tg_upA (tg_upA (tg_upA (tg_upA σ 8 (fb_K σ)) 9 (fb_L σ)) 10 (fb_A0 σ)) 11 (σ 11)) rfl ?_
    refine tg_loop (X := tb_A × tb_A) (fb_b (σ 0)) 30 ((fb_A0 σ), σ 11) (fun q => tg_upA (tg_upA (tg_upA (tg_upA σ 8 (fb_K σ)) 9 (fb_L σ)) 10 q.1) 11 q.2) (fun i q => [(0, .ref (h 0)), (1, .int (nI i))]) ?_ ?_
    · skip
      intro i q hi_i hk_i
      refine tg_iload_n S 1 dX3_forest_108 rfl rfl ?_
      refine tg_bipush (v := 30) S dX3_forest_109 (by decide) ?_
      refine tg_icmp_ge (tgt := 223) S dX3_forest_111 (by decide) (fun c => absurd c (tg_nge hi_i)) (fun _ => ?_)
      refine tg_iconst (v := nI 0) S dX3_forest_114 (by decide) ?_
      refine tg_istore_n (L' := [(0, .ref (h 0)), (1, .int (nI i)), (2, .int (nI 0))]) [1, 2, 0] S dX3_forest_115 rfl (by decide) rfl ?_
      refine tg_iconst (v := -1) S dX3_forest_116 (by decide) ?_
      refine tg_istore_n (L' := [(0, .ref (h 0)), (1, .int (nI i)), (2, .int (nI 0)), (3, .int (-1))]) [1, 2, 3, 0] S dX3_forest_117 rfl (by decide) rfl ?_
      refine tg_iconst (v := nI 0) S dX3_forest_118 (by decide) ?_
      refine tg_istore (L' := [(0, .ref (h 0)), (1, .int (nI i)), (2, .int (nI 0)), (3, .int (-1)), (4, .int (nI 0))]) [1, 2, 3, 4, 0] S dX3_forest_119 (by decide) rfl ?_
      refine tg_loopI (X := Int32 × Int32) (fun j p1 => p1.1 = 0 ∨ vp_in p1.2 30) (fb_cnt q.1 (nI i)) 30 (nI 0, -1) (fun p1 => tg_upA (tg_upA (tg_upA (tg_upA σ 8 (fb_K σ)) 9 (fb_L σ)) 10 q.1) 11 q.2) (fun j p1 => [(0, .ref (h 0)), (1, .int (nI i)), (2, .int p1.1), (3, .int p1.2), (4, .int (nI j))]) (Or.inl rfl) (fun j x hj h => fb_cnt_in hj h) ?_ ?_
      · skip
        intro j p1 hi_j hI_j hk_j
        refine tg_iload S 4 dX3_forest_121 rfl ?_
        refine tg_bipush (v := 30) S dX3_forest_123 (by decide) ?_
        refine tg_icmp_ge (tgt := 171) S dX3_forest_125 (by decide) (fun c => absurd c (tg_nge hi_j)) (fun _ => ?_)
        refine tg_iload_n S 2 dX3_forest_128 rfl rfl ?_
        refine tg_aload_n S 0 dX3_forest_129 rfl rfl ?_
        refine tg_get (v := .ref (h 11)) S tw_v3 hK 0 rfl rfl 10 (by decide) (tw_in fl_RX3_41 rfl) dX3_forest_130 rfl ?_
        refine tg_iload S 4 dX3_forest_133 rfl ?_
        refine tg_iald (v := q.1 j) S hK 11 0 rfl rfl dX3_forest_135 (tg_in hi_j (by decide)) (congrArg (q.1) (tg_cl (Nat.lt_trans hi_j (by decide)))) ?_
        refine tg_iload_n S 1 dX3_forest_136 rfl rfl ?_
        refine tg_icmp_ne (tgt := 144) S dX3_forest_137 (by decide) (fun c_8 => ?_) (fun c_8 => ?_)
        · skip
          refine tg_iconst (v := 0) S dX3_forest_144 (by decide) ?_
          refine tg_iadd S dX3_forest_145 ?_
          refine tg_istore_n (L' := [(0, .ref (h 0)), (1, .int (nI i)), (2, .int (p1.1 + 0)), (3, .int p1.2), (4, .int (nI j))]) [1, 2, 0, 3, 4] S dX3_forest_146 rfl (by decide) rfl ?_
          refine tg_aload_n S 0 dX3_forest_147 rfl rfl ?_
          refine tg_get (v := .ref (h 11)) S tw_v3 hK 0 rfl rfl 10 (by decide) (tw_in fl_RX3_41 rfl) dX3_forest_148 rfl ?_
          refine tg_iload S 4 dX3_forest_151 rfl ?_
          refine tg_iald (v := q.1 j) S hK 11 0 rfl rfl dX3_forest_153 (tg_in hi_j (by decide)) (congrArg (q.1) (tg_cl (Nat.lt_trans hi_j (by decide)))) ?_
          refine tg_iload_n S 1 dX3_forest_154 rfl rfl ?_
          refine tg_icmp_ne (tgt := 163) S dX3_forest_155 (by decide) (fun _ => ?_) (fun c => absurd c c_8)
          refine tg_iload_n S 3 dX3_forest_163 rfl rfl ?_
          refine tg_istore_n (L' := [(0, .ref (h 0)), (1, .int (nI i)), (2, .int (p1.1 + 0)), (3, .int p1.2), (4, .int (nI j))]) [1, 2, 3, 0, 4] S dX3_forest_164 rfl (by decide) rfl ?_
          refine tg_iinc (v := nI (j + 1)) (L' := [(0, .ref (h 0)), (1, .int (nI i)), (2, .int (p1.1 + 0)), (3, .int p1.2), (4, .int (nI (j + 1)))]) [1, 2, 3, 4, 0] S 4 dX3_forest_165 rfl (tg_inc _) (by decide) rfl ?_
          refine tg_goto (tgt := 121) S dX3_forest_168 (by decide) ?_
          have e_11 : fb_cnt q.1 (nI i) j p1 = (p1.1 + 0, p1.2) := (by first | (simp [fb_cnt, c_8]; done) | (simp only [fb_cnt, if_neg c_8]; done))
          rw [e_11] at hk_j
          exact hk_j
        · skip
          refine tg_iconst (v := 1) S dX3_forest_140 (by decide) ?_
          refine tg_goto (tgt := 145) S dX3_forest_141 (by decide) ?_
          refine tg_iadd S dX3_forest_145 ?_
          refine tg_istore_n (L' := [(0, .ref (h 0)), (1, .int (nI i)), (2, .int (p1.1 + 1)), (3, .int p1.2), (4, .int (nI j))]) [1, 2, 0, 3, 4] S dX3_forest_146 rfl (by decide) rfl ?_
          refine tg_aload_n S 0 dX3_forest_147 rfl rfl ?_
          refine tg_get (v := .ref (h 11)) S tw_v3 hK 0 rfl rfl 10 (by decide) (tw_in fl_RX3_41 rfl) dX3_forest_148 rfl ?_
          refine tg_iload S 4 dX3_forest_151 rfl ?_
          refine tg_iald (v := q.1 j) S hK 11 0 rfl rfl dX3_forest_153 (tg_in hi_j (by decide)) (congrArg (q.1) (tg_cl (Nat.lt_trans hi_j (by decide)))) ?_
          refine tg_iload_n S 1 dX3_forest_154 rfl rfl ?_
          refine tg_icmp_ne (tgt := 163) S dX3_forest_155 (by decide) (fun c => absurd c_8 c) (fun _ => ?_)
          refine tg_iload S 4 dX3_forest_158 rfl ?_
          refine tg_goto (tgt := 164) S dX3_forest_160 (by decide) ?_
          refine tg_istore_n (L' := [(0, .ref (h 0)), (1, .int (nI i)), (2, .int (p1.1 + 1)), (3, .int (nI j)), (4, .int (nI j))]) [1, 2, 3, 0, 4] S dX3_forest_164 rfl (by decide) rfl ?_
          refine tg_iinc (v := nI (j + 1)) (L' := [(0, .ref (h 0)), (1, .int (nI i)), (2, .int (p1.1 + 1)), (3, .int (nI j)), (4, .int (nI (j + 1)))]) [1, 2, 3, 4, 0] S 4 dX3_forest_165 rfl (tg_inc _) (by decide) rfl ?_
          refine tg_goto (tgt := 121) S dX3_forest_168 (by decide) ?_
          have e_12 : fb_cnt q.1 (nI i) j p1 = (p1.1 + 1, nI j) := (by first | (simp [fb_cnt, c_8]; done) | (simp only [fb_cnt, if_pos c_8]; done))
          rw [e_12] at hk_j
          exact hk_j
      · skip
        intro hE_j
        refine tg_w (σ2 := tg_upA (tg_upA (tg_upA (tg_upA σ 8 (fb_K σ)) 9 (fb_L σ)) 10 q.1) 11 q.2) rfl ?_
        refine tg_sub (L' := [(0, .ref (h 0)), (1, .int (nI i)), (2, .int ((fb_bN q.1 (nI i)).1)), (3, .int ((fb_bN q.1 (nI i)).2)), (4, .int (nI 30))]) [0, 1, 2, 3, 4] rfl ?_
        refine tg_iload S 4 dX3_forest_121 rfl ?_
        refine tg_bipush (v := 30) S dX3_forest_123 (by decide) ?_
        refine tg_icmp_ge (tgt := 171) S dX3_forest_125 (by decide) (fun _ => ?_) (fun c => absurd tg_ge c)
        refine tg_aload_n S 0 dX3_forest_171 rfl rfl ?_
        refine tg_get (v := .ref (h 12)) S tw_v3 hK 0 rfl rfl 11 (by decide) (tw_in fl_RX3_44 rfl) dX3_forest_172 rfl ?_
        refine tg_iload_n S 1 dX3_forest_175 rfl rfl ?_
        refine tg_aload_n S 0 dX3_forest_176 rfl rfl ?_
        refine tg_get (v := .ref (h 1)) S tw_v3 hK 0 rfl rfl 0 (by decide) (tw_in fl_RX3_7 rfl) dX3_forest_177 rfl ?_
        refine tg_iload_n S 1 dX3_forest_180 rfl rfl ?_
        refine tg_zald (v := σ 0 i) S hK 1 1 rfl rfl dX3_forest_181 (tg_in hi_i (by decide)) (congrArg ((σ 0)) (tg_cl (Nat.lt_trans hi_i (by decide)))) ?_
        refine tg_if_ne (tgt := 190) S dX3_forest_182 (by decide) (fun c_9 => ?_) (fun c_9 => ?_)
        · skip
          refine tg_iconst (v := 1) S dX3_forest_190 (by decide) ?_
          refine tg_goto (tgt := 195) S dX3_forest_191 (by decide) ?_
          refine tg_zast (b := true) (σ2 := tg_upA (tg_upA (tg_upA (tg_upA σ 8 (fb_K σ)) 9 (fb_L σ)) 10 q.1) 11 (upd q.2 i 1)) S hK (tw_MD hd) 12 1 rfl rfl dX3_forest_195 (tg_in hi_i (by decide)) (by rw [tg_cl (Nat.lt_trans hi_i (by decide))]; exact (tw_Ms11 (upd q.2 i 1)).trans rfl) ?_
          refine tg_aload_n S 0 dX3_forest_196 rfl rfl ?_
          refine tg_get (v := .ref (h 1)) S tw_v3 hK 0 rfl rfl 0 (by decide) (tw_in fl_RX3_7 rfl) dX3_forest_197 rfl ?_
          refine tg_iload_n S 1 dX3_forest_200 rfl rfl ?_
          refine tg_zald (v := σ 0 i) S hK 1 1 rfl rfl dX3_forest_201 (tg_in hi_i (by decide)) (congrArg ((σ 0)) (tg_cl (Nat.lt_trans hi_i (by decide)))) ?_
          refine tg_if_ne (tgt := 217) S dX3_forest_202 (by decide) (fun _ => ?_) (fun c => absurd c c_9)
          refine tg_iinc (v := nI (i + 1)) (L' := [(0, .ref (h 0)), (1, .int (nI (i + 1))), (2, .int ((fb_bN q.1 (nI i)).1)), (3, .int ((fb_bN q.1 (nI i)).2)), (4, .int (nI 30))]) [1, 0, 2, 3, 4] S 1 dX3_forest_217 rfl (tg_inc _) (by decide) rfl ?_
          refine tg_goto (tgt := 108) S dX3_forest_220 (by decide) ?_
          refine tg_sub (L' := [(0, .ref (h 0)), (1, .int (nI (i + 1)))]) [0, 1] rfl ?_
          have e_13 : fb_b (σ 0) i q = (q.1, upd q.2 i 1) := (by first | (simp [fb_b, tg_b, c_9]; done) | (simp only [fb_b, tg_b, if_neg c_9]; done) | exact absurd (show (fb_bN q.1 (nI i)).1 ≤ 1 by rw [c_9]; decide) h)
          rw [e_13] at hk_i
          exact hk_i
        · skip
          refine tg_iload_n S 2 dX3_forest_185 rfl rfl ?_
          refine tg_iconst (v := 1) S dX3_forest_186 (by decide) ?_
          refine tg_icmp_le (tgt := 194) S dX3_forest_187 (by decide) (fun c_10 => ?_) (fun c_10 => ?_)
          · skip
            refine tg_iconst (v := 0) S dX3_forest_194 (by decide) ?_
            refine tg_zast (b := false) (σ2 := tg_upA (tg_upA (tg_upA (tg_upA σ 8 (fb_K σ)) 9 (fb_L σ)) 10 q.1) 11 (upd q.2 i 0)) S hK (tw_MD hd) 12 1 rfl rfl dX3_forest_195 (tg_in hi_i (by decide)) (by rw [tg_cl (Nat.lt_trans hi_i (by decide))]; exact (tw_Ms11 (upd q.2 i 0)).trans rfl) ?_
            refine tg_aload_n S 0 dX3_forest_196 rfl rfl ?_
            refine tg_get (v := .ref (h 1)) S tw_v3 hK 0 rfl rfl 0 (by decide) (tw_in fl_RX3_7 rfl) dX3_forest_197 rfl ?_
            refine tg_iload_n S 1 dX3_forest_200 rfl rfl ?_
            refine tg_zald (v := σ 0 i) S hK 1 1 rfl rfl dX3_forest_201 (tg_in hi_i (by decide)) (congrArg ((σ 0)) (tg_cl (Nat.lt_trans hi_i (by decide)))) ?_
            refine tg_if_ne (tgt := 217) S dX3_forest_202 (by decide) (fun c => absurd c_9 c) (fun _ => ?_)
            refine tg_iload_n S 2 dX3_forest_205 rfl rfl ?_
            refine tg_iconst (v := 1) S dX3_forest_206 (by decide) ?_
            refine tg_icmp_ne (tgt := 217) S dX3_forest_207 (by decide) (fun c_11 => ?_) (fun c_11 => ?_)
            · skip
              refine tg_iinc (v := nI (i + 1)) (L' := [(0, .ref (h 0)), (1, .int (nI (i + 1))), (2, .int ((fb_bN q.1 (nI i)).1)), (3, .int ((fb_bN q.1 (nI i)).2)), (4, .int (nI 30))]) [1, 0, 2, 3, 4] S 1 dX3_forest_217 rfl (tg_inc _) (by decide) rfl ?_
              refine tg_goto (tgt := 108) S dX3_forest_220 (by decide) ?_
              refine tg_sub (L' := [(0, .ref (h 0)), (1, .int (nI (i + 1)))]) [0, 1] rfl ?_
              have e_14 : fb_b (σ 0) i q = (q.1, upd q.2 i 0) := (by first | (simp [fb_b, tg_b, c_9, c_10, c_11]; done) | (simp only [fb_b, tg_b, if_pos c_9, if_pos c_10, if_neg c_11]; done) | exact absurd (show (fb_bN q.1 (nI i)).1 ≤ 1 by rw [c_11]; decide) c_10)
              rw [e_14] at hk_i
              exact hk_i
            · skip
              refine tg_aload_n S 0 dX3_forest_210 rfl rfl ?_
              refine tg_get (v := .ref (h 11)) S tw_v3 hK 0 rfl rfl 10 (by decide) (tw_in fl_RX3_41 rfl) dX3_forest_211 rfl ?_
              refine tg_iload_n S 3 dX3_forest_214 rfl rfl ?_
              refine tg_iconst (v := -1) S dX3_forest_215 (by decide) ?_
              refine tg_iast (σ2 := tg_upA (tg_upA (tg_upA (tg_upA σ 8 (fb_K σ)) 9 (fb_L σ)) 10 (upd q.1 ((fb_bN q.1 (nI i)).2).toNatClampNeg (-1))) 11 (upd q.2 i 0)) S hK (tw_MD hd) 11 0 rfl rfl dX3_forest_216 (hE_j.resolve_left (fun h0 => absurd (h0.symm.trans c_11) (by decide))) ((tw_Ms10 (upd q.1 ((fb_bN q.1 (nI i)).2).toNatClampNeg (-1))).trans rfl) ?_
              refine tg_iinc (v := nI (i + 1)) (L' := [(0, .ref (h 0)), (1, .int (nI (i + 1))), (2, .int ((fb_bN q.1 (nI i)).1)), (3, .int ((fb_bN q.1 (nI i)).2)), (4, .int (nI 30))]) [1, 0, 2, 3, 4] S 1 dX3_forest_217 rfl (tg_inc _) (by decide) rfl ?_
              refine tg_goto (tgt := 108) S dX3_forest_220 (by decide) ?_
              refine tg_sub (L' := [(0, .ref (h 0)), (1, .int (nI (i + 1)))]) [0, 1] rfl ?_
              have e_15 : fb_b (σ 0) i q = (upd q.1 ((fb_bN q.1 (nI i)).2).toNatClampNeg (-1), upd q.2 i 0) := (by first | (simp [fb_b, tg_b, c_9, c_10, c_11]; done) | (simp only [fb_b, tg_b, if_pos c_9, if_pos c_10, if_pos c_11]; done) | exact absurd (show (fb_bN q.1 (nI i)).1 ≤ 1 by rw [c_11]; decide) c_10)
              rw [e_15] at hk_i
              exact hk_i
          · skip
            refine tg_iconst (v := 1) S dX3_forest_190 (by decide) ?_
            refine tg_goto (tgt := 195) S dX3_forest_191 (by decide) ?_
            refine tg_zast (b := true) (σ2 := tg_upA (tg_upA (tg_upA (tg_upA σ 8 (fb_K σ)) 9 (fb_L σ)) 10 q.1) 11 (upd q.2 i 1)) S hK (tw_MD hd) 12 1 rfl rfl dX3_forest_195 (tg_in hi_i (by decide)) (by rw [tg_cl (Nat.lt_trans hi_i (by decide))]; exact (tw_Ms11 (upd q.2 i 1)).trans rfl) ?_
            refine tg_aload_n S 0 dX3_forest_196 rfl rfl ?_
            refine tg_get (v := .ref (h 1)) S tw_v3 hK 0 rfl rfl 0 (by decide) (tw_in fl_RX3_7 rfl) dX3_forest_197 rfl ?_
            refine tg_iload_n S 1 dX3_forest_200 rfl rfl ?_
            refine tg_zald (v := σ 0 i) S hK 1 1 rfl rfl dX3_forest_201 (tg_in hi_i (by decide)) (congrArg ((σ 0)) (tg_cl (Nat.lt_trans hi_i (by decide)))) ?_
            refine tg_if_ne (tgt := 217) S dX3_forest_202 (by decide) (fun c => absurd c_9 c) (fun _ => ?_)
            refine tg_iload_n S 2 dX3_forest_205 rfl rfl ?_
            refine tg_iconst (v := 1) S dX3_forest_206 (by decide) ?_
            refine tg_icmp_ne (tgt := 217) S dX3_forest_207 (by decide) (fun c_12 => ?_) (fun c_12 => ?_)
            · skip
              refine tg_iinc (v := nI (i + 1)) (L' := [(0, .ref (h 0)), (1, .int (nI (i + 1))), (2, .int ((fb_bN q.1 (nI i)).1)), (3, .int ((fb_bN q.1 (nI i)).2)), (4, .int (nI 30))]) [1, 0, 2, 3, 4] S 1 dX3_forest_217 rfl (tg_inc _) (by decide) rfl ?_
              refine tg_goto (tgt := 108) S dX3_forest_220 (by decide) ?_
              refine tg_sub (L' := [(0, .ref (h 0)), (1, .int (nI (i + 1)))]) [0, 1] rfl ?_
              have e_16 : fb_b (σ 0) i q = (q.1, upd q.2 i 1) := (by first | (simp [fb_b, tg_b, c_9, c_10, c_12]; done) | (simp only [fb_b, tg_b, if_pos c_9, if_neg c_10, if_neg c_12]; done) | exact absurd (show (fb_bN q.1 (nI i)).1 ≤ 1 by rw [c_12]; decide) c_10)
              rw [e_16] at hk_i
              exact hk_i
            · skip
              refine tg_aload_n S 0 dX3_forest_210 rfl rfl ?_
              refine tg_get (v := .ref (h 11)) S tw_v3 hK 0 rfl rfl 10 (by decide) (tw_in fl_RX3_41 rfl) dX3_forest_211 rfl ?_
              refine tg_iload_n S 3 dX3_forest_214 rfl rfl ?_
              refine tg_iconst (v := -1) S dX3_forest_215 (by decide) ?_
              refine tg_iast (σ2 := tg_upA (tg_upA (tg_upA (tg_upA σ 8 (fb_K σ)) 9 (fb_L σ)) 10 (upd q.1 ((fb_bN q.1 (nI i)).2).toNatClampNeg (-1))) 11 (upd q.2 i 1)) S hK (tw_MD hd) 11 0 rfl rfl dX3_forest_216 (hE_j.resolve_left (fun h0 => absurd (h0.symm.trans c_12) (by decide))) ((tw_Ms10 (upd q.1 ((fb_bN q.1 (nI i)).2).toNatClampNeg (-1))).trans rfl) ?_
              refine tg_iinc (v := nI (i + 1)) (L' := [(0, .ref (h 0)), (1, .int (nI (i + 1))), (2, .int ((fb_bN q.1 (nI i)).1)), (3, .int ((fb_bN q.1 (nI i)).2)), (4, .int (nI 30))]) [1, 0, 2, 3, 4] S 1 dX3_forest_217 rfl (tg_inc _) (by decide) rfl ?_
              refine tg_goto (tgt := 108) S dX3_forest_220 (by decide) ?_
              refine tg_sub (L' := [(0, .ref (h 0)), (1, .int (nI (i + 1)))]) [0, 1] rfl ?_
              have e_17 : fb_b (σ 0) i q = (upd q.1 ((fb_bN q.1 (nI i)).2).toNatClampNeg (-1), upd q.2 i 1) := (by first | (simp [fb_b, tg_b, c_9, c_10, c_12]; done) | (simp only [fb_b, tg_b, if_pos c_9, if_neg c_10, if_pos c_12]; done) | exact absurd (show (fb_bN q.1 (nI i)).1 ≤ 1 by rw [c_12]; decide) c_10)
              rw [e_17] at hk_i
              exact hk_i
    · skip
      refine tg_w (σ2 := tg_upA (tg_upA (tg_upA (tg_upA σ 8 (fb_K σ)) 9 (fb_L σ)) 10 ((fb_AG σ).1)) 11 ((fb_AG σ).2)) rfl ?_
      refine tg_sub (L' := [(0, .ref (h 0)), (1, .int (nI 30))]) [0, 1] rfl ?_
      refine tg_iload_n S 1 dX3_forest_108 rfl rfl ?_
      refine tg_bipush (v := 30) S dX3_forest_109 (by decide) ?_
      refine tg_icmp_ge (tgt := 223) S dX3_forest_111 (by decide) (fun _ => ?_) (fun c => absurd tg_ge c)
      refine tg_iconst (v := nI 0) S dX3_forest_223 (by decide) ?_
      refine tg_istore_n (L' := [(0, .ref (h 0)), (1, .int (nI 0))]) [1, 0] S dX3_forest_224 rfl (by decide) rfl ?_
      refine tg_w (σ2 := tg_upA (tg_upA (tg_upA (tg_upA (tg_upA σ 8 (fb_K σ)) 9 (fb_L σ)) 10 ((fb_AG σ).1)) 11 ((fb_AG σ).2)) 12 (σ 12)) rfl ?_
      refine tg_loop (X := tb_A) (fb_c (σ 0) ((fb_AG σ).1) (σ 3) (σ 4) (σ 7)) 30 (σ 12) (fun ω => tg_upA (tg_upA (tg_upA (tg_upA (tg_upA σ 8 (fb_K σ)) 9 (fb_L σ)) 10 ((fb_AG σ).1)) 11 ((fb_AG σ).2)) 12 ω) (fun i ω => [(0, .ref (h 0)), (1, .int (nI i))]) ?_ ?_
      · skip
        intro i ω hi_i hk_i
        refine tg_iload_n S 1 dX3_forest_225 rfl rfl ?_
        refine tg_bipush (v := 30) S dX3_forest_226 (by decide) ?_
        refine tg_icmp_ge (tgt := 403) S dX3_forest_228 (by decide) (fun c => absurd c (tg_nge hi_i)) (fun _ => ?_)
        refine tg_aload_n S 0 dX3_forest_231 rfl rfl ?_
        refine tg_get (v := .ref (h 13)) S tw_v3 hK 0 rfl rfl 12 (by decide) (tw_in fl_RX3_47 rfl) dX3_forest_232 rfl ?_
        refine tg_iload_n S 1 dX3_forest_235 rfl rfl ?_
        refine tg_iconst (v := -1) S dX3_forest_236 (by decide) ?_
        refine tg_iast (σ2 := tg_upA (tg_upA (tg_upA (tg_upA (tg_upA σ 8 (fb_K σ)) 9 (fb_L σ)) 10 ((fb_AG σ).1)) 11 ((fb_AG σ).2)) 12 (upd ω i (-1))) S hK (tw_MD hd) 13 0 rfl rfl dX3_forest_237 (tg_in hi_i (by decide)) (by rw [tg_cl (Nat.lt_trans hi_i (by decide))]; exact (tw_Ms12 (upd ω i (-1))).trans rfl) ?_
        refine tg_aload_n S 0 dX3_forest_238 rfl rfl ?_
        refine tg_iload_n S 1 dX3_forest_239 rfl rfl ?_
        refine tg_callV (nA := 1) (As := [.int (nI i)]) (rest := []) (q := (RX3, TX3, 16)) S hK hN (k_X3_isAlone hd (tg_upA (tg_upA (tg_upA (tg_upA (tg_upA σ 8 (fb_K σ)) 9 (fb_L σ)) 10 ((fb_AG σ).1)) 11 ((fb_AG σ).2)) 12 (upd ω i (-1))) (nI i) (tg_in hi_i (by decide))) 0 rfl rfl (tw_gV ml_RX3_75 im_X3_isAlone se_X3_isAlone in_RX3 co_X3_isAlone rfl) rfl (by decide +kernel) ⟨Nat.le_of_ble_eq_true rfl, Nat.le_of_ble_eq_true rfl⟩ rfl rfl (Nat.le_of_ble_eq_true rfl) dX3_forest_240 ⟨Nat.le_of_ble_eq_true rfl, Nat.le_of_ble_eq_true rfl⟩ ?_
        refine tg_w (σ2 := tg_upA (tg_upA (tg_upA (tg_upA (tg_upA σ 8 (fb_K σ)) 9 (fb_L σ)) 10 ((fb_AG σ).1)) 11 ((fb_AG σ).2)) 12 (upd ω i (-1))) rfl ?_
        refine tg_eq (σ2 := tg_upA (tg_upA (tg_upA (tg_upA (tg_upA σ 8 (fb_K σ)) 9 (fb_L σ)) 10 ((fb_AG σ).1)) 11 ((fb_AG σ).2)) 12 (upd ω i (-1))) (L2 := [(0, .ref (h 0)), (1, .int (nI i))]) (st2 := [.int (tg_b (fb_alone (σ 0) (((fb_AG σ).1)) (nI i)))]) rfl rfl rfl ?_
        refine tg_ifz (tgt := 397) S dX3_forest_243 (by decide) (fun c_13 => ?_) (fun c_13 => ?_)
        · skip
          refine tg_iinc (v := nI (i + 1)) (L' := [(0, .ref (h 0)), (1, .int (nI (i + 1)))]) [1, 0] S 1 dX3_forest_397 rfl (tg_inc _) (by decide) rfl ?_
          refine tg_goto (tgt := 225) S dX3_forest_400 (by decide) ?_
          have e_18 : fb_c (σ 0) ((fb_AG σ).1) (σ 3) (σ 4) (σ 7) i ω = upd ω i (-1) := (by first | (simp [fb_c, c_13]; done) | (simp only [fb_c, if_neg (ne_true_of_eq_false c_13)]; done))
          rw [e_18] at hk_i
          exact hk_i
        · skip
          refine tg_aload_n S 0 dX3_forest_246 rfl rfl ?_
          refine tg_get (v := .ref (h 4)) S tw_v3 hK 0 rfl rfl 3 (by decide) (tw_in fl_RX3_20 rfl) dX3_forest_247 rfl ?_
          refine tg_iload_n S 1 dX3_forest_250 rfl rfl ?_
          refine tg_iald (v := σ 3 i) S hK 4 0 rfl rfl dX3_forest_251 (tg_in hi_i (by decide)) (congrArg ((σ 3)) (tg_cl (Nat.lt_trans hi_i (by decide)))) ?_
          refine tg_bipush (v := 10) S dX3_forest_252 (by decide) ?_
          refine tg_icmp_lt (tgt := 397) S dX3_forest_254 (by decide) (fun c_14 => ?_) (fun c_14 => ?_)
          · skip
            refine tg_iinc (v := nI (i + 1)) (L' := [(0, .ref (h 0)), (1, .int (nI (i + 1)))]) [1, 0] S 1 dX3_forest_397 rfl (tg_inc _) (by decide) rfl ?_
            refine tg_goto (tgt := 225) S dX3_forest_400 (by decide) ?_
            have e_19 : fb_c (σ 0) ((fb_AG σ).1) (σ 3) (σ 4) (σ 7) i ω = upd ω i (-1) := (by first | (simp [fb_c, c_13, c_14]; done) | (simp only [fb_c, if_pos c_13, if_pos c_14]; done))
            rw [e_19] at hk_i
            exact hk_i
          · skip
            refine tg_aload_n S 0 dX3_forest_257 rfl rfl ?_
            refine tg_get (v := .ref (h 8)) S tw_v3 hK 0 rfl rfl 7 (by decide) (tw_in fl_RX3_32 rfl) dX3_forest_258 rfl ?_
            refine tg_iload_n S 1 dX3_forest_261 rfl rfl ?_
            refine tg_iald (v := σ 7 i) S hK 8 0 rfl rfl dX3_forest_262 (tg_in hi_i (by decide)) (congrArg ((σ 7)) (tg_cl (Nat.lt_trans hi_i (by decide)))) ?_
            refine tg_bipush (v := -2) S dX3_forest_263 (by decide) ?_
            refine tg_icmp_eq (tgt := 397) S dX3_forest_265 (by decide) (fun c_15 => ?_) (fun c_15 => ?_)
            · skip
              refine tg_iinc (v := nI (i + 1)) (L' := [(0, .ref (h 0)), (1, .int (nI (i + 1)))]) [1, 0] S 1 dX3_forest_397 rfl (tg_inc _) (by decide) rfl ?_
              refine tg_goto (tgt := 225) S dX3_forest_400 (by decide) ?_
              have e_20 : fb_c (σ 0) ((fb_AG σ).1) (σ 3) (σ 4) (σ 7) i ω = upd ω i (-1) := (by first | (simp [fb_c, c_13, c_14, c_15]; done) | (simp only [fb_c, if_pos c_13, if_neg c_14, if_pos c_15]; done))
              rw [e_20] at hk_i
              exact hk_i
            · skip
              refine tg_iconst (v := nI 0) S dX3_forest_268 (by decide) ?_
              refine tg_istore_n (L' := [(0, .ref (h 0)), (1, .int (nI i)), (2, .int (nI 0))]) [1, 2, 0] S dX3_forest_269 rfl (by decide) rfl ?_
              refine tg_loopI (X := Int32) (fun j b => b = -1 ∨ vp_in b 30) (fb_c2 (σ 0) ((fb_AG σ).1) (σ 3) (σ 4) i) 30 (-1) (fun b => tg_upA (tg_upA (tg_upA (tg_upA (tg_upA σ 8 (fb_K σ)) 9 (fb_L σ)) 10 ((fb_AG σ).1)) 11 ((fb_AG σ).2)) 12 (upd ω i b)) (fun j b => [(0, .ref (h 0)), (1, .int (nI i)), (2, .int (nI j))]) (Or.inl rfl) (fun j x hj h => fb_c2_in hj h) ?_ ?_
              · skip
                intro j b hi_j hI_j hk_j
                refine tg_iload_n S 2 dX3_forest_270 rfl rfl ?_
                refine tg_bipush (v := 30) S dX3_forest_271 (by decide) ?_
                refine tg_icmp_ge (tgt := 397) S dX3_forest_273 (by decide) (fun c => absurd c (tg_nge hi_j)) (fun _ => ?_)
                refine tg_aload_n S 0 dX3_forest_276 rfl rfl ?_
                refine tg_iload_n S 2 dX3_forest_277 rfl rfl ?_
                refine tg_callV (nA := 1) (As := [.int (nI j)]) (rest := []) (q := (RX3, TX3, 16)) S hK hN (k_X3_isAlone hd (tg_upA (tg_upA (tg_upA (tg_upA (tg_upA σ 8 (fb_K σ)) 9 (fb_L σ)) 10 ((fb_AG σ).1)) 11 ((fb_AG σ).2)) 12 (upd ω i b)) (nI j) (tg_in hi_j (by decide))) 0 rfl rfl (tw_gV ml_RX3_75 im_X3_isAlone se_X3_isAlone in_RX3 co_X3_isAlone rfl) rfl (by decide +kernel) ⟨Nat.le_of_ble_eq_true rfl, Nat.le_of_ble_eq_true rfl⟩ rfl rfl (Nat.le_of_ble_eq_true rfl) dX3_forest_278 ⟨Nat.le_of_ble_eq_true rfl, Nat.le_of_ble_eq_true rfl⟩ ?_
                refine tg_w (σ2 := tg_upA (tg_upA (tg_upA (tg_upA (tg_upA σ 8 (fb_K σ)) 9 (fb_L σ)) 10 ((fb_AG σ).1)) 11 ((fb_AG σ).2)) 12 (upd ω i b)) rfl ?_
                refine tg_eq (σ2 := tg_upA (tg_upA (tg_upA (tg_upA (tg_upA σ 8 (fb_K σ)) 9 (fb_L σ)) 10 ((fb_AG σ).1)) 11 ((fb_AG σ).2)) 12 (upd ω i b)) (L2 := [(0, .ref (h 0)), (1, .int (nI i)), (2, .int (nI j))]) (st2 := [.int (tg_b (fb_alone (σ 0) (((fb_AG σ).1)) (nI j)))]) rfl rfl rfl ?_
                refine tg_ifz (tgt := 339) S dX3_forest_281 (by decide) (fun c_16 => ?_) (fun c_16 => ?_)
                · skip
                  refine tg_iconst (v := 0) S dX3_forest_339 (by decide) ?_
                  refine tg_istore_n (L' := [(0, .ref (h 0)), (1, .int (nI i)), (2, .int (nI j)), (3, .int 0)]) [1, 2, 3, 0] S dX3_forest_340 rfl (by decide) rfl ?_
                  refine tg_aload_n S 0 dX3_forest_341 rfl rfl ?_
                  refine tg_get (v := .ref (h 13)) S tw_v3 hK 0 rfl rfl 12 (by decide) (tw_in fl_RX3_47 rfl) dX3_forest_342 rfl ?_
                  refine tg_iload_n S 1 dX3_forest_345 rfl rfl ?_
                  refine tg_iload_n S 3 dX3_forest_346 rfl rfl ?_
                  refine tg_if_eq (tgt := 384) S dX3_forest_347 (by decide) (fun _ => ?_) (fun c => absurd (by decide) c)
                  refine tg_aload_n S 0 dX3_forest_384 rfl rfl ?_
                  refine tg_get (v := .ref (h 13)) S tw_v3 hK 0 rfl rfl 12 (by decide) (tw_in fl_RX3_47 rfl) dX3_forest_385 rfl ?_
                  refine tg_iload_n S 1 dX3_forest_388 rfl rfl ?_
                  refine tg_iald (v := b) S hK 13 0 rfl rfl dX3_forest_389 (tg_in hi_i (by decide)) (by simp [tg_set, tg_upA, upd, (tg_cl (Nat.lt_trans hi_i (by decide)))]) ?_
                  refine tg_iast (σ2 := tg_upA (tg_upA (tg_upA (tg_upA (tg_upA σ 8 (fb_K σ)) 9 (fb_L σ)) 10 ((fb_AG σ).1)) 11 ((fb_AG σ).2)) 12 (upd ω i b)) S hK (tw_MD hd) 13 0 rfl rfl dX3_forest_390 (tg_in hi_i (by decide)) (by rw [tg_cl (Nat.lt_trans hi_i (by decide))]; exact congrArg (fun zz => tw_M h cI cZ (tg_upA (tg_upA (tg_upA (tg_upA (tg_upA σ 8 (fb_K σ)) 9 (fb_L σ)) 10 ((fb_AG σ).1)) 11 ((fb_AG σ).2)) 12 zz)) (tg_uu ω i b b)) ?_
                  refine tg_iinc (v := nI (j + 1)) (L' := [(0, .ref (h 0)), (1, .int (nI i)), (2, .int (nI (j + 1))), (3, .int 0)]) [1, 2, 0, 3] S 2 dX3_forest_391 rfl (tg_inc _) (by decide) rfl ?_
                  refine tg_goto (tgt := 270) S dX3_forest_394 (by decide) ?_
                  refine tg_sub (L' := [(0, .ref (h 0)), (1, .int (nI i)), (2, .int (nI (j + 1)))]) [0, 1, 2] rfl ?_
                  have e_21 : fb_c2 (σ 0) ((fb_AG σ).1) (σ 3) (σ 4) i j b = b := (by first | (simp [fb_c2, fb_can, c_13, c_14, c_15, c_16]; done) | (simp only [fb_c2, fb_can, if_pos c_13, if_neg c_14, if_neg c_15, if_neg (ne_true_of_eq_false c_16)]; done))
                  rw [e_21] at hk_j
                  exact hk_j
                · skip
                  refine tg_aload_n S 0 dX3_forest_284 rfl rfl ?_
                  refine tg_get (v := .ref (h 4)) S tw_v3 hK 0 rfl rfl 3 (by decide) (tw_in fl_RX3_20 rfl) dX3_forest_285 rfl ?_
                  refine tg_iload_n S 2 dX3_forest_288 rfl rfl ?_
                  refine tg_iald (v := σ 3 j) S hK 4 0 rfl rfl dX3_forest_289 (tg_in hi_j (by decide)) (congrArg ((σ 3)) (tg_cl (Nat.lt_trans hi_j (by decide)))) ?_
                  refine tg_aload_n S 0 dX3_forest_290 rfl rfl ?_
                  refine tg_get (v := .ref (h 4)) S tw_v3 hK 0 rfl rfl 3 (by decide) (tw_in fl_RX3_20 rfl) dX3_forest_291 rfl ?_
                  refine tg_iload_n S 1 dX3_forest_294 rfl rfl ?_
                  refine tg_iald (v := σ 3 i) S hK 4 0 rfl rfl dX3_forest_295 (tg_in hi_i (by decide)) (congrArg ((σ 3)) (tg_cl (Nat.lt_trans hi_i (by decide)))) ?_
                  refine tg_bipush (v := 10) S dX3_forest_296 (by decide) ?_
                  refine tg_isub S dX3_forest_298 ?_
                  refine tg_icmp_ne (tgt := 339) S dX3_forest_299 (by decide) (fun c_18 => ?_) (fun c_18 => ?_)
                  · skip
                    refine tg_iconst (v := 0) S dX3_forest_339 (by decide) ?_
                    refine tg_istore_n (L' := [(0, .ref (h 0)), (1, .int (nI i)), (2, .int (nI j)), (3, .int 0)]) [1, 2, 3, 0] S dX3_forest_340 rfl (by decide) rfl ?_
                    refine tg_aload_n S 0 dX3_forest_341 rfl rfl ?_
                    refine tg_get (v := .ref (h 13)) S tw_v3 hK 0 rfl rfl 12 (by decide) (tw_in fl_RX3_47 rfl) dX3_forest_342 rfl ?_
                    refine tg_iload_n S 1 dX3_forest_345 rfl rfl ?_
                    refine tg_iload_n S 3 dX3_forest_346 rfl rfl ?_
                    refine tg_if_eq (tgt := 384) S dX3_forest_347 (by decide) (fun _ => ?_) (fun c => absurd (by decide) c)
                    refine tg_aload_n S 0 dX3_forest_384 rfl rfl ?_
                    refine tg_get (v := .ref (h 13)) S tw_v3 hK 0 rfl rfl 12 (by decide) (tw_in fl_RX3_47 rfl) dX3_forest_385 rfl ?_
                    refine tg_iload_n S 1 dX3_forest_388 rfl rfl ?_
                    refine tg_iald (v := b) S hK 13 0 rfl rfl dX3_forest_389 (tg_in hi_i (by decide)) (by simp [tg_set, tg_upA, upd, (tg_cl (Nat.lt_trans hi_i (by decide)))]) ?_
                    refine tg_iast (σ2 := tg_upA (tg_upA (tg_upA (tg_upA (tg_upA σ 8 (fb_K σ)) 9 (fb_L σ)) 10 ((fb_AG σ).1)) 11 ((fb_AG σ).2)) 12 (upd ω i b)) S hK (tw_MD hd) 13 0 rfl rfl dX3_forest_390 (tg_in hi_i (by decide)) (by rw [tg_cl (Nat.lt_trans hi_i (by decide))]; exact congrArg (fun zz => tw_M h cI cZ (tg_upA (tg_upA (tg_upA (tg_upA (tg_upA σ 8 (fb_K σ)) 9 (fb_L σ)) 10 ((fb_AG σ).1)) 11 ((fb_AG σ).2)) 12 zz)) (tg_uu ω i b b)) ?_
                    refine tg_iinc (v := nI (j + 1)) (L' := [(0, .ref (h 0)), (1, .int (nI i)), (2, .int (nI (j + 1))), (3, .int 0)]) [1, 2, 0, 3] S 2 dX3_forest_391 rfl (tg_inc _) (by decide) rfl ?_
                    refine tg_goto (tgt := 270) S dX3_forest_394 (by decide) ?_
                    refine tg_sub (L' := [(0, .ref (h 0)), (1, .int (nI i)), (2, .int (nI (j + 1)))]) [0, 1, 2] rfl ?_
                    have e_22 : fb_c2 (σ 0) ((fb_AG σ).1) (σ 3) (σ 4) i j b = b := (by first | (simp [fb_c2, fb_can, c_13, c_14, c_15, c_16, c_18]; done) | (simp only [fb_c2, fb_can, if_pos c_13, if_neg c_14, if_neg c_15, if_pos c_16, if_neg c_18]; done))
                    rw [e_22] at hk_j
                    exact hk_j
                  · skip
                    refine tg_aload_n S 0 dX3_forest_302 rfl rfl ?_
                    refine tg_get (v := .ref (h 5)) S tw_v3 hK 0 rfl rfl 4 (by decide) (tw_in fl_RX3_23 rfl) dX3_forest_303 rfl ?_
                    refine tg_iload_n S 2 dX3_forest_306 rfl rfl ?_
                    refine tg_iald (v := σ 4 j) S hK 5 0 rfl rfl dX3_forest_307 (tg_in hi_j (by decide)) (congrArg ((σ 4)) (tg_cl (Nat.lt_trans hi_j (by decide)))) ?_
                    refine tg_aload_n S 0 dX3_forest_308 rfl rfl ?_
                    refine tg_get (v := .ref (h 5)) S tw_v3 hK 0 rfl rfl 4 (by decide) (tw_in fl_RX3_23 rfl) dX3_forest_309 rfl ?_
                    refine tg_iload_n S 1 dX3_forest_312 rfl rfl ?_
                    refine tg_iald (v := σ 4 i) S hK 5 0 rfl rfl dX3_forest_313 (tg_in hi_i (by decide)) (congrArg ((σ 4)) (tg_cl (Nat.lt_trans hi_i (by decide)))) ?_
                    refine tg_icmp_gt (tgt := 339) S dX3_forest_314 (by decide) (fun c_20 => ?_) (fun c_20 => ?_)
                    · skip
                      refine tg_iconst (v := 0) S dX3_forest_339 (by decide) ?_
                      refine tg_istore_n (L' := [(0, .ref (h 0)), (1, .int (nI i)), (2, .int (nI j)), (3, .int 0)]) [1, 2, 3, 0] S dX3_forest_340 rfl (by decide) rfl ?_
                      refine tg_aload_n S 0 dX3_forest_341 rfl rfl ?_
                      refine tg_get (v := .ref (h 13)) S tw_v3 hK 0 rfl rfl 12 (by decide) (tw_in fl_RX3_47 rfl) dX3_forest_342 rfl ?_
                      refine tg_iload_n S 1 dX3_forest_345 rfl rfl ?_
                      refine tg_iload_n S 3 dX3_forest_346 rfl rfl ?_
                      refine tg_if_eq (tgt := 384) S dX3_forest_347 (by decide) (fun _ => ?_) (fun c => absurd (by decide) c)
                      refine tg_aload_n S 0 dX3_forest_384 rfl rfl ?_
                      refine tg_get (v := .ref (h 13)) S tw_v3 hK 0 rfl rfl 12 (by decide) (tw_in fl_RX3_47 rfl) dX3_forest_385 rfl ?_
                      refine tg_iload_n S 1 dX3_forest_388 rfl rfl ?_
                      refine tg_iald (v := b) S hK 13 0 rfl rfl dX3_forest_389 (tg_in hi_i (by decide)) (by simp [tg_set, tg_upA, upd, (tg_cl (Nat.lt_trans hi_i (by decide)))]) ?_
                      refine tg_iast (σ2 := tg_upA (tg_upA (tg_upA (tg_upA (tg_upA σ 8 (fb_K σ)) 9 (fb_L σ)) 10 ((fb_AG σ).1)) 11 ((fb_AG σ).2)) 12 (upd ω i b)) S hK (tw_MD hd) 13 0 rfl rfl dX3_forest_390 (tg_in hi_i (by decide)) (by rw [tg_cl (Nat.lt_trans hi_i (by decide))]; exact congrArg (fun zz => tw_M h cI cZ (tg_upA (tg_upA (tg_upA (tg_upA (tg_upA σ 8 (fb_K σ)) 9 (fb_L σ)) 10 ((fb_AG σ).1)) 11 ((fb_AG σ).2)) 12 zz)) (tg_uu ω i b b)) ?_
                      refine tg_iinc (v := nI (j + 1)) (L' := [(0, .ref (h 0)), (1, .int (nI i)), (2, .int (nI (j + 1))), (3, .int 0)]) [1, 2, 0, 3] S 2 dX3_forest_391 rfl (tg_inc _) (by decide) rfl ?_
                      refine tg_goto (tgt := 270) S dX3_forest_394 (by decide) ?_
                      refine tg_sub (L' := [(0, .ref (h 0)), (1, .int (nI i)), (2, .int (nI (j + 1)))]) [0, 1, 2] rfl ?_
                      have e_23 : fb_c2 (σ 0) ((fb_AG σ).1) (σ 3) (σ 4) i j b = b := (by first | (simp [fb_c2, fb_can, c_13, c_14, c_15, c_16, c_18, c_20]; done) | (simp only [fb_c2, fb_can, if_pos c_13, if_neg c_14, if_neg c_15, if_pos c_16, if_pos c_18, if_pos c_20]; done))
                      rw [e_23] at hk_j
                      exact hk_j
                    · skip
                      refine tg_aload_n S 0 dX3_forest_317 rfl rfl ?_
                      refine tg_get (v := .ref (h 5)) S tw_v3 hK 0 rfl rfl 4 (by decide) (tw_in fl_RX3_23 rfl) dX3_forest_318 rfl ?_
                      refine tg_iload_n S 1 dX3_forest_321 rfl rfl ?_
                      refine tg_iald (v := σ 4 i) S hK 5 0 rfl rfl dX3_forest_322 (tg_in hi_i (by decide)) (congrArg ((σ 4)) (tg_cl (Nat.lt_trans hi_i (by decide)))) ?_
                      refine tg_aload_n S 0 dX3_forest_323 rfl rfl ?_
                      refine tg_get (v := .ref (h 5)) S tw_v3 hK 0 rfl rfl 4 (by decide) (tw_in fl_RX3_23 rfl) dX3_forest_324 rfl ?_
                      refine tg_iload_n S 2 dX3_forest_327 rfl rfl ?_
                      refine tg_iald (v := σ 4 j) S hK 5 0 rfl rfl dX3_forest_328 (tg_in hi_j (by decide)) (congrArg ((σ 4)) (tg_cl (Nat.lt_trans hi_j (by decide)))) ?_
                      refine tg_isub S dX3_forest_329 ?_
                      refine tg_bipush (v := 14) S dX3_forest_330 (by decide) ?_
                      refine tg_icmp_gt (tgt := 339) S dX3_forest_332 (by decide) (fun c_22 => ?_) (fun c_22 => ?_)
                      · skip
                        refine tg_iconst (v := 0) S dX3_forest_339 (by decide) ?_
                        refine tg_istore_n (L' := [(0, .ref (h 0)), (1, .int (nI i)), (2, .int (nI j)), (3, .int 0)]) [1, 2, 3, 0] S dX3_forest_340 rfl (by decide) rfl ?_
                        refine tg_aload_n S 0 dX3_forest_341 rfl rfl ?_
                        refine tg_get (v := .ref (h 13)) S tw_v3 hK 0 rfl rfl 12 (by decide) (tw_in fl_RX3_47 rfl) dX3_forest_342 rfl ?_
                        refine tg_iload_n S 1 dX3_forest_345 rfl rfl ?_
                        refine tg_iload_n S 3 dX3_forest_346 rfl rfl ?_
                        refine tg_if_eq (tgt := 384) S dX3_forest_347 (by decide) (fun _ => ?_) (fun c => absurd (by decide) c)
                        refine tg_aload_n S 0 dX3_forest_384 rfl rfl ?_
                        refine tg_get (v := .ref (h 13)) S tw_v3 hK 0 rfl rfl 12 (by decide) (tw_in fl_RX3_47 rfl) dX3_forest_385 rfl ?_
                        refine tg_iload_n S 1 dX3_forest_388 rfl rfl ?_
                        refine tg_iald (v := b) S hK 13 0 rfl rfl dX3_forest_389 (tg_in hi_i (by decide)) (by simp [tg_set, tg_upA, upd, (tg_cl (Nat.lt_trans hi_i (by decide)))]) ?_
                        refine tg_iast (σ2 := tg_upA (tg_upA (tg_upA (tg_upA (tg_upA σ 8 (fb_K σ)) 9 (fb_L σ)) 10 ((fb_AG σ).1)) 11 ((fb_AG σ).2)) 12 (upd ω i b)) S hK (tw_MD hd) 13 0 rfl rfl dX3_forest_390 (tg_in hi_i (by decide)) (by rw [tg_cl (Nat.lt_trans hi_i (by decide))]; exact congrArg (fun zz => tw_M h cI cZ (tg_upA (tg_upA (tg_upA (tg_upA (tg_upA σ 8 (fb_K σ)) 9 (fb_L σ)) 10 ((fb_AG σ).1)) 11 ((fb_AG σ).2)) 12 zz)) (tg_uu ω i b b)) ?_
                        refine tg_iinc (v := nI (j + 1)) (L' := [(0, .ref (h 0)), (1, .int (nI i)), (2, .int (nI (j + 1))), (3, .int 0)]) [1, 2, 0, 3] S 2 dX3_forest_391 rfl (tg_inc _) (by decide) rfl ?_
                        refine tg_goto (tgt := 270) S dX3_forest_394 (by decide) ?_
                        refine tg_sub (L' := [(0, .ref (h 0)), (1, .int (nI i)), (2, .int (nI (j + 1)))]) [0, 1, 2] rfl ?_
                        have e_24 : fb_c2 (σ 0) ((fb_AG σ).1) (σ 3) (σ 4) i j b = b := (by first | (simp [fb_c2, fb_can, c_13, c_14, c_15, c_16, c_18, c_20, c_22]; done) | (simp only [fb_c2, fb_can, if_pos c_13, if_neg c_14, if_neg c_15, if_pos c_16, if_pos c_18, if_neg c_20, if_pos c_22]; done))
                        rw [e_24] at hk_j
                        exact hk_j
                      · skip
                        refine tg_iconst (v := 1) S dX3_forest_335 (by decide) ?_
                        refine tg_goto (tgt := 340) S dX3_forest_336 (by decide) ?_
                        refine tg_istore_n (L' := [(0, .ref (h 0)), (1, .int (nI i)), (2, .int (nI j)), (3, .int 1)]) [1, 2, 3, 0] S dX3_forest_340 rfl (by decide) rfl ?_
                        refine tg_aload_n S 0 dX3_forest_341 rfl rfl ?_
                        refine tg_get (v := .ref (h 13)) S tw_v3 hK 0 rfl rfl 12 (by decide) (tw_in fl_RX3_47 rfl) dX3_forest_342 rfl ?_
                        refine tg_iload_n S 1 dX3_forest_345 rfl rfl ?_
                        refine tg_iload_n S 3 dX3_forest_346 rfl rfl ?_
                        refine tg_if_eq (tgt := 384) S dX3_forest_347 (by decide) (fun c => absurd c (by decide)) (fun _ => ?_)
                        refine tg_aload_n S 0 dX3_forest_350 rfl rfl ?_
                        refine tg_get (v := .ref (h 13)) S tw_v3 hK 0 rfl rfl 12 (by decide) (tw_in fl_RX3_47 rfl) dX3_forest_351 rfl ?_
                        refine tg_iload_n S 1 dX3_forest_354 rfl rfl ?_
                        refine tg_iald (v := b) S hK 13 0 rfl rfl dX3_forest_355 (tg_in hi_i (by decide)) (by simp [tg_set, tg_upA, upd, (tg_cl (Nat.lt_trans hi_i (by decide)))]) ?_
                        refine tg_iconst (v := -1) S dX3_forest_356 (by decide) ?_
                        refine tg_icmp_eq (tgt := 380) S dX3_forest_357 (by decide) (fun c_25 => ?_) (fun c_25 => ?_)
                        · skip
                          refine tg_iload_n S 2 dX3_forest_380 rfl rfl ?_
                          refine tg_goto (tgt := 390) S dX3_forest_381 (by decide) ?_
                          refine tg_iast (σ2 := tg_upA (tg_upA (tg_upA (tg_upA (tg_upA σ 8 (fb_K σ)) 9 (fb_L σ)) 10 ((fb_AG σ).1)) 11 ((fb_AG σ).2)) 12 (upd ω i (nI j))) S hK (tw_MD hd) 13 0 rfl rfl dX3_forest_390 (tg_in hi_i (by decide)) (by rw [tg_cl (Nat.lt_trans hi_i (by decide))]; exact congrArg (fun zz => tw_M h cI cZ (tg_upA (tg_upA (tg_upA (tg_upA (tg_upA σ 8 (fb_K σ)) 9 (fb_L σ)) 10 ((fb_AG σ).1)) 11 ((fb_AG σ).2)) 12 zz)) (tg_uu ω i b (nI j))) ?_
                          refine tg_iinc (v := nI (j + 1)) (L' := [(0, .ref (h 0)), (1, .int (nI i)), (2, .int (nI (j + 1))), (3, .int 1)]) [1, 2, 0, 3] S 2 dX3_forest_391 rfl (tg_inc _) (by decide) rfl ?_
                          refine tg_goto (tgt := 270) S dX3_forest_394 (by decide) ?_
                          refine tg_sub (L' := [(0, .ref (h 0)), (1, .int (nI i)), (2, .int (nI (j + 1)))]) [0, 1, 2] rfl ?_
                          have e_25 : fb_c2 (σ 0) ((fb_AG σ).1) (σ 3) (σ 4) i j b = nI j := (by first | (simp [fb_c2, fb_can, c_13, c_14, c_15, c_16, c_18, c_20, c_22, c_25]; done) | (simp only [fb_c2, fb_can, if_pos c_13, if_neg c_14, if_neg c_15, if_pos c_16, if_pos c_18, if_neg c_20, if_neg c_22, if_pos c_25]; done))
                          rw [e_25] at hk_j
                          exact hk_j
                        · skip
                          refine tg_aload_n S 0 dX3_forest_360 rfl rfl ?_
                          refine tg_get (v := .ref (h 5)) S tw_v3 hK 0 rfl rfl 4 (by decide) (tw_in fl_RX3_23 rfl) dX3_forest_361 rfl ?_
                          refine tg_iload_n S 2 dX3_forest_364 rfl rfl ?_
                          refine tg_iald (v := σ 4 j) S hK 5 0 rfl rfl dX3_forest_365 (tg_in hi_j (by decide)) (congrArg ((σ 4)) (tg_cl (Nat.lt_trans hi_j (by decide)))) ?_
                          refine tg_aload_n S 0 dX3_forest_366 rfl rfl ?_
                          refine tg_get (v := .ref (h 5)) S tw_v3 hK 0 rfl rfl 4 (by decide) (tw_in fl_RX3_23 rfl) dX3_forest_367 rfl ?_
                          refine tg_aload_n S 0 dX3_forest_370 rfl rfl ?_
                          refine tg_get (v := .ref (h 13)) S tw_v3 hK 0 rfl rfl 12 (by decide) (tw_in fl_RX3_47 rfl) dX3_forest_371 rfl ?_
                          refine tg_iload_n S 1 dX3_forest_374 rfl rfl ?_
                          refine tg_iald (v := b) S hK 13 0 rfl rfl dX3_forest_375 (tg_in hi_i (by decide)) (by simp [tg_set, tg_upA, upd, (tg_cl (Nat.lt_trans hi_i (by decide)))]) ?_
                          refine tg_iald (v := σ 4 b.toNatClampNeg) S hK 5 0 rfl rfl dX3_forest_376 (hI_j.resolve_left c_25) rfl ?_
                          refine tg_icmp_le (tgt := 384) S dX3_forest_377 (by decide) (fun c_26 => ?_) (fun c_26 => ?_)
                          · skip
                            refine tg_aload_n S 0 dX3_forest_384 rfl rfl ?_
                            refine tg_get (v := .ref (h 13)) S tw_v3 hK 0 rfl rfl 12 (by decide) (tw_in fl_RX3_47 rfl) dX3_forest_385 rfl ?_
                            refine tg_iload_n S 1 dX3_forest_388 rfl rfl ?_
                            refine tg_iald (v := b) S hK 13 0 rfl rfl dX3_forest_389 (tg_in hi_i (by decide)) (by simp [tg_set, tg_upA, upd, (tg_cl (Nat.lt_trans hi_i (by decide)))]) ?_
                            refine tg_iast (σ2 := tg_upA (tg_upA (tg_upA (tg_upA (tg_upA σ 8 (fb_K σ)) 9 (fb_L σ)) 10 ((fb_AG σ).1)) 11 ((fb_AG σ).2)) 12 (upd ω i b)) S hK (tw_MD hd) 13 0 rfl rfl dX3_forest_390 (tg_in hi_i (by decide)) (by rw [tg_cl (Nat.lt_trans hi_i (by decide))]; exact congrArg (fun zz => tw_M h cI cZ (tg_upA (tg_upA (tg_upA (tg_upA (tg_upA σ 8 (fb_K σ)) 9 (fb_L σ)) 10 ((fb_AG σ).1)) 11 ((fb_AG σ).2)) 12 zz)) (tg_uu ω i b b)) ?_
                            refine tg_iinc (v := nI (j + 1)) (L' := [(0, .ref (h 0)), (1, .int (nI i)), (2, .int (nI (j + 1))), (3, .int 1)]) [1, 2, 0, 3] S 2 dX3_forest_391 rfl (tg_inc _) (by decide) rfl ?_
                            refine tg_goto (tgt := 270) S dX3_forest_394 (by decide) ?_
                            refine tg_sub (L' := [(0, .ref (h 0)), (1, .int (nI i)), (2, .int (nI (j + 1)))]) [0, 1, 2] rfl ?_
                            have e_26 : fb_c2 (σ 0) ((fb_AG σ).1) (σ 3) (σ 4) i j b = b := (by first | (simp [fb_c2, fb_can, c_13, c_14, c_15, c_16, c_18, c_20, c_22, c_25, c_26]; done) | (simp only [fb_c2, fb_can, if_pos c_13, if_neg c_14, if_neg c_15, if_pos c_16, if_pos c_18, if_neg c_20, if_neg c_22, if_neg c_25, if_pos c_26]; done))
                            rw [e_26] at hk_j
                            exact hk_j
                          · skip
                            refine tg_iload_n S 2 dX3_forest_380 rfl rfl ?_
                            refine tg_goto (tgt := 390) S dX3_forest_381 (by decide) ?_
                            refine tg_iast (σ2 := tg_upA (tg_upA (tg_upA (tg_upA (tg_upA σ 8 (fb_K σ)) 9 (fb_L σ)) 10 ((fb_AG σ).1)) 11 ((fb_AG σ).2)) 12 (upd ω i (nI j))) S hK (tw_MD hd) 13 0 rfl rfl dX3_forest_390 (tg_in hi_i (by decide)) (by rw [tg_cl (Nat.lt_trans hi_i (by decide))]; exact congrArg (fun zz => tw_M h cI cZ (tg_upA (tg_upA (tg_upA (tg_upA (tg_upA σ 8 (fb_K σ)) 9 (fb_L σ)) 10 ((fb_AG σ).1)) 11 ((fb_AG σ).2)) 12 zz)) (tg_uu ω i b (nI j))) ?_
                            refine tg_iinc (v := nI (j + 1)) (L' := [(0, .ref (h 0)), (1, .int (nI i)), (2, .int (nI (j + 1))), (3, .int 1)]) [1, 2, 0, 3] S 2 dX3_forest_391 rfl (tg_inc _) (by decide) rfl ?_
                            refine tg_goto (tgt := 270) S dX3_forest_394 (by decide) ?_
                            refine tg_sub (L' := [(0, .ref (h 0)), (1, .int (nI i)), (2, .int (nI (j + 1)))]) [0, 1, 2] rfl ?_
                            have e_27 : fb_c2 (σ 0) ((fb_AG σ).1) (σ 3) (σ 4) i j b = nI j := (by first | (simp [fb_c2, fb_can, c_13, c_14, c_15, c_16, c_18, c_20, c_22, c_25, c_26]; done) | (simp only [fb_c2, fb_can, if_pos c_13, if_neg c_14, if_neg c_15, if_pos c_16, if_pos c_18, if_neg c_20, if_neg c_22, if_neg c_25, if_neg c_26]; done))
                            rw [e_27] at hk_j
                            exact hk_j
              · skip
                intro hE_j
                refine tg_iload_n S 2 dX3_forest_270 rfl rfl ?_
                refine tg_bipush (v := 30) S dX3_forest_271 (by decide) ?_
                refine tg_icmp_ge (tgt := 397) S dX3_forest_273 (by decide) (fun _ => ?_) (fun c => absurd tg_ge c)
                refine tg_iinc (v := nI (i + 1)) (L' := [(0, .ref (h 0)), (1, .int (nI (i + 1))), (2, .int (nI 30))]) [1, 0, 2] S 1 dX3_forest_397 rfl (tg_inc _) (by decide) rfl ?_
                refine tg_goto (tgt := 225) S dX3_forest_400 (by decide) ?_
                refine tg_sub (L' := [(0, .ref (h 0)), (1, .int (nI (i + 1)))]) [0, 1] rfl ?_
                have e_28 : fb_c (σ 0) ((fb_AG σ).1) (σ 3) (σ 4) (σ 7) i ω = upd ω i (tg_it (fb_c2 (σ 0) ((fb_AG σ).1) (σ 3) (σ 4) i) (-1) 30) := (by first | (simp [fb_c, c_13, c_14, c_15]; done) | (simp only [fb_c, if_pos c_13, if_neg c_14, if_neg c_15]; done))
                rw [e_28] at hk_i
                exact hk_i
      · skip
        refine tg_w (σ2 := tg_upA (tg_upA (tg_upA (tg_upA (tg_upA σ 8 (fb_K σ)) 9 (fb_L σ)) 10 ((fb_AG σ).1)) 11 ((fb_AG σ).2)) 12 (fb_O σ)) rfl ?_
        refine tg_sub (L' := [(0, .ref (h 0)), (1, .int (nI 30))]) [0, 1] rfl ?_
        refine tg_iload_n S 1 dX3_forest_225 rfl rfl ?_
        refine tg_bipush (v := 30) S dX3_forest_226 (by decide) ?_
        refine tg_icmp_ge (tgt := 403) S dX3_forest_228 (by decide) (fun _ => ?_) (fun c => absurd tg_ge c)
        refine tg_iconst (v := nI 0) S dX3_forest_403 (by decide) ?_
        refine tg_istore_n (L' := [(0, .ref (h 0)), (1, .int (nI 0))]) [1, 0] S dX3_forest_404 rfl (by decide) rfl ?_
        refine tg_loop (X := tb_A) (fb_d (fb_O σ)) 30 ((fb_AG σ).1) (fun α => tg_upA (tg_upA (tg_upA (tg_upA (tg_upA σ 8 (fb_K σ)) 9 (fb_L σ)) 10 α) 11 ((fb_AG σ).2)) 12 (fb_O σ)) (fun i α => [(0, .ref (h 0)), (1, .int (nI i))]) ?_ ?_
        · skip
          intro i α hi_i hk_i
          refine tg_iload_n S 1 dX3_forest_405 rfl rfl ?_
          refine tg_bipush (v := 30) S dX3_forest_406 (by decide) ?_
          refine tg_icmp_ge (tgt := 448) S dX3_forest_408 (by decide) (fun c => absurd c (tg_nge hi_i)) (fun _ => ?_)
          refine tg_aload_n S 0 dX3_forest_411 rfl rfl ?_
          refine tg_get (v := .ref (h 11)) S tw_v3 hK 0 rfl rfl 10 (by decide) (tw_in fl_RX3_41 rfl) dX3_forest_412 rfl ?_
          refine tg_iload_n S 1 dX3_forest_415 rfl rfl ?_
          refine tg_aload_n S 0 dX3_forest_416 rfl rfl ?_
          refine tg_get (v := .ref (h 13)) S tw_v3 hK 0 rfl rfl 12 (by decide) (tw_in fl_RX3_47 rfl) dX3_forest_417 rfl ?_
          refine tg_iload_n S 1 dX3_forest_420 rfl rfl ?_
          refine tg_iald (v := (fb_O σ) i) S hK 13 0 rfl rfl dX3_forest_421 (tg_in hi_i (by decide)) (congrArg ((fb_O σ)) (tg_cl (Nat.lt_trans hi_i (by decide)))) ?_
          refine tg_iconst (v := -1) S dX3_forest_422 (by decide) ?_
          refine tg_icmp_ne (tgt := 435) S dX3_forest_423 (by decide) (fun c_27 => ?_) (fun c_27 => ?_)
          · skip
            refine tg_aload_n S 0 dX3_forest_435 rfl rfl ?_
            refine tg_get (v := .ref (h 13)) S tw_v3 hK 0 rfl rfl 12 (by decide) (tw_in fl_RX3_47 rfl) dX3_forest_436 rfl ?_
            refine tg_iload_n S 1 dX3_forest_439 rfl rfl ?_
            refine tg_iald (v := (fb_O σ) i) S hK 13 0 rfl rfl dX3_forest_440 (tg_in hi_i (by decide)) (congrArg ((fb_O σ)) (tg_cl (Nat.lt_trans hi_i (by decide)))) ?_
            refine tg_iast (σ2 := tg_upA (tg_upA (tg_upA (tg_upA (tg_upA σ 8 (fb_K σ)) 9 (fb_L σ)) 10 (upd α i ((fb_O σ) i))) 11 ((fb_AG σ).2)) 12 (fb_O σ)) S hK (tw_MD hd) 11 0 rfl rfl dX3_forest_441 (tg_in hi_i (by decide)) (by rw [tg_cl (Nat.lt_trans hi_i (by decide))]; exact (tw_Ms10 (upd α i ((fb_O σ) i))).trans rfl) ?_
            refine tg_iinc (v := nI (i + 1)) (L' := [(0, .ref (h 0)), (1, .int (nI (i + 1)))]) [1, 0] S 1 dX3_forest_442 rfl (tg_inc _) (by decide) rfl ?_
            refine tg_goto (tgt := 405) S dX3_forest_445 (by decide) ?_
            have e_29 : fb_d (fb_O σ) i α = upd α i ((fb_O σ) i) := (by first | (simp [fb_d, c_27]; done) | (simp only [fb_d, if_neg c_27]; done))
            rw [e_29] at hk_i
            exact hk_i
          · skip
            refine tg_aload_n S 0 dX3_forest_426 rfl rfl ?_
            refine tg_get (v := .ref (h 11)) S tw_v3 hK 0 rfl rfl 10 (by decide) (tw_in fl_RX3_41 rfl) dX3_forest_427 rfl ?_
            refine tg_iload_n S 1 dX3_forest_430 rfl rfl ?_
            refine tg_iald (v := α i) S hK 11 0 rfl rfl dX3_forest_431 (tg_in hi_i (by decide)) (congrArg (α) (tg_cl (Nat.lt_trans hi_i (by decide)))) ?_
            refine tg_goto (tgt := 441) S dX3_forest_432 (by decide) ?_
            refine tg_iast (σ2 := tg_upA (tg_upA (tg_upA (tg_upA (tg_upA σ 8 (fb_K σ)) 9 (fb_L σ)) 10 (upd α i (α i))) 11 ((fb_AG σ).2)) 12 (fb_O σ)) S hK (tw_MD hd) 11 0 rfl rfl dX3_forest_441 (tg_in hi_i (by decide)) (by rw [tg_cl (Nat.lt_trans hi_i (by decide))]; exact (tw_Ms10 (upd α i (α i))).trans rfl) ?_
            refine tg_iinc (v := nI (i + 1)) (L' := [(0, .ref (h 0)), (1, .int (nI (i + 1)))]) [1, 0] S 1 dX3_forest_442 rfl (tg_inc _) (by decide) rfl ?_
            refine tg_goto (tgt := 405) S dX3_forest_445 (by decide) ?_
            have e_30 : fb_d (fb_O σ) i α = upd α i (α i) := (by first | (simp [fb_d, c_27]; done) | (simp only [fb_d, if_pos c_27]; done))
            rw [e_30] at hk_i
            exact hk_i
        · skip
          refine tg_w (σ2 := tg_upA (tg_upA (tg_upA (tg_upA (tg_upA σ 8 (fb_K σ)) 9 (fb_L σ)) 10 (fb_A2 σ)) 11 ((fb_AG σ).2)) 12 (fb_O σ)) rfl ?_
          refine tg_sub (L' := [(0, .ref (h 0)), (1, .int (nI 30))]) [0, 1] rfl ?_
          refine tg_iload_n S 1 dX3_forest_405 rfl rfl ?_
          refine tg_bipush (v := 30) S dX3_forest_406 (by decide) ?_
          refine tg_icmp_ge (tgt := 448) S dX3_forest_408 (by decide) (fun _ => ?_) (fun c => absurd tg_ge c)
          refine tg_w (σ2 := fb_forest σ) rfl ?_
          exact tg_vret S hr hlk dX3_forest_448 rfl
set_option maxHeartbeats 4000000 in
set_option maxRecDepth 100000 in
theorem k_X3_rootsThen {l : Launch} {D : va_G} {h : Nat → Nat} {cI cZ : ClassId} (hd : tw_dis 15 h) (σ : tg_Mem)  (H : fb_hyp (σ 0) (σ 1) (σ 2) (σ 7) (σ 8) (σ 9)) : tg_CT l yX3_rootsThen wzX3_rootsThen (tg_rm 3) (tw_M h cI cZ) (tw_ty cI cZ) [] (tw_A 15 h) D [.ref (h 0)] σ (some (.int (fb_rn (fb_forest σ 11) (fb_forest σ 10)))) (fb_forest σ) := by
  refine tg_met (own := RX3) (cc := cX3_rootsThen) (maxL := 1) (ret := (some .int)) (by decide +kernel) rfl rfl (Nat.le_of_ble_eq_true rfl) ?_
  intro p e s m below meth c S hK hN hr hlk
  refine tg_sub (L' := [(0, .ref (h 0))]) [0] rfl ?_
  refine tg_aload_n S 0 dX3_rootsThen_0 rfl rfl ?_
  refine tg_callV (nA := 0) (As := []) (rest := []) (q := (RX3, TX3, 16)) S hK hN (k_X3_forest hd σ H) 0 rfl rfl (tw_gV ml_RX3_85 im_X3_forest se_X3_forest in_RX3 co_X3_forest rfl) rfl (by decide +kernel) ⟨Nat.le_of_ble_eq_true rfl, Nat.le_of_ble_eq_true rfl⟩ rfl rfl (Nat.le_of_ble_eq_true rfl) dX3_rootsThen_1 ⟨Nat.le_of_ble_eq_true rfl, Nat.le_of_ble_eq_true rfl⟩ ?_
  refine tg_aload_n S 0 dX3_rootsThen_4 rfl rfl ?_
  refine tg_callV (nA := 0) (As := []) (rest := []) (q := (RX3, TX3, 16)) S hK hN (k_X3_rootsNow hd (fb_forest σ) ) 0 rfl rfl (tw_gV ml_RX3_88 im_X3_rootsNow se_X3_rootsNow in_RX3 co_X3_rootsNow rfl) rfl (by decide +kernel) ⟨Nat.le_of_ble_eq_true rfl, Nat.le_of_ble_eq_true rfl⟩ rfl rfl (Nat.le_of_ble_eq_true rfl) dX3_rootsThen_5 ⟨Nat.le_of_ble_eq_true rfl, Nat.le_of_ble_eq_true rfl⟩ ?_
  exact tg_iret S hr hlk dX3_rootsThen_8 (by simp []) rfl
set_option maxHeartbeats 4000000 in
set_option maxRecDepth 100000 in
theorem k_X3_trees {l : Launch} {D : va_G} {h : Nat → Nat} {cI cZ : ClassId} (hd : tw_dis 15 h) (σ : tg_Mem) (x : Int32) (r : Int32 × tb_A × tb_A) (hv : fb_tr σ x = some r) : tg_CT l yX3_trees wzX3_trees (tg_rm 1) (tw_M h cI cZ) (tw_ty cI cZ) [] (tw_A 15 h) D [.ref (h 0), .int x] σ none (tg_upA (tg_upA (tg_upA σ 12 r.2.1) 13 r.2.2) 14 (fun _ => r.1)) := by
  refine tg_met (own := RX3) (cc := cX3_trees) (maxL := 9) (ret := none) (by decide +kernel) rfl rfl (Nat.le_of_ble_eq_true rfl) ?_
  intro p e s m below meth c S hK hN hr hlk
  refine tg_sub (L' := [(0, .ref (h 0)), (1, .int x)]) [0, 1] rfl ?_
  refine tg_aload_n S 0 dX3_trees_0 rfl rfl ?_
  refine tg_iconst (v := 0) S dX3_trees_1 (by decide) ?_
  refine tg_put (σ2 := tg_upA σ 14 (fun _ => 0)) S tw_v3 tyX3 tyX3_ok nmX3 hK (tw_MD hd) 0 rfl rfl 13 (by decide) (tw_in fl_RX3_79 rfl) dX3_trees_2 rfl (by decide +kernel) (Nat.le_of_ble_eq_true rfl) rfl ?_
  refine tg_iconst (v := 0) S dX3_trees_5 (by decide) ?_
  refine tg_istore_n (L' := [(0, .ref (h 0)), (1, .int x), (2, .int 0)]) [1, 2, 0] S dX3_trees_6 rfl (by decide) rfl ?_
  refine tg_aload_n S 0 dX3_trees_7 rfl rfl ?_
  refine tg_get (v := .ref (h 14)) S tw_v3 hK 0 rfl rfl 14 (by decide) (tw_in fl_RX3_50 rfl) dX3_trees_8 rfl ?_
  refine tg_iconst (v := 0) S dX3_trees_11 (by decide) ?_
  refine tg_iload_n S 1 dX3_trees_12 rfl rfl ?_
  refine tg_iast (σ2 := tg_upA (tg_upA σ 13 (upd (σ 13) 0 x)) 14 (fun _ => 0)) S hK (tw_MD hd) 14 0 rfl rfl dX3_trees_13 (by unfold vp_in; decide) ((tw_Ms13 (upd (σ 13) 0 x)).trans rfl) ?_
  refine tg_w (σ2 := tg_upA (tg_upA (tg_upA σ 12 (σ 12)) 13 (upd (σ 13) 0 x)) 14 (fun _ => 0)) rfl ?_
  refine tg_while (X := Int32 × Int32 × tb_A × tb_A) (fb_trF (σ 10) (σ 4)) 31 (0, 0, σ 12, upd (σ 13) 0 x) (fun q => tg_upA (tg_upA (tg_upA σ 12 q.2.2.1) 13 q.2.2.2) 14 (fun _ => q.2.1)) (fun q => [(0, .ref (h 0)), (1, .int x), (2, .int q.1)]) (fun _ => rfl) hv ?_
  intro n1 q hF_q hk_q
  refine tg_iload_n S 2 dX3_trees_14 rfl rfl ?_
  refine tg_if_lt (tgt := 183) S dX3_trees_15 (by decide) (fun c_1 => ?_) (fun c_1 => ?_)
  · skip
    have h9 : (q.2.1, q.2.2.1, q.2.2.2) = r := by simpa [fb_trF, c_1] using hF_q
    subst h9
    refine tg_w (σ2 := tg_upA (tg_upA (tg_upA σ 12 q.2.2.1) 13 q.2.2.2) 14 (fun _ => q.2.1)) rfl ?_
    exact tg_vret S hr hlk dX3_trees_183 rfl
  · skip
    have hs_1 : fb_in q.1 0 59 = true ∧ fa_id q.2.1 = true := by
      by_cases hh : fb_in q.1 0 59 = true ∧ fa_id q.2.1 = true
      · exact hh
      · simp [fb_trF, c_1, hh] at hF_q
    obtain ⟨r2, hq_1, hq_2⟩ : ∃ r2, fb_tnF (σ 10) (σ 4) (q.2.2.2 q.1.toNatClampNeg) 30 0 (q.1 + (-1), q.2.2.2, -1) = some r2 ∧ fb_trF (σ 10) (σ 4) n1 (r2.1, q.2.1 + 1, upd q.2.2.1 q.2.1.toNatClampNeg (q.2.2.2 q.1.toNatClampNeg), r2.2) = some r := by
      unfold fb_trF at hF_q
      rw [if_neg c_1, if_pos hs_1] at hF_q
      cases hh : fb_tnF (σ 10) (σ 4) (q.2.2.2 q.1.toNatClampNeg) 30 0 (q.1 + (-1), q.2.2.2, -1) with
      | none => rw [hh] at hF_q; cases hF_q
      | some r2 => rw [hh] at hF_q; exact ⟨r2, rfl, hF_q⟩
    refine tg_aload_n S 0 dX3_trees_18 rfl rfl ?_
    refine tg_get (v := .ref (h 14)) S tw_v3 hK 0 rfl rfl 14 (by decide) (tw_in fl_RX3_50 rfl) dX3_trees_19 rfl ?_
    refine tg_iload_n S 2 dX3_trees_22 rfl rfl ?_
    refine tg_iald (v := q.2.2.2 q.1.toNatClampNeg) S hK 14 0 rfl rfl dX3_trees_23 (fb_in60 hs_1.1) rfl ?_
    refine tg_istore_n (L' := [(0, .ref (h 0)), (1, .int x), (2, .int q.1), (3, .int (q.2.2.2 q.1.toNatClampNeg))]) [1, 2, 3, 0] S dX3_trees_24 rfl (by decide) rfl ?_
    refine tg_iinc (v := q.1 + (-1)) (L' := [(0, .ref (h 0)), (1, .int x), (2, .int (q.1 + (-1))), (3, .int (q.2.2.2 q.1.toNatClampNeg))]) [1, 2, 0, 3] S 2 dX3_trees_25 rfl rfl (by decide) rfl ?_
    refine tg_aload_n S 0 dX3_trees_28 rfl rfl ?_
    refine tg_get (v := .ref (h 13)) S tw_v3 hK 0 rfl rfl 12 (by decide) (tw_in fl_RX3_47 rfl) dX3_trees_29 rfl ?_
    refine tg_aload_n S 0 dX3_trees_32 rfl rfl ?_
    refine tg_get (v := .int q.2.1) S tw_v3 hK 0 rfl rfl 13 (by decide) (tw_in fl_RX3_79 rfl) dX3_trees_33 rfl ?_
    refine tg_iload_n S 3 dX3_trees_36 rfl rfl ?_
    refine tg_iast (σ2 := tg_upA (tg_upA (tg_upA σ 12 (upd q.2.2.1 q.2.1.toNatClampNeg (q.2.2.2 q.1.toNatClampNeg))) 13 q.2.2.2) 14 (fun _ => q.2.1)) S hK (tw_MD hd) 13 0 rfl rfl dX3_trees_37 (fa_id_in hs_1.2) ((tw_Ms12 (upd q.2.2.1 q.2.1.toNatClampNeg (q.2.2.2 q.1.toNatClampNeg))).trans rfl) ?_
    refine tg_aload_n S 0 dX3_trees_38 rfl rfl ?_
    refine tg_dup S dX3_trees_39 rfl ?_
    refine tg_get (v := .int q.2.1) S tw_v3 hK 0 rfl rfl 13 (by decide) (tw_in fl_RX3_79 rfl) dX3_trees_40 rfl ?_
    refine tg_iconst (v := 1) S dX3_trees_43 (by decide) ?_
    refine tg_iadd S dX3_trees_44 ?_
    refine tg_put (σ2 := tg_upA (tg_upA (tg_upA σ 12 (upd q.2.2.1 q.2.1.toNatClampNeg (q.2.2.2 q.1.toNatClampNeg))) 13 q.2.2.2) 14 (fun _ => q.2.1 + 1)) S tw_v3 tyX3 tyX3_ok nmX3 hK (tw_MD hd) 0 rfl rfl 13 (by decide) (tw_in fl_RX3_79 rfl) dX3_trees_45 rfl (by decide +kernel) (Nat.le_of_ble_eq_true rfl) rfl ?_
    refine tg_iconst (v := -1) S dX3_trees_48 (by decide) ?_
    refine tg_istore (L' := [(0, .ref (h 0)), (1, .int x), (2, .int (q.1 + (-1))), (3, .int (q.2.2.2 q.1.toNatClampNeg)), (4, .int (-1))]) [1, 2, 3, 4, 0] S dX3_trees_49 (by decide) rfl ?_
    refine tg_iconst (v := nI 0) S dX3_trees_51 (by decide) ?_
    refine tg_istore (L' := [(0, .ref (h 0)), (1, .int x), (2, .int (q.1 + (-1))), (3, .int (q.2.2.2 q.1.toNatClampNeg)), (4, .int (-1)), (5, .int (nI 0))]) [1, 2, 3, 4, 5, 0] S dX3_trees_52 (by decide) rfl ?_
    refine tg_w (σ2 := tg_upA (tg_upA (tg_upA σ 12 (upd q.2.2.1 q.2.1.toNatClampNeg (q.2.2.2 q.1.toNatClampNeg))) 13 q.2.2.2) 14 (fun _ => q.2.1 + 1)) rfl ?_
    refine tg_fuel (X := Int32 × tb_A × Int32) (fb_tnF (σ 10) (σ 4) (q.2.2.2 q.1.toNatClampNeg)) 30 (q.1 + (-1), q.2.2.2, -1) (fun p1 => tg_upA (tg_upA (tg_upA σ 12 (upd q.2.2.1 q.2.1.toNatClampNeg (q.2.2.2 q.1.toNatClampNeg))) 13 p1.2.1) 14 (fun _ => q.2.1 + 1)) (fun j p1 => [(0, .ref (h 0)), (1, .int x), (2, .int p1.1), (3, .int (q.2.2.2 q.1.toNatClampNeg)), (4, .int p1.2.2), (5, .int (nI j))]) hq_1 ?_ ?_
    · skip
      intro n2 j p1 hn_j hF_j hk_j
      have hi_j : j < 30 := by omega
      have hs_2 : p1.2.2 = -1 ∨ fa_id p1.2.2 = true := by
        by_cases hh : p1.2.2 = -1 ∨ fa_id p1.2.2 = true
        · exact hh
        · simp [fb_tnF, hh] at hF_j
      refine tg_iload S 5 dX3_trees_54 rfl ?_
      refine tg_bipush (v := 30) S dX3_trees_56 (by decide) ?_
      refine tg_icmp_ge (tgt := 180) S dX3_trees_58 (by decide) (fun c => absurd c (tg_nge hi_j)) (fun _ => ?_)
      refine tg_iconst (v := -1) S dX3_trees_61 (by decide) ?_
      refine tg_istore (L' := [(0, .ref (h 0)), (1, .int x), (2, .int p1.1), (3, .int (q.2.2.2 q.1.toNatClampNeg)), (4, .int p1.2.2), (5, .int (nI j)), (6, .int (-1))]) [1, 2, 3, 4, 5, 6, 0] S dX3_trees_62 (by decide) rfl ?_
      refine tg_iconst (v := nI 0) S dX3_trees_64 (by decide) ?_
      refine tg_istore (L' := [(0, .ref (h 0)), (1, .int x), (2, .int p1.1), (3, .int (q.2.2.2 q.1.toNatClampNeg)), (4, .int p1.2.2), (5, .int (nI j)), (6, .int (-1)), (7, .int (nI 0))]) [1, 2, 3, 4, 5, 6, 7, 0] S dX3_trees_65 (by decide) rfl ?_
      refine tg_loopI (X := Int32) (fun k b => b = -1 ∨ vp_in b 30) (fb_bs (σ 10) (σ 4) (q.2.2.2 q.1.toNatClampNeg) (p1.2.2)) 30 (-1) (fun b => tg_upA (tg_upA (tg_upA σ 12 (upd q.2.2.1 q.2.1.toNatClampNeg (q.2.2.2 q.1.toNatClampNeg))) 13 p1.2.1) 14 (fun _ => q.2.1 + 1)) (fun k b => [(0, .ref (h 0)), (1, .int x), (2, .int p1.1), (3, .int (q.2.2.2 q.1.toNatClampNeg)), (4, .int p1.2.2), (5, .int (nI j)), (6, .int b), (7, .int (nI k))]) (Or.inl rfl) (fun k x hk h => fb_bs_in hk h) ?_ ?_
      · skip
        intro k b hi_k hI_k hk_k
        refine tg_iload S 7 dX3_trees_67 rfl ?_
        refine tg_bipush (v := 30) S dX3_trees_69 (by decide) ?_
        refine tg_icmp_ge (tgt := 146) S dX3_trees_71 (by decide) (fun c => absurd c (tg_nge hi_k)) (fun _ => ?_)
        refine tg_aload_n S 0 dX3_trees_74 rfl rfl ?_
        refine tg_get (v := .ref (h 11)) S tw_v3 hK 0 rfl rfl 10 (by decide) (tw_in fl_RX3_41 rfl) dX3_trees_75 rfl ?_
        refine tg_iload S 7 dX3_trees_78 rfl ?_
        refine tg_iald (v := σ 10 k) S hK 11 0 rfl rfl dX3_trees_80 (tg_in hi_k (by decide)) (congrArg ((σ 10)) (tg_cl (Nat.lt_trans hi_k (by decide)))) ?_
        refine tg_iload_n S 3 dX3_trees_81 rfl rfl ?_
        refine tg_icmp_ne (tgt := 106) S dX3_trees_82 (by decide) (fun c_2 => ?_) (fun c_2 => ?_)
        · skip
          refine tg_iconst (v := 0) S dX3_trees_106 (by decide) ?_
          refine tg_istore (L' := [(0, .ref (h 0)), (1, .int x), (2, .int p1.1), (3, .int (q.2.2.2 q.1.toNatClampNeg)), (4, .int p1.2.2), (5, .int (nI j)), (6, .int b), (7, .int (nI k)), (8, .int 0)]) [1, 2, 3, 4, 5, 6, 7, 8, 0] S dX3_trees_107 (by decide) rfl ?_
          refine tg_iload S 8 dX3_trees_109 rfl ?_
          refine tg_if_eq (tgt := 136) S dX3_trees_111 (by decide) (fun _ => ?_) (fun c => absurd (by decide) c)
          refine tg_iload S 6 dX3_trees_136 rfl ?_
          refine tg_istore (L' := [(0, .ref (h 0)), (1, .int x), (2, .int p1.1), (3, .int (q.2.2.2 q.1.toNatClampNeg)), (4, .int p1.2.2), (5, .int (nI j)), (6, .int b), (7, .int (nI k)), (8, .int 0)]) [1, 2, 3, 4, 5, 6, 0, 7, 8] S dX3_trees_138 (by decide) rfl ?_
          refine tg_iinc (v := nI (k + 1)) (L' := [(0, .ref (h 0)), (1, .int x), (2, .int p1.1), (3, .int (q.2.2.2 q.1.toNatClampNeg)), (4, .int p1.2.2), (5, .int (nI j)), (6, .int b), (7, .int (nI (k + 1))), (8, .int 0)]) [1, 2, 3, 4, 5, 6, 7, 0, 8] S 7 dX3_trees_140 rfl (tg_inc _) (by decide) rfl ?_
          refine tg_goto (tgt := 67) S dX3_trees_143 (by decide) ?_
          refine tg_sub (L' := [(0, .ref (h 0)), (1, .int x), (2, .int p1.1), (3, .int (q.2.2.2 q.1.toNatClampNeg)), (4, .int p1.2.2), (5, .int (nI j)), (6, .int b), (7, .int (nI (k + 1)))]) [0, 1, 2, 3, 4, 5, 6, 7] rfl ?_
          have e_1 : fb_bs (σ 10) (σ 4) (q.2.2.2 q.1.toNatClampNeg) (p1.2.2) k b = b := (by first | (simp [fb_bs, c_1, hs_2, c_2]; done) | (simp only [fb_bs, if_neg c_1, if_pos hs_2, if_neg c_2]; done))
          rw [e_1] at hk_k
          exact hk_k
        · skip
          refine tg_iload S 4 dX3_trees_85 rfl ?_
          refine tg_iconst (v := -1) S dX3_trees_87 (by decide) ?_
          refine tg_icmp_eq (tgt := 102) S dX3_trees_88 (by decide) (fun c_4 => ?_) (fun c_4 => ?_)
          · skip
            refine tg_iconst (v := 1) S dX3_trees_102 (by decide) ?_
            refine tg_goto (tgt := 107) S dX3_trees_103 (by decide) ?_
            refine tg_istore (L' := [(0, .ref (h 0)), (1, .int x), (2, .int p1.1), (3, .int (q.2.2.2 q.1.toNatClampNeg)), (4, .int p1.2.2), (5, .int (nI j)), (6, .int b), (7, .int (nI k)), (8, .int 1)]) [1, 2, 3, 4, 5, 6, 7, 8, 0] S dX3_trees_107 (by decide) rfl ?_
            refine tg_iload S 8 dX3_trees_109 rfl ?_
            refine tg_if_eq (tgt := 136) S dX3_trees_111 (by decide) (fun c => absurd c (by decide)) (fun _ => ?_)
            refine tg_iload S 6 dX3_trees_114 rfl ?_
            refine tg_iconst (v := -1) S dX3_trees_116 (by decide) ?_
            refine tg_icmp_eq (tgt := 131) S dX3_trees_117 (by decide) (fun c_6 => ?_) (fun c_6 => ?_)
            · skip
              refine tg_iload S 7 dX3_trees_131 rfl ?_
              refine tg_goto (tgt := 138) S dX3_trees_133 (by decide) ?_
              refine tg_istore (L' := [(0, .ref (h 0)), (1, .int x), (2, .int p1.1), (3, .int (q.2.2.2 q.1.toNatClampNeg)), (4, .int p1.2.2), (5, .int (nI j)), (6, .int (nI k)), (7, .int (nI k)), (8, .int 1)]) [1, 2, 3, 4, 5, 6, 0, 7, 8] S dX3_trees_138 (by decide) rfl ?_
              refine tg_iinc (v := nI (k + 1)) (L' := [(0, .ref (h 0)), (1, .int x), (2, .int p1.1), (3, .int (q.2.2.2 q.1.toNatClampNeg)), (4, .int p1.2.2), (5, .int (nI j)), (6, .int (nI k)), (7, .int (nI (k + 1))), (8, .int 1)]) [1, 2, 3, 4, 5, 6, 7, 0, 8] S 7 dX3_trees_140 rfl (tg_inc _) (by decide) rfl ?_
              refine tg_goto (tgt := 67) S dX3_trees_143 (by decide) ?_
              refine tg_sub (L' := [(0, .ref (h 0)), (1, .int x), (2, .int p1.1), (3, .int (q.2.2.2 q.1.toNatClampNeg)), (4, .int p1.2.2), (5, .int (nI j)), (6, .int (nI k)), (7, .int (nI (k + 1)))]) [0, 1, 2, 3, 4, 5, 6, 7] rfl ?_
              have e_2 : fb_bs (σ 10) (σ 4) (q.2.2.2 q.1.toNatClampNeg) (p1.2.2) k b = nI k := (by first | (simp [fb_bs, c_1, hs_2, c_2, c_4, c_6]; done) | (simp only [fb_bs, if_neg c_1, if_pos hs_2, if_pos c_2, if_pos c_4, if_pos c_6]; done))
              rw [e_2] at hk_k
              exact hk_k
            · skip
              refine tg_aload_n S 0 dX3_trees_120 rfl rfl ?_
              refine tg_iload S 6 dX3_trees_121 rfl ?_
              refine tg_iload S 7 dX3_trees_123 rfl ?_
              refine tg_callV (nA := 2) (As := [.int b, .int (nI k)]) (rest := []) (q := (RX3, TX3, 16)) S hK hN (k_X3_isAhead hd (tg_upA (tg_upA (tg_upA σ 12 (upd q.2.2.1 q.2.1.toNatClampNeg (q.2.2.2 q.1.toNatClampNeg))) 13 p1.2.1) 14 (fun _ => q.2.1 + 1)) b (nI k) (hI_k.resolve_left c_6) (tg_in hi_k (by decide))) 0 rfl rfl (tw_gV ml_RX3_82 im_X3_isAhead se_X3_isAhead in_RX3 co_X3_isAhead rfl) rfl (by decide +kernel) ⟨Nat.le_of_ble_eq_true rfl, Nat.le_of_ble_eq_true rfl⟩ rfl rfl (Nat.le_of_ble_eq_true rfl) dX3_trees_125 ⟨Nat.le_of_ble_eq_true rfl, Nat.le_of_ble_eq_true rfl⟩ ?_
              refine tg_w (σ2 := tg_upA (tg_upA (tg_upA σ 12 (upd q.2.2.1 q.2.1.toNatClampNeg (q.2.2.2 q.1.toNatClampNeg))) 13 p1.2.1) 14 (fun _ => q.2.1 + 1)) rfl ?_
              refine tg_eq (σ2 := tg_upA (tg_upA (tg_upA σ 12 (upd q.2.2.1 q.2.1.toNatClampNeg (q.2.2.2 q.1.toNatClampNeg))) 13 p1.2.1) 14 (fun _ => q.2.1 + 1)) (L2 := [(0, .ref (h 0)), (1, .int x), (2, .int p1.1), (3, .int (q.2.2.2 q.1.toNatClampNeg)), (4, .int p1.2.2), (5, .int (nI j)), (6, .int b), (7, .int (nI k)), (8, .int 1)]) (st2 := [.int (tg_b (fb_ahead (σ 4) b (nI k)))]) rfl rfl rfl ?_
              refine tg_ifz (tgt := 136) S dX3_trees_128 (by decide) (fun c_7 => ?_) (fun c_7 => ?_)
              · skip
                refine tg_iload S 6 dX3_trees_136 rfl ?_
                refine tg_istore (L' := [(0, .ref (h 0)), (1, .int x), (2, .int p1.1), (3, .int (q.2.2.2 q.1.toNatClampNeg)), (4, .int p1.2.2), (5, .int (nI j)), (6, .int b), (7, .int (nI k)), (8, .int 1)]) [1, 2, 3, 4, 5, 6, 0, 7, 8] S dX3_trees_138 (by decide) rfl ?_
                refine tg_iinc (v := nI (k + 1)) (L' := [(0, .ref (h 0)), (1, .int x), (2, .int p1.1), (3, .int (q.2.2.2 q.1.toNatClampNeg)), (4, .int p1.2.2), (5, .int (nI j)), (6, .int b), (7, .int (nI (k + 1))), (8, .int 1)]) [1, 2, 3, 4, 5, 6, 7, 0, 8] S 7 dX3_trees_140 rfl (tg_inc _) (by decide) rfl ?_
                refine tg_goto (tgt := 67) S dX3_trees_143 (by decide) ?_
                refine tg_sub (L' := [(0, .ref (h 0)), (1, .int x), (2, .int p1.1), (3, .int (q.2.2.2 q.1.toNatClampNeg)), (4, .int p1.2.2), (5, .int (nI j)), (6, .int b), (7, .int (nI (k + 1)))]) [0, 1, 2, 3, 4, 5, 6, 7] rfl ?_
                have e_3 : fb_bs (σ 10) (σ 4) (q.2.2.2 q.1.toNatClampNeg) (p1.2.2) k b = b := (by first | (simp [fb_bs, c_1, hs_2, c_2, c_4, c_6, c_7]; done) | (simp only [fb_bs, if_neg c_1, if_pos hs_2, if_pos c_2, if_pos c_4, if_neg c_6, if_neg (ne_true_of_eq_false c_7)]; done))
                rw [e_3] at hk_k
                exact hk_k
              · skip
                refine tg_iload S 7 dX3_trees_131 rfl ?_
                refine tg_goto (tgt := 138) S dX3_trees_133 (by decide) ?_
                refine tg_istore (L' := [(0, .ref (h 0)), (1, .int x), (2, .int p1.1), (3, .int (q.2.2.2 q.1.toNatClampNeg)), (4, .int p1.2.2), (5, .int (nI j)), (6, .int (nI k)), (7, .int (nI k)), (8, .int 1)]) [1, 2, 3, 4, 5, 6, 0, 7, 8] S dX3_trees_138 (by decide) rfl ?_
                refine tg_iinc (v := nI (k + 1)) (L' := [(0, .ref (h 0)), (1, .int x), (2, .int p1.1), (3, .int (q.2.2.2 q.1.toNatClampNeg)), (4, .int p1.2.2), (5, .int (nI j)), (6, .int (nI k)), (7, .int (nI (k + 1))), (8, .int 1)]) [1, 2, 3, 4, 5, 6, 7, 0, 8] S 7 dX3_trees_140 rfl (tg_inc _) (by decide) rfl ?_
                refine tg_goto (tgt := 67) S dX3_trees_143 (by decide) ?_
                refine tg_sub (L' := [(0, .ref (h 0)), (1, .int x), (2, .int p1.1), (3, .int (q.2.2.2 q.1.toNatClampNeg)), (4, .int p1.2.2), (5, .int (nI j)), (6, .int (nI k)), (7, .int (nI (k + 1)))]) [0, 1, 2, 3, 4, 5, 6, 7] rfl ?_
                have e_4 : fb_bs (σ 10) (σ 4) (q.2.2.2 q.1.toNatClampNeg) (p1.2.2) k b = nI k := (by first | (simp [fb_bs, c_1, hs_2, c_2, c_4, c_6, c_7]; done) | (simp only [fb_bs, if_neg c_1, if_pos hs_2, if_pos c_2, if_pos c_4, if_neg c_6, if_pos c_7]; done))
                rw [e_4] at hk_k
                exact hk_k
          · skip
            refine tg_aload_n S 0 dX3_trees_91 rfl rfl ?_
            refine tg_iload S 7 dX3_trees_92 rfl ?_
            refine tg_iload S 4 dX3_trees_94 rfl ?_
            refine tg_callV (nA := 2) (As := [.int (nI k), .int p1.2.2]) (rest := []) (q := (RX3, TX3, 16)) S hK hN (k_X3_isAhead hd (tg_upA (tg_upA (tg_upA σ 12 (upd q.2.2.1 q.2.1.toNatClampNeg (q.2.2.2 q.1.toNatClampNeg))) 13 p1.2.1) 14 (fun _ => q.2.1 + 1)) (nI k) p1.2.2 (tg_in hi_k (by decide)) (fa_id_in (hs_2.resolve_left c_4))) 0 rfl rfl (tw_gV ml_RX3_82 im_X3_isAhead se_X3_isAhead in_RX3 co_X3_isAhead rfl) rfl (by decide +kernel) ⟨Nat.le_of_ble_eq_true rfl, Nat.le_of_ble_eq_true rfl⟩ rfl rfl (Nat.le_of_ble_eq_true rfl) dX3_trees_96 ⟨Nat.le_of_ble_eq_true rfl, Nat.le_of_ble_eq_true rfl⟩ ?_
            refine tg_w (σ2 := tg_upA (tg_upA (tg_upA σ 12 (upd q.2.2.1 q.2.1.toNatClampNeg (q.2.2.2 q.1.toNatClampNeg))) 13 p1.2.1) 14 (fun _ => q.2.1 + 1)) rfl ?_
            refine tg_eq (σ2 := tg_upA (tg_upA (tg_upA σ 12 (upd q.2.2.1 q.2.1.toNatClampNeg (q.2.2.2 q.1.toNatClampNeg))) 13 p1.2.1) 14 (fun _ => q.2.1 + 1)) (L2 := [(0, .ref (h 0)), (1, .int x), (2, .int p1.1), (3, .int (q.2.2.2 q.1.toNatClampNeg)), (4, .int p1.2.2), (5, .int (nI j)), (6, .int b), (7, .int (nI k))]) (st2 := [.int (tg_b (fb_ahead (σ 4) (nI k) p1.2.2))]) rfl rfl rfl ?_
            refine tg_ifz (tgt := 106) S dX3_trees_99 (by decide) (fun c_8 => ?_) (fun c_8 => ?_)
            · skip
              refine tg_iconst (v := 0) S dX3_trees_106 (by decide) ?_
              refine tg_istore (L' := [(0, .ref (h 0)), (1, .int x), (2, .int p1.1), (3, .int (q.2.2.2 q.1.toNatClampNeg)), (4, .int p1.2.2), (5, .int (nI j)), (6, .int b), (7, .int (nI k)), (8, .int 0)]) [1, 2, 3, 4, 5, 6, 7, 8, 0] S dX3_trees_107 (by decide) rfl ?_
              refine tg_iload S 8 dX3_trees_109 rfl ?_
              refine tg_if_eq (tgt := 136) S dX3_trees_111 (by decide) (fun _ => ?_) (fun c => absurd (by decide) c)
              refine tg_iload S 6 dX3_trees_136 rfl ?_
              refine tg_istore (L' := [(0, .ref (h 0)), (1, .int x), (2, .int p1.1), (3, .int (q.2.2.2 q.1.toNatClampNeg)), (4, .int p1.2.2), (5, .int (nI j)), (6, .int b), (7, .int (nI k)), (8, .int 0)]) [1, 2, 3, 4, 5, 6, 0, 7, 8] S dX3_trees_138 (by decide) rfl ?_
              refine tg_iinc (v := nI (k + 1)) (L' := [(0, .ref (h 0)), (1, .int x), (2, .int p1.1), (3, .int (q.2.2.2 q.1.toNatClampNeg)), (4, .int p1.2.2), (5, .int (nI j)), (6, .int b), (7, .int (nI (k + 1))), (8, .int 0)]) [1, 2, 3, 4, 5, 6, 7, 0, 8] S 7 dX3_trees_140 rfl (tg_inc _) (by decide) rfl ?_
              refine tg_goto (tgt := 67) S dX3_trees_143 (by decide) ?_
              refine tg_sub (L' := [(0, .ref (h 0)), (1, .int x), (2, .int p1.1), (3, .int (q.2.2.2 q.1.toNatClampNeg)), (4, .int p1.2.2), (5, .int (nI j)), (6, .int b), (7, .int (nI (k + 1)))]) [0, 1, 2, 3, 4, 5, 6, 7] rfl ?_
              have e_5 : fb_bs (σ 10) (σ 4) (q.2.2.2 q.1.toNatClampNeg) (p1.2.2) k b = b := (by first | (simp [fb_bs, c_1, hs_2, c_2, c_4, c_8]; done) | (simp only [fb_bs, if_neg c_1, if_pos hs_2, if_pos c_2, if_neg c_4, if_neg (ne_true_of_eq_false c_8)]; done))
              rw [e_5] at hk_k
              exact hk_k
            · skip
              refine tg_iconst (v := 1) S dX3_trees_102 (by decide) ?_
              refine tg_goto (tgt := 107) S dX3_trees_103 (by decide) ?_
              refine tg_istore (L' := [(0, .ref (h 0)), (1, .int x), (2, .int p1.1), (3, .int (q.2.2.2 q.1.toNatClampNeg)), (4, .int p1.2.2), (5, .int (nI j)), (6, .int b), (7, .int (nI k)), (8, .int 1)]) [1, 2, 3, 4, 5, 6, 7, 8, 0] S dX3_trees_107 (by decide) rfl ?_
              refine tg_iload S 8 dX3_trees_109 rfl ?_
              refine tg_if_eq (tgt := 136) S dX3_trees_111 (by decide) (fun c => absurd c (by decide)) (fun _ => ?_)
              refine tg_iload S 6 dX3_trees_114 rfl ?_
              refine tg_iconst (v := -1) S dX3_trees_116 (by decide) ?_
              refine tg_icmp_eq (tgt := 131) S dX3_trees_117 (by decide) (fun c_11 => ?_) (fun c_11 => ?_)
              · skip
                refine tg_iload S 7 dX3_trees_131 rfl ?_
                refine tg_goto (tgt := 138) S dX3_trees_133 (by decide) ?_
                refine tg_istore (L' := [(0, .ref (h 0)), (1, .int x), (2, .int p1.1), (3, .int (q.2.2.2 q.1.toNatClampNeg)), (4, .int p1.2.2), (5, .int (nI j)), (6, .int (nI k)), (7, .int (nI k)), (8, .int 1)]) [1, 2, 3, 4, 5, 6, 0, 7, 8] S dX3_trees_138 (by decide) rfl ?_
                refine tg_iinc (v := nI (k + 1)) (L' := [(0, .ref (h 0)), (1, .int x), (2, .int p1.1), (3, .int (q.2.2.2 q.1.toNatClampNeg)), (4, .int p1.2.2), (5, .int (nI j)), (6, .int (nI k)), (7, .int (nI (k + 1))), (8, .int 1)]) [1, 2, 3, 4, 5, 6, 7, 0, 8] S 7 dX3_trees_140 rfl (tg_inc _) (by decide) rfl ?_
                refine tg_goto (tgt := 67) S dX3_trees_143 (by decide) ?_
                refine tg_sub (L' := [(0, .ref (h 0)), (1, .int x), (2, .int p1.1), (3, .int (q.2.2.2 q.1.toNatClampNeg)), (4, .int p1.2.2), (5, .int (nI j)), (6, .int (nI k)), (7, .int (nI (k + 1)))]) [0, 1, 2, 3, 4, 5, 6, 7] rfl ?_
                have e_6 : fb_bs (σ 10) (σ 4) (q.2.2.2 q.1.toNatClampNeg) (p1.2.2) k b = nI k := (by first | (simp [fb_bs, c_1, hs_2, c_2, c_4, c_8, c_11]; done) | (simp only [fb_bs, if_neg c_1, if_pos hs_2, if_pos c_2, if_neg c_4, if_pos c_8, if_pos c_11]; done))
                rw [e_6] at hk_k
                exact hk_k
              · skip
                refine tg_aload_n S 0 dX3_trees_120 rfl rfl ?_
                refine tg_iload S 6 dX3_trees_121 rfl ?_
                refine tg_iload S 7 dX3_trees_123 rfl ?_
                refine tg_callV (nA := 2) (As := [.int b, .int (nI k)]) (rest := []) (q := (RX3, TX3, 16)) S hK hN (k_X3_isAhead hd (tg_upA (tg_upA (tg_upA σ 12 (upd q.2.2.1 q.2.1.toNatClampNeg (q.2.2.2 q.1.toNatClampNeg))) 13 p1.2.1) 14 (fun _ => q.2.1 + 1)) b (nI k) (hI_k.resolve_left c_11) (tg_in hi_k (by decide))) 0 rfl rfl (tw_gV ml_RX3_82 im_X3_isAhead se_X3_isAhead in_RX3 co_X3_isAhead rfl) rfl (by decide +kernel) ⟨Nat.le_of_ble_eq_true rfl, Nat.le_of_ble_eq_true rfl⟩ rfl rfl (Nat.le_of_ble_eq_true rfl) dX3_trees_125 ⟨Nat.le_of_ble_eq_true rfl, Nat.le_of_ble_eq_true rfl⟩ ?_
                refine tg_w (σ2 := tg_upA (tg_upA (tg_upA σ 12 (upd q.2.2.1 q.2.1.toNatClampNeg (q.2.2.2 q.1.toNatClampNeg))) 13 p1.2.1) 14 (fun _ => q.2.1 + 1)) rfl ?_
                refine tg_eq (σ2 := tg_upA (tg_upA (tg_upA σ 12 (upd q.2.2.1 q.2.1.toNatClampNeg (q.2.2.2 q.1.toNatClampNeg))) 13 p1.2.1) 14 (fun _ => q.2.1 + 1)) (L2 := [(0, .ref (h 0)), (1, .int x), (2, .int p1.1), (3, .int (q.2.2.2 q.1.toNatClampNeg)), (4, .int p1.2.2), (5, .int (nI j)), (6, .int b), (7, .int (nI k)), (8, .int 1)]) (st2 := [.int (tg_b (fb_ahead (σ 4) b (nI k)))]) rfl rfl rfl ?_
                refine tg_ifz (tgt := 136) S dX3_trees_128 (by decide) (fun c_12 => ?_) (fun c_12 => ?_)
                · skip
                  refine tg_iload S 6 dX3_trees_136 rfl ?_
                  refine tg_istore (L' := [(0, .ref (h 0)), (1, .int x), (2, .int p1.1), (3, .int (q.2.2.2 q.1.toNatClampNeg)), (4, .int p1.2.2), (5, .int (nI j)), (6, .int b), (7, .int (nI k)), (8, .int 1)]) [1, 2, 3, 4, 5, 6, 0, 7, 8] S dX3_trees_138 (by decide) rfl ?_
                  refine tg_iinc (v := nI (k + 1)) (L' := [(0, .ref (h 0)), (1, .int x), (2, .int p1.1), (3, .int (q.2.2.2 q.1.toNatClampNeg)), (4, .int p1.2.2), (5, .int (nI j)), (6, .int b), (7, .int (nI (k + 1))), (8, .int 1)]) [1, 2, 3, 4, 5, 6, 7, 0, 8] S 7 dX3_trees_140 rfl (tg_inc _) (by decide) rfl ?_
                  refine tg_goto (tgt := 67) S dX3_trees_143 (by decide) ?_
                  refine tg_sub (L' := [(0, .ref (h 0)), (1, .int x), (2, .int p1.1), (3, .int (q.2.2.2 q.1.toNatClampNeg)), (4, .int p1.2.2), (5, .int (nI j)), (6, .int b), (7, .int (nI (k + 1)))]) [0, 1, 2, 3, 4, 5, 6, 7] rfl ?_
                  have e_7 : fb_bs (σ 10) (σ 4) (q.2.2.2 q.1.toNatClampNeg) (p1.2.2) k b = b := (by first | (simp [fb_bs, c_1, hs_2, c_2, c_4, c_8, c_11, c_12]; done) | (simp only [fb_bs, if_neg c_1, if_pos hs_2, if_pos c_2, if_neg c_4, if_pos c_8, if_neg c_11, if_neg (ne_true_of_eq_false c_12)]; done))
                  rw [e_7] at hk_k
                  exact hk_k
                · skip
                  refine tg_iload S 7 dX3_trees_131 rfl ?_
                  refine tg_goto (tgt := 138) S dX3_trees_133 (by decide) ?_
                  refine tg_istore (L' := [(0, .ref (h 0)), (1, .int x), (2, .int p1.1), (3, .int (q.2.2.2 q.1.toNatClampNeg)), (4, .int p1.2.2), (5, .int (nI j)), (6, .int (nI k)), (7, .int (nI k)), (8, .int 1)]) [1, 2, 3, 4, 5, 6, 0, 7, 8] S dX3_trees_138 (by decide) rfl ?_
                  refine tg_iinc (v := nI (k + 1)) (L' := [(0, .ref (h 0)), (1, .int x), (2, .int p1.1), (3, .int (q.2.2.2 q.1.toNatClampNeg)), (4, .int p1.2.2), (5, .int (nI j)), (6, .int (nI k)), (7, .int (nI (k + 1))), (8, .int 1)]) [1, 2, 3, 4, 5, 6, 7, 0, 8] S 7 dX3_trees_140 rfl (tg_inc _) (by decide) rfl ?_
                  refine tg_goto (tgt := 67) S dX3_trees_143 (by decide) ?_
                  refine tg_sub (L' := [(0, .ref (h 0)), (1, .int x), (2, .int p1.1), (3, .int (q.2.2.2 q.1.toNatClampNeg)), (4, .int p1.2.2), (5, .int (nI j)), (6, .int (nI k)), (7, .int (nI (k + 1)))]) [0, 1, 2, 3, 4, 5, 6, 7] rfl ?_
                  have e_8 : fb_bs (σ 10) (σ 4) (q.2.2.2 q.1.toNatClampNeg) (p1.2.2) k b = nI k := (by first | (simp [fb_bs, c_1, hs_2, c_2, c_4, c_8, c_11, c_12]; done) | (simp only [fb_bs, if_neg c_1, if_pos hs_2, if_pos c_2, if_neg c_4, if_pos c_8, if_neg c_11, if_pos c_12]; done))
                  rw [e_8] at hk_k
                  exact hk_k
      · skip
        intro hE_k
        refine tg_w (σ2 := tg_upA (tg_upA (tg_upA σ 12 (upd q.2.2.1 q.2.1.toNatClampNeg (q.2.2.2 q.1.toNatClampNeg))) 13 p1.2.1) 14 (fun _ => q.2.1 + 1)) rfl ?_
        refine tg_sub (L' := [(0, .ref (h 0)), (1, .int x), (2, .int p1.1), (3, .int (q.2.2.2 q.1.toNatClampNeg)), (4, .int p1.2.2), (5, .int (nI j)), (6, .int (fb_sel (σ 10) (σ 4) (q.2.2.2 q.1.toNatClampNeg) (p1.2.2))), (7, .int (nI 30))]) [0, 1, 2, 3, 4, 5, 6, 7] rfl ?_
        refine tg_iload S 7 dX3_trees_67 rfl ?_
        refine tg_bipush (v := 30) S dX3_trees_69 (by decide) ?_
        refine tg_icmp_ge (tgt := 146) S dX3_trees_71 (by decide) (fun _ => ?_) (fun c => absurd tg_ge c)
        refine tg_iload S 6 dX3_trees_146 rfl ?_
        refine tg_iconst (v := -1) S dX3_trees_148 (by decide) ?_
        refine tg_icmp_ne (tgt := 159) S dX3_trees_149 (by decide) (fun c_13 => ?_) (fun c_13 => ?_)
        · skip
          have hs_3 : fb_in (p1.1 + 1) 0 59 = true := by
            by_cases hh : fb_in (p1.1 + 1) 0 59 = true
            · exact hh
            · simp [fb_tnF, hs_2, c_1, hs_2, c_13, hh] at hF_j
          refine tg_iinc (v := p1.1 + 1) (L' := [(0, .ref (h 0)), (1, .int x), (2, .int (p1.1 + 1)), (3, .int (q.2.2.2 q.1.toNatClampNeg)), (4, .int p1.2.2), (5, .int (nI j)), (6, .int (fb_sel (σ 10) (σ 4) (q.2.2.2 q.1.toNatClampNeg) (p1.2.2))), (7, .int (nI 30))]) [1, 2, 0, 3, 4, 5, 6, 7] S 2 dX3_trees_159 rfl rfl (by decide) rfl ?_
          refine tg_aload_n S 0 dX3_trees_162 rfl rfl ?_
          refine tg_get (v := .ref (h 14)) S tw_v3 hK 0 rfl rfl 14 (by decide) (tw_in fl_RX3_50 rfl) dX3_trees_163 rfl ?_
          refine tg_iload_n S 2 dX3_trees_166 rfl rfl ?_
          refine tg_iload S 6 dX3_trees_167 rfl ?_
          refine tg_iast (σ2 := tg_upA (tg_upA (tg_upA σ 12 (upd q.2.2.1 q.2.1.toNatClampNeg (q.2.2.2 q.1.toNatClampNeg))) 13 (upd p1.2.1 (p1.1 + 1).toNatClampNeg (fb_sel (σ 10) (σ 4) (q.2.2.2 q.1.toNatClampNeg) (p1.2.2)))) 14 (fun _ => q.2.1 + 1)) S hK (tw_MD hd) 14 0 rfl rfl dX3_trees_169 (fb_in60 hs_3) ((tw_Ms13 (upd p1.2.1 (p1.1 + 1).toNatClampNeg (fb_sel (σ 10) (σ 4) (q.2.2.2 q.1.toNatClampNeg) (p1.2.2)))).trans rfl) ?_
          refine tg_iload S 6 dX3_trees_170 rfl ?_
          refine tg_istore (L' := [(0, .ref (h 0)), (1, .int x), (2, .int (p1.1 + 1)), (3, .int (q.2.2.2 q.1.toNatClampNeg)), (4, .int (fb_sel (σ 10) (σ 4) (q.2.2.2 q.1.toNatClampNeg) (p1.2.2))), (5, .int (nI j)), (6, .int (fb_sel (σ 10) (σ 4) (q.2.2.2 q.1.toNatClampNeg) (p1.2.2))), (7, .int (nI 30))]) [1, 2, 3, 4, 0, 5, 6, 7] S dX3_trees_172 (by decide) rfl ?_
          refine tg_iinc (v := nI (j + 1)) (L' := [(0, .ref (h 0)), (1, .int x), (2, .int (p1.1 + 1)), (3, .int (q.2.2.2 q.1.toNatClampNeg)), (4, .int (fb_sel (σ 10) (σ 4) (q.2.2.2 q.1.toNatClampNeg) (p1.2.2))), (5, .int (nI (j + 1))), (6, .int (fb_sel (σ 10) (σ 4) (q.2.2.2 q.1.toNatClampNeg) (p1.2.2))), (7, .int (nI 30))]) [1, 2, 3, 4, 5, 0, 6, 7] S 5 dX3_trees_174 rfl (tg_inc _) (by decide) rfl ?_
          refine tg_goto (tgt := 54) S dX3_trees_177 (by decide) ?_
          refine tg_sub (L' := [(0, .ref (h 0)), (1, .int x), (2, .int (p1.1 + 1)), (3, .int (q.2.2.2 q.1.toNatClampNeg)), (4, .int (fb_sel (σ 10) (σ 4) (q.2.2.2 q.1.toNatClampNeg) (p1.2.2))), (5, .int (nI (j + 1)))]) [0, 1, 2, 3, 4, 5] rfl ?_
          exact hk_j (p1.1 + 1, upd p1.2.1 (p1.1 + 1).toNatClampNeg (fb_sel (σ 10) (σ 4) (q.2.2.2 q.1.toNatClampNeg) (p1.2.2)), (fb_sel (σ 10) (σ 4) (q.2.2.2 q.1.toNatClampNeg) (p1.2.2))) (((by first | (simp [fb_tnF, c_1, hs_2, c_13, hs_3]; done) | (simp only [fb_tnF, if_neg c_1, if_pos hs_2, if_neg c_13, if_pos hs_3]; done)) : fb_tnF (σ 10) (σ 4) (q.2.2.2 q.1.toNatClampNeg) n2 (j + 1) (p1.1 + 1, upd p1.2.1 (p1.1 + 1).toNatClampNeg (fb_sel (σ 10) (σ 4) (q.2.2.2 q.1.toNatClampNeg) (p1.2.2)), (fb_sel (σ 10) (σ 4) (q.2.2.2 q.1.toNatClampNeg) (p1.2.2))) = fb_tnF (σ 10) (σ 4) (q.2.2.2 q.1.toNatClampNeg) (n2 + 1) j p1).trans hF_j)
        · skip
          refine tg_bipush (v := nI 30) S dX3_trees_152 (by decide) ?_
          refine tg_istore (L' := [(0, .ref (h 0)), (1, .int x), (2, .int p1.1), (3, .int (q.2.2.2 q.1.toNatClampNeg)), (4, .int p1.2.2), (5, .int (nI 30)), (6, .int (fb_sel (σ 10) (σ 4) (q.2.2.2 q.1.toNatClampNeg) (p1.2.2))), (7, .int (nI 30))]) [1, 2, 3, 4, 5, 0, 6, 7] S dX3_trees_154 (by decide) rfl ?_
          refine tg_goto (tgt := 174) S dX3_trees_156 (by decide) ?_
          refine tg_iinc (v := nI 31) (L' := [(0, .ref (h 0)), (1, .int x), (2, .int p1.1), (3, .int (q.2.2.2 q.1.toNatClampNeg)), (4, .int p1.2.2), (5, .int (nI 31)), (6, .int (fb_sel (σ 10) (σ 4) (q.2.2.2 q.1.toNatClampNeg) (p1.2.2))), (7, .int (nI 30))]) [1, 2, 3, 4, 5, 0, 6, 7] S 5 dX3_trees_174 rfl (tg_inc _) (by decide) rfl ?_
          refine tg_goto (tgt := 54) S dX3_trees_177 (by decide) ?_
          refine tg_iload S 5 dX3_trees_54 rfl ?_
          refine tg_bipush (v := 30) S dX3_trees_56 (by decide) ?_
          refine tg_icmp_ge (tgt := 180) S dX3_trees_58 (by decide) (fun _ => ?_) (fun c => absurd (by decide) c)
          refine tg_goto (tgt := 14) S dX3_trees_180 (by decide) ?_
          refine tg_sub (L' := [(0, .ref (h 0)), (1, .int x), (2, .int p1.1)]) [0, 1, 2] rfl ?_
          have hx_2 : (p1.1, p1.2.1) = r2 := by
            simpa [fb_tnF, c_1, hs_2, c_13] using hF_j
          exact hk_q (p1.1, q.2.1 + 1, upd q.2.2.1 q.2.1.toNatClampNeg (q.2.2.2 q.1.toNatClampNeg), p1.2.1) (by rw [← hx_2] at hq_2; exact hq_2)
    · skip
      intro p1 hF_j
      refine tg_iload S 5 dX3_trees_54 rfl ?_
      refine tg_bipush (v := 30) S dX3_trees_56 (by decide) ?_
      refine tg_icmp_ge (tgt := 180) S dX3_trees_58 (by decide) (fun _ => ?_) (fun c => absurd tg_ge c)
      refine tg_goto (tgt := 14) S dX3_trees_180 (by decide) ?_
      refine tg_sub (L' := [(0, .ref (h 0)), (1, .int x), (2, .int p1.1)]) [0, 1, 2] rfl ?_
      have hx_2 : (p1.1, p1.2.1) = r2 := by
        simpa [fb_tnF, c_1] using hF_j
      exact hk_q (p1.1, q.2.1 + 1, upd q.2.2.1 q.2.1.toNatClampNeg (q.2.2.2 q.1.toNatClampNeg), p1.2.1) (by rw [← hx_2] at hq_2; exact hq_2)
set_option maxHeartbeats 4000000 in
set_option maxRecDepth 100000 in
theorem k_X3_isLetter {l : Launch} {D : va_G} {h : Nat → Nat} {cI cZ : ClassId} (hd : tw_dis 15 h) (σ : tg_Mem) (x : Int32) : tg_CT l yX3_isLetter wzX3_isLetter (tg_rm 2) (tw_M h cI cZ) (tw_ty cI cZ) [] (tw_A 15 h) D [.ref (h 0), .int x] σ (some (.int (tg_b (fb_isL (σ 0) x)))) (fb_thS σ x) := by
  refine tg_met (own := RX3) (cc := cX3_isLetter) (maxL := 3) (ret := (some .boolean)) (by decide +kernel) rfl rfl (Nat.le_of_ble_eq_true rfl) ?_
  intro p e s m below meth c S hK hN hr hlk
  refine tg_sub (L' := [(0, .ref (h 0)), (1, .int x)]) [0, 1] rfl ?_
  refine tg_iload_n S 1 dX3_isLetter_0 rfl rfl ?_
  refine tg_callS (nA := 1) (As := [.int x]) (rest := []) S hK hN (k_X3_isId hd σ x) (tw_gS ml_RX3_92 st_X3_isId in_RX3 co_X3_isId rfl) rfl (by decide +kernel) ⟨Nat.le_of_ble_eq_true rfl, Nat.le_of_ble_eq_true rfl⟩ rfl rfl (Nat.le_of_ble_eq_true rfl) dX3_isLetter_1 ⟨Nat.le_of_ble_eq_true rfl, Nat.le_of_ble_eq_true rfl⟩ ?_
  refine tg_istore_n (L' := [(0, .ref (h 0)), (1, .int x), (2, .int (tg_b (fb_in x 0 29)))]) [1, 2, 0] S dX3_isLetter_4 rfl (by decide) rfl ?_
  refine tg_aload_n S 0 dX3_isLetter_5 rfl rfl ?_
  refine tg_iload_n S 2 dX3_isLetter_6 rfl rfl ?_
  refine tg_iload_n S 2 dX3_isLetter_7 rfl rfl ?_
  refine tg_ifz (tgt := 24) S dX3_isLetter_8 (by decide) (fun c_1 => ?_) (fun c_1 => ?_)
  · skip
    refine tg_eq (σ2 := σ) (L2 := [(0, .ref (h 0)), (1, .int x), (2, .int (tg_b false))]) (st2 := [.int (tg_b false), .ref (h 0)]) rfl (by first | (simp only [c_1]; done) | (simp only [c_1]; rfl)) (by first | (simp only [c_1]; done) | (simp only [c_1]; rfl)) ?_
    refine tg_iconst (v := 0) S dX3_isLetter_24 (by decide) ?_
    refine tg_callV (nA := 2) (As := [.int (tg_b false), .int (tg_b false)]) (rest := []) (q := (RX3, TX3, 16)) S hK hN (k_X3_asked_ hd σ false false) 0 rfl rfl (tw_gV ml_RX3_95 im_X3_asked_ se_X3_asked_ in_RX3 co_X3_asked_ rfl) rfl (by decide +kernel) ⟨Nat.le_of_ble_eq_true rfl, Nat.le_of_ble_eq_true rfl⟩ rfl rfl (Nat.le_of_ble_eq_true rfl) dX3_isLetter_25 ⟨Nat.le_of_ble_eq_true rfl, Nat.le_of_ble_eq_true rfl⟩ ?_
    refine tg_w (σ2 := tg_upA σ 15 (fun _ => 1)) rfl ?_
    refine tg_eq (σ2 := tg_upA σ 15 (fun _ => 1)) (L2 := [(0, .ref (h 0)), (1, .int x), (2, .int (tg_b false))]) (st2 := [.int (tg_b false)]) rfl rfl rfl ?_
    exact tg_zret (b := false) S hr hlk dX3_isLetter_28 (congrArg tg_b (by simp [fb_isL, fb_thS, fb_thrL, c_1])) (by simp [fb_isL, fb_thS, fb_thrL, c_1])
  · skip
    refine tg_eq (σ2 := σ) (L2 := [(0, .ref (h 0)), (1, .int x), (2, .int (tg_b true))]) (st2 := [.int (tg_b true), .ref (h 0)]) rfl (by first | (simp only [c_1]; done) | (simp only [c_1]; rfl)) (by first | (simp only [c_1]; done) | (simp only [c_1]; rfl)) ?_
    refine tg_aload_n S 0 dX3_isLetter_11 rfl rfl ?_
    refine tg_get (v := .ref (h 1)) S tw_v3 hK 0 rfl rfl 0 (by decide) (tw_in fl_RX3_7 rfl) dX3_isLetter_12 rfl ?_
    refine tg_iload_n S 1 dX3_isLetter_15 rfl rfl ?_
    refine tg_zald (v := σ 0 x.toNatClampNeg) S hK 1 1 rfl rfl dX3_isLetter_16 (fb_in30 c_1) rfl ?_
    refine tg_if_eq (tgt := 24) S dX3_isLetter_17 (by decide) (fun c_2 => ?_) (fun c_2 => ?_)
    · skip
      refine tg_iconst (v := 0) S dX3_isLetter_24 (by decide) ?_
      refine tg_callV (nA := 2) (As := [.int (tg_b true), .int (tg_b false)]) (rest := []) (q := (RX3, TX3, 16)) S hK hN (k_X3_asked_ hd σ true false) 0 rfl rfl (tw_gV ml_RX3_95 im_X3_asked_ se_X3_asked_ in_RX3 co_X3_asked_ rfl) rfl (by decide +kernel) ⟨Nat.le_of_ble_eq_true rfl, Nat.le_of_ble_eq_true rfl⟩ rfl rfl (Nat.le_of_ble_eq_true rfl) dX3_isLetter_25 ⟨Nat.le_of_ble_eq_true rfl, Nat.le_of_ble_eq_true rfl⟩ ?_
      refine tg_w (σ2 := tg_upA σ 15 (fun _ => 2)) rfl ?_
      refine tg_eq (σ2 := tg_upA σ 15 (fun _ => 2)) (L2 := [(0, .ref (h 0)), (1, .int x), (2, .int (tg_b true))]) (st2 := [.int (tg_b false)]) rfl rfl rfl ?_
      exact tg_zret (b := false) S hr hlk dX3_isLetter_28 (congrArg tg_b (by simp [fb_isL, fb_thS, fb_thrL, c_1, c_2])) (by simp [fb_isL, fb_thS, fb_thrL, c_1, c_2])
    · skip
      refine tg_iconst (v := 1) S dX3_isLetter_20 (by decide) ?_
      refine tg_goto (tgt := 25) S dX3_isLetter_21 (by decide) ?_
      refine tg_callV (nA := 2) (As := [.int (tg_b true), .int (tg_b true)]) (rest := []) (q := (RX3, TX3, 16)) S hK hN (k_X3_asked_ hd σ true true) 0 rfl rfl (tw_gV ml_RX3_95 im_X3_asked_ se_X3_asked_ in_RX3 co_X3_asked_ rfl) rfl (by decide +kernel) ⟨Nat.le_of_ble_eq_true rfl, Nat.le_of_ble_eq_true rfl⟩ rfl rfl (Nat.le_of_ble_eq_true rfl) dX3_isLetter_25 ⟨Nat.le_of_ble_eq_true rfl, Nat.le_of_ble_eq_true rfl⟩ ?_
      refine tg_w (σ2 := tg_upA σ 15 (fun _ => 0)) rfl ?_
      refine tg_eq (σ2 := tg_upA σ 15 (fun _ => 0)) (L2 := [(0, .ref (h 0)), (1, .int x), (2, .int (tg_b true))]) (st2 := [.int (tg_b true)]) rfl rfl rfl ?_
      exact tg_zret (b := true) S hr hlk dX3_isLetter_28 (congrArg tg_b (by simp [fb_isL, fb_thS, fb_thrL, c_1, c_2])) (by simp [fb_isL, fb_thS, fb_thrL, c_1, c_2])
set_option maxHeartbeats 4000000 in
set_option maxRecDepth 100000 in
theorem k_X3_delete {l : Launch} {D : va_G} {h : Nat → Nat} {cI cZ : ClassId} (hd : tw_dis 15 h) (σ : tg_Mem) (x : Int32) (H : fb_isL (σ 0) x = true → fb_hyp (upd (σ 0) x.toNatClampNeg 0) (σ 1) (σ 2) (upd (σ 7) x.toNatClampNeg (-1)) (σ 8) (σ 9)) : tg_CT l yX3_delete wzX3_delete (tg_rm 4) (tw_M h cI cZ) (tw_ty cI cZ) [] (tw_A 15 h) D [.ref (h 0), .int x] σ (some (.int (if fb_isL (σ 0) x = true then fb_rn (fb_forest (fb_del σ x) 11) (fb_forest (fb_del σ x) 10) else 0))) (if fb_isL (σ 0) x = true then fb_forest (fb_del σ x) else fb_thS σ x) := by
  refine tg_met (own := RX3) (cc := cX3_delete) (maxL := 2) (ret := (some .int)) (by decide +kernel) rfl rfl (Nat.le_of_ble_eq_true rfl) ?_
  intro p e s m below meth c S hK hN hr hlk
  refine tg_sub (L' := [(0, .ref (h 0)), (1, .int x)]) [0, 1] rfl ?_
  refine tg_aload_n S 0 dX3_delete_0 rfl rfl ?_
  refine tg_iload_n S 1 dX3_delete_1 rfl rfl ?_
  refine tg_callV (nA := 1) (As := [.int x]) (rest := []) (q := (RX3, TX3, 16)) S hK hN (k_X3_isLetter hd σ x) 0 rfl rfl (tw_gV ml_RX3_102 im_X3_isLetter se_X3_isLetter in_RX3 co_X3_isLetter rfl) rfl (by decide +kernel) ⟨Nat.le_of_ble_eq_true rfl, Nat.le_of_ble_eq_true rfl⟩ rfl rfl (Nat.le_of_ble_eq_true rfl) dX3_delete_2 ⟨Nat.le_of_ble_eq_true rfl, Nat.le_of_ble_eq_true rfl⟩ ?_
  refine tg_w (σ2 := tg_upA σ 15 (fun _ => fb_thrL (σ 0) x)) rfl ?_
  refine tg_eq (σ2 := tg_upA σ 15 (fun _ => fb_thrL (σ 0) x)) (L2 := [(0, .ref (h 0)), (1, .int x)]) (st2 := [.int (tg_b (fb_isL (σ 0) x))]) rfl rfl rfl ?_
  refine tg_ifnz (tgt := 10) S dX3_delete_5 (by decide) (fun c_1 => ?_) (fun c_1 => ?_)
  · skip
    refine tg_aload_n S 0 dX3_delete_10 rfl rfl ?_
    refine tg_get (v := .ref (h 1)) S tw_v3 hK 0 rfl rfl 0 (by decide) (tw_in fl_RX3_7 rfl) dX3_delete_11 rfl ?_
    refine tg_iload_n S 1 dX3_delete_14 rfl rfl ?_
    refine tg_iconst (v := 0) S dX3_delete_15 (by decide) ?_
    refine tg_zast (b := false) (σ2 := tg_upA (tg_upA σ 0 (upd (σ 0) x.toNatClampNeg 0)) 15 (fun _ => fb_thrL (σ 0) x)) S hK (tw_MD hd) 1 1 rfl rfl dX3_delete_16 (fb_isL_in c_1) ((tw_Ms0 (upd (σ 0) x.toNatClampNeg 0)).trans rfl) ?_
    refine tg_aload_n S 0 dX3_delete_17 rfl rfl ?_
    refine tg_get (v := .ref (h 8)) S tw_v3 hK 0 rfl rfl 7 (by decide) (tw_in fl_RX3_32 rfl) dX3_delete_18 rfl ?_
    refine tg_iload_n S 1 dX3_delete_21 rfl rfl ?_
    refine tg_iconst (v := -1) S dX3_delete_22 (by decide) ?_
    refine tg_iast (σ2 := tg_upA (tg_upA (tg_upA σ 0 (upd (σ 0) x.toNatClampNeg 0)) 7 (upd (σ 7) x.toNatClampNeg (-1))) 15 (fun _ => fb_thrL (σ 0) x)) S hK (tw_MD hd) 8 0 rfl rfl dX3_delete_23 (fb_isL_in c_1) ((tw_Ms7 (upd (σ 7) x.toNatClampNeg (-1))).trans rfl) ?_
    refine tg_aload_n S 0 dX3_delete_24 rfl rfl ?_
    refine tg_callV (nA := 0) (As := []) (rest := []) (q := (RX3, TX3, 16)) S hK hN (k_X3_rootsThen hd (tg_upA (tg_upA (tg_upA σ 0 (upd (σ 0) x.toNatClampNeg 0)) 7 (upd (σ 7) x.toNatClampNeg (-1))) 15 (fun _ => fb_thrL (σ 0) x)) (H c_1)) 0 rfl rfl (tw_gV ml_RX3_99 im_X3_rootsThen se_X3_rootsThen in_RX3 co_X3_rootsThen rfl) rfl (by decide +kernel) ⟨Nat.le_of_ble_eq_true rfl, Nat.le_of_ble_eq_true rfl⟩ rfl rfl (Nat.le_of_ble_eq_true rfl) dX3_delete_25 ⟨Nat.le_of_ble_eq_true rfl, Nat.le_of_ble_eq_true rfl⟩ ?_
    exact tg_iret S hr hlk dX3_delete_28 (by simp [fb_del, fb_thS, c_1]) (by simp [fb_del, fb_thS, c_1])
  · skip
    refine tg_iconst (v := 0) S dX3_delete_8 (by decide) ?_
    exact tg_iret S hr hlk dX3_delete_9 (by simp [fb_del, fb_thS, c_1]) (by simp [fb_del, fb_thS, c_1])
set_option maxHeartbeats 4000000 in
set_option maxRecDepth 100000 in
theorem k_X3_split {l : Launch} {D : va_G} {h : Nat → Nat} {cI cZ : ClassId} (hd : tw_dis 15 h) (σ : tg_Mem) (x : Int32) (H : fb_isL (σ 0) x = true → fb_hyp (σ 0) (σ 1) (σ 2) (σ 7) (σ 8) (σ 9)) : tg_CT l yX3_split wzX3_split (tg_rm 3) (tw_M h cI cZ) (tw_ty cI cZ) [] (tw_A 15 h) D [.ref (h 0), .int x] σ (some (.int (if fb_isL (σ 0) x = true then fb_forest (fb_thS σ x) 10 x.toNatClampNeg else 0))) (if fb_isL (σ 0) x = true then fb_spl σ x else fb_thS σ x) := by
  refine tg_met (own := RX3) (cc := cX3_split) (maxL := 2) (ret := (some .int)) (by decide +kernel) rfl rfl (Nat.le_of_ble_eq_true rfl) ?_
  intro p e s m below meth c S hK hN hr hlk
  refine tg_sub (L' := [(0, .ref (h 0)), (1, .int x)]) [0, 1] rfl ?_
  refine tg_aload_n S 0 dX3_split_0 rfl rfl ?_
  refine tg_iload_n S 1 dX3_split_1 rfl rfl ?_
  refine tg_callV (nA := 1) (As := [.int x]) (rest := []) (q := (RX3, TX3, 16)) S hK hN (k_X3_isLetter hd σ x) 0 rfl rfl (tw_gV ml_RX3_102 im_X3_isLetter se_X3_isLetter in_RX3 co_X3_isLetter rfl) rfl (by decide +kernel) ⟨Nat.le_of_ble_eq_true rfl, Nat.le_of_ble_eq_true rfl⟩ rfl rfl (Nat.le_of_ble_eq_true rfl) dX3_split_2 ⟨Nat.le_of_ble_eq_true rfl, Nat.le_of_ble_eq_true rfl⟩ ?_
  refine tg_w (σ2 := tg_upA σ 15 (fun _ => fb_thrL (σ 0) x)) rfl ?_
  refine tg_eq (σ2 := tg_upA σ 15 (fun _ => fb_thrL (σ 0) x)) (L2 := [(0, .ref (h 0)), (1, .int x)]) (st2 := [.int (tg_b (fb_isL (σ 0) x))]) rfl rfl rfl ?_
  refine tg_ifnz (tgt := 10) S dX3_split_5 (by decide) (fun c_1 => ?_) (fun c_1 => ?_)
  · skip
    refine tg_aload_n S 0 dX3_split_10 rfl rfl ?_
    refine tg_callV (nA := 0) (As := []) (rest := []) (q := (RX3, TX3, 16)) S hK hN (k_X3_forest hd (tg_upA σ 15 (fun _ => fb_thrL (σ 0) x)) (H c_1)) 0 rfl rfl (tw_gV ml_RX3_85 im_X3_forest se_X3_forest in_RX3 co_X3_forest rfl) rfl (by decide +kernel) ⟨Nat.le_of_ble_eq_true rfl, Nat.le_of_ble_eq_true rfl⟩ rfl rfl (Nat.le_of_ble_eq_true rfl) dX3_split_11 ⟨Nat.le_of_ble_eq_true rfl, Nat.le_of_ble_eq_true rfl⟩ ?_
    refine tg_aload_n S 0 dX3_split_14 rfl rfl ?_
    refine tg_get (v := .ref (h 8)) S tw_v3 hK 0 rfl rfl 7 (by decide) (tw_in fl_RX3_32 rfl) dX3_split_15 rfl ?_
    refine tg_iload_n S 1 dX3_split_18 rfl rfl ?_
    refine tg_bipush (v := -2) S dX3_split_19 (by decide) ?_
    refine tg_iast (σ2 := tg_upA (fb_forest (tg_upA σ 15 (fun _ => fb_thrL (σ 0) x))) 7 (upd ((fb_forest (tg_upA σ 15 (fun _ => fb_thrL (σ 0) x))) 7) x.toNatClampNeg (-2))) S hK (tw_MD hd) 8 0 rfl rfl dX3_split_21 (fb_isL_in c_1) ((tw_Ms7 (upd ((fb_forest (tg_upA σ 15 (fun _ => fb_thrL (σ 0) x))) 7) x.toNatClampNeg (-2))).trans rfl) ?_
    refine tg_aload_n S 0 dX3_split_22 rfl rfl ?_
    refine tg_get (v := .ref (h 11)) S tw_v3 hK 0 rfl rfl 10 (by decide) (tw_in fl_RX3_41 rfl) dX3_split_23 rfl ?_
    refine tg_iload_n S 1 dX3_split_26 rfl rfl ?_
    refine tg_iald (v := ((fb_forest (tg_upA σ 15 (fun _ => fb_thrL (σ 0) x))) 10) x.toNatClampNeg) S hK 11 0 rfl rfl dX3_split_27 (fb_isL_in c_1) rfl ?_
    exact tg_iret S hr hlk dX3_split_28 (by simp [fb_spl, fb_thS, fb_fo0, fb_fo1, fb_fo2, fb_fo3, fb_fo4, fb_fo5, fb_fo6, fb_fo7, fb_fo13, fb_fo14, fb_fo15, tg_upA_s, tg_upA_n, c_1]) (by simp [fb_spl, fb_thS, fb_fo0, fb_fo1, fb_fo2, fb_fo3, fb_fo4, fb_fo5, fb_fo6, fb_fo7, fb_fo13, fb_fo14, fb_fo15, tg_upA_s, tg_upA_n, c_1])
  · skip
    refine tg_iconst (v := 0) S dX3_split_8 (by decide) ?_
    exact tg_iret S hr hlk dX3_split_9 (by simp [fb_spl, fb_thS, fb_fo0, fb_fo1, fb_fo2, fb_fo3, fb_fo4, fb_fo5, fb_fo6, fb_fo7, fb_fo13, fb_fo14, fb_fo15, tg_upA_s, tg_upA_n, c_1]) (by simp [fb_spl, fb_thS, fb_fo0, fb_fo1, fb_fo2, fb_fo3, fb_fo4, fb_fo5, fb_fo6, fb_fo7, fb_fo13, fb_fo14, fb_fo15, tg_upA_s, tg_upA_n, c_1])
set_option maxHeartbeats 4000000 in
set_option maxRecDepth 100000 in
theorem k_X3_release {l : Launch} {D : va_G} {h : Nat → Nat} {cI cZ : ClassId} (hd : tw_dis 15 h) (σ : tg_Mem) (x : Int32) : tg_CT l yX3_release wzX3_release (tg_rm 3) (tw_M h cI cZ) (tw_ty cI cZ) [] (tw_A 15 h) D [.ref (h 0), .int x] σ (some (.int (tg_b (fb_isL (σ 0) x && !(decide (σ 7 x.toNatClampNeg = -1)))))) (if fb_isL (σ 0) x = true then fb_rel σ x else fb_thS σ x) := by
  refine tg_met (own := RX3) (cc := cX3_release) (maxL := 3) (ret := (some .boolean)) (by decide +kernel) rfl rfl (Nat.le_of_ble_eq_true rfl) ?_
  intro p e s m below meth c S hK hN hr hlk
  refine tg_sub (L' := [(0, .ref (h 0)), (1, .int x)]) [0, 1] rfl ?_
  refine tg_aload_n S 0 dX3_release_0 rfl rfl ?_
  refine tg_iload_n S 1 dX3_release_1 rfl rfl ?_
  refine tg_callV (nA := 1) (As := [.int x]) (rest := []) (q := (RX3, TX3, 16)) S hK hN (k_X3_isLetter hd σ x) 0 rfl rfl (tw_gV ml_RX3_102 im_X3_isLetter se_X3_isLetter in_RX3 co_X3_isLetter rfl) rfl (by decide +kernel) ⟨Nat.le_of_ble_eq_true rfl, Nat.le_of_ble_eq_true rfl⟩ rfl rfl (Nat.le_of_ble_eq_true rfl) dX3_release_2 ⟨Nat.le_of_ble_eq_true rfl, Nat.le_of_ble_eq_true rfl⟩ ?_
  refine tg_w (σ2 := tg_upA σ 15 (fun _ => fb_thrL (σ 0) x)) rfl ?_
  refine tg_eq (σ2 := tg_upA σ 15 (fun _ => fb_thrL (σ 0) x)) (L2 := [(0, .ref (h 0)), (1, .int x)]) (st2 := [.int (tg_b (fb_isL (σ 0) x))]) rfl rfl rfl ?_
  refine tg_ifnz (tgt := 10) S dX3_release_5 (by decide) (fun c_1 => ?_) (fun c_1 => ?_)
  · skip
    refine tg_aload_n S 0 dX3_release_10 rfl rfl ?_
    refine tg_get (v := .ref (h 8)) S tw_v3 hK 0 rfl rfl 7 (by decide) (tw_in fl_RX3_32 rfl) dX3_release_11 rfl ?_
    refine tg_iload_n S 1 dX3_release_14 rfl rfl ?_
    refine tg_iald (v := σ 7 x.toNatClampNeg) S hK 8 0 rfl rfl dX3_release_15 (fb_isL_in c_1) rfl ?_
    refine tg_iconst (v := -1) S dX3_release_16 (by decide) ?_
    refine tg_icmp_eq (tgt := 24) S dX3_release_17 (by decide) (fun c_2 => ?_) (fun c_2 => ?_)
    · skip
      refine tg_iconst (v := 0) S dX3_release_24 (by decide) ?_
      refine tg_istore_n (L' := [(0, .ref (h 0)), (1, .int x), (2, .int 0)]) [1, 2, 0] S dX3_release_25 rfl (by decide) rfl ?_
      refine tg_aload_n S 0 dX3_release_26 rfl rfl ?_
      refine tg_get (v := .ref (h 8)) S tw_v3 hK 0 rfl rfl 7 (by decide) (tw_in fl_RX3_32 rfl) dX3_release_27 rfl ?_
      refine tg_iload_n S 1 dX3_release_30 rfl rfl ?_
      refine tg_iconst (v := -1) S dX3_release_31 (by decide) ?_
      refine tg_iast (σ2 := tg_upA (tg_upA σ 7 (upd (σ 7) x.toNatClampNeg (-1))) 15 (fun _ => fb_thrL (σ 0) x)) S hK (tw_MD hd) 8 0 rfl rfl dX3_release_32 (fb_isL_in c_1) ((tw_Ms7 (upd (σ 7) x.toNatClampNeg (-1))).trans rfl) ?_
      refine tg_iload_n S 2 dX3_release_33 rfl rfl ?_
      exact tg_zret (b := false) S hr hlk dX3_release_34 (congrArg tg_b (by simp [fb_rel, fb_thS, c_1, c_2])) (by simp [fb_rel, fb_thS, c_1, c_2])
    · skip
      refine tg_iconst (v := 1) S dX3_release_20 (by decide) ?_
      refine tg_goto (tgt := 25) S dX3_release_21 (by decide) ?_
      refine tg_istore_n (L' := [(0, .ref (h 0)), (1, .int x), (2, .int 1)]) [1, 2, 0] S dX3_release_25 rfl (by decide) rfl ?_
      refine tg_aload_n S 0 dX3_release_26 rfl rfl ?_
      refine tg_get (v := .ref (h 8)) S tw_v3 hK 0 rfl rfl 7 (by decide) (tw_in fl_RX3_32 rfl) dX3_release_27 rfl ?_
      refine tg_iload_n S 1 dX3_release_30 rfl rfl ?_
      refine tg_iconst (v := -1) S dX3_release_31 (by decide) ?_
      refine tg_iast (σ2 := tg_upA (tg_upA σ 7 (upd (σ 7) x.toNatClampNeg (-1))) 15 (fun _ => fb_thrL (σ 0) x)) S hK (tw_MD hd) 8 0 rfl rfl dX3_release_32 (fb_isL_in c_1) ((tw_Ms7 (upd (σ 7) x.toNatClampNeg (-1))).trans rfl) ?_
      refine tg_iload_n S 2 dX3_release_33 rfl rfl ?_
      exact tg_zret (b := true) S hr hlk dX3_release_34 (congrArg tg_b (by simp [fb_rel, fb_thS, c_1, c_2])) (by simp [fb_rel, fb_thS, c_1, c_2])
  · skip
    refine tg_iconst (v := 0) S dX3_release_8 (by decide) ?_
    exact tg_zret (b := false) S hr hlk dX3_release_9 (congrArg tg_b (by simp [fb_rel, fb_thS, c_1])) (by simp [fb_rel, fb_thS, c_1])
set_option maxHeartbeats 4000000 in
set_option maxRecDepth 100000 in
theorem k_X3_letter {l : Launch} {D : va_G} {h : Nat → Nat} {cI cZ : ClassId} (hd : tw_dis 15 h) (σ : tg_Mem) (x : Int32) (g : Int32) (q : Int32) (sub : Int32) (d : Int32) (w0 : Int32) (H : fb_okP (σ 0) x g q sub d w0 = true → fb_hyp (upd (σ 0) x.toNatClampNeg 1) (upd (σ 1) x.toNatClampNeg q) (upd (σ 2) x.toNatClampNeg g) (upd (σ 7) x.toNatClampNeg (-1)) (σ 8) (σ 9)) : tg_CT l yX3_letter wzX3_letter (tg_rm 4) (tw_M h cI cZ) (tw_ty cI cZ) [] (tw_A 15 h) D [.ref (h 0), .int x, .int g, .int q, .int sub, .int d, .int w0] σ (some (.int (if fb_okP (σ 0) x g q sub d w0 = true then fb_rn (fb_forest (fb_put σ x g q sub d w0) 11) (fb_forest (fb_put σ x g q sub d w0) 10) else 0))) (if fb_okP (σ 0) x g q sub d w0 = true then fb_forest (fb_put σ x g q sub d w0) else tg_upA σ 15 (fun _ => fb_thrP (σ 0) x g q sub d w0)) := by
  refine tg_met (own := RX3) (cc := cX3_letter) (maxL := 8) (ret := (some .int)) (by decide +kernel) rfl rfl (Nat.le_of_ble_eq_true rfl) ?_
  intro p e s m below meth c S hK hN hr hlk
  refine tg_sub (L' := [(0, .ref (h 0)), (1, .int x), (2, .int g), (3, .int q), (4, .int sub), (5, .int d), (6, .int w0)]) [0, 1, 2, 3, 4, 5, 6] rfl ?_
  refine tg_iload_n S 1 dX3_letter_0 rfl rfl ?_
  refine tg_callS (nA := 1) (As := [.int x]) (rest := []) S hK hN (k_X3_isId hd σ x) (tw_gS ml_RX3_92 st_X3_isId in_RX3 co_X3_isId rfl) rfl (by decide +kernel) ⟨Nat.le_of_ble_eq_true rfl, Nat.le_of_ble_eq_true rfl⟩ rfl rfl (Nat.le_of_ble_eq_true rfl) dX3_letter_1 ⟨Nat.le_of_ble_eq_true rfl, Nat.le_of_ble_eq_true rfl⟩ ?_
  refine tg_ifz (tgt := 75) S dX3_letter_4 (by decide) (fun c_1 => ?_) (fun c_1 => ?_)
  · skip
    refine tg_iconst (v := 0) S dX3_letter_75 (by decide) ?_
    refine tg_istore (L' := [(0, .ref (h 0)), (1, .int x), (2, .int g), (3, .int q), (4, .int sub), (5, .int d), (6, .int w0), (7, .int 0)]) [1, 2, 3, 4, 5, 6, 7, 0] S dX3_letter_76 (by decide) rfl ?_
    refine tg_aload_n S 0 dX3_letter_78 rfl rfl ?_
    refine tg_iload S 7 dX3_letter_79 rfl ?_
    refine tg_iload S 7 dX3_letter_81 rfl ?_
    refine tg_if_eq (tgt := 99) S dX3_letter_83 (by decide) (fun _ => ?_) (fun c => absurd (by decide) c)
    refine tg_iconst (v := 0) S dX3_letter_99 (by decide) ?_
    refine tg_callV (nA := 2) (As := [.int (tg_b false), .int (tg_b false)]) (rest := []) (q := (RX3, TX3, 16)) S hK hN (k_X3_asked_ hd σ false false) 0 rfl rfl (tw_gV ml_RX3_95 im_X3_asked_ se_X3_asked_ in_RX3 co_X3_asked_ rfl) rfl (by decide +kernel) ⟨Nat.le_of_ble_eq_true rfl, Nat.le_of_ble_eq_true rfl⟩ rfl rfl (Nat.le_of_ble_eq_true rfl) dX3_letter_100 ⟨Nat.le_of_ble_eq_true rfl, Nat.le_of_ble_eq_true rfl⟩ ?_
    refine tg_w (σ2 := tg_upA σ 15 (fun _ => 1)) rfl ?_
    refine tg_eq (σ2 := tg_upA σ 15 (fun _ => 1)) (L2 := [(0, .ref (h 0)), (1, .int x), (2, .int g), (3, .int q), (4, .int sub), (5, .int d), (6, .int w0), (7, .int 0)]) (st2 := [.int (tg_b false)]) rfl rfl rfl ?_
    refine tg_ifnz (b := false) (tgt := 108) S dX3_letter_103 (by decide) (fun c => absurd c (by decide)) (fun _ => ?_)
    refine tg_iconst (v := 0) S dX3_letter_106 (by decide) ?_
    exact tg_iret S hr hlk dX3_letter_107 (by simp [fb_okP, fb_right, fb_put, fb_thrP, fb_inm, c_1]) (by simp [fb_okP, fb_right, fb_put, fb_thrP, fb_inm, c_1])
  · skip
    refine tg_iload_n S 2 dX3_letter_7 rfl rfl ?_
    refine tg_iconst (v := -1) S dX3_letter_8 (by decide) ?_
    refine tg_bipush (v := 29) S dX3_letter_9 (by decide) ?_
    refine tg_callS (nA := 3) (As := [.int g, .int (-1), .int 29]) (rest := []) S hK hN (k_X3_in hd σ g (-1) 29) (tw_gS ml_RX3_57 st_X3_in in_RX3 co_X3_in rfl) rfl (by decide +kernel) ⟨Nat.le_of_ble_eq_true rfl, Nat.le_of_ble_eq_true rfl⟩ rfl rfl (Nat.le_of_ble_eq_true rfl) dX3_letter_11 ⟨Nat.le_of_ble_eq_true rfl, Nat.le_of_ble_eq_true rfl⟩ ?_
    refine tg_ifz (tgt := 75) S dX3_letter_14 (by decide) (fun c_3 => ?_) (fun c_3 => ?_)
    · skip
      refine tg_iconst (v := 0) S dX3_letter_75 (by decide) ?_
      refine tg_istore (L' := [(0, .ref (h 0)), (1, .int x), (2, .int g), (3, .int q), (4, .int sub), (5, .int d), (6, .int w0), (7, .int 0)]) [1, 2, 3, 4, 5, 6, 7, 0] S dX3_letter_76 (by decide) rfl ?_
      refine tg_aload_n S 0 dX3_letter_78 rfl rfl ?_
      refine tg_iload S 7 dX3_letter_79 rfl ?_
      refine tg_iload S 7 dX3_letter_81 rfl ?_
      refine tg_if_eq (tgt := 99) S dX3_letter_83 (by decide) (fun _ => ?_) (fun c => absurd (by decide) c)
      refine tg_iconst (v := 0) S dX3_letter_99 (by decide) ?_
      refine tg_callV (nA := 2) (As := [.int (tg_b false), .int (tg_b false)]) (rest := []) (q := (RX3, TX3, 16)) S hK hN (k_X3_asked_ hd σ false false) 0 rfl rfl (tw_gV ml_RX3_95 im_X3_asked_ se_X3_asked_ in_RX3 co_X3_asked_ rfl) rfl (by decide +kernel) ⟨Nat.le_of_ble_eq_true rfl, Nat.le_of_ble_eq_true rfl⟩ rfl rfl (Nat.le_of_ble_eq_true rfl) dX3_letter_100 ⟨Nat.le_of_ble_eq_true rfl, Nat.le_of_ble_eq_true rfl⟩ ?_
      refine tg_w (σ2 := tg_upA σ 15 (fun _ => 1)) rfl ?_
      refine tg_eq (σ2 := tg_upA σ 15 (fun _ => 1)) (L2 := [(0, .ref (h 0)), (1, .int x), (2, .int g), (3, .int q), (4, .int sub), (5, .int d), (6, .int w0), (7, .int 0)]) (st2 := [.int (tg_b false)]) rfl rfl rfl ?_
      refine tg_ifnz (b := false) (tgt := 108) S dX3_letter_103 (by decide) (fun c => absurd c (by decide)) (fun _ => ?_)
      refine tg_iconst (v := 0) S dX3_letter_106 (by decide) ?_
      exact tg_iret S hr hlk dX3_letter_107 (by simp [fb_okP, fb_right, fb_put, fb_thrP, fb_inm, c_1, c_3]) (by simp [fb_okP, fb_right, fb_put, fb_thrP, fb_inm, c_1, c_3])
    · skip
      refine tg_iload_n S 3 dX3_letter_17 rfl rfl ?_
      refine tg_iconst (v := -1) S dX3_letter_18 (by decide) ?_
      refine tg_bipush (v := 29) S dX3_letter_19 (by decide) ?_
      refine tg_callS (nA := 3) (As := [.int q, .int (-1), .int 29]) (rest := []) S hK hN (k_X3_in hd σ q (-1) 29) (tw_gS ml_RX3_57 st_X3_in in_RX3 co_X3_in rfl) rfl (by decide +kernel) ⟨Nat.le_of_ble_eq_true rfl, Nat.le_of_ble_eq_true rfl⟩ rfl rfl (Nat.le_of_ble_eq_true rfl) dX3_letter_21 ⟨Nat.le_of_ble_eq_true rfl, Nat.le_of_ble_eq_true rfl⟩ ?_
      refine tg_ifz (tgt := 75) S dX3_letter_24 (by decide) (fun c_5 => ?_) (fun c_5 => ?_)
      · skip
        refine tg_iconst (v := 0) S dX3_letter_75 (by decide) ?_
        refine tg_istore (L' := [(0, .ref (h 0)), (1, .int x), (2, .int g), (3, .int q), (4, .int sub), (5, .int d), (6, .int w0), (7, .int 0)]) [1, 2, 3, 4, 5, 6, 7, 0] S dX3_letter_76 (by decide) rfl ?_
        refine tg_aload_n S 0 dX3_letter_78 rfl rfl ?_
        refine tg_iload S 7 dX3_letter_79 rfl ?_
        refine tg_iload S 7 dX3_letter_81 rfl ?_
        refine tg_if_eq (tgt := 99) S dX3_letter_83 (by decide) (fun _ => ?_) (fun c => absurd (by decide) c)
        refine tg_iconst (v := 0) S dX3_letter_99 (by decide) ?_
        refine tg_callV (nA := 2) (As := [.int (tg_b false), .int (tg_b false)]) (rest := []) (q := (RX3, TX3, 16)) S hK hN (k_X3_asked_ hd σ false false) 0 rfl rfl (tw_gV ml_RX3_95 im_X3_asked_ se_X3_asked_ in_RX3 co_X3_asked_ rfl) rfl (by decide +kernel) ⟨Nat.le_of_ble_eq_true rfl, Nat.le_of_ble_eq_true rfl⟩ rfl rfl (Nat.le_of_ble_eq_true rfl) dX3_letter_100 ⟨Nat.le_of_ble_eq_true rfl, Nat.le_of_ble_eq_true rfl⟩ ?_
        refine tg_w (σ2 := tg_upA σ 15 (fun _ => 1)) rfl ?_
        refine tg_eq (σ2 := tg_upA σ 15 (fun _ => 1)) (L2 := [(0, .ref (h 0)), (1, .int x), (2, .int g), (3, .int q), (4, .int sub), (5, .int d), (6, .int w0), (7, .int 0)]) (st2 := [.int (tg_b false)]) rfl rfl rfl ?_
        refine tg_ifnz (b := false) (tgt := 108) S dX3_letter_103 (by decide) (fun c => absurd c (by decide)) (fun _ => ?_)
        refine tg_iconst (v := 0) S dX3_letter_106 (by decide) ?_
        exact tg_iret S hr hlk dX3_letter_107 (by simp [fb_okP, fb_right, fb_put, fb_thrP, fb_inm, c_1, c_3, c_5]) (by simp [fb_okP, fb_right, fb_put, fb_thrP, fb_inm, c_1, c_3, c_5])
      · skip
        refine tg_iload S 4 dX3_letter_27 rfl ?_
        refine tg_iconst (v := 0) S dX3_letter_29 (by decide) ?_
        refine tg_bipush (v := 19) S dX3_letter_30 (by decide) ?_
        refine tg_callS (nA := 3) (As := [.int sub, .int 0, .int 19]) (rest := []) S hK hN (k_X3_in hd σ sub 0 19) (tw_gS ml_RX3_57 st_X3_in in_RX3 co_X3_in rfl) rfl (by decide +kernel) ⟨Nat.le_of_ble_eq_true rfl, Nat.le_of_ble_eq_true rfl⟩ rfl rfl (Nat.le_of_ble_eq_true rfl) dX3_letter_32 ⟨Nat.le_of_ble_eq_true rfl, Nat.le_of_ble_eq_true rfl⟩ ?_
        refine tg_ifz (tgt := 75) S dX3_letter_35 (by decide) (fun c_7 => ?_) (fun c_7 => ?_)
        · skip
          refine tg_iconst (v := 0) S dX3_letter_75 (by decide) ?_
          refine tg_istore (L' := [(0, .ref (h 0)), (1, .int x), (2, .int g), (3, .int q), (4, .int sub), (5, .int d), (6, .int w0), (7, .int 0)]) [1, 2, 3, 4, 5, 6, 7, 0] S dX3_letter_76 (by decide) rfl ?_
          refine tg_aload_n S 0 dX3_letter_78 rfl rfl ?_
          refine tg_iload S 7 dX3_letter_79 rfl ?_
          refine tg_iload S 7 dX3_letter_81 rfl ?_
          refine tg_if_eq (tgt := 99) S dX3_letter_83 (by decide) (fun _ => ?_) (fun c => absurd (by decide) c)
          refine tg_iconst (v := 0) S dX3_letter_99 (by decide) ?_
          refine tg_callV (nA := 2) (As := [.int (tg_b false), .int (tg_b false)]) (rest := []) (q := (RX3, TX3, 16)) S hK hN (k_X3_asked_ hd σ false false) 0 rfl rfl (tw_gV ml_RX3_95 im_X3_asked_ se_X3_asked_ in_RX3 co_X3_asked_ rfl) rfl (by decide +kernel) ⟨Nat.le_of_ble_eq_true rfl, Nat.le_of_ble_eq_true rfl⟩ rfl rfl (Nat.le_of_ble_eq_true rfl) dX3_letter_100 ⟨Nat.le_of_ble_eq_true rfl, Nat.le_of_ble_eq_true rfl⟩ ?_
          refine tg_w (σ2 := tg_upA σ 15 (fun _ => 1)) rfl ?_
          refine tg_eq (σ2 := tg_upA σ 15 (fun _ => 1)) (L2 := [(0, .ref (h 0)), (1, .int x), (2, .int g), (3, .int q), (4, .int sub), (5, .int d), (6, .int w0), (7, .int 0)]) (st2 := [.int (tg_b false)]) rfl rfl rfl ?_
          refine tg_ifnz (b := false) (tgt := 108) S dX3_letter_103 (by decide) (fun c => absurd c (by decide)) (fun _ => ?_)
          refine tg_iconst (v := 0) S dX3_letter_106 (by decide) ?_
          exact tg_iret S hr hlk dX3_letter_107 (by simp [fb_okP, fb_right, fb_put, fb_thrP, fb_inm, c_1, c_3, c_5, c_7]) (by simp [fb_okP, fb_right, fb_put, fb_thrP, fb_inm, c_1, c_3, c_5, c_7])
        · skip
          refine tg_iload S 5 dX3_letter_38 rfl ?_
          refine tg_iconst (v := 0) S dX3_letter_40 (by decide) ?_
          refine tg_sipush (v := 999) S dX3_letter_41 (by decide) ?_
          refine tg_callS (nA := 3) (As := [.int d, .int 0, .int 999]) (rest := []) S hK hN (k_X3_in hd σ d 0 999) (tw_gS ml_RX3_57 st_X3_in in_RX3 co_X3_in rfl) rfl (by decide +kernel) ⟨Nat.le_of_ble_eq_true rfl, Nat.le_of_ble_eq_true rfl⟩ rfl rfl (Nat.le_of_ble_eq_true rfl) dX3_letter_44 ⟨Nat.le_of_ble_eq_true rfl, Nat.le_of_ble_eq_true rfl⟩ ?_
          refine tg_ifz (tgt := 75) S dX3_letter_47 (by decide) (fun c_9 => ?_) (fun c_9 => ?_)
          · skip
            refine tg_iconst (v := 0) S dX3_letter_75 (by decide) ?_
            refine tg_istore (L' := [(0, .ref (h 0)), (1, .int x), (2, .int g), (3, .int q), (4, .int sub), (5, .int d), (6, .int w0), (7, .int 0)]) [1, 2, 3, 4, 5, 6, 7, 0] S dX3_letter_76 (by decide) rfl ?_
            refine tg_aload_n S 0 dX3_letter_78 rfl rfl ?_
            refine tg_iload S 7 dX3_letter_79 rfl ?_
            refine tg_iload S 7 dX3_letter_81 rfl ?_
            refine tg_if_eq (tgt := 99) S dX3_letter_83 (by decide) (fun _ => ?_) (fun c => absurd (by decide) c)
            refine tg_iconst (v := 0) S dX3_letter_99 (by decide) ?_
            refine tg_callV (nA := 2) (As := [.int (tg_b false), .int (tg_b false)]) (rest := []) (q := (RX3, TX3, 16)) S hK hN (k_X3_asked_ hd σ false false) 0 rfl rfl (tw_gV ml_RX3_95 im_X3_asked_ se_X3_asked_ in_RX3 co_X3_asked_ rfl) rfl (by decide +kernel) ⟨Nat.le_of_ble_eq_true rfl, Nat.le_of_ble_eq_true rfl⟩ rfl rfl (Nat.le_of_ble_eq_true rfl) dX3_letter_100 ⟨Nat.le_of_ble_eq_true rfl, Nat.le_of_ble_eq_true rfl⟩ ?_
            refine tg_w (σ2 := tg_upA σ 15 (fun _ => 1)) rfl ?_
            refine tg_eq (σ2 := tg_upA σ 15 (fun _ => 1)) (L2 := [(0, .ref (h 0)), (1, .int x), (2, .int g), (3, .int q), (4, .int sub), (5, .int d), (6, .int w0), (7, .int 0)]) (st2 := [.int (tg_b false)]) rfl rfl rfl ?_
            refine tg_ifnz (b := false) (tgt := 108) S dX3_letter_103 (by decide) (fun c => absurd c (by decide)) (fun _ => ?_)
            refine tg_iconst (v := 0) S dX3_letter_106 (by decide) ?_
            exact tg_iret S hr hlk dX3_letter_107 (by simp [fb_okP, fb_right, fb_put, fb_thrP, fb_inm, c_1, c_3, c_5, c_7, c_9]) (by simp [fb_okP, fb_right, fb_put, fb_thrP, fb_inm, c_1, c_3, c_5, c_7, c_9])
          · skip
            refine tg_iload S 6 dX3_letter_50 rfl ?_
            refine tg_iconst (v := 0) S dX3_letter_52 (by decide) ?_
            refine tg_bipush (v := 9) S dX3_letter_53 (by decide) ?_
            refine tg_callS (nA := 3) (As := [.int w0, .int 0, .int 9]) (rest := []) S hK hN (k_X3_in hd σ w0 0 9) (tw_gS ml_RX3_57 st_X3_in in_RX3 co_X3_in rfl) rfl (by decide +kernel) ⟨Nat.le_of_ble_eq_true rfl, Nat.le_of_ble_eq_true rfl⟩ rfl rfl (Nat.le_of_ble_eq_true rfl) dX3_letter_55 ⟨Nat.le_of_ble_eq_true rfl, Nat.le_of_ble_eq_true rfl⟩ ?_
            refine tg_ifz (tgt := 75) S dX3_letter_58 (by decide) (fun c_11 => ?_) (fun c_11 => ?_)
            · skip
              refine tg_iconst (v := 0) S dX3_letter_75 (by decide) ?_
              refine tg_istore (L' := [(0, .ref (h 0)), (1, .int x), (2, .int g), (3, .int q), (4, .int sub), (5, .int d), (6, .int w0), (7, .int 0)]) [1, 2, 3, 4, 5, 6, 7, 0] S dX3_letter_76 (by decide) rfl ?_
              refine tg_aload_n S 0 dX3_letter_78 rfl rfl ?_
              refine tg_iload S 7 dX3_letter_79 rfl ?_
              refine tg_iload S 7 dX3_letter_81 rfl ?_
              refine tg_if_eq (tgt := 99) S dX3_letter_83 (by decide) (fun _ => ?_) (fun c => absurd (by decide) c)
              refine tg_iconst (v := 0) S dX3_letter_99 (by decide) ?_
              refine tg_callV (nA := 2) (As := [.int (tg_b false), .int (tg_b false)]) (rest := []) (q := (RX3, TX3, 16)) S hK hN (k_X3_asked_ hd σ false false) 0 rfl rfl (tw_gV ml_RX3_95 im_X3_asked_ se_X3_asked_ in_RX3 co_X3_asked_ rfl) rfl (by decide +kernel) ⟨Nat.le_of_ble_eq_true rfl, Nat.le_of_ble_eq_true rfl⟩ rfl rfl (Nat.le_of_ble_eq_true rfl) dX3_letter_100 ⟨Nat.le_of_ble_eq_true rfl, Nat.le_of_ble_eq_true rfl⟩ ?_
              refine tg_w (σ2 := tg_upA σ 15 (fun _ => 1)) rfl ?_
              refine tg_eq (σ2 := tg_upA σ 15 (fun _ => 1)) (L2 := [(0, .ref (h 0)), (1, .int x), (2, .int g), (3, .int q), (4, .int sub), (5, .int d), (6, .int w0), (7, .int 0)]) (st2 := [.int (tg_b false)]) rfl rfl rfl ?_
              refine tg_ifnz (b := false) (tgt := 108) S dX3_letter_103 (by decide) (fun c => absurd c (by decide)) (fun _ => ?_)
              refine tg_iconst (v := 0) S dX3_letter_106 (by decide) ?_
              exact tg_iret S hr hlk dX3_letter_107 (by simp [fb_okP, fb_right, fb_put, fb_thrP, fb_inm, c_1, c_3, c_5, c_7, c_9, c_11]) (by simp [fb_okP, fb_right, fb_put, fb_thrP, fb_inm, c_1, c_3, c_5, c_7, c_9, c_11])
            · skip
              refine tg_iload_n S 3 dX3_letter_61 rfl rfl ?_
              refine tg_iconst (v := -1) S dX3_letter_62 (by decide) ?_
              refine tg_icmp_ne (tgt := 71) S dX3_letter_63 (by decide) (fun c_13 => ?_) (fun c_13 => ?_)
              · skip
                refine tg_iconst (v := 1) S dX3_letter_71 (by decide) ?_
                refine tg_goto (tgt := 76) S dX3_letter_72 (by decide) ?_
                refine tg_istore (L' := [(0, .ref (h 0)), (1, .int x), (2, .int g), (3, .int q), (4, .int sub), (5, .int d), (6, .int w0), (7, .int 1)]) [1, 2, 3, 4, 5, 6, 7, 0] S dX3_letter_76 (by decide) rfl ?_
                refine tg_aload_n S 0 dX3_letter_78 rfl rfl ?_
                refine tg_iload S 7 dX3_letter_79 rfl ?_
                refine tg_iload S 7 dX3_letter_81 rfl ?_
                refine tg_if_eq (tgt := 99) S dX3_letter_83 (by decide) (fun c => absurd c (by decide)) (fun _ => ?_)
                refine tg_aload_n S 0 dX3_letter_86 rfl rfl ?_
                refine tg_get (v := .ref (h 1)) S tw_v3 hK 0 rfl rfl 0 (by decide) (tw_in fl_RX3_7 rfl) dX3_letter_87 rfl ?_
                refine tg_iload_n S 1 dX3_letter_90 rfl rfl ?_
                refine tg_zald (v := σ 0 x.toNatClampNeg) S hK 1 1 rfl rfl dX3_letter_91 (fb_in30 c_1) rfl ?_
                refine tg_if_ne (tgt := 99) S dX3_letter_92 (by decide) (fun c_15 => ?_) (fun c_15 => ?_)
                · skip
                  refine tg_iconst (v := 0) S dX3_letter_99 (by decide) ?_
                  refine tg_callV (nA := 2) (As := [.int (tg_b true), .int (tg_b false)]) (rest := []) (q := (RX3, TX3, 16)) S hK hN (k_X3_asked_ hd σ true false) 0 rfl rfl (tw_gV ml_RX3_95 im_X3_asked_ se_X3_asked_ in_RX3 co_X3_asked_ rfl) rfl (by decide +kernel) ⟨Nat.le_of_ble_eq_true rfl, Nat.le_of_ble_eq_true rfl⟩ rfl rfl (Nat.le_of_ble_eq_true rfl) dX3_letter_100 ⟨Nat.le_of_ble_eq_true rfl, Nat.le_of_ble_eq_true rfl⟩ ?_
                  refine tg_w (σ2 := tg_upA σ 15 (fun _ => 2)) rfl ?_
                  refine tg_eq (σ2 := tg_upA σ 15 (fun _ => 2)) (L2 := [(0, .ref (h 0)), (1, .int x), (2, .int g), (3, .int q), (4, .int sub), (5, .int d), (6, .int w0), (7, .int 1)]) (st2 := [.int (tg_b false)]) rfl rfl rfl ?_
                  refine tg_ifnz (b := false) (tgt := 108) S dX3_letter_103 (by decide) (fun c => absurd c (by decide)) (fun _ => ?_)
                  refine tg_iconst (v := 0) S dX3_letter_106 (by decide) ?_
                  exact tg_iret S hr hlk dX3_letter_107 (by simp [fb_okP, fb_right, fb_put, fb_thrP, fb_inm, c_1, c_3, c_5, c_7, c_9, c_11, c_13, c_15]) (by simp [fb_okP, fb_right, fb_put, fb_thrP, fb_inm, c_1, c_3, c_5, c_7, c_9, c_11, c_13, c_15])
                · skip
                  refine tg_iconst (v := 1) S dX3_letter_95 (by decide) ?_
                  refine tg_goto (tgt := 100) S dX3_letter_96 (by decide) ?_
                  refine tg_callV (nA := 2) (As := [.int (tg_b true), .int (tg_b true)]) (rest := []) (q := (RX3, TX3, 16)) S hK hN (k_X3_asked_ hd σ true true) 0 rfl rfl (tw_gV ml_RX3_95 im_X3_asked_ se_X3_asked_ in_RX3 co_X3_asked_ rfl) rfl (by decide +kernel) ⟨Nat.le_of_ble_eq_true rfl, Nat.le_of_ble_eq_true rfl⟩ rfl rfl (Nat.le_of_ble_eq_true rfl) dX3_letter_100 ⟨Nat.le_of_ble_eq_true rfl, Nat.le_of_ble_eq_true rfl⟩ ?_
                  refine tg_w (σ2 := tg_upA σ 15 (fun _ => 0)) rfl ?_
                  refine tg_eq (σ2 := tg_upA σ 15 (fun _ => 0)) (L2 := [(0, .ref (h 0)), (1, .int x), (2, .int g), (3, .int q), (4, .int sub), (5, .int d), (6, .int w0), (7, .int 1)]) (st2 := [.int (tg_b true)]) rfl rfl rfl ?_
                  refine tg_ifnz (b := true) (tgt := 108) S dX3_letter_103 (by decide) (fun _ => ?_) (fun c => absurd c (by decide))
                  refine tg_aload_n S 0 dX3_letter_108 rfl rfl ?_
                  refine tg_get (v := .ref (h 1)) S tw_v3 hK 0 rfl rfl 0 (by decide) (tw_in fl_RX3_7 rfl) dX3_letter_109 rfl ?_
                  refine tg_iload_n S 1 dX3_letter_112 rfl rfl ?_
                  refine tg_iconst (v := 1) S dX3_letter_113 (by decide) ?_
                  refine tg_zast (b := true) (σ2 := tg_upA (tg_upA σ 0 (upd (σ 0) x.toNatClampNeg 1)) 15 (fun _ => 0)) S hK (tw_MD hd) 1 1 rfl rfl dX3_letter_114 (fb_in30 c_1) ((tw_Ms0 (upd (σ 0) x.toNatClampNeg 1)).trans rfl) ?_
                  refine tg_aload_n S 0 dX3_letter_115 rfl rfl ?_
                  refine tg_get (v := .ref (h 2)) S tw_v3 hK 0 rfl rfl 1 (by decide) (tw_in fl_RX3_13 rfl) dX3_letter_116 rfl ?_
                  refine tg_iload_n S 1 dX3_letter_119 rfl rfl ?_
                  refine tg_iload_n S 3 dX3_letter_120 rfl rfl ?_
                  refine tg_iast (σ2 := tg_upA (tg_upA (tg_upA σ 0 (upd (σ 0) x.toNatClampNeg 1)) 1 (upd (σ 1) x.toNatClampNeg q)) 15 (fun _ => 0)) S hK (tw_MD hd) 2 0 rfl rfl dX3_letter_121 (fb_in30 c_1) ((tw_Ms1 (upd (σ 1) x.toNatClampNeg q)).trans rfl) ?_
                  refine tg_aload_n S 0 dX3_letter_122 rfl rfl ?_
                  refine tg_get (v := .ref (h 3)) S tw_v3 hK 0 rfl rfl 2 (by decide) (tw_in fl_RX3_17 rfl) dX3_letter_123 rfl ?_
                  refine tg_iload_n S 1 dX3_letter_126 rfl rfl ?_
                  refine tg_iload_n S 2 dX3_letter_127 rfl rfl ?_
                  refine tg_iast (σ2 := tg_upA (tg_upA (tg_upA (tg_upA σ 0 (upd (σ 0) x.toNatClampNeg 1)) 1 (upd (σ 1) x.toNatClampNeg q)) 2 (upd (σ 2) x.toNatClampNeg g)) 15 (fun _ => 0)) S hK (tw_MD hd) 3 0 rfl rfl dX3_letter_128 (fb_in30 c_1) ((tw_Ms2 (upd (σ 2) x.toNatClampNeg g)).trans rfl) ?_
                  refine tg_aload_n S 0 dX3_letter_129 rfl rfl ?_
                  refine tg_get (v := .ref (h 4)) S tw_v3 hK 0 rfl rfl 3 (by decide) (tw_in fl_RX3_20 rfl) dX3_letter_130 rfl ?_
                  refine tg_iload_n S 1 dX3_letter_133 rfl rfl ?_
                  refine tg_iload S 4 dX3_letter_134 rfl ?_
                  refine tg_iast (σ2 := tg_upA (tg_upA (tg_upA (tg_upA (tg_upA σ 0 (upd (σ 0) x.toNatClampNeg 1)) 1 (upd (σ 1) x.toNatClampNeg q)) 2 (upd (σ 2) x.toNatClampNeg g)) 3 (upd (σ 3) x.toNatClampNeg sub)) 15 (fun _ => 0)) S hK (tw_MD hd) 4 0 rfl rfl dX3_letter_136 (fb_in30 c_1) ((tw_Ms3 (upd (σ 3) x.toNatClampNeg sub)).trans rfl) ?_
                  refine tg_aload_n S 0 dX3_letter_137 rfl rfl ?_
                  refine tg_get (v := .ref (h 5)) S tw_v3 hK 0 rfl rfl 4 (by decide) (tw_in fl_RX3_23 rfl) dX3_letter_138 rfl ?_
                  refine tg_iload_n S 1 dX3_letter_141 rfl rfl ?_
                  refine tg_iload S 5 dX3_letter_142 rfl ?_
                  refine tg_iast (σ2 := tg_upA (tg_upA (tg_upA (tg_upA (tg_upA (tg_upA σ 0 (upd (σ 0) x.toNatClampNeg 1)) 1 (upd (σ 1) x.toNatClampNeg q)) 2 (upd (σ 2) x.toNatClampNeg g)) 3 (upd (σ 3) x.toNatClampNeg sub)) 4 (upd (σ 4) x.toNatClampNeg d)) 15 (fun _ => 0)) S hK (tw_MD hd) 5 0 rfl rfl dX3_letter_144 (fb_in30 c_1) ((tw_Ms4 (upd (σ 4) x.toNatClampNeg d)).trans rfl) ?_
                  refine tg_aload_n S 0 dX3_letter_145 rfl rfl ?_
                  refine tg_get (v := .ref (h 6)) S tw_v3 hK 0 rfl rfl 5 (by decide) (tw_in fl_RX3_26 rfl) dX3_letter_146 rfl ?_
                  refine tg_iload_n S 1 dX3_letter_149 rfl rfl ?_
                  refine tg_iload S 6 dX3_letter_150 rfl ?_
                  refine tg_iast (σ2 := tg_upA (tg_upA (tg_upA (tg_upA (tg_upA (tg_upA (tg_upA σ 0 (upd (σ 0) x.toNatClampNeg 1)) 1 (upd (σ 1) x.toNatClampNeg q)) 2 (upd (σ 2) x.toNatClampNeg g)) 3 (upd (σ 3) x.toNatClampNeg sub)) 4 (upd (σ 4) x.toNatClampNeg d)) 5 (upd (σ 5) x.toNatClampNeg w0)) 15 (fun _ => 0)) S hK (tw_MD hd) 6 0 rfl rfl dX3_letter_152 (fb_in30 c_1) ((tw_Ms5 (upd (σ 5) x.toNatClampNeg w0)).trans rfl) ?_
                  refine tg_aload_n S 0 dX3_letter_153 rfl rfl ?_
                  refine tg_get (v := .ref (h 7)) S tw_v3 hK 0 rfl rfl 6 (by decide) (tw_in fl_RX3_29 rfl) dX3_letter_154 rfl ?_
                  refine tg_iload_n S 1 dX3_letter_157 rfl rfl ?_
                  refine tg_iconst (v := 1) S dX3_letter_158 (by decide) ?_
                  refine tg_zast (b := true) (σ2 := tg_upA (tg_upA (tg_upA (tg_upA (tg_upA (tg_upA (tg_upA (tg_upA σ 0 (upd (σ 0) x.toNatClampNeg 1)) 1 (upd (σ 1) x.toNatClampNeg q)) 2 (upd (σ 2) x.toNatClampNeg g)) 3 (upd (σ 3) x.toNatClampNeg sub)) 4 (upd (σ 4) x.toNatClampNeg d)) 5 (upd (σ 5) x.toNatClampNeg w0)) 6 (upd (σ 6) x.toNatClampNeg 1)) 15 (fun _ => 0)) S hK (tw_MD hd) 7 1 rfl rfl dX3_letter_159 (fb_in30 c_1) ((tw_Ms6 (upd (σ 6) x.toNatClampNeg 1)).trans rfl) ?_
                  refine tg_aload_n S 0 dX3_letter_160 rfl rfl ?_
                  refine tg_get (v := .ref (h 8)) S tw_v3 hK 0 rfl rfl 7 (by decide) (tw_in fl_RX3_32 rfl) dX3_letter_161 rfl ?_
                  refine tg_iload_n S 1 dX3_letter_164 rfl rfl ?_
                  refine tg_iconst (v := -1) S dX3_letter_165 (by decide) ?_
                  refine tg_iast (σ2 := tg_upA (tg_upA (tg_upA (tg_upA (tg_upA (tg_upA (tg_upA (tg_upA (tg_upA σ 0 (upd (σ 0) x.toNatClampNeg 1)) 1 (upd (σ 1) x.toNatClampNeg q)) 2 (upd (σ 2) x.toNatClampNeg g)) 3 (upd (σ 3) x.toNatClampNeg sub)) 4 (upd (σ 4) x.toNatClampNeg d)) 5 (upd (σ 5) x.toNatClampNeg w0)) 6 (upd (σ 6) x.toNatClampNeg 1)) 7 (upd (σ 7) x.toNatClampNeg (-1))) 15 (fun _ => 0)) S hK (tw_MD hd) 8 0 rfl rfl dX3_letter_166 (fb_in30 c_1) ((tw_Ms7 (upd (σ 7) x.toNatClampNeg (-1))).trans rfl) ?_
                  refine tg_aload_n S 0 dX3_letter_167 rfl rfl ?_
                  refine tg_callV (nA := 0) (As := []) (rest := []) (q := (RX3, TX3, 16)) S hK hN (k_X3_rootsThen hd (tg_upA (tg_upA (tg_upA (tg_upA (tg_upA (tg_upA (tg_upA (tg_upA (tg_upA σ 0 (upd (σ 0) x.toNatClampNeg 1)) 1 (upd (σ 1) x.toNatClampNeg q)) 2 (upd (σ 2) x.toNatClampNeg g)) 3 (upd (σ 3) x.toNatClampNeg sub)) 4 (upd (σ 4) x.toNatClampNeg d)) 5 (upd (σ 5) x.toNatClampNeg w0)) 6 (upd (σ 6) x.toNatClampNeg 1)) 7 (upd (σ 7) x.toNatClampNeg (-1))) 15 (fun _ => 0)) (H (by simp [fb_okP, fb_right, fb_inm, c_1, c_3, c_5, c_7, c_9, c_11, c_13, c_15]))) 0 rfl rfl (tw_gV ml_RX3_99 im_X3_rootsThen se_X3_rootsThen in_RX3 co_X3_rootsThen rfl) rfl (by decide +kernel) ⟨Nat.le_of_ble_eq_true rfl, Nat.le_of_ble_eq_true rfl⟩ rfl rfl (Nat.le_of_ble_eq_true rfl) dX3_letter_168 ⟨Nat.le_of_ble_eq_true rfl, Nat.le_of_ble_eq_true rfl⟩ ?_
                  exact tg_iret S hr hlk dX3_letter_171 (by simp [fb_okP, fb_right, fb_put, fb_thrP, fb_inm, c_1, c_3, c_5, c_7, c_9, c_11, c_13, c_15]) (by simp [fb_okP, fb_right, fb_put, fb_thrP, fb_inm, c_1, c_3, c_5, c_7, c_9, c_11, c_13, c_15])
              · skip
                refine tg_iload_n S 2 dX3_letter_66 rfl rfl ?_
                refine tg_iconst (v := -1) S dX3_letter_67 (by decide) ?_
                refine tg_icmp_ne (tgt := 75) S dX3_letter_68 (by decide) (fun c_16 => ?_) (fun c_16 => ?_)
                · skip
                  refine tg_iconst (v := 0) S dX3_letter_75 (by decide) ?_
                  refine tg_istore (L' := [(0, .ref (h 0)), (1, .int x), (2, .int g), (3, .int q), (4, .int sub), (5, .int d), (6, .int w0), (7, .int 0)]) [1, 2, 3, 4, 5, 6, 7, 0] S dX3_letter_76 (by decide) rfl ?_
                  refine tg_aload_n S 0 dX3_letter_78 rfl rfl ?_
                  refine tg_iload S 7 dX3_letter_79 rfl ?_
                  refine tg_iload S 7 dX3_letter_81 rfl ?_
                  refine tg_if_eq (tgt := 99) S dX3_letter_83 (by decide) (fun _ => ?_) (fun c => absurd (by decide) c)
                  refine tg_iconst (v := 0) S dX3_letter_99 (by decide) ?_
                  refine tg_callV (nA := 2) (As := [.int (tg_b false), .int (tg_b false)]) (rest := []) (q := (RX3, TX3, 16)) S hK hN (k_X3_asked_ hd σ false false) 0 rfl rfl (tw_gV ml_RX3_95 im_X3_asked_ se_X3_asked_ in_RX3 co_X3_asked_ rfl) rfl (by decide +kernel) ⟨Nat.le_of_ble_eq_true rfl, Nat.le_of_ble_eq_true rfl⟩ rfl rfl (Nat.le_of_ble_eq_true rfl) dX3_letter_100 ⟨Nat.le_of_ble_eq_true rfl, Nat.le_of_ble_eq_true rfl⟩ ?_
                  refine tg_w (σ2 := tg_upA σ 15 (fun _ => 1)) rfl ?_
                  refine tg_eq (σ2 := tg_upA σ 15 (fun _ => 1)) (L2 := [(0, .ref (h 0)), (1, .int x), (2, .int g), (3, .int q), (4, .int sub), (5, .int d), (6, .int w0), (7, .int 0)]) (st2 := [.int (tg_b false)]) rfl rfl rfl ?_
                  refine tg_ifnz (b := false) (tgt := 108) S dX3_letter_103 (by decide) (fun c => absurd c (by decide)) (fun _ => ?_)
                  refine tg_iconst (v := 0) S dX3_letter_106 (by decide) ?_
                  exact tg_iret S hr hlk dX3_letter_107 (by simp [fb_okP, fb_right, fb_put, fb_thrP, fb_inm, c_1, c_3, c_5, c_7, c_9, c_11, c_13, c_16]) (by simp [fb_okP, fb_right, fb_put, fb_thrP, fb_inm, c_1, c_3, c_5, c_7, c_9, c_11, c_13, c_16])
                · skip
                  refine tg_iconst (v := 1) S dX3_letter_71 (by decide) ?_
                  refine tg_goto (tgt := 76) S dX3_letter_72 (by decide) ?_
                  refine tg_istore (L' := [(0, .ref (h 0)), (1, .int x), (2, .int g), (3, .int q), (4, .int sub), (5, .int d), (6, .int w0), (7, .int 1)]) [1, 2, 3, 4, 5, 6, 7, 0] S dX3_letter_76 (by decide) rfl ?_
                  refine tg_aload_n S 0 dX3_letter_78 rfl rfl ?_
                  refine tg_iload S 7 dX3_letter_79 rfl ?_
                  refine tg_iload S 7 dX3_letter_81 rfl ?_
                  refine tg_if_eq (tgt := 99) S dX3_letter_83 (by decide) (fun c => absurd c (by decide)) (fun _ => ?_)
                  refine tg_aload_n S 0 dX3_letter_86 rfl rfl ?_
                  refine tg_get (v := .ref (h 1)) S tw_v3 hK 0 rfl rfl 0 (by decide) (tw_in fl_RX3_7 rfl) dX3_letter_87 rfl ?_
                  refine tg_iload_n S 1 dX3_letter_90 rfl rfl ?_
                  refine tg_zald (v := σ 0 x.toNatClampNeg) S hK 1 1 rfl rfl dX3_letter_91 (fb_in30 c_1) rfl ?_
                  refine tg_if_ne (tgt := 99) S dX3_letter_92 (by decide) (fun c_19 => ?_) (fun c_19 => ?_)
                  · skip
                    refine tg_iconst (v := 0) S dX3_letter_99 (by decide) ?_
                    refine tg_callV (nA := 2) (As := [.int (tg_b true), .int (tg_b false)]) (rest := []) (q := (RX3, TX3, 16)) S hK hN (k_X3_asked_ hd σ true false) 0 rfl rfl (tw_gV ml_RX3_95 im_X3_asked_ se_X3_asked_ in_RX3 co_X3_asked_ rfl) rfl (by decide +kernel) ⟨Nat.le_of_ble_eq_true rfl, Nat.le_of_ble_eq_true rfl⟩ rfl rfl (Nat.le_of_ble_eq_true rfl) dX3_letter_100 ⟨Nat.le_of_ble_eq_true rfl, Nat.le_of_ble_eq_true rfl⟩ ?_
                    refine tg_w (σ2 := tg_upA σ 15 (fun _ => 2)) rfl ?_
                    refine tg_eq (σ2 := tg_upA σ 15 (fun _ => 2)) (L2 := [(0, .ref (h 0)), (1, .int x), (2, .int g), (3, .int q), (4, .int sub), (5, .int d), (6, .int w0), (7, .int 1)]) (st2 := [.int (tg_b false)]) rfl rfl rfl ?_
                    refine tg_ifnz (b := false) (tgt := 108) S dX3_letter_103 (by decide) (fun c => absurd c (by decide)) (fun _ => ?_)
                    refine tg_iconst (v := 0) S dX3_letter_106 (by decide) ?_
                    exact tg_iret S hr hlk dX3_letter_107 (by simp [fb_okP, fb_right, fb_put, fb_thrP, fb_inm, c_1, c_3, c_5, c_7, c_9, c_11, c_13, c_16, c_19]) (by simp [fb_okP, fb_right, fb_put, fb_thrP, fb_inm, c_1, c_3, c_5, c_7, c_9, c_11, c_13, c_16, c_19])
                  · skip
                    refine tg_iconst (v := 1) S dX3_letter_95 (by decide) ?_
                    refine tg_goto (tgt := 100) S dX3_letter_96 (by decide) ?_
                    refine tg_callV (nA := 2) (As := [.int (tg_b true), .int (tg_b true)]) (rest := []) (q := (RX3, TX3, 16)) S hK hN (k_X3_asked_ hd σ true true) 0 rfl rfl (tw_gV ml_RX3_95 im_X3_asked_ se_X3_asked_ in_RX3 co_X3_asked_ rfl) rfl (by decide +kernel) ⟨Nat.le_of_ble_eq_true rfl, Nat.le_of_ble_eq_true rfl⟩ rfl rfl (Nat.le_of_ble_eq_true rfl) dX3_letter_100 ⟨Nat.le_of_ble_eq_true rfl, Nat.le_of_ble_eq_true rfl⟩ ?_
                    refine tg_w (σ2 := tg_upA σ 15 (fun _ => 0)) rfl ?_
                    refine tg_eq (σ2 := tg_upA σ 15 (fun _ => 0)) (L2 := [(0, .ref (h 0)), (1, .int x), (2, .int g), (3, .int q), (4, .int sub), (5, .int d), (6, .int w0), (7, .int 1)]) (st2 := [.int (tg_b true)]) rfl rfl rfl ?_
                    refine tg_ifnz (b := true) (tgt := 108) S dX3_letter_103 (by decide) (fun _ => ?_) (fun c => absurd c (by decide))
                    refine tg_aload_n S 0 dX3_letter_108 rfl rfl ?_
                    refine tg_get (v := .ref (h 1)) S tw_v3 hK 0 rfl rfl 0 (by decide) (tw_in fl_RX3_7 rfl) dX3_letter_109 rfl ?_
                    refine tg_iload_n S 1 dX3_letter_112 rfl rfl ?_
                    refine tg_iconst (v := 1) S dX3_letter_113 (by decide) ?_
                    refine tg_zast (b := true) (σ2 := tg_upA (tg_upA σ 0 (upd (σ 0) x.toNatClampNeg 1)) 15 (fun _ => 0)) S hK (tw_MD hd) 1 1 rfl rfl dX3_letter_114 (fb_in30 c_1) ((tw_Ms0 (upd (σ 0) x.toNatClampNeg 1)).trans rfl) ?_
                    refine tg_aload_n S 0 dX3_letter_115 rfl rfl ?_
                    refine tg_get (v := .ref (h 2)) S tw_v3 hK 0 rfl rfl 1 (by decide) (tw_in fl_RX3_13 rfl) dX3_letter_116 rfl ?_
                    refine tg_iload_n S 1 dX3_letter_119 rfl rfl ?_
                    refine tg_iload_n S 3 dX3_letter_120 rfl rfl ?_
                    refine tg_iast (σ2 := tg_upA (tg_upA (tg_upA σ 0 (upd (σ 0) x.toNatClampNeg 1)) 1 (upd (σ 1) x.toNatClampNeg q)) 15 (fun _ => 0)) S hK (tw_MD hd) 2 0 rfl rfl dX3_letter_121 (fb_in30 c_1) ((tw_Ms1 (upd (σ 1) x.toNatClampNeg q)).trans rfl) ?_
                    refine tg_aload_n S 0 dX3_letter_122 rfl rfl ?_
                    refine tg_get (v := .ref (h 3)) S tw_v3 hK 0 rfl rfl 2 (by decide) (tw_in fl_RX3_17 rfl) dX3_letter_123 rfl ?_
                    refine tg_iload_n S 1 dX3_letter_126 rfl rfl ?_
                    refine tg_iload_n S 2 dX3_letter_127 rfl rfl ?_
                    refine tg_iast (σ2 := tg_upA (tg_upA (tg_upA (tg_upA σ 0 (upd (σ 0) x.toNatClampNeg 1)) 1 (upd (σ 1) x.toNatClampNeg q)) 2 (upd (σ 2) x.toNatClampNeg g)) 15 (fun _ => 0)) S hK (tw_MD hd) 3 0 rfl rfl dX3_letter_128 (fb_in30 c_1) ((tw_Ms2 (upd (σ 2) x.toNatClampNeg g)).trans rfl) ?_
                    refine tg_aload_n S 0 dX3_letter_129 rfl rfl ?_
                    refine tg_get (v := .ref (h 4)) S tw_v3 hK 0 rfl rfl 3 (by decide) (tw_in fl_RX3_20 rfl) dX3_letter_130 rfl ?_
                    refine tg_iload_n S 1 dX3_letter_133 rfl rfl ?_
                    refine tg_iload S 4 dX3_letter_134 rfl ?_
                    refine tg_iast (σ2 := tg_upA (tg_upA (tg_upA (tg_upA (tg_upA σ 0 (upd (σ 0) x.toNatClampNeg 1)) 1 (upd (σ 1) x.toNatClampNeg q)) 2 (upd (σ 2) x.toNatClampNeg g)) 3 (upd (σ 3) x.toNatClampNeg sub)) 15 (fun _ => 0)) S hK (tw_MD hd) 4 0 rfl rfl dX3_letter_136 (fb_in30 c_1) ((tw_Ms3 (upd (σ 3) x.toNatClampNeg sub)).trans rfl) ?_
                    refine tg_aload_n S 0 dX3_letter_137 rfl rfl ?_
                    refine tg_get (v := .ref (h 5)) S tw_v3 hK 0 rfl rfl 4 (by decide) (tw_in fl_RX3_23 rfl) dX3_letter_138 rfl ?_
                    refine tg_iload_n S 1 dX3_letter_141 rfl rfl ?_
                    refine tg_iload S 5 dX3_letter_142 rfl ?_
                    refine tg_iast (σ2 := tg_upA (tg_upA (tg_upA (tg_upA (tg_upA (tg_upA σ 0 (upd (σ 0) x.toNatClampNeg 1)) 1 (upd (σ 1) x.toNatClampNeg q)) 2 (upd (σ 2) x.toNatClampNeg g)) 3 (upd (σ 3) x.toNatClampNeg sub)) 4 (upd (σ 4) x.toNatClampNeg d)) 15 (fun _ => 0)) S hK (tw_MD hd) 5 0 rfl rfl dX3_letter_144 (fb_in30 c_1) ((tw_Ms4 (upd (σ 4) x.toNatClampNeg d)).trans rfl) ?_
                    refine tg_aload_n S 0 dX3_letter_145 rfl rfl ?_
                    refine tg_get (v := .ref (h 6)) S tw_v3 hK 0 rfl rfl 5 (by decide) (tw_in fl_RX3_26 rfl) dX3_letter_146 rfl ?_
                    refine tg_iload_n S 1 dX3_letter_149 rfl rfl ?_
                    refine tg_iload S 6 dX3_letter_150 rfl ?_
                    refine tg_iast (σ2 := tg_upA (tg_upA (tg_upA (tg_upA (tg_upA (tg_upA (tg_upA σ 0 (upd (σ 0) x.toNatClampNeg 1)) 1 (upd (σ 1) x.toNatClampNeg q)) 2 (upd (σ 2) x.toNatClampNeg g)) 3 (upd (σ 3) x.toNatClampNeg sub)) 4 (upd (σ 4) x.toNatClampNeg d)) 5 (upd (σ 5) x.toNatClampNeg w0)) 15 (fun _ => 0)) S hK (tw_MD hd) 6 0 rfl rfl dX3_letter_152 (fb_in30 c_1) ((tw_Ms5 (upd (σ 5) x.toNatClampNeg w0)).trans rfl) ?_
                    refine tg_aload_n S 0 dX3_letter_153 rfl rfl ?_
                    refine tg_get (v := .ref (h 7)) S tw_v3 hK 0 rfl rfl 6 (by decide) (tw_in fl_RX3_29 rfl) dX3_letter_154 rfl ?_
                    refine tg_iload_n S 1 dX3_letter_157 rfl rfl ?_
                    refine tg_iconst (v := 1) S dX3_letter_158 (by decide) ?_
                    refine tg_zast (b := true) (σ2 := tg_upA (tg_upA (tg_upA (tg_upA (tg_upA (tg_upA (tg_upA (tg_upA σ 0 (upd (σ 0) x.toNatClampNeg 1)) 1 (upd (σ 1) x.toNatClampNeg q)) 2 (upd (σ 2) x.toNatClampNeg g)) 3 (upd (σ 3) x.toNatClampNeg sub)) 4 (upd (σ 4) x.toNatClampNeg d)) 5 (upd (σ 5) x.toNatClampNeg w0)) 6 (upd (σ 6) x.toNatClampNeg 1)) 15 (fun _ => 0)) S hK (tw_MD hd) 7 1 rfl rfl dX3_letter_159 (fb_in30 c_1) ((tw_Ms6 (upd (σ 6) x.toNatClampNeg 1)).trans rfl) ?_
                    refine tg_aload_n S 0 dX3_letter_160 rfl rfl ?_
                    refine tg_get (v := .ref (h 8)) S tw_v3 hK 0 rfl rfl 7 (by decide) (tw_in fl_RX3_32 rfl) dX3_letter_161 rfl ?_
                    refine tg_iload_n S 1 dX3_letter_164 rfl rfl ?_
                    refine tg_iconst (v := -1) S dX3_letter_165 (by decide) ?_
                    refine tg_iast (σ2 := tg_upA (tg_upA (tg_upA (tg_upA (tg_upA (tg_upA (tg_upA (tg_upA (tg_upA σ 0 (upd (σ 0) x.toNatClampNeg 1)) 1 (upd (σ 1) x.toNatClampNeg q)) 2 (upd (σ 2) x.toNatClampNeg g)) 3 (upd (σ 3) x.toNatClampNeg sub)) 4 (upd (σ 4) x.toNatClampNeg d)) 5 (upd (σ 5) x.toNatClampNeg w0)) 6 (upd (σ 6) x.toNatClampNeg 1)) 7 (upd (σ 7) x.toNatClampNeg (-1))) 15 (fun _ => 0)) S hK (tw_MD hd) 8 0 rfl rfl dX3_letter_166 (fb_in30 c_1) ((tw_Ms7 (upd (σ 7) x.toNatClampNeg (-1))).trans rfl) ?_
                    refine tg_aload_n S 0 dX3_letter_167 rfl rfl ?_
                    refine tg_callV (nA := 0) (As := []) (rest := []) (q := (RX3, TX3, 16)) S hK hN (k_X3_rootsThen hd (tg_upA (tg_upA (tg_upA (tg_upA (tg_upA (tg_upA (tg_upA (tg_upA (tg_upA σ 0 (upd (σ 0) x.toNatClampNeg 1)) 1 (upd (σ 1) x.toNatClampNeg q)) 2 (upd (σ 2) x.toNatClampNeg g)) 3 (upd (σ 3) x.toNatClampNeg sub)) 4 (upd (σ 4) x.toNatClampNeg d)) 5 (upd (σ 5) x.toNatClampNeg w0)) 6 (upd (σ 6) x.toNatClampNeg 1)) 7 (upd (σ 7) x.toNatClampNeg (-1))) 15 (fun _ => 0)) (H (by simp [fb_okP, fb_right, fb_inm, c_1, c_3, c_5, c_7, c_9, c_11, c_13, c_16, c_19]))) 0 rfl rfl (tw_gV ml_RX3_99 im_X3_rootsThen se_X3_rootsThen in_RX3 co_X3_rootsThen rfl) rfl (by decide +kernel) ⟨Nat.le_of_ble_eq_true rfl, Nat.le_of_ble_eq_true rfl⟩ rfl rfl (Nat.le_of_ble_eq_true rfl) dX3_letter_168 ⟨Nat.le_of_ble_eq_true rfl, Nat.le_of_ble_eq_true rfl⟩ ?_
                    exact tg_iret S hr hlk dX3_letter_171 (by simp [fb_okP, fb_right, fb_put, fb_thrP, fb_inm, c_1, c_3, c_5, c_7, c_9, c_11, c_13, c_16, c_19]) (by simp [fb_okP, fb_right, fb_put, fb_thrP, fb_inm, c_1, c_3, c_5, c_7, c_9, c_11, c_13, c_16, c_19])
set_option maxHeartbeats 4000000 in
set_option maxRecDepth 100000 in
theorem k_X3_looks {l : Launch} {D : va_G} {h : Nat → Nat} {cI cZ : ClassId} (hd : tw_dis 15 h) (σ : tg_Mem) (x : Int32) (H : fb_hyp (σ 0) (σ 1) (σ 2) (σ 7) (σ 8) (σ 9)) (HT : fb_lkB σ x = true → fb_tr (fb_forest σ) x = some (fb_trR (fb_forest σ) x)) : tg_CT l yX3_looks wzX3_looks (tg_rm 3) (tw_M h cI cZ) (tw_ty cI cZ) [] (tw_A 15 h) D [.ref (h 0), .int x] σ (some (.int (tg_b (fb_lkB σ x)))) (fb_lkS σ x) := by
  refine tg_met (own := RX3) (cc := cX3_looks) (maxL := 4) (ret := (some .boolean)) (by decide +kernel) rfl rfl (Nat.le_of_ble_eq_true rfl) ?_
  intro p e s m below meth c S hK hN hr hlk
  refine tg_sub (L' := [(0, .ref (h 0)), (1, .int x)]) [0, 1] rfl ?_
  refine tg_iload_n S 1 dX3_looks_0 rfl rfl ?_
  refine tg_callS (nA := 1) (As := [.int x]) (rest := []) S hK hN (k_X3_isId hd σ x) (tw_gS ml_RX3_92 st_X3_isId in_RX3 co_X3_isId rfl) rfl (by decide +kernel) ⟨Nat.le_of_ble_eq_true rfl, Nat.le_of_ble_eq_true rfl⟩ rfl rfl (Nat.le_of_ble_eq_true rfl) dX3_looks_1 ⟨Nat.le_of_ble_eq_true rfl, Nat.le_of_ble_eq_true rfl⟩ ?_
  refine tg_istore_n (L' := [(0, .ref (h 0)), (1, .int x), (2, .int (tg_b (fb_in x 0 29)))]) [1, 2, 0] S dX3_looks_4 rfl (by decide) rfl ?_
  refine tg_aload_n S 0 dX3_looks_5 rfl rfl ?_
  refine tg_callV (nA := 0) (As := []) (rest := []) (q := (RX3, TX3, 16)) S hK hN (k_X3_forest hd σ H) 0 rfl rfl (tw_gV ml_RX3_85 im_X3_forest se_X3_forest in_RX3 co_X3_forest rfl) rfl (by decide +kernel) ⟨Nat.le_of_ble_eq_true rfl, Nat.le_of_ble_eq_true rfl⟩ rfl rfl (Nat.le_of_ble_eq_true rfl) dX3_looks_6 ⟨Nat.le_of_ble_eq_true rfl, Nat.le_of_ble_eq_true rfl⟩ ?_
  refine tg_aload_n S 0 dX3_looks_9 rfl rfl ?_
  refine tg_iload_n S 2 dX3_looks_10 rfl rfl ?_
  refine tg_iload_n S 2 dX3_looks_11 rfl rfl ?_
  refine tg_ifz (tgt := 28) S dX3_looks_12 (by decide) (fun c_1 => ?_) (fun c_1 => ?_)
  · skip
    refine tg_eq (σ2 := fb_forest σ) (L2 := [(0, .ref (h 0)), (1, .int x), (2, .int (tg_b false))]) (st2 := [.int (tg_b false), .ref (h 0)]) rfl (by first | (simp only [c_1]; done) | (simp only [c_1]; rfl)) (by first | (simp only [c_1]; done) | (simp only [c_1]; rfl)) ?_
    refine tg_iconst (v := 0) S dX3_looks_28 (by decide) ?_
    refine tg_callV (nA := 2) (As := [.int (tg_b false), .int (tg_b false)]) (rest := []) (q := (RX3, TX3, 16)) S hK hN (k_X3_asked_ hd (fb_forest σ) false false) 0 rfl rfl (tw_gV ml_RX3_95 im_X3_asked_ se_X3_asked_ in_RX3 co_X3_asked_ rfl) rfl (by decide +kernel) ⟨Nat.le_of_ble_eq_true rfl, Nat.le_of_ble_eq_true rfl⟩ rfl rfl (Nat.le_of_ble_eq_true rfl) dX3_looks_29 ⟨Nat.le_of_ble_eq_true rfl, Nat.le_of_ble_eq_true rfl⟩ ?_
    refine tg_w (σ2 := tg_upA (fb_forest σ) 15 (fun _ => 1)) rfl ?_
    refine tg_eq (σ2 := tg_upA (fb_forest σ) 15 (fun _ => 1)) (L2 := [(0, .ref (h 0)), (1, .int x), (2, .int (tg_b false))]) (st2 := [.int (tg_b false)]) rfl rfl rfl ?_
    refine tg_istore_n (L' := [(0, .ref (h 0)), (1, .int x), (2, .int (tg_b false)), (3, .int (tg_b false))]) [1, 2, 3, 0] S dX3_looks_32 rfl (by decide) rfl ?_
    refine tg_iload_n S 3 dX3_looks_33 rfl rfl ?_
    refine tg_ifz (b := false) (tgt := 42) S dX3_looks_34 (by decide) (fun _ => ?_) (fun c => absurd c (by decide))
    refine tg_iload_n S 3 dX3_looks_42 rfl rfl ?_
    exact tg_zret (b := false) S hr hlk dX3_looks_43 (congrArg tg_b (by simp [fb_lkB, fb_lkS, fb_lkT, fb_lkF, c_1])) (by simp [fb_lkB, fb_lkS, fb_lkT, fb_lkF, c_1])
  · skip
    refine tg_eq (σ2 := fb_forest σ) (L2 := [(0, .ref (h 0)), (1, .int x), (2, .int (tg_b true))]) (st2 := [.int (tg_b true), .ref (h 0)]) rfl (by first | (simp only [c_1]; done) | (simp only [c_1]; rfl)) (by first | (simp only [c_1]; done) | (simp only [c_1]; rfl)) ?_
    refine tg_aload_n S 0 dX3_looks_15 rfl rfl ?_
    refine tg_get (v := .ref (h 12)) S tw_v3 hK 0 rfl rfl 11 (by decide) (tw_in fl_RX3_44 rfl) dX3_looks_16 rfl ?_
    refine tg_iload_n S 1 dX3_looks_19 rfl rfl ?_
    refine tg_zald (v := ((fb_forest σ) 11) x.toNatClampNeg) S hK 12 1 rfl rfl dX3_looks_20 (fb_in30 c_1) rfl ?_
    refine tg_if_eq (tgt := 28) S dX3_looks_21 (by decide) (fun c_2 => ?_) (fun c_2 => ?_)
    · skip
      refine tg_iconst (v := 0) S dX3_looks_28 (by decide) ?_
      refine tg_callV (nA := 2) (As := [.int (tg_b true), .int (tg_b false)]) (rest := []) (q := (RX3, TX3, 16)) S hK hN (k_X3_asked_ hd (fb_forest σ) true false) 0 rfl rfl (tw_gV ml_RX3_95 im_X3_asked_ se_X3_asked_ in_RX3 co_X3_asked_ rfl) rfl (by decide +kernel) ⟨Nat.le_of_ble_eq_true rfl, Nat.le_of_ble_eq_true rfl⟩ rfl rfl (Nat.le_of_ble_eq_true rfl) dX3_looks_29 ⟨Nat.le_of_ble_eq_true rfl, Nat.le_of_ble_eq_true rfl⟩ ?_
      refine tg_w (σ2 := tg_upA (fb_forest σ) 15 (fun _ => 2)) rfl ?_
      refine tg_eq (σ2 := tg_upA (fb_forest σ) 15 (fun _ => 2)) (L2 := [(0, .ref (h 0)), (1, .int x), (2, .int (tg_b true))]) (st2 := [.int (tg_b false)]) rfl rfl rfl ?_
      refine tg_istore_n (L' := [(0, .ref (h 0)), (1, .int x), (2, .int (tg_b true)), (3, .int (tg_b false))]) [1, 2, 3, 0] S dX3_looks_32 rfl (by decide) rfl ?_
      refine tg_iload_n S 3 dX3_looks_33 rfl rfl ?_
      refine tg_ifz (b := false) (tgt := 42) S dX3_looks_34 (by decide) (fun _ => ?_) (fun c => absurd c (by decide))
      refine tg_iload_n S 3 dX3_looks_42 rfl rfl ?_
      exact tg_zret (b := false) S hr hlk dX3_looks_43 (congrArg tg_b (by simp [fb_lkB, fb_lkS, fb_lkT, fb_lkF, c_1, c_2])) (by simp [fb_lkB, fb_lkS, fb_lkT, fb_lkF, c_1, c_2])
    · skip
      refine tg_iconst (v := 1) S dX3_looks_24 (by decide) ?_
      refine tg_goto (tgt := 29) S dX3_looks_25 (by decide) ?_
      refine tg_callV (nA := 2) (As := [.int (tg_b true), .int (tg_b true)]) (rest := []) (q := (RX3, TX3, 16)) S hK hN (k_X3_asked_ hd (fb_forest σ) true true) 0 rfl rfl (tw_gV ml_RX3_95 im_X3_asked_ se_X3_asked_ in_RX3 co_X3_asked_ rfl) rfl (by decide +kernel) ⟨Nat.le_of_ble_eq_true rfl, Nat.le_of_ble_eq_true rfl⟩ rfl rfl (Nat.le_of_ble_eq_true rfl) dX3_looks_29 ⟨Nat.le_of_ble_eq_true rfl, Nat.le_of_ble_eq_true rfl⟩ ?_
      refine tg_w (σ2 := tg_upA (fb_forest σ) 15 (fun _ => 0)) rfl ?_
      refine tg_eq (σ2 := tg_upA (fb_forest σ) 15 (fun _ => 0)) (L2 := [(0, .ref (h 0)), (1, .int x), (2, .int (tg_b true))]) (st2 := [.int (tg_b true)]) rfl rfl rfl ?_
      refine tg_istore_n (L' := [(0, .ref (h 0)), (1, .int x), (2, .int (tg_b true)), (3, .int (tg_b true))]) [1, 2, 3, 0] S dX3_looks_32 rfl (by decide) rfl ?_
      refine tg_iload_n S 3 dX3_looks_33 rfl rfl ?_
      refine tg_ifz (b := true) (tgt := 42) S dX3_looks_34 (by decide) (fun c => absurd c (by decide)) (fun _ => ?_)
      refine tg_aload_n S 0 dX3_looks_37 rfl rfl ?_
      refine tg_iload_n S 1 dX3_looks_38 rfl rfl ?_
      refine tg_callV (nA := 1) (As := [.int x]) (rest := []) (q := (RX3, TX3, 16)) S hK hN (k_X3_trees hd (tg_upA (fb_forest σ) 15 (fun _ => 0)) x (fb_trR (fb_forest σ) x) (HT (by simp [fb_lkB, c_1, c_2]))) 0 rfl rfl (tw_gV ml_RX3_105 im_X3_trees se_X3_trees in_RX3 co_X3_trees rfl) rfl (by decide +kernel) ⟨Nat.le_of_ble_eq_true rfl, Nat.le_of_ble_eq_true rfl⟩ rfl rfl (Nat.le_of_ble_eq_true rfl) dX3_looks_39 ⟨Nat.le_of_ble_eq_true rfl, Nat.le_of_ble_eq_true rfl⟩ ?_
      refine tg_w (σ2 := tg_upA (tg_upA (tg_upA (tg_upA (fb_forest σ) 12 ((fb_trR (fb_forest σ) x).2.1)) 13 ((fb_trR (fb_forest σ) x).2.2)) 14 (fun _ => (fb_trR (fb_forest σ) x).1)) 15 (fun _ => 0)) rfl ?_
      refine tg_iload_n S 3 dX3_looks_42 rfl rfl ?_
      exact tg_zret (b := true) S hr hlk dX3_looks_43 (congrArg tg_b (by simp [fb_lkB, fb_lkS, fb_lkT, fb_lkF, c_1, c_2])) (by simp [fb_lkB, fb_lkS, fb_lkT, fb_lkF, c_1, c_2])
set_option maxHeartbeats 4000000 in
set_option maxRecDepth 100000 in
theorem k_X3_parent {l : Launch} {D : va_G} {h : Nat → Nat} {cI cZ : ClassId} (hd : tw_dis 15 h) (σ : tg_Mem) (x : Int32) (H : fb_hyp (σ 0) (σ 1) (σ 2) (σ 7) (σ 8) (σ 9)) (HT : fb_lkB σ x = true → fb_tr (fb_forest σ) x = some (fb_trR (fb_forest σ) x)) : tg_CT l yX3_parent wzX3_parent (tg_rm 4) (tw_M h cI cZ) (tw_ty cI cZ) [] (tw_A 15 h) D [.ref (h 0), .int x] σ (some (.int (if fb_lkB σ x = true then fb_forest σ 10 x.toNatClampNeg else 0))) (fb_lkS σ x) := by
  refine tg_met (own := RX3) (cc := cX3_parent) (maxL := 2) (ret := (some .int)) (by decide +kernel) rfl rfl (Nat.le_of_ble_eq_true rfl) ?_
  intro p e s m below meth c S hK hN hr hlk
  refine tg_sub (L' := [(0, .ref (h 0)), (1, .int x)]) [0, 1] rfl ?_
  refine tg_aload_n S 0 dX3_parent_0 rfl rfl ?_
  refine tg_iload_n S 1 dX3_parent_1 rfl rfl ?_
  refine tg_callV (nA := 1) (As := [.int x]) (rest := []) (q := (RX3, TX3, 16)) S hK hN (k_X3_looks hd σ x H HT) 0 rfl rfl (tw_gV ml_RX3_109 im_X3_looks se_X3_looks in_RX3 co_X3_looks rfl) rfl (by decide +kernel) ⟨Nat.le_of_ble_eq_true rfl, Nat.le_of_ble_eq_true rfl⟩ rfl rfl (Nat.le_of_ble_eq_true rfl) dX3_parent_2 ⟨Nat.le_of_ble_eq_true rfl, Nat.le_of_ble_eq_true rfl⟩ ?_
  refine tg_ifz (tgt := 17) S dX3_parent_5 (by decide) (fun c_1 => ?_) (fun c_1 => ?_)
  · skip
    refine tg_iconst (v := 0) S dX3_parent_17 (by decide) ?_
    exact tg_iret S hr hlk dX3_parent_18 (by simp [fb_lkS_10, c_1]) rfl
  · skip
    refine tg_aload_n S 0 dX3_parent_8 rfl rfl ?_
    refine tg_get (v := .ref (h 11)) S tw_v3 hK 0 rfl rfl 10 (by decide) (tw_in fl_RX3_41 rfl) dX3_parent_9 rfl ?_
    refine tg_iload_n S 1 dX3_parent_12 rfl rfl ?_
    refine tg_iald (v := ((fb_lkS σ x) 10) x.toNatClampNeg) S hK 11 0 rfl rfl dX3_parent_13 (fb_lkB_in c_1) rfl ?_
    refine tg_goto (tgt := 18) S dX3_parent_14 (by decide) ?_
    exact tg_iret S hr hlk dX3_parent_18 (by simp [fb_lkS_10, c_1]) rfl
set_option maxHeartbeats 4000000 in
set_option maxRecDepth 100000 in
theorem k_X3_children {l : Launch} {D : va_G} {h : Nat → Nat} {cI cZ : ClassId} (hd : tw_dis 15 h) (σ : tg_Mem) (x : Int32) (H : fb_hyp (σ 0) (σ 1) (σ 2) (σ 7) (σ 8) (σ 9)) (HT : fb_lkB σ x = true → fb_tr (fb_forest σ) x = some (fb_trR (fb_forest σ) x)) : tg_CT l yX3_children wzX3_children (tg_rm 4) (tw_M h cI cZ) (tw_ty cI cZ) [] (tw_A 15 h) D [.ref (h 0), .int x] σ (some (.int (tg_it (fb_chS (fb_lkB σ x) (fb_lkS σ x 10) x) 0 30))) (fb_lkS σ x) := by
  refine tg_met (own := RX3) (cc := cX3_children) (maxL := 5) (ret := (some .int)) (by decide +kernel) rfl rfl (Nat.le_of_ble_eq_true rfl) ?_
  intro p e s m below meth c S hK hN hr hlk
  refine tg_sub (L' := [(0, .ref (h 0)), (1, .int x)]) [0, 1] rfl ?_
  refine tg_iconst (v := 0) S dX3_children_0 (by decide) ?_
  refine tg_istore_n (L' := [(0, .ref (h 0)), (1, .int x), (2, .int 0)]) [1, 2, 0] S dX3_children_1 rfl (by decide) rfl ?_
  refine tg_aload_n S 0 dX3_children_2 rfl rfl ?_
  refine tg_iload_n S 1 dX3_children_3 rfl rfl ?_
  refine tg_callV (nA := 1) (As := [.int x]) (rest := []) (q := (RX3, TX3, 16)) S hK hN (k_X3_looks hd σ x H HT) 0 rfl rfl (tw_gV ml_RX3_109 im_X3_looks se_X3_looks in_RX3 co_X3_looks rfl) rfl (by decide +kernel) ⟨Nat.le_of_ble_eq_true rfl, Nat.le_of_ble_eq_true rfl⟩ rfl rfl (Nat.le_of_ble_eq_true rfl) dX3_children_4 ⟨Nat.le_of_ble_eq_true rfl, Nat.le_of_ble_eq_true rfl⟩ ?_
  refine tg_istore_n (L' := [(0, .ref (h 0)), (1, .int x), (2, .int 0), (3, .int (tg_b (fb_lkB σ x)))]) [1, 2, 3, 0] S dX3_children_7 rfl (by decide) rfl ?_
  refine tg_iconst (v := nI 0) S dX3_children_8 (by decide) ?_
  refine tg_istore (L' := [(0, .ref (h 0)), (1, .int x), (2, .int 0), (3, .int (tg_b (fb_lkB σ x))), (4, .int (nI 0))]) [1, 2, 3, 4, 0] S dX3_children_9 (by decide) rfl ?_
  refine tg_loop (X := Int32) (fb_chS (fb_lkB σ x) ((fb_lkS σ x) 10) x) 30 0 (fun b => fb_lkS σ x) (fun i b => [(0, .ref (h 0)), (1, .int x), (2, .int b), (3, .int (tg_b (fb_lkB σ x))), (4, .int (nI i))]) ?_ ?_
  · skip
    intro i b hi_i hk_i
    refine tg_iload S 4 dX3_children_11 rfl ?_
    refine tg_bipush (v := 30) S dX3_children_13 (by decide) ?_
    refine tg_icmp_ge (tgt := 47) S dX3_children_15 (by decide) (fun c => absurd c (tg_nge hi_i)) (fun _ => ?_)
    refine tg_iload_n S 2 dX3_children_18 rfl rfl ?_
    refine tg_iload_n S 3 dX3_children_19 rfl rfl ?_
    refine tg_ifz (tgt := 38) S dX3_children_20 (by decide) (fun c_1 => ?_) (fun c_1 => ?_)
    · skip
      refine tg_iconst (v := 0) S dX3_children_38 (by decide) ?_
      refine tg_iadd S dX3_children_39 ?_
      refine tg_istore_n (L' := [(0, .ref (h 0)), (1, .int x), (2, .int (b + 0)), (3, .int (tg_b (fb_lkB σ x))), (4, .int (nI i))]) [1, 2, 0, 3, 4] S dX3_children_40 rfl (by decide) rfl ?_
      refine tg_iinc (v := nI (i + 1)) (L' := [(0, .ref (h 0)), (1, .int x), (2, .int (b + 0)), (3, .int (tg_b (fb_lkB σ x))), (4, .int (nI (i + 1)))]) [1, 2, 3, 4, 0] S 4 dX3_children_41 rfl (tg_inc _) (by decide) rfl ?_
      refine tg_goto (tgt := 11) S dX3_children_44 (by decide) ?_
      have e_1 : fb_chS (fb_lkB σ x) ((fb_lkS σ x) 10) x i b = b + 0 := (by first | (simp [fb_chS, c_1]; done) | (simp only [fb_chS, if_neg (ne_true_of_eq_false c_1)]; done))
      rw [e_1] at hk_i
      exact hk_i
    · skip
      refine tg_aload_n S 0 dX3_children_23 rfl rfl ?_
      refine tg_get (v := .ref (h 11)) S tw_v3 hK 0 rfl rfl 10 (by decide) (tw_in fl_RX3_41 rfl) dX3_children_24 rfl ?_
      refine tg_iload S 4 dX3_children_27 rfl ?_
      refine tg_iald (v := ((fb_lkS σ x) 10) i) S hK 11 0 rfl rfl dX3_children_29 (tg_in hi_i (by decide)) (congrArg (((fb_lkS σ x) 10)) (tg_cl (Nat.lt_trans hi_i (by decide)))) ?_
      refine tg_iload_n S 1 dX3_children_30 rfl rfl ?_
      refine tg_icmp_ne (tgt := 38) S dX3_children_31 (by decide) (fun c_2 => ?_) (fun c_2 => ?_)
      · skip
        refine tg_iconst (v := 0) S dX3_children_38 (by decide) ?_
        refine tg_iadd S dX3_children_39 ?_
        refine tg_istore_n (L' := [(0, .ref (h 0)), (1, .int x), (2, .int (b + 0)), (3, .int (tg_b (fb_lkB σ x))), (4, .int (nI i))]) [1, 2, 0, 3, 4] S dX3_children_40 rfl (by decide) rfl ?_
        refine tg_iinc (v := nI (i + 1)) (L' := [(0, .ref (h 0)), (1, .int x), (2, .int (b + 0)), (3, .int (tg_b (fb_lkB σ x))), (4, .int (nI (i + 1)))]) [1, 2, 3, 4, 0] S 4 dX3_children_41 rfl (tg_inc _) (by decide) rfl ?_
        refine tg_goto (tgt := 11) S dX3_children_44 (by decide) ?_
        have e_2 : fb_chS (fb_lkB σ x) ((fb_lkS σ x) 10) x i b = b + 0 := (by first | (simp [fb_chS, c_1, c_2]; done) | (simp only [fb_chS, if_pos c_1, if_neg c_2]; done))
        rw [e_2] at hk_i
        exact hk_i
      · skip
        refine tg_iconst (v := 1) S dX3_children_34 (by decide) ?_
        refine tg_goto (tgt := 39) S dX3_children_35 (by decide) ?_
        refine tg_iadd S dX3_children_39 ?_
        refine tg_istore_n (L' := [(0, .ref (h 0)), (1, .int x), (2, .int (b + 1)), (3, .int (tg_b (fb_lkB σ x))), (4, .int (nI i))]) [1, 2, 0, 3, 4] S dX3_children_40 rfl (by decide) rfl ?_
        refine tg_iinc (v := nI (i + 1)) (L' := [(0, .ref (h 0)), (1, .int x), (2, .int (b + 1)), (3, .int (tg_b (fb_lkB σ x))), (4, .int (nI (i + 1)))]) [1, 2, 3, 4, 0] S 4 dX3_children_41 rfl (tg_inc _) (by decide) rfl ?_
        refine tg_goto (tgt := 11) S dX3_children_44 (by decide) ?_
        have e_3 : fb_chS (fb_lkB σ x) ((fb_lkS σ x) 10) x i b = b + 1 := (by first | (simp [fb_chS, c_1, c_2]; done) | (simp only [fb_chS, if_pos c_1, if_pos c_2]; done))
        rw [e_3] at hk_i
        exact hk_i
  · skip
    refine tg_iload S 4 dX3_children_11 rfl ?_
    refine tg_bipush (v := 30) S dX3_children_13 (by decide) ?_
    refine tg_icmp_ge (tgt := 47) S dX3_children_15 (by decide) (fun _ => ?_) (fun c => absurd tg_ge c)
    refine tg_iload_n S 2 dX3_children_47 rfl rfl ?_
    exact tg_iret S hr hlk dX3_children_48 (by simp []) rfl
set_option maxHeartbeats 4000000 in
set_option maxRecDepth 100000 in
theorem k_X3_roots {l : Launch} {D : va_G} {h : Nat → Nat} {cI cZ : ClassId} (hd : tw_dis 15 h) (σ : tg_Mem)  (H : fb_hyp (σ 0) (σ 1) (σ 2) (σ 7) (σ 8) (σ 9)) : tg_CT l yX3_roots wzX3_roots (tg_rm 4) (tw_M h cI cZ) (tw_ty cI cZ) [] (tw_A 15 h) D [.ref (h 0)] σ (some (.int (fb_rn (fb_forest (tg_upA σ 15 (fun _ => 0)) 11) (fb_forest (tg_upA σ 15 (fun _ => 0)) 10)))) (fb_forest (tg_upA σ 15 (fun _ => 0))) := by
  refine tg_met (own := RX3) (cc := cX3_roots) (maxL := 1) (ret := (some .int)) (by decide +kernel) rfl rfl (Nat.le_of_ble_eq_true rfl) ?_
  intro p e s m below meth c S hK hN hr hlk
  refine tg_sub (L' := [(0, .ref (h 0))]) [0] rfl ?_
  refine tg_aload_n S 0 dX3_roots_0 rfl rfl ?_
  refine tg_iconst (v := 0) S dX3_roots_1 (by decide) ?_
  refine tg_put (σ2 := tg_upA σ 15 (fun _ => 0)) S tw_v3 tyX3 tyX3_ok nmX3 hK (tw_MD hd) 0 rfl rfl 15 (by decide) (tw_in fl_RX3_53 rfl) dX3_roots_2 rfl (by decide +kernel) (Nat.le_of_ble_eq_true rfl) rfl ?_
  refine tg_aload_n S 0 dX3_roots_5 rfl rfl ?_
  refine tg_callV (nA := 0) (As := []) (rest := []) (q := (RX3, TX3, 16)) S hK hN (k_X3_rootsThen hd (tg_upA σ 15 (fun _ => 0)) H) 0 rfl rfl (tw_gV ml_RX3_99 im_X3_rootsThen se_X3_rootsThen in_RX3 co_X3_rootsThen rfl) rfl (by decide +kernel) ⟨Nat.le_of_ble_eq_true rfl, Nat.le_of_ble_eq_true rfl⟩ rfl rfl (Nat.le_of_ble_eq_true rfl) dX3_roots_6 ⟨Nat.le_of_ble_eq_true rfl, Nat.le_of_ble_eq_true rfl⟩ ?_
  exact tg_iret S hr hlk dX3_roots_9 (by simp []) rfl
set_option maxHeartbeats 4000000 in
set_option maxRecDepth 100000 in
theorem k_X3_state {l : Launch} {D : va_G} {h : Nat → Nat} {cI cZ : ClassId} (hd : tw_dis 15 h) (σ : tg_Mem) (x : Int32) (H : fb_in x 0 29 = true → fb_hyp (σ 0) (σ 1) (σ 2) (σ 7) (σ 8) (σ 9)) : tg_CT l yX3_state wzX3_state (tg_rm 3) (tw_M h cI cZ) (tw_ty cI cZ) [] (tw_A 15 h) D [.ref (h 0), .int x] σ (some (.int (if fb_in x 0 29 = true then (if fb_forest (fb_st σ x) 8 x.toNatClampNeg = 0 then 0 else if fb_forest (fb_st σ x) 0 x.toNatClampNeg = 0 then (if fb_forest (fb_st σ x) 11 x.toNatClampNeg = 0 then 1 else 2) else 3) else 0))) (if fb_in x 0 29 = true then fb_forest (fb_st σ x) else fb_st σ x) := by
  refine tg_met (own := RX3) (cc := cX3_state) (maxL := 2) (ret := (some .int)) (by decide +kernel) rfl rfl (Nat.le_of_ble_eq_true rfl) ?_
  intro p e s m below meth c S hK hN hr hlk
  refine tg_sub (L' := [(0, .ref (h 0)), (1, .int x)]) [0, 1] rfl ?_
  refine tg_aload_n S 0 dX3_state_0 rfl rfl ?_
  refine tg_iload_n S 1 dX3_state_1 rfl rfl ?_
  refine tg_callS (nA := 1) (As := [.int x]) (rest := [.ref (h 0)]) S hK hN (k_X3_isId hd σ x) (tw_gS ml_RX3_92 st_X3_isId in_RX3 co_X3_isId rfl) rfl (by decide +kernel) ⟨Nat.le_of_ble_eq_true rfl, Nat.le_of_ble_eq_true rfl⟩ rfl rfl (Nat.le_of_ble_eq_true rfl) dX3_state_2 ⟨Nat.le_of_ble_eq_true rfl, Nat.le_of_ble_eq_true rfl⟩ ?_
  refine tg_callV (nA := 1) (As := [.int (tg_b (fb_in x 0 29))]) (rest := []) (q := (RX3, TX3, 16)) S hK hN (k_X3_asked hd σ (fb_in x 0 29)) 0 rfl rfl (tw_gV ml_RX3_112 im_X3_asked se_X3_asked in_RX3 co_X3_asked rfl) rfl (by decide +kernel) ⟨Nat.le_of_ble_eq_true rfl, Nat.le_of_ble_eq_true rfl⟩ rfl rfl (Nat.le_of_ble_eq_true rfl) dX3_state_5 ⟨Nat.le_of_ble_eq_true rfl, Nat.le_of_ble_eq_true rfl⟩ ?_
  refine tg_w (σ2 := tg_upA σ 15 (fun _ => fb_thr1 (fb_in x 0 29))) rfl ?_
  refine tg_eq (σ2 := tg_upA σ 15 (fun _ => fb_thr1 (fb_in x 0 29))) (L2 := [(0, .ref (h 0)), (1, .int x)]) (st2 := [.int (tg_b (fb_in x 0 29))]) rfl rfl rfl ?_
  refine tg_w (σ2 := fb_st σ x) rfl ?_
  refine tg_ifnz (tgt := 13) S dX3_state_8 (by decide) (fun c_1 => ?_) (fun c_1 => ?_)
  · skip
    refine tg_aload_n S 0 dX3_state_13 rfl rfl ?_
    refine tg_callV (nA := 0) (As := []) (rest := []) (q := (RX3, TX3, 16)) S hK hN (k_X3_forest hd (fb_st σ x) (H c_1)) 0 rfl rfl (tw_gV ml_RX3_85 im_X3_forest se_X3_forest in_RX3 co_X3_forest rfl) rfl (by decide +kernel) ⟨Nat.le_of_ble_eq_true rfl, Nat.le_of_ble_eq_true rfl⟩ rfl rfl (Nat.le_of_ble_eq_true rfl) dX3_state_14 ⟨Nat.le_of_ble_eq_true rfl, Nat.le_of_ble_eq_true rfl⟩ ?_
    refine tg_aload_n S 0 dX3_state_17 rfl rfl ?_
    refine tg_get (v := .ref (h 9)) S tw_v3 hK 0 rfl rfl 8 (by decide) (tw_in fl_RX3_35 rfl) dX3_state_18 rfl ?_
    refine tg_iload_n S 1 dX3_state_21 rfl rfl ?_
    refine tg_zald (v := ((fb_forest (fb_st σ x)) 8) x.toNatClampNeg) S hK 9 1 rfl rfl dX3_state_22 (fb_in30 c_1) rfl ?_
    refine tg_if_ne (tgt := 30) S dX3_state_23 (by decide) (fun c_2 => ?_) (fun c_2 => ?_)
    · skip
      refine tg_aload_n S 0 dX3_state_30 rfl rfl ?_
      refine tg_get (v := .ref (h 1)) S tw_v3 hK 0 rfl rfl 0 (by decide) (tw_in fl_RX3_7 rfl) dX3_state_31 rfl ?_
      refine tg_iload_n S 1 dX3_state_34 rfl rfl ?_
      refine tg_zald (v := ((fb_forest (fb_st σ x)) 0) x.toNatClampNeg) S hK 1 1 rfl rfl dX3_state_35 (fb_in30 c_1) rfl ?_
      refine tg_if_eq (tgt := 43) S dX3_state_36 (by decide) (fun c_3 => ?_) (fun c_3 => ?_)
      · skip
        refine tg_aload_n S 0 dX3_state_43 rfl rfl ?_
        refine tg_get (v := .ref (h 12)) S tw_v3 hK 0 rfl rfl 11 (by decide) (tw_in fl_RX3_44 rfl) dX3_state_44 rfl ?_
        refine tg_iload_n S 1 dX3_state_47 rfl rfl ?_
        refine tg_zald (v := ((fb_forest (fb_st σ x)) 11) x.toNatClampNeg) S hK 12 1 rfl rfl dX3_state_48 (fb_in30 c_1) rfl ?_
        refine tg_if_eq (tgt := 56) S dX3_state_49 (by decide) (fun c_4 => ?_) (fun c_4 => ?_)
        · skip
          refine tg_iconst (v := 1) S dX3_state_56 (by decide) ?_
          exact tg_iret S hr hlk dX3_state_57 (by simp [c_1, c_2, c_3, c_4]) (by simp [c_1, c_2, c_3, c_4])
        · skip
          refine tg_iconst (v := 2) S dX3_state_52 (by decide) ?_
          refine tg_goto (tgt := 57) S dX3_state_53 (by decide) ?_
          exact tg_iret S hr hlk dX3_state_57 (by simp [c_1, c_2, c_3, c_4]) (by simp [c_1, c_2, c_3, c_4])
      · skip
        refine tg_iconst (v := 3) S dX3_state_39 (by decide) ?_
        refine tg_goto (tgt := 57) S dX3_state_40 (by decide) ?_
        exact tg_iret S hr hlk dX3_state_57 (by simp [c_1, c_2, c_3]) (by simp [c_1, c_2, c_3])
    · skip
      refine tg_iconst (v := 0) S dX3_state_26 (by decide) ?_
      refine tg_goto (tgt := 57) S dX3_state_27 (by decide) ?_
      exact tg_iret S hr hlk dX3_state_57 (by simp [c_1, c_2]) (by simp [c_1, c_2])
  · skip
    refine tg_iconst (v := 0) S dX3_state_11 (by decide) ?_
    exact tg_iret S hr hlk dX3_state_12 (by simp [c_1]) (by simp [c_1])
