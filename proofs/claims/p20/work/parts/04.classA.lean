/-! ===== the class: its methods by contract (printed by wip/whole/genA.py) ===== -/
set_option maxHeartbeats 4000000 in
set_option maxRecDepth 100000 in
theorem k_X2_isId {l : Launch} {D : va_G} {h : Nat → Nat} {cI cZ : ClassId} (hd : tw_dis 23 h) (σ : tg_Mem) (x : Int32) : tg_CT l yX2_isId wzX2_isId (tg_rm 0) (tw_T h cI cZ) (tw_ty cI cZ) tw_nl (tw_A 23 h) D [.int x] σ (some (.int (tg_b (fa_id x)))) σ := by
  refine tg_met (own := RX2) (cc := cX2_isId) (maxL := 1) (ret := (some .boolean)) (by decide +kernel) rfl rfl (Nat.le_of_ble_eq_true rfl) ?_
  intro p e s m below meth c S hK hN hr hlk
  refine tg_sub (L' := [(0, .int x)]) [0] rfl ?_
  refine tg_iload_n S 0 dX2_isId_0 rfl rfl ?_
  refine tg_if_lt (tgt := 14) S dX2_isId_1 (by decide) (fun c_1 => ?_) (fun c_1 => ?_)
  · skip
    refine tg_iconst (v := 0) S dX2_isId_14 (by decide) ?_
    exact tg_zret (b := false) S hr hlk dX2_isId_15 (congrArg tg_b (by simp [fa_id, c_1])) rfl
  · skip
    refine tg_iload_n S 0 dX2_isId_4 rfl rfl ?_
    refine tg_bipush (v := 30) S dX2_isId_5 (by decide) ?_
    refine tg_icmp_ge (tgt := 14) S dX2_isId_7 (by decide) (fun c_2 => ?_) (fun c_2 => ?_)
    · skip
      refine tg_iconst (v := 0) S dX2_isId_14 (by decide) ?_
      exact tg_zret (b := false) S hr hlk dX2_isId_15 (congrArg tg_b (by simp [fa_id, c_1, c_2])) rfl
    · skip
      refine tg_iconst (v := 1) S dX2_isId_10 (by decide) ?_
      refine tg_goto (tgt := 15) S dX2_isId_11 (by decide) ?_
      exact tg_zret (b := true) S hr hlk dX2_isId_15 (congrArg tg_b (by simp [fa_id, c_1, c_2])) rfl
set_option maxHeartbeats 4000000 in
set_option maxRecDepth 100000 in
theorem k_X1_holds {l : Launch} {D : va_G} {h : Nat → Nat} {cI cZ : ClassId} (hd : tw_dis 23 h) (σ : tg_Mem) (x : Int32) : tg_CT l yX1_holds wzX1_holds (tg_rm 0) (tw_T h cI cZ) (tw_ty cI cZ) tw_nl (tw_A 23 h) D [.ref (h 1), .int x] σ (some (.int (tg_b (fa_holds σ x)))) σ := by
  refine tg_met (own := RX1) (cc := cX1_holds) (maxL := 2) (ret := (some .boolean)) (by decide +kernel) rfl rfl (Nat.le_of_ble_eq_true rfl) ?_
  intro p e s m below meth c S hK hN hr hlk
  refine tg_sub (L' := [(0, .ref (h 1)), (1, .int x)]) [0, 1] rfl ?_
  refine tg_iload_n S 1 dX1_holds_0 rfl rfl ?_
  refine tg_if_lt (tgt := 23) S dX1_holds_1 (by decide) (fun c_1 => ?_) (fun c_1 => ?_)
  · skip
    refine tg_iconst (v := 0) S dX1_holds_23 (by decide) ?_
    exact tg_zret (b := false) S hr hlk dX1_holds_24 (congrArg tg_b (by simp [fa_holds, fa_id, c_1])) rfl
  · skip
    refine tg_iload_n S 1 dX1_holds_4 rfl rfl ?_
    refine tg_bipush (v := 30) S dX1_holds_5 (by decide) ?_
    refine tg_icmp_ge (tgt := 23) S dX1_holds_7 (by decide) (fun c_2 => ?_) (fun c_2 => ?_)
    · skip
      refine tg_iconst (v := 0) S dX1_holds_23 (by decide) ?_
      exact tg_zret (b := false) S hr hlk dX1_holds_24 (congrArg tg_b (by simp [fa_holds, fa_id, c_1, c_2])) rfl
    · skip
      refine tg_aload_n S 0 dX1_holds_10 rfl rfl ?_
      refine tg_get (v := .ref (h 3)) S tw_v1 hK 1 rfl rfl 0 (by decide) (tw_in fl_RX1_9 rfl) dX1_holds_11 rfl ?_
      refine tg_iload_n S 1 dX1_holds_14 rfl rfl ?_
      refine tg_zald (v := σ 0 x.toNatClampNeg) S hK 3 1 rfl rfl dX1_holds_15 (tg_inx c_1 c_2) rfl ?_
      refine tg_if_eq (tgt := 23) S dX1_holds_16 (by decide) (fun c_3 => ?_) (fun c_3 => ?_)
      · skip
        refine tg_iconst (v := 0) S dX1_holds_23 (by decide) ?_
        exact tg_zret (b := false) S hr hlk dX1_holds_24 (congrArg tg_b (by simp [fa_holds, fa_id, c_1, c_2, c_3])) rfl
      · skip
        refine tg_iconst (v := 1) S dX1_holds_19 (by decide) ?_
        refine tg_goto (tgt := 24) S dX1_holds_20 (by decide) ?_
        exact tg_zret (b := true) S hr hlk dX1_holds_24 (congrArg tg_b (by simp [fa_holds, fa_id, c_1, c_2, c_3])) rfl
set_option maxHeartbeats 4000000 in
set_option maxRecDepth 100000 in
theorem k_X1_put {l : Launch} {D : va_G} {h : Nat → Nat} {cI cZ : ClassId} (hd : tw_dis 23 h) (σ : tg_Mem) (x : Int32) (g : Int32) (q : Int32) (sub : Int32) (d : Int32) (w0 : Int32) : tg_CT l yX1_put wzX1_put (tg_rm 1) (tw_T h cI cZ) (tw_ty cI cZ) tw_nl (tw_A 23 h) D [.ref (h 1), .int x, .int g, .int q, .int sub, .int d, .int w0] σ none (fa_put σ x g q sub d w0) := by
  refine tg_met (own := RX1) (cc := cX1_put) (maxL := 7) (ret := none) (by decide +kernel) rfl rfl (Nat.le_of_ble_eq_true rfl) ?_
  intro p e s m below meth c S hK hN hr hlk
  refine tg_sub (L' := [(0, .ref (h 1)), (1, .int x), (2, .int g), (3, .int q), (4, .int sub), (5, .int d), (6, .int w0)]) [0, 1, 2, 3, 4, 5, 6] rfl ?_
  refine tg_iload_n S 1 dX1_put_0 rfl rfl ?_
  refine tg_callSN (nA := 1) (As := [.int x]) (rest := []) (host := RX2) S hK hN (k_X2_isId hd σ x) (tw_gW co_X2_isId rfl) (List.mem_of_getElem? (i := 5) rfl) (tw_in in_RX2 rfl) (tw_in st_X2_isId rfl) rfl (by decide +kernel) ⟨Nat.le_of_ble_eq_true rfl, Nat.le_of_ble_eq_true rfl⟩ rfl rfl (Nat.le_of_ble_eq_true rfl) dX1_put_1 ⟨Nat.le_of_ble_eq_true rfl, Nat.le_of_ble_eq_true rfl⟩ ?_
  refine tg_ifnz (tgt := 8) S dX1_put_4 (by decide) (fun c_1 => ?_) (fun c_1 => ?_)
  · skip
    refine tg_aload_n S 0 dX1_put_8 rfl rfl ?_
    refine tg_get (v := .ref (h 3)) S tw_v1 hK 1 rfl rfl 0 (by decide) (tw_in fl_RX1_9 rfl) dX1_put_9 rfl ?_
    refine tg_iload_n S 1 dX1_put_12 rfl rfl ?_
    refine tg_iconst (v := 1) S dX1_put_13 (by decide) ?_
    refine tg_zast (b := true) (σ2 := tg_set σ 0 x.toNatClampNeg 1) S hK (tw_TD hd) 3 1 rfl rfl dX1_put_14 (fa_id_in c_1) rfl ?_
    refine tg_aload_n S 0 dX1_put_15 rfl rfl ?_
    refine tg_get (v := .ref (h 4)) S tw_v1 hK 1 rfl rfl 1 (by decide) (tw_in fl_RX1_15 rfl) dX1_put_16 rfl ?_
    refine tg_iload_n S 1 dX1_put_19 rfl rfl ?_
    refine tg_iload_n S 2 dX1_put_20 rfl rfl ?_
    refine tg_iast (σ2 := tg_set (tg_set σ 0 x.toNatClampNeg 1) 1 x.toNatClampNeg g) S hK (tw_TD hd) 4 0 rfl rfl dX1_put_21 (fa_id_in c_1) rfl ?_
    refine tg_aload_n S 0 dX1_put_22 rfl rfl ?_
    refine tg_get (v := .ref (h 5)) S tw_v1 hK 1 rfl rfl 2 (by decide) (tw_in fl_RX1_19 rfl) dX1_put_23 rfl ?_
    refine tg_iload_n S 1 dX1_put_26 rfl rfl ?_
    refine tg_iload_n S 3 dX1_put_27 rfl rfl ?_
    refine tg_iast (σ2 := tg_set (tg_set (tg_set σ 0 x.toNatClampNeg 1) 1 x.toNatClampNeg g) 2 x.toNatClampNeg q) S hK (tw_TD hd) 5 0 rfl rfl dX1_put_28 (fa_id_in c_1) rfl ?_
    refine tg_aload_n S 0 dX1_put_29 rfl rfl ?_
    refine tg_get (v := .ref (h 7)) S tw_v1 hK 1 rfl rfl 4 (by decide) (tw_in fl_RX1_25 rfl) dX1_put_30 rfl ?_
    refine tg_iload_n S 1 dX1_put_33 rfl rfl ?_
    refine tg_iload S 4 dX1_put_34 rfl ?_
    refine tg_bipush (v := 10) S dX1_put_36 (by decide) ?_
    refine tg_icmp_lt (tgt := 45) S dX1_put_38 (by decide) (fun c_2 => ?_) (fun c_2 => ?_)
    · skip
      refine tg_iconst (v := 0) S dX1_put_45 (by decide) ?_
      refine tg_zast (b := false) (σ2 := tg_set (tg_set (tg_set (tg_set σ 0 x.toNatClampNeg 1) 1 x.toNatClampNeg g) 2 x.toNatClampNeg q) 4 x.toNatClampNeg 0) S hK (tw_TD hd) 7 1 rfl rfl dX1_put_46 (fa_id_in c_1) rfl ?_
      refine tg_aload_n S 0 dX1_put_47 rfl rfl ?_
      refine tg_get (v := .ref (h 6)) S tw_v1 hK 1 rfl rfl 3 (by decide) (tw_in fl_RX1_22 rfl) dX1_put_48 rfl ?_
      refine tg_iload_n S 1 dX1_put_51 rfl rfl ?_
      refine tg_aload_n S 0 dX1_put_52 rfl rfl ?_
      refine tg_get (v := .ref (h 7)) S tw_v1 hK 1 rfl rfl 4 (by decide) (tw_in fl_RX1_25 rfl) dX1_put_53 rfl ?_
      refine tg_iload_n S 1 dX1_put_56 rfl rfl ?_
      refine tg_zald (v := 0) S hK 7 1 rfl rfl dX1_put_57 (fa_id_in c_1) (by simp [tg_set, tg_upA, upd]) ?_
      refine tg_if_eq (tgt := 69) S dX1_put_58 (by decide) (fun _ => ?_) (fun c => absurd (by decide) c)
      refine tg_iload S 4 dX1_put_69 rfl ?_
      refine tg_iast (σ2 := tg_set (tg_set (tg_set (tg_set (tg_set σ 0 x.toNatClampNeg 1) 1 x.toNatClampNeg g) 2 x.toNatClampNeg q) 4 x.toNatClampNeg 0) 3 x.toNatClampNeg sub) S hK (tw_TD hd) 6 0 rfl rfl dX1_put_71 (fa_id_in c_1) rfl ?_
      refine tg_aload_n S 0 dX1_put_72 rfl rfl ?_
      refine tg_get (v := .ref (h 8)) S tw_v1 hK 1 rfl rfl 5 (by decide) (tw_in fl_RX1_28 rfl) dX1_put_73 rfl ?_
      refine tg_iload_n S 1 dX1_put_76 rfl rfl ?_
      refine tg_iload S 5 dX1_put_77 rfl ?_
      refine tg_iast (σ2 := tg_set (tg_set (tg_set (tg_set (tg_set (tg_set σ 0 x.toNatClampNeg 1) 1 x.toNatClampNeg g) 2 x.toNatClampNeg q) 4 x.toNatClampNeg 0) 3 x.toNatClampNeg sub) 5 x.toNatClampNeg d) S hK (tw_TD hd) 8 0 rfl rfl dX1_put_79 (fa_id_in c_1) rfl ?_
      refine tg_aload_n S 0 dX1_put_80 rfl rfl ?_
      refine tg_get (v := .ref (h 9)) S tw_v1 hK 1 rfl rfl 6 (by decide) (tw_in fl_RX1_31 rfl) dX1_put_81 rfl ?_
      refine tg_iload_n S 1 dX1_put_84 rfl rfl ?_
      refine tg_iload S 6 dX1_put_85 rfl ?_
      refine tg_iast (σ2 := tg_set (tg_set (tg_set (tg_set (tg_set (tg_set (tg_set σ 0 x.toNatClampNeg 1) 1 x.toNatClampNeg g) 2 x.toNatClampNeg q) 4 x.toNatClampNeg 0) 3 x.toNatClampNeg sub) 5 x.toNatClampNeg d) 6 x.toNatClampNeg w0) S hK (tw_TD hd) 9 0 rfl rfl dX1_put_87 (fa_id_in c_1) rfl ?_
      refine tg_aload_n S 0 dX1_put_88 rfl rfl ?_
      refine tg_get (v := .ref (h 10)) S tw_v1 hK 1 rfl rfl 7 (by decide) (tw_in fl_RX1_34 rfl) dX1_put_89 rfl ?_
      refine tg_iload_n S 1 dX1_put_92 rfl rfl ?_
      refine tg_iconst (v := 1) S dX1_put_93 (by decide) ?_
      refine tg_zast (b := true) (σ2 := tg_set (tg_set (tg_set (tg_set (tg_set (tg_set (tg_set (tg_set σ 0 x.toNatClampNeg 1) 1 x.toNatClampNeg g) 2 x.toNatClampNeg q) 4 x.toNatClampNeg 0) 3 x.toNatClampNeg sub) 5 x.toNatClampNeg d) 6 x.toNatClampNeg w0) 7 x.toNatClampNeg 1) S hK (tw_TD hd) 10 1 rfl rfl dX1_put_94 (fa_id_in c_1) rfl ?_
      refine tg_aload_n S 0 dX1_put_95 rfl rfl ?_
      refine tg_get (v := .ref (h 11)) S tw_v1 hK 1 rfl rfl 8 (by decide) (tw_in fl_RX1_37 rfl) dX1_put_96 rfl ?_
      refine tg_iload_n S 1 dX1_put_99 rfl rfl ?_
      refine tg_iconst (v := -1) S dX1_put_100 (by decide) ?_
      refine tg_iast (σ2 := tg_set (tg_set (tg_set (tg_set (tg_set (tg_set (tg_set (tg_set (tg_set σ 0 x.toNatClampNeg 1) 1 x.toNatClampNeg g) 2 x.toNatClampNeg q) 4 x.toNatClampNeg 0) 3 x.toNatClampNeg sub) 5 x.toNatClampNeg d) 6 x.toNatClampNeg w0) 7 x.toNatClampNeg 1) 8 x.toNatClampNeg (-1)) S hK (tw_TD hd) 11 0 rfl rfl dX1_put_101 (fa_id_in c_1) rfl ?_
      exact tg_vret S hr hlk dX1_put_102 (by simp [fa_put, c_1, c_2])
    · skip
      refine tg_iconst (v := 1) S dX1_put_41 (by decide) ?_
      refine tg_goto (tgt := 46) S dX1_put_42 (by decide) ?_
      refine tg_zast (b := true) (σ2 := tg_set (tg_set (tg_set (tg_set σ 0 x.toNatClampNeg 1) 1 x.toNatClampNeg g) 2 x.toNatClampNeg q) 4 x.toNatClampNeg 1) S hK (tw_TD hd) 7 1 rfl rfl dX1_put_46 (fa_id_in c_1) rfl ?_
      refine tg_aload_n S 0 dX1_put_47 rfl rfl ?_
      refine tg_get (v := .ref (h 6)) S tw_v1 hK 1 rfl rfl 3 (by decide) (tw_in fl_RX1_22 rfl) dX1_put_48 rfl ?_
      refine tg_iload_n S 1 dX1_put_51 rfl rfl ?_
      refine tg_aload_n S 0 dX1_put_52 rfl rfl ?_
      refine tg_get (v := .ref (h 7)) S tw_v1 hK 1 rfl rfl 4 (by decide) (tw_in fl_RX1_25 rfl) dX1_put_53 rfl ?_
      refine tg_iload_n S 1 dX1_put_56 rfl rfl ?_
      refine tg_zald (v := 1) S hK 7 1 rfl rfl dX1_put_57 (fa_id_in c_1) (by simp [tg_set, tg_upA, upd]) ?_
      refine tg_if_eq (tgt := 69) S dX1_put_58 (by decide) (fun c => absurd c (by decide)) (fun _ => ?_)
      refine tg_iload S 4 dX1_put_61 rfl ?_
      refine tg_bipush (v := 10) S dX1_put_63 (by decide) ?_
      refine tg_isub S dX1_put_65 ?_
      refine tg_goto (tgt := 71) S dX1_put_66 (by decide) ?_
      refine tg_iast (σ2 := tg_set (tg_set (tg_set (tg_set (tg_set σ 0 x.toNatClampNeg 1) 1 x.toNatClampNeg g) 2 x.toNatClampNeg q) 4 x.toNatClampNeg 1) 3 x.toNatClampNeg (sub - 10)) S hK (tw_TD hd) 6 0 rfl rfl dX1_put_71 (fa_id_in c_1) rfl ?_
      refine tg_aload_n S 0 dX1_put_72 rfl rfl ?_
      refine tg_get (v := .ref (h 8)) S tw_v1 hK 1 rfl rfl 5 (by decide) (tw_in fl_RX1_28 rfl) dX1_put_73 rfl ?_
      refine tg_iload_n S 1 dX1_put_76 rfl rfl ?_
      refine tg_iload S 5 dX1_put_77 rfl ?_
      refine tg_iast (σ2 := tg_set (tg_set (tg_set (tg_set (tg_set (tg_set σ 0 x.toNatClampNeg 1) 1 x.toNatClampNeg g) 2 x.toNatClampNeg q) 4 x.toNatClampNeg 1) 3 x.toNatClampNeg (sub - 10)) 5 x.toNatClampNeg d) S hK (tw_TD hd) 8 0 rfl rfl dX1_put_79 (fa_id_in c_1) rfl ?_
      refine tg_aload_n S 0 dX1_put_80 rfl rfl ?_
      refine tg_get (v := .ref (h 9)) S tw_v1 hK 1 rfl rfl 6 (by decide) (tw_in fl_RX1_31 rfl) dX1_put_81 rfl ?_
      refine tg_iload_n S 1 dX1_put_84 rfl rfl ?_
      refine tg_iload S 6 dX1_put_85 rfl ?_
      refine tg_iast (σ2 := tg_set (tg_set (tg_set (tg_set (tg_set (tg_set (tg_set σ 0 x.toNatClampNeg 1) 1 x.toNatClampNeg g) 2 x.toNatClampNeg q) 4 x.toNatClampNeg 1) 3 x.toNatClampNeg (sub - 10)) 5 x.toNatClampNeg d) 6 x.toNatClampNeg w0) S hK (tw_TD hd) 9 0 rfl rfl dX1_put_87 (fa_id_in c_1) rfl ?_
      refine tg_aload_n S 0 dX1_put_88 rfl rfl ?_
      refine tg_get (v := .ref (h 10)) S tw_v1 hK 1 rfl rfl 7 (by decide) (tw_in fl_RX1_34 rfl) dX1_put_89 rfl ?_
      refine tg_iload_n S 1 dX1_put_92 rfl rfl ?_
      refine tg_iconst (v := 1) S dX1_put_93 (by decide) ?_
      refine tg_zast (b := true) (σ2 := tg_set (tg_set (tg_set (tg_set (tg_set (tg_set (tg_set (tg_set σ 0 x.toNatClampNeg 1) 1 x.toNatClampNeg g) 2 x.toNatClampNeg q) 4 x.toNatClampNeg 1) 3 x.toNatClampNeg (sub - 10)) 5 x.toNatClampNeg d) 6 x.toNatClampNeg w0) 7 x.toNatClampNeg 1) S hK (tw_TD hd) 10 1 rfl rfl dX1_put_94 (fa_id_in c_1) rfl ?_
      refine tg_aload_n S 0 dX1_put_95 rfl rfl ?_
      refine tg_get (v := .ref (h 11)) S tw_v1 hK 1 rfl rfl 8 (by decide) (tw_in fl_RX1_37 rfl) dX1_put_96 rfl ?_
      refine tg_iload_n S 1 dX1_put_99 rfl rfl ?_
      refine tg_iconst (v := -1) S dX1_put_100 (by decide) ?_
      refine tg_iast (σ2 := tg_set (tg_set (tg_set (tg_set (tg_set (tg_set (tg_set (tg_set (tg_set σ 0 x.toNatClampNeg 1) 1 x.toNatClampNeg g) 2 x.toNatClampNeg q) 4 x.toNatClampNeg 1) 3 x.toNatClampNeg (sub - 10)) 5 x.toNatClampNeg d) 6 x.toNatClampNeg w0) 7 x.toNatClampNeg 1) 8 x.toNatClampNeg (-1)) S hK (tw_TD hd) 11 0 rfl rfl dX1_put_101 (fa_id_in c_1) rfl ?_
      exact tg_vret S hr hlk dX1_put_102 (by simp [fa_put, c_1, c_2])
  · skip
    exact tg_vret S hr hlk dX1_put_7 (by simp [fa_put, c_1])
set_option maxHeartbeats 4000000 in
set_option maxRecDepth 100000 in
theorem k_X1_drop {l : Launch} {D : va_G} {h : Nat → Nat} {cI cZ : ClassId} (hd : tw_dis 23 h) (σ : tg_Mem) (x : Int32) : tg_CT l yX1_drop wzX1_drop (tg_rm 1) (tw_T h cI cZ) (tw_ty cI cZ) tw_nl (tw_A 23 h) D [.ref (h 1), .int x] σ none (fa_drop σ x) := by
  refine tg_met (own := RX1) (cc := cX1_drop) (maxL := 2) (ret := none) (by decide +kernel) rfl rfl (Nat.le_of_ble_eq_true rfl) ?_
  intro p e s m below meth c S hK hN hr hlk
  refine tg_sub (L' := [(0, .ref (h 1)), (1, .int x)]) [0, 1] rfl ?_
  refine tg_iload_n S 1 dX1_drop_0 rfl rfl ?_
  refine tg_callSN (nA := 1) (As := [.int x]) (rest := []) (host := RX2) S hK hN (k_X2_isId hd σ x) (tw_gW co_X2_isId rfl) (List.mem_of_getElem? (i := 5) rfl) (tw_in in_RX2 rfl) (tw_in st_X2_isId rfl) rfl (by decide +kernel) ⟨Nat.le_of_ble_eq_true rfl, Nat.le_of_ble_eq_true rfl⟩ rfl rfl (Nat.le_of_ble_eq_true rfl) dX1_drop_1 ⟨Nat.le_of_ble_eq_true rfl, Nat.le_of_ble_eq_true rfl⟩ ?_
  refine tg_ifz (tgt := 14) S dX1_drop_4 (by decide) (fun c_1 => ?_) (fun c_1 => ?_)
  · skip
    exact tg_vret S hr hlk dX1_drop_14 (by simp [fa_drop, c_1])
  · skip
    refine tg_aload_n S 0 dX1_drop_7 rfl rfl ?_
    refine tg_get (v := .ref (h 3)) S tw_v1 hK 1 rfl rfl 0 (by decide) (tw_in fl_RX1_9 rfl) dX1_drop_8 rfl ?_
    refine tg_iload_n S 1 dX1_drop_11 rfl rfl ?_
    refine tg_iconst (v := 0) S dX1_drop_12 (by decide) ?_
    refine tg_zast (b := false) (σ2 := tg_set σ 0 x.toNatClampNeg 0) S hK (tw_TD hd) 3 1 rfl rfl dX1_drop_13 (fa_id_in c_1) rfl ?_
    exact tg_vret S hr hlk dX1_drop_14 (by simp [fa_drop, c_1])
set_option maxHeartbeats 4000000 in
set_option maxRecDepth 100000 in
theorem k_X1_setHand {l : Launch} {D : va_G} {h : Nat → Nat} {cI cZ : ClassId} (hd : tw_dis 23 h) (σ : tg_Mem) (x : Int32) (v : Int32) : tg_CT l yX1_setHand wzX1_setHand (tg_rm 1) (tw_T h cI cZ) (tw_ty cI cZ) tw_nl (tw_A 23 h) D [.ref (h 1), .int x, .int v] σ none (fa_setHand σ x v) := by
  refine tg_met (own := RX1) (cc := cX1_setHand) (maxL := 3) (ret := none) (by decide +kernel) rfl rfl (Nat.le_of_ble_eq_true rfl) ?_
  intro p e s m below meth c S hK hN hr hlk
  refine tg_sub (L' := [(0, .ref (h 1)), (1, .int x), (2, .int v)]) [0, 1, 2] rfl ?_
  refine tg_aload_n S 0 dX1_setHand_0 rfl rfl ?_
  refine tg_iload_n S 1 dX1_setHand_1 rfl rfl ?_
  refine tg_callV (nA := 1) (As := [.int x]) (rest := []) (q := (RX1, TX1, 9)) S hK hN (k_X1_holds hd σ x) 1 rfl rfl (tw_gV ml_RX1_44 im_X1_holds se_X1_holds in_RX1 co_X1_holds rfl) rfl (by decide +kernel) ⟨Nat.le_of_ble_eq_true rfl, Nat.le_of_ble_eq_true rfl⟩ rfl rfl (Nat.le_of_ble_eq_true rfl) dX1_setHand_2 ⟨Nat.le_of_ble_eq_true rfl, Nat.le_of_ble_eq_true rfl⟩ ?_
  refine tg_ifz (tgt := 15) S dX1_setHand_5 (by decide) (fun c_1 => ?_) (fun c_1 => ?_)
  · skip
    exact tg_vret S hr hlk dX1_setHand_15 (by simp [fa_setHand, c_1])
  · skip
    refine tg_aload_n S 0 dX1_setHand_8 rfl rfl ?_
    refine tg_get (v := .ref (h 11)) S tw_v1 hK 1 rfl rfl 8 (by decide) (tw_in fl_RX1_37 rfl) dX1_setHand_9 rfl ?_
    refine tg_iload_n S 1 dX1_setHand_12 rfl rfl ?_
    refine tg_iload_n S 2 dX1_setHand_13 rfl rfl ?_
    refine tg_iast (σ2 := tg_set σ 8 x.toNatClampNeg v) S hK (tw_TD hd) 11 0 rfl rfl dX1_setHand_14 (fa_holds_in c_1) rfl ?_
    exact tg_vret S hr hlk dX1_setHand_15 (by simp [fa_setHand, c_1])
set_option maxHeartbeats 4000000 in
set_option maxRecDepth 100000 in
theorem k_X1_handOf {l : Launch} {D : va_G} {h : Nat → Nat} {cI cZ : ClassId} (hd : tw_dis 23 h) (σ : tg_Mem) (x : Int32) : tg_CT l yX1_handOf wzX1_handOf (tg_rm 1) (tw_T h cI cZ) (tw_ty cI cZ) tw_nl (tw_A 23 h) D [.ref (h 1), .int x] σ (some (.int (fa_handOf σ x))) σ := by
  refine tg_met (own := RX1) (cc := cX1_handOf) (maxL := 2) (ret := (some .int)) (by decide +kernel) rfl rfl (Nat.le_of_ble_eq_true rfl) ?_
  intro p e s m below meth c S hK hN hr hlk
  refine tg_sub (L' := [(0, .ref (h 1)), (1, .int x)]) [0, 1] rfl ?_
  refine tg_aload_n S 0 dX1_handOf_0 rfl rfl ?_
  refine tg_iload_n S 1 dX1_handOf_1 rfl rfl ?_
  refine tg_callV (nA := 1) (As := [.int x]) (rest := []) (q := (RX1, TX1, 9)) S hK hN (k_X1_holds hd σ x) 1 rfl rfl (tw_gV ml_RX1_44 im_X1_holds se_X1_holds in_RX1 co_X1_holds rfl) rfl (by decide +kernel) ⟨Nat.le_of_ble_eq_true rfl, Nat.le_of_ble_eq_true rfl⟩ rfl rfl (Nat.le_of_ble_eq_true rfl) dX1_handOf_2 ⟨Nat.le_of_ble_eq_true rfl, Nat.le_of_ble_eq_true rfl⟩ ?_
  refine tg_ifz (tgt := 17) S dX1_handOf_5 (by decide) (fun c_1 => ?_) (fun c_1 => ?_)
  · skip
    refine tg_iconst (v := -1) S dX1_handOf_17 (by decide) ?_
    exact tg_iret S hr hlk dX1_handOf_18 (by simp [fa_handOf, c_1]) rfl
  · skip
    refine tg_aload_n S 0 dX1_handOf_8 rfl rfl ?_
    refine tg_get (v := .ref (h 11)) S tw_v1 hK 1 rfl rfl 8 (by decide) (tw_in fl_RX1_37 rfl) dX1_handOf_9 rfl ?_
    refine tg_iload_n S 1 dX1_handOf_12 rfl rfl ?_
    refine tg_iald (v := σ 8 x.toNatClampNeg) S hK 11 0 rfl rfl dX1_handOf_13 (fa_holds_in c_1) rfl ?_
    refine tg_goto (tgt := 18) S dX1_handOf_14 (by decide) ?_
    exact tg_iret S hr hlk dX1_handOf_18 (by simp [fa_handOf, c_1]) rfl
set_option maxHeartbeats 4000000 in
set_option maxRecDepth 100000 in
theorem k_X1_writerBit {l : Launch} {D : va_G} {h : Nat → Nat} {cI cZ : ClassId} (hd : tw_dis 23 h) (σ : tg_Mem) (x : Int32) : tg_CT l yX1_writerBit wzX1_writerBit (tg_rm 1) (tw_T h cI cZ) (tw_ty cI cZ) tw_nl (tw_A 23 h) D [.ref (h 1), .int x] σ (some (.int (fa_writerBit σ x))) σ := by
  refine tg_met (own := RX1) (cc := cX1_writerBit) (maxL := 2) (ret := (some .int)) (by decide +kernel) rfl rfl (Nat.le_of_ble_eq_true rfl) ?_
  intro p e s m below meth c S hK hN hr hlk
  refine tg_sub (L' := [(0, .ref (h 1)), (1, .int x)]) [0, 1] rfl ?_
  refine tg_aload_n S 0 dX1_writerBit_0 rfl rfl ?_
  refine tg_iload_n S 1 dX1_writerBit_1 rfl rfl ?_
  refine tg_callV (nA := 1) (As := [.int x]) (rest := []) (q := (RX1, TX1, 9)) S hK hN (k_X1_holds hd σ x) 1 rfl rfl (tw_gV ml_RX1_44 im_X1_holds se_X1_holds in_RX1 co_X1_holds rfl) rfl (by decide +kernel) ⟨Nat.le_of_ble_eq_true rfl, Nat.le_of_ble_eq_true rfl⟩ rfl rfl (Nat.le_of_ble_eq_true rfl) dX1_writerBit_2 ⟨Nat.le_of_ble_eq_true rfl, Nat.le_of_ble_eq_true rfl⟩ ?_
  refine tg_ifz (tgt := 19) S dX1_writerBit_5 (by decide) (fun c_1 => ?_) (fun c_1 => ?_)
  · skip
    refine tg_iconst (v := 0) S dX1_writerBit_19 (by decide) ?_
    exact tg_iret S hr hlk dX1_writerBit_20 (by simp [fa_writerBit, c_1]) rfl
  · skip
    refine tg_iconst (v := 1) S dX1_writerBit_8 (by decide) ?_
    refine tg_aload_n S 0 dX1_writerBit_9 rfl rfl ?_
    refine tg_get (v := .ref (h 9)) S tw_v1 hK 1 rfl rfl 6 (by decide) (tw_in fl_RX1_31 rfl) dX1_writerBit_10 rfl ?_
    refine tg_iload_n S 1 dX1_writerBit_13 rfl rfl ?_
    refine tg_iald (v := σ 6 x.toNatClampNeg) S hK 9 0 rfl rfl dX1_writerBit_14 (fa_holds_in c_1) rfl ?_
    refine tg_ishl S dX1_writerBit_15 ?_
    refine tg_goto (tgt := 20) S dX1_writerBit_16 (by decide) ?_
    exact tg_iret S hr hlk dX1_writerBit_20 (by simp [fa_writerBit, c_1]) rfl
set_option maxHeartbeats 4000000 in
set_option maxRecDepth 100000 in
theorem k_X1_dayOf {l : Launch} {D : va_G} {h : Nat → Nat} {cI cZ : ClassId} (hd : tw_dis 23 h) (σ : tg_Mem) (x : Int32) : tg_CT l yX1_dayOf wzX1_dayOf (tg_rm 1) (tw_T h cI cZ) (tw_ty cI cZ) tw_nl (tw_A 23 h) D [.ref (h 1), .int x] σ (some (.int (fa_dayOf σ x))) σ := by
  refine tg_met (own := RX1) (cc := cX1_dayOf) (maxL := 2) (ret := (some .int)) (by decide +kernel) rfl rfl (Nat.le_of_ble_eq_true rfl) ?_
  intro p e s m below meth c S hK hN hr hlk
  refine tg_sub (L' := [(0, .ref (h 1)), (1, .int x)]) [0, 1] rfl ?_
  refine tg_aload_n S 0 dX1_dayOf_0 rfl rfl ?_
  refine tg_iload_n S 1 dX1_dayOf_1 rfl rfl ?_
  refine tg_callV (nA := 1) (As := [.int x]) (rest := []) (q := (RX1, TX1, 9)) S hK hN (k_X1_holds hd σ x) 1 rfl rfl (tw_gV ml_RX1_44 im_X1_holds se_X1_holds in_RX1 co_X1_holds rfl) rfl (by decide +kernel) ⟨Nat.le_of_ble_eq_true rfl, Nat.le_of_ble_eq_true rfl⟩ rfl rfl (Nat.le_of_ble_eq_true rfl) dX1_dayOf_2 ⟨Nat.le_of_ble_eq_true rfl, Nat.le_of_ble_eq_true rfl⟩ ?_
  refine tg_ifz (tgt := 17) S dX1_dayOf_5 (by decide) (fun c_1 => ?_) (fun c_1 => ?_)
  · skip
    refine tg_sipush (v := 1000) S dX1_dayOf_17 (by decide) ?_
    exact tg_iret S hr hlk dX1_dayOf_20 (by simp [fa_dayOf, c_1]) rfl
  · skip
    refine tg_aload_n S 0 dX1_dayOf_8 rfl rfl ?_
    refine tg_get (v := .ref (h 8)) S tw_v1 hK 1 rfl rfl 5 (by decide) (tw_in fl_RX1_28 rfl) dX1_dayOf_9 rfl ?_
    refine tg_iload_n S 1 dX1_dayOf_12 rfl rfl ?_
    refine tg_iald (v := σ 5 x.toNatClampNeg) S hK 8 0 rfl rfl dX1_dayOf_13 (fa_holds_in c_1) rfl ?_
    refine tg_goto (tgt := 20) S dX1_dayOf_14 (by decide) ?_
    exact tg_iret S hr hlk dX1_dayOf_20 (by simp [fa_dayOf, c_1]) rfl
set_option maxHeartbeats 4000000 in
set_option maxRecDepth 100000 in
theorem k_X1_parentToldBy {l : Launch} {D : va_G} {h : Nat → Nat} {cI cZ : ClassId} (hd : tw_dis 23 h) (σ : tg_Mem) (x : Int32) : tg_CT l yX1_parentToldBy wzX1_parentToldBy (tg_rm 1) (tw_T h cI cZ) (tw_ty cI cZ) tw_nl (tw_A 23 h) D [.ref (h 1), .int x] σ (some (.int (fa_pTold σ x))) σ := by
  refine tg_met (own := RX1) (cc := cX1_parentToldBy) (maxL := 2) (ret := (some .int)) (by decide +kernel) rfl rfl (Nat.le_of_ble_eq_true rfl) ?_
  intro p e s m below meth c S hK hN hr hlk
  refine tg_sub (L' := [(0, .ref (h 1)), (1, .int x)]) [0, 1] rfl ?_
  refine tg_aload_n S 0 dX1_parentToldBy_0 rfl rfl ?_
  refine tg_iload_n S 1 dX1_parentToldBy_1 rfl rfl ?_
  refine tg_callV (nA := 1) (As := [.int x]) (rest := []) (q := (RX1, TX1, 9)) S hK hN (k_X1_holds hd σ x) 1 rfl rfl (tw_gV ml_RX1_44 im_X1_holds se_X1_holds in_RX1 co_X1_holds rfl) rfl (by decide +kernel) ⟨Nat.le_of_ble_eq_true rfl, Nat.le_of_ble_eq_true rfl⟩ rfl rfl (Nat.le_of_ble_eq_true rfl) dX1_parentToldBy_2 ⟨Nat.le_of_ble_eq_true rfl, Nat.le_of_ble_eq_true rfl⟩ ?_
  refine tg_ifz (tgt := 17) S dX1_parentToldBy_5 (by decide) (fun c_1 => ?_) (fun c_1 => ?_)
  · skip
    refine tg_iconst (v := -1) S dX1_parentToldBy_17 (by decide) ?_
    exact tg_iret S hr hlk dX1_parentToldBy_18 (by simp [fa_pTold, c_1]) rfl
  · skip
    refine tg_aload_n S 0 dX1_parentToldBy_8 rfl rfl ?_
    refine tg_get (v := .ref (h 5)) S tw_v1 hK 1 rfl rfl 2 (by decide) (tw_in fl_RX1_19 rfl) dX1_parentToldBy_9 rfl ?_
    refine tg_iload_n S 1 dX1_parentToldBy_12 rfl rfl ?_
    refine tg_iald (v := σ 2 x.toNatClampNeg) S hK 5 0 rfl rfl dX1_parentToldBy_13 (fa_holds_in c_1) rfl ?_
    refine tg_goto (tgt := 18) S dX1_parentToldBy_14 (by decide) ?_
    exact tg_iret S hr hlk dX1_parentToldBy_18 (by simp [fa_pTold, c_1]) rfl
set_option maxHeartbeats 4000000 in
set_option maxRecDepth 100000 in
theorem k_X1_grandparentToldBy {l : Launch} {D : va_G} {h : Nat → Nat} {cI cZ : ClassId} (hd : tw_dis 23 h) (σ : tg_Mem) (x : Int32) : tg_CT l yX1_grandparentToldBy wzX1_grandparentToldBy (tg_rm 1) (tw_T h cI cZ) (tw_ty cI cZ) tw_nl (tw_A 23 h) D [.ref (h 1), .int x] σ (some (.int (fa_gTold σ x))) σ := by
  refine tg_met (own := RX1) (cc := cX1_grandparentToldBy) (maxL := 2) (ret := (some .int)) (by decide +kernel) rfl rfl (Nat.le_of_ble_eq_true rfl) ?_
  intro p e s m below meth c S hK hN hr hlk
  refine tg_sub (L' := [(0, .ref (h 1)), (1, .int x)]) [0, 1] rfl ?_
  refine tg_aload_n S 0 dX1_grandparentToldBy_0 rfl rfl ?_
  refine tg_iload_n S 1 dX1_grandparentToldBy_1 rfl rfl ?_
  refine tg_callV (nA := 1) (As := [.int x]) (rest := []) (q := (RX1, TX1, 9)) S hK hN (k_X1_holds hd σ x) 1 rfl rfl (tw_gV ml_RX1_44 im_X1_holds se_X1_holds in_RX1 co_X1_holds rfl) rfl (by decide +kernel) ⟨Nat.le_of_ble_eq_true rfl, Nat.le_of_ble_eq_true rfl⟩ rfl rfl (Nat.le_of_ble_eq_true rfl) dX1_grandparentToldBy_2 ⟨Nat.le_of_ble_eq_true rfl, Nat.le_of_ble_eq_true rfl⟩ ?_
  refine tg_ifz (tgt := 17) S dX1_grandparentToldBy_5 (by decide) (fun c_1 => ?_) (fun c_1 => ?_)
  · skip
    refine tg_iconst (v := -1) S dX1_grandparentToldBy_17 (by decide) ?_
    exact tg_iret S hr hlk dX1_grandparentToldBy_18 (by simp [fa_gTold, c_1]) rfl
  · skip
    refine tg_aload_n S 0 dX1_grandparentToldBy_8 rfl rfl ?_
    refine tg_get (v := .ref (h 4)) S tw_v1 hK 1 rfl rfl 1 (by decide) (tw_in fl_RX1_15 rfl) dX1_grandparentToldBy_9 rfl ?_
    refine tg_iload_n S 1 dX1_grandparentToldBy_12 rfl rfl ?_
    refine tg_iald (v := σ 1 x.toNatClampNeg) S hK 4 0 rfl rfl dX1_grandparentToldBy_13 (fa_holds_in c_1) rfl ?_
    refine tg_goto (tgt := 18) S dX1_grandparentToldBy_14 (by decide) ?_
    exact tg_iret S hr hlk dX1_grandparentToldBy_18 (by simp [fa_gTold, c_1]) rfl
set_option maxHeartbeats 4000000 in
set_option maxRecDepth 100000 in
theorem k_X1_guessedParentOf {l : Launch} {D : va_G} {h : Nat → Nat} {cI cZ : ClassId} (hd : tw_dis 23 h) (σ : tg_Mem) (x : Int32) : tg_CT l yX1_guessedParentOf wzX1_guessedParentOf (tg_rm 2) (tw_T h cI cZ) (tw_ty cI cZ) tw_nl (tw_A 23 h) D [.ref (h 1), .int x] σ (some (.int (fa_guess σ x))) σ := by
  refine tg_met (own := RX1) (cc := cX1_guessedParentOf) (maxL := 3) (ret := (some .int)) (by decide +kernel) rfl rfl (Nat.le_of_ble_eq_true rfl) ?_
  intro p e s m below meth c S hK hN hr hlk
  obtain ⟨v0, hv0⟩ : ∃ v, fa_guess σ x = v := ⟨_, rfl⟩
  rw [hv0]
  refine tg_sub (L' := [(0, .ref (h 1)), (1, .int x)]) [0, 1] rfl ?_
  refine tg_iconst (v := nI 0) S dX1_guessedParentOf_0 (by decide) ?_
  refine tg_istore_n (L' := [(0, .ref (h 1)), (1, .int x), (2, .int (nI 0))]) [1, 2, 0] S dX1_guessedParentOf_1 rfl (by decide) rfl ?_
  refine tg_fuel (X := Unit) (fa_fnd σ x) 30 () (fun u => σ) (fun i u => [(0, .ref (h 1)), (1, .int x), (2, .int (nI i))]) hv0 ?_ ?_
  · skip
    intro n1 i u hn_i hF_i hk_i
    have hi_i : i < 30 := by omega
    refine tg_iload_n S 2 dX1_guessedParentOf_2 rfl rfl ?_
    refine tg_bipush (v := 30) S dX1_guessedParentOf_3 (by decide) ?_
    refine tg_icmp_ge (tgt := 38) S dX1_guessedParentOf_5 (by decide) (fun c => absurd c (tg_nge hi_i)) (fun _ => ?_)
    refine tg_aload_n S 0 dX1_guessedParentOf_8 rfl rfl ?_
    refine tg_iload_n S 2 dX1_guessedParentOf_9 rfl rfl ?_
    refine tg_callV (nA := 1) (As := [.int (nI i)]) (rest := []) (q := (RX1, TX1, 9)) S hK hN (k_X1_parentToldBy hd σ (nI i)) 1 rfl rfl (tw_gV ml_RX1_57 im_X1_parentToldBy se_X1_parentToldBy in_RX1 co_X1_parentToldBy rfl) rfl (by decide +kernel) ⟨Nat.le_of_ble_eq_true rfl, Nat.le_of_ble_eq_true rfl⟩ rfl rfl (Nat.le_of_ble_eq_true rfl) dX1_guessedParentOf_10 ⟨Nat.le_of_ble_eq_true rfl, Nat.le_of_ble_eq_true rfl⟩ ?_
    refine tg_iload_n S 1 dX1_guessedParentOf_13 rfl rfl ?_
    refine tg_icmp_ne (tgt := 32) S dX1_guessedParentOf_14 (by decide) (fun c_1 => ?_) (fun c_1 => ?_)
    · skip
      refine tg_iinc (v := nI (i + 1)) (L' := [(0, .ref (h 1)), (1, .int x), (2, .int (nI (i + 1)))]) [1, 2, 0] S 2 dX1_guessedParentOf_32 rfl (tg_inc _) (by decide) rfl ?_
      refine tg_goto (tgt := 2) S dX1_guessedParentOf_35 (by decide) ?_
      exact hk_i u (((by first | (simp [fa_fnd, c_1]; done) | (simp only [fa_fnd, if_neg c_1]; done)) : fa_fnd σ x n1 (i + 1) u = fa_fnd σ x (n1 + 1) i u).trans hF_i)
    · skip
      refine tg_aload_n S 0 dX1_guessedParentOf_17 rfl rfl ?_
      refine tg_iload_n S 2 dX1_guessedParentOf_18 rfl rfl ?_
      refine tg_callV (nA := 1) (As := [.int (nI i)]) (rest := []) (q := (RX1, TX1, 9)) S hK hN (k_X1_grandparentToldBy hd σ (nI i)) 1 rfl rfl (tw_gV ml_RX1_60 im_X1_grandparentToldBy se_X1_grandparentToldBy in_RX1 co_X1_grandparentToldBy rfl) rfl (by decide +kernel) ⟨Nat.le_of_ble_eq_true rfl, Nat.le_of_ble_eq_true rfl⟩ rfl rfl (Nat.le_of_ble_eq_true rfl) dX1_guessedParentOf_19 ⟨Nat.le_of_ble_eq_true rfl, Nat.le_of_ble_eq_true rfl⟩ ?_
      refine tg_iconst (v := -1) S dX1_guessedParentOf_22 (by decide) ?_
      refine tg_icmp_eq (tgt := 32) S dX1_guessedParentOf_23 (by decide) (fun c_2 => ?_) (fun c_2 => ?_)
      · skip
        refine tg_iinc (v := nI (i + 1)) (L' := [(0, .ref (h 1)), (1, .int x), (2, .int (nI (i + 1)))]) [1, 2, 0] S 2 dX1_guessedParentOf_32 rfl (tg_inc _) (by decide) rfl ?_
        refine tg_goto (tgt := 2) S dX1_guessedParentOf_35 (by decide) ?_
        exact hk_i u (((by first | (simp [fa_fnd, c_1, c_2]; done) | (simp only [fa_fnd, if_pos c_1, if_pos c_2]; done)) : fa_fnd σ x n1 (i + 1) u = fa_fnd σ x (n1 + 1) i u).trans hF_i)
      · skip
        refine tg_aload_n S 0 dX1_guessedParentOf_26 rfl rfl ?_
        refine tg_iload_n S 2 dX1_guessedParentOf_27 rfl rfl ?_
        refine tg_callV (nA := 1) (As := [.int (nI i)]) (rest := []) (q := (RX1, TX1, 9)) S hK hN (k_X1_grandparentToldBy hd σ (nI i)) 1 rfl rfl (tw_gV ml_RX1_60 im_X1_grandparentToldBy se_X1_grandparentToldBy in_RX1 co_X1_grandparentToldBy rfl) rfl (by decide +kernel) ⟨Nat.le_of_ble_eq_true rfl, Nat.le_of_ble_eq_true rfl⟩ rfl rfl (Nat.le_of_ble_eq_true rfl) dX1_guessedParentOf_28 ⟨Nat.le_of_ble_eq_true rfl, Nat.le_of_ble_eq_true rfl⟩ ?_
        exact tg_iret S hr hlk dX1_guessedParentOf_31 (((by first | (simp [fa_fnd, c_1, c_2]; done) | (simp only [fa_fnd, if_pos c_1, if_neg c_2]; done)) : fa_gTold σ (nI i) = fa_fnd σ x (n1 + 1) i u).trans hF_i) rfl
  · skip
    intro u hF_i
    refine tg_iload_n S 2 dX1_guessedParentOf_2 rfl rfl ?_
    refine tg_bipush (v := 30) S dX1_guessedParentOf_3 (by decide) ?_
    refine tg_icmp_ge (tgt := 38) S dX1_guessedParentOf_5 (by decide) (fun _ => ?_) (fun c => absurd tg_ge c)
    refine tg_iconst (v := -1) S dX1_guessedParentOf_38 (by decide) ?_
    exact tg_iret S hr hlk dX1_guessedParentOf_39 (((by first | (simp [fa_fnd]; done)) : -1 = fa_fnd σ x 0 30 u).trans hF_i) rfl
set_option maxHeartbeats 4000000 in
set_option maxRecDepth 100000 in
theorem k_X1_toldParentOf {l : Launch} {D : va_G} {h : Nat → Nat} {cI cZ : ClassId} (hd : tw_dis 23 h) (σ : tg_Mem) (x : Int32) : tg_CT l yX1_toldParentOf wzX1_toldParentOf (tg_rm 3) (tw_T h cI cZ) (tw_ty cI cZ) tw_nl (tw_A 23 h) D [.ref (h 1), .int x] σ (some (.int (fa_told σ x))) σ := by
  refine tg_met (own := RX1) (cc := cX1_toldParentOf) (maxL := 3) (ret := (some .int)) (by decide +kernel) rfl rfl (Nat.le_of_ble_eq_true rfl) ?_
  intro p e s m below meth c S hK hN hr hlk
  refine tg_sub (L' := [(0, .ref (h 1)), (1, .int x)]) [0, 1] rfl ?_
  refine tg_aload_n S 0 dX1_toldParentOf_0 rfl rfl ?_
  refine tg_iload_n S 1 dX1_toldParentOf_1 rfl rfl ?_
  refine tg_callV (nA := 1) (As := [.int x]) (rest := []) (q := (RX1, TX1, 9)) S hK hN (k_X1_holds hd σ x) 1 rfl rfl (tw_gV ml_RX1_44 im_X1_holds se_X1_holds in_RX1 co_X1_holds rfl) rfl (by decide +kernel) ⟨Nat.le_of_ble_eq_true rfl, Nat.le_of_ble_eq_true rfl⟩ rfl rfl (Nat.le_of_ble_eq_true rfl) dX1_toldParentOf_2 ⟨Nat.le_of_ble_eq_true rfl, Nat.le_of_ble_eq_true rfl⟩ ?_
  refine tg_ifnz (tgt := 14) S dX1_toldParentOf_5 (by decide) (fun c_1 => ?_) (fun c_1 => ?_)
  · skip
    refine tg_aload_n S 0 dX1_toldParentOf_14 rfl rfl ?_
    refine tg_iload_n S 1 dX1_toldParentOf_15 rfl rfl ?_
    refine tg_callV (nA := 1) (As := [.int x]) (rest := []) (q := (RX1, TX1, 9)) S hK hN (k_X1_handOf hd σ x) 1 rfl rfl (tw_gV ml_RX1_54 im_X1_handOf se_X1_handOf in_RX1 co_X1_handOf rfl) rfl (by decide +kernel) ⟨Nat.le_of_ble_eq_true rfl, Nat.le_of_ble_eq_true rfl⟩ rfl rfl (Nat.le_of_ble_eq_true rfl) dX1_toldParentOf_16 ⟨Nat.le_of_ble_eq_true rfl, Nat.le_of_ble_eq_true rfl⟩ ?_
    refine tg_istore_n (L' := [(0, .ref (h 1)), (1, .int x), (2, .int (fa_handOf σ x))]) [1, 2, 0] S dX1_toldParentOf_19 rfl (by decide) rfl ?_
    refine tg_iload_n S 2 dX1_toldParentOf_20 rfl rfl ?_
    refine tg_iconst (v := -1) S dX1_toldParentOf_21 (by decide) ?_
    refine tg_icmp_ne (tgt := 31) S dX1_toldParentOf_22 (by decide) (fun c_2 => ?_) (fun c_2 => ?_)
    · skip
      refine tg_iload_n S 2 dX1_toldParentOf_31 rfl rfl ?_
      refine tg_bipush (v := -2) S dX1_toldParentOf_32 (by decide) ?_
      refine tg_icmp_ne (tgt := 41) S dX1_toldParentOf_34 (by decide) (fun c_3 => ?_) (fun c_3 => ?_)
      · skip
        refine tg_iload_n S 2 dX1_toldParentOf_41 rfl rfl ?_
        exact tg_iret S hr hlk dX1_toldParentOf_42 (by simp [fa_told, c_1, c_2, c_3]) rfl
      · skip
        refine tg_iconst (v := -1) S dX1_toldParentOf_37 (by decide) ?_
        refine tg_goto (tgt := 42) S dX1_toldParentOf_38 (by decide) ?_
        exact tg_iret S hr hlk dX1_toldParentOf_42 (by simp [fa_told, c_1, c_2, c_3]) rfl
    · skip
      refine tg_aload_n S 0 dX1_toldParentOf_25 rfl rfl ?_
      refine tg_iload_n S 1 dX1_toldParentOf_26 rfl rfl ?_
      refine tg_callV (nA := 1) (As := [.int x]) (rest := []) (q := (RX1, TX1, 9)) S hK hN (k_X1_parentToldBy hd σ x) 1 rfl rfl (tw_gV ml_RX1_57 im_X1_parentToldBy se_X1_parentToldBy in_RX1 co_X1_parentToldBy rfl) rfl (by decide +kernel) ⟨Nat.le_of_ble_eq_true rfl, Nat.le_of_ble_eq_true rfl⟩ rfl rfl (Nat.le_of_ble_eq_true rfl) dX1_toldParentOf_27 ⟨Nat.le_of_ble_eq_true rfl, Nat.le_of_ble_eq_true rfl⟩ ?_
      exact tg_iret S hr hlk dX1_toldParentOf_30 (by simp [fa_told, c_1, c_2]) rfl
  · skip
    refine tg_aload_n S 0 dX1_toldParentOf_8 rfl rfl ?_
    refine tg_iload_n S 1 dX1_toldParentOf_9 rfl rfl ?_
    refine tg_callV (nA := 1) (As := [.int x]) (rest := []) (q := (RX1, TX1, 9)) S hK hN (k_X1_guessedParentOf hd σ x) 1 rfl rfl (tw_gV ml_RX1_50 im_X1_guessedParentOf se_X1_guessedParentOf in_RX1 co_X1_guessedParentOf rfl) rfl (by decide +kernel) ⟨Nat.le_of_ble_eq_true rfl, Nat.le_of_ble_eq_true rfl⟩ rfl rfl (Nat.le_of_ble_eq_true rfl) dX1_toldParentOf_10 ⟨Nat.le_of_ble_eq_true rfl, Nat.le_of_ble_eq_true rfl⟩ ?_
    exact tg_iret S hr hlk dX1_toldParentOf_13 (by simp [fa_told, c_1]) rfl
set_option maxHeartbeats 4000000 in
set_option maxRecDepth 100000 in
theorem k_X1_isReply {l : Launch} {D : va_G} {h : Nat → Nat} {cI cZ : ClassId} (hd : tw_dis 23 h) (σ : tg_Mem) (x : Int32) : tg_CT l yX1_isReply wzX1_isReply (tg_rm 1) (tw_T h cI cZ) (tw_ty cI cZ) tw_nl (tw_A 23 h) D [.ref (h 1), .int x] σ (some (.int (tg_b (fa_isReply σ x)))) σ := by
  refine tg_met (own := RX1) (cc := cX1_isReply) (maxL := 2) (ret := (some .boolean)) (by decide +kernel) rfl rfl (Nat.le_of_ble_eq_true rfl) ?_
  intro p e s m below meth c S hK hN hr hlk
  refine tg_sub (L' := [(0, .ref (h 1)), (1, .int x)]) [0, 1] rfl ?_
  refine tg_aload_n S 0 dX1_isReply_0 rfl rfl ?_
  refine tg_iload_n S 1 dX1_isReply_1 rfl rfl ?_
  refine tg_callV (nA := 1) (As := [.int x]) (rest := []) (q := (RX1, TX1, 9)) S hK hN (k_X1_holds hd σ x) 1 rfl rfl (tw_gV ml_RX1_44 im_X1_holds se_X1_holds in_RX1 co_X1_holds rfl) rfl (by decide +kernel) ⟨Nat.le_of_ble_eq_true rfl, Nat.le_of_ble_eq_true rfl⟩ rfl rfl (Nat.le_of_ble_eq_true rfl) dX1_isReply_2 ⟨Nat.le_of_ble_eq_true rfl, Nat.le_of_ble_eq_true rfl⟩ ?_
  refine tg_ifz (tgt := 21) S dX1_isReply_5 (by decide) (fun c_1 => ?_) (fun c_1 => ?_)
  · skip
    refine tg_iconst (v := 0) S dX1_isReply_21 (by decide) ?_
    exact tg_zret (b := false) S hr hlk dX1_isReply_22 (congrArg tg_b (by simp [fa_isReply, c_1])) rfl
  · skip
    refine tg_aload_n S 0 dX1_isReply_8 rfl rfl ?_
    refine tg_get (v := .ref (h 7)) S tw_v1 hK 1 rfl rfl 4 (by decide) (tw_in fl_RX1_25 rfl) dX1_isReply_9 rfl ?_
    refine tg_iload_n S 1 dX1_isReply_12 rfl rfl ?_
    refine tg_zald (v := σ 4 x.toNatClampNeg) S hK 7 1 rfl rfl dX1_isReply_13 (fa_holds_in c_1) rfl ?_
    refine tg_if_eq (tgt := 21) S dX1_isReply_14 (by decide) (fun c_2 => ?_) (fun c_2 => ?_)
    · skip
      refine tg_iconst (v := 0) S dX1_isReply_21 (by decide) ?_
      exact tg_zret (b := false) S hr hlk dX1_isReply_22 (congrArg tg_b (by simp [fa_isReply, c_1, c_2])) rfl
    · skip
      refine tg_iconst (v := 1) S dX1_isReply_17 (by decide) ?_
      refine tg_goto (tgt := 22) S dX1_isReply_18 (by decide) ?_
      exact tg_zret (b := true) S hr hlk dX1_isReply_22 (congrArg tg_b (by simp [fa_isReply, c_1, c_2])) rfl
set_option maxHeartbeats 4000000 in
set_option maxRecDepth 100000 in
theorem k_X1_isAnsweredBy {l : Launch} {D : va_G} {h : Nat → Nat} {cI cZ : ClassId} (hd : tw_dis 23 h) (σ : tg_Mem) (x : Int32) (y : Int32) : tg_CT l yX1_isAnsweredBy wzX1_isAnsweredBy (tg_rm 1) (tw_T h cI cZ) (tw_ty cI cZ) tw_nl (tw_A 23 h) D [.ref (h 1), .int x, .int y] σ (some (.int (tg_b (fa_ans σ x y)))) σ := by
  refine tg_met (own := RX1) (cc := cX1_isAnsweredBy) (maxL := 4) (ret := (some .boolean)) (by decide +kernel) rfl rfl (Nat.le_of_ble_eq_true rfl) ?_
  intro p e s m below meth c S hK hN hr hlk
  refine tg_sub (L' := [(0, .ref (h 1)), (1, .int x), (2, .int y)]) [0, 1, 2] rfl ?_
  refine tg_aload_n S 0 dX1_isAnsweredBy_0 rfl rfl ?_
  refine tg_iload_n S 1 dX1_isAnsweredBy_1 rfl rfl ?_
  refine tg_callV (nA := 1) (As := [.int x]) (rest := []) (q := (RX1, TX1, 9)) S hK hN (k_X1_holds hd σ x) 1 rfl rfl (tw_gV ml_RX1_44 im_X1_holds se_X1_holds in_RX1 co_X1_holds rfl) rfl (by decide +kernel) ⟨Nat.le_of_ble_eq_true rfl, Nat.le_of_ble_eq_true rfl⟩ rfl rfl (Nat.le_of_ble_eq_true rfl) dX1_isAnsweredBy_2 ⟨Nat.le_of_ble_eq_true rfl, Nat.le_of_ble_eq_true rfl⟩ ?_
  refine tg_ifz (tgt := 34) S dX1_isAnsweredBy_5 (by decide) (fun c_1 => ?_) (fun c_1 => ?_)
  · skip
    refine tg_iconst (v := 0) S dX1_isAnsweredBy_34 (by decide) ?_
    exact tg_zret (b := false) S hr hlk dX1_isAnsweredBy_35 (congrArg tg_b (by simp [fa_ans, c_1])) rfl
  · skip
    refine tg_aload_n S 0 dX1_isAnsweredBy_8 rfl rfl ?_
    refine tg_iload_n S 2 dX1_isAnsweredBy_9 rfl rfl ?_
    refine tg_callV (nA := 1) (As := [.int y]) (rest := []) (q := (RX1, TX1, 9)) S hK hN (k_X1_holds hd σ y) 1 rfl rfl (tw_gV ml_RX1_44 im_X1_holds se_X1_holds in_RX1 co_X1_holds rfl) rfl (by decide +kernel) ⟨Nat.le_of_ble_eq_true rfl, Nat.le_of_ble_eq_true rfl⟩ rfl rfl (Nat.le_of_ble_eq_true rfl) dX1_isAnsweredBy_10 ⟨Nat.le_of_ble_eq_true rfl, Nat.le_of_ble_eq_true rfl⟩ ?_
    refine tg_ifz (tgt := 34) S dX1_isAnsweredBy_13 (by decide) (fun c_2 => ?_) (fun c_2 => ?_)
    · skip
      refine tg_iconst (v := 0) S dX1_isAnsweredBy_34 (by decide) ?_
      exact tg_zret (b := false) S hr hlk dX1_isAnsweredBy_35 (congrArg tg_b (by simp [fa_ans, c_1, c_2])) rfl
    · skip
      refine tg_aload_n S 0 dX1_isAnsweredBy_16 rfl rfl ?_
      refine tg_get (v := .ref (h 7)) S tw_v1 hK 1 rfl rfl 4 (by decide) (tw_in fl_RX1_25 rfl) dX1_isAnsweredBy_17 rfl ?_
      refine tg_iload_n S 1 dX1_isAnsweredBy_20 rfl rfl ?_
      refine tg_zald (v := σ 4 x.toNatClampNeg) S hK 7 1 rfl rfl dX1_isAnsweredBy_21 (fa_holds_in c_1) rfl ?_
      refine tg_if_ne (tgt := 34) S dX1_isAnsweredBy_22 (by decide) (fun c_3 => ?_) (fun c_3 => ?_)
      · skip
        refine tg_iconst (v := 0) S dX1_isAnsweredBy_34 (by decide) ?_
        exact tg_zret (b := false) S hr hlk dX1_isAnsweredBy_35 (congrArg tg_b (by simp [fa_ans, c_1, c_2, c_3])) rfl
      · skip
        refine tg_aload_n S 0 dX1_isAnsweredBy_25 rfl rfl ?_
        refine tg_get (v := .ref (h 7)) S tw_v1 hK 1 rfl rfl 4 (by decide) (tw_in fl_RX1_25 rfl) dX1_isAnsweredBy_26 rfl ?_
        refine tg_iload_n S 2 dX1_isAnsweredBy_29 rfl rfl ?_
        refine tg_zald (v := σ 4 y.toNatClampNeg) S hK 7 1 rfl rfl dX1_isAnsweredBy_30 (fa_holds_in c_2) rfl ?_
        refine tg_if_ne (tgt := 36) S dX1_isAnsweredBy_31 (by decide) (fun c_4 => ?_) (fun c_4 => ?_)
        · skip
          refine tg_aload_n S 0 dX1_isAnsweredBy_36 rfl rfl ?_
          refine tg_get (v := .ref (h 8)) S tw_v1 hK 1 rfl rfl 5 (by decide) (tw_in fl_RX1_28 rfl) dX1_isAnsweredBy_37 rfl ?_
          refine tg_iload_n S 2 dX1_isAnsweredBy_40 rfl rfl ?_
          refine tg_iald (v := σ 5 y.toNatClampNeg) S hK 8 0 rfl rfl dX1_isAnsweredBy_41 (fa_holds_in c_2) rfl ?_
          refine tg_aload_n S 0 dX1_isAnsweredBy_42 rfl rfl ?_
          refine tg_get (v := .ref (h 8)) S tw_v1 hK 1 rfl rfl 5 (by decide) (tw_in fl_RX1_28 rfl) dX1_isAnsweredBy_43 rfl ?_
          refine tg_iload_n S 1 dX1_isAnsweredBy_46 rfl rfl ?_
          refine tg_iald (v := σ 5 x.toNatClampNeg) S hK 8 0 rfl rfl dX1_isAnsweredBy_47 (fa_holds_in c_1) rfl ?_
          refine tg_isub S dX1_isAnsweredBy_48 ?_
          refine tg_istore_n (L' := [(0, .ref (h 1)), (1, .int x), (2, .int y), (3, .int ((σ 5 y.toNatClampNeg) - (σ 5 x.toNatClampNeg)))]) [1, 2, 3, 0] S dX1_isAnsweredBy_49 rfl (by decide) rfl ?_
          refine tg_aload_n S 0 dX1_isAnsweredBy_50 rfl rfl ?_
          refine tg_get (v := .ref (h 6)) S tw_v1 hK 1 rfl rfl 3 (by decide) (tw_in fl_RX1_22 rfl) dX1_isAnsweredBy_51 rfl ?_
          refine tg_iload_n S 1 dX1_isAnsweredBy_54 rfl rfl ?_
          refine tg_iald (v := σ 3 x.toNatClampNeg) S hK 6 0 rfl rfl dX1_isAnsweredBy_55 (fa_holds_in c_1) rfl ?_
          refine tg_aload_n S 0 dX1_isAnsweredBy_56 rfl rfl ?_
          refine tg_get (v := .ref (h 6)) S tw_v1 hK 1 rfl rfl 3 (by decide) (tw_in fl_RX1_22 rfl) dX1_isAnsweredBy_57 rfl ?_
          refine tg_iload_n S 2 dX1_isAnsweredBy_60 rfl rfl ?_
          refine tg_iald (v := σ 3 y.toNatClampNeg) S hK 6 0 rfl rfl dX1_isAnsweredBy_61 (fa_holds_in c_2) rfl ?_
          refine tg_icmp_ne (tgt := 79) S dX1_isAnsweredBy_62 (by decide) (fun c_5 => ?_) (fun c_5 => ?_)
          · skip
            refine tg_iconst (v := 0) S dX1_isAnsweredBy_79 (by decide) ?_
            exact tg_zret (b := false) S hr hlk dX1_isAnsweredBy_80 (congrArg tg_b (by simp [fa_ans, c_1, c_2, c_3, c_4, c_5])) rfl
          · skip
            refine tg_iload_n S 3 dX1_isAnsweredBy_65 rfl rfl ?_
            refine tg_if_lt (tgt := 79) S dX1_isAnsweredBy_66 (by decide) (fun c_6 => ?_) (fun c_6 => ?_)
            · skip
              refine tg_iconst (v := 0) S dX1_isAnsweredBy_79 (by decide) ?_
              exact tg_zret (b := false) S hr hlk dX1_isAnsweredBy_80 (congrArg tg_b (by simp [fa_ans, c_1, c_2, c_3, c_4, c_5, c_6])) rfl
            · skip
              refine tg_iload_n S 3 dX1_isAnsweredBy_69 rfl rfl ?_
              refine tg_bipush (v := 14) S dX1_isAnsweredBy_70 (by decide) ?_
              refine tg_icmp_gt (tgt := 79) S dX1_isAnsweredBy_72 (by decide) (fun c_7 => ?_) (fun c_7 => ?_)
              · skip
                refine tg_iconst (v := 0) S dX1_isAnsweredBy_79 (by decide) ?_
                exact tg_zret (b := false) S hr hlk dX1_isAnsweredBy_80 (congrArg tg_b (by simp [fa_ans, c_1, c_2, c_3, c_4, c_5, c_6, c_7])) rfl
              · skip
                refine tg_iconst (v := 1) S dX1_isAnsweredBy_75 (by decide) ?_
                refine tg_goto (tgt := 80) S dX1_isAnsweredBy_76 (by decide) ?_
                exact tg_zret (b := true) S hr hlk dX1_isAnsweredBy_80 (congrArg tg_b (by simp [fa_ans, c_1, c_2, c_3, c_4, c_5, c_6, c_7])) rfl
        · skip
          refine tg_iconst (v := 0) S dX1_isAnsweredBy_34 (by decide) ?_
          exact tg_zret (b := false) S hr hlk dX1_isAnsweredBy_35 (congrArg tg_b (by simp [fa_ans, c_1, c_2, c_3, c_4])) rfl
set_option maxHeartbeats 4000000 in
set_option maxRecDepth 100000 in
theorem k_X0_knows {l : Launch} {D : va_G} {h : Nat → Nat} {cI cZ : ClassId} (hd : tw_dis 23 h) (σ : tg_Mem) (x : Int32) : tg_CT l yX0_knows wzX0_knows (tg_rm 1) (tw_T h cI cZ) (tw_ty cI cZ) tw_nl (tw_A 23 h) D [.ref (h 2), .int x] σ (some (.int (tg_b (fa_knows σ x)))) σ := by
  refine tg_met (own := RX0) (cc := cX0_knows) (maxL := 2) (ret := (some .boolean)) (by decide +kernel) rfl rfl (Nat.le_of_ble_eq_true rfl) ?_
  intro p e s m below meth c S hK hN hr hlk
  refine tg_sub (L' := [(0, .ref (h 2)), (1, .int x)]) [0, 1] rfl ?_
  refine tg_iload_n S 1 dX0_knows_0 rfl rfl ?_
  refine tg_callSN (nA := 1) (As := [.int x]) (rest := []) (host := RX2) S hK hN (k_X2_isId hd σ x) (tw_gW co_X2_isId rfl) (List.mem_of_getElem? (i := 9) rfl) (tw_in in_RX2 rfl) (tw_in st_X2_isId rfl) rfl (by decide +kernel) ⟨Nat.le_of_ble_eq_true rfl, Nat.le_of_ble_eq_true rfl⟩ rfl rfl (Nat.le_of_ble_eq_true rfl) dX0_knows_1 ⟨Nat.le_of_ble_eq_true rfl, Nat.le_of_ble_eq_true rfl⟩ ?_
  refine tg_ifz (tgt := 20) S dX0_knows_4 (by decide) (fun c_1 => ?_) (fun c_1 => ?_)
  · skip
    refine tg_iconst (v := 0) S dX0_knows_20 (by decide) ?_
    exact tg_zret (b := false) S hr hlk dX0_knows_21 (congrArg tg_b (by simp [fa_knows, c_1])) rfl
  · skip
    refine tg_aload_n S 0 dX0_knows_7 rfl rfl ?_
    refine tg_get (v := .ref (h 12)) S tw_v0 hK 2 rfl rfl 1 (by decide) (tw_in fl_RX0_9 rfl) dX0_knows_8 rfl ?_
    refine tg_iload_n S 1 dX0_knows_11 rfl rfl ?_
    refine tg_zald (v := σ 9 x.toNatClampNeg) S hK 12 1 rfl rfl dX0_knows_12 (fa_id_in c_1) rfl ?_
    refine tg_if_eq (tgt := 20) S dX0_knows_13 (by decide) (fun c_2 => ?_) (fun c_2 => ?_)
    · skip
      refine tg_iconst (v := 0) S dX0_knows_20 (by decide) ?_
      exact tg_zret (b := false) S hr hlk dX0_knows_21 (congrArg tg_b (by simp [fa_knows, c_1, c_2])) rfl
    · skip
      refine tg_iconst (v := 1) S dX0_knows_16 (by decide) ?_
      refine tg_goto (tgt := 21) S dX0_knows_17 (by decide) ?_
      exact tg_zret (b := true) S hr hlk dX0_knows_21 (congrArg tg_b (by simp [fa_knows, c_1, c_2])) rfl
set_option maxHeartbeats 4000000 in
set_option maxRecDepth 100000 in
theorem k_X0_contains {l : Launch} {D : va_G} {h : Nat → Nat} {cI cZ : ClassId} (hd : tw_dis 23 h) (σ : tg_Mem) (x : Int32) : tg_CT l yX0_contains wzX0_contains (tg_rm 1) (tw_T h cI cZ) (tw_ty cI cZ) tw_nl (tw_A 23 h) D [.ref (h 2), .int x] σ (some (.int (tg_b (fa_cont σ x)))) σ := by
  refine tg_met (own := RX0) (cc := cX0_contains) (maxL := 2) (ret := (some .boolean)) (by decide +kernel) rfl rfl (Nat.le_of_ble_eq_true rfl) ?_
  intro p e s m below meth c S hK hN hr hlk
  refine tg_sub (L' := [(0, .ref (h 2)), (1, .int x)]) [0, 1] rfl ?_
  refine tg_iload_n S 1 dX0_contains_0 rfl rfl ?_
  refine tg_callSN (nA := 1) (As := [.int x]) (rest := []) (host := RX2) S hK hN (k_X2_isId hd σ x) (tw_gW co_X2_isId rfl) (List.mem_of_getElem? (i := 9) rfl) (tw_in in_RX2 rfl) (tw_in st_X2_isId rfl) rfl (by decide +kernel) ⟨Nat.le_of_ble_eq_true rfl, Nat.le_of_ble_eq_true rfl⟩ rfl rfl (Nat.le_of_ble_eq_true rfl) dX0_contains_1 ⟨Nat.le_of_ble_eq_true rfl, Nat.le_of_ble_eq_true rfl⟩ ?_
  refine tg_ifz (tgt := 20) S dX0_contains_4 (by decide) (fun c_1 => ?_) (fun c_1 => ?_)
  · skip
    refine tg_iconst (v := 0) S dX0_contains_20 (by decide) ?_
    exact tg_zret (b := false) S hr hlk dX0_contains_21 (congrArg tg_b (by simp [fa_cont, c_1])) rfl
  · skip
    refine tg_aload_n S 0 dX0_contains_7 rfl rfl ?_
    refine tg_get (v := .ref (h 15)) S tw_v0 hK 2 rfl rfl 4 (by decide) (tw_in fl_RX0_22 rfl) dX0_contains_8 rfl ?_
    refine tg_iload_n S 1 dX0_contains_11 rfl rfl ?_
    refine tg_zald (v := σ 12 x.toNatClampNeg) S hK 15 1 rfl rfl dX0_contains_12 (fa_id_in c_1) rfl ?_
    refine tg_if_eq (tgt := 20) S dX0_contains_13 (by decide) (fun c_2 => ?_) (fun c_2 => ?_)
    · skip
      refine tg_iconst (v := 0) S dX0_contains_20 (by decide) ?_
      exact tg_zret (b := false) S hr hlk dX0_contains_21 (congrArg tg_b (by simp [fa_cont, c_1, c_2])) rfl
    · skip
      refine tg_iconst (v := 1) S dX0_contains_16 (by decide) ?_
      refine tg_goto (tgt := 21) S dX0_contains_17 (by decide) ?_
      exact tg_zret (b := true) S hr hlk dX0_contains_21 (congrArg tg_b (by simp [fa_cont, c_1, c_2])) rfl
set_option maxHeartbeats 4000000 in
set_option maxRecDepth 100000 in
theorem k_X0_parentIn {l : Launch} {D : va_G} {h : Nat → Nat} {cI cZ : ClassId} (hd : tw_dis 23 h) (σ : tg_Mem) (x : Int32) : tg_CT l yX0_parentIn wzX0_parentIn (tg_rm 2) (tw_T h cI cZ) (tw_ty cI cZ) tw_nl (tw_A 23 h) D [.ref (h 2), .int x] σ (some (.int (fa_par σ x))) σ := by
  refine tg_met (own := RX0) (cc := cX0_parentIn) (maxL := 2) (ret := (some .int)) (by decide +kernel) rfl rfl (Nat.le_of_ble_eq_true rfl) ?_
  intro p e s m below meth c S hK hN hr hlk
  refine tg_sub (L' := [(0, .ref (h 2)), (1, .int x)]) [0, 1] rfl ?_
  refine tg_aload_n S 0 dX0_parentIn_0 rfl rfl ?_
  refine tg_iload_n S 1 dX0_parentIn_1 rfl rfl ?_
  refine tg_callV (nA := 1) (As := [.int x]) (rest := []) (q := (RX0, TX0, 13)) S hK hN (k_X0_contains hd σ x) 2 rfl rfl (tw_gV ml_RX0_54 im_X0_contains se_X0_contains in_RX0 co_X0_contains rfl) rfl (by decide +kernel) ⟨Nat.le_of_ble_eq_true rfl, Nat.le_of_ble_eq_true rfl⟩ rfl rfl (Nat.le_of_ble_eq_true rfl) dX0_parentIn_2 ⟨Nat.le_of_ble_eq_true rfl, Nat.le_of_ble_eq_true rfl⟩ ?_
  refine tg_ifz (tgt := 17) S dX0_parentIn_5 (by decide) (fun c_1 => ?_) (fun c_1 => ?_)
  · skip
    refine tg_iconst (v := -1) S dX0_parentIn_17 (by decide) ?_
    exact tg_iret S hr hlk dX0_parentIn_18 (by simp [fa_par, c_1]) rfl
  · skip
    refine tg_aload_n S 0 dX0_parentIn_8 rfl rfl ?_
    refine tg_get (v := .ref (h 14)) S tw_v0 hK 2 rfl rfl 3 (by decide) (tw_in fl_RX0_19 rfl) dX0_parentIn_9 rfl ?_
    refine tg_iload_n S 1 dX0_parentIn_12 rfl rfl ?_
    refine tg_iald (v := σ 11 x.toNatClampNeg) S hK 14 0 rfl rfl dX0_parentIn_13 (fa_cont_in c_1) rfl ?_
    refine tg_goto (tgt := 18) S dX0_parentIn_14 (by decide) ?_
    exact tg_iret S hr hlk dX0_parentIn_18 (by simp [fa_par, c_1]) rfl
set_option maxHeartbeats 4000000 in
set_option maxRecDepth 100000 in
theorem k_X0_countRoots {l : Launch} {D : va_G} {h : Nat → Nat} {cI cZ : ClassId} (hd : tw_dis 23 h) (σ : tg_Mem)  : tg_CT l yX0_countRoots wzX0_countRoots (tg_rm 0) (tw_T h cI cZ) (tw_ty cI cZ) tw_nl (tw_A 23 h) D [.ref (h 2)] σ (some (.int (σ 20 0))) σ := by
  refine tg_met (own := RX0) (cc := cX0_countRoots) (maxL := 1) (ret := (some .int)) (by decide +kernel) rfl rfl (Nat.le_of_ble_eq_true rfl) ?_
  intro p e s m below meth c S hK hN hr hlk
  refine tg_sub (L' := [(0, .ref (h 2))]) [0] rfl ?_
  refine tg_aload_n S 0 dX0_countRoots_0 rfl rfl ?_
  refine tg_get (v := .int (σ 20 0)) S tw_v0 hK 2 rfl rfl 12 (by decide) (tw_in fl_RX0_57 rfl) dX0_countRoots_1 rfl ?_
  exact tg_iret S hr hlk dX0_countRoots_4 rfl rfl
set_option maxHeartbeats 4000000 in
set_option maxRecDepth 100000 in
theorem k_X0_rootIdAt {l : Launch} {D : va_G} {h : Nat → Nat} {cI cZ : ClassId} (hd : tw_dis 23 h) (σ : tg_Mem) (x : Int32) : tg_CT l yX0_rootIdAt wzX0_rootIdAt (tg_rm 1) (tw_T h cI cZ) (tw_ty cI cZ) tw_nl (tw_A 23 h) D [.ref (h 2), .int x] σ (some (.int (fa_rootAt σ x))) σ := by
  refine tg_met (own := RX0) (cc := cX0_rootIdAt) (maxL := 2) (ret := (some .int)) (by decide +kernel) rfl rfl (Nat.le_of_ble_eq_true rfl) ?_
  intro p e s m below meth c S hK hN hr hlk
  refine tg_sub (L' := [(0, .ref (h 2)), (1, .int x)]) [0, 1] rfl ?_
  refine tg_iload_n S 1 dX0_rootIdAt_0 rfl rfl ?_
  refine tg_callSN (nA := 1) (As := [.int x]) (rest := []) (host := RX2) S hK hN (k_X2_isId hd σ x) (tw_gW co_X2_isId rfl) (List.mem_of_getElem? (i := 9) rfl) (tw_in in_RX2 rfl) (tw_in st_X2_isId rfl) rfl (by decide +kernel) ⟨Nat.le_of_ble_eq_true rfl, Nat.le_of_ble_eq_true rfl⟩ rfl rfl (Nat.le_of_ble_eq_true rfl) dX0_rootIdAt_1 ⟨Nat.le_of_ble_eq_true rfl, Nat.le_of_ble_eq_true rfl⟩ ?_
  refine tg_ifz (tgt := 24) S dX0_rootIdAt_4 (by decide) (fun c_1 => ?_) (fun c_1 => ?_)
  · skip
    refine tg_iconst (v := -1) S dX0_rootIdAt_24 (by decide) ?_
    exact tg_iret S hr hlk dX0_rootIdAt_25 (by simp [fa_rootAt, c_1]) rfl
  · skip
    refine tg_iload_n S 1 dX0_rootIdAt_7 rfl rfl ?_
    refine tg_aload_n S 0 dX0_rootIdAt_8 rfl rfl ?_
    refine tg_get (v := .int (σ 20 0)) S tw_v0 hK 2 rfl rfl 12 (by decide) (tw_in fl_RX0_57 rfl) dX0_rootIdAt_9 rfl ?_
    refine tg_icmp_ge (tgt := 24) S dX0_rootIdAt_12 (by decide) (fun c_2 => ?_) (fun c_2 => ?_)
    · skip
      refine tg_iconst (v := -1) S dX0_rootIdAt_24 (by decide) ?_
      exact tg_iret S hr hlk dX0_rootIdAt_25 (by simp [fa_rootAt, c_1, c_2]) rfl
    · skip
      refine tg_aload_n S 0 dX0_rootIdAt_15 rfl rfl ?_
      refine tg_get (v := .ref (h 22)) S tw_v0 hK 2 rfl rfl 11 (by decide) (tw_in fl_RX0_43 rfl) dX0_rootIdAt_16 rfl ?_
      refine tg_iload_n S 1 dX0_rootIdAt_19 rfl rfl ?_
      refine tg_iald (v := σ 19 x.toNatClampNeg) S hK 22 0 rfl rfl dX0_rootIdAt_20 (fa_id_in c_1) rfl ?_
      refine tg_goto (tgt := 25) S dX0_rootIdAt_21 (by decide) ?_
      exact tg_iret S hr hlk dX0_rootIdAt_25 (by simp [fa_rootAt, c_1, c_2]) rfl
set_option maxHeartbeats 4000000 in
set_option maxRecDepth 100000 in
theorem k_X0_countChildren {l : Launch} {D : va_G} {h : Nat → Nat} {cI cZ : ClassId} (hd : tw_dis 23 h) (σ : tg_Mem) (x : Int32) : tg_CT l yX0_countChildren wzX0_countChildren (tg_rm 0) (tw_T h cI cZ) (tw_ty cI cZ) tw_nl (tw_A 23 h) D [.ref (h 2), .int x] σ (some (.int (fa_nch σ x))) σ := by
  refine tg_met (own := RX0) (cc := cX0_countChildren) (maxL := 4) (ret := (some .int)) (by decide +kernel) rfl rfl (Nat.le_of_ble_eq_true rfl) ?_
  intro p e s m below meth c S hK hN hr hlk
  refine tg_sub (L' := [(0, .ref (h 2)), (1, .int x)]) [0, 1] rfl ?_
  refine tg_iconst (v := 0) S dX0_countChildren_0 (by decide) ?_
  refine tg_istore_n (L' := [(0, .ref (h 2)), (1, .int x), (2, .int 0)]) [1, 2, 0] S dX0_countChildren_1 rfl (by decide) rfl ?_
  refine tg_iconst (v := nI 0) S dX0_countChildren_2 (by decide) ?_
  refine tg_istore_n (L' := [(0, .ref (h 2)), (1, .int x), (2, .int 0), (3, .int (nI 0))]) [1, 2, 3, 0] S dX0_countChildren_3 rfl (by decide) rfl ?_
  refine tg_loop (X := Int32) (fa_nchS σ x) 30 0 (fun b => σ) (fun i b => [(0, .ref (h 2)), (1, .int x), (2, .int b), (3, .int (nI i))]) ?_ ?_
  · skip
    intro i b hi_i hk_i
    refine tg_iload_n S 3 dX0_countChildren_4 rfl rfl ?_
    refine tg_bipush (v := 30) S dX0_countChildren_5 (by decide) ?_
    refine tg_icmp_ge (tgt := 29) S dX0_countChildren_7 (by decide) (fun c => absurd c (tg_nge hi_i)) (fun _ => ?_)
    refine tg_aload_n S 0 dX0_countChildren_10 rfl rfl ?_
    refine tg_get (v := .ref (h 14)) S tw_v0 hK 2 rfl rfl 3 (by decide) (tw_in fl_RX0_19 rfl) dX0_countChildren_11 rfl ?_
    refine tg_iload_n S 3 dX0_countChildren_14 rfl rfl ?_
    refine tg_iald (v := σ 11 i) S hK 14 0 rfl rfl dX0_countChildren_15 (tg_in hi_i (by decide)) (congrArg ((σ 11)) (tg_cl (Nat.lt_trans hi_i (by decide)))) ?_
    refine tg_iload_n S 1 dX0_countChildren_16 rfl rfl ?_
    refine tg_icmp_ne (tgt := 23) S dX0_countChildren_17 (by decide) (fun c_1 => ?_) (fun c_1 => ?_)
    · skip
      refine tg_iinc (v := nI (i + 1)) (L' := [(0, .ref (h 2)), (1, .int x), (2, .int b), (3, .int (nI (i + 1)))]) [1, 2, 3, 0] S 3 dX0_countChildren_23 rfl (tg_inc _) (by decide) rfl ?_
      refine tg_goto (tgt := 4) S dX0_countChildren_26 (by decide) ?_
      have e_1 : fa_nchS σ x i b = b := (by first | (simp [fa_nchS, c_1]; done) | (simp only [fa_nchS, if_neg c_1]; done))
      rw [e_1] at hk_i
      exact hk_i
    · skip
      refine tg_iinc (v := b + 1) (L' := [(0, .ref (h 2)), (1, .int x), (2, .int (b + 1)), (3, .int (nI i))]) [1, 2, 0, 3] S 2 dX0_countChildren_20 rfl rfl (by decide) rfl ?_
      refine tg_iinc (v := nI (i + 1)) (L' := [(0, .ref (h 2)), (1, .int x), (2, .int (b + 1)), (3, .int (nI (i + 1)))]) [1, 2, 3, 0] S 3 dX0_countChildren_23 rfl (tg_inc _) (by decide) rfl ?_
      refine tg_goto (tgt := 4) S dX0_countChildren_26 (by decide) ?_
      have e_2 : fa_nchS σ x i b = b + 1 := (by first | (simp [fa_nchS, c_1]; done) | (simp only [fa_nchS, if_pos c_1]; done))
      rw [e_2] at hk_i
      exact hk_i
  · skip
    refine tg_iload_n S 3 dX0_countChildren_4 rfl rfl ?_
    refine tg_bipush (v := 30) S dX0_countChildren_5 (by decide) ?_
    refine tg_icmp_ge (tgt := 29) S dX0_countChildren_7 (by decide) (fun _ => ?_) (fun c => absurd tg_ge c)
    refine tg_iload_n S 2 dX0_countChildren_29 rfl rfl ?_
    exact tg_iret S hr hlk dX0_countChildren_30 (by simp [fa_nch]) rfl
set_option maxHeartbeats 4000000 in
set_option maxRecDepth 100000 in
theorem k_X0_idAt {l : Launch} {D : va_G} {h : Nat → Nat} {cI cZ : ClassId} (hd : tw_dis 23 h) (σ : tg_Mem) (x : Int32) (y : Int32) : tg_CT l yX0_idAt wzX0_idAt (tg_rm 2) (tw_T h cI cZ) (tw_ty cI cZ) tw_nl (tw_A 23 h) D [.ref (h 2), .int x, .int y] σ (some (.int (fa_idAt σ x y))) σ := by
  refine tg_met (own := RX0) (cc := cX0_idAt) (maxL := 4) (ret := (some .int)) (by decide +kernel) rfl rfl (Nat.le_of_ble_eq_true rfl) ?_
  intro p e s m below meth c S hK hN hr hlk
  refine tg_sub (L' := [(0, .ref (h 2)), (1, .int x), (2, .int y)]) [0, 1, 2] rfl ?_
  refine tg_aload_n S 0 dX0_idAt_0 rfl rfl ?_
  refine tg_iload_n S 1 dX0_idAt_1 rfl rfl ?_
  refine tg_callV (nA := 1) (As := [.int x]) (rest := []) (q := (RX0, TX0, 13)) S hK hN (k_X0_contains hd σ x) 2 rfl rfl (tw_gV ml_RX0_54 im_X0_contains se_X0_contains in_RX0 co_X0_contains rfl) rfl (by decide +kernel) ⟨Nat.le_of_ble_eq_true rfl, Nat.le_of_ble_eq_true rfl⟩ rfl rfl (Nat.le_of_ble_eq_true rfl) dX0_idAt_2 ⟨Nat.le_of_ble_eq_true rfl, Nat.le_of_ble_eq_true rfl⟩ ?_
  refine tg_ifz (tgt := 22) S dX0_idAt_5 (by decide) (fun c_1 => ?_) (fun c_1 => ?_)
  · skip
    refine tg_iconst (v := -1) S dX0_idAt_22 (by decide) ?_
    exact tg_iret S hr hlk dX0_idAt_23 (by simp [fa_idAt, c_1]) rfl
  · skip
    refine tg_iload_n S 2 dX0_idAt_8 rfl rfl ?_
    refine tg_if_lt (tgt := 22) S dX0_idAt_9 (by decide) (fun c_2 => ?_) (fun c_2 => ?_)
    · skip
      refine tg_iconst (v := -1) S dX0_idAt_22 (by decide) ?_
      exact tg_iret S hr hlk dX0_idAt_23 (by simp [fa_idAt, c_1, c_2]) rfl
    · skip
      refine tg_iload_n S 2 dX0_idAt_12 rfl rfl ?_
      refine tg_aload_n S 0 dX0_idAt_13 rfl rfl ?_
      refine tg_get (v := .ref (h 18)) S tw_v0 hK 2 rfl rfl 7 (by decide) (tw_in fl_RX0_31 rfl) dX0_idAt_14 rfl ?_
      refine tg_iload_n S 1 dX0_idAt_17 rfl rfl ?_
      refine tg_iald (v := σ 15 x.toNatClampNeg) S hK 18 0 rfl rfl dX0_idAt_18 (fa_cont_in c_1) rfl ?_
      refine tg_icmp_lt (tgt := 24) S dX0_idAt_19 (by decide) (fun c_3 => ?_) (fun c_3 => ?_)
      · skip
        refine tg_aload_n S 0 dX0_idAt_24 rfl rfl ?_
        refine tg_get (v := .ref (h 20)) S tw_v0 hK 2 rfl rfl 9 (by decide) (tw_in fl_RX0_37 rfl) dX0_idAt_25 rfl ?_
        refine tg_iload_n S 1 dX0_idAt_28 rfl rfl ?_
        refine tg_iald (v := σ 17 x.toNatClampNeg) S hK 20 0 rfl rfl dX0_idAt_29 (fa_cont_in c_1) rfl ?_
        refine tg_iload_n S 2 dX0_idAt_30 rfl rfl ?_
        refine tg_iadd S dX0_idAt_31 ?_
        refine tg_istore_n (L' := [(0, .ref (h 2)), (1, .int x), (2, .int y), (3, .int ((σ 17 x.toNatClampNeg) + y))]) [1, 2, 3, 0] S dX0_idAt_32 rfl (by decide) rfl ?_
        refine tg_iload_n S 3 dX0_idAt_33 rfl rfl ?_
        refine tg_callSN (nA := 1) (As := [.int ((σ 17 x.toNatClampNeg) + y)]) (rest := []) (host := RX2) S hK hN (k_X2_isId hd σ ((σ 17 x.toNatClampNeg) + y)) (tw_gW co_X2_isId rfl) (List.mem_of_getElem? (i := 9) rfl) (tw_in in_RX2 rfl) (tw_in st_X2_isId rfl) rfl (by decide +kernel) ⟨Nat.le_of_ble_eq_true rfl, Nat.le_of_ble_eq_true rfl⟩ rfl rfl (Nat.le_of_ble_eq_true rfl) dX0_idAt_34 ⟨Nat.le_of_ble_eq_true rfl, Nat.le_of_ble_eq_true rfl⟩ ?_
        refine tg_ifz (tgt := 49) S dX0_idAt_37 (by decide) (fun c_4 => ?_) (fun c_4 => ?_)
        · skip
          refine tg_iconst (v := -1) S dX0_idAt_49 (by decide) ?_
          exact tg_iret S hr hlk dX0_idAt_50 (by simp [fa_idAt, c_1, c_2, c_3, c_4]) rfl
        · skip
          refine tg_aload_n S 0 dX0_idAt_40 rfl rfl ?_
          refine tg_get (v := .ref (h 21)) S tw_v0 hK 2 rfl rfl 10 (by decide) (tw_in fl_RX0_40 rfl) dX0_idAt_41 rfl ?_
          refine tg_iload_n S 3 dX0_idAt_44 rfl rfl ?_
          refine tg_iald (v := σ 18 ((σ 17 x.toNatClampNeg) + y).toNatClampNeg) S hK 21 0 rfl rfl dX0_idAt_45 (fa_id_in c_4) rfl ?_
          refine tg_goto (tgt := 50) S dX0_idAt_46 (by decide) ?_
          exact tg_iret S hr hlk dX0_idAt_50 (by simp [fa_idAt, c_1, c_2, c_3, c_4]) rfl
      · skip
        refine tg_iconst (v := -1) S dX0_idAt_22 (by decide) ?_
        exact tg_iret S hr hlk dX0_idAt_23 (by simp [fa_idAt, c_1, c_2, c_3]) rfl
set_option maxHeartbeats 4000000 in
set_option maxRecDepth 100000 in
theorem k_X0_isInTree {l : Launch} {D : va_G} {h : Nat → Nat} {cI cZ : ClassId} (hd : tw_dis 23 h) (σ : tg_Mem) (x : Int32) (y : Int32) : tg_CT l yX0_isInTree wzX0_isInTree (tg_rm 3) (tw_T h cI cZ) (tw_ty cI cZ) tw_nl (tw_A 23 h) D [.ref (h 2), .int x, .int y] σ (some (.int (tg_b (fa_inT σ x y)))) σ := by
  refine tg_met (own := RX0) (cc := cX0_isInTree) (maxL := 5) (ret := (some .boolean)) (by decide +kernel) rfl rfl (Nat.le_of_ble_eq_true rfl) ?_
  intro p e s m below meth c S hK hN hr hlk
  obtain ⟨v0, hv0⟩ : ∃ v, fa_inT σ x y = v := ⟨_, rfl⟩
  rw [hv0]
  refine tg_sub (L' := [(0, .ref (h 2)), (1, .int x), (2, .int y)]) [0, 1, 2] rfl ?_
  refine tg_iload_n S 1 dX0_isInTree_0 rfl rfl ?_
  refine tg_istore_n (L' := [(0, .ref (h 2)), (1, .int x), (2, .int y), (3, .int x)]) [1, 2, 3, 0] S dX0_isInTree_1 rfl (by decide) rfl ?_
  refine tg_iconst (v := nI 0) S dX0_isInTree_2 (by decide) ?_
  refine tg_istore (L' := [(0, .ref (h 2)), (1, .int x), (2, .int y), (3, .int x), (4, .int (nI 0))]) [1, 2, 3, 4, 0] S dX0_isInTree_3 (by decide) rfl ?_
  refine tg_fuel (X := Int32) (fa_inF σ y) 30 x (fun a => σ) (fun i a => [(0, .ref (h 2)), (1, .int x), (2, .int y), (3, .int a), (4, .int (nI i))]) hv0 ?_ ?_
  · skip
    intro n1 i a hn_i hF_i hk_i
    have hi_i : i < 30 := by omega
    refine tg_iload_n S 3 dX0_isInTree_5 rfl rfl ?_
    refine tg_callSN (nA := 1) (As := [.int a]) (rest := []) (host := RX2) S hK hN (k_X2_isId hd σ a) (tw_gW co_X2_isId rfl) (List.mem_of_getElem? (i := 9) rfl) (tw_in in_RX2 rfl) (tw_in st_X2_isId rfl) rfl (by decide +kernel) ⟨Nat.le_of_ble_eq_true rfl, Nat.le_of_ble_eq_true rfl⟩ rfl rfl (Nat.le_of_ble_eq_true rfl) dX0_isInTree_6 ⟨Nat.le_of_ble_eq_true rfl, Nat.le_of_ble_eq_true rfl⟩ ?_
    refine tg_ifz (tgt := 38) S dX0_isInTree_9 (by decide) (fun c_1 => ?_) (fun c_1 => ?_)
    · skip
      refine tg_iconst (v := 0) S dX0_isInTree_38 (by decide) ?_
      exact tg_zret (b := false) S hr hlk dX0_isInTree_39 (congrArg tg_b (((by first | (simp [fa_inF, c_1]; done) | (simp only [fa_inF, if_neg (ne_true_of_eq_false c_1)]; done)) : false = fa_inF σ y (n1 + 1) i a).trans hF_i)) rfl
    · skip
      refine tg_iload S 4 dX0_isInTree_12 rfl ?_
      refine tg_bipush (v := 30) S dX0_isInTree_14 (by decide) ?_
      refine tg_icmp_ge (tgt := 38) S dX0_isInTree_16 (by decide) (fun c => absurd c (tg_nge hi_i)) (fun _ => ?_)
      refine tg_iload_n S 3 dX0_isInTree_19 rfl rfl ?_
      refine tg_iload_n S 2 dX0_isInTree_20 rfl rfl ?_
      refine tg_icmp_ne (tgt := 26) S dX0_isInTree_21 (by decide) (fun c_2 => ?_) (fun c_2 => ?_)
      · skip
        refine tg_aload_n S 0 dX0_isInTree_26 rfl rfl ?_
        refine tg_iload_n S 3 dX0_isInTree_27 rfl rfl ?_
        refine tg_callV (nA := 1) (As := [.int a]) (rest := []) (q := (RX0, TX0, 13)) S hK hN (k_X0_parentIn hd σ a) 2 rfl rfl (tw_gV ml_RX0_61 im_X0_parentIn se_X0_parentIn in_RX0 co_X0_parentIn rfl) rfl (by decide +kernel) ⟨Nat.le_of_ble_eq_true rfl, Nat.le_of_ble_eq_true rfl⟩ rfl rfl (Nat.le_of_ble_eq_true rfl) dX0_isInTree_28 ⟨Nat.le_of_ble_eq_true rfl, Nat.le_of_ble_eq_true rfl⟩ ?_
        refine tg_istore_n (L' := [(0, .ref (h 2)), (1, .int x), (2, .int y), (3, .int (fa_par σ a)), (4, .int (nI i))]) [1, 2, 3, 0, 4] S dX0_isInTree_31 rfl (by decide) rfl ?_
        refine tg_iinc (v := nI (i + 1)) (L' := [(0, .ref (h 2)), (1, .int x), (2, .int y), (3, .int (fa_par σ a)), (4, .int (nI (i + 1)))]) [1, 2, 3, 4, 0] S 4 dX0_isInTree_32 rfl (tg_inc _) (by decide) rfl ?_
        refine tg_goto (tgt := 5) S dX0_isInTree_35 (by decide) ?_
        exact hk_i (fa_par σ a) (((by first | (simp [fa_inF, c_1, c_2]; done) | (simp only [fa_inF, if_pos c_1, if_neg c_2]; done)) : fa_inF σ y n1 (i + 1) (fa_par σ a) = fa_inF σ y (n1 + 1) i a).trans hF_i)
      · skip
        refine tg_iconst (v := 1) S dX0_isInTree_24 (by decide) ?_
        exact tg_zret (b := true) S hr hlk dX0_isInTree_25 (congrArg tg_b (((by first | (simp [fa_inF, c_1, c_2]; done) | (simp only [fa_inF, if_pos c_1, if_pos c_2]; done)) : true = fa_inF σ y (n1 + 1) i a).trans hF_i)) rfl
  · skip
    intro a hF_i
    refine tg_iload_n S 3 dX0_isInTree_5 rfl rfl ?_
    refine tg_callSN (nA := 1) (As := [.int a]) (rest := []) (host := RX2) S hK hN (k_X2_isId hd σ a) (tw_gW co_X2_isId rfl) (List.mem_of_getElem? (i := 9) rfl) (tw_in in_RX2 rfl) (tw_in st_X2_isId rfl) rfl (by decide +kernel) ⟨Nat.le_of_ble_eq_true rfl, Nat.le_of_ble_eq_true rfl⟩ rfl rfl (Nat.le_of_ble_eq_true rfl) dX0_isInTree_6 ⟨Nat.le_of_ble_eq_true rfl, Nat.le_of_ble_eq_true rfl⟩ ?_
    refine tg_ifz (tgt := 38) S dX0_isInTree_9 (by decide) (fun c_3 => ?_) (fun c_3 => ?_)
    · skip
      refine tg_iconst (v := 0) S dX0_isInTree_38 (by decide) ?_
      exact tg_zret (b := false) S hr hlk dX0_isInTree_39 (congrArg tg_b (((by first | (simp [fa_inF, c_3]; done) | (simp only [fa_inF, if_neg (ne_true_of_eq_false c_3)]; done)) : false = fa_inF σ y 0 30 a).trans hF_i)) rfl
    · skip
      refine tg_iload S 4 dX0_isInTree_12 rfl ?_
      refine tg_bipush (v := 30) S dX0_isInTree_14 (by decide) ?_
      refine tg_icmp_ge (tgt := 38) S dX0_isInTree_16 (by decide) (fun _ => ?_) (fun c => absurd tg_ge c)
      refine tg_iconst (v := 0) S dX0_isInTree_38 (by decide) ?_
      exact tg_zret (b := false) S hr hlk dX0_isInTree_39 (congrArg tg_b (((by first | (simp [fa_inF, c_3]; done) | (simp only [fa_inF, if_pos c_3]; done)) : false = fa_inF σ y 0 30 a).trans hF_i)) rfl
set_option maxHeartbeats 4000000 in
set_option maxRecDepth 100000 in
theorem k_X0_learn {l : Launch} {D : va_G} {h : Nat → Nat} {cI cZ : ClassId} (hd : tw_dis 23 h) (σ : tg_Mem) (x : Int32) : tg_CT l yX0_learn wzX0_learn (tg_rm 1) (tw_T h cI cZ) (tw_ty cI cZ) tw_nl (tw_A 23 h) D [.ref (h 2), .int x] σ none (fa_learn σ x) := by
  refine tg_met (own := RX0) (cc := cX0_learn) (maxL := 2) (ret := none) (by decide +kernel) rfl rfl (Nat.le_of_ble_eq_true rfl) ?_
  intro p e s m below meth c S hK hN hr hlk
  refine tg_sub (L' := [(0, .ref (h 2)), (1, .int x)]) [0, 1] rfl ?_
  refine tg_iload_n S 1 dX0_learn_0 rfl rfl ?_
  refine tg_callSN (nA := 1) (As := [.int x]) (rest := []) (host := RX2) S hK hN (k_X2_isId hd σ x) (tw_gW co_X2_isId rfl) (List.mem_of_getElem? (i := 9) rfl) (tw_in in_RX2 rfl) (tw_in st_X2_isId rfl) rfl (by decide +kernel) ⟨Nat.le_of_ble_eq_true rfl, Nat.le_of_ble_eq_true rfl⟩ rfl rfl (Nat.le_of_ble_eq_true rfl) dX0_learn_1 ⟨Nat.le_of_ble_eq_true rfl, Nat.le_of_ble_eq_true rfl⟩ ?_
  refine tg_ifz (tgt := 14) S dX0_learn_4 (by decide) (fun c_1 => ?_) (fun c_1 => ?_)
  · skip
    exact tg_vret S hr hlk dX0_learn_14 (by simp [fa_learn, c_1])
  · skip
    refine tg_aload_n S 0 dX0_learn_7 rfl rfl ?_
    refine tg_get (v := .ref (h 12)) S tw_v0 hK 2 rfl rfl 1 (by decide) (tw_in fl_RX0_9 rfl) dX0_learn_8 rfl ?_
    refine tg_iload_n S 1 dX0_learn_11 rfl rfl ?_
    refine tg_iconst (v := 1) S dX0_learn_12 (by decide) ?_
    refine tg_zast (b := true) (σ2 := tg_set σ 9 x.toNatClampNeg 1) S hK (tw_TD hd) 12 1 rfl rfl dX0_learn_13 (fa_id_in c_1) rfl ?_
    exact tg_vret S hr hlk dX0_learn_14 (by simp [fa_learn, c_1])
set_option maxHeartbeats 4000000 in
set_option maxRecDepth 100000 in
theorem k_X0_findKnown {l : Launch} {D : va_G} {h : Nat → Nat} {cI cZ : ClassId} (hd : tw_dis 23 h) (σ : tg_Mem)  : tg_CT l yX0_findKnown wzX0_findKnown (tg_rm 2) (tw_T h cI cZ) (tw_ty cI cZ) tw_nl (tw_A 23 h) D [.ref (h 2)] σ none (fa_findKnown σ) := by
  refine tg_met (own := RX0) (cc := cX0_findKnown) (maxL := 2) (ret := none) (by decide +kernel) rfl rfl (Nat.le_of_ble_eq_true rfl) ?_
  intro p e s m below meth c S hK hN hr hlk
  refine tg_sub (L' := [(0, .ref (h 2))]) [0] rfl ?_
  refine tg_iconst (v := nI 0) S dX0_findKnown_0 (by decide) ?_
  refine tg_istore_n (L' := [(0, .ref (h 2)), (1, .int (nI 0))]) [1, 0] S dX0_findKnown_1 rfl (by decide) rfl ?_
  refine tg_loop (X := tg_Mem) fa_fk1 30 σ (fun τ => τ) (fun i τ => [(0, .ref (h 2)), (1, .int (nI i))]) ?_ ?_
  · skip
    intro i τ hi_i hk_i
    refine tg_iload_n S 1 dX0_findKnown_2 rfl rfl ?_
    refine tg_bipush (v := 30) S dX0_findKnown_3 (by decide) ?_
    refine tg_icmp_ge (tgt := 28) S dX0_findKnown_5 (by decide) (fun c => absurd c (tg_nge hi_i)) (fun _ => ?_)
    refine tg_aload_n S 0 dX0_findKnown_8 rfl rfl ?_
    refine tg_get (v := .ref (h 12)) S tw_v0 hK 2 rfl rfl 1 (by decide) (tw_in fl_RX0_9 rfl) dX0_findKnown_9 rfl ?_
    refine tg_iload_n S 1 dX0_findKnown_12 rfl rfl ?_
    refine tg_aload_n S 0 dX0_findKnown_13 rfl rfl ?_
    refine tg_get (v := .ref (h 1)) S tw_v0 hK 2 rfl rfl 0 (by decide) (tw_in fl_RX0_46 rfl) dX0_findKnown_14 rfl ?_
    refine tg_iload_n S 1 dX0_findKnown_17 rfl rfl ?_
    refine tg_callN (nA := 1) (As := [.int (nI i)]) (rest := [.int (nI i), .ref (h 12)]) (host := RX2) (q := (RX1, TX1, 9)) S hK hN (k_X1_holds hd τ (nI i)) 1 rfl rfl (tw_gW co_X1_holds rfl) (List.mem_of_getElem? (i := 7) rfl) (tw_in in_RX1 rfl) (tw_in im_X1_holds rfl) (tw_in se_X1_holds rfl) rfl (by decide +kernel) ⟨Nat.le_of_ble_eq_true rfl, Nat.le_of_ble_eq_true rfl⟩ rfl rfl (Nat.le_of_ble_eq_true rfl) dX0_findKnown_18 ⟨Nat.le_of_ble_eq_true rfl, Nat.le_of_ble_eq_true rfl⟩ ?_
    refine tg_zast (b := fa_holds τ (nI i)) (σ2 := tg_set τ 9 i (tg_b (fa_holds τ (nI i)))) S hK (tw_TD hd) 12 1 rfl rfl dX0_findKnown_21 (tg_in hi_i (by decide)) (by rw [tg_cl (Nat.lt_trans hi_i (by decide))]; rfl) ?_
    refine tg_iinc (v := nI (i + 1)) (L' := [(0, .ref (h 2)), (1, .int (nI (i + 1)))]) [1, 0] S 1 dX0_findKnown_22 rfl (tg_inc _) (by decide) rfl ?_
    refine tg_goto (tgt := 2) S dX0_findKnown_25 (by decide) ?_
    have e_1 : fa_fk1 i τ = tg_set τ 9 i (tg_b (fa_holds τ (nI i))) := (by first | (simp [fa_fk1]; done))
    rw [e_1] at hk_i
    exact hk_i
  · skip
    refine tg_iload_n S 1 dX0_findKnown_2 rfl rfl ?_
    refine tg_bipush (v := 30) S dX0_findKnown_3 (by decide) ?_
    refine tg_icmp_ge (tgt := 28) S dX0_findKnown_5 (by decide) (fun _ => ?_) (fun c => absurd tg_ge c)
    refine tg_iconst (v := nI 0) S dX0_findKnown_28 (by decide) ?_
    refine tg_istore_n (L' := [(0, .ref (h 2)), (1, .int (nI 0))]) [1, 0] S dX0_findKnown_29 rfl (by decide) rfl ?_
    refine tg_loop (X := tg_Mem) fa_fk2 30 (tg_it fa_fk1 σ 30) (fun τ => τ) (fun i τ => [(0, .ref (h 2)), (1, .int (nI i))]) ?_ ?_
    · skip
      intro i τ hi_i hk_i
      refine tg_iload_n S 1 dX0_findKnown_30 rfl rfl ?_
      refine tg_bipush (v := 30) S dX0_findKnown_31 (by decide) ?_
      refine tg_icmp_ge (tgt := 78) S dX0_findKnown_33 (by decide) (fun c => absurd c (tg_nge hi_i)) (fun _ => ?_)
      refine tg_aload_n S 0 dX0_findKnown_36 rfl rfl ?_
      refine tg_aload_n S 0 dX0_findKnown_37 rfl rfl ?_
      refine tg_get (v := .ref (h 1)) S tw_v0 hK 2 rfl rfl 0 (by decide) (tw_in fl_RX0_46 rfl) dX0_findKnown_38 rfl ?_
      refine tg_iload_n S 1 dX0_findKnown_41 rfl rfl ?_
      refine tg_callN (nA := 1) (As := [.int (nI i)]) (rest := [.ref (h 2)]) (host := RX2) (q := (RX1, TX1, 9)) S hK hN (k_X1_parentToldBy hd τ (nI i)) 1 rfl rfl (tw_gW co_X1_parentToldBy rfl) (List.mem_of_getElem? (i := 8) rfl) (tw_in in_RX1 rfl) (tw_in im_X1_parentToldBy rfl) (tw_in se_X1_parentToldBy rfl) rfl (by decide +kernel) ⟨Nat.le_of_ble_eq_true rfl, Nat.le_of_ble_eq_true rfl⟩ rfl rfl (Nat.le_of_ble_eq_true rfl) dX0_findKnown_42 ⟨Nat.le_of_ble_eq_true rfl, Nat.le_of_ble_eq_true rfl⟩ ?_
      refine tg_callV (nA := 1) (As := [.int (fa_pTold τ (nI i))]) (rest := []) (q := (RX0, TX0, 13)) S hK hN (k_X0_learn hd τ (fa_pTold τ (nI i))) 2 rfl rfl (tw_gV ml_RX0_97 im_X0_learn se_X0_learn in_RX0 co_X0_learn rfl) rfl (by decide +kernel) ⟨Nat.le_of_ble_eq_true rfl, Nat.le_of_ble_eq_true rfl⟩ rfl rfl (Nat.le_of_ble_eq_true rfl) dX0_findKnown_45 ⟨Nat.le_of_ble_eq_true rfl, Nat.le_of_ble_eq_true rfl⟩ ?_
      refine tg_aload_n S 0 dX0_findKnown_48 rfl rfl ?_
      refine tg_aload_n S 0 dX0_findKnown_49 rfl rfl ?_
      refine tg_get (v := .ref (h 1)) S tw_v0 hK 2 rfl rfl 0 (by decide) (tw_in fl_RX0_46 rfl) dX0_findKnown_50 rfl ?_
      refine tg_iload_n S 1 dX0_findKnown_53 rfl rfl ?_
      refine tg_callN (nA := 1) (As := [.int (nI i)]) (rest := [.ref (h 2)]) (host := RX2) (q := (RX1, TX1, 9)) S hK hN (k_X1_grandparentToldBy hd (fa_learn τ (fa_pTold τ (nI i))) (nI i)) 1 rfl rfl (tw_gW co_X1_grandparentToldBy rfl) (List.mem_of_getElem? (i := 10) rfl) (tw_in in_RX1 rfl) (tw_in im_X1_grandparentToldBy rfl) (tw_in se_X1_grandparentToldBy rfl) rfl (by decide +kernel) ⟨Nat.le_of_ble_eq_true rfl, Nat.le_of_ble_eq_true rfl⟩ rfl rfl (Nat.le_of_ble_eq_true rfl) dX0_findKnown_54 ⟨Nat.le_of_ble_eq_true rfl, Nat.le_of_ble_eq_true rfl⟩ ?_
      refine tg_callV (nA := 1) (As := [.int (fa_gTold (fa_learn τ (fa_pTold τ (nI i))) (nI i))]) (rest := []) (q := (RX0, TX0, 13)) S hK hN (k_X0_learn hd (fa_learn τ (fa_pTold τ (nI i))) (fa_gTold (fa_learn τ (fa_pTold τ (nI i))) (nI i))) 2 rfl rfl (tw_gV ml_RX0_97 im_X0_learn se_X0_learn in_RX0 co_X0_learn rfl) rfl (by decide +kernel) ⟨Nat.le_of_ble_eq_true rfl, Nat.le_of_ble_eq_true rfl⟩ rfl rfl (Nat.le_of_ble_eq_true rfl) dX0_findKnown_57 ⟨Nat.le_of_ble_eq_true rfl, Nat.le_of_ble_eq_true rfl⟩ ?_
      refine tg_aload_n S 0 dX0_findKnown_60 rfl rfl ?_
      refine tg_aload_n S 0 dX0_findKnown_61 rfl rfl ?_
      refine tg_get (v := .ref (h 1)) S tw_v0 hK 2 rfl rfl 0 (by decide) (tw_in fl_RX0_46 rfl) dX0_findKnown_62 rfl ?_
      refine tg_iload_n S 1 dX0_findKnown_65 rfl rfl ?_
      refine tg_callN (nA := 1) (As := [.int (nI i)]) (rest := [.ref (h 2)]) (host := RX2) (q := (RX1, TX1, 9)) S hK hN (k_X1_handOf hd (fa_learn (fa_learn τ (fa_pTold τ (nI i))) (fa_gTold (fa_learn τ (fa_pTold τ (nI i))) (nI i))) (nI i)) 1 rfl rfl (tw_gW co_X1_handOf rfl) (List.mem_of_getElem? (i := 11) rfl) (tw_in in_RX1 rfl) (tw_in im_X1_handOf rfl) (tw_in se_X1_handOf rfl) rfl (by decide +kernel) ⟨Nat.le_of_ble_eq_true rfl, Nat.le_of_ble_eq_true rfl⟩ rfl rfl (Nat.le_of_ble_eq_true rfl) dX0_findKnown_66 ⟨Nat.le_of_ble_eq_true rfl, Nat.le_of_ble_eq_true rfl⟩ ?_
      refine tg_callV (nA := 1) (As := [.int (fa_handOf (fa_learn (fa_learn τ (fa_pTold τ (nI i))) (fa_gTold (fa_learn τ (fa_pTold τ (nI i))) (nI i))) (nI i))]) (rest := []) (q := (RX0, TX0, 13)) S hK hN (k_X0_learn hd (fa_learn (fa_learn τ (fa_pTold τ (nI i))) (fa_gTold (fa_learn τ (fa_pTold τ (nI i))) (nI i))) (fa_handOf (fa_learn (fa_learn τ (fa_pTold τ (nI i))) (fa_gTold (fa_learn τ (fa_pTold τ (nI i))) (nI i))) (nI i))) 2 rfl rfl (tw_gV ml_RX0_97 im_X0_learn se_X0_learn in_RX0 co_X0_learn rfl) rfl (by decide +kernel) ⟨Nat.le_of_ble_eq_true rfl, Nat.le_of_ble_eq_true rfl⟩ rfl rfl (Nat.le_of_ble_eq_true rfl) dX0_findKnown_69 ⟨Nat.le_of_ble_eq_true rfl, Nat.le_of_ble_eq_true rfl⟩ ?_
      refine tg_iinc (v := nI (i + 1)) (L' := [(0, .ref (h 2)), (1, .int (nI (i + 1)))]) [1, 0] S 1 dX0_findKnown_72 rfl (tg_inc _) (by decide) rfl ?_
      refine tg_goto (tgt := 30) S dX0_findKnown_75 (by decide) ?_
      have e_2 : fa_fk2 i τ = fa_learn (fa_learn (fa_learn τ (fa_pTold τ (nI i))) (fa_gTold (fa_learn τ (fa_pTold τ (nI i))) (nI i))) (fa_handOf (fa_learn (fa_learn τ (fa_pTold τ (nI i))) (fa_gTold (fa_learn τ (fa_pTold τ (nI i))) (nI i))) (nI i)) := (by first | (simp [fa_fk2]; done))
      rw [e_2] at hk_i
      exact hk_i
    · skip
      refine tg_iload_n S 1 dX0_findKnown_30 rfl rfl ?_
      refine tg_bipush (v := 30) S dX0_findKnown_31 (by decide) ?_
      refine tg_icmp_ge (tgt := 78) S dX0_findKnown_33 (by decide) (fun _ => ?_) (fun c => absurd tg_ge c)
      exact tg_vret S hr hlk dX0_findKnown_78 (by simp [fa_findKnown])
set_option maxHeartbeats 4000000 in
set_option maxRecDepth 100000 in
theorem k_X0_linksLead {l : Launch} {D : va_G} {h : Nat → Nat} {cI cZ : ClassId} (hd : tw_dis 23 h) (σ : tg_Mem) (x : Int32) (y : Int32) : tg_CT l yX0_linksLead wzX0_linksLead (tg_rm 1) (tw_T h cI cZ) (tw_ty cI cZ) tw_nl (tw_A 23 h) D [.ref (h 2), .int x, .int y] σ (some (.int (tg_b (fa_lead σ x y)))) σ := by
  refine tg_met (own := RX0) (cc := cX0_linksLead) (maxL := 5) (ret := (some .boolean)) (by decide +kernel) rfl rfl (Nat.le_of_ble_eq_true rfl) ?_
  intro p e s m below meth c S hK hN hr hlk
  obtain ⟨v0, hv0⟩ : ∃ v, fa_lead σ x y = v := ⟨_, rfl⟩
  rw [hv0]
  refine tg_sub (L' := [(0, .ref (h 2)), (1, .int x), (2, .int y)]) [0, 1, 2] rfl ?_
  refine tg_iload_n S 1 dX0_linksLead_0 rfl rfl ?_
  refine tg_istore_n (L' := [(0, .ref (h 2)), (1, .int x), (2, .int y), (3, .int x)]) [1, 2, 3, 0] S dX0_linksLead_1 rfl (by decide) rfl ?_
  refine tg_iconst (v := nI 0) S dX0_linksLead_2 (by decide) ?_
  refine tg_istore (L' := [(0, .ref (h 2)), (1, .int x), (2, .int y), (3, .int x), (4, .int (nI 0))]) [1, 2, 3, 4, 0] S dX0_linksLead_3 (by decide) rfl ?_
  refine tg_fuel (X := Int32) (fa_leadF σ y) 30 x (fun a => σ) (fun i a => [(0, .ref (h 2)), (1, .int x), (2, .int y), (3, .int a), (4, .int (nI i))]) hv0 ?_ ?_
  · skip
    intro n1 i a hn_i hF_i hk_i
    have hi_i : i < 30 := by omega
    refine tg_iload_n S 3 dX0_linksLead_5 rfl rfl ?_
    refine tg_callSN (nA := 1) (As := [.int a]) (rest := []) (host := RX2) S hK hN (k_X2_isId hd σ a) (tw_gW co_X2_isId rfl) (List.mem_of_getElem? (i := 9) rfl) (tw_in in_RX2 rfl) (tw_in st_X2_isId rfl) rfl (by decide +kernel) ⟨Nat.le_of_ble_eq_true rfl, Nat.le_of_ble_eq_true rfl⟩ rfl rfl (Nat.le_of_ble_eq_true rfl) dX0_linksLead_6 ⟨Nat.le_of_ble_eq_true rfl, Nat.le_of_ble_eq_true rfl⟩ ?_
    refine tg_ifz (tgt := 39) S dX0_linksLead_9 (by decide) (fun c_1 => ?_) (fun c_1 => ?_)
    · skip
      refine tg_iconst (v := 0) S dX0_linksLead_39 (by decide) ?_
      exact tg_zret (b := false) S hr hlk dX0_linksLead_40 (congrArg tg_b (((by first | (simp [fa_leadF, c_1]; done) | (simp only [fa_leadF, if_neg (ne_true_of_eq_false c_1)]; done)) : false = fa_leadF σ y (n1 + 1) i a).trans hF_i)) rfl
    · skip
      refine tg_iload S 4 dX0_linksLead_12 rfl ?_
      refine tg_bipush (v := 30) S dX0_linksLead_14 (by decide) ?_
      refine tg_icmp_ge (tgt := 39) S dX0_linksLead_16 (by decide) (fun c => absurd c (tg_nge hi_i)) (fun _ => ?_)
      refine tg_iload_n S 3 dX0_linksLead_19 rfl rfl ?_
      refine tg_iload_n S 2 dX0_linksLead_20 rfl rfl ?_
      refine tg_icmp_ne (tgt := 26) S dX0_linksLead_21 (by decide) (fun c_2 => ?_) (fun c_2 => ?_)
      · skip
        refine tg_aload_n S 0 dX0_linksLead_26 rfl rfl ?_
        refine tg_get (v := .ref (h 13)) S tw_v0 hK 2 rfl rfl 2 (by decide) (tw_in fl_RX0_15 rfl) dX0_linksLead_27 rfl ?_
        refine tg_iload_n S 3 dX0_linksLead_30 rfl rfl ?_
        refine tg_iald (v := σ 10 a.toNatClampNeg) S hK 13 0 rfl rfl dX0_linksLead_31 (fa_id_in c_1) rfl ?_
        refine tg_istore_n (L' := [(0, .ref (h 2)), (1, .int x), (2, .int y), (3, .int (σ 10 a.toNatClampNeg)), (4, .int (nI i))]) [1, 2, 3, 0, 4] S dX0_linksLead_32 rfl (by decide) rfl ?_
        refine tg_iinc (v := nI (i + 1)) (L' := [(0, .ref (h 2)), (1, .int x), (2, .int y), (3, .int (σ 10 a.toNatClampNeg)), (4, .int (nI (i + 1)))]) [1, 2, 3, 4, 0] S 4 dX0_linksLead_33 rfl (tg_inc _) (by decide) rfl ?_
        refine tg_goto (tgt := 5) S dX0_linksLead_36 (by decide) ?_
        exact hk_i (σ 10 a.toNatClampNeg) (((by first | (simp [fa_leadF, c_1, c_2]; done) | (simp only [fa_leadF, if_pos c_1, if_neg c_2]; done)) : fa_leadF σ y n1 (i + 1) (σ 10 a.toNatClampNeg) = fa_leadF σ y (n1 + 1) i a).trans hF_i)
      · skip
        refine tg_iconst (v := 1) S dX0_linksLead_24 (by decide) ?_
        exact tg_zret (b := true) S hr hlk dX0_linksLead_25 (congrArg tg_b (((by first | (simp [fa_leadF, c_1, c_2]; done) | (simp only [fa_leadF, if_pos c_1, if_pos c_2]; done)) : true = fa_leadF σ y (n1 + 1) i a).trans hF_i)) rfl
  · skip
    intro a hF_i
    refine tg_iload_n S 3 dX0_linksLead_5 rfl rfl ?_
    refine tg_callSN (nA := 1) (As := [.int a]) (rest := []) (host := RX2) S hK hN (k_X2_isId hd σ a) (tw_gW co_X2_isId rfl) (List.mem_of_getElem? (i := 9) rfl) (tw_in in_RX2 rfl) (tw_in st_X2_isId rfl) rfl (by decide +kernel) ⟨Nat.le_of_ble_eq_true rfl, Nat.le_of_ble_eq_true rfl⟩ rfl rfl (Nat.le_of_ble_eq_true rfl) dX0_linksLead_6 ⟨Nat.le_of_ble_eq_true rfl, Nat.le_of_ble_eq_true rfl⟩ ?_
    refine tg_ifz (tgt := 39) S dX0_linksLead_9 (by decide) (fun c_3 => ?_) (fun c_3 => ?_)
    · skip
      refine tg_iconst (v := 0) S dX0_linksLead_39 (by decide) ?_
      exact tg_zret (b := false) S hr hlk dX0_linksLead_40 (congrArg tg_b (((by first | (simp [fa_leadF, c_3]; done) | (simp only [fa_leadF, if_neg (ne_true_of_eq_false c_3)]; done)) : false = fa_leadF σ y 0 30 a).trans hF_i)) rfl
    · skip
      refine tg_iload S 4 dX0_linksLead_12 rfl ?_
      refine tg_bipush (v := 30) S dX0_linksLead_14 (by decide) ?_
      refine tg_icmp_ge (tgt := 39) S dX0_linksLead_16 (by decide) (fun _ => ?_) (fun c => absurd tg_ge c)
      refine tg_iconst (v := 0) S dX0_linksLead_39 (by decide) ?_
      exact tg_zret (b := false) S hr hlk dX0_linksLead_40 (congrArg tg_b (((by first | (simp [fa_leadF, c_3]; done) | (simp only [fa_leadF, if_pos c_3]; done)) : false = fa_leadF σ y 0 30 a).trans hF_i)) rfl
set_option maxHeartbeats 4000000 in
set_option maxRecDepth 100000 in
theorem k_X0_linkKnown {l : Launch} {D : va_G} {h : Nat → Nat} {cI cZ : ClassId} (hd : tw_dis 23 h) (σ : tg_Mem)  : tg_CT l yX0_linkKnown wzX0_linkKnown (tg_rm 4) (tw_T h cI cZ) (tw_ty cI cZ) tw_nl (tw_A 23 h) D [.ref (h 2)] σ none (fa_linkKnown σ) := by
  refine tg_met (own := RX0) (cc := cX0_linkKnown) (maxL := 3) (ret := none) (by decide +kernel) rfl rfl (Nat.le_of_ble_eq_true rfl) ?_
  intro p e s m below meth c S hK hN hr hlk
  refine tg_sub (L' := [(0, .ref (h 2))]) [0] rfl ?_
  refine tg_iconst (v := nI 0) S dX0_linkKnown_0 (by decide) ?_
  refine tg_istore_n (L' := [(0, .ref (h 2)), (1, .int (nI 0))]) [1, 0] S dX0_linkKnown_1 rfl (by decide) rfl ?_
  refine tg_loop (X := tg_Mem) fa_lk1 30 σ (fun τ => τ) (fun i τ => [(0, .ref (h 2)), (1, .int (nI i))]) ?_ ?_
  · skip
    intro i τ hi_i hk_i
    refine tg_iload_n S 1 dX0_linkKnown_2 rfl rfl ?_
    refine tg_bipush (v := 30) S dX0_linkKnown_3 (by decide) ?_
    refine tg_icmp_ge (tgt := 21) S dX0_linkKnown_5 (by decide) (fun c => absurd c (tg_nge hi_i)) (fun _ => ?_)
    refine tg_aload_n S 0 dX0_linkKnown_8 rfl rfl ?_
    refine tg_get (v := .ref (h 13)) S tw_v0 hK 2 rfl rfl 2 (by decide) (tw_in fl_RX0_15 rfl) dX0_linkKnown_9 rfl ?_
    refine tg_iload_n S 1 dX0_linkKnown_12 rfl rfl ?_
    refine tg_iconst (v := -1) S dX0_linkKnown_13 (by decide) ?_
    refine tg_iast (σ2 := tg_set τ 10 i (-1)) S hK (tw_TD hd) 13 0 rfl rfl dX0_linkKnown_14 (tg_in hi_i (by decide)) (by rw [tg_cl (Nat.lt_trans hi_i (by decide))]; rfl) ?_
    refine tg_iinc (v := nI (i + 1)) (L' := [(0, .ref (h 2)), (1, .int (nI (i + 1)))]) [1, 0] S 1 dX0_linkKnown_15 rfl (tg_inc _) (by decide) rfl ?_
    refine tg_goto (tgt := 2) S dX0_linkKnown_18 (by decide) ?_
    have e_1 : fa_lk1 i τ = tg_set τ 10 i (-1) := (by first | (simp [fa_lk1]; done))
    rw [e_1] at hk_i
    exact hk_i
  · skip
    refine tg_iload_n S 1 dX0_linkKnown_2 rfl rfl ?_
    refine tg_bipush (v := 30) S dX0_linkKnown_3 (by decide) ?_
    refine tg_icmp_ge (tgt := 21) S dX0_linkKnown_5 (by decide) (fun _ => ?_) (fun c => absurd tg_ge c)
    refine tg_iconst (v := nI 0) S dX0_linkKnown_21 (by decide) ?_
    refine tg_istore_n (L' := [(0, .ref (h 2)), (1, .int (nI 0))]) [1, 0] S dX0_linkKnown_22 rfl (by decide) rfl ?_
    refine tg_loop (X := tg_Mem) fa_lk2 30 (tg_it fa_lk1 σ 30) (fun τ => τ) (fun i τ => [(0, .ref (h 2)), (1, .int (nI i))]) ?_ ?_
    · skip
      intro i τ hi_i hk_i
      refine tg_iload_n S 1 dX0_linkKnown_23 rfl rfl ?_
      refine tg_bipush (v := 30) S dX0_linkKnown_24 (by decide) ?_
      refine tg_icmp_ge (tgt := 73) S dX0_linkKnown_26 (by decide) (fun c => absurd c (tg_nge hi_i)) (fun _ => ?_)
      refine tg_aload_n S 0 dX0_linkKnown_29 rfl rfl ?_
      refine tg_get (v := .ref (h 12)) S tw_v0 hK 2 rfl rfl 1 (by decide) (tw_in fl_RX0_9 rfl) dX0_linkKnown_30 rfl ?_
      refine tg_iload_n S 1 dX0_linkKnown_33 rfl rfl ?_
      refine tg_zald (v := τ 9 i) S hK 12 1 rfl rfl dX0_linkKnown_34 (tg_in hi_i (by decide)) (congrArg ((τ 9)) (tg_cl (Nat.lt_trans hi_i (by decide)))) ?_
      refine tg_if_eq (tgt := 67) S dX0_linkKnown_35 (by decide) (fun c_1 => ?_) (fun c_1 => ?_)
      · skip
        refine tg_iinc (v := nI (i + 1)) (L' := [(0, .ref (h 2)), (1, .int (nI (i + 1)))]) [1, 0] S 1 dX0_linkKnown_67 rfl (tg_inc _) (by decide) rfl ?_
        refine tg_goto (tgt := 23) S dX0_linkKnown_70 (by decide) ?_
        have e_2 : fa_lk2 i τ = τ := (by first | (simp [fa_lk2, c_1]; done) | (simp only [fa_lk2, if_pos c_1]; done))
        rw [e_2] at hk_i
        exact hk_i
      · skip
        refine tg_aload_n S 0 dX0_linkKnown_38 rfl rfl ?_
        refine tg_get (v := .ref (h 1)) S tw_v0 hK 2 rfl rfl 0 (by decide) (tw_in fl_RX0_46 rfl) dX0_linkKnown_39 rfl ?_
        refine tg_iload_n S 1 dX0_linkKnown_42 rfl rfl ?_
        refine tg_callN (nA := 1) (As := [.int (nI i)]) (rest := []) (host := RX2) (q := (RX1, TX1, 9)) S hK hN (k_X1_toldParentOf hd τ (nI i)) 1 rfl rfl (tw_gW co_X1_toldParentOf rfl) (List.mem_of_getElem? (i := 12) rfl) (tw_in in_RX1 rfl) (tw_in im_X1_toldParentOf rfl) (tw_in se_X1_toldParentOf rfl) rfl (by decide +kernel) ⟨Nat.le_of_ble_eq_true rfl, Nat.le_of_ble_eq_true rfl⟩ rfl rfl (Nat.le_of_ble_eq_true rfl) dX0_linkKnown_43 ⟨Nat.le_of_ble_eq_true rfl, Nat.le_of_ble_eq_true rfl⟩ ?_
        refine tg_istore_n (L' := [(0, .ref (h 2)), (1, .int (nI i)), (2, .int (fa_told τ (nI i)))]) [1, 2, 0] S dX0_linkKnown_46 rfl (by decide) rfl ?_
        refine tg_aload_n S 0 dX0_linkKnown_47 rfl rfl ?_
        refine tg_get (v := .ref (h 13)) S tw_v0 hK 2 rfl rfl 2 (by decide) (tw_in fl_RX0_15 rfl) dX0_linkKnown_48 rfl ?_
        refine tg_iload_n S 1 dX0_linkKnown_51 rfl rfl ?_
        refine tg_aload_n S 0 dX0_linkKnown_52 rfl rfl ?_
        refine tg_iload_n S 2 dX0_linkKnown_53 rfl rfl ?_
        refine tg_iload_n S 1 dX0_linkKnown_54 rfl rfl ?_
        refine tg_callV (nA := 2) (As := [.int (fa_told τ (nI i)), .int (nI i)]) (rest := [.int (nI i), .ref (h 13)]) (q := (RX0, TX0, 13)) S hK hN (k_X0_linksLead hd τ (fa_told τ (nI i)) (nI i)) 2 rfl rfl (tw_gV ml_RX0_110 im_X0_linksLead se_X0_linksLead in_RX0 co_X0_linksLead rfl) rfl (by decide +kernel) ⟨Nat.le_of_ble_eq_true rfl, Nat.le_of_ble_eq_true rfl⟩ rfl rfl (Nat.le_of_ble_eq_true rfl) dX0_linkKnown_55 ⟨Nat.le_of_ble_eq_true rfl, Nat.le_of_ble_eq_true rfl⟩ ?_
        refine tg_ifz (tgt := 65) S dX0_linkKnown_58 (by decide) (fun c_2 => ?_) (fun c_2 => ?_)
        · skip
          refine tg_iload_n S 2 dX0_linkKnown_65 rfl rfl ?_
          refine tg_iast (σ2 := tg_set τ 10 i (fa_told τ (nI i))) S hK (tw_TD hd) 13 0 rfl rfl dX0_linkKnown_66 (tg_in hi_i (by decide)) (by rw [tg_cl (Nat.lt_trans hi_i (by decide))]; rfl) ?_
          refine tg_iinc (v := nI (i + 1)) (L' := [(0, .ref (h 2)), (1, .int (nI (i + 1))), (2, .int (fa_told τ (nI i)))]) [1, 0, 2] S 1 dX0_linkKnown_67 rfl (tg_inc _) (by decide) rfl ?_
          refine tg_goto (tgt := 23) S dX0_linkKnown_70 (by decide) ?_
          refine tg_sub (L' := [(0, .ref (h 2)), (1, .int (nI (i + 1)))]) [0, 1] rfl ?_
          have e_3 : fa_lk2 i τ = tg_set τ 10 i (fa_told τ (nI i)) := (by first | (simp [fa_lk2, c_1, c_2]; done) | (simp only [fa_lk2, if_neg c_1, if_neg (ne_true_of_eq_false c_2)]; done))
          rw [e_3] at hk_i
          exact hk_i
        · skip
          refine tg_iconst (v := -1) S dX0_linkKnown_61 (by decide) ?_
          refine tg_goto (tgt := 66) S dX0_linkKnown_62 (by decide) ?_
          refine tg_iast (σ2 := tg_set τ 10 i (-1)) S hK (tw_TD hd) 13 0 rfl rfl dX0_linkKnown_66 (tg_in hi_i (by decide)) (by rw [tg_cl (Nat.lt_trans hi_i (by decide))]; rfl) ?_
          refine tg_iinc (v := nI (i + 1)) (L' := [(0, .ref (h 2)), (1, .int (nI (i + 1))), (2, .int (fa_told τ (nI i)))]) [1, 0, 2] S 1 dX0_linkKnown_67 rfl (tg_inc _) (by decide) rfl ?_
          refine tg_goto (tgt := 23) S dX0_linkKnown_70 (by decide) ?_
          refine tg_sub (L' := [(0, .ref (h 2)), (1, .int (nI (i + 1)))]) [0, 1] rfl ?_
          have e_4 : fa_lk2 i τ = tg_set τ 10 i (-1) := (by first | (simp [fa_lk2, c_1, c_2]; done) | (simp only [fa_lk2, if_neg c_1, if_pos c_2]; done))
          rw [e_4] at hk_i
          exact hk_i
    · skip
      refine tg_iload_n S 1 dX0_linkKnown_23 rfl rfl ?_
      refine tg_bipush (v := 30) S dX0_linkKnown_24 (by decide) ?_
      refine tg_icmp_ge (tgt := 73) S dX0_linkKnown_26 (by decide) (fun _ => ?_) (fun c => absurd tg_ge c)
      exact tg_vret S hr hlk dX0_linkKnown_73 (by simp [fa_linkKnown])
set_option maxHeartbeats 4000000 in
set_option maxRecDepth 100000 in
theorem k_X0_parentByLinks {l : Launch} {D : va_G} {h : Nat → Nat} {cI cZ : ClassId} (hd : tw_dis 23 h) (σ : tg_Mem) (x : Int32) : tg_CT l yX0_parentByLinks wzX0_parentByLinks (tg_rm 1) (tw_T h cI cZ) (tw_ty cI cZ) tw_nl (tw_A 23 h) D [.ref (h 2), .int x] σ (some (.int (fa_pbl σ x))) σ := by
  refine tg_met (own := RX0) (cc := cX0_parentByLinks) (maxL := 4) (ret := (some .int)) (by decide +kernel) rfl rfl (Nat.le_of_ble_eq_true rfl) ?_
  intro p e s m below meth c S hK hN hr hlk
  obtain ⟨v0, hv0⟩ : ∃ v, fa_pbl σ x = v := ⟨_, rfl⟩
  rw [hv0]
  refine tg_sub (L' := [(0, .ref (h 2)), (1, .int x)]) [0, 1] rfl ?_
  refine tg_iload_n S 1 dX0_parentByLinks_0 rfl rfl ?_
  refine tg_istore_n (L' := [(0, .ref (h 2)), (1, .int x), (2, .int x)]) [1, 2, 0] S dX0_parentByLinks_1 rfl (by decide) rfl ?_
  refine tg_iconst (v := nI 0) S dX0_parentByLinks_2 (by decide) ?_
  refine tg_istore_n (L' := [(0, .ref (h 2)), (1, .int x), (2, .int x), (3, .int (nI 0))]) [1, 2, 3, 0] S dX0_parentByLinks_3 rfl (by decide) rfl ?_
  refine tg_fuel (X := Int32) (fa_pblF σ) 30 x (fun a => σ) (fun i a => [(0, .ref (h 2)), (1, .int x), (2, .int a), (3, .int (nI i))]) hv0 ?_ ?_
  · skip
    intro n1 i a hn_i hF_i hk_i
    have hi_i : i < 30 := by omega
    refine tg_iload_n S 2 dX0_parentByLinks_4 rfl rfl ?_
    refine tg_callSN (nA := 1) (As := [.int a]) (rest := []) (host := RX2) S hK hN (k_X2_isId hd σ a) (tw_gW co_X2_isId rfl) (List.mem_of_getElem? (i := 9) rfl) (tw_in in_RX2 rfl) (tw_in st_X2_isId rfl) rfl (by decide +kernel) ⟨Nat.le_of_ble_eq_true rfl, Nat.le_of_ble_eq_true rfl⟩ rfl rfl (Nat.le_of_ble_eq_true rfl) dX0_parentByLinks_5 ⟨Nat.le_of_ble_eq_true rfl, Nat.le_of_ble_eq_true rfl⟩ ?_
    refine tg_ifz (tgt := 53) S dX0_parentByLinks_8 (by decide) (fun c_1 => ?_) (fun c_1 => ?_)
    · skip
      refine tg_iconst (v := -1) S dX0_parentByLinks_53 (by decide) ?_
      exact tg_iret S hr hlk dX0_parentByLinks_54 (((by first | (simp [fa_pblF, c_1]; done) | (simp only [fa_pblF, if_neg (ne_true_of_eq_false c_1)]; done)) : -1 = fa_pblF σ (n1 + 1) i a).trans hF_i) rfl
    · skip
      refine tg_iload_n S 3 dX0_parentByLinks_11 rfl rfl ?_
      refine tg_bipush (v := 30) S dX0_parentByLinks_12 (by decide) ?_
      refine tg_icmp_ge (tgt := 53) S dX0_parentByLinks_14 (by decide) (fun c => absurd c (tg_nge hi_i)) (fun _ => ?_)
      refine tg_aload_n S 0 dX0_parentByLinks_17 rfl rfl ?_
      refine tg_get (v := .ref (h 1)) S tw_v0 hK 2 rfl rfl 0 (by decide) (tw_in fl_RX0_46 rfl) dX0_parentByLinks_18 rfl ?_
      refine tg_iload_n S 2 dX0_parentByLinks_21 rfl rfl ?_
      refine tg_callN (nA := 1) (As := [.int a]) (rest := []) (host := RX2) (q := (RX1, TX1, 9)) S hK hN (k_X1_holds hd σ a) 1 rfl rfl (tw_gW co_X1_holds rfl) (List.mem_of_getElem? (i := 7) rfl) (tw_in in_RX1 rfl) (tw_in im_X1_holds rfl) (tw_in se_X1_holds rfl) rfl (by decide +kernel) ⟨Nat.le_of_ble_eq_true rfl, Nat.le_of_ble_eq_true rfl⟩ rfl rfl (Nat.le_of_ble_eq_true rfl) dX0_parentByLinks_22 ⟨Nat.le_of_ble_eq_true rfl, Nat.le_of_ble_eq_true rfl⟩ ?_
      refine tg_ifnz (tgt := 38) S dX0_parentByLinks_25 (by decide) (fun c_2 => ?_) (fun c_2 => ?_)
      · skip
        refine tg_iload_n S 2 dX0_parentByLinks_38 rfl rfl ?_
        exact tg_iret S hr hlk dX0_parentByLinks_39 (((by first | (simp [fa_pblF, c_1, c_2]; done) | (simp only [fa_pblF, if_pos c_1, if_pos c_2]; done)) : a = fa_pblF σ (n1 + 1) i a).trans hF_i) rfl
      · skip
        refine tg_aload_n S 0 dX0_parentByLinks_28 rfl rfl ?_
        refine tg_get (v := .ref (h 13)) S tw_v0 hK 2 rfl rfl 2 (by decide) (tw_in fl_RX0_15 rfl) dX0_parentByLinks_29 rfl ?_
        refine tg_iload_n S 2 dX0_parentByLinks_32 rfl rfl ?_
        refine tg_iald (v := σ 10 a.toNatClampNeg) S hK 13 0 rfl rfl dX0_parentByLinks_33 (fa_id_in c_1) rfl ?_
        refine tg_iconst (v := -1) S dX0_parentByLinks_34 (by decide) ?_
        refine tg_icmp_ne (tgt := 40) S dX0_parentByLinks_35 (by decide) (fun c_3 => ?_) (fun c_3 => ?_)
        · skip
          refine tg_aload_n S 0 dX0_parentByLinks_40 rfl rfl ?_
          refine tg_get (v := .ref (h 13)) S tw_v0 hK 2 rfl rfl 2 (by decide) (tw_in fl_RX0_15 rfl) dX0_parentByLinks_41 rfl ?_
          refine tg_iload_n S 2 dX0_parentByLinks_44 rfl rfl ?_
          refine tg_iald (v := σ 10 a.toNatClampNeg) S hK 13 0 rfl rfl dX0_parentByLinks_45 (fa_id_in c_1) rfl ?_
          refine tg_istore_n (L' := [(0, .ref (h 2)), (1, .int x), (2, .int (σ 10 a.toNatClampNeg)), (3, .int (nI i))]) [1, 2, 0, 3] S dX0_parentByLinks_46 rfl (by decide) rfl ?_
          refine tg_iinc (v := nI (i + 1)) (L' := [(0, .ref (h 2)), (1, .int x), (2, .int (σ 10 a.toNatClampNeg)), (3, .int (nI (i + 1)))]) [1, 2, 3, 0] S 3 dX0_parentByLinks_47 rfl (tg_inc _) (by decide) rfl ?_
          refine tg_goto (tgt := 4) S dX0_parentByLinks_50 (by decide) ?_
          exact hk_i (σ 10 a.toNatClampNeg) (((by first | (simp [fa_pblF, c_1, c_2, c_3]; done) | (simp only [fa_pblF, if_pos c_1, if_neg (ne_true_of_eq_false c_2), if_neg c_3]; done)) : fa_pblF σ n1 (i + 1) (σ 10 a.toNatClampNeg) = fa_pblF σ (n1 + 1) i a).trans hF_i)
        · skip
          refine tg_iload_n S 2 dX0_parentByLinks_38 rfl rfl ?_
          exact tg_iret S hr hlk dX0_parentByLinks_39 (((by first | (simp [fa_pblF, c_1, c_2, c_3]; done) | (simp only [fa_pblF, if_pos c_1, if_neg (ne_true_of_eq_false c_2), if_pos c_3]; done)) : a = fa_pblF σ (n1 + 1) i a).trans hF_i) rfl
  · skip
    intro a hF_i
    refine tg_iload_n S 2 dX0_parentByLinks_4 rfl rfl ?_
    refine tg_callSN (nA := 1) (As := [.int a]) (rest := []) (host := RX2) S hK hN (k_X2_isId hd σ a) (tw_gW co_X2_isId rfl) (List.mem_of_getElem? (i := 9) rfl) (tw_in in_RX2 rfl) (tw_in st_X2_isId rfl) rfl (by decide +kernel) ⟨Nat.le_of_ble_eq_true rfl, Nat.le_of_ble_eq_true rfl⟩ rfl rfl (Nat.le_of_ble_eq_true rfl) dX0_parentByLinks_5 ⟨Nat.le_of_ble_eq_true rfl, Nat.le_of_ble_eq_true rfl⟩ ?_
    refine tg_ifz (tgt := 53) S dX0_parentByLinks_8 (by decide) (fun c_4 => ?_) (fun c_4 => ?_)
    · skip
      refine tg_iconst (v := -1) S dX0_parentByLinks_53 (by decide) ?_
      exact tg_iret S hr hlk dX0_parentByLinks_54 (((by first | (simp [fa_pblF, c_4]; done) | (simp only [fa_pblF, if_neg (ne_true_of_eq_false c_4)]; done)) : -1 = fa_pblF σ 0 30 a).trans hF_i) rfl
    · skip
      refine tg_iload_n S 3 dX0_parentByLinks_11 rfl rfl ?_
      refine tg_bipush (v := 30) S dX0_parentByLinks_12 (by decide) ?_
      refine tg_icmp_ge (tgt := 53) S dX0_parentByLinks_14 (by decide) (fun _ => ?_) (fun c => absurd tg_ge c)
      refine tg_iconst (v := -1) S dX0_parentByLinks_53 (by decide) ?_
      exact tg_iret S hr hlk dX0_parentByLinks_54 (((by first | (simp [fa_pblF, c_4]; done) | (simp only [fa_pblF, if_pos c_4]; done)) : -1 = fa_pblF σ 0 30 a).trans hF_i) rfl
set_option maxHeartbeats 4000000 in
set_option maxRecDepth 100000 in
theorem k_X0_hangByLinks {l : Launch} {D : va_G} {h : Nat → Nat} {cI cZ : ClassId} (hd : tw_dis 23 h) (σ : tg_Mem)  : tg_CT l yX0_hangByLinks wzX0_hangByLinks (tg_rm 2) (tw_T h cI cZ) (tw_ty cI cZ) tw_nl (tw_A 23 h) D [.ref (h 2)] σ none (fa_hangByLinks σ) := by
  refine tg_met (own := RX0) (cc := cX0_hangByLinks) (maxL := 2) (ret := none) (by decide +kernel) rfl rfl (Nat.le_of_ble_eq_true rfl) ?_
  intro p e s m below meth c S hK hN hr hlk
  refine tg_sub (L' := [(0, .ref (h 2))]) [0] rfl ?_
  refine tg_iconst (v := nI 0) S dX0_hangByLinks_0 (by decide) ?_
  refine tg_istore_n (L' := [(0, .ref (h 2)), (1, .int (nI 0))]) [1, 0] S dX0_hangByLinks_1 rfl (by decide) rfl ?_
  refine tg_loop (X := tg_Mem) fa_hb 30 σ (fun τ => τ) (fun i τ => [(0, .ref (h 2)), (1, .int (nI i))]) ?_ ?_
  · skip
    intro i τ hi_i hk_i
    refine tg_iload_n S 1 dX0_hangByLinks_2 rfl rfl ?_
    refine tg_bipush (v := 30) S dX0_hangByLinks_3 (by decide) ?_
    refine tg_icmp_ge (tgt := 45) S dX0_hangByLinks_5 (by decide) (fun c => absurd c (tg_nge hi_i)) (fun _ => ?_)
    refine tg_aload_n S 0 dX0_hangByLinks_8 rfl rfl ?_
    refine tg_get (v := .ref (h 14)) S tw_v0 hK 2 rfl rfl 3 (by decide) (tw_in fl_RX0_19 rfl) dX0_hangByLinks_9 rfl ?_
    refine tg_iload_n S 1 dX0_hangByLinks_12 rfl rfl ?_
    refine tg_aload_n S 0 dX0_hangByLinks_13 rfl rfl ?_
    refine tg_get (v := .ref (h 1)) S tw_v0 hK 2 rfl rfl 0 (by decide) (tw_in fl_RX0_46 rfl) dX0_hangByLinks_14 rfl ?_
    refine tg_iload_n S 1 dX0_hangByLinks_17 rfl rfl ?_
    refine tg_callN (nA := 1) (As := [.int (nI i)]) (rest := [.int (nI i), .ref (h 14)]) (host := RX2) (q := (RX1, TX1, 9)) S hK hN (k_X1_holds hd τ (nI i)) 1 rfl rfl (tw_gW co_X1_holds rfl) (List.mem_of_getElem? (i := 7) rfl) (tw_in in_RX1 rfl) (tw_in im_X1_holds rfl) (tw_in se_X1_holds rfl) rfl (by decide +kernel) ⟨Nat.le_of_ble_eq_true rfl, Nat.le_of_ble_eq_true rfl⟩ rfl rfl (Nat.le_of_ble_eq_true rfl) dX0_hangByLinks_18 ⟨Nat.le_of_ble_eq_true rfl, Nat.le_of_ble_eq_true rfl⟩ ?_
    refine tg_ifz (tgt := 37) S dX0_hangByLinks_21 (by decide) (fun c_1 => ?_) (fun c_1 => ?_)
    · skip
      refine tg_iconst (v := -1) S dX0_hangByLinks_37 (by decide) ?_
      refine tg_iast (σ2 := tg_set τ 11 i (-1)) S hK (tw_TD hd) 14 0 rfl rfl dX0_hangByLinks_38 (tg_in hi_i (by decide)) (by rw [tg_cl (Nat.lt_trans hi_i (by decide))]; rfl) ?_
      refine tg_iinc (v := nI (i + 1)) (L' := [(0, .ref (h 2)), (1, .int (nI (i + 1)))]) [1, 0] S 1 dX0_hangByLinks_39 rfl (tg_inc _) (by decide) rfl ?_
      refine tg_goto (tgt := 2) S dX0_hangByLinks_42 (by decide) ?_
      have e_1 : fa_hb i τ = tg_set τ 11 i (-1) := (by first | (simp [fa_hb, c_1]; done) | (simp only [fa_hb, if_neg (ne_true_of_eq_false c_1)]; done))
      rw [e_1] at hk_i
      exact hk_i
    · skip
      refine tg_aload_n S 0 dX0_hangByLinks_24 rfl rfl ?_
      refine tg_aload_n S 0 dX0_hangByLinks_25 rfl rfl ?_
      refine tg_get (v := .ref (h 13)) S tw_v0 hK 2 rfl rfl 2 (by decide) (tw_in fl_RX0_15 rfl) dX0_hangByLinks_26 rfl ?_
      refine tg_iload_n S 1 dX0_hangByLinks_29 rfl rfl ?_
      refine tg_iald (v := τ 10 i) S hK 13 0 rfl rfl dX0_hangByLinks_30 (tg_in hi_i (by decide)) (congrArg ((τ 10)) (tg_cl (Nat.lt_trans hi_i (by decide)))) ?_
      refine tg_callV (nA := 1) (As := [.int (τ 10 i)]) (rest := [.int (nI i), .ref (h 14)]) (q := (RX0, TX0, 13)) S hK hN (k_X0_parentByLinks hd τ (τ 10 i)) 2 rfl rfl (tw_gV ml_RX0_114 im_X0_parentByLinks se_X0_parentByLinks in_RX0 co_X0_parentByLinks rfl) rfl (by decide +kernel) ⟨Nat.le_of_ble_eq_true rfl, Nat.le_of_ble_eq_true rfl⟩ rfl rfl (Nat.le_of_ble_eq_true rfl) dX0_hangByLinks_31 ⟨Nat.le_of_ble_eq_true rfl, Nat.le_of_ble_eq_true rfl⟩ ?_
      refine tg_goto (tgt := 38) S dX0_hangByLinks_34 (by decide) ?_
      refine tg_iast (σ2 := tg_set τ 11 i (fa_pbl τ (τ 10 i))) S hK (tw_TD hd) 14 0 rfl rfl dX0_hangByLinks_38 (tg_in hi_i (by decide)) (by rw [tg_cl (Nat.lt_trans hi_i (by decide))]; rfl) ?_
      refine tg_iinc (v := nI (i + 1)) (L' := [(0, .ref (h 2)), (1, .int (nI (i + 1)))]) [1, 0] S 1 dX0_hangByLinks_39 rfl (tg_inc _) (by decide) rfl ?_
      refine tg_goto (tgt := 2) S dX0_hangByLinks_42 (by decide) ?_
      have e_2 : fa_hb i τ = tg_set τ 11 i (fa_pbl τ (τ 10 i)) := (by first | (simp [fa_hb, c_1]; done) | (simp only [fa_hb, if_pos c_1]; done))
      rw [e_2] at hk_i
      exact hk_i
  · skip
    refine tg_iload_n S 1 dX0_hangByLinks_2 rfl rfl ?_
    refine tg_bipush (v := 30) S dX0_hangByLinks_3 (by decide) ?_
    refine tg_icmp_ge (tgt := 45) S dX0_hangByLinks_5 (by decide) (fun _ => ?_) (fun c => absurd tg_ge c)
    exact tg_vret S hr hlk dX0_hangByLinks_45 (by simp [fa_hangByLinks])
set_option maxHeartbeats 4000000 in
set_option maxRecDepth 100000 in
theorem k_X0_freeChildren {l : Launch} {D : va_G} {h : Nat → Nat} {cI cZ : ClassId} (hd : tw_dis 23 h) (σ : tg_Mem) (x : Int32) : tg_CT l yX0_freeChildren wzX0_freeChildren (tg_rm 0) (tw_T h cI cZ) (tw_ty cI cZ) tw_nl (tw_A 23 h) D [.ref (h 2), .int x] σ none (fa_free σ x) := by
  refine tg_met (own := RX0) (cc := cX0_freeChildren) (maxL := 3) (ret := none) (by decide +kernel) rfl rfl (Nat.le_of_ble_eq_true rfl) ?_
  intro p e s m below meth c S hK hN hr hlk
  refine tg_sub (L' := [(0, .ref (h 2)), (1, .int x)]) [0, 1] rfl ?_
  refine tg_iconst (v := nI 0) S dX0_freeChildren_0 (by decide) ?_
  refine tg_istore_n (L' := [(0, .ref (h 2)), (1, .int x), (2, .int (nI 0))]) [1, 2, 0] S dX0_freeChildren_1 rfl (by decide) rfl ?_
  refine tg_loop (X := tg_Mem) (fa_fr x) 30 σ (fun τ => τ) (fun i τ => [(0, .ref (h 2)), (1, .int x), (2, .int (nI i))]) ?_ ?_
  · skip
    intro i τ hi_i hk_i
    refine tg_iload_n S 2 dX0_freeChildren_2 rfl rfl ?_
    refine tg_bipush (v := 30) S dX0_freeChildren_3 (by decide) ?_
    refine tg_icmp_ge (tgt := 31) S dX0_freeChildren_5 (by decide) (fun c => absurd c (tg_nge hi_i)) (fun _ => ?_)
    refine tg_aload_n S 0 dX0_freeChildren_8 rfl rfl ?_
    refine tg_get (v := .ref (h 14)) S tw_v0 hK 2 rfl rfl 3 (by decide) (tw_in fl_RX0_19 rfl) dX0_freeChildren_9 rfl ?_
    refine tg_iload_n S 2 dX0_freeChildren_12 rfl rfl ?_
    refine tg_iald (v := τ 11 i) S hK 14 0 rfl rfl dX0_freeChildren_13 (tg_in hi_i (by decide)) (congrArg ((τ 11)) (tg_cl (Nat.lt_trans hi_i (by decide)))) ?_
    refine tg_iload_n S 1 dX0_freeChildren_14 rfl rfl ?_
    refine tg_icmp_ne (tgt := 25) S dX0_freeChildren_15 (by decide) (fun c_1 => ?_) (fun c_1 => ?_)
    · skip
      refine tg_iinc (v := nI (i + 1)) (L' := [(0, .ref (h 2)), (1, .int x), (2, .int (nI (i + 1)))]) [1, 2, 0] S 2 dX0_freeChildren_25 rfl (tg_inc _) (by decide) rfl ?_
      refine tg_goto (tgt := 2) S dX0_freeChildren_28 (by decide) ?_
      have e_1 : fa_fr x i τ = τ := (by first | (simp [fa_fr, c_1]; done) | (simp only [fa_fr, if_neg c_1]; done))
      rw [e_1] at hk_i
      exact hk_i
    · skip
      refine tg_aload_n S 0 dX0_freeChildren_18 rfl rfl ?_
      refine tg_get (v := .ref (h 14)) S tw_v0 hK 2 rfl rfl 3 (by decide) (tw_in fl_RX0_19 rfl) dX0_freeChildren_19 rfl ?_
      refine tg_iload_n S 2 dX0_freeChildren_22 rfl rfl ?_
      refine tg_iconst (v := -1) S dX0_freeChildren_23 (by decide) ?_
      refine tg_iast (σ2 := tg_set τ 11 i (-1)) S hK (tw_TD hd) 14 0 rfl rfl dX0_freeChildren_24 (tg_in hi_i (by decide)) (by rw [tg_cl (Nat.lt_trans hi_i (by decide))]; rfl) ?_
      refine tg_iinc (v := nI (i + 1)) (L' := [(0, .ref (h 2)), (1, .int x), (2, .int (nI (i + 1)))]) [1, 2, 0] S 2 dX0_freeChildren_25 rfl (tg_inc _) (by decide) rfl ?_
      refine tg_goto (tgt := 2) S dX0_freeChildren_28 (by decide) ?_
      have e_2 : fa_fr x i τ = tg_set τ 11 i (-1) := (by first | (simp [fa_fr, c_1]; done) | (simp only [fa_fr, if_pos c_1]; done))
      rw [e_2] at hk_i
      exact hk_i
  · skip
    refine tg_iload_n S 2 dX0_freeChildren_2 rfl rfl ?_
    refine tg_bipush (v := 30) S dX0_freeChildren_3 (by decide) ?_
    refine tg_icmp_ge (tgt := 31) S dX0_freeChildren_5 (by decide) (fun _ => ?_) (fun c => absurd tg_ge c)
    exact tg_vret S hr hlk dX0_freeChildren_31 (by simp [fa_free])
set_option maxHeartbeats 4000000 in
set_option maxRecDepth 100000 in
theorem k_X0_keepMissing {l : Launch} {D : va_G} {h : Nat → Nat} {cI cZ : ClassId} (hd : tw_dis 23 h) (σ : tg_Mem)  : tg_CT l yX0_keepMissing wzX0_keepMissing (tg_rm 1) (tw_T h cI cZ) (tw_ty cI cZ) tw_nl (tw_A 23 h) D [.ref (h 2)] σ none (fa_keepMissing σ) := by
  refine tg_met (own := RX0) (cc := cX0_keepMissing) (maxL := 2) (ret := none) (by decide +kernel) rfl rfl (Nat.le_of_ble_eq_true rfl) ?_
  intro p e s m below meth c S hK hN hr hlk
  refine tg_sub (L' := [(0, .ref (h 2))]) [0] rfl ?_
  refine tg_iconst (v := nI 0) S dX0_keepMissing_0 (by decide) ?_
  refine tg_istore_n (L' := [(0, .ref (h 2)), (1, .int (nI 0))]) [1, 0] S dX0_keepMissing_1 rfl (by decide) rfl ?_
  refine tg_loop (X := tg_Mem) fa_km 30 σ (fun τ => τ) (fun i τ => [(0, .ref (h 2)), (1, .int (nI i))]) ?_ ?_
  · skip
    intro i τ hi_i hk_i
    refine tg_iload_n S 1 dX0_keepMissing_2 rfl rfl ?_
    refine tg_bipush (v := 30) S dX0_keepMissing_3 (by decide) ?_
    refine tg_icmp_ge (tgt := 59) S dX0_keepMissing_5 (by decide) (fun c => absurd c (tg_nge hi_i)) (fun _ => ?_)
    refine tg_aload_n S 0 dX0_keepMissing_8 rfl rfl ?_
    refine tg_get (v := .ref (h 15)) S tw_v0 hK 2 rfl rfl 4 (by decide) (tw_in fl_RX0_22 rfl) dX0_keepMissing_9 rfl ?_
    refine tg_iload_n S 1 dX0_keepMissing_12 rfl rfl ?_
    refine tg_aload_n S 0 dX0_keepMissing_13 rfl rfl ?_
    refine tg_get (v := .ref (h 1)) S tw_v0 hK 2 rfl rfl 0 (by decide) (tw_in fl_RX0_46 rfl) dX0_keepMissing_14 rfl ?_
    refine tg_iload_n S 1 dX0_keepMissing_17 rfl rfl ?_
    refine tg_callN (nA := 1) (As := [.int (nI i)]) (rest := [.int (nI i), .ref (h 15)]) (host := RX2) (q := (RX1, TX1, 9)) S hK hN (k_X1_holds hd τ (nI i)) 1 rfl rfl (tw_gW co_X1_holds rfl) (List.mem_of_getElem? (i := 7) rfl) (tw_in in_RX1 rfl) (tw_in im_X1_holds rfl) (tw_in se_X1_holds rfl) rfl (by decide +kernel) ⟨Nat.le_of_ble_eq_true rfl, Nat.le_of_ble_eq_true rfl⟩ rfl rfl (Nat.le_of_ble_eq_true rfl) dX0_keepMissing_18 ⟨Nat.le_of_ble_eq_true rfl, Nat.le_of_ble_eq_true rfl⟩ ?_
    refine tg_ifnz (tgt := 33) S dX0_keepMissing_21 (by decide) (fun c_1 => ?_) (fun c_1 => ?_)
    · skip
      refine tg_iconst (v := 1) S dX0_keepMissing_33 (by decide) ?_
      refine tg_goto (tgt := 38) S dX0_keepMissing_34 (by decide) ?_
      refine tg_zast (b := true) (σ2 := tg_set τ 12 i 1) S hK (tw_TD hd) 15 1 rfl rfl dX0_keepMissing_38 (tg_in hi_i (by decide)) (by rw [tg_cl (Nat.lt_trans hi_i (by decide))]; rfl) ?_
      refine tg_aload_n S 0 dX0_keepMissing_39 rfl rfl ?_
      refine tg_get (v := .ref (h 15)) S tw_v0 hK 2 rfl rfl 4 (by decide) (tw_in fl_RX0_22 rfl) dX0_keepMissing_40 rfl ?_
      refine tg_iload_n S 1 dX0_keepMissing_43 rfl rfl ?_
      refine tg_zald (v := 1) S hK 15 1 rfl rfl dX0_keepMissing_44 (tg_in hi_i (by decide)) (by simp [tg_set, tg_upA, upd, (tg_cl (Nat.lt_trans hi_i (by decide)))]) ?_
      refine tg_if_ne (tgt := 53) S dX0_keepMissing_45 (by decide) (fun _ => ?_) (fun c => absurd c (by decide))
      refine tg_iinc (v := nI (i + 1)) (L' := [(0, .ref (h 2)), (1, .int (nI (i + 1)))]) [1, 0] S 1 dX0_keepMissing_53 rfl (tg_inc _) (by decide) rfl ?_
      refine tg_goto (tgt := 2) S dX0_keepMissing_56 (by decide) ?_
      have e_1 : fa_km i τ = tg_set τ 12 i 1 := (by first | (simp [fa_km, c_1]; done) | (simp only [fa_km, if_pos c_1]; done))
      rw [e_1] at hk_i
      exact hk_i
    · skip
      refine tg_aload_n S 0 dX0_keepMissing_24 rfl rfl ?_
      refine tg_iload_n S 1 dX0_keepMissing_25 rfl rfl ?_
      refine tg_callV (nA := 1) (As := [.int (nI i)]) (rest := [.int (nI i), .ref (h 15)]) (q := (RX0, TX0, 13)) S hK hN (k_X0_countChildren hd τ (nI i)) 2 rfl rfl (tw_gV ml_RX0_117 im_X0_countChildren se_X0_countChildren in_RX0 co_X0_countChildren rfl) rfl (by decide +kernel) ⟨Nat.le_of_ble_eq_true rfl, Nat.le_of_ble_eq_true rfl⟩ rfl rfl (Nat.le_of_ble_eq_true rfl) dX0_keepMissing_26 ⟨Nat.le_of_ble_eq_true rfl, Nat.le_of_ble_eq_true rfl⟩ ?_
      refine tg_iconst (v := 2) S dX0_keepMissing_29 (by decide) ?_
      refine tg_icmp_lt (tgt := 37) S dX0_keepMissing_30 (by decide) (fun c_3 => ?_) (fun c_3 => ?_)
      · skip
        refine tg_iconst (v := 0) S dX0_keepMissing_37 (by decide) ?_
        refine tg_zast (b := false) (σ2 := tg_set τ 12 i 0) S hK (tw_TD hd) 15 1 rfl rfl dX0_keepMissing_38 (tg_in hi_i (by decide)) (by rw [tg_cl (Nat.lt_trans hi_i (by decide))]; rfl) ?_
        refine tg_aload_n S 0 dX0_keepMissing_39 rfl rfl ?_
        refine tg_get (v := .ref (h 15)) S tw_v0 hK 2 rfl rfl 4 (by decide) (tw_in fl_RX0_22 rfl) dX0_keepMissing_40 rfl ?_
        refine tg_iload_n S 1 dX0_keepMissing_43 rfl rfl ?_
        refine tg_zald (v := 0) S hK 15 1 rfl rfl dX0_keepMissing_44 (tg_in hi_i (by decide)) (by simp [tg_set, tg_upA, upd, (tg_cl (Nat.lt_trans hi_i (by decide)))]) ?_
        refine tg_if_ne (tgt := 53) S dX0_keepMissing_45 (by decide) (fun c => absurd (by decide) c) (fun _ => ?_)
        refine tg_aload_n S 0 dX0_keepMissing_48 rfl rfl ?_
        refine tg_iload_n S 1 dX0_keepMissing_49 rfl rfl ?_
        refine tg_callV (nA := 1) (As := [.int (nI i)]) (rest := []) (q := (RX0, TX0, 13)) S hK hN (k_X0_freeChildren hd (tg_set τ 12 i 0) (nI i)) 2 rfl rfl (tw_gV ml_RX0_120 im_X0_freeChildren se_X0_freeChildren in_RX0 co_X0_freeChildren rfl) rfl (by decide +kernel) ⟨Nat.le_of_ble_eq_true rfl, Nat.le_of_ble_eq_true rfl⟩ rfl rfl (Nat.le_of_ble_eq_true rfl) dX0_keepMissing_50 ⟨Nat.le_of_ble_eq_true rfl, Nat.le_of_ble_eq_true rfl⟩ ?_
        refine tg_iinc (v := nI (i + 1)) (L' := [(0, .ref (h 2)), (1, .int (nI (i + 1)))]) [1, 0] S 1 dX0_keepMissing_53 rfl (tg_inc _) (by decide) rfl ?_
        refine tg_goto (tgt := 2) S dX0_keepMissing_56 (by decide) ?_
        have e_2 : fa_km i τ = fa_free (tg_set τ 12 i 0) (nI i) := (by first | (simp [fa_km, c_1, c_3]; done) | (simp only [fa_km, if_neg (ne_true_of_eq_false c_1), if_pos c_3]; done))
        rw [e_2] at hk_i
        exact hk_i
      · skip
        refine tg_iconst (v := 1) S dX0_keepMissing_33 (by decide) ?_
        refine tg_goto (tgt := 38) S dX0_keepMissing_34 (by decide) ?_
        refine tg_zast (b := true) (σ2 := tg_set τ 12 i 1) S hK (tw_TD hd) 15 1 rfl rfl dX0_keepMissing_38 (tg_in hi_i (by decide)) (by rw [tg_cl (Nat.lt_trans hi_i (by decide))]; rfl) ?_
        refine tg_aload_n S 0 dX0_keepMissing_39 rfl rfl ?_
        refine tg_get (v := .ref (h 15)) S tw_v0 hK 2 rfl rfl 4 (by decide) (tw_in fl_RX0_22 rfl) dX0_keepMissing_40 rfl ?_
        refine tg_iload_n S 1 dX0_keepMissing_43 rfl rfl ?_
        refine tg_zald (v := 1) S hK 15 1 rfl rfl dX0_keepMissing_44 (tg_in hi_i (by decide)) (by simp [tg_set, tg_upA, upd, (tg_cl (Nat.lt_trans hi_i (by decide)))]) ?_
        refine tg_if_ne (tgt := 53) S dX0_keepMissing_45 (by decide) (fun _ => ?_) (fun c => absurd c (by decide))
        refine tg_iinc (v := nI (i + 1)) (L' := [(0, .ref (h 2)), (1, .int (nI (i + 1)))]) [1, 0] S 1 dX0_keepMissing_53 rfl (tg_inc _) (by decide) rfl ?_
        refine tg_goto (tgt := 2) S dX0_keepMissing_56 (by decide) ?_
        have e_3 : fa_km i τ = tg_set τ 12 i 1 := (by first | (simp [fa_km, c_1, c_3]; done) | (simp only [fa_km, if_neg (ne_true_of_eq_false c_1), if_neg c_3]; done))
        rw [e_3] at hk_i
        exact hk_i
  · skip
    refine tg_iload_n S 1 dX0_keepMissing_2 rfl rfl ?_
    refine tg_bipush (v := 30) S dX0_keepMissing_3 (by decide) ?_
    refine tg_icmp_ge (tgt := 59) S dX0_keepMissing_5 (by decide) (fun _ => ?_) (fun c => absurd tg_ge c)
    exact tg_vret S hr hlk dX0_keepMissing_59 (by simp [fa_keepMissing])
set_option maxHeartbeats 4000000 in
set_option maxRecDepth 100000 in
theorem k_X0_letterAnsweredBy {l : Launch} {D : va_G} {h : Nat → Nat} {cI cZ : ClassId} (hd : tw_dis 23 h) (σ : tg_Mem) (x : Int32) : tg_CT l yX0_letterAnsweredBy wzX0_letterAnsweredBy (tg_rm 2) (tw_T h cI cZ) (tw_ty cI cZ) tw_nl (tw_A 23 h) D [.ref (h 2), .int x] σ (some (.int (fa_best σ x))) σ := by
  refine tg_met (own := RX0) (cc := cX0_letterAnsweredBy) (maxL := 5) (ret := (some .int)) (by decide +kernel) rfl rfl (Nat.le_of_ble_eq_true rfl) ?_
  intro p e s m below meth c S hK hN hr hlk
  refine tg_sub (L' := [(0, .ref (h 2)), (1, .int x)]) [0, 1] rfl ?_
  refine tg_iconst (v := -1) S dX0_letterAnsweredBy_0 (by decide) ?_
  refine tg_istore_n (L' := [(0, .ref (h 2)), (1, .int x), (2, .int (-1))]) [1, 2, 0] S dX0_letterAnsweredBy_1 rfl (by decide) rfl ?_
  refine tg_iconst (v := nI 0) S dX0_letterAnsweredBy_2 (by decide) ?_
  refine tg_istore_n (L' := [(0, .ref (h 2)), (1, .int x), (2, .int (-1)), (3, .int (nI 0))]) [1, 2, 3, 0] S dX0_letterAnsweredBy_3 rfl (by decide) rfl ?_
  refine tg_loop (X := Int32) (fa_bestS σ x) 30 (-1) (fun b => σ) (fun i b => [(0, .ref (h 2)), (1, .int x), (2, .int b), (3, .int (nI i))]) ?_ ?_
  · skip
    intro i b hi_i hk_i
    refine tg_iload_n S 3 dX0_letterAnsweredBy_4 rfl rfl ?_
    refine tg_bipush (v := 30) S dX0_letterAnsweredBy_5 (by decide) ?_
    refine tg_icmp_ge (tgt := 76) S dX0_letterAnsweredBy_7 (by decide) (fun c => absurd c (tg_nge hi_i)) (fun _ => ?_)
    refine tg_aload_n S 0 dX0_letterAnsweredBy_10 rfl rfl ?_
    refine tg_get (v := .ref (h 14)) S tw_v0 hK 2 rfl rfl 3 (by decide) (tw_in fl_RX0_19 rfl) dX0_letterAnsweredBy_11 rfl ?_
    refine tg_iload_n S 3 dX0_letterAnsweredBy_14 rfl rfl ?_
    refine tg_iald (v := σ 11 i) S hK 14 0 rfl rfl dX0_letterAnsweredBy_15 (tg_in hi_i (by decide)) (congrArg ((σ 11)) (tg_cl (Nat.lt_trans hi_i (by decide)))) ?_
    refine tg_iconst (v := -1) S dX0_letterAnsweredBy_16 (by decide) ?_
    refine tg_icmp_ne (tgt := 36) S dX0_letterAnsweredBy_17 (by decide) (fun c_1 => ?_) (fun c_1 => ?_)
    · skip
      refine tg_iconst (v := 0) S dX0_letterAnsweredBy_36 (by decide) ?_
      refine tg_istore (L' := [(0, .ref (h 2)), (1, .int x), (2, .int b), (3, .int (nI i)), (4, .int 0)]) [1, 2, 3, 4, 0] S dX0_letterAnsweredBy_37 (by decide) rfl ?_
      refine tg_iload S 4 dX0_letterAnsweredBy_39 rfl ?_
      refine tg_if_eq (tgt := 70) S dX0_letterAnsweredBy_41 (by decide) (fun _ => ?_) (fun c => absurd (by decide) c)
      refine tg_iinc (v := nI (i + 1)) (L' := [(0, .ref (h 2)), (1, .int x), (2, .int b), (3, .int (nI (i + 1))), (4, .int 0)]) [1, 2, 3, 0, 4] S 3 dX0_letterAnsweredBy_70 rfl (tg_inc _) (by decide) rfl ?_
      refine tg_goto (tgt := 4) S dX0_letterAnsweredBy_73 (by decide) ?_
      refine tg_sub (L' := [(0, .ref (h 2)), (1, .int x), (2, .int b), (3, .int (nI (i + 1)))]) [0, 1, 2, 3] rfl ?_
      have e_1 : fa_bestS σ x i b = b := (by first | (simp [fa_bestS, c_1]; done) | (simp only [fa_bestS, if_neg c_1]; done))
      rw [e_1] at hk_i
      exact hk_i
    · skip
      refine tg_aload_n S 0 dX0_letterAnsweredBy_20 rfl rfl ?_
      refine tg_get (v := .ref (h 1)) S tw_v0 hK 2 rfl rfl 0 (by decide) (tw_in fl_RX0_46 rfl) dX0_letterAnsweredBy_21 rfl ?_
      refine tg_iload_n S 3 dX0_letterAnsweredBy_24 rfl rfl ?_
      refine tg_iload_n S 1 dX0_letterAnsweredBy_25 rfl rfl ?_
      refine tg_callN (nA := 2) (As := [.int (nI i), .int x]) (rest := []) (host := RX2) (q := (RX1, TX1, 9)) S hK hN (k_X1_isAnsweredBy hd σ (nI i) x) 1 rfl rfl (tw_gW co_X1_isAnsweredBy rfl) (List.mem_of_getElem? (i := 14) rfl) (tw_in in_RX1 rfl) (tw_in im_X1_isAnsweredBy rfl) (tw_in se_X1_isAnsweredBy rfl) rfl (by decide +kernel) ⟨Nat.le_of_ble_eq_true rfl, Nat.le_of_ble_eq_true rfl⟩ rfl rfl (Nat.le_of_ble_eq_true rfl) dX0_letterAnsweredBy_26 ⟨Nat.le_of_ble_eq_true rfl, Nat.le_of_ble_eq_true rfl⟩ ?_
      refine tg_ifz (tgt := 36) S dX0_letterAnsweredBy_29 (by decide) (fun c_3 => ?_) (fun c_3 => ?_)
      · skip
        refine tg_iconst (v := 0) S dX0_letterAnsweredBy_36 (by decide) ?_
        refine tg_istore (L' := [(0, .ref (h 2)), (1, .int x), (2, .int b), (3, .int (nI i)), (4, .int 0)]) [1, 2, 3, 4, 0] S dX0_letterAnsweredBy_37 (by decide) rfl ?_
        refine tg_iload S 4 dX0_letterAnsweredBy_39 rfl ?_
        refine tg_if_eq (tgt := 70) S dX0_letterAnsweredBy_41 (by decide) (fun _ => ?_) (fun c => absurd (by decide) c)
        refine tg_iinc (v := nI (i + 1)) (L' := [(0, .ref (h 2)), (1, .int x), (2, .int b), (3, .int (nI (i + 1))), (4, .int 0)]) [1, 2, 3, 0, 4] S 3 dX0_letterAnsweredBy_70 rfl (tg_inc _) (by decide) rfl ?_
        refine tg_goto (tgt := 4) S dX0_letterAnsweredBy_73 (by decide) ?_
        refine tg_sub (L' := [(0, .ref (h 2)), (1, .int x), (2, .int b), (3, .int (nI (i + 1)))]) [0, 1, 2, 3] rfl ?_
        have e_2 : fa_bestS σ x i b = b := (by first | (simp [fa_bestS, c_1, c_3]; done) | (simp only [fa_bestS, if_pos c_1, if_neg (ne_true_of_eq_false c_3)]; done))
        rw [e_2] at hk_i
        exact hk_i
      · skip
        refine tg_iconst (v := 1) S dX0_letterAnsweredBy_32 (by decide) ?_
        refine tg_goto (tgt := 37) S dX0_letterAnsweredBy_33 (by decide) ?_
        refine tg_istore (L' := [(0, .ref (h 2)), (1, .int x), (2, .int b), (3, .int (nI i)), (4, .int 1)]) [1, 2, 3, 4, 0] S dX0_letterAnsweredBy_37 (by decide) rfl ?_
        refine tg_iload S 4 dX0_letterAnsweredBy_39 rfl ?_
        refine tg_if_eq (tgt := 70) S dX0_letterAnsweredBy_41 (by decide) (fun c => absurd c (by decide)) (fun _ => ?_)
        refine tg_iload_n S 2 dX0_letterAnsweredBy_44 rfl rfl ?_
        refine tg_iconst (v := -1) S dX0_letterAnsweredBy_45 (by decide) ?_
        refine tg_icmp_eq (tgt := 68) S dX0_letterAnsweredBy_46 (by decide) (fun c_6 => ?_) (fun c_6 => ?_)
        · skip
          refine tg_iload_n S 3 dX0_letterAnsweredBy_68 rfl rfl ?_
          refine tg_istore_n (L' := [(0, .ref (h 2)), (1, .int x), (2, .int (nI i)), (3, .int (nI i)), (4, .int 1)]) [1, 2, 0, 3, 4] S dX0_letterAnsweredBy_69 rfl (by decide) rfl ?_
          refine tg_iinc (v := nI (i + 1)) (L' := [(0, .ref (h 2)), (1, .int x), (2, .int (nI i)), (3, .int (nI (i + 1))), (4, .int 1)]) [1, 2, 3, 0, 4] S 3 dX0_letterAnsweredBy_70 rfl (tg_inc _) (by decide) rfl ?_
          refine tg_goto (tgt := 4) S dX0_letterAnsweredBy_73 (by decide) ?_
          refine tg_sub (L' := [(0, .ref (h 2)), (1, .int x), (2, .int (nI i)), (3, .int (nI (i + 1)))]) [0, 1, 2, 3] rfl ?_
          have e_3 : fa_bestS σ x i b = nI i := (by first | (simp [fa_bestS, c_1, c_3, c_6]; done) | (simp only [fa_bestS, if_pos c_1, if_pos c_3, if_pos c_6]; done))
          rw [e_3] at hk_i
          exact hk_i
        · skip
          refine tg_aload_n S 0 dX0_letterAnsweredBy_49 rfl rfl ?_
          refine tg_get (v := .ref (h 1)) S tw_v0 hK 2 rfl rfl 0 (by decide) (tw_in fl_RX0_46 rfl) dX0_letterAnsweredBy_50 rfl ?_
          refine tg_iload_n S 3 dX0_letterAnsweredBy_53 rfl rfl ?_
          refine tg_callN (nA := 1) (As := [.int (nI i)]) (rest := []) (host := RX2) (q := (RX1, TX1, 9)) S hK hN (k_X1_dayOf hd σ (nI i)) 1 rfl rfl (tw_gW co_X1_dayOf rfl) (List.mem_of_getElem? (i := 15) rfl) (tw_in in_RX1 rfl) (tw_in im_X1_dayOf rfl) (tw_in se_X1_dayOf rfl) rfl (by decide +kernel) ⟨Nat.le_of_ble_eq_true rfl, Nat.le_of_ble_eq_true rfl⟩ rfl rfl (Nat.le_of_ble_eq_true rfl) dX0_letterAnsweredBy_54 ⟨Nat.le_of_ble_eq_true rfl, Nat.le_of_ble_eq_true rfl⟩ ?_
          refine tg_aload_n S 0 dX0_letterAnsweredBy_57 rfl rfl ?_
          refine tg_get (v := .ref (h 1)) S tw_v0 hK 2 rfl rfl 0 (by decide) (tw_in fl_RX0_46 rfl) dX0_letterAnsweredBy_58 rfl ?_
          refine tg_iload_n S 2 dX0_letterAnsweredBy_61 rfl rfl ?_
          refine tg_callN (nA := 1) (As := [.int b]) (rest := [.int (fa_dayOf σ (nI i))]) (host := RX2) (q := (RX1, TX1, 9)) S hK hN (k_X1_dayOf hd σ b) 1 rfl rfl (tw_gW co_X1_dayOf rfl) (List.mem_of_getElem? (i := 15) rfl) (tw_in in_RX1 rfl) (tw_in im_X1_dayOf rfl) (tw_in se_X1_dayOf rfl) rfl (by decide +kernel) ⟨Nat.le_of_ble_eq_true rfl, Nat.le_of_ble_eq_true rfl⟩ rfl rfl (Nat.le_of_ble_eq_true rfl) dX0_letterAnsweredBy_62 ⟨Nat.le_of_ble_eq_true rfl, Nat.le_of_ble_eq_true rfl⟩ ?_
          refine tg_icmp_le (tgt := 70) S dX0_letterAnsweredBy_65 (by decide) (fun c_7 => ?_) (fun c_7 => ?_)
          · skip
            refine tg_iinc (v := nI (i + 1)) (L' := [(0, .ref (h 2)), (1, .int x), (2, .int b), (3, .int (nI (i + 1))), (4, .int 1)]) [1, 2, 3, 0, 4] S 3 dX0_letterAnsweredBy_70 rfl (tg_inc _) (by decide) rfl ?_
            refine tg_goto (tgt := 4) S dX0_letterAnsweredBy_73 (by decide) ?_
            refine tg_sub (L' := [(0, .ref (h 2)), (1, .int x), (2, .int b), (3, .int (nI (i + 1)))]) [0, 1, 2, 3] rfl ?_
            have e_4 : fa_bestS σ x i b = b := (by first | (simp [fa_bestS, c_1, c_3, c_6, c_7]; done) | (simp only [fa_bestS, if_pos c_1, if_pos c_3, if_neg c_6, if_pos c_7]; done))
            rw [e_4] at hk_i
            exact hk_i
          · skip
            refine tg_iload_n S 3 dX0_letterAnsweredBy_68 rfl rfl ?_
            refine tg_istore_n (L' := [(0, .ref (h 2)), (1, .int x), (2, .int (nI i)), (3, .int (nI i)), (4, .int 1)]) [1, 2, 0, 3, 4] S dX0_letterAnsweredBy_69 rfl (by decide) rfl ?_
            refine tg_iinc (v := nI (i + 1)) (L' := [(0, .ref (h 2)), (1, .int x), (2, .int (nI i)), (3, .int (nI (i + 1))), (4, .int 1)]) [1, 2, 3, 0, 4] S 3 dX0_letterAnsweredBy_70 rfl (tg_inc _) (by decide) rfl ?_
            refine tg_goto (tgt := 4) S dX0_letterAnsweredBy_73 (by decide) ?_
            refine tg_sub (L' := [(0, .ref (h 2)), (1, .int x), (2, .int (nI i)), (3, .int (nI (i + 1)))]) [0, 1, 2, 3] rfl ?_
            have e_5 : fa_bestS σ x i b = nI i := (by first | (simp [fa_bestS, c_1, c_3, c_6, c_7]; done) | (simp only [fa_bestS, if_pos c_1, if_pos c_3, if_neg c_6, if_neg c_7]; done))
            rw [e_5] at hk_i
            exact hk_i
  · skip
    refine tg_iload_n S 3 dX0_letterAnsweredBy_4 rfl rfl ?_
    refine tg_bipush (v := 30) S dX0_letterAnsweredBy_5 (by decide) ?_
    refine tg_icmp_ge (tgt := 76) S dX0_letterAnsweredBy_7 (by decide) (fun _ => ?_) (fun c => absurd tg_ge c)
    refine tg_iload_n S 2 dX0_letterAnsweredBy_76 rfl rfl ?_
    exact tg_iret S hr hlk dX0_letterAnsweredBy_77 (by simp [fa_best]) rfl
set_option maxHeartbeats 4000000 in
set_option maxRecDepth 100000 in
theorem k_X0_hangReplies {l : Launch} {D : va_G} {h : Nat → Nat} {cI cZ : ClassId} (hd : tw_dis 23 h) (σ : tg_Mem)  : tg_CT l yX0_hangReplies wzX0_hangReplies (tg_rm 3) (tw_T h cI cZ) (tw_ty cI cZ) tw_nl (tw_A 23 h) D [.ref (h 2)] σ none (fa_hangReplies σ) := by
  refine tg_met (own := RX0) (cc := cX0_hangReplies) (maxL := 2) (ret := none) (by decide +kernel) rfl rfl (Nat.le_of_ble_eq_true rfl) ?_
  intro p e s m below meth c S hK hN hr hlk
  refine tg_sub (L' := [(0, .ref (h 2))]) [0] rfl ?_
  refine tg_iconst (v := nI 0) S dX0_hangReplies_0 (by decide) ?_
  refine tg_istore_n (L' := [(0, .ref (h 2)), (1, .int (nI 0))]) [1, 0] S dX0_hangReplies_1 rfl (by decide) rfl ?_
  refine tg_loop (X := tg_Mem) fa_hr 30 σ (fun τ => τ) (fun i τ => [(0, .ref (h 2)), (1, .int (nI i))]) ?_ ?_
  · skip
    intro i τ hi_i hk_i
    refine tg_iload_n S 1 dX0_hangReplies_2 rfl rfl ?_
    refine tg_bipush (v := 30) S dX0_hangReplies_3 (by decide) ?_
    refine tg_icmp_ge (tgt := 59) S dX0_hangReplies_5 (by decide) (fun c => absurd c (tg_nge hi_i)) (fun _ => ?_)
    refine tg_aload_n S 0 dX0_hangReplies_8 rfl rfl ?_
    refine tg_get (v := .ref (h 1)) S tw_v0 hK 2 rfl rfl 0 (by decide) (tw_in fl_RX0_46 rfl) dX0_hangReplies_9 rfl ?_
    refine tg_iload_n S 1 dX0_hangReplies_12 rfl rfl ?_
    refine tg_callN (nA := 1) (As := [.int (nI i)]) (rest := []) (host := RX2) (q := (RX1, TX1, 9)) S hK hN (k_X1_isReply hd τ (nI i)) 1 rfl rfl (tw_gW co_X1_isReply rfl) (List.mem_of_getElem? (i := 13) rfl) (tw_in in_RX1 rfl) (tw_in im_X1_isReply rfl) (tw_in se_X1_isReply rfl) rfl (by decide +kernel) ⟨Nat.le_of_ble_eq_true rfl, Nat.le_of_ble_eq_true rfl⟩ rfl rfl (Nat.le_of_ble_eq_true rfl) dX0_hangReplies_13 ⟨Nat.le_of_ble_eq_true rfl, Nat.le_of_ble_eq_true rfl⟩ ?_
    refine tg_ifz (tgt := 53) S dX0_hangReplies_16 (by decide) (fun c_1 => ?_) (fun c_1 => ?_)
    · skip
      refine tg_iinc (v := nI (i + 1)) (L' := [(0, .ref (h 2)), (1, .int (nI (i + 1)))]) [1, 0] S 1 dX0_hangReplies_53 rfl (tg_inc _) (by decide) rfl ?_
      refine tg_goto (tgt := 2) S dX0_hangReplies_56 (by decide) ?_
      have e_1 : fa_hr i τ = τ := (by first | (simp [fa_hr, c_1]; done) | (simp only [fa_hr, if_neg (ne_true_of_eq_false c_1)]; done))
      rw [e_1] at hk_i
      exact hk_i
    · skip
      refine tg_aload_n S 0 dX0_hangReplies_19 rfl rfl ?_
      refine tg_get (v := .ref (h 14)) S tw_v0 hK 2 rfl rfl 3 (by decide) (tw_in fl_RX0_19 rfl) dX0_hangReplies_20 rfl ?_
      refine tg_iload_n S 1 dX0_hangReplies_23 rfl rfl ?_
      refine tg_iald (v := τ 11 i) S hK 14 0 rfl rfl dX0_hangReplies_24 (tg_in hi_i (by decide)) (congrArg ((τ 11)) (tg_cl (Nat.lt_trans hi_i (by decide)))) ?_
      refine tg_iconst (v := -1) S dX0_hangReplies_25 (by decide) ?_
      refine tg_icmp_ne (tgt := 53) S dX0_hangReplies_26 (by decide) (fun c_2 => ?_) (fun c_2 => ?_)
      · skip
        refine tg_iinc (v := nI (i + 1)) (L' := [(0, .ref (h 2)), (1, .int (nI (i + 1)))]) [1, 0] S 1 dX0_hangReplies_53 rfl (tg_inc _) (by decide) rfl ?_
        refine tg_goto (tgt := 2) S dX0_hangReplies_56 (by decide) ?_
        have e_2 : fa_hr i τ = τ := (by first | (simp [fa_hr, c_1, c_2]; done) | (simp only [fa_hr, if_pos c_1, if_neg c_2]; done))
        rw [e_2] at hk_i
        exact hk_i
      · skip
        refine tg_aload_n S 0 dX0_hangReplies_29 rfl rfl ?_
        refine tg_get (v := .ref (h 1)) S tw_v0 hK 2 rfl rfl 0 (by decide) (tw_in fl_RX0_46 rfl) dX0_hangReplies_30 rfl ?_
        refine tg_iload_n S 1 dX0_hangReplies_33 rfl rfl ?_
        refine tg_callN (nA := 1) (As := [.int (nI i)]) (rest := []) (host := RX2) (q := (RX1, TX1, 9)) S hK hN (k_X1_handOf hd τ (nI i)) 1 rfl rfl (tw_gW co_X1_handOf rfl) (List.mem_of_getElem? (i := 11) rfl) (tw_in in_RX1 rfl) (tw_in im_X1_handOf rfl) (tw_in se_X1_handOf rfl) rfl (by decide +kernel) ⟨Nat.le_of_ble_eq_true rfl, Nat.le_of_ble_eq_true rfl⟩ rfl rfl (Nat.le_of_ble_eq_true rfl) dX0_hangReplies_34 ⟨Nat.le_of_ble_eq_true rfl, Nat.le_of_ble_eq_true rfl⟩ ?_
        refine tg_bipush (v := -2) S dX0_hangReplies_37 (by decide) ?_
        refine tg_icmp_eq (tgt := 53) S dX0_hangReplies_39 (by decide) (fun c_3 => ?_) (fun c_3 => ?_)
        · skip
          refine tg_iinc (v := nI (i + 1)) (L' := [(0, .ref (h 2)), (1, .int (nI (i + 1)))]) [1, 0] S 1 dX0_hangReplies_53 rfl (tg_inc _) (by decide) rfl ?_
          refine tg_goto (tgt := 2) S dX0_hangReplies_56 (by decide) ?_
          have e_3 : fa_hr i τ = τ := (by first | (simp [fa_hr, c_1, c_2, c_3]; done) | (simp only [fa_hr, if_pos c_1, if_pos c_2, if_pos c_3]; done))
          rw [e_3] at hk_i
          exact hk_i
        · skip
          refine tg_aload_n S 0 dX0_hangReplies_42 rfl rfl ?_
          refine tg_get (v := .ref (h 14)) S tw_v0 hK 2 rfl rfl 3 (by decide) (tw_in fl_RX0_19 rfl) dX0_hangReplies_43 rfl ?_
          refine tg_iload_n S 1 dX0_hangReplies_46 rfl rfl ?_
          refine tg_aload_n S 0 dX0_hangReplies_47 rfl rfl ?_
          refine tg_iload_n S 1 dX0_hangReplies_48 rfl rfl ?_
          refine tg_callV (nA := 1) (As := [.int (nI i)]) (rest := [.int (nI i), .ref (h 14)]) (q := (RX0, TX0, 13)) S hK hN (k_X0_letterAnsweredBy hd τ (nI i)) 2 rfl rfl (tw_gV ml_RX0_126 im_X0_letterAnsweredBy se_X0_letterAnsweredBy in_RX0 co_X0_letterAnsweredBy rfl) rfl (by decide +kernel) ⟨Nat.le_of_ble_eq_true rfl, Nat.le_of_ble_eq_true rfl⟩ rfl rfl (Nat.le_of_ble_eq_true rfl) dX0_hangReplies_49 ⟨Nat.le_of_ble_eq_true rfl, Nat.le_of_ble_eq_true rfl⟩ ?_
          refine tg_iast (σ2 := tg_set τ 11 i (fa_best τ (nI i))) S hK (tw_TD hd) 14 0 rfl rfl dX0_hangReplies_52 (tg_in hi_i (by decide)) (by rw [tg_cl (Nat.lt_trans hi_i (by decide))]; rfl) ?_
          refine tg_iinc (v := nI (i + 1)) (L' := [(0, .ref (h 2)), (1, .int (nI (i + 1)))]) [1, 0] S 1 dX0_hangReplies_53 rfl (tg_inc _) (by decide) rfl ?_
          refine tg_goto (tgt := 2) S dX0_hangReplies_56 (by decide) ?_
          have e_4 : fa_hr i τ = tg_set τ 11 i (fa_best τ (nI i)) := (by first | (simp [fa_hr, c_1, c_2, c_3]; done) | (simp only [fa_hr, if_pos c_1, if_pos c_2, if_neg c_3]; done))
          rw [e_4] at hk_i
          exact hk_i
  · skip
    refine tg_iload_n S 1 dX0_hangReplies_2 rfl rfl ?_
    refine tg_bipush (v := 30) S dX0_hangReplies_3 (by decide) ?_
    refine tg_icmp_ge (tgt := 59) S dX0_hangReplies_5 (by decide) (fun _ => ?_) (fun c => absurd tg_ge c)
    exact tg_vret S hr hlk dX0_hangReplies_59 (by simp [fa_hangReplies])
set_option maxHeartbeats 4000000 in
set_option maxRecDepth 100000 in
theorem k_X0_countUpwards {l : Launch} {D : va_G} {h : Nat → Nat} {cI cZ : ClassId} (hd : tw_dis 23 h) (σ : tg_Mem) (x : Int32) : tg_CT l yX0_countUpwards wzX0_countUpwards (tg_rm 2) (tw_T h cI cZ) (tw_ty cI cZ) tw_nl (tw_A 23 h) D [.ref (h 2), .int x] σ none (fa_upwards σ x) := by
  refine tg_met (own := RX0) (cc := cX0_countUpwards) (maxL := 5) (ret := none) (by decide +kernel) rfl rfl (Nat.le_of_ble_eq_true rfl) ?_
  intro p e s m below meth c S hK hN hr hlk
  obtain ⟨v0, hv0⟩ : ∃ v, fa_upwards σ x = v := ⟨_, rfl⟩
  rw [hv0]
  refine tg_sub (L' := [(0, .ref (h 2)), (1, .int x)]) [0, 1] rfl ?_
  refine tg_aload_n S 0 dX0_countUpwards_0 rfl rfl ?_
  refine tg_get (v := .ref (h 1)) S tw_v0 hK 2 rfl rfl 0 (by decide) (tw_in fl_RX0_46 rfl) dX0_countUpwards_1 rfl ?_
  refine tg_iload_n S 1 dX0_countUpwards_4 rfl rfl ?_
  refine tg_callN (nA := 1) (As := [.int x]) (rest := []) (host := RX2) (q := (RX1, TX1, 9)) S hK hN (k_X1_dayOf hd σ x) 1 rfl rfl (tw_gW co_X1_dayOf rfl) (List.mem_of_getElem? (i := 15) rfl) (tw_in in_RX1 rfl) (tw_in im_X1_dayOf rfl) (tw_in se_X1_dayOf rfl) rfl (by decide +kernel) ⟨Nat.le_of_ble_eq_true rfl, Nat.le_of_ble_eq_true rfl⟩ rfl rfl (Nat.le_of_ble_eq_true rfl) dX0_countUpwards_5 ⟨Nat.le_of_ble_eq_true rfl, Nat.le_of_ble_eq_true rfl⟩ ?_
  refine tg_istore_n (L' := [(0, .ref (h 2)), (1, .int x), (2, .int (fa_dayOf σ x))]) [1, 2, 0] S dX0_countUpwards_8 rfl (by decide) rfl ?_
  refine tg_iload_n S 1 dX0_countUpwards_9 rfl rfl ?_
  refine tg_istore_n (L' := [(0, .ref (h 2)), (1, .int x), (2, .int (fa_dayOf σ x)), (3, .int x)]) [1, 2, 3, 0] S dX0_countUpwards_10 rfl (by decide) rfl ?_
  refine tg_iconst (v := nI 0) S dX0_countUpwards_11 (by decide) ?_
  refine tg_istore (L' := [(0, .ref (h 2)), (1, .int x), (2, .int (fa_dayOf σ x)), (3, .int x), (4, .int (nI 0))]) [1, 2, 3, 4, 0] S dX0_countUpwards_12 (by decide) rfl ?_
  refine tg_fuel (X := Int32 × tg_Mem) (fa_upF (fa_dayOf σ x)) 30 (x, σ) (fun q => q.2) (fun i q => [(0, .ref (h 2)), (1, .int x), (2, .int (fa_dayOf σ x)), (3, .int q.1), (4, .int (nI i))]) hv0 ?_ ?_
  · skip
    intro n1 i q hn_i hF_i hk_i
    have hi_i : i < 30 := by omega
    refine tg_iload_n S 3 dX0_countUpwards_14 rfl rfl ?_
    refine tg_callSN (nA := 1) (As := [.int q.1]) (rest := []) (host := RX2) S hK hN (k_X2_isId hd q.2 q.1) (tw_gW co_X2_isId rfl) (List.mem_of_getElem? (i := 9) rfl) (tw_in in_RX2 rfl) (tw_in st_X2_isId rfl) rfl (by decide +kernel) ⟨Nat.le_of_ble_eq_true rfl, Nat.le_of_ble_eq_true rfl⟩ rfl rfl (Nat.le_of_ble_eq_true rfl) dX0_countUpwards_15 ⟨Nat.le_of_ble_eq_true rfl, Nat.le_of_ble_eq_true rfl⟩ ?_
    refine tg_ifz (tgt := 67) S dX0_countUpwards_18 (by decide) (fun c_1 => ?_) (fun c_1 => ?_)
    · skip
      exact tg_vret S hr hlk dX0_countUpwards_67 (((by first | (simp [fa_upF, fa_upS, c_1]; done) | (simp only [fa_upF, fa_upS, if_neg (ne_true_of_eq_false c_1)]; done)) : q.2 = fa_upF (fa_dayOf σ x) (n1 + 1) i q).trans hF_i)
    · skip
      refine tg_iload S 4 dX0_countUpwards_21 rfl ?_
      refine tg_bipush (v := 30) S dX0_countUpwards_23 (by decide) ?_
      refine tg_icmp_ge (tgt := 67) S dX0_countUpwards_25 (by decide) (fun c => absurd c (tg_nge hi_i)) (fun _ => ?_)
      refine tg_aload_n S 0 dX0_countUpwards_28 rfl rfl ?_
      refine tg_get (v := .ref (h 18)) S tw_v0 hK 2 rfl rfl 7 (by decide) (tw_in fl_RX0_31 rfl) dX0_countUpwards_29 rfl ?_
      refine tg_iload_n S 3 dX0_countUpwards_32 rfl rfl ?_
      refine tg_dup2 S dX0_countUpwards_33 rfl rfl ?_
      refine tg_iald (v := q.2 15 q.1.toNatClampNeg) S hK 18 0 rfl rfl dX0_countUpwards_34 (fa_id_in c_1) rfl ?_
      refine tg_iconst (v := 1) S dX0_countUpwards_35 (by decide) ?_
      refine tg_iadd S dX0_countUpwards_36 ?_
      refine tg_iast (σ2 := tg_set q.2 15 q.1.toNatClampNeg ((q.2 15 q.1.toNatClampNeg) + 1)) S hK (tw_TD hd) 18 0 rfl rfl dX0_countUpwards_37 (fa_id_in c_1) rfl ?_
      refine tg_aload_n S 0 dX0_countUpwards_38 rfl rfl ?_
      refine tg_get (v := .ref (h 16)) S tw_v0 hK 2 rfl rfl 5 (by decide) (tw_in fl_RX0_25 rfl) dX0_countUpwards_39 rfl ?_
      refine tg_iload_n S 3 dX0_countUpwards_42 rfl rfl ?_
      refine tg_aload_n S 0 dX0_countUpwards_43 rfl rfl ?_
      refine tg_get (v := .ref (h 16)) S tw_v0 hK 2 rfl rfl 5 (by decide) (tw_in fl_RX0_25 rfl) dX0_countUpwards_44 rfl ?_
      refine tg_iload_n S 3 dX0_countUpwards_47 rfl rfl ?_
      refine tg_iald (v := q.2 13 q.1.toNatClampNeg) S hK 16 0 rfl rfl dX0_countUpwards_48 (fa_id_in c_1) (by simp [tg_set, tg_upA, upd]) ?_
      refine tg_iload_n S 2 dX0_countUpwards_49 rfl rfl ?_
      refine tg_min S (tw_in ml_RX0_138 rfl) (tw_in st_Math_min rfl) (tw_in in_Math rfl) (tw_in co_Math_min rfl) (Nat.le_of_ble_eq_true rfl) (Nat.le_of_ble_eq_true rfl) ⟨Nat.le_of_ble_eq_true rfl, Nat.le_of_ble_eq_true rfl⟩ dX0_countUpwards_50 ?_
      refine tg_iast (σ2 := tg_set (tg_set q.2 15 q.1.toNatClampNeg ((q.2 15 q.1.toNatClampNeg) + 1)) 13 q.1.toNatClampNeg (if fa_dayOf σ x < q.2 13 q.1.toNatClampNeg then fa_dayOf σ x else q.2 13 q.1.toNatClampNeg)) S hK (tw_TD hd) 16 0 rfl rfl dX0_countUpwards_53 (fa_id_in c_1) rfl ?_
      refine tg_aload_n S 0 dX0_countUpwards_54 rfl rfl ?_
      refine tg_get (v := .ref (h 14)) S tw_v0 hK 2 rfl rfl 3 (by decide) (tw_in fl_RX0_19 rfl) dX0_countUpwards_55 rfl ?_
      refine tg_iload_n S 3 dX0_countUpwards_58 rfl rfl ?_
      refine tg_iald (v := q.2 11 q.1.toNatClampNeg) S hK 14 0 rfl rfl dX0_countUpwards_59 (fa_id_in c_1) (by simp [tg_set, tg_upA, upd]) ?_
      refine tg_istore_n (L' := [(0, .ref (h 2)), (1, .int x), (2, .int (fa_dayOf σ x)), (3, .int (q.2 11 q.1.toNatClampNeg)), (4, .int (nI i))]) [1, 2, 3, 0, 4] S dX0_countUpwards_60 rfl (by decide) rfl ?_
      refine tg_iinc (v := nI (i + 1)) (L' := [(0, .ref (h 2)), (1, .int x), (2, .int (fa_dayOf σ x)), (3, .int (q.2 11 q.1.toNatClampNeg)), (4, .int (nI (i + 1)))]) [1, 2, 3, 4, 0] S 4 dX0_countUpwards_61 rfl (tg_inc _) (by decide) rfl ?_
      refine tg_goto (tgt := 14) S dX0_countUpwards_64 (by decide) ?_
      exact hk_i (q.2 11 q.1.toNatClampNeg, tg_set (tg_set q.2 15 q.1.toNatClampNeg ((q.2 15 q.1.toNatClampNeg) + 1)) 13 q.1.toNatClampNeg (if fa_dayOf σ x < q.2 13 q.1.toNatClampNeg then fa_dayOf σ x else q.2 13 q.1.toNatClampNeg)) (((by first | (simp [fa_upF, fa_upS, c_1]; done) | (simp only [fa_upF, fa_upS, if_pos c_1]; done)) : fa_upF (fa_dayOf σ x) n1 (i + 1) (q.2 11 q.1.toNatClampNeg, tg_set (tg_set q.2 15 q.1.toNatClampNeg ((q.2 15 q.1.toNatClampNeg) + 1)) 13 q.1.toNatClampNeg (if fa_dayOf σ x < q.2 13 q.1.toNatClampNeg then fa_dayOf σ x else q.2 13 q.1.toNatClampNeg)) = fa_upF (fa_dayOf σ x) (n1 + 1) i q).trans hF_i)
  · skip
    intro q hF_i
    refine tg_iload_n S 3 dX0_countUpwards_14 rfl rfl ?_
    refine tg_callSN (nA := 1) (As := [.int q.1]) (rest := []) (host := RX2) S hK hN (k_X2_isId hd q.2 q.1) (tw_gW co_X2_isId rfl) (List.mem_of_getElem? (i := 9) rfl) (tw_in in_RX2 rfl) (tw_in st_X2_isId rfl) rfl (by decide +kernel) ⟨Nat.le_of_ble_eq_true rfl, Nat.le_of_ble_eq_true rfl⟩ rfl rfl (Nat.le_of_ble_eq_true rfl) dX0_countUpwards_15 ⟨Nat.le_of_ble_eq_true rfl, Nat.le_of_ble_eq_true rfl⟩ ?_
    refine tg_ifz (tgt := 67) S dX0_countUpwards_18 (by decide) (fun c_2 => ?_) (fun c_2 => ?_)
    · skip
      exact tg_vret S hr hlk dX0_countUpwards_67 (((by first | (simp [fa_upF, fa_upS, c_2]; done) | (simp only [fa_upF, fa_upS, if_neg (ne_true_of_eq_false c_2)]; done)) : q.2 = fa_upF (fa_dayOf σ x) 0 30 q).trans hF_i)
    · skip
      refine tg_iload S 4 dX0_countUpwards_21 rfl ?_
      refine tg_bipush (v := 30) S dX0_countUpwards_23 (by decide) ?_
      refine tg_icmp_ge (tgt := 67) S dX0_countUpwards_25 (by decide) (fun _ => ?_) (fun c => absurd tg_ge c)
      exact tg_vret S hr hlk dX0_countUpwards_67 (((by first | (simp [fa_upF, fa_upS, c_2]; done) | (simp only [fa_upF, fa_upS, if_pos c_2]; done)) : q.2 = fa_upF (fa_dayOf σ x) 0 30 q).trans hF_i)
set_option maxHeartbeats 4000000 in
set_option maxRecDepth 100000 in
theorem k_X0_measureTrees {l : Launch} {D : va_G} {h : Nat → Nat} {cI cZ : ClassId} (hd : tw_dis 23 h) (σ : tg_Mem)  : tg_CT l yX0_measureTrees wzX0_measureTrees (tg_rm 3) (tw_T h cI cZ) (tw_ty cI cZ) tw_nl (tw_A 23 h) D [.ref (h 2)] σ none (fa_measure σ) := by
  refine tg_met (own := RX0) (cc := cX0_measureTrees) (maxL := 2) (ret := none) (by decide +kernel) rfl rfl (Nat.le_of_ble_eq_true rfl) ?_
  intro p e s m below meth c S hK hN hr hlk
  refine tg_sub (L' := [(0, .ref (h 2))]) [0] rfl ?_
  refine tg_iconst (v := nI 0) S dX0_measureTrees_0 (by decide) ?_
  refine tg_istore_n (L' := [(0, .ref (h 2)), (1, .int (nI 0))]) [1, 0] S dX0_measureTrees_1 rfl (by decide) rfl ?_
  refine tg_loop (X := tg_Mem) fa_mt1 30 σ (fun τ => τ) (fun i τ => [(0, .ref (h 2)), (1, .int (nI i))]) ?_ ?_
  · skip
    intro i τ hi_i hk_i
    refine tg_iload_n S 1 dX0_measureTrees_2 rfl rfl ?_
    refine tg_bipush (v := 30) S dX0_measureTrees_3 (by decide) ?_
    refine tg_icmp_ge (tgt := 30) S dX0_measureTrees_5 (by decide) (fun c => absurd c (tg_nge hi_i)) (fun _ => ?_)
    refine tg_aload_n S 0 dX0_measureTrees_8 rfl rfl ?_
    refine tg_get (v := .ref (h 18)) S tw_v0 hK 2 rfl rfl 7 (by decide) (tw_in fl_RX0_31 rfl) dX0_measureTrees_9 rfl ?_
    refine tg_iload_n S 1 dX0_measureTrees_12 rfl rfl ?_
    refine tg_iconst (v := 0) S dX0_measureTrees_13 (by decide) ?_
    refine tg_iast (σ2 := tg_set τ 15 i 0) S hK (tw_TD hd) 18 0 rfl rfl dX0_measureTrees_14 (tg_in hi_i (by decide)) (by rw [tg_cl (Nat.lt_trans hi_i (by decide))]; rfl) ?_
    refine tg_aload_n S 0 dX0_measureTrees_15 rfl rfl ?_
    refine tg_get (v := .ref (h 16)) S tw_v0 hK 2 rfl rfl 5 (by decide) (tw_in fl_RX0_25 rfl) dX0_measureTrees_16 rfl ?_
    refine tg_iload_n S 1 dX0_measureTrees_19 rfl rfl ?_
    refine tg_sipush (v := 1000) S dX0_measureTrees_20 (by decide) ?_
    refine tg_iast (σ2 := tg_set (tg_set τ 15 i 0) 13 i 1000) S hK (tw_TD hd) 16 0 rfl rfl dX0_measureTrees_23 (tg_in hi_i (by decide)) (by rw [tg_cl (Nat.lt_trans hi_i (by decide))]; rfl) ?_
    refine tg_iinc (v := nI (i + 1)) (L' := [(0, .ref (h 2)), (1, .int (nI (i + 1)))]) [1, 0] S 1 dX0_measureTrees_24 rfl (tg_inc _) (by decide) rfl ?_
    refine tg_goto (tgt := 2) S dX0_measureTrees_27 (by decide) ?_
    have e_1 : fa_mt1 i τ = tg_set (tg_set τ 15 i 0) 13 i 1000 := (by first | (simp [fa_mt1]; done))
    rw [e_1] at hk_i
    exact hk_i
  · skip
    refine tg_iload_n S 1 dX0_measureTrees_2 rfl rfl ?_
    refine tg_bipush (v := 30) S dX0_measureTrees_3 (by decide) ?_
    refine tg_icmp_ge (tgt := 30) S dX0_measureTrees_5 (by decide) (fun _ => ?_) (fun c => absurd tg_ge c)
    refine tg_iconst (v := nI 0) S dX0_measureTrees_30 (by decide) ?_
    refine tg_istore_n (L' := [(0, .ref (h 2)), (1, .int (nI 0))]) [1, 0] S dX0_measureTrees_31 rfl (by decide) rfl ?_
    refine tg_loop (X := tg_Mem) fa_mt2 30 (tg_it fa_mt1 σ 30) (fun τ => τ) (fun i τ => [(0, .ref (h 2)), (1, .int (nI i))]) ?_ ?_
    · skip
      intro i τ hi_i hk_i
      refine tg_iload_n S 1 dX0_measureTrees_32 rfl rfl ?_
      refine tg_bipush (v := 30) S dX0_measureTrees_33 (by decide) ?_
      refine tg_icmp_ge (tgt := 58) S dX0_measureTrees_35 (by decide) (fun c => absurd c (tg_nge hi_i)) (fun _ => ?_)
      refine tg_aload_n S 0 dX0_measureTrees_38 rfl rfl ?_
      refine tg_get (v := .ref (h 15)) S tw_v0 hK 2 rfl rfl 4 (by decide) (tw_in fl_RX0_22 rfl) dX0_measureTrees_39 rfl ?_
      refine tg_iload_n S 1 dX0_measureTrees_42 rfl rfl ?_
      refine tg_zald (v := τ 12 i) S hK 15 1 rfl rfl dX0_measureTrees_43 (tg_in hi_i (by decide)) (congrArg ((τ 12)) (tg_cl (Nat.lt_trans hi_i (by decide)))) ?_
      refine tg_if_eq (tgt := 52) S dX0_measureTrees_44 (by decide) (fun c_1 => ?_) (fun c_1 => ?_)
      · skip
        refine tg_iinc (v := nI (i + 1)) (L' := [(0, .ref (h 2)), (1, .int (nI (i + 1)))]) [1, 0] S 1 dX0_measureTrees_52 rfl (tg_inc _) (by decide) rfl ?_
        refine tg_goto (tgt := 32) S dX0_measureTrees_55 (by decide) ?_
        have e_2 : fa_mt2 i τ = τ := (by first | (simp [fa_mt2, c_1]; done) | (simp only [fa_mt2, if_pos c_1]; done))
        rw [e_2] at hk_i
        exact hk_i
      · skip
        refine tg_aload_n S 0 dX0_measureTrees_47 rfl rfl ?_
        refine tg_iload_n S 1 dX0_measureTrees_48 rfl rfl ?_
        refine tg_callV (nA := 1) (As := [.int (nI i)]) (rest := []) (q := (RX0, TX0, 13)) S hK hN (k_X0_countUpwards hd τ (nI i)) 2 rfl rfl (tw_gV ml_RX0_135 im_X0_countUpwards se_X0_countUpwards in_RX0 co_X0_countUpwards rfl) rfl (by decide +kernel) ⟨Nat.le_of_ble_eq_true rfl, Nat.le_of_ble_eq_true rfl⟩ rfl rfl (Nat.le_of_ble_eq_true rfl) dX0_measureTrees_49 ⟨Nat.le_of_ble_eq_true rfl, Nat.le_of_ble_eq_true rfl⟩ ?_
        refine tg_iinc (v := nI (i + 1)) (L' := [(0, .ref (h 2)), (1, .int (nI (i + 1)))]) [1, 0] S 1 dX0_measureTrees_52 rfl (tg_inc _) (by decide) rfl ?_
        refine tg_goto (tgt := 32) S dX0_measureTrees_55 (by decide) ?_
        have e_3 : fa_mt2 i τ = fa_upwards τ (nI i) := (by first | (simp [fa_mt2, c_1]; done) | (simp only [fa_mt2, if_neg c_1]; done))
        rw [e_3] at hk_i
        exact hk_i
    · skip
      refine tg_iload_n S 1 dX0_measureTrees_32 rfl rfl ?_
      refine tg_bipush (v := 30) S dX0_measureTrees_33 (by decide) ?_
      refine tg_icmp_ge (tgt := 58) S dX0_measureTrees_35 (by decide) (fun _ => ?_) (fun c => absurd tg_ge c)
      refine tg_iconst (v := nI 0) S dX0_measureTrees_58 (by decide) ?_
      refine tg_istore_n (L' := [(0, .ref (h 2)), (1, .int (nI 0))]) [1, 0] S dX0_measureTrees_59 rfl (by decide) rfl ?_
      refine tg_loop (X := tg_Mem) fa_mt3 30 (tg_it fa_mt2 (tg_it fa_mt1 σ 30) 30) (fun τ => τ) (fun i τ => [(0, .ref (h 2)), (1, .int (nI i))]) ?_ ?_
      · skip
        intro i τ hi_i hk_i
        refine tg_iload_n S 1 dX0_measureTrees_60 rfl rfl ?_
        refine tg_bipush (v := 30) S dX0_measureTrees_61 (by decide) ?_
        refine tg_icmp_ge (tgt := 105) S dX0_measureTrees_63 (by decide) (fun c => absurd c (tg_nge hi_i)) (fun _ => ?_)
        refine tg_aload_n S 0 dX0_measureTrees_66 rfl rfl ?_
        refine tg_get (v := .ref (h 17)) S tw_v0 hK 2 rfl rfl 6 (by decide) (tw_in fl_RX0_28 rfl) dX0_measureTrees_67 rfl ?_
        refine tg_iload_n S 1 dX0_measureTrees_70 rfl rfl ?_
        refine tg_aload_n S 0 dX0_measureTrees_71 rfl rfl ?_
        refine tg_get (v := .ref (h 14)) S tw_v0 hK 2 rfl rfl 3 (by decide) (tw_in fl_RX0_19 rfl) dX0_measureTrees_72 rfl ?_
        refine tg_iload_n S 1 dX0_measureTrees_75 rfl rfl ?_
        refine tg_iald (v := τ 11 i) S hK 14 0 rfl rfl dX0_measureTrees_76 (tg_in hi_i (by decide)) (congrArg ((τ 11)) (tg_cl (Nat.lt_trans hi_i (by decide)))) ?_
        refine tg_iconst (v := -1) S dX0_measureTrees_77 (by decide) ?_
        refine tg_icmp_ne (tgt := 90) S dX0_measureTrees_78 (by decide) (fun c_2 => ?_) (fun c_2 => ?_)
        · skip
          refine tg_aload_n S 0 dX0_measureTrees_90 rfl rfl ?_
          refine tg_get (v := .ref (h 1)) S tw_v0 hK 2 rfl rfl 0 (by decide) (tw_in fl_RX0_46 rfl) dX0_measureTrees_91 rfl ?_
          refine tg_iload_n S 1 dX0_measureTrees_94 rfl rfl ?_
          refine tg_callN (nA := 1) (As := [.int (nI i)]) (rest := [.int (nI i), .ref (h 17)]) (host := RX2) (q := (RX1, TX1, 9)) S hK hN (k_X1_dayOf hd τ (nI i)) 1 rfl rfl (tw_gW co_X1_dayOf rfl) (List.mem_of_getElem? (i := 15) rfl) (tw_in in_RX1 rfl) (tw_in im_X1_dayOf rfl) (tw_in se_X1_dayOf rfl) rfl (by decide +kernel) ⟨Nat.le_of_ble_eq_true rfl, Nat.le_of_ble_eq_true rfl⟩ rfl rfl (Nat.le_of_ble_eq_true rfl) dX0_measureTrees_95 ⟨Nat.le_of_ble_eq_true rfl, Nat.le_of_ble_eq_true rfl⟩ ?_
          refine tg_iast (σ2 := tg_set τ 14 i (fa_dayOf τ (nI i))) S hK (tw_TD hd) 17 0 rfl rfl dX0_measureTrees_98 (tg_in hi_i (by decide)) (by rw [tg_cl (Nat.lt_trans hi_i (by decide))]; rfl) ?_
          refine tg_iinc (v := nI (i + 1)) (L' := [(0, .ref (h 2)), (1, .int (nI (i + 1)))]) [1, 0] S 1 dX0_measureTrees_99 rfl (tg_inc _) (by decide) rfl ?_
          refine tg_goto (tgt := 60) S dX0_measureTrees_102 (by decide) ?_
          have e_4 : fa_mt3 i τ = tg_set τ 14 i (fa_dayOf τ (nI i)) := (by first | (simp [fa_mt3, c_2]; done) | (simp only [fa_mt3, if_neg c_2]; done))
          rw [e_4] at hk_i
          exact hk_i
        · skip
          refine tg_aload_n S 0 dX0_measureTrees_81 rfl rfl ?_
          refine tg_get (v := .ref (h 16)) S tw_v0 hK 2 rfl rfl 5 (by decide) (tw_in fl_RX0_25 rfl) dX0_measureTrees_82 rfl ?_
          refine tg_iload_n S 1 dX0_measureTrees_85 rfl rfl ?_
          refine tg_iald (v := τ 13 i) S hK 16 0 rfl rfl dX0_measureTrees_86 (tg_in hi_i (by decide)) (congrArg ((τ 13)) (tg_cl (Nat.lt_trans hi_i (by decide)))) ?_
          refine tg_goto (tgt := 98) S dX0_measureTrees_87 (by decide) ?_
          refine tg_iast (σ2 := tg_set τ 14 i (τ 13 i)) S hK (tw_TD hd) 17 0 rfl rfl dX0_measureTrees_98 (tg_in hi_i (by decide)) (by rw [tg_cl (Nat.lt_trans hi_i (by decide))]; rfl) ?_
          refine tg_iinc (v := nI (i + 1)) (L' := [(0, .ref (h 2)), (1, .int (nI (i + 1)))]) [1, 0] S 1 dX0_measureTrees_99 rfl (tg_inc _) (by decide) rfl ?_
          refine tg_goto (tgt := 60) S dX0_measureTrees_102 (by decide) ?_
          have e_5 : fa_mt3 i τ = tg_set τ 14 i (τ 13 i) := (by first | (simp [fa_mt3, c_2]; done) | (simp only [fa_mt3, if_pos c_2]; done))
          rw [e_5] at hk_i
          exact hk_i
      · skip
        refine tg_iload_n S 1 dX0_measureTrees_60 rfl rfl ?_
        refine tg_bipush (v := 30) S dX0_measureTrees_61 (by decide) ?_
        refine tg_icmp_ge (tgt := 105) S dX0_measureTrees_63 (by decide) (fun _ => ?_) (fun c => absurd tg_ge c)
        exact tg_vret S hr hlk dX0_measureTrees_105 (by simp [fa_measure])
set_option maxHeartbeats 4000000 in
set_option maxRecDepth 100000 in
theorem k_X0_comesBefore {l : Launch} {D : va_G} {h : Nat → Nat} {cI cZ : ClassId} (hd : tw_dis 23 h) (σ : tg_Mem) (x : Int32) (y : Int32) : tg_CT l yX0_comesBefore wzX0_comesBefore (tg_rm 2) (tw_T h cI cZ) (tw_ty cI cZ) tw_nl (tw_A 23 h) D [.ref (h 2), .int x, .int y] σ (some (.int (tg_b (fa_before σ x y)))) σ := by
  refine tg_met (own := RX0) (cc := cX0_comesBefore) (maxL := 3) (ret := (some .boolean)) (by decide +kernel) rfl rfl (Nat.le_of_ble_eq_true rfl) ?_
  intro p e s m below meth c S hK hN hr hlk
  refine tg_sub (L' := [(0, .ref (h 2)), (1, .int x), (2, .int y)]) [0, 1, 2] rfl ?_
  refine tg_aload_n S 0 dX0_comesBefore_0 rfl rfl ?_
  refine tg_iload_n S 1 dX0_comesBefore_1 rfl rfl ?_
  refine tg_callV (nA := 1) (As := [.int x]) (rest := []) (q := (RX0, TX0, 13)) S hK hN (k_X0_contains hd σ x) 2 rfl rfl (tw_gV ml_RX0_54 im_X0_contains se_X0_contains in_RX0 co_X0_contains rfl) rfl (by decide +kernel) ⟨Nat.le_of_ble_eq_true rfl, Nat.le_of_ble_eq_true rfl⟩ rfl rfl (Nat.le_of_ble_eq_true rfl) dX0_comesBefore_2 ⟨Nat.le_of_ble_eq_true rfl, Nat.le_of_ble_eq_true rfl⟩ ?_
  refine tg_ifz (tgt := 31) S dX0_comesBefore_5 (by decide) (fun c_1 => ?_) (fun c_1 => ?_)
  · skip
    refine tg_iconst (v := 0) S dX0_comesBefore_31 (by decide) ?_
    exact tg_zret (b := false) S hr hlk dX0_comesBefore_32 (congrArg tg_b (by simp [fa_before, c_1])) rfl
  · skip
    refine tg_aload_n S 0 dX0_comesBefore_8 rfl rfl ?_
    refine tg_iload_n S 2 dX0_comesBefore_9 rfl rfl ?_
    refine tg_callV (nA := 1) (As := [.int y]) (rest := []) (q := (RX0, TX0, 13)) S hK hN (k_X0_contains hd σ y) 2 rfl rfl (tw_gV ml_RX0_54 im_X0_contains se_X0_contains in_RX0 co_X0_contains rfl) rfl (by decide +kernel) ⟨Nat.le_of_ble_eq_true rfl, Nat.le_of_ble_eq_true rfl⟩ rfl rfl (Nat.le_of_ble_eq_true rfl) dX0_comesBefore_10 ⟨Nat.le_of_ble_eq_true rfl, Nat.le_of_ble_eq_true rfl⟩ ?_
    refine tg_ifz (tgt := 31) S dX0_comesBefore_13 (by decide) (fun c_2 => ?_) (fun c_2 => ?_)
    · skip
      refine tg_iconst (v := 0) S dX0_comesBefore_31 (by decide) ?_
      exact tg_zret (b := false) S hr hlk dX0_comesBefore_32 (congrArg tg_b (by simp [fa_before, c_1, c_2])) rfl
    · skip
      refine tg_aload_n S 0 dX0_comesBefore_16 rfl rfl ?_
      refine tg_get (v := .ref (h 14)) S tw_v0 hK 2 rfl rfl 3 (by decide) (tw_in fl_RX0_19 rfl) dX0_comesBefore_17 rfl ?_
      refine tg_iload_n S 1 dX0_comesBefore_20 rfl rfl ?_
      refine tg_iald (v := σ 11 x.toNatClampNeg) S hK 14 0 rfl rfl dX0_comesBefore_21 (fa_cont_in c_1) rfl ?_
      refine tg_aload_n S 0 dX0_comesBefore_22 rfl rfl ?_
      refine tg_get (v := .ref (h 14)) S tw_v0 hK 2 rfl rfl 3 (by decide) (tw_in fl_RX0_19 rfl) dX0_comesBefore_23 rfl ?_
      refine tg_iload_n S 2 dX0_comesBefore_26 rfl rfl ?_
      refine tg_iald (v := σ 11 y.toNatClampNeg) S hK 14 0 rfl rfl dX0_comesBefore_27 (fa_cont_in c_2) rfl ?_
      refine tg_icmp_eq (tgt := 33) S dX0_comesBefore_28 (by decide) (fun c_3 => ?_) (fun c_3 => ?_)
      · skip
        refine tg_aload_n S 0 dX0_comesBefore_33 rfl rfl ?_
        refine tg_get (v := .ref (h 17)) S tw_v0 hK 2 rfl rfl 6 (by decide) (tw_in fl_RX0_28 rfl) dX0_comesBefore_34 rfl ?_
        refine tg_iload_n S 1 dX0_comesBefore_37 rfl rfl ?_
        refine tg_iald (v := σ 14 x.toNatClampNeg) S hK 17 0 rfl rfl dX0_comesBefore_38 (fa_cont_in c_1) rfl ?_
        refine tg_aload_n S 0 dX0_comesBefore_39 rfl rfl ?_
        refine tg_get (v := .ref (h 17)) S tw_v0 hK 2 rfl rfl 6 (by decide) (tw_in fl_RX0_28 rfl) dX0_comesBefore_40 rfl ?_
        refine tg_iload_n S 2 dX0_comesBefore_43 rfl rfl ?_
        refine tg_iald (v := σ 14 y.toNatClampNeg) S hK 17 0 rfl rfl dX0_comesBefore_44 (fa_cont_in c_2) rfl ?_
        refine tg_icmp_lt (tgt := 68) S dX0_comesBefore_45 (by decide) (fun c_4 => ?_) (fun c_4 => ?_)
        · skip
          refine tg_iconst (v := 1) S dX0_comesBefore_68 (by decide) ?_
          refine tg_goto (tgt := 73) S dX0_comesBefore_69 (by decide) ?_
          exact tg_zret (b := true) S hr hlk dX0_comesBefore_73 (congrArg tg_b (by simp [fa_before, c_1, c_2, c_3, c_4])) rfl
        · skip
          refine tg_aload_n S 0 dX0_comesBefore_48 rfl rfl ?_
          refine tg_get (v := .ref (h 17)) S tw_v0 hK 2 rfl rfl 6 (by decide) (tw_in fl_RX0_28 rfl) dX0_comesBefore_49 rfl ?_
          refine tg_iload_n S 1 dX0_comesBefore_52 rfl rfl ?_
          refine tg_iald (v := σ 14 x.toNatClampNeg) S hK 17 0 rfl rfl dX0_comesBefore_53 (fa_cont_in c_1) rfl ?_
          refine tg_aload_n S 0 dX0_comesBefore_54 rfl rfl ?_
          refine tg_get (v := .ref (h 17)) S tw_v0 hK 2 rfl rfl 6 (by decide) (tw_in fl_RX0_28 rfl) dX0_comesBefore_55 rfl ?_
          refine tg_iload_n S 2 dX0_comesBefore_58 rfl rfl ?_
          refine tg_iald (v := σ 14 y.toNatClampNeg) S hK 17 0 rfl rfl dX0_comesBefore_59 (fa_cont_in c_2) rfl ?_
          refine tg_icmp_ne (tgt := 72) S dX0_comesBefore_60 (by decide) (fun c_5 => ?_) (fun c_5 => ?_)
          · skip
            refine tg_iconst (v := 0) S dX0_comesBefore_72 (by decide) ?_
            exact tg_zret (b := false) S hr hlk dX0_comesBefore_73 (congrArg tg_b (by simp [fa_before, c_1, c_2, c_3, c_4, c_5])) rfl
          · skip
            refine tg_iload_n S 1 dX0_comesBefore_63 rfl rfl ?_
            refine tg_iload_n S 2 dX0_comesBefore_64 rfl rfl ?_
            refine tg_icmp_ge (tgt := 72) S dX0_comesBefore_65 (by decide) (fun c_6 => ?_) (fun c_6 => ?_)
            · skip
              refine tg_iconst (v := 0) S dX0_comesBefore_72 (by decide) ?_
              exact tg_zret (b := false) S hr hlk dX0_comesBefore_73 (congrArg tg_b (by simp [fa_before, c_1, c_2, c_3, c_4, c_5, c_6])) rfl
            · skip
              refine tg_iconst (v := 1) S dX0_comesBefore_68 (by decide) ?_
              refine tg_goto (tgt := 73) S dX0_comesBefore_69 (by decide) ?_
              exact tg_zret (b := true) S hr hlk dX0_comesBefore_73 (congrArg tg_b (by simp [fa_before, c_1, c_2, c_3, c_4, c_5, c_6])) rfl
      · skip
        refine tg_iconst (v := 0) S dX0_comesBefore_31 (by decide) ?_
        exact tg_zret (b := false) S hr hlk dX0_comesBefore_32 (congrArg tg_b (by simp [fa_before, c_1, c_2, c_3])) rfl
set_option maxHeartbeats 4000000 in
set_option maxRecDepth 100000 in
theorem k_X0_placeRoot {l : Launch} {D : va_G} {h : Nat → Nat} {cI cZ : ClassId} (hd : tw_dis 23 h) (σ : tg_Mem) (x : Int32) : tg_CT l yX0_placeRoot wzX0_placeRoot (tg_rm 3) (tw_T h cI cZ) (tw_ty cI cZ) tw_nl (tw_A 23 h) D [.ref (h 2), .int x] σ none (fa_placeRoot σ x) := by
  refine tg_met (own := RX0) (cc := cX0_placeRoot) (maxL := 4) (ret := none) (by decide +kernel) rfl rfl (Nat.le_of_ble_eq_true rfl) ?_
  intro p e s m below meth c S hK hN hr hlk
  refine tg_sub (L' := [(0, .ref (h 2)), (1, .int x)]) [0, 1] rfl ?_
  refine tg_iconst (v := 0) S dX0_placeRoot_0 (by decide) ?_
  refine tg_istore_n (L' := [(0, .ref (h 2)), (1, .int x), (2, .int 0)]) [1, 2, 0] S dX0_placeRoot_1 rfl (by decide) rfl ?_
  refine tg_iconst (v := nI 0) S dX0_placeRoot_2 (by decide) ?_
  refine tg_istore_n (L' := [(0, .ref (h 2)), (1, .int x), (2, .int 0), (3, .int (nI 0))]) [1, 2, 3, 0] S dX0_placeRoot_3 rfl (by decide) rfl ?_
  refine tg_loop (X := Int32) (fa_placeS σ x) 30 0 (fun b => σ) (fun i b => [(0, .ref (h 2)), (1, .int x), (2, .int b), (3, .int (nI i))]) ?_ ?_
  · skip
    intro i b hi_i hk_i
    refine tg_iload_n S 3 dX0_placeRoot_4 rfl rfl ?_
    refine tg_bipush (v := 30) S dX0_placeRoot_5 (by decide) ?_
    refine tg_icmp_ge (tgt := 28) S dX0_placeRoot_7 (by decide) (fun c => absurd c (tg_nge hi_i)) (fun _ => ?_)
    refine tg_aload_n S 0 dX0_placeRoot_10 rfl rfl ?_
    refine tg_iload_n S 3 dX0_placeRoot_11 rfl rfl ?_
    refine tg_iload_n S 1 dX0_placeRoot_12 rfl rfl ?_
    refine tg_callV (nA := 2) (As := [.int (nI i), .int x]) (rest := []) (q := (RX0, TX0, 13)) S hK hN (k_X0_comesBefore hd σ (nI i) x) 2 rfl rfl (tw_gV ml_RX0_147 im_X0_comesBefore se_X0_comesBefore in_RX0 co_X0_comesBefore rfl) rfl (by decide +kernel) ⟨Nat.le_of_ble_eq_true rfl, Nat.le_of_ble_eq_true rfl⟩ rfl rfl (Nat.le_of_ble_eq_true rfl) dX0_placeRoot_13 ⟨Nat.le_of_ble_eq_true rfl, Nat.le_of_ble_eq_true rfl⟩ ?_
    refine tg_ifz (tgt := 22) S dX0_placeRoot_16 (by decide) (fun c_1 => ?_) (fun c_1 => ?_)
    · skip
      refine tg_iinc (v := nI (i + 1)) (L' := [(0, .ref (h 2)), (1, .int x), (2, .int b), (3, .int (nI (i + 1)))]) [1, 2, 3, 0] S 3 dX0_placeRoot_22 rfl (tg_inc _) (by decide) rfl ?_
      refine tg_goto (tgt := 4) S dX0_placeRoot_25 (by decide) ?_
      have e_1 : fa_placeS σ x i b = b := (by first | (simp [fa_placeS, c_1]; done) | (simp only [fa_placeS, if_neg (ne_true_of_eq_false c_1)]; done))
      rw [e_1] at hk_i
      exact hk_i
    · skip
      refine tg_iinc (v := b + 1) (L' := [(0, .ref (h 2)), (1, .int x), (2, .int (b + 1)), (3, .int (nI i))]) [1, 2, 0, 3] S 2 dX0_placeRoot_19 rfl rfl (by decide) rfl ?_
      refine tg_iinc (v := nI (i + 1)) (L' := [(0, .ref (h 2)), (1, .int x), (2, .int (b + 1)), (3, .int (nI (i + 1)))]) [1, 2, 3, 0] S 3 dX0_placeRoot_22 rfl (tg_inc _) (by decide) rfl ?_
      refine tg_goto (tgt := 4) S dX0_placeRoot_25 (by decide) ?_
      have e_2 : fa_placeS σ x i b = b + 1 := (by first | (simp [fa_placeS, c_1]; done) | (simp only [fa_placeS, if_pos c_1]; done))
      rw [e_2] at hk_i
      exact hk_i
  · skip
    refine tg_iload_n S 3 dX0_placeRoot_4 rfl rfl ?_
    refine tg_bipush (v := 30) S dX0_placeRoot_5 (by decide) ?_
    refine tg_icmp_ge (tgt := 28) S dX0_placeRoot_7 (by decide) (fun _ => ?_) (fun c => absurd tg_ge c)
    refine tg_iload_n S 2 dX0_placeRoot_28 rfl rfl ?_
    refine tg_callSN (nA := 1) (As := [.int (tg_it (fa_placeS σ x) 0 30)]) (rest := []) (host := RX2) S hK hN (k_X2_isId hd σ (tg_it (fa_placeS σ x) 0 30)) (tw_gW co_X2_isId rfl) (List.mem_of_getElem? (i := 9) rfl) (tw_in in_RX2 rfl) (tw_in st_X2_isId rfl) rfl (by decide +kernel) ⟨Nat.le_of_ble_eq_true rfl, Nat.le_of_ble_eq_true rfl⟩ rfl rfl (Nat.le_of_ble_eq_true rfl) dX0_placeRoot_29 ⟨Nat.le_of_ble_eq_true rfl, Nat.le_of_ble_eq_true rfl⟩ ?_
    refine tg_ifz (tgt := 42) S dX0_placeRoot_32 (by decide) (fun c_2 => ?_) (fun c_2 => ?_)
    · skip
      exact tg_vret S hr hlk dX0_placeRoot_42 (by simp [fa_placeRoot, fa_place, c_2])
    · skip
      refine tg_aload_n S 0 dX0_placeRoot_35 rfl rfl ?_
      refine tg_get (v := .ref (h 22)) S tw_v0 hK 2 rfl rfl 11 (by decide) (tw_in fl_RX0_43 rfl) dX0_placeRoot_36 rfl ?_
      refine tg_iload_n S 2 dX0_placeRoot_39 rfl rfl ?_
      refine tg_iload_n S 1 dX0_placeRoot_40 rfl rfl ?_
      refine tg_iast (σ2 := tg_set σ 19 (tg_it (fa_placeS σ x) 0 30).toNatClampNeg x) S hK (tw_TD hd) 22 0 rfl rfl dX0_placeRoot_41 (fa_id_in c_2) rfl ?_
      exact tg_vret S hr hlk dX0_placeRoot_42 (by simp [fa_placeRoot, fa_place, c_2])
set_option maxHeartbeats 4000000 in
set_option maxRecDepth 100000 in
theorem k_X0_placeRoots {l : Launch} {D : va_G} {h : Nat → Nat} {cI cZ : ClassId} (hd : tw_dis 23 h) (σ : tg_Mem)  : tg_CT l yX0_placeRoots wzX0_placeRoots (tg_rm 4) (tw_T h cI cZ) (tw_ty cI cZ) tw_nl (tw_A 23 h) D [.ref (h 2)] σ none (fa_placeRoots σ) := by
  refine tg_met (own := RX0) (cc := cX0_placeRoots) (maxL := 2) (ret := none) (by decide +kernel) rfl rfl (Nat.le_of_ble_eq_true rfl) ?_
  intro p e s m below meth c S hK hN hr hlk
  refine tg_sub (L' := [(0, .ref (h 2))]) [0] rfl ?_
  refine tg_aload_n S 0 dX0_placeRoots_0 rfl rfl ?_
  refine tg_iconst (v := 0) S dX0_placeRoots_1 (by decide) ?_
  refine tg_put (σ2 := tg_set σ 20 0 0) S tw_v0 tyX0 tyX0_ok nmX0 hK (tw_TD hd) 2 rfl rfl 12 (by decide) (tw_in fl_RX0_57 rfl) dX0_placeRoots_2 rfl (by decide +kernel) (Nat.le_of_ble_eq_true rfl) rfl ?_
  refine tg_iconst (v := nI 0) S dX0_placeRoots_5 (by decide) ?_
  refine tg_istore_n (L' := [(0, .ref (h 2)), (1, .int (nI 0))]) [1, 0] S dX0_placeRoots_6 rfl (by decide) rfl ?_
  refine tg_loop (X := tg_Mem) fa_pr 30 (tg_set σ 20 0 0) (fun τ => τ) (fun i τ => [(0, .ref (h 2)), (1, .int (nI i))]) ?_ ?_
  · skip
    intro i τ hi_i hk_i
    refine tg_iload_n S 1 dX0_placeRoots_7 rfl rfl ?_
    refine tg_bipush (v := 30) S dX0_placeRoots_8 (by decide) ?_
    refine tg_icmp_ge (tgt := 53) S dX0_placeRoots_10 (by decide) (fun c => absurd c (tg_nge hi_i)) (fun _ => ?_)
    refine tg_aload_n S 0 dX0_placeRoots_13 rfl rfl ?_
    refine tg_get (v := .ref (h 15)) S tw_v0 hK 2 rfl rfl 4 (by decide) (tw_in fl_RX0_22 rfl) dX0_placeRoots_14 rfl ?_
    refine tg_iload_n S 1 dX0_placeRoots_17 rfl rfl ?_
    refine tg_zald (v := τ 12 i) S hK 15 1 rfl rfl dX0_placeRoots_18 (tg_in hi_i (by decide)) (congrArg ((τ 12)) (tg_cl (Nat.lt_trans hi_i (by decide)))) ?_
    refine tg_if_eq (tgt := 47) S dX0_placeRoots_19 (by decide) (fun c_1 => ?_) (fun c_1 => ?_)
    · skip
      refine tg_iinc (v := nI (i + 1)) (L' := [(0, .ref (h 2)), (1, .int (nI (i + 1)))]) [1, 0] S 1 dX0_placeRoots_47 rfl (tg_inc _) (by decide) rfl ?_
      refine tg_goto (tgt := 7) S dX0_placeRoots_50 (by decide) ?_
      have e_1 : fa_pr i τ = τ := (by first | (simp [fa_pr, c_1]; done) | (simp only [fa_pr, if_pos c_1]; done))
      rw [e_1] at hk_i
      exact hk_i
    · skip
      refine tg_aload_n S 0 dX0_placeRoots_22 rfl rfl ?_
      refine tg_get (v := .ref (h 14)) S tw_v0 hK 2 rfl rfl 3 (by decide) (tw_in fl_RX0_19 rfl) dX0_placeRoots_23 rfl ?_
      refine tg_iload_n S 1 dX0_placeRoots_26 rfl rfl ?_
      refine tg_iald (v := τ 11 i) S hK 14 0 rfl rfl dX0_placeRoots_27 (tg_in hi_i (by decide)) (congrArg ((τ 11)) (tg_cl (Nat.lt_trans hi_i (by decide)))) ?_
      refine tg_iconst (v := -1) S dX0_placeRoots_28 (by decide) ?_
      refine tg_icmp_ne (tgt := 47) S dX0_placeRoots_29 (by decide) (fun c_2 => ?_) (fun c_2 => ?_)
      · skip
        refine tg_iinc (v := nI (i + 1)) (L' := [(0, .ref (h 2)), (1, .int (nI (i + 1)))]) [1, 0] S 1 dX0_placeRoots_47 rfl (tg_inc _) (by decide) rfl ?_
        refine tg_goto (tgt := 7) S dX0_placeRoots_50 (by decide) ?_
        have e_2 : fa_pr i τ = τ := (by first | (simp [fa_pr, c_1, c_2]; done) | (simp only [fa_pr, if_neg c_1, if_neg c_2]; done))
        rw [e_2] at hk_i
        exact hk_i
      · skip
        refine tg_aload_n S 0 dX0_placeRoots_32 rfl rfl ?_
        refine tg_iload_n S 1 dX0_placeRoots_33 rfl rfl ?_
        refine tg_callV (nA := 1) (As := [.int (nI i)]) (rest := []) (q := (RX0, TX0, 13)) S hK hN (k_X0_placeRoot hd τ (nI i)) 2 rfl rfl (tw_gV ml_RX0_144 im_X0_placeRoot se_X0_placeRoot in_RX0 co_X0_placeRoot rfl) rfl (by decide +kernel) ⟨Nat.le_of_ble_eq_true rfl, Nat.le_of_ble_eq_true rfl⟩ rfl rfl (Nat.le_of_ble_eq_true rfl) dX0_placeRoots_34 ⟨Nat.le_of_ble_eq_true rfl, Nat.le_of_ble_eq_true rfl⟩ ?_
        refine tg_aload_n S 0 dX0_placeRoots_37 rfl rfl ?_
        refine tg_dup S dX0_placeRoots_38 rfl ?_
        refine tg_get (v := .int ((fa_placeRoot τ (nI i)) 20 0)) S tw_v0 hK 2 rfl rfl 12 (by decide) (tw_in fl_RX0_57 rfl) dX0_placeRoots_39 rfl ?_
        refine tg_iconst (v := 1) S dX0_placeRoots_42 (by decide) ?_
        refine tg_iadd S dX0_placeRoots_43 ?_
        refine tg_put (σ2 := tg_set (fa_placeRoot τ (nI i)) 20 0 (((fa_placeRoot τ (nI i)) 20 0) + 1)) S tw_v0 tyX0 tyX0_ok nmX0 hK (tw_TD hd) 2 rfl rfl 12 (by decide) (tw_in fl_RX0_57 rfl) dX0_placeRoots_44 rfl (by decide +kernel) (Nat.le_of_ble_eq_true rfl) rfl ?_
        refine tg_iinc (v := nI (i + 1)) (L' := [(0, .ref (h 2)), (1, .int (nI (i + 1)))]) [1, 0] S 1 dX0_placeRoots_47 rfl (tg_inc _) (by decide) rfl ?_
        refine tg_goto (tgt := 7) S dX0_placeRoots_50 (by decide) ?_
        have e_3 : fa_pr i τ = tg_set (fa_placeRoot τ (nI i)) 20 0 (((fa_placeRoot τ (nI i)) 20 0) + 1) := (by first | (simp [fa_pr, c_1, c_2]; done) | (simp only [fa_pr, if_neg c_1, if_pos c_2]; done))
        rw [e_3] at hk_i
        exact hk_i
  · skip
    refine tg_iload_n S 1 dX0_placeRoots_7 rfl rfl ?_
    refine tg_bipush (v := 30) S dX0_placeRoots_8 (by decide) ?_
    refine tg_icmp_ge (tgt := 53) S dX0_placeRoots_10 (by decide) (fun _ => ?_) (fun c => absurd tg_ge c)
    exact tg_vret S hr hlk dX0_placeRoots_53 (by simp [fa_placeRoots])
set_option maxHeartbeats 4000000 in
set_option maxRecDepth 100000 in
theorem k_X0_offsetBehindParent {l : Launch} {D : va_G} {h : Nat → Nat} {cI cZ : ClassId} (hd : tw_dis 23 h) (σ : tg_Mem) (x : Int32) : tg_CT l yX0_offsetBehindParent wzX0_offsetBehindParent (tg_rm 3) (tw_T h cI cZ) (tw_ty cI cZ) tw_nl (tw_A 23 h) D [.ref (h 2), .int x] σ (some (.int (fa_off σ x))) σ := by
  refine tg_met (own := RX0) (cc := cX0_offsetBehindParent) (maxL := 4) (ret := (some .int)) (by decide +kernel) rfl rfl (Nat.le_of_ble_eq_true rfl) ?_
  intro p e s m below meth c S hK hN hr hlk
  refine tg_sub (L' := [(0, .ref (h 2)), (1, .int x)]) [0, 1] rfl ?_
  refine tg_aload_n S 0 dX0_offsetBehindParent_0 rfl rfl ?_
  refine tg_iload_n S 1 dX0_offsetBehindParent_1 rfl rfl ?_
  refine tg_callV (nA := 1) (As := [.int x]) (rest := []) (q := (RX0, TX0, 13)) S hK hN (k_X0_parentIn hd σ x) 2 rfl rfl (tw_gV ml_RX0_61 im_X0_parentIn se_X0_parentIn in_RX0 co_X0_parentIn rfl) rfl (by decide +kernel) ⟨Nat.le_of_ble_eq_true rfl, Nat.le_of_ble_eq_true rfl⟩ rfl rfl (Nat.le_of_ble_eq_true rfl) dX0_offsetBehindParent_2 ⟨Nat.le_of_ble_eq_true rfl, Nat.le_of_ble_eq_true rfl⟩ ?_
  refine tg_iconst (v := -1) S dX0_offsetBehindParent_5 (by decide) ?_
  refine tg_icmp_ne (tgt := 13) S dX0_offsetBehindParent_6 (by decide) (fun c_1 => ?_) (fun c_1 => ?_)
  · skip
    refine tg_iconst (v := 1) S dX0_offsetBehindParent_13 (by decide) ?_
    refine tg_istore_n (L' := [(0, .ref (h 2)), (1, .int x), (2, .int 1)]) [1, 2, 0] S dX0_offsetBehindParent_14 rfl (by decide) rfl ?_
    refine tg_iconst (v := nI 0) S dX0_offsetBehindParent_15 (by decide) ?_
    refine tg_istore_n (L' := [(0, .ref (h 2)), (1, .int x), (2, .int 1), (3, .int (nI 0))]) [1, 2, 3, 0] S dX0_offsetBehindParent_16 rfl (by decide) rfl ?_
    refine tg_loop (X := Int32) (fa_offS σ x) 30 1 (fun b => σ) (fun i b => [(0, .ref (h 2)), (1, .int x), (2, .int b), (3, .int (nI i))]) ?_ ?_
    · skip
      intro i b hi_i hk_i
      refine tg_iload_n S 3 dX0_offsetBehindParent_17 rfl rfl ?_
      refine tg_bipush (v := 30) S dX0_offsetBehindParent_18 (by decide) ?_
      refine tg_icmp_ge (tgt := 47) S dX0_offsetBehindParent_20 (by decide) (fun c => absurd c (tg_nge hi_i)) (fun _ => ?_)
      refine tg_aload_n S 0 dX0_offsetBehindParent_23 rfl rfl ?_
      refine tg_iload_n S 3 dX0_offsetBehindParent_24 rfl rfl ?_
      refine tg_iload_n S 1 dX0_offsetBehindParent_25 rfl rfl ?_
      refine tg_callV (nA := 2) (As := [.int (nI i), .int x]) (rest := []) (q := (RX0, TX0, 13)) S hK hN (k_X0_comesBefore hd σ (nI i) x) 2 rfl rfl (tw_gV ml_RX0_147 im_X0_comesBefore se_X0_comesBefore in_RX0 co_X0_comesBefore rfl) rfl (by decide +kernel) ⟨Nat.le_of_ble_eq_true rfl, Nat.le_of_ble_eq_true rfl⟩ rfl rfl (Nat.le_of_ble_eq_true rfl) dX0_offsetBehindParent_26 ⟨Nat.le_of_ble_eq_true rfl, Nat.le_of_ble_eq_true rfl⟩ ?_
      refine tg_ifz (tgt := 41) S dX0_offsetBehindParent_29 (by decide) (fun c_2 => ?_) (fun c_2 => ?_)
      · skip
        refine tg_iinc (v := nI (i + 1)) (L' := [(0, .ref (h 2)), (1, .int x), (2, .int b), (3, .int (nI (i + 1)))]) [1, 2, 3, 0] S 3 dX0_offsetBehindParent_41 rfl (tg_inc _) (by decide) rfl ?_
        refine tg_goto (tgt := 17) S dX0_offsetBehindParent_44 (by decide) ?_
        have e_1 : fa_offS σ x i b = b := (by first | (simp [fa_offS, c_1, c_2]; done) | (simp only [fa_offS, if_neg c_1, if_neg (ne_true_of_eq_false c_2)]; done))
        rw [e_1] at hk_i
        exact hk_i
      · skip
        refine tg_iload_n S 2 dX0_offsetBehindParent_32 rfl rfl ?_
        refine tg_aload_n S 0 dX0_offsetBehindParent_33 rfl rfl ?_
        refine tg_get (v := .ref (h 18)) S tw_v0 hK 2 rfl rfl 7 (by decide) (tw_in fl_RX0_31 rfl) dX0_offsetBehindParent_34 rfl ?_
        refine tg_iload_n S 3 dX0_offsetBehindParent_37 rfl rfl ?_
        refine tg_iald (v := σ 15 i) S hK 18 0 rfl rfl dX0_offsetBehindParent_38 (tg_in hi_i (by decide)) (congrArg ((σ 15)) (tg_cl (Nat.lt_trans hi_i (by decide)))) ?_
        refine tg_iadd S dX0_offsetBehindParent_39 ?_
        refine tg_istore_n (L' := [(0, .ref (h 2)), (1, .int x), (2, .int (b + (σ 15 i))), (3, .int (nI i))]) [1, 2, 0, 3] S dX0_offsetBehindParent_40 rfl (by decide) rfl ?_
        refine tg_iinc (v := nI (i + 1)) (L' := [(0, .ref (h 2)), (1, .int x), (2, .int (b + (σ 15 i))), (3, .int (nI (i + 1)))]) [1, 2, 3, 0] S 3 dX0_offsetBehindParent_41 rfl (tg_inc _) (by decide) rfl ?_
        refine tg_goto (tgt := 17) S dX0_offsetBehindParent_44 (by decide) ?_
        have e_2 : fa_offS σ x i b = b + (σ 15 i) := (by first | (simp [fa_offS, c_1, c_2]; done) | (simp only [fa_offS, if_neg c_1, if_pos c_2]; done))
        rw [e_2] at hk_i
        exact hk_i
    · skip
      refine tg_iload_n S 3 dX0_offsetBehindParent_17 rfl rfl ?_
      refine tg_bipush (v := 30) S dX0_offsetBehindParent_18 (by decide) ?_
      refine tg_icmp_ge (tgt := 47) S dX0_offsetBehindParent_20 (by decide) (fun _ => ?_) (fun c => absurd tg_ge c)
      refine tg_iload_n S 2 dX0_offsetBehindParent_47 rfl rfl ?_
      exact tg_iret S hr hlk dX0_offsetBehindParent_48 (by simp [fa_off, c_1]) rfl
  · skip
    refine tg_iconst (v := 0) S dX0_offsetBehindParent_9 (by decide) ?_
    refine tg_goto (tgt := 14) S dX0_offsetBehindParent_10 (by decide) ?_
    refine tg_istore_n (L' := [(0, .ref (h 2)), (1, .int x), (2, .int 0)]) [1, 2, 0] S dX0_offsetBehindParent_14 rfl (by decide) rfl ?_
    refine tg_iconst (v := nI 0) S dX0_offsetBehindParent_15 (by decide) ?_
    refine tg_istore_n (L' := [(0, .ref (h 2)), (1, .int x), (2, .int 0), (3, .int (nI 0))]) [1, 2, 3, 0] S dX0_offsetBehindParent_16 rfl (by decide) rfl ?_
    refine tg_loop (X := Int32) (fa_offS σ x) 30 0 (fun b => σ) (fun i b => [(0, .ref (h 2)), (1, .int x), (2, .int b), (3, .int (nI i))]) ?_ ?_
    · skip
      intro i b hi_i hk_i
      refine tg_iload_n S 3 dX0_offsetBehindParent_17 rfl rfl ?_
      refine tg_bipush (v := 30) S dX0_offsetBehindParent_18 (by decide) ?_
      refine tg_icmp_ge (tgt := 47) S dX0_offsetBehindParent_20 (by decide) (fun c => absurd c (tg_nge hi_i)) (fun _ => ?_)
      refine tg_aload_n S 0 dX0_offsetBehindParent_23 rfl rfl ?_
      refine tg_iload_n S 3 dX0_offsetBehindParent_24 rfl rfl ?_
      refine tg_iload_n S 1 dX0_offsetBehindParent_25 rfl rfl ?_
      refine tg_callV (nA := 2) (As := [.int (nI i), .int x]) (rest := []) (q := (RX0, TX0, 13)) S hK hN (k_X0_comesBefore hd σ (nI i) x) 2 rfl rfl (tw_gV ml_RX0_147 im_X0_comesBefore se_X0_comesBefore in_RX0 co_X0_comesBefore rfl) rfl (by decide +kernel) ⟨Nat.le_of_ble_eq_true rfl, Nat.le_of_ble_eq_true rfl⟩ rfl rfl (Nat.le_of_ble_eq_true rfl) dX0_offsetBehindParent_26 ⟨Nat.le_of_ble_eq_true rfl, Nat.le_of_ble_eq_true rfl⟩ ?_
      refine tg_ifz (tgt := 41) S dX0_offsetBehindParent_29 (by decide) (fun c_3 => ?_) (fun c_3 => ?_)
      · skip
        refine tg_iinc (v := nI (i + 1)) (L' := [(0, .ref (h 2)), (1, .int x), (2, .int b), (3, .int (nI (i + 1)))]) [1, 2, 3, 0] S 3 dX0_offsetBehindParent_41 rfl (tg_inc _) (by decide) rfl ?_
        refine tg_goto (tgt := 17) S dX0_offsetBehindParent_44 (by decide) ?_
        have e_3 : fa_offS σ x i b = b := (by first | (simp [fa_offS, c_1, c_3]; done) | (simp only [fa_offS, if_pos c_1, if_neg (ne_true_of_eq_false c_3)]; done))
        rw [e_3] at hk_i
        exact hk_i
      · skip
        refine tg_iload_n S 2 dX0_offsetBehindParent_32 rfl rfl ?_
        refine tg_aload_n S 0 dX0_offsetBehindParent_33 rfl rfl ?_
        refine tg_get (v := .ref (h 18)) S tw_v0 hK 2 rfl rfl 7 (by decide) (tw_in fl_RX0_31 rfl) dX0_offsetBehindParent_34 rfl ?_
        refine tg_iload_n S 3 dX0_offsetBehindParent_37 rfl rfl ?_
        refine tg_iald (v := σ 15 i) S hK 18 0 rfl rfl dX0_offsetBehindParent_38 (tg_in hi_i (by decide)) (congrArg ((σ 15)) (tg_cl (Nat.lt_trans hi_i (by decide)))) ?_
        refine tg_iadd S dX0_offsetBehindParent_39 ?_
        refine tg_istore_n (L' := [(0, .ref (h 2)), (1, .int x), (2, .int (b + (σ 15 i))), (3, .int (nI i))]) [1, 2, 0, 3] S dX0_offsetBehindParent_40 rfl (by decide) rfl ?_
        refine tg_iinc (v := nI (i + 1)) (L' := [(0, .ref (h 2)), (1, .int x), (2, .int (b + (σ 15 i))), (3, .int (nI (i + 1)))]) [1, 2, 3, 0] S 3 dX0_offsetBehindParent_41 rfl (tg_inc _) (by decide) rfl ?_
        refine tg_goto (tgt := 17) S dX0_offsetBehindParent_44 (by decide) ?_
        have e_4 : fa_offS σ x i b = b + (σ 15 i) := (by first | (simp [fa_offS, c_1, c_3]; done) | (simp only [fa_offS, if_pos c_1, if_pos c_3]; done))
        rw [e_4] at hk_i
        exact hk_i
    · skip
      refine tg_iload_n S 3 dX0_offsetBehindParent_17 rfl rfl ?_
      refine tg_bipush (v := 30) S dX0_offsetBehindParent_18 (by decide) ?_
      refine tg_icmp_ge (tgt := 47) S dX0_offsetBehindParent_20 (by decide) (fun _ => ?_) (fun c => absurd tg_ge c)
      refine tg_iload_n S 2 dX0_offsetBehindParent_47 rfl rfl ?_
      exact tg_iret S hr hlk dX0_offsetBehindParent_48 (by simp [fa_off, c_1]) rfl
set_option maxHeartbeats 4000000 in
set_option maxRecDepth 100000 in
theorem k_X0_startInOrder {l : Launch} {D : va_G} {h : Nat → Nat} {cI cZ : ClassId} (hd : tw_dis 23 h) (σ : tg_Mem) (x : Int32) : tg_CT l yX0_startInOrder wzX0_startInOrder (tg_rm 1) (tw_T h cI cZ) (tw_ty cI cZ) tw_nl (tw_A 23 h) D [.ref (h 2), .int x] σ (some (.int (fa_start σ x))) σ := by
  refine tg_met (own := RX0) (cc := cX0_startInOrder) (maxL := 5) (ret := (some .int)) (by decide +kernel) rfl rfl (Nat.le_of_ble_eq_true rfl) ?_
  intro p e s m below meth c S hK hN hr hlk
  obtain ⟨v0, hv0⟩ : ∃ v, fa_start σ x = v := ⟨_, rfl⟩
  rw [hv0]
  refine tg_sub (L' := [(0, .ref (h 2)), (1, .int x)]) [0, 1] rfl ?_
  refine tg_iconst (v := 0) S dX0_startInOrder_0 (by decide) ?_
  refine tg_istore_n (L' := [(0, .ref (h 2)), (1, .int x), (2, .int 0)]) [1, 2, 0] S dX0_startInOrder_1 rfl (by decide) rfl ?_
  refine tg_iload_n S 1 dX0_startInOrder_2 rfl rfl ?_
  refine tg_istore_n (L' := [(0, .ref (h 2)), (1, .int x), (2, .int 0), (3, .int x)]) [1, 2, 3, 0] S dX0_startInOrder_3 rfl (by decide) rfl ?_
  refine tg_iconst (v := nI 0) S dX0_startInOrder_4 (by decide) ?_
  refine tg_istore (L' := [(0, .ref (h 2)), (1, .int x), (2, .int 0), (3, .int x), (4, .int (nI 0))]) [1, 2, 3, 4, 0] S dX0_startInOrder_5 (by decide) rfl ?_
  refine tg_fuel (X := Int32 × Int32) (fa_startF σ) 30 (0, x) (fun q => σ) (fun i q => [(0, .ref (h 2)), (1, .int x), (2, .int q.1), (3, .int q.2), (4, .int (nI i))]) hv0 ?_ ?_
  · skip
    intro n1 i q hn_i hF_i hk_i
    have hi_i : i < 30 := by omega
    refine tg_iload_n S 3 dX0_startInOrder_7 rfl rfl ?_
    refine tg_callSN (nA := 1) (As := [.int q.2]) (rest := []) (host := RX2) S hK hN (k_X2_isId hd σ q.2) (tw_gW co_X2_isId rfl) (List.mem_of_getElem? (i := 9) rfl) (tw_in in_RX2 rfl) (tw_in st_X2_isId rfl) rfl (by decide +kernel) ⟨Nat.le_of_ble_eq_true rfl, Nat.le_of_ble_eq_true rfl⟩ rfl rfl (Nat.le_of_ble_eq_true rfl) dX0_startInOrder_8 ⟨Nat.le_of_ble_eq_true rfl, Nat.le_of_ble_eq_true rfl⟩ ?_
    refine tg_ifz (tgt := 43) S dX0_startInOrder_11 (by decide) (fun c_1 => ?_) (fun c_1 => ?_)
    · skip
      refine tg_iload_n S 2 dX0_startInOrder_43 rfl rfl ?_
      exact tg_iret S hr hlk dX0_startInOrder_44 (((by first | (simp [fa_startF, c_1]; done) | (simp only [fa_startF, if_neg (ne_true_of_eq_false c_1)]; done)) : q.1 = fa_startF σ (n1 + 1) i q).trans hF_i) rfl
    · skip
      refine tg_iload S 4 dX0_startInOrder_14 rfl ?_
      refine tg_bipush (v := 30) S dX0_startInOrder_16 (by decide) ?_
      refine tg_icmp_ge (tgt := 43) S dX0_startInOrder_18 (by decide) (fun c => absurd c (tg_nge hi_i)) (fun _ => ?_)
      refine tg_iload_n S 2 dX0_startInOrder_21 rfl rfl ?_
      refine tg_aload_n S 0 dX0_startInOrder_22 rfl rfl ?_
      refine tg_get (v := .ref (h 19)) S tw_v0 hK 2 rfl rfl 8 (by decide) (tw_in fl_RX0_34 rfl) dX0_startInOrder_23 rfl ?_
      refine tg_iload_n S 3 dX0_startInOrder_26 rfl rfl ?_
      refine tg_iald (v := σ 16 q.2.toNatClampNeg) S hK 19 0 rfl rfl dX0_startInOrder_27 (fa_id_in c_1) rfl ?_
      refine tg_iadd S dX0_startInOrder_28 ?_
      refine tg_istore_n (L' := [(0, .ref (h 2)), (1, .int x), (2, .int (q.1 + (σ 16 q.2.toNatClampNeg))), (3, .int q.2), (4, .int (nI i))]) [1, 2, 0, 3, 4] S dX0_startInOrder_29 rfl (by decide) rfl ?_
      refine tg_aload_n S 0 dX0_startInOrder_30 rfl rfl ?_
      refine tg_get (v := .ref (h 14)) S tw_v0 hK 2 rfl rfl 3 (by decide) (tw_in fl_RX0_19 rfl) dX0_startInOrder_31 rfl ?_
      refine tg_iload_n S 3 dX0_startInOrder_34 rfl rfl ?_
      refine tg_iald (v := σ 11 q.2.toNatClampNeg) S hK 14 0 rfl rfl dX0_startInOrder_35 (fa_id_in c_1) rfl ?_
      refine tg_istore_n (L' := [(0, .ref (h 2)), (1, .int x), (2, .int (q.1 + (σ 16 q.2.toNatClampNeg))), (3, .int (σ 11 q.2.toNatClampNeg)), (4, .int (nI i))]) [1, 2, 3, 0, 4] S dX0_startInOrder_36 rfl (by decide) rfl ?_
      refine tg_iinc (v := nI (i + 1)) (L' := [(0, .ref (h 2)), (1, .int x), (2, .int (q.1 + (σ 16 q.2.toNatClampNeg))), (3, .int (σ 11 q.2.toNatClampNeg)), (4, .int (nI (i + 1)))]) [1, 2, 3, 4, 0] S 4 dX0_startInOrder_37 rfl (tg_inc _) (by decide) rfl ?_
      refine tg_goto (tgt := 7) S dX0_startInOrder_40 (by decide) ?_
      exact hk_i (q.1 + (σ 16 q.2.toNatClampNeg), σ 11 q.2.toNatClampNeg) (((by first | (simp [fa_startF, c_1]; done) | (simp only [fa_startF, if_pos c_1]; done)) : fa_startF σ n1 (i + 1) (q.1 + (σ 16 q.2.toNatClampNeg), σ 11 q.2.toNatClampNeg) = fa_startF σ (n1 + 1) i q).trans hF_i)
  · skip
    intro q hF_i
    refine tg_iload_n S 3 dX0_startInOrder_7 rfl rfl ?_
    refine tg_callSN (nA := 1) (As := [.int q.2]) (rest := []) (host := RX2) S hK hN (k_X2_isId hd σ q.2) (tw_gW co_X2_isId rfl) (List.mem_of_getElem? (i := 9) rfl) (tw_in in_RX2 rfl) (tw_in st_X2_isId rfl) rfl (by decide +kernel) ⟨Nat.le_of_ble_eq_true rfl, Nat.le_of_ble_eq_true rfl⟩ rfl rfl (Nat.le_of_ble_eq_true rfl) dX0_startInOrder_8 ⟨Nat.le_of_ble_eq_true rfl, Nat.le_of_ble_eq_true rfl⟩ ?_
    refine tg_ifz (tgt := 43) S dX0_startInOrder_11 (by decide) (fun c_2 => ?_) (fun c_2 => ?_)
    · skip
      refine tg_iload_n S 2 dX0_startInOrder_43 rfl rfl ?_
      exact tg_iret S hr hlk dX0_startInOrder_44 (((by first | (simp [fa_startF, c_2]; done) | (simp only [fa_startF, if_neg (ne_true_of_eq_false c_2)]; done)) : q.1 = fa_startF σ 0 30 q).trans hF_i) rfl
    · skip
      refine tg_iload S 4 dX0_startInOrder_14 rfl ?_
      refine tg_bipush (v := 30) S dX0_startInOrder_16 (by decide) ?_
      refine tg_icmp_ge (tgt := 43) S dX0_startInOrder_18 (by decide) (fun _ => ?_) (fun c => absurd tg_ge c)
      refine tg_iload_n S 2 dX0_startInOrder_43 rfl rfl ?_
      exact tg_iret S hr hlk dX0_startInOrder_44 (((by first | (simp [fa_startF, c_2]; done) | (simp only [fa_startF, if_pos c_2]; done)) : q.1 = fa_startF σ 0 30 q).trans hF_i) rfl
set_option maxHeartbeats 4000000 in
set_option maxRecDepth 100000 in
theorem k_X0_placeTrees {l : Launch} {D : va_G} {h : Nat → Nat} {cI cZ : ClassId} (hd : tw_dis 23 h) (σ : tg_Mem)  : tg_CT l yX0_placeTrees wzX0_placeTrees (tg_rm 4) (tw_T h cI cZ) (tw_ty cI cZ) tw_nl (tw_A 23 h) D [.ref (h 2)] σ none (fa_placeTrees σ) := by
  refine tg_met (own := RX0) (cc := cX0_placeTrees) (maxL := 2) (ret := none) (by decide +kernel) rfl rfl (Nat.le_of_ble_eq_true rfl) ?_
  intro p e s m below meth c S hK hN hr hlk
  refine tg_sub (L' := [(0, .ref (h 2))]) [0] rfl ?_
  refine tg_iconst (v := nI 0) S dX0_placeTrees_0 (by decide) ?_
  refine tg_istore_n (L' := [(0, .ref (h 2)), (1, .int (nI 0))]) [1, 0] S dX0_placeTrees_1 rfl (by decide) rfl ?_
  refine tg_loop (X := tg_Mem) fa_pt1 30 σ (fun τ => τ) (fun i τ => [(0, .ref (h 2)), (1, .int (nI i))]) ?_ ?_
  · skip
    intro i τ hi_i hk_i
    refine tg_iload_n S 1 dX0_placeTrees_2 rfl rfl ?_
    refine tg_bipush (v := 30) S dX0_placeTrees_3 (by decide) ?_
    refine tg_icmp_ge (tgt := 25) S dX0_placeTrees_5 (by decide) (fun c => absurd c (tg_nge hi_i)) (fun _ => ?_)
    refine tg_aload_n S 0 dX0_placeTrees_8 rfl rfl ?_
    refine tg_get (v := .ref (h 19)) S tw_v0 hK 2 rfl rfl 8 (by decide) (tw_in fl_RX0_34 rfl) dX0_placeTrees_9 rfl ?_
    refine tg_iload_n S 1 dX0_placeTrees_12 rfl rfl ?_
    refine tg_aload_n S 0 dX0_placeTrees_13 rfl rfl ?_
    refine tg_iload_n S 1 dX0_placeTrees_14 rfl rfl ?_
    refine tg_callV (nA := 1) (As := [.int (nI i)]) (rest := [.int (nI i), .ref (h 19)]) (q := (RX0, TX0, 13)) S hK hN (k_X0_offsetBehindParent hd τ (nI i)) 2 rfl rfl (tw_gV ml_RX0_150 im_X0_offsetBehindParent se_X0_offsetBehindParent in_RX0 co_X0_offsetBehindParent rfl) rfl (by decide +kernel) ⟨Nat.le_of_ble_eq_true rfl, Nat.le_of_ble_eq_true rfl⟩ rfl rfl (Nat.le_of_ble_eq_true rfl) dX0_placeTrees_15 ⟨Nat.le_of_ble_eq_true rfl, Nat.le_of_ble_eq_true rfl⟩ ?_
    refine tg_iast (σ2 := tg_set τ 16 i (fa_off τ (nI i))) S hK (tw_TD hd) 19 0 rfl rfl dX0_placeTrees_18 (tg_in hi_i (by decide)) (by rw [tg_cl (Nat.lt_trans hi_i (by decide))]; rfl) ?_
    refine tg_iinc (v := nI (i + 1)) (L' := [(0, .ref (h 2)), (1, .int (nI (i + 1)))]) [1, 0] S 1 dX0_placeTrees_19 rfl (tg_inc _) (by decide) rfl ?_
    refine tg_goto (tgt := 2) S dX0_placeTrees_22 (by decide) ?_
    have e_1 : fa_pt1 i τ = tg_set τ 16 i (fa_off τ (nI i)) := (by first | (simp [fa_pt1]; done))
    rw [e_1] at hk_i
    exact hk_i
  · skip
    refine tg_iload_n S 1 dX0_placeTrees_2 rfl rfl ?_
    refine tg_bipush (v := 30) S dX0_placeTrees_3 (by decide) ?_
    refine tg_icmp_ge (tgt := 25) S dX0_placeTrees_5 (by decide) (fun _ => ?_) (fun c => absurd tg_ge c)
    refine tg_iconst (v := nI 0) S dX0_placeTrees_25 (by decide) ?_
    refine tg_istore_n (L' := [(0, .ref (h 2)), (1, .int (nI 0))]) [1, 0] S dX0_placeTrees_26 rfl (by decide) rfl ?_
    refine tg_loop (X := tg_Mem) fa_pt2 30 (tg_it fa_pt1 σ 30) (fun τ => τ) (fun i τ => [(0, .ref (h 2)), (1, .int (nI i))]) ?_ ?_
    · skip
      intro i τ hi_i hk_i
      refine tg_iload_n S 1 dX0_placeTrees_27 rfl rfl ?_
      refine tg_bipush (v := 30) S dX0_placeTrees_28 (by decide) ?_
      refine tg_icmp_ge (tgt := 83) S dX0_placeTrees_30 (by decide) (fun c => absurd c (tg_nge hi_i)) (fun _ => ?_)
      refine tg_aload_n S 0 dX0_placeTrees_33 rfl rfl ?_
      refine tg_get (v := .ref (h 20)) S tw_v0 hK 2 rfl rfl 9 (by decide) (tw_in fl_RX0_37 rfl) dX0_placeTrees_34 rfl ?_
      refine tg_iload_n S 1 dX0_placeTrees_37 rfl rfl ?_
      refine tg_aload_n S 0 dX0_placeTrees_38 rfl rfl ?_
      refine tg_iload_n S 1 dX0_placeTrees_39 rfl rfl ?_
      refine tg_callV (nA := 1) (As := [.int (nI i)]) (rest := [.int (nI i), .ref (h 20)]) (q := (RX0, TX0, 13)) S hK hN (k_X0_startInOrder hd τ (nI i)) 2 rfl rfl (tw_gV ml_RX0_153 im_X0_startInOrder se_X0_startInOrder in_RX0 co_X0_startInOrder rfl) rfl (by decide +kernel) ⟨Nat.le_of_ble_eq_true rfl, Nat.le_of_ble_eq_true rfl⟩ rfl rfl (Nat.le_of_ble_eq_true rfl) dX0_placeTrees_40 ⟨Nat.le_of_ble_eq_true rfl, Nat.le_of_ble_eq_true rfl⟩ ?_
      refine tg_iast (σ2 := tg_set τ 17 i (fa_start τ (nI i))) S hK (tw_TD hd) 20 0 rfl rfl dX0_placeTrees_43 (tg_in hi_i (by decide)) (by rw [tg_cl (Nat.lt_trans hi_i (by decide))]; rfl) ?_
      refine tg_aload_n S 0 dX0_placeTrees_44 rfl rfl ?_
      refine tg_get (v := .ref (h 15)) S tw_v0 hK 2 rfl rfl 4 (by decide) (tw_in fl_RX0_22 rfl) dX0_placeTrees_45 rfl ?_
      refine tg_iload_n S 1 dX0_placeTrees_48 rfl rfl ?_
      refine tg_zald (v := τ 12 i) S hK 15 1 rfl rfl dX0_placeTrees_49 (tg_in hi_i (by decide)) (by simp [tg_set, tg_upA, upd, (tg_cl (Nat.lt_trans hi_i (by decide)))]) ?_
      refine tg_if_eq (tgt := 77) S dX0_placeTrees_50 (by decide) (fun c_1 => ?_) (fun c_1 => ?_)
      · skip
        refine tg_iinc (v := nI (i + 1)) (L' := [(0, .ref (h 2)), (1, .int (nI (i + 1)))]) [1, 0] S 1 dX0_placeTrees_77 rfl (tg_inc _) (by decide) rfl ?_
        refine tg_goto (tgt := 27) S dX0_placeTrees_80 (by decide) ?_
        have e_2 : fa_pt2 i τ = tg_set τ 17 i (fa_start τ (nI i)) := (by first | (simp [fa_pt2, c_1]; done) | (simp only [fa_pt2, if_pos c_1]; done))
        rw [e_2] at hk_i
        exact hk_i
      · skip
        refine tg_aload_n S 0 dX0_placeTrees_53 rfl rfl ?_
        refine tg_get (v := .ref (h 20)) S tw_v0 hK 2 rfl rfl 9 (by decide) (tw_in fl_RX0_37 rfl) dX0_placeTrees_54 rfl ?_
        refine tg_iload_n S 1 dX0_placeTrees_57 rfl rfl ?_
        refine tg_iald (v := fa_start τ (nI i)) S hK 20 0 rfl rfl dX0_placeTrees_58 (tg_in hi_i (by decide)) (by simp [tg_set, tg_upA, upd, (tg_cl (Nat.lt_trans hi_i (by decide)))]) ?_
        refine tg_callSN (nA := 1) (As := [.int (fa_start τ (nI i))]) (rest := []) (host := RX2) S hK hN (k_X2_isId hd (tg_set τ 17 i (fa_start τ (nI i))) (fa_start τ (nI i))) (tw_gW co_X2_isId rfl) (List.mem_of_getElem? (i := 9) rfl) (tw_in in_RX2 rfl) (tw_in st_X2_isId rfl) rfl (by decide +kernel) ⟨Nat.le_of_ble_eq_true rfl, Nat.le_of_ble_eq_true rfl⟩ rfl rfl (Nat.le_of_ble_eq_true rfl) dX0_placeTrees_59 ⟨Nat.le_of_ble_eq_true rfl, Nat.le_of_ble_eq_true rfl⟩ ?_
        refine tg_ifz (tgt := 77) S dX0_placeTrees_62 (by decide) (fun c_2 => ?_) (fun c_2 => ?_)
        · skip
          refine tg_iinc (v := nI (i + 1)) (L' := [(0, .ref (h 2)), (1, .int (nI (i + 1)))]) [1, 0] S 1 dX0_placeTrees_77 rfl (tg_inc _) (by decide) rfl ?_
          refine tg_goto (tgt := 27) S dX0_placeTrees_80 (by decide) ?_
          have e_3 : fa_pt2 i τ = tg_set τ 17 i (fa_start τ (nI i)) := (by first | (simp [fa_pt2, c_1, c_2]; done) | (simp only [fa_pt2, if_neg c_1, if_neg (ne_true_of_eq_false c_2)]; done))
          rw [e_3] at hk_i
          exact hk_i
        · skip
          refine tg_aload_n S 0 dX0_placeTrees_65 rfl rfl ?_
          refine tg_get (v := .ref (h 21)) S tw_v0 hK 2 rfl rfl 10 (by decide) (tw_in fl_RX0_40 rfl) dX0_placeTrees_66 rfl ?_
          refine tg_aload_n S 0 dX0_placeTrees_69 rfl rfl ?_
          refine tg_get (v := .ref (h 20)) S tw_v0 hK 2 rfl rfl 9 (by decide) (tw_in fl_RX0_37 rfl) dX0_placeTrees_70 rfl ?_
          refine tg_iload_n S 1 dX0_placeTrees_73 rfl rfl ?_
          refine tg_iald (v := fa_start τ (nI i)) S hK 20 0 rfl rfl dX0_placeTrees_74 (tg_in hi_i (by decide)) (by simp [tg_set, tg_upA, upd, (tg_cl (Nat.lt_trans hi_i (by decide)))]) ?_
          refine tg_iload_n S 1 dX0_placeTrees_75 rfl rfl ?_
          refine tg_iast (σ2 := tg_set (tg_set τ 17 i (fa_start τ (nI i))) 18 (fa_start τ (nI i)).toNatClampNeg (nI i)) S hK (tw_TD hd) 21 0 rfl rfl dX0_placeTrees_76 (fa_id_in c_2) rfl ?_
          refine tg_iinc (v := nI (i + 1)) (L' := [(0, .ref (h 2)), (1, .int (nI (i + 1)))]) [1, 0] S 1 dX0_placeTrees_77 rfl (tg_inc _) (by decide) rfl ?_
          refine tg_goto (tgt := 27) S dX0_placeTrees_80 (by decide) ?_
          have e_4 : fa_pt2 i τ = tg_set (tg_set τ 17 i (fa_start τ (nI i))) 18 (fa_start τ (nI i)).toNatClampNeg (nI i) := (by first | (simp [fa_pt2, c_1, c_2]; done) | (simp only [fa_pt2, if_neg c_1, if_pos c_2]; done))
          rw [e_4] at hk_i
          exact hk_i
    · skip
      refine tg_iload_n S 1 dX0_placeTrees_27 rfl rfl ?_
      refine tg_bipush (v := 30) S dX0_placeTrees_28 (by decide) ?_
      refine tg_icmp_ge (tgt := 83) S dX0_placeTrees_30 (by decide) (fun _ => ?_) (fun c => absurd tg_ge c)
      exact tg_vret S hr hlk dX0_placeTrees_83 (by simp [fa_placeTrees])
set_option maxHeartbeats 4000000 in
set_option maxRecDepth 100000 in
theorem k_X0_grow {l : Launch} {D : va_G} {h : Nat → Nat} {cI cZ : ClassId} (hd : tw_dis 23 h) (σ : tg_Mem)  : tg_CT l yX0_grow wzX0_grow (tg_rm 5) (tw_T h cI cZ) (tw_ty cI cZ) tw_nl (tw_A 23 h) D [.ref (h 2)] σ none (fa_grow σ) := by
  refine tg_met (own := RX0) (cc := cX0_grow) (maxL := 1) (ret := none) (by decide +kernel) rfl rfl (Nat.le_of_ble_eq_true rfl) ?_
  intro p e s m below meth c S hK hN hr hlk
  refine tg_sub (L' := [(0, .ref (h 2))]) [0] rfl ?_
  refine tg_aload_n S 0 dX0_grow_0 rfl rfl ?_
  refine tg_callV (nA := 0) (As := []) (rest := []) (q := (RX0, TX0, 13)) S hK hN (k_X0_findKnown hd σ ) 2 rfl rfl (tw_gV ml_RX0_65 im_X0_findKnown se_X0_findKnown in_RX0 co_X0_findKnown rfl) rfl (by decide +kernel) ⟨Nat.le_of_ble_eq_true rfl, Nat.le_of_ble_eq_true rfl⟩ rfl rfl (Nat.le_of_ble_eq_true rfl) dX0_grow_1 ⟨Nat.le_of_ble_eq_true rfl, Nat.le_of_ble_eq_true rfl⟩ ?_
  refine tg_aload_n S 0 dX0_grow_4 rfl rfl ?_
  refine tg_callV (nA := 0) (As := []) (rest := []) (q := (RX0, TX0, 13)) S hK hN (k_X0_linkKnown hd (fa_findKnown σ) ) 2 rfl rfl (tw_gV ml_RX0_68 im_X0_linkKnown se_X0_linkKnown in_RX0 co_X0_linkKnown rfl) rfl (by decide +kernel) ⟨Nat.le_of_ble_eq_true rfl, Nat.le_of_ble_eq_true rfl⟩ rfl rfl (Nat.le_of_ble_eq_true rfl) dX0_grow_5 ⟨Nat.le_of_ble_eq_true rfl, Nat.le_of_ble_eq_true rfl⟩ ?_
  refine tg_aload_n S 0 dX0_grow_8 rfl rfl ?_
  refine tg_callV (nA := 0) (As := []) (rest := []) (q := (RX0, TX0, 13)) S hK hN (k_X0_hangByLinks hd (fa_linkKnown (fa_findKnown σ)) ) 2 rfl rfl (tw_gV ml_RX0_71 im_X0_hangByLinks se_X0_hangByLinks in_RX0 co_X0_hangByLinks rfl) rfl (by decide +kernel) ⟨Nat.le_of_ble_eq_true rfl, Nat.le_of_ble_eq_true rfl⟩ rfl rfl (Nat.le_of_ble_eq_true rfl) dX0_grow_9 ⟨Nat.le_of_ble_eq_true rfl, Nat.le_of_ble_eq_true rfl⟩ ?_
  refine tg_aload_n S 0 dX0_grow_12 rfl rfl ?_
  refine tg_callV (nA := 0) (As := []) (rest := []) (q := (RX0, TX0, 13)) S hK hN (k_X0_keepMissing hd (fa_hangByLinks (fa_linkKnown (fa_findKnown σ))) ) 2 rfl rfl (tw_gV ml_RX0_74 im_X0_keepMissing se_X0_keepMissing in_RX0 co_X0_keepMissing rfl) rfl (by decide +kernel) ⟨Nat.le_of_ble_eq_true rfl, Nat.le_of_ble_eq_true rfl⟩ rfl rfl (Nat.le_of_ble_eq_true rfl) dX0_grow_13 ⟨Nat.le_of_ble_eq_true rfl, Nat.le_of_ble_eq_true rfl⟩ ?_
  refine tg_aload_n S 0 dX0_grow_16 rfl rfl ?_
  refine tg_callV (nA := 0) (As := []) (rest := []) (q := (RX0, TX0, 13)) S hK hN (k_X0_hangReplies hd (fa_keepMissing (fa_hangByLinks (fa_linkKnown (fa_findKnown σ)))) ) 2 rfl rfl (tw_gV ml_RX0_77 im_X0_hangReplies se_X0_hangReplies in_RX0 co_X0_hangReplies rfl) rfl (by decide +kernel) ⟨Nat.le_of_ble_eq_true rfl, Nat.le_of_ble_eq_true rfl⟩ rfl rfl (Nat.le_of_ble_eq_true rfl) dX0_grow_17 ⟨Nat.le_of_ble_eq_true rfl, Nat.le_of_ble_eq_true rfl⟩ ?_
  refine tg_aload_n S 0 dX0_grow_20 rfl rfl ?_
  refine tg_callV (nA := 0) (As := []) (rest := []) (q := (RX0, TX0, 13)) S hK hN (k_X0_measureTrees hd (fa_hangReplies (fa_keepMissing (fa_hangByLinks (fa_linkKnown (fa_findKnown σ))))) ) 2 rfl rfl (tw_gV ml_RX0_80 im_X0_measureTrees se_X0_measureTrees in_RX0 co_X0_measureTrees rfl) rfl (by decide +kernel) ⟨Nat.le_of_ble_eq_true rfl, Nat.le_of_ble_eq_true rfl⟩ rfl rfl (Nat.le_of_ble_eq_true rfl) dX0_grow_21 ⟨Nat.le_of_ble_eq_true rfl, Nat.le_of_ble_eq_true rfl⟩ ?_
  refine tg_aload_n S 0 dX0_grow_24 rfl rfl ?_
  refine tg_callV (nA := 0) (As := []) (rest := []) (q := (RX0, TX0, 13)) S hK hN (k_X0_placeRoots hd (fa_measure (fa_hangReplies (fa_keepMissing (fa_hangByLinks (fa_linkKnown (fa_findKnown σ)))))) ) 2 rfl rfl (tw_gV ml_RX0_83 im_X0_placeRoots se_X0_placeRoots in_RX0 co_X0_placeRoots rfl) rfl (by decide +kernel) ⟨Nat.le_of_ble_eq_true rfl, Nat.le_of_ble_eq_true rfl⟩ rfl rfl (Nat.le_of_ble_eq_true rfl) dX0_grow_25 ⟨Nat.le_of_ble_eq_true rfl, Nat.le_of_ble_eq_true rfl⟩ ?_
  refine tg_aload_n S 0 dX0_grow_28 rfl rfl ?_
  refine tg_callV (nA := 0) (As := []) (rest := []) (q := (RX0, TX0, 13)) S hK hN (k_X0_placeTrees hd (fa_placeRoots (fa_measure (fa_hangReplies (fa_keepMissing (fa_hangByLinks (fa_linkKnown (fa_findKnown σ))))))) ) 2 rfl rfl (tw_gV ml_RX0_86 im_X0_placeTrees se_X0_placeTrees in_RX0 co_X0_placeTrees rfl) rfl (by decide +kernel) ⟨Nat.le_of_ble_eq_true rfl, Nat.le_of_ble_eq_true rfl⟩ rfl rfl (Nat.le_of_ble_eq_true rfl) dX0_grow_29 ⟨Nat.le_of_ble_eq_true rfl, Nat.le_of_ble_eq_true rfl⟩ ?_
  exact tg_vret S hr hlk dX0_grow_32 (by simp [fa_grow])
