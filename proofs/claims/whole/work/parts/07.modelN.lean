/-! ===== 07: the reference: lists of a tree (printed by wip/whole/genC.py) ===== -/
def fb_n (σ : tg_Mem) (x : Int32) : Nat := (fb_trR (fb_forest σ) x).1.toNatClampNeg
def fb_ltS (th ω : tb_A) (k : Nat) (c : Int32) : Int32 := c + (if th (ω k).toNatClampNeg = 0 then 0 else 1)
def fb_urS (th un ω : tb_A) (k : Nat) (c : Int32) : Int32 := c + (if th (ω k).toNatClampNeg = 0 then 0 else if un (ω k).toNatClampNeg = 0 then 0 else 1)
def fb_ppS (th pe ω : tb_A) (k : Nat) (c : Int32) : Int32 := c ||| (if th (ω k).toNatClampNeg = 0 then 0 else ((1 : Int32) <<< ((pe (ω k).toNatClampNeg) &&& (31 : Int32))))
def fb_laS (th dy ω : tb_A) (k : Nat) (b : Int32) : Int32 := if th (ω k).toNatClampNeg = 0 then b else if dy (ω k).toNatClampNeg ≤ b then b else dy (ω k).toNatClampNeg
def fb_rdS (th ω : tb_A) (k : Nat) (q : Int32 × tb_A) : Int32 × tb_A := (q.1 + (if th (ω k).toNatClampNeg = 0 then 0 else if q.2 (ω k).toNatClampNeg = 0 then 0 else 1), upd q.2 (ω k).toNatClampNeg 0)
def fb_rd (σ : tg_Mem) (x : Int32) : Int32 × tb_A := tg_it (fb_rdS (fb_forest σ 0) (fb_trR (fb_forest σ) x).2.1) (0, fb_forest σ 6) (fb_n σ x)
def fb_rdT (σ : tg_Mem) (x : Int32) : tg_Mem := tg_upA (tg_upA (tg_upA (tg_upA (tg_upA (fb_forest σ) 6 (fb_rd σ x).2) 12 (fb_trR (fb_forest σ) x).2.1) 13 (fb_trR (fb_forest σ) x).2.2) 14 (fun _ => (fb_trR (fb_forest σ) x).1)) 15 (fun _ => 0)
theorem fb_mnge {i n : Nat} {m : Int32} (h : i < n) (hc : n ≤ 30) (hm : m = nI n) : ¬ m ≤ nI i := by
  rw [hm]
  exact nI_ge h (Nat.lt_of_le_of_lt hc (by decide))
theorem fb_mge {n : Nat} {m : Int32} (hm : m = nI n) : m ≤ nI n := by
  rw [hm]
  exact Int32.le_refl _
theorem tg_split {p : Program} {l : Launch} {e : Env} {R : Room} {s : State} {m : MethodId} {args : Array Value} {below : List Frame} {meth : Method} {c : Code} {D : va_G} {w : tg_Mem → va_W} {A : Nat → Prop} {n k z : Nat} {Q : State → Prop} {σ : tg_Mem} {pc : Nat} {L : List (Nat × Value)} {st : List Value} {b : Bool} (h1 : b = true → tg_G p l e R s m args below meth c D w A n k z Q σ pc L st) (h2 : b = false → tg_G p l e R s m args below meth c D w A n k z Q σ pc L st) : tg_G p l e R s m args below meth c D w A n k z Q σ pc L st := by
  cases b with
  | true => exact h1 rfl
  | false => exact h2 rfl

set_option maxHeartbeats 4000000 in
set_option maxRecDepth 100000 in
theorem k_X3_letters {l : Launch} {D : va_G} {h : Nat → Nat} {cI cZ : ClassId} (hd : tw_dis 15 h) (σ : tg_Mem) (x : Int32) (H : fb_hyp (σ 0) (σ 1) (σ 2) (σ 7) (σ 8) (σ 9)) (HT : fb_lkB σ x = true → fb_tr (fb_forest σ) x = some (fb_trR (fb_forest σ) x)) (HC : fb_lkB σ x = true → (fb_trR (fb_forest σ) x).1 = nI (fb_n σ x) ∧ fb_n σ x ≤ 30 ∧ ∀ k, k < fb_n σ x → vp_in ((fb_trR (fb_forest σ) x).2.1 k) 30) : tg_CT l yX3_letters wzX3_letters (tg_rm 4) (tw_M h cI cZ) (tw_ty cI cZ) [] (tw_A 15 h) D [.ref (h 0), .int x] σ (some (.int (if fb_lkB σ x = true then tg_it (fb_ltS ((fb_forest σ) 0) ((fb_trR (fb_forest σ) x).2.1)) 0 (fb_n σ x) else 0))) (fb_lkS σ x) := by
  refine tg_met (own := RX3) (cc := cX3_letters) (maxL := 5) (ret := (some .int)) (by decide +kernel) rfl rfl (Nat.le_of_ble_eq_true rfl) ?_
  intro p e s m below meth c S hK hN hr hlk
  refine tg_sub (L' := [(0, .ref (h 0)), (1, .int x)]) [0, 1] rfl ?_
  refine tg_iconst (v := 0) S dX3_letters_0 (by decide) ?_
  refine tg_istore_n (L' := [(0, .ref (h 0)), (1, .int x), (2, .int 0)]) [1, 2, 0] S dX3_letters_1 rfl (by decide) rfl ?_
  refine tg_aload_n S 0 dX3_letters_2 rfl rfl ?_
  refine tg_iload_n S 1 dX3_letters_3 rfl rfl ?_
  refine tg_callV (nA := 1) (As := [.int x]) (rest := []) (q := (RX3, TX3, 16)) S hK hN (k_X3_looks hd σ x H HT) 0 rfl rfl (tw_gV ml_RX3_109 im_X3_looks se_X3_looks in_RX3 co_X3_looks rfl) rfl (by decide +kernel) ⟨Nat.le_of_ble_eq_true rfl, Nat.le_of_ble_eq_true rfl⟩ rfl rfl (Nat.le_of_ble_eq_true rfl) dX3_letters_4 ⟨Nat.le_of_ble_eq_true rfl, Nat.le_of_ble_eq_true rfl⟩ ?_
  refine tg_istore_n (L' := [(0, .ref (h 0)), (1, .int x), (2, .int 0), (3, .int (tg_b (fb_lkB σ x)))]) [1, 2, 3, 0] S dX3_letters_7 rfl (by decide) rfl ?_
  refine tg_iconst (v := nI 0) S dX3_letters_8 (by decide) ?_
  refine tg_istore (L' := [(0, .ref (h 0)), (1, .int x), (2, .int 0), (3, .int (tg_b (fb_lkB σ x))), (4, .int (nI 0))]) [1, 2, 3, 4, 0] S dX3_letters_9 (by decide) rfl ?_
  refine tg_split (b := fb_lkB σ x) (fun hb => ?_) (fun hb => ?_)
  · skip
    obtain ⟨hm, hc, hw⟩ := HC hb
    refine tg_eq (σ2 := tg_upA (tg_upA (tg_upA (tg_upA (fb_forest σ) 12 ((fb_trR (fb_forest σ) x).2.1)) 13 ((fb_trR (fb_forest σ) x).2.2)) 14 (fun _ => (fb_trR (fb_forest σ) x).1)) 15 (fun _ => 0)) (L2 := [(0, .ref (h 0)), (1, .int x), (2, .int 0), (3, .int (tg_b true)), (4, .int (nI 0))]) (st2 := []) (by unfold fb_lkS; rw [if_pos hb]; rfl) (by first | (simp only [hb]; done) | (simp only [hb]; rfl)) rfl ?_
    refine tg_loop (X := Int32) (fb_ltS ((fb_forest σ) 0) ((fb_trR (fb_forest σ) x).2.1)) (fb_n σ x) 0 (fun b => tg_upA (tg_upA (tg_upA (tg_upA (fb_forest σ) 12 ((fb_trR (fb_forest σ) x).2.1)) 13 ((fb_trR (fb_forest σ) x).2.2)) 14 (fun _ => (fb_trR (fb_forest σ) x).1)) 15 (fun _ => 0)) (fun k b => [(0, .ref (h 0)), (1, .int x), (2, .int b), (3, .int (tg_b true)), (4, .int (nI k))]) ?_ ?_
    · skip
      intro k b hi_k hk_k
      refine tg_iload_n S 3 dX3_letters_11 rfl rfl ?_
      refine tg_ifz (b := true) (tgt := 53) S dX3_letters_12 (by decide) (fun c => absurd c (by decide)) (fun _ => ?_)
      refine tg_iload S 4 dX3_letters_15 rfl ?_
      refine tg_aload_n S 0 dX3_letters_17 rfl rfl ?_
      refine tg_get (v := .int ((fb_trR (fb_forest σ) x).1)) S tw_v3 hK 0 rfl rfl 13 (by decide) (tw_in fl_RX3_79 rfl) dX3_letters_18 rfl ?_
      refine tg_icmp_ge (tgt := 53) S dX3_letters_21 (by decide) (fun c => absurd c (fb_mnge hi_k hc hm)) (fun _ => ?_)
      refine tg_iload_n S 2 dX3_letters_24 rfl rfl ?_
      refine tg_aload_n S 0 dX3_letters_25 rfl rfl ?_
      refine tg_get (v := .ref (h 1)) S tw_v3 hK 0 rfl rfl 0 (by decide) (tw_in fl_RX3_7 rfl) dX3_letters_26 rfl ?_
      refine tg_aload_n S 0 dX3_letters_29 rfl rfl ?_
      refine tg_get (v := .ref (h 13)) S tw_v3 hK 0 rfl rfl 12 (by decide) (tw_in fl_RX3_47 rfl) dX3_letters_30 rfl ?_
      refine tg_iload S 4 dX3_letters_33 rfl ?_
      refine tg_iald (v := ((fb_trR (fb_forest σ) x).2.1) k) S hK 13 0 rfl rfl dX3_letters_35 (tg_in (Nat.lt_of_lt_of_le hi_k hc) (by decide)) (congrArg (((fb_trR (fb_forest σ) x).2.1)) (tg_cl (Nat.lt_trans (Nat.lt_of_lt_of_le hi_k hc) (by decide)))) ?_
      refine tg_zald (v := ((fb_forest σ) 0) (((fb_trR (fb_forest σ) x).2.1) k).toNatClampNeg) S hK 1 1 rfl rfl dX3_letters_36 (hw k hi_k) rfl ?_
      refine tg_if_eq (tgt := 44) S dX3_letters_37 (by decide) (fun c_1 => ?_) (fun c_1 => ?_)
      · skip
        refine tg_iconst (v := 0) S dX3_letters_44 (by decide) ?_
        refine tg_iadd S dX3_letters_45 ?_
        refine tg_istore_n (L' := [(0, .ref (h 0)), (1, .int x), (2, .int (b + 0)), (3, .int (tg_b true)), (4, .int (nI k))]) [1, 2, 0, 3, 4] S dX3_letters_46 rfl (by decide) rfl ?_
        refine tg_iinc (v := nI (k + 1)) (L' := [(0, .ref (h 0)), (1, .int x), (2, .int (b + 0)), (3, .int (tg_b true)), (4, .int (nI (k + 1)))]) [1, 2, 3, 4, 0] S 4 dX3_letters_47 rfl (tg_inc _) (by decide) rfl ?_
        refine tg_goto (tgt := 11) S dX3_letters_50 (by decide) ?_
        have e_1 : fb_ltS ((fb_forest σ) 0) ((fb_trR (fb_forest σ) x).2.1) k b = b + 0 := (by first | (simp [fb_ltS, c_1]; done) | (simp only [fb_ltS, if_pos c_1]; done))
        rw [e_1] at hk_k
        exact hk_k
      · skip
        refine tg_iconst (v := 1) S dX3_letters_40 (by decide) ?_
        refine tg_goto (tgt := 45) S dX3_letters_41 (by decide) ?_
        refine tg_iadd S dX3_letters_45 ?_
        refine tg_istore_n (L' := [(0, .ref (h 0)), (1, .int x), (2, .int (b + 1)), (3, .int (tg_b true)), (4, .int (nI k))]) [1, 2, 0, 3, 4] S dX3_letters_46 rfl (by decide) rfl ?_
        refine tg_iinc (v := nI (k + 1)) (L' := [(0, .ref (h 0)), (1, .int x), (2, .int (b + 1)), (3, .int (tg_b true)), (4, .int (nI (k + 1)))]) [1, 2, 3, 4, 0] S 4 dX3_letters_47 rfl (tg_inc _) (by decide) rfl ?_
        refine tg_goto (tgt := 11) S dX3_letters_50 (by decide) ?_
        have e_2 : fb_ltS ((fb_forest σ) 0) ((fb_trR (fb_forest σ) x).2.1) k b = b + 1 := (by first | (simp [fb_ltS, c_1]; done) | (simp only [fb_ltS, if_neg c_1]; done))
        rw [e_2] at hk_k
        exact hk_k
    · skip
      refine tg_iload_n S 3 dX3_letters_11 rfl rfl ?_
      refine tg_ifz (b := true) (tgt := 53) S dX3_letters_12 (by decide) (fun c => absurd c (by decide)) (fun _ => ?_)
      refine tg_iload S 4 dX3_letters_15 rfl ?_
      refine tg_aload_n S 0 dX3_letters_17 rfl rfl ?_
      refine tg_get (v := .int ((fb_trR (fb_forest σ) x).1)) S tw_v3 hK 0 rfl rfl 13 (by decide) (tw_in fl_RX3_79 rfl) dX3_letters_18 rfl ?_
      refine tg_icmp_ge (tgt := 53) S dX3_letters_21 (by decide) (fun _ => ?_) (fun c => absurd (fb_mge hm) c)
      refine tg_iload_n S 2 dX3_letters_53 rfl rfl ?_
      exact tg_iret S hr hlk dX3_letters_54 (by rw [if_pos hb]; first | done | rfl) (by first | (unfold fb_lkS; rw [if_pos hb]; rfl) | (rw [if_pos hb]; rfl))
  · skip
    refine tg_eq (σ2 := fb_lkS σ x) (L2 := [(0, .ref (h 0)), (1, .int x), (2, .int 0), (3, .int (tg_b false)), (4, .int (nI 0))]) (st2 := []) rfl (by first | (simp only [hb]; done) | (simp only [hb]; rfl)) rfl ?_
    refine tg_iload_n S 3 dX3_letters_11 rfl rfl ?_
    refine tg_ifz (b := false) (tgt := 53) S dX3_letters_12 (by decide) (fun _ => ?_) (fun c => absurd c (by decide))
    refine tg_iload_n S 2 dX3_letters_53 rfl rfl ?_
    exact tg_iret S hr hlk dX3_letters_54 (by rw [if_neg (ne_true_of_eq_false hb)]) (by first | rfl | (rw [if_neg (ne_true_of_eq_false hb)]))
set_option maxHeartbeats 4000000 in
set_option maxRecDepth 100000 in
theorem k_X3_unread {l : Launch} {D : va_G} {h : Nat → Nat} {cI cZ : ClassId} (hd : tw_dis 15 h) (σ : tg_Mem) (x : Int32) (H : fb_hyp (σ 0) (σ 1) (σ 2) (σ 7) (σ 8) (σ 9)) (HT : fb_lkB σ x = true → fb_tr (fb_forest σ) x = some (fb_trR (fb_forest σ) x)) (HC : fb_lkB σ x = true → (fb_trR (fb_forest σ) x).1 = nI (fb_n σ x) ∧ fb_n σ x ≤ 30 ∧ ∀ k, k < fb_n σ x → vp_in ((fb_trR (fb_forest σ) x).2.1 k) 30) : tg_CT l yX3_unread wzX3_unread (tg_rm 4) (tw_M h cI cZ) (tw_ty cI cZ) [] (tw_A 15 h) D [.ref (h 0), .int x] σ (some (.int (if fb_lkB σ x = true then tg_it (fb_urS ((fb_forest σ) 0) ((fb_forest σ) 6) ((fb_trR (fb_forest σ) x).2.1)) 0 (fb_n σ x) else 0))) (fb_lkS σ x) := by
  refine tg_met (own := RX3) (cc := cX3_unread) (maxL := 5) (ret := (some .int)) (by decide +kernel) rfl rfl (Nat.le_of_ble_eq_true rfl) ?_
  intro p e s m below meth c S hK hN hr hlk
  refine tg_sub (L' := [(0, .ref (h 0)), (1, .int x)]) [0, 1] rfl ?_
  refine tg_iconst (v := 0) S dX3_unread_0 (by decide) ?_
  refine tg_istore_n (L' := [(0, .ref (h 0)), (1, .int x), (2, .int 0)]) [1, 2, 0] S dX3_unread_1 rfl (by decide) rfl ?_
  refine tg_aload_n S 0 dX3_unread_2 rfl rfl ?_
  refine tg_iload_n S 1 dX3_unread_3 rfl rfl ?_
  refine tg_callV (nA := 1) (As := [.int x]) (rest := []) (q := (RX3, TX3, 16)) S hK hN (k_X3_looks hd σ x H HT) 0 rfl rfl (tw_gV ml_RX3_109 im_X3_looks se_X3_looks in_RX3 co_X3_looks rfl) rfl (by decide +kernel) ⟨Nat.le_of_ble_eq_true rfl, Nat.le_of_ble_eq_true rfl⟩ rfl rfl (Nat.le_of_ble_eq_true rfl) dX3_unread_4 ⟨Nat.le_of_ble_eq_true rfl, Nat.le_of_ble_eq_true rfl⟩ ?_
  refine tg_istore_n (L' := [(0, .ref (h 0)), (1, .int x), (2, .int 0), (3, .int (tg_b (fb_lkB σ x)))]) [1, 2, 3, 0] S dX3_unread_7 rfl (by decide) rfl ?_
  refine tg_iconst (v := nI 0) S dX3_unread_8 (by decide) ?_
  refine tg_istore (L' := [(0, .ref (h 0)), (1, .int x), (2, .int 0), (3, .int (tg_b (fb_lkB σ x))), (4, .int (nI 0))]) [1, 2, 3, 4, 0] S dX3_unread_9 (by decide) rfl ?_
  refine tg_split (b := fb_lkB σ x) (fun hb => ?_) (fun hb => ?_)
  · skip
    obtain ⟨hm, hc, hw⟩ := HC hb
    refine tg_eq (σ2 := tg_upA (tg_upA (tg_upA (tg_upA (fb_forest σ) 12 ((fb_trR (fb_forest σ) x).2.1)) 13 ((fb_trR (fb_forest σ) x).2.2)) 14 (fun _ => (fb_trR (fb_forest σ) x).1)) 15 (fun _ => 0)) (L2 := [(0, .ref (h 0)), (1, .int x), (2, .int 0), (3, .int (tg_b true)), (4, .int (nI 0))]) (st2 := []) (by unfold fb_lkS; rw [if_pos hb]; rfl) (by first | (simp only [hb]; done) | (simp only [hb]; rfl)) rfl ?_
    refine tg_loop (X := Int32) (fb_urS ((fb_forest σ) 0) ((fb_forest σ) 6) ((fb_trR (fb_forest σ) x).2.1)) (fb_n σ x) 0 (fun b => tg_upA (tg_upA (tg_upA (tg_upA (fb_forest σ) 12 ((fb_trR (fb_forest σ) x).2.1)) 13 ((fb_trR (fb_forest σ) x).2.2)) 14 (fun _ => (fb_trR (fb_forest σ) x).1)) 15 (fun _ => 0)) (fun k b => [(0, .ref (h 0)), (1, .int x), (2, .int b), (3, .int (tg_b true)), (4, .int (nI k))]) ?_ ?_
    · skip
      intro k b hi_k hk_k
      refine tg_iload_n S 3 dX3_unread_11 rfl rfl ?_
      refine tg_ifz (b := true) (tgt := 68) S dX3_unread_12 (by decide) (fun c => absurd c (by decide)) (fun _ => ?_)
      refine tg_iload S 4 dX3_unread_15 rfl ?_
      refine tg_aload_n S 0 dX3_unread_17 rfl rfl ?_
      refine tg_get (v := .int ((fb_trR (fb_forest σ) x).1)) S tw_v3 hK 0 rfl rfl 13 (by decide) (tw_in fl_RX3_79 rfl) dX3_unread_18 rfl ?_
      refine tg_icmp_ge (tgt := 68) S dX3_unread_21 (by decide) (fun c => absurd c (fb_mnge hi_k hc hm)) (fun _ => ?_)
      refine tg_iload_n S 2 dX3_unread_24 rfl rfl ?_
      refine tg_aload_n S 0 dX3_unread_25 rfl rfl ?_
      refine tg_get (v := .ref (h 1)) S tw_v3 hK 0 rfl rfl 0 (by decide) (tw_in fl_RX3_7 rfl) dX3_unread_26 rfl ?_
      refine tg_aload_n S 0 dX3_unread_29 rfl rfl ?_
      refine tg_get (v := .ref (h 13)) S tw_v3 hK 0 rfl rfl 12 (by decide) (tw_in fl_RX3_47 rfl) dX3_unread_30 rfl ?_
      refine tg_iload S 4 dX3_unread_33 rfl ?_
      refine tg_iald (v := ((fb_trR (fb_forest σ) x).2.1) k) S hK 13 0 rfl rfl dX3_unread_35 (tg_in (Nat.lt_of_lt_of_le hi_k hc) (by decide)) (congrArg (((fb_trR (fb_forest σ) x).2.1)) (tg_cl (Nat.lt_trans (Nat.lt_of_lt_of_le hi_k hc) (by decide)))) ?_
      refine tg_zald (v := ((fb_forest σ) 0) (((fb_trR (fb_forest σ) x).2.1) k).toNatClampNeg) S hK 1 1 rfl rfl dX3_unread_36 (hw k hi_k) rfl ?_
      refine tg_if_eq (tgt := 59) S dX3_unread_37 (by decide) (fun c_1 => ?_) (fun c_1 => ?_)
      · skip
        refine tg_iconst (v := 0) S dX3_unread_59 (by decide) ?_
        refine tg_iadd S dX3_unread_60 ?_
        refine tg_istore_n (L' := [(0, .ref (h 0)), (1, .int x), (2, .int (b + 0)), (3, .int (tg_b true)), (4, .int (nI k))]) [1, 2, 0, 3, 4] S dX3_unread_61 rfl (by decide) rfl ?_
        refine tg_iinc (v := nI (k + 1)) (L' := [(0, .ref (h 0)), (1, .int x), (2, .int (b + 0)), (3, .int (tg_b true)), (4, .int (nI (k + 1)))]) [1, 2, 3, 4, 0] S 4 dX3_unread_62 rfl (tg_inc _) (by decide) rfl ?_
        refine tg_goto (tgt := 11) S dX3_unread_65 (by decide) ?_
        have e_1 : fb_urS ((fb_forest σ) 0) ((fb_forest σ) 6) ((fb_trR (fb_forest σ) x).2.1) k b = b + 0 := (by first | (simp [fb_urS, c_1]; done) | (simp only [fb_urS, if_pos c_1]; done))
        rw [e_1] at hk_k
        exact hk_k
      · skip
        refine tg_aload_n S 0 dX3_unread_40 rfl rfl ?_
        refine tg_get (v := .ref (h 7)) S tw_v3 hK 0 rfl rfl 6 (by decide) (tw_in fl_RX3_29 rfl) dX3_unread_41 rfl ?_
        refine tg_aload_n S 0 dX3_unread_44 rfl rfl ?_
        refine tg_get (v := .ref (h 13)) S tw_v3 hK 0 rfl rfl 12 (by decide) (tw_in fl_RX3_47 rfl) dX3_unread_45 rfl ?_
        refine tg_iload S 4 dX3_unread_48 rfl ?_
        refine tg_iald (v := ((fb_trR (fb_forest σ) x).2.1) k) S hK 13 0 rfl rfl dX3_unread_50 (tg_in (Nat.lt_of_lt_of_le hi_k hc) (by decide)) (congrArg (((fb_trR (fb_forest σ) x).2.1)) (tg_cl (Nat.lt_trans (Nat.lt_of_lt_of_le hi_k hc) (by decide)))) ?_
        refine tg_zald (v := ((fb_forest σ) 6) (((fb_trR (fb_forest σ) x).2.1) k).toNatClampNeg) S hK 7 1 rfl rfl dX3_unread_51 (hw k hi_k) rfl ?_
        refine tg_if_eq (tgt := 59) S dX3_unread_52 (by decide) (fun c_2 => ?_) (fun c_2 => ?_)
        · skip
          refine tg_iconst (v := 0) S dX3_unread_59 (by decide) ?_
          refine tg_iadd S dX3_unread_60 ?_
          refine tg_istore_n (L' := [(0, .ref (h 0)), (1, .int x), (2, .int (b + 0)), (3, .int (tg_b true)), (4, .int (nI k))]) [1, 2, 0, 3, 4] S dX3_unread_61 rfl (by decide) rfl ?_
          refine tg_iinc (v := nI (k + 1)) (L' := [(0, .ref (h 0)), (1, .int x), (2, .int (b + 0)), (3, .int (tg_b true)), (4, .int (nI (k + 1)))]) [1, 2, 3, 4, 0] S 4 dX3_unread_62 rfl (tg_inc _) (by decide) rfl ?_
          refine tg_goto (tgt := 11) S dX3_unread_65 (by decide) ?_
          have e_2 : fb_urS ((fb_forest σ) 0) ((fb_forest σ) 6) ((fb_trR (fb_forest σ) x).2.1) k b = b + 0 := (by first | (simp [fb_urS, c_1, c_2]; done) | (simp only [fb_urS, if_neg c_1, if_pos c_2]; done))
          rw [e_2] at hk_k
          exact hk_k
        · skip
          refine tg_iconst (v := 1) S dX3_unread_55 (by decide) ?_
          refine tg_goto (tgt := 60) S dX3_unread_56 (by decide) ?_
          refine tg_iadd S dX3_unread_60 ?_
          refine tg_istore_n (L' := [(0, .ref (h 0)), (1, .int x), (2, .int (b + 1)), (3, .int (tg_b true)), (4, .int (nI k))]) [1, 2, 0, 3, 4] S dX3_unread_61 rfl (by decide) rfl ?_
          refine tg_iinc (v := nI (k + 1)) (L' := [(0, .ref (h 0)), (1, .int x), (2, .int (b + 1)), (3, .int (tg_b true)), (4, .int (nI (k + 1)))]) [1, 2, 3, 4, 0] S 4 dX3_unread_62 rfl (tg_inc _) (by decide) rfl ?_
          refine tg_goto (tgt := 11) S dX3_unread_65 (by decide) ?_
          have e_3 : fb_urS ((fb_forest σ) 0) ((fb_forest σ) 6) ((fb_trR (fb_forest σ) x).2.1) k b = b + 1 := (by first | (simp [fb_urS, c_1, c_2]; done) | (simp only [fb_urS, if_neg c_1, if_neg c_2]; done))
          rw [e_3] at hk_k
          exact hk_k
    · skip
      refine tg_iload_n S 3 dX3_unread_11 rfl rfl ?_
      refine tg_ifz (b := true) (tgt := 68) S dX3_unread_12 (by decide) (fun c => absurd c (by decide)) (fun _ => ?_)
      refine tg_iload S 4 dX3_unread_15 rfl ?_
      refine tg_aload_n S 0 dX3_unread_17 rfl rfl ?_
      refine tg_get (v := .int ((fb_trR (fb_forest σ) x).1)) S tw_v3 hK 0 rfl rfl 13 (by decide) (tw_in fl_RX3_79 rfl) dX3_unread_18 rfl ?_
      refine tg_icmp_ge (tgt := 68) S dX3_unread_21 (by decide) (fun _ => ?_) (fun c => absurd (fb_mge hm) c)
      refine tg_iload_n S 2 dX3_unread_68 rfl rfl ?_
      exact tg_iret S hr hlk dX3_unread_69 (by rw [if_pos hb]; first | done | rfl) (by first | (unfold fb_lkS; rw [if_pos hb]; rfl) | (rw [if_pos hb]; rfl))
  · skip
    refine tg_eq (σ2 := fb_lkS σ x) (L2 := [(0, .ref (h 0)), (1, .int x), (2, .int 0), (3, .int (tg_b false)), (4, .int (nI 0))]) (st2 := []) rfl (by first | (simp only [hb]; done) | (simp only [hb]; rfl)) rfl ?_
    refine tg_iload_n S 3 dX3_unread_11 rfl rfl ?_
    refine tg_ifz (b := false) (tgt := 68) S dX3_unread_12 (by decide) (fun _ => ?_) (fun c => absurd c (by decide))
    refine tg_iload_n S 2 dX3_unread_68 rfl rfl ?_
    exact tg_iret S hr hlk dX3_unread_69 (by rw [if_neg (ne_true_of_eq_false hb)]) (by first | rfl | (rw [if_neg (ne_true_of_eq_false hb)]))
set_option maxHeartbeats 4000000 in
set_option maxRecDepth 100000 in
theorem k_X3_people {l : Launch} {D : va_G} {h : Nat → Nat} {cI cZ : ClassId} (hd : tw_dis 15 h) (σ : tg_Mem) (x : Int32) (H : fb_hyp (σ 0) (σ 1) (σ 2) (σ 7) (σ 8) (σ 9)) (HT : fb_lkB σ x = true → fb_tr (fb_forest σ) x = some (fb_trR (fb_forest σ) x)) (HC : fb_lkB σ x = true → (fb_trR (fb_forest σ) x).1 = nI (fb_n σ x) ∧ fb_n σ x ≤ 30 ∧ ∀ k, k < fb_n σ x → vp_in ((fb_trR (fb_forest σ) x).2.1 k) 30) : tg_CT l yX3_people wzX3_people (tg_rm 4) (tw_M h cI cZ) (tw_ty cI cZ) [] (tw_A 15 h) D [.ref (h 0), .int x] σ (some (.int (if fb_lkB σ x = true then tg_it (fb_ppS ((fb_forest σ) 0) ((fb_forest σ) 5) ((fb_trR (fb_forest σ) x).2.1)) 0 (fb_n σ x) else 0))) (fb_lkS σ x) := by
  refine tg_met (own := RX3) (cc := cX3_people) (maxL := 5) (ret := (some .int)) (by decide +kernel) rfl rfl (Nat.le_of_ble_eq_true rfl) ?_
  intro p e s m below meth c S hK hN hr hlk
  refine tg_sub (L' := [(0, .ref (h 0)), (1, .int x)]) [0, 1] rfl ?_
  refine tg_iconst (v := 0) S dX3_people_0 (by decide) ?_
  refine tg_istore_n (L' := [(0, .ref (h 0)), (1, .int x), (2, .int 0)]) [1, 2, 0] S dX3_people_1 rfl (by decide) rfl ?_
  refine tg_aload_n S 0 dX3_people_2 rfl rfl ?_
  refine tg_iload_n S 1 dX3_people_3 rfl rfl ?_
  refine tg_callV (nA := 1) (As := [.int x]) (rest := []) (q := (RX3, TX3, 16)) S hK hN (k_X3_looks hd σ x H HT) 0 rfl rfl (tw_gV ml_RX3_109 im_X3_looks se_X3_looks in_RX3 co_X3_looks rfl) rfl (by decide +kernel) ⟨Nat.le_of_ble_eq_true rfl, Nat.le_of_ble_eq_true rfl⟩ rfl rfl (Nat.le_of_ble_eq_true rfl) dX3_people_4 ⟨Nat.le_of_ble_eq_true rfl, Nat.le_of_ble_eq_true rfl⟩ ?_
  refine tg_istore_n (L' := [(0, .ref (h 0)), (1, .int x), (2, .int 0), (3, .int (tg_b (fb_lkB σ x)))]) [1, 2, 3, 0] S dX3_people_7 rfl (by decide) rfl ?_
  refine tg_iconst (v := nI 0) S dX3_people_8 (by decide) ?_
  refine tg_istore (L' := [(0, .ref (h 0)), (1, .int x), (2, .int 0), (3, .int (tg_b (fb_lkB σ x))), (4, .int (nI 0))]) [1, 2, 3, 4, 0] S dX3_people_9 (by decide) rfl ?_
  refine tg_split (b := fb_lkB σ x) (fun hb => ?_) (fun hb => ?_)
  · skip
    obtain ⟨hm, hc, hw⟩ := HC hb
    refine tg_eq (σ2 := tg_upA (tg_upA (tg_upA (tg_upA (fb_forest σ) 12 ((fb_trR (fb_forest σ) x).2.1)) 13 ((fb_trR (fb_forest σ) x).2.2)) 14 (fun _ => (fb_trR (fb_forest σ) x).1)) 15 (fun _ => 0)) (L2 := [(0, .ref (h 0)), (1, .int x), (2, .int 0), (3, .int (tg_b true)), (4, .int (nI 0))]) (st2 := []) (by unfold fb_lkS; rw [if_pos hb]; rfl) (by first | (simp only [hb]; done) | (simp only [hb]; rfl)) rfl ?_
    refine tg_loop (X := Int32) (fb_ppS ((fb_forest σ) 0) ((fb_forest σ) 5) ((fb_trR (fb_forest σ) x).2.1)) (fb_n σ x) 0 (fun b => tg_upA (tg_upA (tg_upA (tg_upA (fb_forest σ) 12 ((fb_trR (fb_forest σ) x).2.1)) 13 ((fb_trR (fb_forest σ) x).2.2)) 14 (fun _ => (fb_trR (fb_forest σ) x).1)) 15 (fun _ => 0)) (fun k b => [(0, .ref (h 0)), (1, .int x), (2, .int b), (3, .int (tg_b true)), (4, .int (nI k))]) ?_ ?_
    · skip
      intro k b hi_k hk_k
      refine tg_iload_n S 3 dX3_people_11 rfl rfl ?_
      refine tg_ifz (b := true) (tgt := 66) S dX3_people_12 (by decide) (fun c => absurd c (by decide)) (fun _ => ?_)
      refine tg_iload S 4 dX3_people_15 rfl ?_
      refine tg_aload_n S 0 dX3_people_17 rfl rfl ?_
      refine tg_get (v := .int ((fb_trR (fb_forest σ) x).1)) S tw_v3 hK 0 rfl rfl 13 (by decide) (tw_in fl_RX3_79 rfl) dX3_people_18 rfl ?_
      refine tg_icmp_ge (tgt := 66) S dX3_people_21 (by decide) (fun c => absurd c (fb_mnge hi_k hc hm)) (fun _ => ?_)
      refine tg_iload_n S 2 dX3_people_24 rfl rfl ?_
      refine tg_aload_n S 0 dX3_people_25 rfl rfl ?_
      refine tg_get (v := .ref (h 1)) S tw_v3 hK 0 rfl rfl 0 (by decide) (tw_in fl_RX3_7 rfl) dX3_people_26 rfl ?_
      refine tg_aload_n S 0 dX3_people_29 rfl rfl ?_
      refine tg_get (v := .ref (h 13)) S tw_v3 hK 0 rfl rfl 12 (by decide) (tw_in fl_RX3_47 rfl) dX3_people_30 rfl ?_
      refine tg_iload S 4 dX3_people_33 rfl ?_
      refine tg_iald (v := ((fb_trR (fb_forest σ) x).2.1) k) S hK 13 0 rfl rfl dX3_people_35 (tg_in (Nat.lt_of_lt_of_le hi_k hc) (by decide)) (congrArg (((fb_trR (fb_forest σ) x).2.1)) (tg_cl (Nat.lt_trans (Nat.lt_of_lt_of_le hi_k hc) (by decide)))) ?_
      refine tg_zald (v := ((fb_forest σ) 0) (((fb_trR (fb_forest σ) x).2.1) k).toNatClampNeg) S hK 1 1 rfl rfl dX3_people_36 (hw k hi_k) rfl ?_
      refine tg_if_eq (tgt := 57) S dX3_people_37 (by decide) (fun c_1 => ?_) (fun c_1 => ?_)
      · skip
        refine tg_iconst (v := 0) S dX3_people_57 (by decide) ?_
        refine tg_ior S dX3_people_58 ?_
        refine tg_istore_n (L' := [(0, .ref (h 0)), (1, .int x), (2, .int (b ||| 0)), (3, .int (tg_b true)), (4, .int (nI k))]) [1, 2, 0, 3, 4] S dX3_people_59 rfl (by decide) rfl ?_
        refine tg_iinc (v := nI (k + 1)) (L' := [(0, .ref (h 0)), (1, .int x), (2, .int (b ||| 0)), (3, .int (tg_b true)), (4, .int (nI (k + 1)))]) [1, 2, 3, 4, 0] S 4 dX3_people_60 rfl (tg_inc _) (by decide) rfl ?_
        refine tg_goto (tgt := 11) S dX3_people_63 (by decide) ?_
        have e_1 : fb_ppS ((fb_forest σ) 0) ((fb_forest σ) 5) ((fb_trR (fb_forest σ) x).2.1) k b = b ||| 0 := (by first | (simp [fb_ppS, c_1]; done) | (simp only [fb_ppS, if_pos c_1]; done))
        rw [e_1] at hk_k
        exact hk_k
      · skip
        refine tg_iconst (v := 1) S dX3_people_40 (by decide) ?_
        refine tg_aload_n S 0 dX3_people_41 rfl rfl ?_
        refine tg_get (v := .ref (h 6)) S tw_v3 hK 0 rfl rfl 5 (by decide) (tw_in fl_RX3_26 rfl) dX3_people_42 rfl ?_
        refine tg_aload_n S 0 dX3_people_45 rfl rfl ?_
        refine tg_get (v := .ref (h 13)) S tw_v3 hK 0 rfl rfl 12 (by decide) (tw_in fl_RX3_47 rfl) dX3_people_46 rfl ?_
        refine tg_iload S 4 dX3_people_49 rfl ?_
        refine tg_iald (v := ((fb_trR (fb_forest σ) x).2.1) k) S hK 13 0 rfl rfl dX3_people_51 (tg_in (Nat.lt_of_lt_of_le hi_k hc) (by decide)) (congrArg (((fb_trR (fb_forest σ) x).2.1)) (tg_cl (Nat.lt_trans (Nat.lt_of_lt_of_le hi_k hc) (by decide)))) ?_
        refine tg_iald (v := ((fb_forest σ) 5) (((fb_trR (fb_forest σ) x).2.1) k).toNatClampNeg) S hK 6 0 rfl rfl dX3_people_52 (hw k hi_k) rfl ?_
        refine tg_ishl S dX3_people_53 ?_
        refine tg_goto (tgt := 58) S dX3_people_54 (by decide) ?_
        refine tg_ior S dX3_people_58 ?_
        refine tg_istore_n (L' := [(0, .ref (h 0)), (1, .int x), (2, .int (b ||| (1 <<< ((((fb_forest σ) 5) (((fb_trR (fb_forest σ) x).2.1) k).toNatClampNeg) &&& 31)))), (3, .int (tg_b true)), (4, .int (nI k))]) [1, 2, 0, 3, 4] S dX3_people_59 rfl (by decide) rfl ?_
        refine tg_iinc (v := nI (k + 1)) (L' := [(0, .ref (h 0)), (1, .int x), (2, .int (b ||| (1 <<< ((((fb_forest σ) 5) (((fb_trR (fb_forest σ) x).2.1) k).toNatClampNeg) &&& 31)))), (3, .int (tg_b true)), (4, .int (nI (k + 1)))]) [1, 2, 3, 4, 0] S 4 dX3_people_60 rfl (tg_inc _) (by decide) rfl ?_
        refine tg_goto (tgt := 11) S dX3_people_63 (by decide) ?_
        have e_2 : fb_ppS ((fb_forest σ) 0) ((fb_forest σ) 5) ((fb_trR (fb_forest σ) x).2.1) k b = b ||| (1 <<< ((((fb_forest σ) 5) (((fb_trR (fb_forest σ) x).2.1) k).toNatClampNeg) &&& 31)) := (by first | (simp [fb_ppS, c_1]; done) | (simp only [fb_ppS, if_neg c_1]; done))
        rw [e_2] at hk_k
        exact hk_k
    · skip
      refine tg_iload_n S 3 dX3_people_11 rfl rfl ?_
      refine tg_ifz (b := true) (tgt := 66) S dX3_people_12 (by decide) (fun c => absurd c (by decide)) (fun _ => ?_)
      refine tg_iload S 4 dX3_people_15 rfl ?_
      refine tg_aload_n S 0 dX3_people_17 rfl rfl ?_
      refine tg_get (v := .int ((fb_trR (fb_forest σ) x).1)) S tw_v3 hK 0 rfl rfl 13 (by decide) (tw_in fl_RX3_79 rfl) dX3_people_18 rfl ?_
      refine tg_icmp_ge (tgt := 66) S dX3_people_21 (by decide) (fun _ => ?_) (fun c => absurd (fb_mge hm) c)
      refine tg_iload_n S 2 dX3_people_66 rfl rfl ?_
      exact tg_iret S hr hlk dX3_people_67 (by rw [if_pos hb]; first | done | rfl) (by first | (unfold fb_lkS; rw [if_pos hb]; rfl) | (rw [if_pos hb]; rfl))
  · skip
    refine tg_eq (σ2 := fb_lkS σ x) (L2 := [(0, .ref (h 0)), (1, .int x), (2, .int 0), (3, .int (tg_b false)), (4, .int (nI 0))]) (st2 := []) rfl (by first | (simp only [hb]; done) | (simp only [hb]; rfl)) rfl ?_
    refine tg_iload_n S 3 dX3_people_11 rfl rfl ?_
    refine tg_ifz (b := false) (tgt := 66) S dX3_people_12 (by decide) (fun _ => ?_) (fun c => absurd c (by decide))
    refine tg_iload_n S 2 dX3_people_66 rfl rfl ?_
    exact tg_iret S hr hlk dX3_people_67 (by rw [if_neg (ne_true_of_eq_false hb)]) (by first | rfl | (rw [if_neg (ne_true_of_eq_false hb)]))
set_option maxHeartbeats 4000000 in
set_option maxRecDepth 100000 in
theorem k_X3_latest {l : Launch} {D : va_G} {h : Nat → Nat} {cI cZ : ClassId} (hd : tw_dis 15 h) (σ : tg_Mem) (x : Int32) (H : fb_hyp (σ 0) (σ 1) (σ 2) (σ 7) (σ 8) (σ 9)) (HT : fb_lkB σ x = true → fb_tr (fb_forest σ) x = some (fb_trR (fb_forest σ) x)) (HC : fb_lkB σ x = true → (fb_trR (fb_forest σ) x).1 = nI (fb_n σ x) ∧ fb_n σ x ≤ 30 ∧ ∀ k, k < fb_n σ x → vp_in ((fb_trR (fb_forest σ) x).2.1 k) 30) : tg_CT l yX3_latest wzX3_latest (tg_rm 4) (tw_M h cI cZ) (tw_ty cI cZ) [] (tw_A 15 h) D [.ref (h 0), .int x] σ (some (.int (if fb_lkB σ x = true then tg_it (fb_laS ((fb_forest σ) 0) ((fb_forest σ) 4) ((fb_trR (fb_forest σ) x).2.1)) 0 (fb_n σ x) else 0))) (fb_lkS σ x) := by
  refine tg_met (own := RX3) (cc := cX3_latest) (maxL := 5) (ret := (some .int)) (by decide +kernel) rfl rfl (Nat.le_of_ble_eq_true rfl) ?_
  intro p e s m below meth c S hK hN hr hlk
  refine tg_sub (L' := [(0, .ref (h 0)), (1, .int x)]) [0, 1] rfl ?_
  refine tg_iconst (v := 0) S dX3_latest_0 (by decide) ?_
  refine tg_istore_n (L' := [(0, .ref (h 0)), (1, .int x), (2, .int 0)]) [1, 2, 0] S dX3_latest_1 rfl (by decide) rfl ?_
  refine tg_aload_n S 0 dX3_latest_2 rfl rfl ?_
  refine tg_iload_n S 1 dX3_latest_3 rfl rfl ?_
  refine tg_callV (nA := 1) (As := [.int x]) (rest := []) (q := (RX3, TX3, 16)) S hK hN (k_X3_looks hd σ x H HT) 0 rfl rfl (tw_gV ml_RX3_109 im_X3_looks se_X3_looks in_RX3 co_X3_looks rfl) rfl (by decide +kernel) ⟨Nat.le_of_ble_eq_true rfl, Nat.le_of_ble_eq_true rfl⟩ rfl rfl (Nat.le_of_ble_eq_true rfl) dX3_latest_4 ⟨Nat.le_of_ble_eq_true rfl, Nat.le_of_ble_eq_true rfl⟩ ?_
  refine tg_istore_n (L' := [(0, .ref (h 0)), (1, .int x), (2, .int 0), (3, .int (tg_b (fb_lkB σ x)))]) [1, 2, 3, 0] S dX3_latest_7 rfl (by decide) rfl ?_
  refine tg_iconst (v := nI 0) S dX3_latest_8 (by decide) ?_
  refine tg_istore (L' := [(0, .ref (h 0)), (1, .int x), (2, .int 0), (3, .int (tg_b (fb_lkB σ x))), (4, .int (nI 0))]) [1, 2, 3, 4, 0] S dX3_latest_9 (by decide) rfl ?_
  refine tg_split (b := fb_lkB σ x) (fun hb => ?_) (fun hb => ?_)
  · skip
    obtain ⟨hm, hc, hw⟩ := HC hb
    refine tg_eq (σ2 := tg_upA (tg_upA (tg_upA (tg_upA (fb_forest σ) 12 ((fb_trR (fb_forest σ) x).2.1)) 13 ((fb_trR (fb_forest σ) x).2.2)) 14 (fun _ => (fb_trR (fb_forest σ) x).1)) 15 (fun _ => 0)) (L2 := [(0, .ref (h 0)), (1, .int x), (2, .int 0), (3, .int (tg_b true)), (4, .int (nI 0))]) (st2 := []) (by unfold fb_lkS; rw [if_pos hb]; rfl) (by first | (simp only [hb]; done) | (simp only [hb]; rfl)) rfl ?_
    refine tg_loop (X := Int32) (fb_laS ((fb_forest σ) 0) ((fb_forest σ) 4) ((fb_trR (fb_forest σ) x).2.1)) (fb_n σ x) 0 (fun b => tg_upA (tg_upA (tg_upA (tg_upA (fb_forest σ) 12 ((fb_trR (fb_forest σ) x).2.1)) 13 ((fb_trR (fb_forest σ) x).2.2)) 14 (fun _ => (fb_trR (fb_forest σ) x).1)) 15 (fun _ => 0)) (fun k b => [(0, .ref (h 0)), (1, .int x), (2, .int b), (3, .int (tg_b true)), (4, .int (nI k))]) ?_ ?_
    · skip
      intro k b hi_k hk_k
      refine tg_iload_n S 3 dX3_latest_11 rfl rfl ?_
      refine tg_ifz (b := true) (tgt := 78) S dX3_latest_12 (by decide) (fun c => absurd c (by decide)) (fun _ => ?_)
      refine tg_iload S 4 dX3_latest_15 rfl ?_
      refine tg_aload_n S 0 dX3_latest_17 rfl rfl ?_
      refine tg_get (v := .int ((fb_trR (fb_forest σ) x).1)) S tw_v3 hK 0 rfl rfl 13 (by decide) (tw_in fl_RX3_79 rfl) dX3_latest_18 rfl ?_
      refine tg_icmp_ge (tgt := 78) S dX3_latest_21 (by decide) (fun c => absurd c (fb_mnge hi_k hc hm)) (fun _ => ?_)
      refine tg_aload_n S 0 dX3_latest_24 rfl rfl ?_
      refine tg_get (v := .ref (h 1)) S tw_v3 hK 0 rfl rfl 0 (by decide) (tw_in fl_RX3_7 rfl) dX3_latest_25 rfl ?_
      refine tg_aload_n S 0 dX3_latest_28 rfl rfl ?_
      refine tg_get (v := .ref (h 13)) S tw_v3 hK 0 rfl rfl 12 (by decide) (tw_in fl_RX3_47 rfl) dX3_latest_29 rfl ?_
      refine tg_iload S 4 dX3_latest_32 rfl ?_
      refine tg_iald (v := ((fb_trR (fb_forest σ) x).2.1) k) S hK 13 0 rfl rfl dX3_latest_34 (tg_in (Nat.lt_of_lt_of_le hi_k hc) (by decide)) (congrArg (((fb_trR (fb_forest σ) x).2.1)) (tg_cl (Nat.lt_trans (Nat.lt_of_lt_of_le hi_k hc) (by decide)))) ?_
      refine tg_zald (v := ((fb_forest σ) 0) (((fb_trR (fb_forest σ) x).2.1) k).toNatClampNeg) S hK 1 1 rfl rfl dX3_latest_35 (hw k hi_k) rfl ?_
      refine tg_if_eq (tgt := 70) S dX3_latest_36 (by decide) (fun c_1 => ?_) (fun c_1 => ?_)
      · skip
        refine tg_iload_n S 2 dX3_latest_70 rfl rfl ?_
        refine tg_istore_n (L' := [(0, .ref (h 0)), (1, .int x), (2, .int b), (3, .int (tg_b true)), (4, .int (nI k))]) [1, 2, 0, 3, 4] S dX3_latest_71 rfl (by decide) rfl ?_
        refine tg_iinc (v := nI (k + 1)) (L' := [(0, .ref (h 0)), (1, .int x), (2, .int b), (3, .int (tg_b true)), (4, .int (nI (k + 1)))]) [1, 2, 3, 4, 0] S 4 dX3_latest_72 rfl (tg_inc _) (by decide) rfl ?_
        refine tg_goto (tgt := 11) S dX3_latest_75 (by decide) ?_
        have e_1 : fb_laS ((fb_forest σ) 0) ((fb_forest σ) 4) ((fb_trR (fb_forest σ) x).2.1) k b = b := (by first | (simp [fb_laS, c_1]; done) | (simp only [fb_laS, if_pos c_1]; done))
        rw [e_1] at hk_k
        exact hk_k
      · skip
        refine tg_aload_n S 0 dX3_latest_39 rfl rfl ?_
        refine tg_get (v := .ref (h 5)) S tw_v3 hK 0 rfl rfl 4 (by decide) (tw_in fl_RX3_23 rfl) dX3_latest_40 rfl ?_
        refine tg_aload_n S 0 dX3_latest_43 rfl rfl ?_
        refine tg_get (v := .ref (h 13)) S tw_v3 hK 0 rfl rfl 12 (by decide) (tw_in fl_RX3_47 rfl) dX3_latest_44 rfl ?_
        refine tg_iload S 4 dX3_latest_47 rfl ?_
        refine tg_iald (v := ((fb_trR (fb_forest σ) x).2.1) k) S hK 13 0 rfl rfl dX3_latest_49 (tg_in (Nat.lt_of_lt_of_le hi_k hc) (by decide)) (congrArg (((fb_trR (fb_forest σ) x).2.1)) (tg_cl (Nat.lt_trans (Nat.lt_of_lt_of_le hi_k hc) (by decide)))) ?_
        refine tg_iald (v := ((fb_forest σ) 4) (((fb_trR (fb_forest σ) x).2.1) k).toNatClampNeg) S hK 5 0 rfl rfl dX3_latest_50 (hw k hi_k) rfl ?_
        refine tg_iload_n S 2 dX3_latest_51 rfl rfl ?_
        refine tg_icmp_le (tgt := 70) S dX3_latest_52 (by decide) (fun c_2 => ?_) (fun c_2 => ?_)
        · skip
          refine tg_iload_n S 2 dX3_latest_70 rfl rfl ?_
          refine tg_istore_n (L' := [(0, .ref (h 0)), (1, .int x), (2, .int b), (3, .int (tg_b true)), (4, .int (nI k))]) [1, 2, 0, 3, 4] S dX3_latest_71 rfl (by decide) rfl ?_
          refine tg_iinc (v := nI (k + 1)) (L' := [(0, .ref (h 0)), (1, .int x), (2, .int b), (3, .int (tg_b true)), (4, .int (nI (k + 1)))]) [1, 2, 3, 4, 0] S 4 dX3_latest_72 rfl (tg_inc _) (by decide) rfl ?_
          refine tg_goto (tgt := 11) S dX3_latest_75 (by decide) ?_
          have e_2 : fb_laS ((fb_forest σ) 0) ((fb_forest σ) 4) ((fb_trR (fb_forest σ) x).2.1) k b = b := (by first | (simp [fb_laS, c_1, c_2]; done) | (simp only [fb_laS, if_neg c_1, if_pos c_2]; done))
          rw [e_2] at hk_k
          exact hk_k
        · skip
          refine tg_aload_n S 0 dX3_latest_55 rfl rfl ?_
          refine tg_get (v := .ref (h 5)) S tw_v3 hK 0 rfl rfl 4 (by decide) (tw_in fl_RX3_23 rfl) dX3_latest_56 rfl ?_
          refine tg_aload_n S 0 dX3_latest_59 rfl rfl ?_
          refine tg_get (v := .ref (h 13)) S tw_v3 hK 0 rfl rfl 12 (by decide) (tw_in fl_RX3_47 rfl) dX3_latest_60 rfl ?_
          refine tg_iload S 4 dX3_latest_63 rfl ?_
          refine tg_iald (v := ((fb_trR (fb_forest σ) x).2.1) k) S hK 13 0 rfl rfl dX3_latest_65 (tg_in (Nat.lt_of_lt_of_le hi_k hc) (by decide)) (congrArg (((fb_trR (fb_forest σ) x).2.1)) (tg_cl (Nat.lt_trans (Nat.lt_of_lt_of_le hi_k hc) (by decide)))) ?_
          refine tg_iald (v := ((fb_forest σ) 4) (((fb_trR (fb_forest σ) x).2.1) k).toNatClampNeg) S hK 5 0 rfl rfl dX3_latest_66 (hw k hi_k) rfl ?_
          refine tg_goto (tgt := 71) S dX3_latest_67 (by decide) ?_
          refine tg_istore_n (L' := [(0, .ref (h 0)), (1, .int x), (2, .int (((fb_forest σ) 4) (((fb_trR (fb_forest σ) x).2.1) k).toNatClampNeg)), (3, .int (tg_b true)), (4, .int (nI k))]) [1, 2, 0, 3, 4] S dX3_latest_71 rfl (by decide) rfl ?_
          refine tg_iinc (v := nI (k + 1)) (L' := [(0, .ref (h 0)), (1, .int x), (2, .int (((fb_forest σ) 4) (((fb_trR (fb_forest σ) x).2.1) k).toNatClampNeg)), (3, .int (tg_b true)), (4, .int (nI (k + 1)))]) [1, 2, 3, 4, 0] S 4 dX3_latest_72 rfl (tg_inc _) (by decide) rfl ?_
          refine tg_goto (tgt := 11) S dX3_latest_75 (by decide) ?_
          have e_3 : fb_laS ((fb_forest σ) 0) ((fb_forest σ) 4) ((fb_trR (fb_forest σ) x).2.1) k b = ((fb_forest σ) 4) (((fb_trR (fb_forest σ) x).2.1) k).toNatClampNeg := (by first | (simp [fb_laS, c_1, c_2]; done) | (simp only [fb_laS, if_neg c_1, if_neg c_2]; done))
          rw [e_3] at hk_k
          exact hk_k
    · skip
      refine tg_iload_n S 3 dX3_latest_11 rfl rfl ?_
      refine tg_ifz (b := true) (tgt := 78) S dX3_latest_12 (by decide) (fun c => absurd c (by decide)) (fun _ => ?_)
      refine tg_iload S 4 dX3_latest_15 rfl ?_
      refine tg_aload_n S 0 dX3_latest_17 rfl rfl ?_
      refine tg_get (v := .int ((fb_trR (fb_forest σ) x).1)) S tw_v3 hK 0 rfl rfl 13 (by decide) (tw_in fl_RX3_79 rfl) dX3_latest_18 rfl ?_
      refine tg_icmp_ge (tgt := 78) S dX3_latest_21 (by decide) (fun _ => ?_) (fun c => absurd (fb_mge hm) c)
      refine tg_iload_n S 2 dX3_latest_78 rfl rfl ?_
      exact tg_iret S hr hlk dX3_latest_79 (by rw [if_pos hb]; first | done | rfl) (by first | (unfold fb_lkS; rw [if_pos hb]; rfl) | (rw [if_pos hb]; rfl))
  · skip
    refine tg_eq (σ2 := fb_lkS σ x) (L2 := [(0, .ref (h 0)), (1, .int x), (2, .int 0), (3, .int (tg_b false)), (4, .int (nI 0))]) (st2 := []) rfl (by first | (simp only [hb]; done) | (simp only [hb]; rfl)) rfl ?_
    refine tg_iload_n S 3 dX3_latest_11 rfl rfl ?_
    refine tg_ifz (b := false) (tgt := 78) S dX3_latest_12 (by decide) (fun _ => ?_) (fun c => absurd c (by decide))
    refine tg_iload_n S 2 dX3_latest_78 rfl rfl ?_
    exact tg_iret S hr hlk dX3_latest_79 (by rw [if_neg (ne_true_of_eq_false hb)]) (by first | rfl | (rw [if_neg (ne_true_of_eq_false hb)]))
set_option maxHeartbeats 4000000 in
set_option maxRecDepth 100000 in
theorem k_X3_read {l : Launch} {D : va_G} {h : Nat → Nat} {cI cZ : ClassId} (hd : tw_dis 15 h) (σ : tg_Mem) (x : Int32) (H : fb_hyp (σ 0) (σ 1) (σ 2) (σ 7) (σ 8) (σ 9)) (HT : fb_lkB σ x = true → fb_tr (fb_forest σ) x = some (fb_trR (fb_forest σ) x)) (HC : fb_lkB σ x = true → (fb_trR (fb_forest σ) x).1 = nI (fb_n σ x) ∧ fb_n σ x ≤ 30 ∧ ∀ k, k < fb_n σ x → vp_in ((fb_trR (fb_forest σ) x).2.1 k) 30) : tg_CT l yX3_read wzX3_read (tg_rm 4) (tw_M h cI cZ) (tw_ty cI cZ) [] (tw_A 15 h) D [.ref (h 0), .int x] σ (some (.int (if fb_lkB σ x = true then (fb_rd σ x).1 else 0))) (if fb_lkB σ x = true then fb_rdT σ x else fb_lkS σ x) := by
  refine tg_met (own := RX3) (cc := cX3_read) (maxL := 5) (ret := (some .int)) (by decide +kernel) rfl rfl (Nat.le_of_ble_eq_true rfl) ?_
  intro p e s m below meth c S hK hN hr hlk
  refine tg_sub (L' := [(0, .ref (h 0)), (1, .int x)]) [0, 1] rfl ?_
  refine tg_iconst (v := 0) S dX3_read_0 (by decide) ?_
  refine tg_istore_n (L' := [(0, .ref (h 0)), (1, .int x), (2, .int 0)]) [1, 2, 0] S dX3_read_1 rfl (by decide) rfl ?_
  refine tg_aload_n S 0 dX3_read_2 rfl rfl ?_
  refine tg_iload_n S 1 dX3_read_3 rfl rfl ?_
  refine tg_callV (nA := 1) (As := [.int x]) (rest := []) (q := (RX3, TX3, 16)) S hK hN (k_X3_looks hd σ x H HT) 0 rfl rfl (tw_gV ml_RX3_109 im_X3_looks se_X3_looks in_RX3 co_X3_looks rfl) rfl (by decide +kernel) ⟨Nat.le_of_ble_eq_true rfl, Nat.le_of_ble_eq_true rfl⟩ rfl rfl (Nat.le_of_ble_eq_true rfl) dX3_read_4 ⟨Nat.le_of_ble_eq_true rfl, Nat.le_of_ble_eq_true rfl⟩ ?_
  refine tg_istore_n (L' := [(0, .ref (h 0)), (1, .int x), (2, .int 0), (3, .int (tg_b (fb_lkB σ x)))]) [1, 2, 3, 0] S dX3_read_7 rfl (by decide) rfl ?_
  refine tg_iconst (v := nI 0) S dX3_read_8 (by decide) ?_
  refine tg_istore (L' := [(0, .ref (h 0)), (1, .int x), (2, .int 0), (3, .int (tg_b (fb_lkB σ x))), (4, .int (nI 0))]) [1, 2, 3, 4, 0] S dX3_read_9 (by decide) rfl ?_
  refine tg_split (b := fb_lkB σ x) (fun hb => ?_) (fun hb => ?_)
  · skip
    obtain ⟨hm, hc, hw⟩ := HC hb
    refine tg_eq (σ2 := tg_upA (tg_upA (tg_upA (tg_upA (fb_forest σ) 12 ((fb_trR (fb_forest σ) x).2.1)) 13 ((fb_trR (fb_forest σ) x).2.2)) 14 (fun _ => (fb_trR (fb_forest σ) x).1)) 15 (fun _ => 0)) (L2 := [(0, .ref (h 0)), (1, .int x), (2, .int 0), (3, .int (tg_b true)), (4, .int (nI 0))]) (st2 := []) (by unfold fb_lkS; rw [if_pos hb]; rfl) (by first | (simp only [hb]; done) | (simp only [hb]; rfl)) rfl ?_
    refine tg_w (σ2 := tg_upA (tg_upA (tg_upA (tg_upA (tg_upA (fb_forest σ) 6 ((fb_forest σ) 6)) 12 ((fb_trR (fb_forest σ) x).2.1)) 13 ((fb_trR (fb_forest σ) x).2.2)) 14 (fun _ => (fb_trR (fb_forest σ) x).1)) 15 (fun _ => 0)) rfl ?_
    refine tg_loop (X := Int32 × tb_A) (fb_rdS ((fb_forest σ) 0) ((fb_trR (fb_forest σ) x).2.1)) (fb_n σ x) (0, (fb_forest σ) 6) (fun b => tg_upA (tg_upA (tg_upA (tg_upA (tg_upA (fb_forest σ) 6 b.2) 12 ((fb_trR (fb_forest σ) x).2.1)) 13 ((fb_trR (fb_forest σ) x).2.2)) 14 (fun _ => (fb_trR (fb_forest σ) x).1)) 15 (fun _ => 0)) (fun k b => [(0, .ref (h 0)), (1, .int x), (2, .int b.1), (3, .int (tg_b true)), (4, .int (nI k))]) ?_ ?_
    · skip
      intro k b hi_k hk_k
      refine tg_iload_n S 3 dX3_read_11 rfl rfl ?_
      refine tg_ifz (b := true) (tgt := 81) S dX3_read_12 (by decide) (fun c => absurd c (by decide)) (fun _ => ?_)
      refine tg_iload S 4 dX3_read_15 rfl ?_
      refine tg_aload_n S 0 dX3_read_17 rfl rfl ?_
      refine tg_get (v := .int ((fb_trR (fb_forest σ) x).1)) S tw_v3 hK 0 rfl rfl 13 (by decide) (tw_in fl_RX3_79 rfl) dX3_read_18 rfl ?_
      refine tg_icmp_ge (tgt := 81) S dX3_read_21 (by decide) (fun c => absurd c (fb_mnge hi_k hc hm)) (fun _ => ?_)
      refine tg_iload_n S 2 dX3_read_24 rfl rfl ?_
      refine tg_aload_n S 0 dX3_read_25 rfl rfl ?_
      refine tg_get (v := .ref (h 1)) S tw_v3 hK 0 rfl rfl 0 (by decide) (tw_in fl_RX3_7 rfl) dX3_read_26 rfl ?_
      refine tg_aload_n S 0 dX3_read_29 rfl rfl ?_
      refine tg_get (v := .ref (h 13)) S tw_v3 hK 0 rfl rfl 12 (by decide) (tw_in fl_RX3_47 rfl) dX3_read_30 rfl ?_
      refine tg_iload S 4 dX3_read_33 rfl ?_
      refine tg_iald (v := ((fb_trR (fb_forest σ) x).2.1) k) S hK 13 0 rfl rfl dX3_read_35 (tg_in (Nat.lt_of_lt_of_le hi_k hc) (by decide)) (congrArg (((fb_trR (fb_forest σ) x).2.1)) (tg_cl (Nat.lt_trans (Nat.lt_of_lt_of_le hi_k hc) (by decide)))) ?_
      refine tg_zald (v := ((fb_forest σ) 0) (((fb_trR (fb_forest σ) x).2.1) k).toNatClampNeg) S hK 1 1 rfl rfl dX3_read_36 (hw k hi_k) rfl ?_
      refine tg_if_eq (tgt := 59) S dX3_read_37 (by decide) (fun c_1 => ?_) (fun c_1 => ?_)
      · skip
        refine tg_iconst (v := 0) S dX3_read_59 (by decide) ?_
        refine tg_iadd S dX3_read_60 ?_
        refine tg_istore_n (L' := [(0, .ref (h 0)), (1, .int x), (2, .int (b.1 + 0)), (3, .int (tg_b true)), (4, .int (nI k))]) [1, 2, 0, 3, 4] S dX3_read_61 rfl (by decide) rfl ?_
        refine tg_aload_n S 0 dX3_read_62 rfl rfl ?_
        refine tg_get (v := .ref (h 7)) S tw_v3 hK 0 rfl rfl 6 (by decide) (tw_in fl_RX3_29 rfl) dX3_read_63 rfl ?_
        refine tg_aload_n S 0 dX3_read_66 rfl rfl ?_
        refine tg_get (v := .ref (h 13)) S tw_v3 hK 0 rfl rfl 12 (by decide) (tw_in fl_RX3_47 rfl) dX3_read_67 rfl ?_
        refine tg_iload S 4 dX3_read_70 rfl ?_
        refine tg_iald (v := ((fb_trR (fb_forest σ) x).2.1) k) S hK 13 0 rfl rfl dX3_read_72 (tg_in (Nat.lt_of_lt_of_le hi_k hc) (by decide)) (congrArg (((fb_trR (fb_forest σ) x).2.1)) (tg_cl (Nat.lt_trans (Nat.lt_of_lt_of_le hi_k hc) (by decide)))) ?_
        refine tg_iconst (v := 0) S dX3_read_73 (by decide) ?_
        refine tg_zast (b := false) (σ2 := tg_upA (tg_upA (tg_upA (tg_upA (tg_upA (fb_forest σ) 6 (upd b.2 (((fb_trR (fb_forest σ) x).2.1) k).toNatClampNeg 0)) 12 ((fb_trR (fb_forest σ) x).2.1)) 13 ((fb_trR (fb_forest σ) x).2.2)) 14 (fun _ => (fb_trR (fb_forest σ) x).1)) 15 (fun _ => 0)) S hK (tw_MD hd) 7 1 rfl rfl dX3_read_74 (hw k hi_k) ((tw_Ms6 (upd b.2 (((fb_trR (fb_forest σ) x).2.1) k).toNatClampNeg 0)).trans rfl) ?_
        refine tg_iinc (v := nI (k + 1)) (L' := [(0, .ref (h 0)), (1, .int x), (2, .int (b.1 + 0)), (3, .int (tg_b true)), (4, .int (nI (k + 1)))]) [1, 2, 3, 4, 0] S 4 dX3_read_75 rfl (tg_inc _) (by decide) rfl ?_
        refine tg_goto (tgt := 11) S dX3_read_78 (by decide) ?_
        have e_1 : fb_rdS ((fb_forest σ) 0) ((fb_trR (fb_forest σ) x).2.1) k b = (b.1 + 0, upd b.2 (((fb_trR (fb_forest σ) x).2.1) k).toNatClampNeg 0) := (by first | (simp [fb_rdS, c_1]; done) | (simp only [fb_rdS, if_pos c_1]; done))
        rw [e_1] at hk_k
        exact hk_k
      · skip
        refine tg_aload_n S 0 dX3_read_40 rfl rfl ?_
        refine tg_get (v := .ref (h 7)) S tw_v3 hK 0 rfl rfl 6 (by decide) (tw_in fl_RX3_29 rfl) dX3_read_41 rfl ?_
        refine tg_aload_n S 0 dX3_read_44 rfl rfl ?_
        refine tg_get (v := .ref (h 13)) S tw_v3 hK 0 rfl rfl 12 (by decide) (tw_in fl_RX3_47 rfl) dX3_read_45 rfl ?_
        refine tg_iload S 4 dX3_read_48 rfl ?_
        refine tg_iald (v := ((fb_trR (fb_forest σ) x).2.1) k) S hK 13 0 rfl rfl dX3_read_50 (tg_in (Nat.lt_of_lt_of_le hi_k hc) (by decide)) (congrArg (((fb_trR (fb_forest σ) x).2.1)) (tg_cl (Nat.lt_trans (Nat.lt_of_lt_of_le hi_k hc) (by decide)))) ?_
        refine tg_zald (v := b.2 (((fb_trR (fb_forest σ) x).2.1) k).toNatClampNeg) S hK 7 1 rfl rfl dX3_read_51 (hw k hi_k) rfl ?_
        refine tg_if_eq (tgt := 59) S dX3_read_52 (by decide) (fun c_2 => ?_) (fun c_2 => ?_)
        · skip
          refine tg_iconst (v := 0) S dX3_read_59 (by decide) ?_
          refine tg_iadd S dX3_read_60 ?_
          refine tg_istore_n (L' := [(0, .ref (h 0)), (1, .int x), (2, .int (b.1 + 0)), (3, .int (tg_b true)), (4, .int (nI k))]) [1, 2, 0, 3, 4] S dX3_read_61 rfl (by decide) rfl ?_
          refine tg_aload_n S 0 dX3_read_62 rfl rfl ?_
          refine tg_get (v := .ref (h 7)) S tw_v3 hK 0 rfl rfl 6 (by decide) (tw_in fl_RX3_29 rfl) dX3_read_63 rfl ?_
          refine tg_aload_n S 0 dX3_read_66 rfl rfl ?_
          refine tg_get (v := .ref (h 13)) S tw_v3 hK 0 rfl rfl 12 (by decide) (tw_in fl_RX3_47 rfl) dX3_read_67 rfl ?_
          refine tg_iload S 4 dX3_read_70 rfl ?_
          refine tg_iald (v := ((fb_trR (fb_forest σ) x).2.1) k) S hK 13 0 rfl rfl dX3_read_72 (tg_in (Nat.lt_of_lt_of_le hi_k hc) (by decide)) (congrArg (((fb_trR (fb_forest σ) x).2.1)) (tg_cl (Nat.lt_trans (Nat.lt_of_lt_of_le hi_k hc) (by decide)))) ?_
          refine tg_iconst (v := 0) S dX3_read_73 (by decide) ?_
          refine tg_zast (b := false) (σ2 := tg_upA (tg_upA (tg_upA (tg_upA (tg_upA (fb_forest σ) 6 (upd b.2 (((fb_trR (fb_forest σ) x).2.1) k).toNatClampNeg 0)) 12 ((fb_trR (fb_forest σ) x).2.1)) 13 ((fb_trR (fb_forest σ) x).2.2)) 14 (fun _ => (fb_trR (fb_forest σ) x).1)) 15 (fun _ => 0)) S hK (tw_MD hd) 7 1 rfl rfl dX3_read_74 (hw k hi_k) ((tw_Ms6 (upd b.2 (((fb_trR (fb_forest σ) x).2.1) k).toNatClampNeg 0)).trans rfl) ?_
          refine tg_iinc (v := nI (k + 1)) (L' := [(0, .ref (h 0)), (1, .int x), (2, .int (b.1 + 0)), (3, .int (tg_b true)), (4, .int (nI (k + 1)))]) [1, 2, 3, 4, 0] S 4 dX3_read_75 rfl (tg_inc _) (by decide) rfl ?_
          refine tg_goto (tgt := 11) S dX3_read_78 (by decide) ?_
          have e_2 : fb_rdS ((fb_forest σ) 0) ((fb_trR (fb_forest σ) x).2.1) k b = (b.1 + 0, upd b.2 (((fb_trR (fb_forest σ) x).2.1) k).toNatClampNeg 0) := (by first | (simp [fb_rdS, c_1, c_2]; done) | (simp only [fb_rdS, if_neg c_1, if_pos c_2]; done))
          rw [e_2] at hk_k
          exact hk_k
        · skip
          refine tg_iconst (v := 1) S dX3_read_55 (by decide) ?_
          refine tg_goto (tgt := 60) S dX3_read_56 (by decide) ?_
          refine tg_iadd S dX3_read_60 ?_
          refine tg_istore_n (L' := [(0, .ref (h 0)), (1, .int x), (2, .int (b.1 + 1)), (3, .int (tg_b true)), (4, .int (nI k))]) [1, 2, 0, 3, 4] S dX3_read_61 rfl (by decide) rfl ?_
          refine tg_aload_n S 0 dX3_read_62 rfl rfl ?_
          refine tg_get (v := .ref (h 7)) S tw_v3 hK 0 rfl rfl 6 (by decide) (tw_in fl_RX3_29 rfl) dX3_read_63 rfl ?_
          refine tg_aload_n S 0 dX3_read_66 rfl rfl ?_
          refine tg_get (v := .ref (h 13)) S tw_v3 hK 0 rfl rfl 12 (by decide) (tw_in fl_RX3_47 rfl) dX3_read_67 rfl ?_
          refine tg_iload S 4 dX3_read_70 rfl ?_
          refine tg_iald (v := ((fb_trR (fb_forest σ) x).2.1) k) S hK 13 0 rfl rfl dX3_read_72 (tg_in (Nat.lt_of_lt_of_le hi_k hc) (by decide)) (congrArg (((fb_trR (fb_forest σ) x).2.1)) (tg_cl (Nat.lt_trans (Nat.lt_of_lt_of_le hi_k hc) (by decide)))) ?_
          refine tg_iconst (v := 0) S dX3_read_73 (by decide) ?_
          refine tg_zast (b := false) (σ2 := tg_upA (tg_upA (tg_upA (tg_upA (tg_upA (fb_forest σ) 6 (upd b.2 (((fb_trR (fb_forest σ) x).2.1) k).toNatClampNeg 0)) 12 ((fb_trR (fb_forest σ) x).2.1)) 13 ((fb_trR (fb_forest σ) x).2.2)) 14 (fun _ => (fb_trR (fb_forest σ) x).1)) 15 (fun _ => 0)) S hK (tw_MD hd) 7 1 rfl rfl dX3_read_74 (hw k hi_k) ((tw_Ms6 (upd b.2 (((fb_trR (fb_forest σ) x).2.1) k).toNatClampNeg 0)).trans rfl) ?_
          refine tg_iinc (v := nI (k + 1)) (L' := [(0, .ref (h 0)), (1, .int x), (2, .int (b.1 + 1)), (3, .int (tg_b true)), (4, .int (nI (k + 1)))]) [1, 2, 3, 4, 0] S 4 dX3_read_75 rfl (tg_inc _) (by decide) rfl ?_
          refine tg_goto (tgt := 11) S dX3_read_78 (by decide) ?_
          have e_3 : fb_rdS ((fb_forest σ) 0) ((fb_trR (fb_forest σ) x).2.1) k b = (b.1 + 1, upd b.2 (((fb_trR (fb_forest σ) x).2.1) k).toNatClampNeg 0) := (by first | (simp [fb_rdS, c_1, c_2]; done) | (simp only [fb_rdS, if_neg c_1, if_neg c_2]; done))
          rw [e_3] at hk_k
          exact hk_k
    · skip
      refine tg_iload_n S 3 dX3_read_11 rfl rfl ?_
      refine tg_ifz (b := true) (tgt := 81) S dX3_read_12 (by decide) (fun c => absurd c (by decide)) (fun _ => ?_)
      refine tg_iload S 4 dX3_read_15 rfl ?_
      refine tg_aload_n S 0 dX3_read_17 rfl rfl ?_
      refine tg_get (v := .int ((fb_trR (fb_forest σ) x).1)) S tw_v3 hK 0 rfl rfl 13 (by decide) (tw_in fl_RX3_79 rfl) dX3_read_18 rfl ?_
      refine tg_icmp_ge (tgt := 81) S dX3_read_21 (by decide) (fun _ => ?_) (fun c => absurd (fb_mge hm) c)
      refine tg_iload_n S 2 dX3_read_81 rfl rfl ?_
      exact tg_iret S hr hlk dX3_read_82 (by rw [if_pos hb]; first | done | rfl) (by first | (unfold fb_lkS; rw [if_pos hb]; rfl) | (rw [if_pos hb]; rfl))
  · skip
    refine tg_eq (σ2 := fb_lkS σ x) (L2 := [(0, .ref (h 0)), (1, .int x), (2, .int 0), (3, .int (tg_b false)), (4, .int (nI 0))]) (st2 := []) rfl (by first | (simp only [hb]; done) | (simp only [hb]; rfl)) rfl ?_
    refine tg_iload_n S 3 dX3_read_11 rfl rfl ?_
    refine tg_ifz (b := false) (tgt := 81) S dX3_read_12 (by decide) (fun _ => ?_) (fun c => absurd c (by decide))
    refine tg_iload_n S 2 dX3_read_81 rfl rfl ?_
    exact tg_iret S hr hlk dX3_read_82 (by rw [if_neg (ne_true_of_eq_false hb)]) (by first | rfl | (rw [if_neg (ne_true_of_eq_false hb)]))
