/-! ===== 07: the reference: lists of a tree (printed by wip/whole/genC.py) ===== -/
def fb_n (σ : tg_Mem) (x : Int32) : Nat := (fb_trR (fb_forest σ) x).1.toNatClampNeg
def fb_ltS (th ω : tb_A) (k : Nat) (c : Int32) : Int32 := c + (if th (ω k).toNatClampNeg = 0 then 0 else 1)
def fb_urS (th un ω : tb_A) (k : Nat) (c : Int32) : Int32 := c + (if th (ω k).toNatClampNeg = 0 then 0 else if un (ω k).toNatClampNeg = 0 then 0 else 1)
def fb_ppS (th pe ω : tb_A) (k : Nat) (c : Int32) : Int32 := c ||| (if th (ω k).toNatClampNeg = 0 then 0 else ((1 : Int32) <<< ((pe (ω k).toNatClampNeg) &&& (31 : Int32))))
def fb_laS (th dy ω : tb_A) (k : Nat) (b : Int32) : Int32 := if th (ω k).toNatClampNeg = 0 then b else if dy (ω k).toNatClampNeg ≤ b then b else dy (ω k).toNatClampNeg
def fb_rdS (th ω : tb_A) (k : Nat) (q : Int32 × tb_A) : Int32 × tb_A := (q.1 + (if th (ω k).toNatClampNeg = 0 then 0 else if q.2 (ω k).toNatClampNeg = 0 then 0 else 1), upd q.2 (ω k).toNatClampNeg 0)
def fb_rd (σ : tg_Mem) (x : Int32) : Int32 × tb_A := tg_it (fb_rdS (fb_forest σ 0) (fb_trR (fb_forest σ) x).2.1) (0, fb_forest σ 6) (fb_n σ x)
def fb_rdT (σ : tg_Mem) (x : Int32) : tg_Mem := tg_upA (tg_upA (tg_upA (tg_upA (tg_upA (fb_forest σ) 6 (fb_rd σ x).2) 12 (fb_trR (fb_forest σ) x).2.1) 13 (fb_trR (fb_forest σ) x).2.2) 14 (fun _ => (fb_trR (fb_forest σ) x).1)) 15 (fun _ => 0)
theorem fb_mnge {i n : Nat} {m : Int32} (h : i < n) (hc : n ≤ 30) (hm : m = nI n) : ¬ m ≤ nI i := by
  rw [hm]
  exact nI_ge h (Nat.lt_of_le_of_lt hc (by decide))
theorem fb_mge {n : Nat} {m : Int32} (hm : m = nI n) : m ≤ nI n := by
  rw [hm]
  exact Int32.le_refl _
theorem tg_split {p : Program} {l : Launch} {e : Env} {R : Room} {s : State} {m : MethodId} {args : Array Value} {below : List Frame} {meth : Method} {c : Code} {D : va_G} {w : tg_Mem → va_W} {A : Nat → Prop} {n k z : Nat} {Q : State → Prop} {σ : tg_Mem} {pc : Nat} {L : List (Nat × Value)} {st : List Value} {b : Bool} (h1 : b = true → tg_G p l e R s m args below meth c D w A n k z Q σ pc L st) (h2 : b = false → tg_G p l e R s m args below meth c D w A n k z Q σ pc L st) : tg_G p l e R s m args below meth c D w A n k z Q σ pc L st := by
  cases b with
  | true => exact h1 rfl
  | false => exact h2 rfl
def fb_dpF (α : tb_A) : Nat → Int32 × Int32 → Option Int32
  | 0, _ => none
  | m + 1, q => if q.1 = -1 then some q.2 else if fa_id q.1 = true then fb_dpF α m (α q.1.toNatClampNeg, q.2 + 1) else none
def fb_dp (σ : tg_Mem) (x : Int32) : Int32 := (fb_dpF (fb_lkS σ x 10) 31 (if fb_lkB σ x = true then fb_lkS σ x 10 x.toNatClampNeg else -1, 0)).getD 0
def fb_itT (σ : tg_Mem) (x y : Int32) : tg_Mem := tg_upA (tg_upA (tg_upA (tg_upA (fb_forest σ) 12 (fb_trR (fb_forest σ) x).2.1) 13 (fb_trR (fb_forest σ) x).2.2) 14 (fun _ => (fb_trR (fb_forest σ) x).1)) 15 (fun _ => fb_thr2 true (fb_in y 0 ((fb_trR (fb_forest σ) x).1 - 1)))
theorem fb_inm30 {y m : Int32} {n : Nat} (h : fb_in y 0 (m - 1) = true) (hm : m = nI n) (hc : n ≤ 30) : vp_in y 30 := by
  simp only [fb_in, Bool.and_eq_true, Bool.not_eq_true', decide_eq_false_iff_not, Int32.lt_iff_toInt_lt] at h
  rw [hm] at h
  have h1 : (nI n - 1).toInt = (n : Int) - 1 := pk_sub_toInt (a := n) (b := 1) (by omega) (by omega)
  have h2 : (0 : Int32).toInt = 0 := by decide
  rw [vp_in_iff]
  omega
def fb_trC (α dy ω s : tb_A) (x : Int32) : Int32 × tb_A × tb_A := (fb_trF α dy 31 (0, 0, ω, upd s 0 x)).getD (0, ω, s)
def fb_erS (th dy ω : tb_A) (k : Nat) (b : Int32) : Int32 := if th (ω k).toNatClampNeg = 0 then b else if b ≤ dy (ω k).toNatClampNeg then b else dy (ω k).toNatClampNeg
def fb_erC (th dy : tb_A) (r : Int32 × tb_A × tb_A) : Int32 := tg_it (fb_erS th dy r.2.1) 1000 r.1.toNatClampNeg
/-- a tree's list stands: it ends, its length is a small number, its entries are ids -/
def fb_lst (α dy ω s : tb_A) (x : Int32) : Prop := fb_trF α dy 31 (0, 0, ω, upd s 0 x) = some (fb_trC α dy ω s x) ∧ (fb_trC α dy ω s x).1 = nI (fb_trC α dy ω s x).1.toNatClampNeg ∧ (fb_trC α dy ω s x).1.toNatClampNeg ≤ 30 ∧ ∀ k, k < (fb_trC α dy ω s x).1.toNatClampNeg → vp_in ((fb_trC α dy ω s x).2.1 k) 30
def fb_rtS (th dy α γ : tb_A) (k j : Nat) (q : Int32 × Int32 × tb_A × tb_A) : Int32 × Int32 × tb_A × tb_A :=
  if nI j = nI k then q else if γ j = 0 then q else if α j = -1 then
    (q.1 + (if 0 < fb_erC th dy (fb_trC α dy q.2.2.1 q.2.2.2 (nI k)) - fb_erC th dy (fb_trC α dy (fb_trC α dy q.2.2.1 q.2.2.2 (nI k)).2.1 (fb_trC α dy q.2.2.1 q.2.2.2 (nI k)).2.2 (nI j)) then 1
      else if fb_erC th dy (fb_trC α dy q.2.2.1 q.2.2.2 (nI k)) - fb_erC th dy (fb_trC α dy (fb_trC α dy q.2.2.1 q.2.2.2 (nI k)).2.1 (fb_trC α dy q.2.2.1 q.2.2.2 (nI k)).2.2 (nI j)) = 0 then (if nI k ≤ nI j then 0 else 1) else 0),
     (fb_trC α dy (fb_trC α dy q.2.2.1 q.2.2.2 (nI k)).2.1 (fb_trC α dy q.2.2.1 q.2.2.2 (nI k)).2.2 (nI j)).1, (fb_trC α dy (fb_trC α dy q.2.2.1 q.2.2.2 (nI k)).2.1 (fb_trC α dy q.2.2.1 q.2.2.2 (nI k)).2.2 (nI j)).2.1, (fb_trC α dy (fb_trC α dy q.2.2.1 q.2.2.2 (nI k)).2.1 (fb_trC α dy q.2.2.1 q.2.2.2 (nI k)).2.2 (nI j)).2.2)
  else q
def fb_rtI (th dy α γ : tb_A) (k : Nat) (q : Int32 × tb_A × tb_A) : Int32 × Int32 × tb_A × tb_A := tg_it (fb_rtS th dy α γ k) (0, q.1, q.2.1, q.2.2) 30
def fb_rtO (th dy α γ : tb_A) (y : Int32) (k : Nat) (q : Int32 × Int32 × tb_A × tb_A) : Int32 × Int32 × tb_A × tb_A :=
  if γ k = 0 then q else if α k = -1 then
    (if (fb_rtI th dy α γ k q.2).1 = y then nI k else q.1, (fb_rtI th dy α γ k q.2).2.1, (fb_rtI th dy α γ k q.2).2.2.1, (fb_rtI th dy α γ k q.2).2.2.2)
  else q
def fb_rt (σ : tg_Mem) (y : Int32) : Int32 × Int32 × tb_A × tb_A := tg_it (fb_rtO (fb_forest σ 0) (fb_forest σ 4) (fb_forest σ 10) (fb_forest σ 11) y) (-1, fb_forest σ 14 0, fb_forest σ 12, fb_forest σ 13) 30
def fb_rtB (σ : tg_Mem) (y : Int32) : Bool := fb_in y 0 (fb_rn (fb_forest σ 11) (fb_forest σ 10) - 1)
def fb_rtT (σ : tg_Mem) (y : Int32) : tg_Mem := tg_upA (tg_upA (tg_upA (tg_upA (fb_forest σ) 12 (fb_rt σ y).2.2.1) 13 (fb_rt σ y).2.2.2) 14 (fun _ => (fb_rt σ y).2.1)) 15 (fun _ => fb_thr1 (fb_rtB σ y))
def fb_rtF (σ : tg_Mem) (y : Int32) : tg_Mem := tg_upA (fb_forest σ) 15 (fun _ => fb_thr1 (fb_rtB σ y))
def fb_jnS (ω : tb_A) (y : Int32) (k : Nat) (b : Bool) : Bool := b && !(decide (ω k = y))
def fb_jnR (x y : Int32) : Bool := fb_in x 0 29 && (fb_in y 0 29 && !(decide (x = y)))
def fb_jnC (σ : tg_Mem) (x y : Int32) : Bool := fb_jnR x y && (!(decide (σ 0 x.toNatClampNeg = 0)) && !(decide (σ 0 y.toNatClampNeg = 0)))
def fb_jnT (σ : tg_Mem) (x : Int32) : Int32 × tb_A × tb_A := fb_trC (fb_forest σ 10) (fb_forest σ 4) (fb_forest σ 12) (fb_forest σ 13) x
def fb_jnL (σ : tg_Mem) (x y : Int32) : Bool := tg_it (fb_jnS (fb_jnT σ x).2.1 y) true (fb_jnT σ x).1.toNatClampNeg
def fb_jnU (σ : tg_Mem) (x y : Int32) (b : Bool) : tg_Mem := tg_upA (tg_upA (tg_upA (tg_upA (tg_upA (fb_forest σ) 7 (upd (σ 7) x.toNatClampNeg y)) 12 (fb_jnT σ x).2.1) 13 (fb_jnT σ x).2.2) 14 (fun _ => (fb_jnT σ x).1)) 15 (fun _ => fb_thr2 true b)
def fb_jnV (σ : tg_Mem) (x : Int32) (b : Bool) : tg_Mem := tg_upA (tg_upA (tg_upA (tg_upA (fb_forest σ) 12 (fb_jnT σ x).2.1) 13 (fb_jnT σ x).2.2) 14 (fun _ => (fb_jnT σ x).1)) 15 (fun _ => fb_thr2 true b)
theorem tg_dec {p : Program} {l : Launch} {e : Env} {R : Room} {s : State} {m : MethodId} {args : Array Value} {below : List Frame} {meth : Method} {c : Code} {D : va_G} {w : tg_Mem → va_W} {A : Nat → Prop} {n k z : Nat} {Q : State → Prop} {σ : tg_Mem} {pc : Nat} {L : List (Nat × Value)} {st : List Value} {P : Prop} (h1 : P → tg_G p l e R s m args below meth c D w A n k z Q σ pc L st) (h2 : ¬ P → tg_G p l e R s m args below meth c D w A n k z Q σ pc L st) : tg_G p l e R s m args below meth c D w A n k z Q σ pc L st := by
  by_cases h : P
  · exact h1 h
  · exact h2 h

set_option maxHeartbeats 1000000 in
set_option maxRecDepth 100000 in
theorem k_X3_letters {l : Launch} {D : va_G} {h : Nat → Nat} {cI cZ : ClassId} (hd : tw_dis 15 h) (σ : tg_Mem) (x : Int32) (H : fb_hyp (σ 0) (σ 1) (σ 2) (σ 7) (σ 8) (σ 9)) (HT : fb_lkB σ x = true → fb_tr (fb_forest σ) x = some (fb_trR (fb_forest σ) x)) (HC : fb_lkB σ x = true → (fb_trR (fb_forest σ) x).1 = nI (fb_n σ x) ∧ fb_n σ x ≤ 30 ∧ ∀ k, k < fb_n σ x → vp_in ((fb_trR (fb_forest σ) x).2.1 k) 30) : tg_CT l yX3_letters wzX3_letters (tg_rm 4) (tw_M h cI cZ) (tw_ty cI cZ) [] (tw_A 15 h) D [.ref (h 0), .int x] σ (some (.int (if fb_lkB σ x = true then tg_it (fb_ltS ((fb_forest σ) 0) ((fb_trR (fb_forest σ) x).2.1)) 0 (fb_n σ x) else 0))) (fb_lkS σ x) := by
  refine tg_met (own := RX3) (cc := cX3_letters) (maxL := 5) (ret := (some .int)) (by decide +kernel) rfl rfl (Nat.le_of_ble_eq_true rfl) ?_
  intro p e s m below meth c S hK hN hr hlk
  refine tg_sub (L' := [(0, .ref (h 0)), (1, .int x)]) [0, 1] rfl ?_
  refine tg_iconst (v := 0) S dX3_letters_0 (by decide) ?_
  refine tg_istore_n (L' := [(0, .ref (h 0)), (1, .int x), (2, .int 0)]) [1, 2, 0] S dX3_letters_1 rfl (by decide) rfl ?_
  refine tg_aload_n S 0 dX3_letters_2 rfl rfl ?_
  refine tg_iload_n S 1 dX3_letters_3 rfl rfl ?_
  refine tg_callV (nA := 1) (As := [.int x]) (rest := []) (q := (RX3, TX3, 16)) S hK hN (k_X3_looks hd σ x H HT) 0 rfl rfl (tw_gV ml_RX3_109 im_X3_looks se_X3_looks in_RX3 co_X3_looks rfl) rfl (by decide +kernel) ⟨Nat.le_of_ble_eq_true rfl, Nat.le_of_ble_eq_true rfl⟩ rfl rfl (Nat.le_of_ble_eq_true rfl) dX3_letters_4 ⟨Nat.le_of_ble_eq_true rfl, Nat.le_of_ble_eq_true rfl⟩ ?_
  refine tg_istore_n (L' := [(0, .ref (h 0)), (1, .int x), (2, .int 0), (3, .int (tg_b (fb_lkB σ x)))]) [1, 2, 3, 0] S dX3_letters_7 rfl (by decide) rfl ?_
  refine tg_iconst (v := nI 0) S dX3_letters_8 (by decide) ?_
  refine tg_istore (L' := [(0, .ref (h 0)), (1, .int x), (2, .int 0), (3, .int (tg_b (fb_lkB σ x))), (4, .int (nI 0))]) [1, 2, 3, 4, 0] S dX3_letters_9 (by decide) rfl ?_
  refine tg_split (b := fb_lkB σ x) (fun hb => ?_) (fun hb => ?_)
  · skip
    obtain ⟨hm, hc, hw⟩ := HC hb
    refine tg_eq (σ2 := tg_upA (tg_upA (tg_upA (tg_upA (fb_forest σ) 12 ((fb_trR (fb_forest σ) x).2.1)) 13 ((fb_trR (fb_forest σ) x).2.2)) 14 (fun _ => (fb_trR (fb_forest σ) x).1)) 15 (fun _ => 0)) (L2 := [(0, .ref (h 0)), (1, .int x), (2, .int 0), (3, .int (tg_b true)), (4, .int (nI 0))]) (st2 := []) (by unfold fb_lkS; rw [if_pos hb]; rfl) (by first | (simp only [hb]; done) | (simp only [hb]; rfl)) rfl ?_
    refine tg_loop (X := Int32) (fb_ltS ((fb_forest σ) 0) ((fb_trR (fb_forest σ) x).2.1)) (fb_n σ x) 0 (fun b => tg_upA (tg_upA (tg_upA (tg_upA (fb_forest σ) 12 ((fb_trR (fb_forest σ) x).2.1)) 13 ((fb_trR (fb_forest σ) x).2.2)) 14 (fun _ => (fb_trR (fb_forest σ) x).1)) 15 (fun _ => 0)) (fun k b => [(0, .ref (h 0)), (1, .int x), (2, .int b), (3, .int (tg_b true)), (4, .int (nI k))]) ?_ ?_
    · skip
      intro k b hi_k hk_k
      refine tg_iload_n S 3 dX3_letters_11 rfl rfl ?_
      refine tg_ifz (b := true) (tgt := 53) S dX3_letters_12 (by decide) (fun c => absurd c (by decide)) (fun _ => ?_)
      refine tg_iload S 4 dX3_letters_15 rfl ?_
      refine tg_aload_n S 0 dX3_letters_17 rfl rfl ?_
      refine tg_get (v := .int ((fb_trR (fb_forest σ) x).1)) S tw_v3 hK 0 rfl rfl 13 (by decide) (tw_in fl_RX3_79 rfl) dX3_letters_18 rfl ?_
      refine tg_icmp_ge (tgt := 53) S dX3_letters_21 (by decide) (fun c => absurd c (fb_mnge hi_k hc hm)) (fun _ => ?_)
      refine tg_iload_n S 2 dX3_letters_24 rfl rfl ?_
      refine tg_aload_n S 0 dX3_letters_25 rfl rfl ?_
      refine tg_get (v := .ref (h 1)) S tw_v3 hK 0 rfl rfl 0 (by decide) (tw_in fl_RX3_7 rfl) dX3_letters_26 rfl ?_
      refine tg_aload_n S 0 dX3_letters_29 rfl rfl ?_
      refine tg_get (v := .ref (h 13)) S tw_v3 hK 0 rfl rfl 12 (by decide) (tw_in fl_RX3_47 rfl) dX3_letters_30 rfl ?_
      refine tg_iload S 4 dX3_letters_33 rfl ?_
      refine tg_iald (v := ((fb_trR (fb_forest σ) x).2.1) k) S hK 13 0 rfl rfl dX3_letters_35 (tg_in (Nat.lt_of_lt_of_le hi_k hc) (by decide)) (congrArg (((fb_trR (fb_forest σ) x).2.1)) (tg_cl (Nat.lt_trans (Nat.lt_of_lt_of_le hi_k hc) (by decide)))) ?_
      refine tg_zald (v := ((fb_forest σ) 0) (((fb_trR (fb_forest σ) x).2.1) k).toNatClampNeg) S hK 1 1 rfl rfl dX3_letters_36 (hw k hi_k) rfl ?_
      refine tg_if_eq (tgt := 44) S dX3_letters_37 (by decide) (fun c_1 => ?_) (fun c_1 => ?_)
      · skip
        refine tg_iconst (v := 0) S dX3_letters_44 (by decide) ?_
        refine tg_iadd S dX3_letters_45 ?_
        refine tg_istore_n (L' := [(0, .ref (h 0)), (1, .int x), (2, .int (b + 0)), (3, .int (tg_b true)), (4, .int (nI k))]) [1, 2, 0, 3, 4] S dX3_letters_46 rfl (by decide) rfl ?_
        refine tg_iinc (v := nI (k + 1)) (L' := [(0, .ref (h 0)), (1, .int x), (2, .int (b + 0)), (3, .int (tg_b true)), (4, .int (nI (k + 1)))]) [1, 2, 3, 4, 0] S 4 dX3_letters_47 rfl (tg_inc _) (by decide) rfl ?_
        refine tg_goto (tgt := 11) S dX3_letters_50 (by decide) ?_
        have e_1 : fb_ltS ((fb_forest σ) 0) ((fb_trR (fb_forest σ) x).2.1) k b = b + 0 := (by first | (simp [fb_ltS, c_1]; done) | (simp only [fb_ltS, if_pos c_1]; done))
        rw [e_1] at hk_k
        exact hk_k
      · skip
        refine tg_iconst (v := 1) S dX3_letters_40 (by decide) ?_
        refine tg_goto (tgt := 45) S dX3_letters_41 (by decide) ?_
        refine tg_iadd S dX3_letters_45 ?_
        refine tg_istore_n (L' := [(0, .ref (h 0)), (1, .int x), (2, .int (b + 1)), (3, .int (tg_b true)), (4, .int (nI k))]) [1, 2, 0, 3, 4] S dX3_letters_46 rfl (by decide) rfl ?_
        refine tg_iinc (v := nI (k + 1)) (L' := [(0, .ref (h 0)), (1, .int x), (2, .int (b + 1)), (3, .int (tg_b true)), (4, .int (nI (k + 1)))]) [1, 2, 3, 4, 0] S 4 dX3_letters_47 rfl (tg_inc _) (by decide) rfl ?_
        refine tg_goto (tgt := 11) S dX3_letters_50 (by decide) ?_
        have e_2 : fb_ltS ((fb_forest σ) 0) ((fb_trR (fb_forest σ) x).2.1) k b = b + 1 := (by first | (simp [fb_ltS, c_1]; done) | (simp only [fb_ltS, if_neg c_1]; done))
        rw [e_2] at hk_k
        exact hk_k
    · skip
      refine tg_iload_n S 3 dX3_letters_11 rfl rfl ?_
      refine tg_ifz (b := true) (tgt := 53) S dX3_letters_12 (by decide) (fun c => absurd c (by decide)) (fun _ => ?_)
      refine tg_iload S 4 dX3_letters_15 rfl ?_
      refine tg_aload_n S 0 dX3_letters_17 rfl rfl ?_
      refine tg_get (v := .int ((fb_trR (fb_forest σ) x).1)) S tw_v3 hK 0 rfl rfl 13 (by decide) (tw_in fl_RX3_79 rfl) dX3_letters_18 rfl ?_
      refine tg_icmp_ge (tgt := 53) S dX3_letters_21 (by decide) (fun _ => ?_) (fun c => absurd (fb_mge hm) c)
      refine tg_iload_n S 2 dX3_letters_53 rfl rfl ?_
      exact tg_iret S hr hlk dX3_letters_54 (by rw [if_pos hb]; first | done | rfl) (by first | (unfold fb_lkS; rw [if_pos hb]; rfl) | (rw [if_pos hb]; rfl))
  · skip
    refine tg_eq (σ2 := fb_lkS σ x) (L2 := [(0, .ref (h 0)), (1, .int x), (2, .int 0), (3, .int (tg_b false)), (4, .int (nI 0))]) (st2 := []) rfl (by first | (simp only [hb]; done) | (simp only [hb]; rfl)) rfl ?_
    refine tg_iload_n S 3 dX3_letters_11 rfl rfl ?_
    refine tg_ifz (b := false) (tgt := 53) S dX3_letters_12 (by decide) (fun _ => ?_) (fun c => absurd c (by decide))
    refine tg_iload_n S 2 dX3_letters_53 rfl rfl ?_
    exact tg_iret S hr hlk dX3_letters_54 (by rw [if_neg (ne_true_of_eq_false hb)]) (by first | rfl | (rw [if_neg (ne_true_of_eq_false hb)]))
set_option maxHeartbeats 1000000 in
set_option maxRecDepth 100000 in
theorem k_X3_unread {l : Launch} {D : va_G} {h : Nat → Nat} {cI cZ : ClassId} (hd : tw_dis 15 h) (σ : tg_Mem) (x : Int32) (H : fb_hyp (σ 0) (σ 1) (σ 2) (σ 7) (σ 8) (σ 9)) (HT : fb_lkB σ x = true → fb_tr (fb_forest σ) x = some (fb_trR (fb_forest σ) x)) (HC : fb_lkB σ x = true → (fb_trR (fb_forest σ) x).1 = nI (fb_n σ x) ∧ fb_n σ x ≤ 30 ∧ ∀ k, k < fb_n σ x → vp_in ((fb_trR (fb_forest σ) x).2.1 k) 30) : tg_CT l yX3_unread wzX3_unread (tg_rm 4) (tw_M h cI cZ) (tw_ty cI cZ) [] (tw_A 15 h) D [.ref (h 0), .int x] σ (some (.int (if fb_lkB σ x = true then tg_it (fb_urS ((fb_forest σ) 0) ((fb_forest σ) 6) ((fb_trR (fb_forest σ) x).2.1)) 0 (fb_n σ x) else 0))) (fb_lkS σ x) := by
  refine tg_met (own := RX3) (cc := cX3_unread) (maxL := 5) (ret := (some .int)) (by decide +kernel) rfl rfl (Nat.le_of_ble_eq_true rfl) ?_
  intro p e s m below meth c S hK hN hr hlk
  refine tg_sub (L' := [(0, .ref (h 0)), (1, .int x)]) [0, 1] rfl ?_
  refine tg_iconst (v := 0) S dX3_unread_0 (by decide) ?_
  refine tg_istore_n (L' := [(0, .ref (h 0)), (1, .int x), (2, .int 0)]) [1, 2, 0] S dX3_unread_1 rfl (by decide) rfl ?_
  refine tg_aload_n S 0 dX3_unread_2 rfl rfl ?_
  refine tg_iload_n S 1 dX3_unread_3 rfl rfl ?_
  refine tg_callV (nA := 1) (As := [.int x]) (rest := []) (q := (RX3, TX3, 16)) S hK hN (k_X3_looks hd σ x H HT) 0 rfl rfl (tw_gV ml_RX3_109 im_X3_looks se_X3_looks in_RX3 co_X3_looks rfl) rfl (by decide +kernel) ⟨Nat.le_of_ble_eq_true rfl, Nat.le_of_ble_eq_true rfl⟩ rfl rfl (Nat.le_of_ble_eq_true rfl) dX3_unread_4 ⟨Nat.le_of_ble_eq_true rfl, Nat.le_of_ble_eq_true rfl⟩ ?_
  refine tg_istore_n (L' := [(0, .ref (h 0)), (1, .int x), (2, .int 0), (3, .int (tg_b (fb_lkB σ x)))]) [1, 2, 3, 0] S dX3_unread_7 rfl (by decide) rfl ?_
  refine tg_iconst (v := nI 0) S dX3_unread_8 (by decide) ?_
  refine tg_istore (L' := [(0, .ref (h 0)), (1, .int x), (2, .int 0), (3, .int (tg_b (fb_lkB σ x))), (4, .int (nI 0))]) [1, 2, 3, 4, 0] S dX3_unread_9 (by decide) rfl ?_
  refine tg_split (b := fb_lkB σ x) (fun hb => ?_) (fun hb => ?_)
  · skip
    obtain ⟨hm, hc, hw⟩ := HC hb
    refine tg_eq (σ2 := tg_upA (tg_upA (tg_upA (tg_upA (fb_forest σ) 12 ((fb_trR (fb_forest σ) x).2.1)) 13 ((fb_trR (fb_forest σ) x).2.2)) 14 (fun _ => (fb_trR (fb_forest σ) x).1)) 15 (fun _ => 0)) (L2 := [(0, .ref (h 0)), (1, .int x), (2, .int 0), (3, .int (tg_b true)), (4, .int (nI 0))]) (st2 := []) (by unfold fb_lkS; rw [if_pos hb]; rfl) (by first | (simp only [hb]; done) | (simp only [hb]; rfl)) rfl ?_
    refine tg_loop (X := Int32) (fb_urS ((fb_forest σ) 0) ((fb_forest σ) 6) ((fb_trR (fb_forest σ) x).2.1)) (fb_n σ x) 0 (fun b => tg_upA (tg_upA (tg_upA (tg_upA (fb_forest σ) 12 ((fb_trR (fb_forest σ) x).2.1)) 13 ((fb_trR (fb_forest σ) x).2.2)) 14 (fun _ => (fb_trR (fb_forest σ) x).1)) 15 (fun _ => 0)) (fun k b => [(0, .ref (h 0)), (1, .int x), (2, .int b), (3, .int (tg_b true)), (4, .int (nI k))]) ?_ ?_
    · skip
      intro k b hi_k hk_k
      refine tg_iload_n S 3 dX3_unread_11 rfl rfl ?_
      refine tg_ifz (b := true) (tgt := 68) S dX3_unread_12 (by decide) (fun c => absurd c (by decide)) (fun _ => ?_)
      refine tg_iload S 4 dX3_unread_15 rfl ?_
      refine tg_aload_n S 0 dX3_unread_17 rfl rfl ?_
      refine tg_get (v := .int ((fb_trR (fb_forest σ) x).1)) S tw_v3 hK 0 rfl rfl 13 (by decide) (tw_in fl_RX3_79 rfl) dX3_unread_18 rfl ?_
      refine tg_icmp_ge (tgt := 68) S dX3_unread_21 (by decide) (fun c => absurd c (fb_mnge hi_k hc hm)) (fun _ => ?_)
      refine tg_iload_n S 2 dX3_unread_24 rfl rfl ?_
      refine tg_aload_n S 0 dX3_unread_25 rfl rfl ?_
      refine tg_get (v := .ref (h 1)) S tw_v3 hK 0 rfl rfl 0 (by decide) (tw_in fl_RX3_7 rfl) dX3_unread_26 rfl ?_
      refine tg_aload_n S 0 dX3_unread_29 rfl rfl ?_
      refine tg_get (v := .ref (h 13)) S tw_v3 hK 0 rfl rfl 12 (by decide) (tw_in fl_RX3_47 rfl) dX3_unread_30 rfl ?_
      refine tg_iload S 4 dX3_unread_33 rfl ?_
      refine tg_iald (v := ((fb_trR (fb_forest σ) x).2.1) k) S hK 13 0 rfl rfl dX3_unread_35 (tg_in (Nat.lt_of_lt_of_le hi_k hc) (by decide)) (congrArg (((fb_trR (fb_forest σ) x).2.1)) (tg_cl (Nat.lt_trans (Nat.lt_of_lt_of_le hi_k hc) (by decide)))) ?_
      refine tg_zald (v := ((fb_forest σ) 0) (((fb_trR (fb_forest σ) x).2.1) k).toNatClampNeg) S hK 1 1 rfl rfl dX3_unread_36 (hw k hi_k) rfl ?_
      refine tg_if_eq (tgt := 59) S dX3_unread_37 (by decide) (fun c_1 => ?_) (fun c_1 => ?_)
      · skip
        refine tg_iconst (v := 0) S dX3_unread_59 (by decide) ?_
        refine tg_iadd S dX3_unread_60 ?_
        refine tg_istore_n (L' := [(0, .ref (h 0)), (1, .int x), (2, .int (b + 0)), (3, .int (tg_b true)), (4, .int (nI k))]) [1, 2, 0, 3, 4] S dX3_unread_61 rfl (by decide) rfl ?_
        refine tg_iinc (v := nI (k + 1)) (L' := [(0, .ref (h 0)), (1, .int x), (2, .int (b + 0)), (3, .int (tg_b true)), (4, .int (nI (k + 1)))]) [1, 2, 3, 4, 0] S 4 dX3_unread_62 rfl (tg_inc _) (by decide) rfl ?_
        refine tg_goto (tgt := 11) S dX3_unread_65 (by decide) ?_
        have e_1 : fb_urS ((fb_forest σ) 0) ((fb_forest σ) 6) ((fb_trR (fb_forest σ) x).2.1) k b = b + 0 := (by first | (simp [fb_urS, c_1]; done) | (simp only [fb_urS, if_pos c_1]; done))
        rw [e_1] at hk_k
        exact hk_k
      · skip
        refine tg_aload_n S 0 dX3_unread_40 rfl rfl ?_
        refine tg_get (v := .ref (h 7)) S tw_v3 hK 0 rfl rfl 6 (by decide) (tw_in fl_RX3_29 rfl) dX3_unread_41 rfl ?_
        refine tg_aload_n S 0 dX3_unread_44 rfl rfl ?_
        refine tg_get (v := .ref (h 13)) S tw_v3 hK 0 rfl rfl 12 (by decide) (tw_in fl_RX3_47 rfl) dX3_unread_45 rfl ?_
        refine tg_iload S 4 dX3_unread_48 rfl ?_
        refine tg_iald (v := ((fb_trR (fb_forest σ) x).2.1) k) S hK 13 0 rfl rfl dX3_unread_50 (tg_in (Nat.lt_of_lt_of_le hi_k hc) (by decide)) (congrArg (((fb_trR (fb_forest σ) x).2.1)) (tg_cl (Nat.lt_trans (Nat.lt_of_lt_of_le hi_k hc) (by decide)))) ?_
        refine tg_zald (v := ((fb_forest σ) 6) (((fb_trR (fb_forest σ) x).2.1) k).toNatClampNeg) S hK 7 1 rfl rfl dX3_unread_51 (hw k hi_k) rfl ?_
        refine tg_if_eq (tgt := 59) S dX3_unread_52 (by decide) (fun c_2 => ?_) (fun c_2 => ?_)
        · skip
          refine tg_iconst (v := 0) S dX3_unread_59 (by decide) ?_
          refine tg_iadd S dX3_unread_60 ?_
          refine tg_istore_n (L' := [(0, .ref (h 0)), (1, .int x), (2, .int (b + 0)), (3, .int (tg_b true)), (4, .int (nI k))]) [1, 2, 0, 3, 4] S dX3_unread_61 rfl (by decide) rfl ?_
          refine tg_iinc (v := nI (k + 1)) (L' := [(0, .ref (h 0)), (1, .int x), (2, .int (b + 0)), (3, .int (tg_b true)), (4, .int (nI (k + 1)))]) [1, 2, 3, 4, 0] S 4 dX3_unread_62 rfl (tg_inc _) (by decide) rfl ?_
          refine tg_goto (tgt := 11) S dX3_unread_65 (by decide) ?_
          have e_2 : fb_urS ((fb_forest σ) 0) ((fb_forest σ) 6) ((fb_trR (fb_forest σ) x).2.1) k b = b + 0 := (by first | (simp [fb_urS, c_1, c_2]; done) | (simp only [fb_urS, if_neg c_1, if_pos c_2]; done))
          rw [e_2] at hk_k
          exact hk_k
        · skip
          refine tg_iconst (v := 1) S dX3_unread_55 (by decide) ?_
          refine tg_goto (tgt := 60) S dX3_unread_56 (by decide) ?_
          refine tg_iadd S dX3_unread_60 ?_
          refine tg_istore_n (L' := [(0, .ref (h 0)), (1, .int x), (2, .int (b + 1)), (3, .int (tg_b true)), (4, .int (nI k))]) [1, 2, 0, 3, 4] S dX3_unread_61 rfl (by decide) rfl ?_
          refine tg_iinc (v := nI (k + 1)) (L' := [(0, .ref (h 0)), (1, .int x), (2, .int (b + 1)), (3, .int (tg_b true)), (4, .int (nI (k + 1)))]) [1, 2, 3, 4, 0] S 4 dX3_unread_62 rfl (tg_inc _) (by decide) rfl ?_
          refine tg_goto (tgt := 11) S dX3_unread_65 (by decide) ?_
          have e_3 : fb_urS ((fb_forest σ) 0) ((fb_forest σ) 6) ((fb_trR (fb_forest σ) x).2.1) k b = b + 1 := (by first | (simp [fb_urS, c_1, c_2]; done) | (simp only [fb_urS, if_neg c_1, if_neg c_2]; done))
          rw [e_3] at hk_k
          exact hk_k
    · skip
      refine tg_iload_n S 3 dX3_unread_11 rfl rfl ?_
      refine tg_ifz (b := true) (tgt := 68) S dX3_unread_12 (by decide) (fun c => absurd c (by decide)) (fun _ => ?_)
      refine tg_iload S 4 dX3_unread_15 rfl ?_
      refine tg_aload_n S 0 dX3_unread_17 rfl rfl ?_
      refine tg_get (v := .int ((fb_trR (fb_forest σ) x).1)) S tw_v3 hK 0 rfl rfl 13 (by decide) (tw_in fl_RX3_79 rfl) dX3_unread_18 rfl ?_
      refine tg_icmp_ge (tgt := 68) S dX3_unread_21 (by decide) (fun _ => ?_) (fun c => absurd (fb_mge hm) c)
      refine tg_iload_n S 2 dX3_unread_68 rfl rfl ?_
      exact tg_iret S hr hlk dX3_unread_69 (by rw [if_pos hb]; first | done | rfl) (by first | (unfold fb_lkS; rw [if_pos hb]; rfl) | (rw [if_pos hb]; rfl))
  · skip
    refine tg_eq (σ2 := fb_lkS σ x) (L2 := [(0, .ref (h 0)), (1, .int x), (2, .int 0), (3, .int (tg_b false)), (4, .int (nI 0))]) (st2 := []) rfl (by first | (simp only [hb]; done) | (simp only [hb]; rfl)) rfl ?_
    refine tg_iload_n S 3 dX3_unread_11 rfl rfl ?_
    refine tg_ifz (b := false) (tgt := 68) S dX3_unread_12 (by decide) (fun _ => ?_) (fun c => absurd c (by decide))
    refine tg_iload_n S 2 dX3_unread_68 rfl rfl ?_
    exact tg_iret S hr hlk dX3_unread_69 (by rw [if_neg (ne_true_of_eq_false hb)]) (by first | rfl | (rw [if_neg (ne_true_of_eq_false hb)]))
set_option maxHeartbeats 1000000 in
set_option maxRecDepth 100000 in
theorem k_X3_people {l : Launch} {D : va_G} {h : Nat → Nat} {cI cZ : ClassId} (hd : tw_dis 15 h) (σ : tg_Mem) (x : Int32) (H : fb_hyp (σ 0) (σ 1) (σ 2) (σ 7) (σ 8) (σ 9)) (HT : fb_lkB σ x = true → fb_tr (fb_forest σ) x = some (fb_trR (fb_forest σ) x)) (HC : fb_lkB σ x = true → (fb_trR (fb_forest σ) x).1 = nI (fb_n σ x) ∧ fb_n σ x ≤ 30 ∧ ∀ k, k < fb_n σ x → vp_in ((fb_trR (fb_forest σ) x).2.1 k) 30) : tg_CT l yX3_people wzX3_people (tg_rm 4) (tw_M h cI cZ) (tw_ty cI cZ) [] (tw_A 15 h) D [.ref (h 0), .int x] σ (some (.int (if fb_lkB σ x = true then tg_it (fb_ppS ((fb_forest σ) 0) ((fb_forest σ) 5) ((fb_trR (fb_forest σ) x).2.1)) 0 (fb_n σ x) else 0))) (fb_lkS σ x) := by
  refine tg_met (own := RX3) (cc := cX3_people) (maxL := 5) (ret := (some .int)) (by decide +kernel) rfl rfl (Nat.le_of_ble_eq_true rfl) ?_
  intro p e s m below meth c S hK hN hr hlk
  refine tg_sub (L' := [(0, .ref (h 0)), (1, .int x)]) [0, 1] rfl ?_
  refine tg_iconst (v := 0) S dX3_people_0 (by decide) ?_
  refine tg_istore_n (L' := [(0, .ref (h 0)), (1, .int x), (2, .int 0)]) [1, 2, 0] S dX3_people_1 rfl (by decide) rfl ?_
  refine tg_aload_n S 0 dX3_people_2 rfl rfl ?_
  refine tg_iload_n S 1 dX3_people_3 rfl rfl ?_
  refine tg_callV (nA := 1) (As := [.int x]) (rest := []) (q := (RX3, TX3, 16)) S hK hN (k_X3_looks hd σ x H HT) 0 rfl rfl (tw_gV ml_RX3_109 im_X3_looks se_X3_looks in_RX3 co_X3_looks rfl) rfl (by decide +kernel) ⟨Nat.le_of_ble_eq_true rfl, Nat.le_of_ble_eq_true rfl⟩ rfl rfl (Nat.le_of_ble_eq_true rfl) dX3_people_4 ⟨Nat.le_of_ble_eq_true rfl, Nat.le_of_ble_eq_true rfl⟩ ?_
  refine tg_istore_n (L' := [(0, .ref (h 0)), (1, .int x), (2, .int 0), (3, .int (tg_b (fb_lkB σ x)))]) [1, 2, 3, 0] S dX3_people_7 rfl (by decide) rfl ?_
  refine tg_iconst (v := nI 0) S dX3_people_8 (by decide) ?_
  refine tg_istore (L' := [(0, .ref (h 0)), (1, .int x), (2, .int 0), (3, .int (tg_b (fb_lkB σ x))), (4, .int (nI 0))]) [1, 2, 3, 4, 0] S dX3_people_9 (by decide) rfl ?_
  refine tg_split (b := fb_lkB σ x) (fun hb => ?_) (fun hb => ?_)
  · skip
    obtain ⟨hm, hc, hw⟩ := HC hb
    refine tg_eq (σ2 := tg_upA (tg_upA (tg_upA (tg_upA (fb_forest σ) 12 ((fb_trR (fb_forest σ) x).2.1)) 13 ((fb_trR (fb_forest σ) x).2.2)) 14 (fun _ => (fb_trR (fb_forest σ) x).1)) 15 (fun _ => 0)) (L2 := [(0, .ref (h 0)), (1, .int x), (2, .int 0), (3, .int (tg_b true)), (4, .int (nI 0))]) (st2 := []) (by unfold fb_lkS; rw [if_pos hb]; rfl) (by first | (simp only [hb]; done) | (simp only [hb]; rfl)) rfl ?_
    refine tg_loop (X := Int32) (fb_ppS ((fb_forest σ) 0) ((fb_forest σ) 5) ((fb_trR (fb_forest σ) x).2.1)) (fb_n σ x) 0 (fun b => tg_upA (tg_upA (tg_upA (tg_upA (fb_forest σ) 12 ((fb_trR (fb_forest σ) x).2.1)) 13 ((fb_trR (fb_forest σ) x).2.2)) 14 (fun _ => (fb_trR (fb_forest σ) x).1)) 15 (fun _ => 0)) (fun k b => [(0, .ref (h 0)), (1, .int x), (2, .int b), (3, .int (tg_b true)), (4, .int (nI k))]) ?_ ?_
    · skip
      intro k b hi_k hk_k
      refine tg_iload_n S 3 dX3_people_11 rfl rfl ?_
      refine tg_ifz (b := true) (tgt := 66) S dX3_people_12 (by decide) (fun c => absurd c (by decide)) (fun _ => ?_)
      refine tg_iload S 4 dX3_people_15 rfl ?_
      refine tg_aload_n S 0 dX3_people_17 rfl rfl ?_
      refine tg_get (v := .int ((fb_trR (fb_forest σ) x).1)) S tw_v3 hK 0 rfl rfl 13 (by decide) (tw_in fl_RX3_79 rfl) dX3_people_18 rfl ?_
      refine tg_icmp_ge (tgt := 66) S dX3_people_21 (by decide) (fun c => absurd c (fb_mnge hi_k hc hm)) (fun _ => ?_)
      refine tg_iload_n S 2 dX3_people_24 rfl rfl ?_
      refine tg_aload_n S 0 dX3_people_25 rfl rfl ?_
      refine tg_get (v := .ref (h 1)) S tw_v3 hK 0 rfl rfl 0 (by decide) (tw_in fl_RX3_7 rfl) dX3_people_26 rfl ?_
      refine tg_aload_n S 0 dX3_people_29 rfl rfl ?_
      refine tg_get (v := .ref (h 13)) S tw_v3 hK 0 rfl rfl 12 (by decide) (tw_in fl_RX3_47 rfl) dX3_people_30 rfl ?_
      refine tg_iload S 4 dX3_people_33 rfl ?_
      refine tg_iald (v := ((fb_trR (fb_forest σ) x).2.1) k) S hK 13 0 rfl rfl dX3_people_35 (tg_in (Nat.lt_of_lt_of_le hi_k hc) (by decide)) (congrArg (((fb_trR (fb_forest σ) x).2.1)) (tg_cl (Nat.lt_trans (Nat.lt_of_lt_of_le hi_k hc) (by decide)))) ?_
      refine tg_zald (v := ((fb_forest σ) 0) (((fb_trR (fb_forest σ) x).2.1) k).toNatClampNeg) S hK 1 1 rfl rfl dX3_people_36 (hw k hi_k) rfl ?_
      refine tg_if_eq (tgt := 57) S dX3_people_37 (by decide) (fun c_1 => ?_) (fun c_1 => ?_)
      · skip
        refine tg_iconst (v := 0) S dX3_people_57 (by decide) ?_
        refine tg_ior S dX3_people_58 ?_
        refine tg_istore_n (L' := [(0, .ref (h 0)), (1, .int x), (2, .int (b ||| 0)), (3, .int (tg_b true)), (4, .int (nI k))]) [1, 2, 0, 3, 4] S dX3_people_59 rfl (by decide) rfl ?_
        refine tg_iinc (v := nI (k + 1)) (L' := [(0, .ref (h 0)), (1, .int x), (2, .int (b ||| 0)), (3, .int (tg_b true)), (4, .int (nI (k + 1)))]) [1, 2, 3, 4, 0] S 4 dX3_people_60 rfl (tg_inc _) (by decide) rfl ?_
        refine tg_goto (tgt := 11) S dX3_people_63 (by decide) ?_
        have e_1 : fb_ppS ((fb_forest σ) 0) ((fb_forest σ) 5) ((fb_trR (fb_forest σ) x).2.1) k b = b ||| 0 := (by first | (simp [fb_ppS, c_1]; done) | (simp only [fb_ppS, if_pos c_1]; done))
        rw [e_1] at hk_k
        exact hk_k
      · skip
        refine tg_iconst (v := 1) S dX3_people_40 (by decide) ?_
        refine tg_aload_n S 0 dX3_people_41 rfl rfl ?_
        refine tg_get (v := .ref (h 6)) S tw_v3 hK 0 rfl rfl 5 (by decide) (tw_in fl_RX3_26 rfl) dX3_people_42 rfl ?_
        refine tg_aload_n S 0 dX3_people_45 rfl rfl ?_
        refine tg_get (v := .ref (h 13)) S tw_v3 hK 0 rfl rfl 12 (by decide) (tw_in fl_RX3_47 rfl) dX3_people_46 rfl ?_
        refine tg_iload S 4 dX3_people_49 rfl ?_
        refine tg_iald (v := ((fb_trR (fb_forest σ) x).2.1) k) S hK 13 0 rfl rfl dX3_people_51 (tg_in (Nat.lt_of_lt_of_le hi_k hc) (by decide)) (congrArg (((fb_trR (fb_forest σ) x).2.1)) (tg_cl (Nat.lt_trans (Nat.lt_of_lt_of_le hi_k hc) (by decide)))) ?_
        refine tg_iald (v := ((fb_forest σ) 5) (((fb_trR (fb_forest σ) x).2.1) k).toNatClampNeg) S hK 6 0 rfl rfl dX3_people_52 (hw k hi_k) rfl ?_
        refine tg_ishl S dX3_people_53 ?_
        refine tg_goto (tgt := 58) S dX3_people_54 (by decide) ?_
        refine tg_ior S dX3_people_58 ?_
        refine tg_istore_n (L' := [(0, .ref (h 0)), (1, .int x), (2, .int (b ||| (1 <<< ((((fb_forest σ) 5) (((fb_trR (fb_forest σ) x).2.1) k).toNatClampNeg) &&& 31)))), (3, .int (tg_b true)), (4, .int (nI k))]) [1, 2, 0, 3, 4] S dX3_people_59 rfl (by decide) rfl ?_
        refine tg_iinc (v := nI (k + 1)) (L' := [(0, .ref (h 0)), (1, .int x), (2, .int (b ||| (1 <<< ((((fb_forest σ) 5) (((fb_trR (fb_forest σ) x).2.1) k).toNatClampNeg) &&& 31)))), (3, .int (tg_b true)), (4, .int (nI (k + 1)))]) [1, 2, 3, 4, 0] S 4 dX3_people_60 rfl (tg_inc _) (by decide) rfl ?_
        refine tg_goto (tgt := 11) S dX3_people_63 (by decide) ?_
        have e_2 : fb_ppS ((fb_forest σ) 0) ((fb_forest σ) 5) ((fb_trR (fb_forest σ) x).2.1) k b = b ||| (1 <<< ((((fb_forest σ) 5) (((fb_trR (fb_forest σ) x).2.1) k).toNatClampNeg) &&& 31)) := (by first | (simp [fb_ppS, c_1]; done) | (simp only [fb_ppS, if_neg c_1]; done))
        rw [e_2] at hk_k
        exact hk_k
    · skip
      refine tg_iload_n S 3 dX3_people_11 rfl rfl ?_
      refine tg_ifz (b := true) (tgt := 66) S dX3_people_12 (by decide) (fun c => absurd c (by decide)) (fun _ => ?_)
      refine tg_iload S 4 dX3_people_15 rfl ?_
      refine tg_aload_n S 0 dX3_people_17 rfl rfl ?_
      refine tg_get (v := .int ((fb_trR (fb_forest σ) x).1)) S tw_v3 hK 0 rfl rfl 13 (by decide) (tw_in fl_RX3_79 rfl) dX3_people_18 rfl ?_
      refine tg_icmp_ge (tgt := 66) S dX3_people_21 (by decide) (fun _ => ?_) (fun c => absurd (fb_mge hm) c)
      refine tg_iload_n S 2 dX3_people_66 rfl rfl ?_
      exact tg_iret S hr hlk dX3_people_67 (by rw [if_pos hb]; first | done | rfl) (by first | (unfold fb_lkS; rw [if_pos hb]; rfl) | (rw [if_pos hb]; rfl))
  · skip
    refine tg_eq (σ2 := fb_lkS σ x) (L2 := [(0, .ref (h 0)), (1, .int x), (2, .int 0), (3, .int (tg_b false)), (4, .int (nI 0))]) (st2 := []) rfl (by first | (simp only [hb]; done) | (simp only [hb]; rfl)) rfl ?_
    refine tg_iload_n S 3 dX3_people_11 rfl rfl ?_
    refine tg_ifz (b := false) (tgt := 66) S dX3_people_12 (by decide) (fun _ => ?_) (fun c => absurd c (by decide))
    refine tg_iload_n S 2 dX3_people_66 rfl rfl ?_
    exact tg_iret S hr hlk dX3_people_67 (by rw [if_neg (ne_true_of_eq_false hb)]) (by first | rfl | (rw [if_neg (ne_true_of_eq_false hb)]))
set_option maxHeartbeats 1000000 in
set_option maxRecDepth 100000 in
theorem k_X3_latest {l : Launch} {D : va_G} {h : Nat → Nat} {cI cZ : ClassId} (hd : tw_dis 15 h) (σ : tg_Mem) (x : Int32) (H : fb_hyp (σ 0) (σ 1) (σ 2) (σ 7) (σ 8) (σ 9)) (HT : fb_lkB σ x = true → fb_tr (fb_forest σ) x = some (fb_trR (fb_forest σ) x)) (HC : fb_lkB σ x = true → (fb_trR (fb_forest σ) x).1 = nI (fb_n σ x) ∧ fb_n σ x ≤ 30 ∧ ∀ k, k < fb_n σ x → vp_in ((fb_trR (fb_forest σ) x).2.1 k) 30) : tg_CT l yX3_latest wzX3_latest (tg_rm 4) (tw_M h cI cZ) (tw_ty cI cZ) [] (tw_A 15 h) D [.ref (h 0), .int x] σ (some (.int (if fb_lkB σ x = true then tg_it (fb_laS ((fb_forest σ) 0) ((fb_forest σ) 4) ((fb_trR (fb_forest σ) x).2.1)) 0 (fb_n σ x) else 0))) (fb_lkS σ x) := by
  refine tg_met (own := RX3) (cc := cX3_latest) (maxL := 5) (ret := (some .int)) (by decide +kernel) rfl rfl (Nat.le_of_ble_eq_true rfl) ?_
  intro p e s m below meth c S hK hN hr hlk
  refine tg_sub (L' := [(0, .ref (h 0)), (1, .int x)]) [0, 1] rfl ?_
  refine tg_iconst (v := 0) S dX3_latest_0 (by decide) ?_
  refine tg_istore_n (L' := [(0, .ref (h 0)), (1, .int x), (2, .int 0)]) [1, 2, 0] S dX3_latest_1 rfl (by decide) rfl ?_
  refine tg_aload_n S 0 dX3_latest_2 rfl rfl ?_
  refine tg_iload_n S 1 dX3_latest_3 rfl rfl ?_
  refine tg_callV (nA := 1) (As := [.int x]) (rest := []) (q := (RX3, TX3, 16)) S hK hN (k_X3_looks hd σ x H HT) 0 rfl rfl (tw_gV ml_RX3_109 im_X3_looks se_X3_looks in_RX3 co_X3_looks rfl) rfl (by decide +kernel) ⟨Nat.le_of_ble_eq_true rfl, Nat.le_of_ble_eq_true rfl⟩ rfl rfl (Nat.le_of_ble_eq_true rfl) dX3_latest_4 ⟨Nat.le_of_ble_eq_true rfl, Nat.le_of_ble_eq_true rfl⟩ ?_
  refine tg_istore_n (L' := [(0, .ref (h 0)), (1, .int x), (2, .int 0), (3, .int (tg_b (fb_lkB σ x)))]) [1, 2, 3, 0] S dX3_latest_7 rfl (by decide) rfl ?_
  refine tg_iconst (v := nI 0) S dX3_latest_8 (by decide) ?_
  refine tg_istore (L' := [(0, .ref (h 0)), (1, .int x), (2, .int 0), (3, .int (tg_b (fb_lkB σ x))), (4, .int (nI 0))]) [1, 2, 3, 4, 0] S dX3_latest_9 (by decide) rfl ?_
  refine tg_split (b := fb_lkB σ x) (fun hb => ?_) (fun hb => ?_)
  · skip
    obtain ⟨hm, hc, hw⟩ := HC hb
    refine tg_eq (σ2 := tg_upA (tg_upA (tg_upA (tg_upA (fb_forest σ) 12 ((fb_trR (fb_forest σ) x).2.1)) 13 ((fb_trR (fb_forest σ) x).2.2)) 14 (fun _ => (fb_trR (fb_forest σ) x).1)) 15 (fun _ => 0)) (L2 := [(0, .ref (h 0)), (1, .int x), (2, .int 0), (3, .int (tg_b true)), (4, .int (nI 0))]) (st2 := []) (by unfold fb_lkS; rw [if_pos hb]; rfl) (by first | (simp only [hb]; done) | (simp only [hb]; rfl)) rfl ?_
    refine tg_loop (X := Int32) (fb_laS ((fb_forest σ) 0) ((fb_forest σ) 4) ((fb_trR (fb_forest σ) x).2.1)) (fb_n σ x) 0 (fun b => tg_upA (tg_upA (tg_upA (tg_upA (fb_forest σ) 12 ((fb_trR (fb_forest σ) x).2.1)) 13 ((fb_trR (fb_forest σ) x).2.2)) 14 (fun _ => (fb_trR (fb_forest σ) x).1)) 15 (fun _ => 0)) (fun k b => [(0, .ref (h 0)), (1, .int x), (2, .int b), (3, .int (tg_b true)), (4, .int (nI k))]) ?_ ?_
    · skip
      intro k b hi_k hk_k
      refine tg_iload_n S 3 dX3_latest_11 rfl rfl ?_
      refine tg_ifz (b := true) (tgt := 78) S dX3_latest_12 (by decide) (fun c => absurd c (by decide)) (fun _ => ?_)
      refine tg_iload S 4 dX3_latest_15 rfl ?_
      refine tg_aload_n S 0 dX3_latest_17 rfl rfl ?_
      refine tg_get (v := .int ((fb_trR (fb_forest σ) x).1)) S tw_v3 hK 0 rfl rfl 13 (by decide) (tw_in fl_RX3_79 rfl) dX3_latest_18 rfl ?_
      refine tg_icmp_ge (tgt := 78) S dX3_latest_21 (by decide) (fun c => absurd c (fb_mnge hi_k hc hm)) (fun _ => ?_)
      refine tg_aload_n S 0 dX3_latest_24 rfl rfl ?_
      refine tg_get (v := .ref (h 1)) S tw_v3 hK 0 rfl rfl 0 (by decide) (tw_in fl_RX3_7 rfl) dX3_latest_25 rfl ?_
      refine tg_aload_n S 0 dX3_latest_28 rfl rfl ?_
      refine tg_get (v := .ref (h 13)) S tw_v3 hK 0 rfl rfl 12 (by decide) (tw_in fl_RX3_47 rfl) dX3_latest_29 rfl ?_
      refine tg_iload S 4 dX3_latest_32 rfl ?_
      refine tg_iald (v := ((fb_trR (fb_forest σ) x).2.1) k) S hK 13 0 rfl rfl dX3_latest_34 (tg_in (Nat.lt_of_lt_of_le hi_k hc) (by decide)) (congrArg (((fb_trR (fb_forest σ) x).2.1)) (tg_cl (Nat.lt_trans (Nat.lt_of_lt_of_le hi_k hc) (by decide)))) ?_
      refine tg_zald (v := ((fb_forest σ) 0) (((fb_trR (fb_forest σ) x).2.1) k).toNatClampNeg) S hK 1 1 rfl rfl dX3_latest_35 (hw k hi_k) rfl ?_
      refine tg_if_eq (tgt := 70) S dX3_latest_36 (by decide) (fun c_1 => ?_) (fun c_1 => ?_)
      · skip
        refine tg_iload_n S 2 dX3_latest_70 rfl rfl ?_
        refine tg_istore_n (L' := [(0, .ref (h 0)), (1, .int x), (2, .int b), (3, .int (tg_b true)), (4, .int (nI k))]) [1, 2, 0, 3, 4] S dX3_latest_71 rfl (by decide) rfl ?_
        refine tg_iinc (v := nI (k + 1)) (L' := [(0, .ref (h 0)), (1, .int x), (2, .int b), (3, .int (tg_b true)), (4, .int (nI (k + 1)))]) [1, 2, 3, 4, 0] S 4 dX3_latest_72 rfl (tg_inc _) (by decide) rfl ?_
        refine tg_goto (tgt := 11) S dX3_latest_75 (by decide) ?_
        have e_1 : fb_laS ((fb_forest σ) 0) ((fb_forest σ) 4) ((fb_trR (fb_forest σ) x).2.1) k b = b := (by first | (simp [fb_laS, c_1]; done) | (simp only [fb_laS, if_pos c_1]; done))
        rw [e_1] at hk_k
        exact hk_k
      · skip
        refine tg_aload_n S 0 dX3_latest_39 rfl rfl ?_
        refine tg_get (v := .ref (h 5)) S tw_v3 hK 0 rfl rfl 4 (by decide) (tw_in fl_RX3_23 rfl) dX3_latest_40 rfl ?_
        refine tg_aload_n S 0 dX3_latest_43 rfl rfl ?_
        refine tg_get (v := .ref (h 13)) S tw_v3 hK 0 rfl rfl 12 (by decide) (tw_in fl_RX3_47 rfl) dX3_latest_44 rfl ?_
        refine tg_iload S 4 dX3_latest_47 rfl ?_
        refine tg_iald (v := ((fb_trR (fb_forest σ) x).2.1) k) S hK 13 0 rfl rfl dX3_latest_49 (tg_in (Nat.lt_of_lt_of_le hi_k hc) (by decide)) (congrArg (((fb_trR (fb_forest σ) x).2.1)) (tg_cl (Nat.lt_trans (Nat.lt_of_lt_of_le hi_k hc) (by decide)))) ?_
        refine tg_iald (v := ((fb_forest σ) 4) (((fb_trR (fb_forest σ) x).2.1) k).toNatClampNeg) S hK 5 0 rfl rfl dX3_latest_50 (hw k hi_k) rfl ?_
        refine tg_iload_n S 2 dX3_latest_51 rfl rfl ?_
        refine tg_icmp_le (tgt := 70) S dX3_latest_52 (by decide) (fun c_2 => ?_) (fun c_2 => ?_)
        · skip
          refine tg_iload_n S 2 dX3_latest_70 rfl rfl ?_
          refine tg_istore_n (L' := [(0, .ref (h 0)), (1, .int x), (2, .int b), (3, .int (tg_b true)), (4, .int (nI k))]) [1, 2, 0, 3, 4] S dX3_latest_71 rfl (by decide) rfl ?_
          refine tg_iinc (v := nI (k + 1)) (L' := [(0, .ref (h 0)), (1, .int x), (2, .int b), (3, .int (tg_b true)), (4, .int (nI (k + 1)))]) [1, 2, 3, 4, 0] S 4 dX3_latest_72 rfl (tg_inc _) (by decide) rfl ?_
          refine tg_goto (tgt := 11) S dX3_latest_75 (by decide) ?_
          have e_2 : fb_laS ((fb_forest σ) 0) ((fb_forest σ) 4) ((fb_trR (fb_forest σ) x).2.1) k b = b := (by first | (simp [fb_laS, c_1, c_2]; done) | (simp only [fb_laS, if_neg c_1, if_pos c_2]; done))
          rw [e_2] at hk_k
          exact hk_k
        · skip
          refine tg_aload_n S 0 dX3_latest_55 rfl rfl ?_
          refine tg_get (v := .ref (h 5)) S tw_v3 hK 0 rfl rfl 4 (by decide) (tw_in fl_RX3_23 rfl) dX3_latest_56 rfl ?_
          refine tg_aload_n S 0 dX3_latest_59 rfl rfl ?_
          refine tg_get (v := .ref (h 13)) S tw_v3 hK 0 rfl rfl 12 (by decide) (tw_in fl_RX3_47 rfl) dX3_latest_60 rfl ?_
          refine tg_iload S 4 dX3_latest_63 rfl ?_
          refine tg_iald (v := ((fb_trR (fb_forest σ) x).2.1) k) S hK 13 0 rfl rfl dX3_latest_65 (tg_in (Nat.lt_of_lt_of_le hi_k hc) (by decide)) (congrArg (((fb_trR (fb_forest σ) x).2.1)) (tg_cl (Nat.lt_trans (Nat.lt_of_lt_of_le hi_k hc) (by decide)))) ?_
          refine tg_iald (v := ((fb_forest σ) 4) (((fb_trR (fb_forest σ) x).2.1) k).toNatClampNeg) S hK 5 0 rfl rfl dX3_latest_66 (hw k hi_k) rfl ?_
          refine tg_goto (tgt := 71) S dX3_latest_67 (by decide) ?_
          refine tg_istore_n (L' := [(0, .ref (h 0)), (1, .int x), (2, .int (((fb_forest σ) 4) (((fb_trR (fb_forest σ) x).2.1) k).toNatClampNeg)), (3, .int (tg_b true)), (4, .int (nI k))]) [1, 2, 0, 3, 4] S dX3_latest_71 rfl (by decide) rfl ?_
          refine tg_iinc (v := nI (k + 1)) (L' := [(0, .ref (h 0)), (1, .int x), (2, .int (((fb_forest σ) 4) (((fb_trR (fb_forest σ) x).2.1) k).toNatClampNeg)), (3, .int (tg_b true)), (4, .int (nI (k + 1)))]) [1, 2, 3, 4, 0] S 4 dX3_latest_72 rfl (tg_inc _) (by decide) rfl ?_
          refine tg_goto (tgt := 11) S dX3_latest_75 (by decide) ?_
          have e_3 : fb_laS ((fb_forest σ) 0) ((fb_forest σ) 4) ((fb_trR (fb_forest σ) x).2.1) k b = ((fb_forest σ) 4) (((fb_trR (fb_forest σ) x).2.1) k).toNatClampNeg := (by first | (simp [fb_laS, c_1, c_2]; done) | (simp only [fb_laS, if_neg c_1, if_neg c_2]; done))
          rw [e_3] at hk_k
          exact hk_k
    · skip
      refine tg_iload_n S 3 dX3_latest_11 rfl rfl ?_
      refine tg_ifz (b := true) (tgt := 78) S dX3_latest_12 (by decide) (fun c => absurd c (by decide)) (fun _ => ?_)
      refine tg_iload S 4 dX3_latest_15 rfl ?_
      refine tg_aload_n S 0 dX3_latest_17 rfl rfl ?_
      refine tg_get (v := .int ((fb_trR (fb_forest σ) x).1)) S tw_v3 hK 0 rfl rfl 13 (by decide) (tw_in fl_RX3_79 rfl) dX3_latest_18 rfl ?_
      refine tg_icmp_ge (tgt := 78) S dX3_latest_21 (by decide) (fun _ => ?_) (fun c => absurd (fb_mge hm) c)
      refine tg_iload_n S 2 dX3_latest_78 rfl rfl ?_
      exact tg_iret S hr hlk dX3_latest_79 (by rw [if_pos hb]; first | done | rfl) (by first | (unfold fb_lkS; rw [if_pos hb]; rfl) | (rw [if_pos hb]; rfl))
  · skip
    refine tg_eq (σ2 := fb_lkS σ x) (L2 := [(0, .ref (h 0)), (1, .int x), (2, .int 0), (3, .int (tg_b false)), (4, .int (nI 0))]) (st2 := []) rfl (by first | (simp only [hb]; done) | (simp only [hb]; rfl)) rfl ?_
    refine tg_iload_n S 3 dX3_latest_11 rfl rfl ?_
    refine tg_ifz (b := false) (tgt := 78) S dX3_latest_12 (by decide) (fun _ => ?_) (fun c => absurd c (by decide))
    refine tg_iload_n S 2 dX3_latest_78 rfl rfl ?_
    exact tg_iret S hr hlk dX3_latest_79 (by rw [if_neg (ne_true_of_eq_false hb)]) (by first | rfl | (rw [if_neg (ne_true_of_eq_false hb)]))
set_option maxHeartbeats 1000000 in
set_option maxRecDepth 100000 in
theorem k_X3_read {l : Launch} {D : va_G} {h : Nat → Nat} {cI cZ : ClassId} (hd : tw_dis 15 h) (σ : tg_Mem) (x : Int32) (H : fb_hyp (σ 0) (σ 1) (σ 2) (σ 7) (σ 8) (σ 9)) (HT : fb_lkB σ x = true → fb_tr (fb_forest σ) x = some (fb_trR (fb_forest σ) x)) (HC : fb_lkB σ x = true → (fb_trR (fb_forest σ) x).1 = nI (fb_n σ x) ∧ fb_n σ x ≤ 30 ∧ ∀ k, k < fb_n σ x → vp_in ((fb_trR (fb_forest σ) x).2.1 k) 30) : tg_CT l yX3_read wzX3_read (tg_rm 4) (tw_M h cI cZ) (tw_ty cI cZ) [] (tw_A 15 h) D [.ref (h 0), .int x] σ (some (.int (if fb_lkB σ x = true then (fb_rd σ x).1 else 0))) (if fb_lkB σ x = true then fb_rdT σ x else fb_lkS σ x) := by
  refine tg_met (own := RX3) (cc := cX3_read) (maxL := 5) (ret := (some .int)) (by decide +kernel) rfl rfl (Nat.le_of_ble_eq_true rfl) ?_
  intro p e s m below meth c S hK hN hr hlk
  refine tg_sub (L' := [(0, .ref (h 0)), (1, .int x)]) [0, 1] rfl ?_
  refine tg_iconst (v := 0) S dX3_read_0 (by decide) ?_
  refine tg_istore_n (L' := [(0, .ref (h 0)), (1, .int x), (2, .int 0)]) [1, 2, 0] S dX3_read_1 rfl (by decide) rfl ?_
  refine tg_aload_n S 0 dX3_read_2 rfl rfl ?_
  refine tg_iload_n S 1 dX3_read_3 rfl rfl ?_
  refine tg_callV (nA := 1) (As := [.int x]) (rest := []) (q := (RX3, TX3, 16)) S hK hN (k_X3_looks hd σ x H HT) 0 rfl rfl (tw_gV ml_RX3_109 im_X3_looks se_X3_looks in_RX3 co_X3_looks rfl) rfl (by decide +kernel) ⟨Nat.le_of_ble_eq_true rfl, Nat.le_of_ble_eq_true rfl⟩ rfl rfl (Nat.le_of_ble_eq_true rfl) dX3_read_4 ⟨Nat.le_of_ble_eq_true rfl, Nat.le_of_ble_eq_true rfl⟩ ?_
  refine tg_istore_n (L' := [(0, .ref (h 0)), (1, .int x), (2, .int 0), (3, .int (tg_b (fb_lkB σ x)))]) [1, 2, 3, 0] S dX3_read_7 rfl (by decide) rfl ?_
  refine tg_iconst (v := nI 0) S dX3_read_8 (by decide) ?_
  refine tg_istore (L' := [(0, .ref (h 0)), (1, .int x), (2, .int 0), (3, .int (tg_b (fb_lkB σ x))), (4, .int (nI 0))]) [1, 2, 3, 4, 0] S dX3_read_9 (by decide) rfl ?_
  refine tg_split (b := fb_lkB σ x) (fun hb => ?_) (fun hb => ?_)
  · skip
    obtain ⟨hm, hc, hw⟩ := HC hb
    refine tg_eq (σ2 := tg_upA (tg_upA (tg_upA (tg_upA (fb_forest σ) 12 ((fb_trR (fb_forest σ) x).2.1)) 13 ((fb_trR (fb_forest σ) x).2.2)) 14 (fun _ => (fb_trR (fb_forest σ) x).1)) 15 (fun _ => 0)) (L2 := [(0, .ref (h 0)), (1, .int x), (2, .int 0), (3, .int (tg_b true)), (4, .int (nI 0))]) (st2 := []) (by unfold fb_lkS; rw [if_pos hb]; rfl) (by first | (simp only [hb]; done) | (simp only [hb]; rfl)) rfl ?_
    refine tg_w (σ2 := tg_upA (tg_upA (tg_upA (tg_upA (tg_upA (fb_forest σ) 6 ((fb_forest σ) 6)) 12 ((fb_trR (fb_forest σ) x).2.1)) 13 ((fb_trR (fb_forest σ) x).2.2)) 14 (fun _ => (fb_trR (fb_forest σ) x).1)) 15 (fun _ => 0)) rfl ?_
    refine tg_loop (X := Int32 × tb_A) (fb_rdS ((fb_forest σ) 0) ((fb_trR (fb_forest σ) x).2.1)) (fb_n σ x) (0, (fb_forest σ) 6) (fun b => tg_upA (tg_upA (tg_upA (tg_upA (tg_upA (fb_forest σ) 6 b.2) 12 ((fb_trR (fb_forest σ) x).2.1)) 13 ((fb_trR (fb_forest σ) x).2.2)) 14 (fun _ => (fb_trR (fb_forest σ) x).1)) 15 (fun _ => 0)) (fun k b => [(0, .ref (h 0)), (1, .int x), (2, .int b.1), (3, .int (tg_b true)), (4, .int (nI k))]) ?_ ?_
    · skip
      intro k b hi_k hk_k
      refine tg_iload_n S 3 dX3_read_11 rfl rfl ?_
      refine tg_ifz (b := true) (tgt := 81) S dX3_read_12 (by decide) (fun c => absurd c (by decide)) (fun _ => ?_)
      refine tg_iload S 4 dX3_read_15 rfl ?_
      refine tg_aload_n S 0 dX3_read_17 rfl rfl ?_
      refine tg_get (v := .int ((fb_trR (fb_forest σ) x).1)) S tw_v3 hK 0 rfl rfl 13 (by decide) (tw_in fl_RX3_79 rfl) dX3_read_18 rfl ?_
      refine tg_icmp_ge (tgt := 81) S dX3_read_21 (by decide) (fun c => absurd c (fb_mnge hi_k hc hm)) (fun _ => ?_)
      refine tg_iload_n S 2 dX3_read_24 rfl rfl ?_
      refine tg_aload_n S 0 dX3_read_25 rfl rfl ?_
      refine tg_get (v := .ref (h 1)) S tw_v3 hK 0 rfl rfl 0 (by decide) (tw_in fl_RX3_7 rfl) dX3_read_26 rfl ?_
      refine tg_aload_n S 0 dX3_read_29 rfl rfl ?_
      refine tg_get (v := .ref (h 13)) S tw_v3 hK 0 rfl rfl 12 (by decide) (tw_in fl_RX3_47 rfl) dX3_read_30 rfl ?_
      refine tg_iload S 4 dX3_read_33 rfl ?_
      refine tg_iald (v := ((fb_trR (fb_forest σ) x).2.1) k) S hK 13 0 rfl rfl dX3_read_35 (tg_in (Nat.lt_of_lt_of_le hi_k hc) (by decide)) (congrArg (((fb_trR (fb_forest σ) x).2.1)) (tg_cl (Nat.lt_trans (Nat.lt_of_lt_of_le hi_k hc) (by decide)))) ?_
      refine tg_zald (v := ((fb_forest σ) 0) (((fb_trR (fb_forest σ) x).2.1) k).toNatClampNeg) S hK 1 1 rfl rfl dX3_read_36 (hw k hi_k) rfl ?_
      refine tg_if_eq (tgt := 59) S dX3_read_37 (by decide) (fun c_1 => ?_) (fun c_1 => ?_)
      · skip
        refine tg_iconst (v := 0) S dX3_read_59 (by decide) ?_
        refine tg_iadd S dX3_read_60 ?_
        refine tg_istore_n (L' := [(0, .ref (h 0)), (1, .int x), (2, .int (b.1 + 0)), (3, .int (tg_b true)), (4, .int (nI k))]) [1, 2, 0, 3, 4] S dX3_read_61 rfl (by decide) rfl ?_
        refine tg_aload_n S 0 dX3_read_62 rfl rfl ?_
        refine tg_get (v := .ref (h 7)) S tw_v3 hK 0 rfl rfl 6 (by decide) (tw_in fl_RX3_29 rfl) dX3_read_63 rfl ?_
        refine tg_aload_n S 0 dX3_read_66 rfl rfl ?_
        refine tg_get (v := .ref (h 13)) S tw_v3 hK 0 rfl rfl 12 (by decide) (tw_in fl_RX3_47 rfl) dX3_read_67 rfl ?_
        refine tg_iload S 4 dX3_read_70 rfl ?_
        refine tg_iald (v := ((fb_trR (fb_forest σ) x).2.1) k) S hK 13 0 rfl rfl dX3_read_72 (tg_in (Nat.lt_of_lt_of_le hi_k hc) (by decide)) (congrArg (((fb_trR (fb_forest σ) x).2.1)) (tg_cl (Nat.lt_trans (Nat.lt_of_lt_of_le hi_k hc) (by decide)))) ?_
        refine tg_iconst (v := 0) S dX3_read_73 (by decide) ?_
        refine tg_zast (b := false) (σ2 := tg_upA (tg_upA (tg_upA (tg_upA (tg_upA (fb_forest σ) 6 (upd b.2 (((fb_trR (fb_forest σ) x).2.1) k).toNatClampNeg 0)) 12 ((fb_trR (fb_forest σ) x).2.1)) 13 ((fb_trR (fb_forest σ) x).2.2)) 14 (fun _ => (fb_trR (fb_forest σ) x).1)) 15 (fun _ => 0)) S hK (tw_MD hd) 7 1 rfl rfl dX3_read_74 (hw k hi_k) ((tw_Ms6 (upd b.2 (((fb_trR (fb_forest σ) x).2.1) k).toNatClampNeg 0)).trans rfl) ?_
        refine tg_iinc (v := nI (k + 1)) (L' := [(0, .ref (h 0)), (1, .int x), (2, .int (b.1 + 0)), (3, .int (tg_b true)), (4, .int (nI (k + 1)))]) [1, 2, 3, 4, 0] S 4 dX3_read_75 rfl (tg_inc _) (by decide) rfl ?_
        refine tg_goto (tgt := 11) S dX3_read_78 (by decide) ?_
        have e_1 : fb_rdS ((fb_forest σ) 0) ((fb_trR (fb_forest σ) x).2.1) k b = (b.1 + 0, upd b.2 (((fb_trR (fb_forest σ) x).2.1) k).toNatClampNeg 0) := (by first | (simp [fb_rdS, c_1]; done) | (simp only [fb_rdS, if_pos c_1]; done))
        rw [e_1] at hk_k
        exact hk_k
      · skip
        refine tg_aload_n S 0 dX3_read_40 rfl rfl ?_
        refine tg_get (v := .ref (h 7)) S tw_v3 hK 0 rfl rfl 6 (by decide) (tw_in fl_RX3_29 rfl) dX3_read_41 rfl ?_
        refine tg_aload_n S 0 dX3_read_44 rfl rfl ?_
        refine tg_get (v := .ref (h 13)) S tw_v3 hK 0 rfl rfl 12 (by decide) (tw_in fl_RX3_47 rfl) dX3_read_45 rfl ?_
        refine tg_iload S 4 dX3_read_48 rfl ?_
        refine tg_iald (v := ((fb_trR (fb_forest σ) x).2.1) k) S hK 13 0 rfl rfl dX3_read_50 (tg_in (Nat.lt_of_lt_of_le hi_k hc) (by decide)) (congrArg (((fb_trR (fb_forest σ) x).2.1)) (tg_cl (Nat.lt_trans (Nat.lt_of_lt_of_le hi_k hc) (by decide)))) ?_
        refine tg_zald (v := b.2 (((fb_trR (fb_forest σ) x).2.1) k).toNatClampNeg) S hK 7 1 rfl rfl dX3_read_51 (hw k hi_k) rfl ?_
        refine tg_if_eq (tgt := 59) S dX3_read_52 (by decide) (fun c_2 => ?_) (fun c_2 => ?_)
        · skip
          refine tg_iconst (v := 0) S dX3_read_59 (by decide) ?_
          refine tg_iadd S dX3_read_60 ?_
          refine tg_istore_n (L' := [(0, .ref (h 0)), (1, .int x), (2, .int (b.1 + 0)), (3, .int (tg_b true)), (4, .int (nI k))]) [1, 2, 0, 3, 4] S dX3_read_61 rfl (by decide) rfl ?_
          refine tg_aload_n S 0 dX3_read_62 rfl rfl ?_
          refine tg_get (v := .ref (h 7)) S tw_v3 hK 0 rfl rfl 6 (by decide) (tw_in fl_RX3_29 rfl) dX3_read_63 rfl ?_
          refine tg_aload_n S 0 dX3_read_66 rfl rfl ?_
          refine tg_get (v := .ref (h 13)) S tw_v3 hK 0 rfl rfl 12 (by decide) (tw_in fl_RX3_47 rfl) dX3_read_67 rfl ?_
          refine tg_iload S 4 dX3_read_70 rfl ?_
          refine tg_iald (v := ((fb_trR (fb_forest σ) x).2.1) k) S hK 13 0 rfl rfl dX3_read_72 (tg_in (Nat.lt_of_lt_of_le hi_k hc) (by decide)) (congrArg (((fb_trR (fb_forest σ) x).2.1)) (tg_cl (Nat.lt_trans (Nat.lt_of_lt_of_le hi_k hc) (by decide)))) ?_
          refine tg_iconst (v := 0) S dX3_read_73 (by decide) ?_
          refine tg_zast (b := false) (σ2 := tg_upA (tg_upA (tg_upA (tg_upA (tg_upA (fb_forest σ) 6 (upd b.2 (((fb_trR (fb_forest σ) x).2.1) k).toNatClampNeg 0)) 12 ((fb_trR (fb_forest σ) x).2.1)) 13 ((fb_trR (fb_forest σ) x).2.2)) 14 (fun _ => (fb_trR (fb_forest σ) x).1)) 15 (fun _ => 0)) S hK (tw_MD hd) 7 1 rfl rfl dX3_read_74 (hw k hi_k) ((tw_Ms6 (upd b.2 (((fb_trR (fb_forest σ) x).2.1) k).toNatClampNeg 0)).trans rfl) ?_
          refine tg_iinc (v := nI (k + 1)) (L' := [(0, .ref (h 0)), (1, .int x), (2, .int (b.1 + 0)), (3, .int (tg_b true)), (4, .int (nI (k + 1)))]) [1, 2, 3, 4, 0] S 4 dX3_read_75 rfl (tg_inc _) (by decide) rfl ?_
          refine tg_goto (tgt := 11) S dX3_read_78 (by decide) ?_
          have e_2 : fb_rdS ((fb_forest σ) 0) ((fb_trR (fb_forest σ) x).2.1) k b = (b.1 + 0, upd b.2 (((fb_trR (fb_forest σ) x).2.1) k).toNatClampNeg 0) := (by first | (simp [fb_rdS, c_1, c_2]; done) | (simp only [fb_rdS, if_neg c_1, if_pos c_2]; done))
          rw [e_2] at hk_k
          exact hk_k
        · skip
          refine tg_iconst (v := 1) S dX3_read_55 (by decide) ?_
          refine tg_goto (tgt := 60) S dX3_read_56 (by decide) ?_
          refine tg_iadd S dX3_read_60 ?_
          refine tg_istore_n (L' := [(0, .ref (h 0)), (1, .int x), (2, .int (b.1 + 1)), (3, .int (tg_b true)), (4, .int (nI k))]) [1, 2, 0, 3, 4] S dX3_read_61 rfl (by decide) rfl ?_
          refine tg_aload_n S 0 dX3_read_62 rfl rfl ?_
          refine tg_get (v := .ref (h 7)) S tw_v3 hK 0 rfl rfl 6 (by decide) (tw_in fl_RX3_29 rfl) dX3_read_63 rfl ?_
          refine tg_aload_n S 0 dX3_read_66 rfl rfl ?_
          refine tg_get (v := .ref (h 13)) S tw_v3 hK 0 rfl rfl 12 (by decide) (tw_in fl_RX3_47 rfl) dX3_read_67 rfl ?_
          refine tg_iload S 4 dX3_read_70 rfl ?_
          refine tg_iald (v := ((fb_trR (fb_forest σ) x).2.1) k) S hK 13 0 rfl rfl dX3_read_72 (tg_in (Nat.lt_of_lt_of_le hi_k hc) (by decide)) (congrArg (((fb_trR (fb_forest σ) x).2.1)) (tg_cl (Nat.lt_trans (Nat.lt_of_lt_of_le hi_k hc) (by decide)))) ?_
          refine tg_iconst (v := 0) S dX3_read_73 (by decide) ?_
          refine tg_zast (b := false) (σ2 := tg_upA (tg_upA (tg_upA (tg_upA (tg_upA (fb_forest σ) 6 (upd b.2 (((fb_trR (fb_forest σ) x).2.1) k).toNatClampNeg 0)) 12 ((fb_trR (fb_forest σ) x).2.1)) 13 ((fb_trR (fb_forest σ) x).2.2)) 14 (fun _ => (fb_trR (fb_forest σ) x).1)) 15 (fun _ => 0)) S hK (tw_MD hd) 7 1 rfl rfl dX3_read_74 (hw k hi_k) ((tw_Ms6 (upd b.2 (((fb_trR (fb_forest σ) x).2.1) k).toNatClampNeg 0)).trans rfl) ?_
          refine tg_iinc (v := nI (k + 1)) (L' := [(0, .ref (h 0)), (1, .int x), (2, .int (b.1 + 1)), (3, .int (tg_b true)), (4, .int (nI (k + 1)))]) [1, 2, 3, 4, 0] S 4 dX3_read_75 rfl (tg_inc _) (by decide) rfl ?_
          refine tg_goto (tgt := 11) S dX3_read_78 (by decide) ?_
          have e_3 : fb_rdS ((fb_forest σ) 0) ((fb_trR (fb_forest σ) x).2.1) k b = (b.1 + 1, upd b.2 (((fb_trR (fb_forest σ) x).2.1) k).toNatClampNeg 0) := (by first | (simp [fb_rdS, c_1, c_2]; done) | (simp only [fb_rdS, if_neg c_1, if_neg c_2]; done))
          rw [e_3] at hk_k
          exact hk_k
    · skip
      refine tg_iload_n S 3 dX3_read_11 rfl rfl ?_
      refine tg_ifz (b := true) (tgt := 81) S dX3_read_12 (by decide) (fun c => absurd c (by decide)) (fun _ => ?_)
      refine tg_iload S 4 dX3_read_15 rfl ?_
      refine tg_aload_n S 0 dX3_read_17 rfl rfl ?_
      refine tg_get (v := .int ((fb_trR (fb_forest σ) x).1)) S tw_v3 hK 0 rfl rfl 13 (by decide) (tw_in fl_RX3_79 rfl) dX3_read_18 rfl ?_
      refine tg_icmp_ge (tgt := 81) S dX3_read_21 (by decide) (fun _ => ?_) (fun c => absurd (fb_mge hm) c)
      refine tg_iload_n S 2 dX3_read_81 rfl rfl ?_
      exact tg_iret S hr hlk dX3_read_82 (by rw [if_pos hb]; first | done | rfl) (by first | (unfold fb_lkS; rw [if_pos hb]; rfl) | (rw [if_pos hb]; rfl))
  · skip
    refine tg_eq (σ2 := fb_lkS σ x) (L2 := [(0, .ref (h 0)), (1, .int x), (2, .int 0), (3, .int (tg_b false)), (4, .int (nI 0))]) (st2 := []) rfl (by first | (simp only [hb]; done) | (simp only [hb]; rfl)) rfl ?_
    refine tg_iload_n S 3 dX3_read_11 rfl rfl ?_
    refine tg_ifz (b := false) (tgt := 81) S dX3_read_12 (by decide) (fun _ => ?_) (fun c => absurd c (by decide))
    refine tg_iload_n S 2 dX3_read_81 rfl rfl ?_
    exact tg_iret S hr hlk dX3_read_82 (by rw [if_neg (ne_true_of_eq_false hb)]) (by first | rfl | (rw [if_neg (ne_true_of_eq_false hb)]))
set_option maxHeartbeats 1000000 in
set_option maxRecDepth 100000 in
theorem k_X3_depth {l : Launch} {D : va_G} {h : Nat → Nat} {cI cZ : ClassId} (hd : tw_dis 15 h) (σ : tg_Mem) (x : Int32) (H : fb_hyp (σ 0) (σ 1) (σ 2) (σ 7) (σ 8) (σ 9)) (HT : fb_lkB σ x = true → fb_tr (fb_forest σ) x = some (fb_trR (fb_forest σ) x)) (HD : fb_dpF (fb_lkS σ x 10) 31 (if fb_lkB σ x = true then fb_lkS σ x 10 x.toNatClampNeg else -1, 0) = some (fb_dp σ x)) : tg_CT l yX3_depth wzX3_depth (tg_rm 4) (tw_M h cI cZ) (tw_ty cI cZ) [] (tw_A 15 h) D [.ref (h 0), .int x] σ (some (.int (fb_dp σ x))) (fb_lkS σ x) := by
  refine tg_met (own := RX3) (cc := cX3_depth) (maxL := 5) (ret := (some .int)) (by decide +kernel) rfl rfl (Nat.le_of_ble_eq_true rfl) ?_
  intro p e s m below meth c S hK hN hr hlk
  refine tg_sub (L' := [(0, .ref (h 0)), (1, .int x)]) [0, 1] rfl ?_
  refine tg_iconst (v := 0) S dX3_depth_0 (by decide) ?_
  refine tg_istore_n (L' := [(0, .ref (h 0)), (1, .int x), (2, .int 0)]) [1, 2, 0] S dX3_depth_1 rfl (by decide) rfl ?_
  refine tg_aload_n S 0 dX3_depth_2 rfl rfl ?_
  refine tg_iload_n S 1 dX3_depth_3 rfl rfl ?_
  refine tg_callV (nA := 1) (As := [.int x]) (rest := []) (q := (RX3, TX3, 16)) S hK hN (k_X3_looks hd σ x H HT) 0 rfl rfl (tw_gV ml_RX3_109 im_X3_looks se_X3_looks in_RX3 co_X3_looks rfl) rfl (by decide +kernel) ⟨Nat.le_of_ble_eq_true rfl, Nat.le_of_ble_eq_true rfl⟩ rfl rfl (Nat.le_of_ble_eq_true rfl) dX3_depth_4 ⟨Nat.le_of_ble_eq_true rfl, Nat.le_of_ble_eq_true rfl⟩ ?_
  refine tg_istore_n (L' := [(0, .ref (h 0)), (1, .int x), (2, .int 0), (3, .int (tg_b (fb_lkB σ x)))]) [1, 2, 3, 0] S dX3_depth_7 rfl (by decide) rfl ?_
  refine tg_iload_n S 3 dX3_depth_8 rfl rfl ?_
  refine tg_ifz (tgt := 21) S dX3_depth_9 (by decide) (fun c_1 => ?_) (fun c_1 => ?_)
  · skip
    refine tg_eq (σ2 := fb_lkS σ x) (L2 := [(0, .ref (h 0)), (1, .int x), (2, .int 0), (3, .int (tg_b false))]) (st2 := []) rfl (by first | (simp only [c_1]; done) | (simp only [c_1]; rfl)) rfl ?_
    refine tg_iconst (v := -1) S dX3_depth_21 (by decide) ?_
    refine tg_istore (L' := [(0, .ref (h 0)), (1, .int x), (2, .int 0), (3, .int (tg_b false)), (4, .int (-1))]) [1, 2, 3, 4, 0] S dX3_depth_22 (by decide) rfl ?_
    refine tg_while (v := fb_dp σ x) (X := Int32 × Int32) (fb_dpF ((fb_lkS σ x) 10)) 31 (-1, 0) (fun q => fb_lkS σ x) (fun q => [(0, .ref (h 0)), (1, .int x), (2, .int q.2), (3, .int (tg_b false)), (4, .int q.1)]) (fun _ => rfl) (by have h9 := HD; simp only [if_neg (ne_true_of_eq_false c_1)] at h9; exact h9) ?_
    intro n1 q hF_q hk_q
    refine tg_iload S 4 dX3_depth_24 rfl ?_
    refine tg_iconst (v := -1) S dX3_depth_26 (by decide) ?_
    refine tg_icmp_eq (tgt := 45) S dX3_depth_27 (by decide) (fun c_2 => ?_) (fun c_2 => ?_)
    · skip
      refine tg_iload_n S 2 dX3_depth_45 rfl rfl ?_
      exact tg_iret S hr hlk dX3_depth_46 (by have h9 := hF_q; simp only [fb_dpF, if_neg (ne_true_of_eq_false c_1), if_pos c_2, Option.some.injEq] at h9; first | exact h9 | (rw [← h9]; done) | (rw [← h9]; simp [c_2]; done)) rfl
    · skip
      refine tg_iinc (v := q.2 + 1) (L' := [(0, .ref (h 0)), (1, .int x), (2, .int (q.2 + 1)), (3, .int (tg_b false)), (4, .int q.1)]) [1, 2, 0, 3, 4] S 2 dX3_depth_30 rfl rfl (by decide) rfl ?_
      refine tg_aload_n S 0 dX3_depth_33 rfl rfl ?_
      refine tg_get (v := .ref (h 11)) S tw_v3 hK 0 rfl rfl 10 (by decide) (tw_in fl_RX3_41 rfl) dX3_depth_34 rfl ?_
      refine tg_iload S 4 dX3_depth_37 rfl ?_
      have v_1 : fa_id q.1 = true := by
        cases hh : fa_id q.1 with
        | true => rfl
        | false => simp [fb_dpF, c_1, c_2, hh] at hF_q
      refine tg_iald (v := ((fb_lkS σ x) 10) q.1.toNatClampNeg) S hK 11 0 rfl rfl dX3_depth_39 (fa_id_in v_1) rfl ?_
      refine tg_istore (L' := [(0, .ref (h 0)), (1, .int x), (2, .int (q.2 + 1)), (3, .int (tg_b false)), (4, .int (((fb_lkS σ x) 10) q.1.toNatClampNeg))]) [1, 2, 3, 4, 0] S dX3_depth_40 (by decide) rfl ?_
      refine tg_goto (tgt := 24) S dX3_depth_42 (by decide) ?_
      exact hk_q (((fb_lkS σ x) 10) q.1.toNatClampNeg, q.2 + 1) (by have h9 := hF_q; simp only [fb_dpF, if_neg (ne_true_of_eq_false c_1), if_neg c_2, if_pos v_1] at h9; exact h9)
  · skip
    refine tg_eq (σ2 := fb_lkS σ x) (L2 := [(0, .ref (h 0)), (1, .int x), (2, .int 0), (3, .int (tg_b true))]) (st2 := []) rfl (by first | (simp only [c_1]; done) | (simp only [c_1]; rfl)) rfl ?_
    refine tg_aload_n S 0 dX3_depth_12 rfl rfl ?_
    refine tg_get (v := .ref (h 11)) S tw_v3 hK 0 rfl rfl 10 (by decide) (tw_in fl_RX3_41 rfl) dX3_depth_13 rfl ?_
    refine tg_iload_n S 1 dX3_depth_16 rfl rfl ?_
    refine tg_iald (v := ((fb_lkS σ x) 10) x.toNatClampNeg) S hK 11 0 rfl rfl dX3_depth_17 (fb_lkB_in c_1) rfl ?_
    refine tg_goto (tgt := 22) S dX3_depth_18 (by decide) ?_
    refine tg_istore (L' := [(0, .ref (h 0)), (1, .int x), (2, .int 0), (3, .int (tg_b true)), (4, .int (((fb_lkS σ x) 10) x.toNatClampNeg))]) [1, 2, 3, 4, 0] S dX3_depth_22 (by decide) rfl ?_
    refine tg_while (v := fb_dp σ x) (X := Int32 × Int32) (fb_dpF ((fb_lkS σ x) 10)) 31 (((fb_lkS σ x) 10) x.toNatClampNeg, 0) (fun q => fb_lkS σ x) (fun q => [(0, .ref (h 0)), (1, .int x), (2, .int q.2), (3, .int (tg_b true)), (4, .int q.1)]) (fun _ => rfl) (by have h9 := HD; simp only [if_pos c_1] at h9; exact h9) ?_
    intro n1 q hF_q hk_q
    refine tg_iload S 4 dX3_depth_24 rfl ?_
    refine tg_iconst (v := -1) S dX3_depth_26 (by decide) ?_
    refine tg_icmp_eq (tgt := 45) S dX3_depth_27 (by decide) (fun c_3 => ?_) (fun c_3 => ?_)
    · skip
      refine tg_iload_n S 2 dX3_depth_45 rfl rfl ?_
      exact tg_iret S hr hlk dX3_depth_46 (by have h9 := hF_q; simp only [fb_dpF, if_pos c_1, if_pos c_3, Option.some.injEq] at h9; first | exact h9 | (rw [← h9]; done) | (rw [← h9]; simp [c_3]; done)) rfl
    · skip
      refine tg_iinc (v := q.2 + 1) (L' := [(0, .ref (h 0)), (1, .int x), (2, .int (q.2 + 1)), (3, .int (tg_b true)), (4, .int q.1)]) [1, 2, 0, 3, 4] S 2 dX3_depth_30 rfl rfl (by decide) rfl ?_
      refine tg_aload_n S 0 dX3_depth_33 rfl rfl ?_
      refine tg_get (v := .ref (h 11)) S tw_v3 hK 0 rfl rfl 10 (by decide) (tw_in fl_RX3_41 rfl) dX3_depth_34 rfl ?_
      refine tg_iload S 4 dX3_depth_37 rfl ?_
      have v_3 : fa_id q.1 = true := by
        cases hh : fa_id q.1 with
        | true => rfl
        | false => simp [fb_dpF, c_1, c_3, hh] at hF_q
      refine tg_iald (v := ((fb_lkS σ x) 10) q.1.toNatClampNeg) S hK 11 0 rfl rfl dX3_depth_39 (fa_id_in v_3) rfl ?_
      refine tg_istore (L' := [(0, .ref (h 0)), (1, .int x), (2, .int (q.2 + 1)), (3, .int (tg_b true)), (4, .int (((fb_lkS σ x) 10) q.1.toNatClampNeg))]) [1, 2, 3, 4, 0] S dX3_depth_40 (by decide) rfl ?_
      refine tg_goto (tgt := 24) S dX3_depth_42 (by decide) ?_
      exact hk_q (((fb_lkS σ x) 10) q.1.toNatClampNeg, q.2 + 1) (by have h9 := hF_q; simp only [fb_dpF, if_pos c_1, if_neg c_3, if_pos v_3] at h9; exact h9)
set_option maxHeartbeats 1000000 in
set_option maxRecDepth 100000 in
theorem k_X3_inTree {l : Launch} {D : va_G} {h : Nat → Nat} {cI cZ : ClassId} (hd : tw_dis 15 h) (σ : tg_Mem) (x : Int32) (y : Int32) (H : fb_hyp (σ 0) (σ 1) (σ 2) (σ 7) (σ 8) (σ 9)) (HT : fb_lkB σ x = true → fb_tr (fb_forest σ) x = some (fb_trR (fb_forest σ) x)) (HC : fb_lkB σ x = true → (fb_trR (fb_forest σ) x).1 = nI (fb_n σ x) ∧ fb_n σ x ≤ 30 ∧ ∀ k, k < fb_n σ x → vp_in ((fb_trR (fb_forest σ) x).2.1 k) 30) : tg_CT l yX3_inTree wzX3_inTree (tg_rm 4) (tw_M h cI cZ) (tw_ty cI cZ) [] (tw_A 15 h) D [.ref (h 0), .int x, .int y] σ (some (.int (if fb_lkB σ x = true then (if fb_in y 0 ((fb_trR (fb_forest σ) x).1 - 1) = true then ((fb_trR (fb_forest σ) x).2.1) y.toNatClampNeg else 0) else 0))) (if fb_lkB σ x = true then fb_itT σ x y else fb_lkS σ x) := by
  refine tg_met (own := RX3) (cc := cX3_inTree) (maxL := 3) (ret := (some .int)) (by decide +kernel) rfl rfl (Nat.le_of_ble_eq_true rfl) ?_
  intro p e s m below meth c S hK hN hr hlk
  refine tg_sub (L' := [(0, .ref (h 0)), (1, .int x), (2, .int y)]) [0, 1, 2] rfl ?_
  refine tg_aload_n S 0 dX3_inTree_0 rfl rfl ?_
  refine tg_iload_n S 1 dX3_inTree_1 rfl rfl ?_
  refine tg_callV (nA := 1) (As := [.int x]) (rest := []) (q := (RX3, TX3, 16)) S hK hN (k_X3_looks hd σ x H HT) 0 rfl rfl (tw_gV ml_RX3_109 im_X3_looks se_X3_looks in_RX3 co_X3_looks rfl) rfl (by decide +kernel) ⟨Nat.le_of_ble_eq_true rfl, Nat.le_of_ble_eq_true rfl⟩ rfl rfl (Nat.le_of_ble_eq_true rfl) dX3_inTree_2 ⟨Nat.le_of_ble_eq_true rfl, Nat.le_of_ble_eq_true rfl⟩ ?_
  refine tg_ifnz (tgt := 10) S dX3_inTree_5 (by decide) (fun c_1 => ?_) (fun c_1 => ?_)
  · skip
    obtain ⟨hm, hc, hw⟩ := HC c_1
    refine tg_eq (σ2 := tg_upA (tg_upA (tg_upA (tg_upA (fb_forest σ) 12 ((fb_trR (fb_forest σ) x).2.1)) 13 ((fb_trR (fb_forest σ) x).2.2)) 14 (fun _ => (fb_trR (fb_forest σ) x).1)) 15 (fun _ => 0)) (L2 := [(0, .ref (h 0)), (1, .int x), (2, .int y)]) (st2 := []) (by unfold fb_lkS; rw [if_pos c_1]; rfl) rfl rfl ?_
    refine tg_aload_n S 0 dX3_inTree_10 rfl rfl ?_
    refine tg_iconst (v := 1) S dX3_inTree_11 (by decide) ?_
    refine tg_iload_n S 2 dX3_inTree_12 rfl rfl ?_
    refine tg_iconst (v := 0) S dX3_inTree_13 (by decide) ?_
    refine tg_aload_n S 0 dX3_inTree_14 rfl rfl ?_
    refine tg_get (v := .int ((fb_trR (fb_forest σ) x).1)) S tw_v3 hK 0 rfl rfl 13 (by decide) (tw_in fl_RX3_79 rfl) dX3_inTree_15 rfl ?_
    refine tg_iconst (v := 1) S dX3_inTree_18 (by decide) ?_
    refine tg_isub S dX3_inTree_19 ?_
    refine tg_callS (nA := 3) (As := [.int y, .int 0, .int (((fb_trR (fb_forest σ) x).1) - 1)]) (rest := [.int 1, .ref (h 0)]) S hK hN (k_X3_in hd (tg_upA (tg_upA (tg_upA (tg_upA (fb_forest σ) 12 ((fb_trR (fb_forest σ) x).2.1)) 13 ((fb_trR (fb_forest σ) x).2.2)) 14 (fun _ => (fb_trR (fb_forest σ) x).1)) 15 (fun _ => 0)) y 0 (((fb_trR (fb_forest σ) x).1) - 1)) (tw_gS ml_RX3_57 st_X3_in in_RX3 co_X3_in rfl) rfl (by decide +kernel) ⟨Nat.le_of_ble_eq_true rfl, Nat.le_of_ble_eq_true rfl⟩ rfl rfl (Nat.le_of_ble_eq_true rfl) dX3_inTree_20 ⟨Nat.le_of_ble_eq_true rfl, Nat.le_of_ble_eq_true rfl⟩ ?_
    refine tg_w (σ2 := tg_upA (tg_upA (tg_upA (tg_upA (fb_forest σ) 12 ((fb_trR (fb_forest σ) x).2.1)) 13 ((fb_trR (fb_forest σ) x).2.2)) 14 (fun _ => (fb_trR (fb_forest σ) x).1)) 15 (fun _ => 0)) rfl ?_
    refine tg_eq (σ2 := tg_upA (tg_upA (tg_upA (tg_upA (fb_forest σ) 12 ((fb_trR (fb_forest σ) x).2.1)) 13 ((fb_trR (fb_forest σ) x).2.2)) 14 (fun _ => (fb_trR (fb_forest σ) x).1)) 15 (fun _ => 0)) (L2 := [(0, .ref (h 0)), (1, .int x), (2, .int y)]) (st2 := [.int (tg_b (fb_in y 0 (((fb_trR (fb_forest σ) x).1) - 1))), .int 1, .ref (h 0)]) rfl rfl rfl ?_
    refine tg_callV (nA := 2) (As := [.int (tg_b true), .int (tg_b (fb_in y 0 (((fb_trR (fb_forest σ) x).1) - 1)))]) (rest := []) (q := (RX3, TX3, 16)) S hK hN (k_X3_asked_ hd (tg_upA (tg_upA (tg_upA (tg_upA (fb_forest σ) 12 ((fb_trR (fb_forest σ) x).2.1)) 13 ((fb_trR (fb_forest σ) x).2.2)) 14 (fun _ => (fb_trR (fb_forest σ) x).1)) 15 (fun _ => 0)) true (fb_in y 0 (((fb_trR (fb_forest σ) x).1) - 1))) 0 rfl rfl (tw_gV ml_RX3_95 im_X3_asked_ se_X3_asked_ in_RX3 co_X3_asked_ rfl) rfl (by decide +kernel) ⟨Nat.le_of_ble_eq_true rfl, Nat.le_of_ble_eq_true rfl⟩ rfl rfl (Nat.le_of_ble_eq_true rfl) dX3_inTree_23 ⟨Nat.le_of_ble_eq_true rfl, Nat.le_of_ble_eq_true rfl⟩ ?_
    refine tg_w (σ2 := tg_upA (tg_upA (tg_upA (tg_upA (fb_forest σ) 12 ((fb_trR (fb_forest σ) x).2.1)) 13 ((fb_trR (fb_forest σ) x).2.2)) 14 (fun _ => (fb_trR (fb_forest σ) x).1)) 15 (fun _ => fb_thr2 true (fb_in y 0 (((fb_trR (fb_forest σ) x).1) - 1)))) rfl ?_
    refine tg_eq (σ2 := tg_upA (tg_upA (tg_upA (tg_upA (fb_forest σ) 12 ((fb_trR (fb_forest σ) x).2.1)) 13 ((fb_trR (fb_forest σ) x).2.2)) 14 (fun _ => (fb_trR (fb_forest σ) x).1)) 15 (fun _ => fb_thr2 true (fb_in y 0 (((fb_trR (fb_forest σ) x).1) - 1)))) (L2 := [(0, .ref (h 0)), (1, .int x), (2, .int y)]) (st2 := [.int (tg_b (fb_in y 0 (((fb_trR (fb_forest σ) x).1) - 1)))]) rfl rfl rfl ?_
    refine tg_ifz (tgt := 38) S dX3_inTree_26 (by decide) (fun c_2 => ?_) (fun c_2 => ?_)
    · skip
      refine tg_iconst (v := 0) S dX3_inTree_38 (by decide) ?_
      exact tg_iret S hr hlk dX3_inTree_39 (by simp [fb_itT, c_1, c_2]) (by simp [fb_itT, c_1, c_2])
    · skip
      refine tg_aload_n S 0 dX3_inTree_29 rfl rfl ?_
      refine tg_get (v := .ref (h 13)) S tw_v3 hK 0 rfl rfl 12 (by decide) (tw_in fl_RX3_47 rfl) dX3_inTree_30 rfl ?_
      refine tg_iload_n S 2 dX3_inTree_33 rfl rfl ?_
      refine tg_iald (v := ((fb_trR (fb_forest σ) x).2.1) y.toNatClampNeg) S hK 13 0 rfl rfl dX3_inTree_34 (fb_inm30 c_2 hm hc) rfl ?_
      refine tg_goto (tgt := 39) S dX3_inTree_35 (by decide) ?_
      exact tg_iret S hr hlk dX3_inTree_39 (by simp [fb_itT, c_1, c_2]) (by simp [fb_itT, c_1, c_2])
  · skip
    refine tg_iconst (v := 0) S dX3_inTree_8 (by decide) ?_
    exact tg_iret S hr hlk dX3_inTree_9 (by simp [fb_itT, c_1]) (by simp [fb_itT, c_1])
set_option maxHeartbeats 1000000 in
set_option maxRecDepth 100000 in
theorem k_X3_earliest {l : Launch} {D : va_G} {h : Nat → Nat} {cI cZ : ClassId} (hd : tw_dis 15 h) (σ : tg_Mem) (x : Int32) (HL : fb_lst (σ 10) (σ 4) (σ 12) (σ 13) x) : tg_CT l yX3_earliest wzX3_earliest (tg_rm 2) (tw_M h cI cZ) (tw_ty cI cZ) [] (tw_A 15 h) D [.ref (h 0), .int x] σ (some (.int (fb_erC (σ 0) (σ 4) (fb_trC (σ 10) (σ 4) (σ 12) (σ 13) x)))) (tg_upA (tg_upA (tg_upA σ 12 (fb_trC (σ 10) (σ 4) (σ 12) (σ 13) x).2.1) 13 (fb_trC (σ 10) (σ 4) (σ 12) (σ 13) x).2.2) 14 (fun _ => (fb_trC (σ 10) (σ 4) (σ 12) (σ 13) x).1)) := by
  refine tg_met (own := RX3) (cc := cX3_earliest) (maxL := 4) (ret := (some .int)) (by decide +kernel) rfl rfl (Nat.le_of_ble_eq_true rfl) ?_
  intro p e s m below meth c S hK hN hr hlk
  obtain ⟨HT, hm, hc, hw⟩ := id HL
  refine tg_sub (L' := [(0, .ref (h 0)), (1, .int x)]) [0, 1] rfl ?_
  refine tg_aload_n S 0 dX3_earliest_0 rfl rfl ?_
  refine tg_iload_n S 1 dX3_earliest_1 rfl rfl ?_
  refine tg_callV (nA := 1) (As := [.int x]) (rest := []) (q := (RX3, TX3, 16)) S hK hN (k_X3_trees hd σ x (fb_trC (σ 10) (σ 4) (σ 12) (σ 13) x) HT) 0 rfl rfl (tw_gV ml_RX3_105 im_X3_trees se_X3_trees in_RX3 co_X3_trees rfl) rfl (by decide +kernel) ⟨Nat.le_of_ble_eq_true rfl, Nat.le_of_ble_eq_true rfl⟩ rfl rfl (Nat.le_of_ble_eq_true rfl) dX3_earliest_2 ⟨Nat.le_of_ble_eq_true rfl, Nat.le_of_ble_eq_true rfl⟩ ?_
  refine tg_w (σ2 := tg_upA (tg_upA (tg_upA σ 12 ((fb_trC (σ 10) (σ 4) (σ 12) (σ 13) x).2.1)) 13 ((fb_trC (σ 10) (σ 4) (σ 12) (σ 13) x).2.2)) 14 (fun _ => (fb_trC (σ 10) (σ 4) (σ 12) (σ 13) x).1)) rfl ?_
  refine tg_sipush (v := 1000) S dX3_earliest_5 (by decide) ?_
  refine tg_istore_n (L' := [(0, .ref (h 0)), (1, .int x), (2, .int 1000)]) [1, 2, 0] S dX3_earliest_8 rfl (by decide) rfl ?_
  refine tg_iconst (v := nI 0) S dX3_earliest_9 (by decide) ?_
  refine tg_istore_n (L' := [(0, .ref (h 0)), (1, .int x), (2, .int 1000), (3, .int (nI 0))]) [1, 2, 3, 0] S dX3_earliest_10 rfl (by decide) rfl ?_
  refine tg_loop (X := Int32) (fb_erS (σ 0) (σ 4) ((fb_trC (σ 10) (σ 4) (σ 12) (σ 13) x).2.1)) (fb_trC (σ 10) (σ 4) (σ 12) (σ 13) x).1.toNatClampNeg 1000 (fun b => tg_upA (tg_upA (tg_upA σ 12 ((fb_trC (σ 10) (σ 4) (σ 12) (σ 13) x).2.1)) 13 ((fb_trC (σ 10) (σ 4) (σ 12) (σ 13) x).2.2)) 14 (fun _ => (fb_trC (σ 10) (σ 4) (σ 12) (σ 13) x).1)) (fun k b => [(0, .ref (h 0)), (1, .int x), (2, .int b), (3, .int (nI k))]) ?_ ?_
  · skip
    intro k b hi_k hk_k
    refine tg_iload_n S 3 dX3_earliest_11 rfl rfl ?_
    refine tg_aload_n S 0 dX3_earliest_12 rfl rfl ?_
    refine tg_get (v := .int ((fb_trC (σ 10) (σ 4) (σ 12) (σ 13) x).1)) S tw_v3 hK 0 rfl rfl 13 (by decide) (tw_in fl_RX3_79 rfl) dX3_earliest_13 rfl ?_
    refine tg_icmp_ge (tgt := 70) S dX3_earliest_16 (by decide) (fun c => absurd c (fb_mnge hi_k hc hm)) (fun _ => ?_)
    refine tg_aload_n S 0 dX3_earliest_19 rfl rfl ?_
    refine tg_get (v := .ref (h 1)) S tw_v3 hK 0 rfl rfl 0 (by decide) (tw_in fl_RX3_7 rfl) dX3_earliest_20 rfl ?_
    refine tg_aload_n S 0 dX3_earliest_23 rfl rfl ?_
    refine tg_get (v := .ref (h 13)) S tw_v3 hK 0 rfl rfl 12 (by decide) (tw_in fl_RX3_47 rfl) dX3_earliest_24 rfl ?_
    refine tg_iload_n S 3 dX3_earliest_27 rfl rfl ?_
    refine tg_iald (v := ((fb_trC (σ 10) (σ 4) (σ 12) (σ 13) x).2.1) k) S hK 13 0 rfl rfl dX3_earliest_28 (tg_in (Nat.lt_of_lt_of_le hi_k hc) (by decide)) (congrArg (((fb_trC (σ 10) (σ 4) (σ 12) (σ 13) x).2.1)) (tg_cl (Nat.lt_trans (Nat.lt_of_lt_of_le hi_k hc) (by decide)))) ?_
    refine tg_zald (v := σ 0 (((fb_trC (σ 10) (σ 4) (σ 12) (σ 13) x).2.1) k).toNatClampNeg) S hK 1 1 rfl rfl dX3_earliest_29 (hw k hi_k) rfl ?_
    refine tg_if_eq (tgt := 62) S dX3_earliest_30 (by decide) (fun c_1 => ?_) (fun c_1 => ?_)
    · skip
      refine tg_iload_n S 2 dX3_earliest_62 rfl rfl ?_
      refine tg_istore_n (L' := [(0, .ref (h 0)), (1, .int x), (2, .int b), (3, .int (nI k))]) [1, 2, 0, 3] S dX3_earliest_63 rfl (by decide) rfl ?_
      refine tg_iinc (v := nI (k + 1)) (L' := [(0, .ref (h 0)), (1, .int x), (2, .int b), (3, .int (nI (k + 1)))]) [1, 2, 3, 0] S 3 dX3_earliest_64 rfl (tg_inc _) (by decide) rfl ?_
      refine tg_goto (tgt := 11) S dX3_earliest_67 (by decide) ?_
      have e_1 : fb_erS (σ 0) (σ 4) ((fb_trC (σ 10) (σ 4) (σ 12) (σ 13) x).2.1) k b = b := (by first | (simp [fb_erS, c_1]; done) | (simp only [fb_erS, if_pos c_1]; done))
      rw [e_1] at hk_k
      exact hk_k
    · skip
      refine tg_aload_n S 0 dX3_earliest_33 rfl rfl ?_
      refine tg_get (v := .ref (h 5)) S tw_v3 hK 0 rfl rfl 4 (by decide) (tw_in fl_RX3_23 rfl) dX3_earliest_34 rfl ?_
      refine tg_aload_n S 0 dX3_earliest_37 rfl rfl ?_
      refine tg_get (v := .ref (h 13)) S tw_v3 hK 0 rfl rfl 12 (by decide) (tw_in fl_RX3_47 rfl) dX3_earliest_38 rfl ?_
      refine tg_iload_n S 3 dX3_earliest_41 rfl rfl ?_
      refine tg_iald (v := ((fb_trC (σ 10) (σ 4) (σ 12) (σ 13) x).2.1) k) S hK 13 0 rfl rfl dX3_earliest_42 (tg_in (Nat.lt_of_lt_of_le hi_k hc) (by decide)) (congrArg (((fb_trC (σ 10) (σ 4) (σ 12) (σ 13) x).2.1)) (tg_cl (Nat.lt_trans (Nat.lt_of_lt_of_le hi_k hc) (by decide)))) ?_
      refine tg_iald (v := σ 4 (((fb_trC (σ 10) (σ 4) (σ 12) (σ 13) x).2.1) k).toNatClampNeg) S hK 5 0 rfl rfl dX3_earliest_43 (hw k hi_k) rfl ?_
      refine tg_iload_n S 2 dX3_earliest_44 rfl rfl ?_
      refine tg_icmp_ge (tgt := 62) S dX3_earliest_45 (by decide) (fun c_2 => ?_) (fun c_2 => ?_)
      · skip
        refine tg_iload_n S 2 dX3_earliest_62 rfl rfl ?_
        refine tg_istore_n (L' := [(0, .ref (h 0)), (1, .int x), (2, .int b), (3, .int (nI k))]) [1, 2, 0, 3] S dX3_earliest_63 rfl (by decide) rfl ?_
        refine tg_iinc (v := nI (k + 1)) (L' := [(0, .ref (h 0)), (1, .int x), (2, .int b), (3, .int (nI (k + 1)))]) [1, 2, 3, 0] S 3 dX3_earliest_64 rfl (tg_inc _) (by decide) rfl ?_
        refine tg_goto (tgt := 11) S dX3_earliest_67 (by decide) ?_
        have e_2 : fb_erS (σ 0) (σ 4) ((fb_trC (σ 10) (σ 4) (σ 12) (σ 13) x).2.1) k b = b := (by first | (simp [fb_erS, c_1, c_2]; done) | (simp only [fb_erS, if_neg c_1, if_pos c_2]; done))
        rw [e_2] at hk_k
        exact hk_k
      · skip
        refine tg_aload_n S 0 dX3_earliest_48 rfl rfl ?_
        refine tg_get (v := .ref (h 5)) S tw_v3 hK 0 rfl rfl 4 (by decide) (tw_in fl_RX3_23 rfl) dX3_earliest_49 rfl ?_
        refine tg_aload_n S 0 dX3_earliest_52 rfl rfl ?_
        refine tg_get (v := .ref (h 13)) S tw_v3 hK 0 rfl rfl 12 (by decide) (tw_in fl_RX3_47 rfl) dX3_earliest_53 rfl ?_
        refine tg_iload_n S 3 dX3_earliest_56 rfl rfl ?_
        refine tg_iald (v := ((fb_trC (σ 10) (σ 4) (σ 12) (σ 13) x).2.1) k) S hK 13 0 rfl rfl dX3_earliest_57 (tg_in (Nat.lt_of_lt_of_le hi_k hc) (by decide)) (congrArg (((fb_trC (σ 10) (σ 4) (σ 12) (σ 13) x).2.1)) (tg_cl (Nat.lt_trans (Nat.lt_of_lt_of_le hi_k hc) (by decide)))) ?_
        refine tg_iald (v := σ 4 (((fb_trC (σ 10) (σ 4) (σ 12) (σ 13) x).2.1) k).toNatClampNeg) S hK 5 0 rfl rfl dX3_earliest_58 (hw k hi_k) rfl ?_
        refine tg_goto (tgt := 63) S dX3_earliest_59 (by decide) ?_
        refine tg_istore_n (L' := [(0, .ref (h 0)), (1, .int x), (2, .int (σ 4 (((fb_trC (σ 10) (σ 4) (σ 12) (σ 13) x).2.1) k).toNatClampNeg)), (3, .int (nI k))]) [1, 2, 0, 3] S dX3_earliest_63 rfl (by decide) rfl ?_
        refine tg_iinc (v := nI (k + 1)) (L' := [(0, .ref (h 0)), (1, .int x), (2, .int (σ 4 (((fb_trC (σ 10) (σ 4) (σ 12) (σ 13) x).2.1) k).toNatClampNeg)), (3, .int (nI (k + 1)))]) [1, 2, 3, 0] S 3 dX3_earliest_64 rfl (tg_inc _) (by decide) rfl ?_
        refine tg_goto (tgt := 11) S dX3_earliest_67 (by decide) ?_
        have e_3 : fb_erS (σ 0) (σ 4) ((fb_trC (σ 10) (σ 4) (σ 12) (σ 13) x).2.1) k b = σ 4 (((fb_trC (σ 10) (σ 4) (σ 12) (σ 13) x).2.1) k).toNatClampNeg := (by first | (simp [fb_erS, c_1, c_2]; done) | (simp only [fb_erS, if_neg c_1, if_neg c_2]; done))
        rw [e_3] at hk_k
        exact hk_k
  · skip
    refine tg_iload_n S 3 dX3_earliest_11 rfl rfl ?_
    refine tg_aload_n S 0 dX3_earliest_12 rfl rfl ?_
    refine tg_get (v := .int ((fb_trC (σ 10) (σ 4) (σ 12) (σ 13) x).1)) S tw_v3 hK 0 rfl rfl 13 (by decide) (tw_in fl_RX3_79 rfl) dX3_earliest_13 rfl ?_
    refine tg_icmp_ge (tgt := 70) S dX3_earliest_16 (by decide) (fun _ => ?_) (fun c => absurd (fb_mge hm) c)
    refine tg_iload_n S 2 dX3_earliest_70 rfl rfl ?_
    refine tg_w (σ2 := tg_upA (tg_upA (tg_upA σ 12 (fb_trC (σ 10) (σ 4) (σ 12) (σ 13) x).2.1) 13 (fb_trC (σ 10) (σ 4) (σ 12) (σ 13) x).2.2) 14 (fun _ => (fb_trC (σ 10) (σ 4) (σ 12) (σ 13) x).1)) rfl ?_
    exact tg_iret S hr hlk dX3_earliest_71 (by simp [fb_erC]) rfl
set_option maxHeartbeats 1000000 in
set_option maxRecDepth 100000 in
theorem k_X3_root {l : Launch} {D : va_G} {h : Nat → Nat} {cI cZ : ClassId} (hd : tw_dis 15 h) (σ : tg_Mem) (y : Int32) (H : fb_hyp (σ 0) (σ 1) (σ 2) (σ 7) (σ 8) (σ 9)) (HE : ∀ (ω s : tb_A) (k : Nat), k < 30 → ¬ fb_forest σ 11 k = 0 → fb_lst (fb_forest σ 10) (fb_forest σ 4) ω s (nI k)) : tg_CT l yX3_root wzX3_root (tg_rm 3) (tw_M h cI cZ) (tw_ty cI cZ) [] (tw_A 15 h) D [.ref (h 0), .int y] σ (some (.int (if fb_rtB σ y = true then (fb_rt σ y).1 else 0))) (if fb_rtB σ y = true then fb_rtT σ y else fb_rtF σ y) := by
  refine tg_met (own := RX3) (cc := cX3_root) (maxL := 7) (ret := (some .int)) (by decide +kernel) rfl rfl (Nat.le_of_ble_eq_true rfl) ?_
  intro p e s m below meth c S hK hN hr hlk
  refine tg_sub (L' := [(0, .ref (h 0)), (1, .int y)]) [0, 1] rfl ?_
  refine tg_aload_n S 0 dX3_root_0 rfl rfl ?_
  refine tg_callV (nA := 0) (As := []) (rest := []) (q := (RX3, TX3, 16)) S hK hN (k_X3_forest hd σ H) 0 rfl rfl (tw_gV ml_RX3_85 im_X3_forest se_X3_forest in_RX3 co_X3_forest rfl) rfl (by decide +kernel) ⟨Nat.le_of_ble_eq_true rfl, Nat.le_of_ble_eq_true rfl⟩ rfl rfl (Nat.le_of_ble_eq_true rfl) dX3_root_1 ⟨Nat.le_of_ble_eq_true rfl, Nat.le_of_ble_eq_true rfl⟩ ?_
  refine tg_aload_n S 0 dX3_root_4 rfl rfl ?_
  refine tg_iload_n S 1 dX3_root_5 rfl rfl ?_
  refine tg_iconst (v := 0) S dX3_root_6 (by decide) ?_
  refine tg_aload_n S 0 dX3_root_7 rfl rfl ?_
  refine tg_callV (nA := 0) (As := []) (rest := [.int 0, .int y, .ref (h 0)]) (q := (RX3, TX3, 16)) S hK hN (k_X3_rootsNow hd (fb_forest σ) ) 0 rfl rfl (tw_gV ml_RX3_88 im_X3_rootsNow se_X3_rootsNow in_RX3 co_X3_rootsNow rfl) rfl (by decide +kernel) ⟨Nat.le_of_ble_eq_true rfl, Nat.le_of_ble_eq_true rfl⟩ rfl rfl (Nat.le_of_ble_eq_true rfl) dX3_root_8 ⟨Nat.le_of_ble_eq_true rfl, Nat.le_of_ble_eq_true rfl⟩ ?_
  refine tg_iconst (v := 1) S dX3_root_11 (by decide) ?_
  refine tg_isub S dX3_root_12 ?_
  refine tg_callS (nA := 3) (As := [.int y, .int 0, .int ((fb_rn (((fb_forest σ) 11)) (((fb_forest σ) 10))) - 1)]) (rest := [.ref (h 0)]) S hK hN (k_X3_in hd (fb_forest σ) y 0 ((fb_rn (((fb_forest σ) 11)) (((fb_forest σ) 10))) - 1)) (tw_gS ml_RX3_57 st_X3_in in_RX3 co_X3_in rfl) rfl (by decide +kernel) ⟨Nat.le_of_ble_eq_true rfl, Nat.le_of_ble_eq_true rfl⟩ rfl rfl (Nat.le_of_ble_eq_true rfl) dX3_root_13 ⟨Nat.le_of_ble_eq_true rfl, Nat.le_of_ble_eq_true rfl⟩ ?_
  refine tg_callV (nA := 1) (As := [.int (tg_b (fb_in y 0 ((fb_rn (((fb_forest σ) 11)) (((fb_forest σ) 10))) - 1)))]) (rest := []) (q := (RX3, TX3, 16)) S hK hN (k_X3_asked hd (fb_forest σ) (fb_in y 0 ((fb_rn (((fb_forest σ) 11)) (((fb_forest σ) 10))) - 1))) 0 rfl rfl (tw_gV ml_RX3_112 im_X3_asked se_X3_asked in_RX3 co_X3_asked rfl) rfl (by decide +kernel) ⟨Nat.le_of_ble_eq_true rfl, Nat.le_of_ble_eq_true rfl⟩ rfl rfl (Nat.le_of_ble_eq_true rfl) dX3_root_16 ⟨Nat.le_of_ble_eq_true rfl, Nat.le_of_ble_eq_true rfl⟩ ?_
  refine tg_w (σ2 := tg_upA (fb_forest σ) 15 (fun _ => fb_thr1 (fb_in y 0 ((fb_rn (((fb_forest σ) 11)) (((fb_forest σ) 10))) - 1)))) rfl ?_
  refine tg_eq (σ2 := tg_upA (fb_forest σ) 15 (fun _ => fb_thr1 (fb_in y 0 ((fb_rn (((fb_forest σ) 11)) (((fb_forest σ) 10))) - 1)))) (L2 := [(0, .ref (h 0)), (1, .int y)]) (st2 := [.int (tg_b (fb_in y 0 ((fb_rn (((fb_forest σ) 11)) (((fb_forest σ) 10))) - 1)))]) rfl rfl rfl ?_
  refine tg_ifnz (tgt := 24) S dX3_root_19 (by decide) (fun c_1 => ?_) (fun c_1 => ?_)
  · skip
    refine tg_iconst (v := -1) S dX3_root_24 (by decide) ?_
    refine tg_istore_n (L' := [(0, .ref (h 0)), (1, .int y), (2, .int (-1))]) [1, 2, 0] S dX3_root_25 rfl (by decide) rfl ?_
    refine tg_iconst (v := nI 0) S dX3_root_26 (by decide) ?_
    refine tg_istore_n (L' := [(0, .ref (h 0)), (1, .int y), (2, .int (-1)), (3, .int (nI 0))]) [1, 2, 3, 0] S dX3_root_27 rfl (by decide) rfl ?_
    refine tg_w (σ2 := tg_upA (tg_upA (tg_upA (tg_upA (fb_forest σ) 12 ((fb_forest σ) 12)) 13 ((fb_forest σ) 13)) 14 (fun _ => ((fb_forest σ) 14) 0)) 15 (fun _ => fb_thr1 (fb_in y 0 ((fb_rn (((fb_forest σ) 11)) (((fb_forest σ) 10))) - 1)))) rfl ?_
    refine tg_loop (X := Int32 × Int32 × tb_A × tb_A) (fb_rtO ((fb_forest σ) 0) ((fb_forest σ) 4) ((fb_forest σ) 10) ((fb_forest σ) 11) y) 30 (-1, ((fb_forest σ) 14) 0, (fb_forest σ) 12, (fb_forest σ) 13) (fun q => tg_upA (tg_upA (tg_upA (tg_upA (fb_forest σ) 12 q.2.2.1) 13 q.2.2.2) 14 (fun _ => q.2.1)) 15 (fun _ => fb_thr1 (fb_in y 0 ((fb_rn (((fb_forest σ) 11)) (((fb_forest σ) 10))) - 1)))) (fun k q => [(0, .ref (h 0)), (1, .int y), (2, .int q.1), (3, .int (nI k))]) ?_ ?_
    · skip
      intro k q hi_k hk_k
      refine tg_iload_n S 3 dX3_root_28 rfl rfl ?_
      refine tg_bipush (v := 30) S dX3_root_29 (by decide) ?_
      refine tg_icmp_ge (tgt := 176) S dX3_root_31 (by decide) (fun c => absurd c (tg_nge hi_k)) (fun _ => ?_)
      refine tg_iconst (v := 0) S dX3_root_34 (by decide) ?_
      refine tg_istore (L' := [(0, .ref (h 0)), (1, .int y), (2, .int q.1), (3, .int (nI k)), (4, .int 0)]) [1, 2, 3, 4, 0] S dX3_root_35 (by decide) rfl ?_
      refine tg_iconst (v := nI 0) S dX3_root_37 (by decide) ?_
      refine tg_istore (L' := [(0, .ref (h 0)), (1, .int y), (2, .int q.1), (3, .int (nI k)), (4, .int 0), (5, .int (nI 0))]) [1, 2, 3, 4, 5, 0] S dX3_root_38 (by decide) rfl ?_
      refine tg_dec (P := ((fb_forest σ) 11) k = 0) (fun c_2 => ?_) (fun c_2 => ?_)
      · skip
        refine tg_aload_n S 0 dX3_root_40 rfl rfl ?_
        refine tg_get (v := .ref (h 12)) S tw_v3 hK 0 rfl rfl 11 (by decide) (tw_in fl_RX3_44 rfl) dX3_root_41 rfl ?_
        refine tg_iload_n S 3 dX3_root_44 rfl rfl ?_
        refine tg_zald (v := ((fb_forest σ) 11) k) S hK 12 1 rfl rfl dX3_root_45 (tg_in hi_k (by decide)) (congrArg (((fb_forest σ) 11)) (tg_cl (Nat.lt_trans hi_k (by decide)))) ?_
        refine tg_if_eq (tgt := 139) S dX3_root_46 (by decide) (fun _ => ?_) (fun c => absurd c_2 c)
        refine tg_aload_n S 0 dX3_root_139 rfl rfl ?_
        refine tg_get (v := .ref (h 12)) S tw_v3 hK 0 rfl rfl 11 (by decide) (tw_in fl_RX3_44 rfl) dX3_root_140 rfl ?_
        refine tg_iload_n S 3 dX3_root_143 rfl rfl ?_
        refine tg_zald (v := ((fb_forest σ) 11) k) S hK 12 1 rfl rfl dX3_root_144 (tg_in hi_k (by decide)) (congrArg (((fb_forest σ) 11)) (tg_cl (Nat.lt_trans hi_k (by decide)))) ?_
        refine tg_if_eq (tgt := 168) S dX3_root_145 (by decide) (fun _ => ?_) (fun c => absurd c_2 c)
        refine tg_iload_n S 2 dX3_root_168 rfl rfl ?_
        refine tg_istore_n (L' := [(0, .ref (h 0)), (1, .int y), (2, .int q.1), (3, .int (nI k)), (4, .int 0), (5, .int (nI 0))]) [1, 2, 0, 3, 4, 5] S dX3_root_169 rfl (by decide) rfl ?_
        refine tg_iinc (v := nI (k + 1)) (L' := [(0, .ref (h 0)), (1, .int y), (2, .int q.1), (3, .int (nI (k + 1))), (4, .int 0), (5, .int (nI 0))]) [1, 2, 3, 0, 4, 5] S 3 dX3_root_170 rfl (tg_inc _) (by decide) rfl ?_
        refine tg_goto (tgt := 28) S dX3_root_173 (by decide) ?_
        refine tg_sub (L' := [(0, .ref (h 0)), (1, .int y), (2, .int q.1), (3, .int (nI (k + 1)))]) [0, 1, 2, 3] rfl ?_
        have e_1 : fb_rtO ((fb_forest σ) 0) ((fb_forest σ) 4) ((fb_forest σ) 10) ((fb_forest σ) 11) y k q = (q.1, q.2.1, q.2.2.1, q.2.2.2) := (by first | (simp [fb_rtO, c_1, c_2]; done) | (simp only [fb_rtO, if_pos c_1, if_pos c_2]; done))
        rw [e_1] at hk_k
        exact hk_k
      · skip
        refine tg_dec (P := ((fb_forest σ) 10) k = -1) (fun c_3 => ?_) (fun c_3 => ?_)
        · skip
          refine tg_w (σ2 := tg_upA (tg_upA (tg_upA (tg_upA (fb_forest σ) 12 q.2.2.1) 13 q.2.2.2) 14 (fun _ => q.2.1)) 15 (fun _ => fb_thr1 (fb_in y 0 ((fb_rn (((fb_forest σ) 11)) (((fb_forest σ) 10))) - 1)))) rfl ?_
          refine tg_loop (X := Int32 × Int32 × tb_A × tb_A) (fb_rtS ((fb_forest σ) 0) ((fb_forest σ) 4) ((fb_forest σ) 10) ((fb_forest σ) 11) k) 30 (0, q.2.1, q.2.2.1, q.2.2.2) (fun p1 => tg_upA (tg_upA (tg_upA (tg_upA (fb_forest σ) 12 p1.2.2.1) 13 p1.2.2.2) 14 (fun _ => p1.2.1)) 15 (fun _ => fb_thr1 (fb_in y 0 ((fb_rn (((fb_forest σ) 11)) (((fb_forest σ) 10))) - 1)))) (fun j p1 => [(0, .ref (h 0)), (1, .int y), (2, .int q.1), (3, .int (nI k)), (4, .int p1.1), (5, .int (nI j))]) ?_ ?_
          · skip
            intro j p1 hi_j hk_j
            refine tg_aload_n S 0 dX3_root_40 rfl rfl ?_
            refine tg_get (v := .ref (h 12)) S tw_v3 hK 0 rfl rfl 11 (by decide) (tw_in fl_RX3_44 rfl) dX3_root_41 rfl ?_
            refine tg_iload_n S 3 dX3_root_44 rfl rfl ?_
            refine tg_zald (v := ((fb_forest σ) 11) k) S hK 12 1 rfl rfl dX3_root_45 (tg_in hi_k (by decide)) (congrArg (((fb_forest σ) 11)) (tg_cl (Nat.lt_trans hi_k (by decide)))) ?_
            refine tg_if_eq (tgt := 139) S dX3_root_46 (by decide) (fun c => absurd c c_2) (fun _ => ?_)
            refine tg_aload_n S 0 dX3_root_49 rfl rfl ?_
            refine tg_get (v := .ref (h 11)) S tw_v3 hK 0 rfl rfl 10 (by decide) (tw_in fl_RX3_41 rfl) dX3_root_50 rfl ?_
            refine tg_iload_n S 3 dX3_root_53 rfl rfl ?_
            refine tg_iald (v := ((fb_forest σ) 10) k) S hK 11 0 rfl rfl dX3_root_54 (tg_in hi_k (by decide)) (congrArg (((fb_forest σ) 10)) (tg_cl (Nat.lt_trans hi_k (by decide)))) ?_
            refine tg_iconst (v := -1) S dX3_root_55 (by decide) ?_
            refine tg_icmp_ne (tgt := 139) S dX3_root_56 (by decide) (fun c => absurd c_3 c) (fun _ => ?_)
            refine tg_iload S 5 dX3_root_59 rfl ?_
            refine tg_bipush (v := 30) S dX3_root_61 (by decide) ?_
            refine tg_icmp_ge (tgt := 139) S dX3_root_63 (by decide) (fun c => absurd c (tg_nge hi_j)) (fun _ => ?_)
            refine tg_iload S 5 dX3_root_66 rfl ?_
            refine tg_iload_n S 3 dX3_root_68 rfl rfl ?_
            refine tg_icmp_eq (tgt := 133) S dX3_root_69 (by decide) (fun c_4 => ?_) (fun c_4 => ?_)
            · skip
              refine tg_iinc (v := nI (j + 1)) (L' := [(0, .ref (h 0)), (1, .int y), (2, .int q.1), (3, .int (nI k)), (4, .int p1.1), (5, .int (nI (j + 1)))]) [1, 2, 3, 4, 5, 0] S 5 dX3_root_133 rfl (tg_inc _) (by decide) rfl ?_
              refine tg_goto (tgt := 40) S dX3_root_136 (by decide) ?_
              have e_2 : fb_rtS ((fb_forest σ) 0) ((fb_forest σ) 4) ((fb_forest σ) 10) ((fb_forest σ) 11) k j p1 = (p1.1, p1.2.1, p1.2.2.1, p1.2.2.2) := (by first | (simp [fb_rtS, c_1, c_2, c_3, c_4]; done) | (simp only [fb_rtS, if_pos c_1, if_neg c_2, if_pos c_3, if_pos c_4]; done))
              rw [e_2] at hk_j
              exact hk_j
            · skip
              refine tg_aload_n S 0 dX3_root_72 rfl rfl ?_
              refine tg_get (v := .ref (h 12)) S tw_v3 hK 0 rfl rfl 11 (by decide) (tw_in fl_RX3_44 rfl) dX3_root_73 rfl ?_
              refine tg_iload S 5 dX3_root_76 rfl ?_
              refine tg_zald (v := ((fb_forest σ) 11) j) S hK 12 1 rfl rfl dX3_root_78 (tg_in hi_j (by decide)) (congrArg (((fb_forest σ) 11)) (tg_cl (Nat.lt_trans hi_j (by decide)))) ?_
              refine tg_if_eq (tgt := 133) S dX3_root_79 (by decide) (fun c_5 => ?_) (fun c_5 => ?_)
              · skip
                refine tg_iinc (v := nI (j + 1)) (L' := [(0, .ref (h 0)), (1, .int y), (2, .int q.1), (3, .int (nI k)), (4, .int p1.1), (5, .int (nI (j + 1)))]) [1, 2, 3, 4, 5, 0] S 5 dX3_root_133 rfl (tg_inc _) (by decide) rfl ?_
                refine tg_goto (tgt := 40) S dX3_root_136 (by decide) ?_
                have e_3 : fb_rtS ((fb_forest σ) 0) ((fb_forest σ) 4) ((fb_forest σ) 10) ((fb_forest σ) 11) k j p1 = (p1.1, p1.2.1, p1.2.2.1, p1.2.2.2) := (by first | (simp [fb_rtS, c_1, c_2, c_3, c_4, c_5]; done) | (simp only [fb_rtS, if_pos c_1, if_neg c_2, if_pos c_3, if_neg c_4, if_pos c_5]; done))
                rw [e_3] at hk_j
                exact hk_j
              · skip
                refine tg_aload_n S 0 dX3_root_82 rfl rfl ?_
                refine tg_get (v := .ref (h 11)) S tw_v3 hK 0 rfl rfl 10 (by decide) (tw_in fl_RX3_41 rfl) dX3_root_83 rfl ?_
                refine tg_iload S 5 dX3_root_86 rfl ?_
                refine tg_iald (v := ((fb_forest σ) 10) j) S hK 11 0 rfl rfl dX3_root_88 (tg_in hi_j (by decide)) (congrArg (((fb_forest σ) 10)) (tg_cl (Nat.lt_trans hi_j (by decide)))) ?_
                refine tg_iconst (v := -1) S dX3_root_89 (by decide) ?_
                refine tg_icmp_ne (tgt := 133) S dX3_root_90 (by decide) (fun c_6 => ?_) (fun c_6 => ?_)
                · skip
                  refine tg_iinc (v := nI (j + 1)) (L' := [(0, .ref (h 0)), (1, .int y), (2, .int q.1), (3, .int (nI k)), (4, .int p1.1), (5, .int (nI (j + 1)))]) [1, 2, 3, 4, 5, 0] S 5 dX3_root_133 rfl (tg_inc _) (by decide) rfl ?_
                  refine tg_goto (tgt := 40) S dX3_root_136 (by decide) ?_
                  have e_4 : fb_rtS ((fb_forest σ) 0) ((fb_forest σ) 4) ((fb_forest σ) 10) ((fb_forest σ) 11) k j p1 = (p1.1, p1.2.1, p1.2.2.1, p1.2.2.2) := (by first | (simp [fb_rtS, c_1, c_2, c_3, c_4, c_5, c_6]; done) | (simp only [fb_rtS, if_pos c_1, if_neg c_2, if_pos c_3, if_neg c_4, if_neg c_5, if_neg c_6]; done))
                  rw [e_4] at hk_j
                  exact hk_j
                · skip
                  refine tg_aload_n S 0 dX3_root_93 rfl rfl ?_
                  refine tg_iload_n S 3 dX3_root_94 rfl rfl ?_
                  refine tg_callV (nA := 1) (As := [.int (nI k)]) (rest := []) (q := (RX3, TX3, 16)) S hK hN (k_X3_earliest hd (tg_upA (tg_upA (tg_upA (tg_upA (fb_forest σ) 12 p1.2.2.1) 13 p1.2.2.2) 14 (fun _ => p1.2.1)) 15 (fun _ => fb_thr1 (fb_in y 0 ((fb_rn (((fb_forest σ) 11)) (((fb_forest σ) 10))) - 1)))) (nI k) (HE p1.2.2.1 p1.2.2.2 k hi_k c_2)) 0 rfl rfl (tw_gV ml_RX3_115 im_X3_earliest se_X3_earliest in_RX3 co_X3_earliest rfl) rfl (by decide +kernel) ⟨Nat.le_of_ble_eq_true rfl, Nat.le_of_ble_eq_true rfl⟩ rfl rfl (Nat.le_of_ble_eq_true rfl) dX3_root_95 ⟨Nat.le_of_ble_eq_true rfl, Nat.le_of_ble_eq_true rfl⟩ ?_
                  refine tg_w (σ2 := tg_upA (tg_upA (tg_upA (tg_upA (fb_forest σ) 12 ((fb_trC ((fb_forest σ) 10) ((fb_forest σ) 4) p1.2.2.1 p1.2.2.2 (nI k)).2.1)) 13 ((fb_trC ((fb_forest σ) 10) ((fb_forest σ) 4) p1.2.2.1 p1.2.2.2 (nI k)).2.2)) 14 (fun _ => (fb_trC ((fb_forest σ) 10) ((fb_forest σ) 4) p1.2.2.1 p1.2.2.2 (nI k)).1)) 15 (fun _ => fb_thr1 (fb_in y 0 ((fb_rn (((fb_forest σ) 11)) (((fb_forest σ) 10))) - 1)))) rfl ?_
                  refine tg_eq (σ2 := tg_upA (tg_upA (tg_upA (tg_upA (fb_forest σ) 12 ((fb_trC ((fb_forest σ) 10) ((fb_forest σ) 4) p1.2.2.1 p1.2.2.2 (nI k)).2.1)) 13 ((fb_trC ((fb_forest σ) 10) ((fb_forest σ) 4) p1.2.2.1 p1.2.2.2 (nI k)).2.2)) 14 (fun _ => (fb_trC ((fb_forest σ) 10) ((fb_forest σ) 4) p1.2.2.1 p1.2.2.2 (nI k)).1)) 15 (fun _ => fb_thr1 (fb_in y 0 ((fb_rn (((fb_forest σ) 11)) (((fb_forest σ) 10))) - 1)))) (L2 := [(0, .ref (h 0)), (1, .int y), (2, .int q.1), (3, .int (nI k)), (4, .int p1.1), (5, .int (nI j))]) (st2 := [.int (fb_erC (((fb_forest σ) 0)) (((fb_forest σ) 4)) (fb_trC (((fb_forest σ) 10)) (((fb_forest σ) 4)) (p1.2.2.1) (p1.2.2.2) (nI k)))]) rfl rfl rfl ?_
                  refine tg_aload_n S 0 dX3_root_98 rfl rfl ?_
                  refine tg_iload S 5 dX3_root_99 rfl ?_
                  refine tg_callV (nA := 1) (As := [.int (nI j)]) (rest := [.int (fb_erC (((fb_forest σ) 0)) (((fb_forest σ) 4)) (fb_trC (((fb_forest σ) 10)) (((fb_forest σ) 4)) (p1.2.2.1) (p1.2.2.2) (nI k)))]) (q := (RX3, TX3, 16)) S hK hN (k_X3_earliest hd (tg_upA (tg_upA (tg_upA (tg_upA (fb_forest σ) 12 ((fb_trC ((fb_forest σ) 10) ((fb_forest σ) 4) p1.2.2.1 p1.2.2.2 (nI k)).2.1)) 13 ((fb_trC ((fb_forest σ) 10) ((fb_forest σ) 4) p1.2.2.1 p1.2.2.2 (nI k)).2.2)) 14 (fun _ => (fb_trC ((fb_forest σ) 10) ((fb_forest σ) 4) p1.2.2.1 p1.2.2.2 (nI k)).1)) 15 (fun _ => fb_thr1 (fb_in y 0 ((fb_rn (((fb_forest σ) 11)) (((fb_forest σ) 10))) - 1)))) (nI j) (HE ((fb_trC ((fb_forest σ) 10) ((fb_forest σ) 4) p1.2.2.1 p1.2.2.2 (nI k)).2.1) ((fb_trC ((fb_forest σ) 10) ((fb_forest σ) 4) p1.2.2.1 p1.2.2.2 (nI k)).2.2) j hi_j c_5)) 0 rfl rfl (tw_gV ml_RX3_115 im_X3_earliest se_X3_earliest in_RX3 co_X3_earliest rfl) rfl (by decide +kernel) ⟨Nat.le_of_ble_eq_true rfl, Nat.le_of_ble_eq_true rfl⟩ rfl rfl (Nat.le_of_ble_eq_true rfl) dX3_root_101 ⟨Nat.le_of_ble_eq_true rfl, Nat.le_of_ble_eq_true rfl⟩ ?_
                  refine tg_w (σ2 := tg_upA (tg_upA (tg_upA (tg_upA (fb_forest σ) 12 ((fb_trC ((fb_forest σ) 10) ((fb_forest σ) 4) ((fb_trC ((fb_forest σ) 10) ((fb_forest σ) 4) p1.2.2.1 p1.2.2.2 (nI k)).2.1) ((fb_trC ((fb_forest σ) 10) ((fb_forest σ) 4) p1.2.2.1 p1.2.2.2 (nI k)).2.2) (nI j)).2.1)) 13 ((fb_trC ((fb_forest σ) 10) ((fb_forest σ) 4) ((fb_trC ((fb_forest σ) 10) ((fb_forest σ) 4) p1.2.2.1 p1.2.2.2 (nI k)).2.1) ((fb_trC ((fb_forest σ) 10) ((fb_forest σ) 4) p1.2.2.1 p1.2.2.2 (nI k)).2.2) (nI j)).2.2)) 14 (fun _ => (fb_trC ((fb_forest σ) 10) ((fb_forest σ) 4) ((fb_trC ((fb_forest σ) 10) ((fb_forest σ) 4) p1.2.2.1 p1.2.2.2 (nI k)).2.1) ((fb_trC ((fb_forest σ) 10) ((fb_forest σ) 4) p1.2.2.1 p1.2.2.2 (nI k)).2.2) (nI j)).1)) 15 (fun _ => fb_thr1 (fb_in y 0 ((fb_rn (((fb_forest σ) 11)) (((fb_forest σ) 10))) - 1)))) rfl ?_
                  refine tg_eq (σ2 := tg_upA (tg_upA (tg_upA (tg_upA (fb_forest σ) 12 ((fb_trC ((fb_forest σ) 10) ((fb_forest σ) 4) ((fb_trC ((fb_forest σ) 10) ((fb_forest σ) 4) p1.2.2.1 p1.2.2.2 (nI k)).2.1) ((fb_trC ((fb_forest σ) 10) ((fb_forest σ) 4) p1.2.2.1 p1.2.2.2 (nI k)).2.2) (nI j)).2.1)) 13 ((fb_trC ((fb_forest σ) 10) ((fb_forest σ) 4) ((fb_trC ((fb_forest σ) 10) ((fb_forest σ) 4) p1.2.2.1 p1.2.2.2 (nI k)).2.1) ((fb_trC ((fb_forest σ) 10) ((fb_forest σ) 4) p1.2.2.1 p1.2.2.2 (nI k)).2.2) (nI j)).2.2)) 14 (fun _ => (fb_trC ((fb_forest σ) 10) ((fb_forest σ) 4) ((fb_trC ((fb_forest σ) 10) ((fb_forest σ) 4) p1.2.2.1 p1.2.2.2 (nI k)).2.1) ((fb_trC ((fb_forest σ) 10) ((fb_forest σ) 4) p1.2.2.1 p1.2.2.2 (nI k)).2.2) (nI j)).1)) 15 (fun _ => fb_thr1 (fb_in y 0 ((fb_rn (((fb_forest σ) 11)) (((fb_forest σ) 10))) - 1)))) (L2 := [(0, .ref (h 0)), (1, .int y), (2, .int q.1), (3, .int (nI k)), (4, .int p1.1), (5, .int (nI j))]) (st2 := [.int (fb_erC (((fb_forest σ) 0)) (((fb_forest σ) 4)) (fb_trC (((fb_forest σ) 10)) (((fb_forest σ) 4)) (((fb_trC ((fb_forest σ) 10) ((fb_forest σ) 4) p1.2.2.1 p1.2.2.2 (nI k)).2.1)) (((fb_trC ((fb_forest σ) 10) ((fb_forest σ) 4) p1.2.2.1 p1.2.2.2 (nI k)).2.2)) (nI j))), .int (fb_erC (((fb_forest σ) 0)) (((fb_forest σ) 4)) (fb_trC (((fb_forest σ) 10)) (((fb_forest σ) 4)) (p1.2.2.1) (p1.2.2.2) (nI k)))]) rfl rfl rfl ?_
                  refine tg_isub S dX3_root_104 ?_
                  refine tg_istore (L' := [(0, .ref (h 0)), (1, .int y), (2, .int q.1), (3, .int (nI k)), (4, .int p1.1), (5, .int (nI j)), (6, .int ((fb_erC (((fb_forest σ) 0)) (((fb_forest σ) 4)) (fb_trC (((fb_forest σ) 10)) (((fb_forest σ) 4)) (p1.2.2.1) (p1.2.2.2) (nI k))) - (fb_erC (((fb_forest σ) 0)) (((fb_forest σ) 4)) (fb_trC (((fb_forest σ) 10)) (((fb_forest σ) 4)) (((fb_trC ((fb_forest σ) 10) ((fb_forest σ) 4) p1.2.2.1 p1.2.2.2 (nI k)).2.1)) (((fb_trC ((fb_forest σ) 10) ((fb_forest σ) 4) p1.2.2.1 p1.2.2.2 (nI k)).2.2)) (nI j)))))]) [1, 2, 3, 4, 5, 6, 0] S dX3_root_105 (by decide) rfl ?_
                  refine tg_iload S 4 dX3_root_107 rfl ?_
                  refine tg_iload S 6 dX3_root_109 rfl ?_
                  refine tg_if_gt (tgt := 125) S dX3_root_111 (by decide) (fun c_7 => ?_) (fun c_7 => ?_)
                  · skip
                    refine tg_iconst (v := 1) S dX3_root_125 (by decide) ?_
                    refine tg_goto (tgt := 130) S dX3_root_126 (by decide) ?_
                    refine tg_iadd S dX3_root_130 ?_
                    refine tg_istore (L' := [(0, .ref (h 0)), (1, .int y), (2, .int q.1), (3, .int (nI k)), (4, .int (p1.1 + 1)), (5, .int (nI j)), (6, .int ((fb_erC (((fb_forest σ) 0)) (((fb_forest σ) 4)) (fb_trC (((fb_forest σ) 10)) (((fb_forest σ) 4)) (p1.2.2.1) (p1.2.2.2) (nI k))) - (fb_erC (((fb_forest σ) 0)) (((fb_forest σ) 4)) (fb_trC (((fb_forest σ) 10)) (((fb_forest σ) 4)) (((fb_trC ((fb_forest σ) 10) ((fb_forest σ) 4) p1.2.2.1 p1.2.2.2 (nI k)).2.1)) (((fb_trC ((fb_forest σ) 10) ((fb_forest σ) 4) p1.2.2.1 p1.2.2.2 (nI k)).2.2)) (nI j)))))]) [1, 2, 3, 4, 0, 5, 6] S dX3_root_131 (by decide) rfl ?_
                    refine tg_iinc (v := nI (j + 1)) (L' := [(0, .ref (h 0)), (1, .int y), (2, .int q.1), (3, .int (nI k)), (4, .int (p1.1 + 1)), (5, .int (nI (j + 1))), (6, .int ((fb_erC (((fb_forest σ) 0)) (((fb_forest σ) 4)) (fb_trC (((fb_forest σ) 10)) (((fb_forest σ) 4)) (p1.2.2.1) (p1.2.2.2) (nI k))) - (fb_erC (((fb_forest σ) 0)) (((fb_forest σ) 4)) (fb_trC (((fb_forest σ) 10)) (((fb_forest σ) 4)) (((fb_trC ((fb_forest σ) 10) ((fb_forest σ) 4) p1.2.2.1 p1.2.2.2 (nI k)).2.1)) (((fb_trC ((fb_forest σ) 10) ((fb_forest σ) 4) p1.2.2.1 p1.2.2.2 (nI k)).2.2)) (nI j)))))]) [1, 2, 3, 4, 5, 0, 6] S 5 dX3_root_133 rfl (tg_inc _) (by decide) rfl ?_
                    refine tg_goto (tgt := 40) S dX3_root_136 (by decide) ?_
                    refine tg_sub (L' := [(0, .ref (h 0)), (1, .int y), (2, .int q.1), (3, .int (nI k)), (4, .int (p1.1 + 1)), (5, .int (nI (j + 1)))]) [0, 1, 2, 3, 4, 5] rfl ?_
                    have e_5 : fb_rtS ((fb_forest σ) 0) ((fb_forest σ) 4) ((fb_forest σ) 10) ((fb_forest σ) 11) k j p1 = (p1.1 + 1, (fb_trC ((fb_forest σ) 10) ((fb_forest σ) 4) ((fb_trC ((fb_forest σ) 10) ((fb_forest σ) 4) p1.2.2.1 p1.2.2.2 (nI k)).2.1) ((fb_trC ((fb_forest σ) 10) ((fb_forest σ) 4) p1.2.2.1 p1.2.2.2 (nI k)).2.2) (nI j)).1, (fb_trC ((fb_forest σ) 10) ((fb_forest σ) 4) ((fb_trC ((fb_forest σ) 10) ((fb_forest σ) 4) p1.2.2.1 p1.2.2.2 (nI k)).2.1) ((fb_trC ((fb_forest σ) 10) ((fb_forest σ) 4) p1.2.2.1 p1.2.2.2 (nI k)).2.2) (nI j)).2.1, (fb_trC ((fb_forest σ) 10) ((fb_forest σ) 4) ((fb_trC ((fb_forest σ) 10) ((fb_forest σ) 4) p1.2.2.1 p1.2.2.2 (nI k)).2.1) ((fb_trC ((fb_forest σ) 10) ((fb_forest σ) 4) p1.2.2.1 p1.2.2.2 (nI k)).2.2) (nI j)).2.2) := (by first | (simp [fb_rtS, c_1, c_2, c_3, c_4, c_5, c_6, c_7]; done) | (simp only [fb_rtS, if_pos c_1, if_neg c_2, if_pos c_3, if_neg c_4, if_neg c_5, if_pos c_6, if_pos c_7]; done))
                    rw [e_5] at hk_j
                    exact hk_j
                  · skip
                    refine tg_iload S 6 dX3_root_114 rfl ?_
                    refine tg_if_ne (tgt := 129) S dX3_root_116 (by decide) (fun c_8 => ?_) (fun c_8 => ?_)
                    · skip
                      refine tg_iconst (v := 0) S dX3_root_129 (by decide) ?_
                      refine tg_iadd S dX3_root_130 ?_
                      refine tg_istore (L' := [(0, .ref (h 0)), (1, .int y), (2, .int q.1), (3, .int (nI k)), (4, .int (p1.1 + 0)), (5, .int (nI j)), (6, .int ((fb_erC (((fb_forest σ) 0)) (((fb_forest σ) 4)) (fb_trC (((fb_forest σ) 10)) (((fb_forest σ) 4)) (p1.2.2.1) (p1.2.2.2) (nI k))) - (fb_erC (((fb_forest σ) 0)) (((fb_forest σ) 4)) (fb_trC (((fb_forest σ) 10)) (((fb_forest σ) 4)) (((fb_trC ((fb_forest σ) 10) ((fb_forest σ) 4) p1.2.2.1 p1.2.2.2 (nI k)).2.1)) (((fb_trC ((fb_forest σ) 10) ((fb_forest σ) 4) p1.2.2.1 p1.2.2.2 (nI k)).2.2)) (nI j)))))]) [1, 2, 3, 4, 0, 5, 6] S dX3_root_131 (by decide) rfl ?_
                      refine tg_iinc (v := nI (j + 1)) (L' := [(0, .ref (h 0)), (1, .int y), (2, .int q.1), (3, .int (nI k)), (4, .int (p1.1 + 0)), (5, .int (nI (j + 1))), (6, .int ((fb_erC (((fb_forest σ) 0)) (((fb_forest σ) 4)) (fb_trC (((fb_forest σ) 10)) (((fb_forest σ) 4)) (p1.2.2.1) (p1.2.2.2) (nI k))) - (fb_erC (((fb_forest σ) 0)) (((fb_forest σ) 4)) (fb_trC (((fb_forest σ) 10)) (((fb_forest σ) 4)) (((fb_trC ((fb_forest σ) 10) ((fb_forest σ) 4) p1.2.2.1 p1.2.2.2 (nI k)).2.1)) (((fb_trC ((fb_forest σ) 10) ((fb_forest σ) 4) p1.2.2.1 p1.2.2.2 (nI k)).2.2)) (nI j)))))]) [1, 2, 3, 4, 5, 0, 6] S 5 dX3_root_133 rfl (tg_inc _) (by decide) rfl ?_
                      refine tg_goto (tgt := 40) S dX3_root_136 (by decide) ?_
                      refine tg_sub (L' := [(0, .ref (h 0)), (1, .int y), (2, .int q.1), (3, .int (nI k)), (4, .int (p1.1 + 0)), (5, .int (nI (j + 1)))]) [0, 1, 2, 3, 4, 5] rfl ?_
                      have e_6 : fb_rtS ((fb_forest σ) 0) ((fb_forest σ) 4) ((fb_forest σ) 10) ((fb_forest σ) 11) k j p1 = (p1.1 + 0, (fb_trC ((fb_forest σ) 10) ((fb_forest σ) 4) ((fb_trC ((fb_forest σ) 10) ((fb_forest σ) 4) p1.2.2.1 p1.2.2.2 (nI k)).2.1) ((fb_trC ((fb_forest σ) 10) ((fb_forest σ) 4) p1.2.2.1 p1.2.2.2 (nI k)).2.2) (nI j)).1, (fb_trC ((fb_forest σ) 10) ((fb_forest σ) 4) ((fb_trC ((fb_forest σ) 10) ((fb_forest σ) 4) p1.2.2.1 p1.2.2.2 (nI k)).2.1) ((fb_trC ((fb_forest σ) 10) ((fb_forest σ) 4) p1.2.2.1 p1.2.2.2 (nI k)).2.2) (nI j)).2.1, (fb_trC ((fb_forest σ) 10) ((fb_forest σ) 4) ((fb_trC ((fb_forest σ) 10) ((fb_forest σ) 4) p1.2.2.1 p1.2.2.2 (nI k)).2.1) ((fb_trC ((fb_forest σ) 10) ((fb_forest σ) 4) p1.2.2.1 p1.2.2.2 (nI k)).2.2) (nI j)).2.2) := (by first | (simp [fb_rtS, c_1, c_2, c_3, c_4, c_5, c_6, c_7, c_8]; done) | (simp only [fb_rtS, if_pos c_1, if_neg c_2, if_pos c_3, if_neg c_4, if_neg c_5, if_pos c_6, if_neg c_7, if_neg c_8]; done))
                      rw [e_6] at hk_j
                      exact hk_j
                    · skip
                      refine tg_iload S 5 dX3_root_119 rfl ?_
                      refine tg_iload_n S 3 dX3_root_121 rfl rfl ?_
                      refine tg_icmp_ge (tgt := 129) S dX3_root_122 (by decide) (fun c_9 => ?_) (fun c_9 => ?_)
                      · skip
                        refine tg_iconst (v := 0) S dX3_root_129 (by decide) ?_
                        refine tg_iadd S dX3_root_130 ?_
                        refine tg_istore (L' := [(0, .ref (h 0)), (1, .int y), (2, .int q.1), (3, .int (nI k)), (4, .int (p1.1 + 0)), (5, .int (nI j)), (6, .int ((fb_erC (((fb_forest σ) 0)) (((fb_forest σ) 4)) (fb_trC (((fb_forest σ) 10)) (((fb_forest σ) 4)) (p1.2.2.1) (p1.2.2.2) (nI k))) - (fb_erC (((fb_forest σ) 0)) (((fb_forest σ) 4)) (fb_trC (((fb_forest σ) 10)) (((fb_forest σ) 4)) (((fb_trC ((fb_forest σ) 10) ((fb_forest σ) 4) p1.2.2.1 p1.2.2.2 (nI k)).2.1)) (((fb_trC ((fb_forest σ) 10) ((fb_forest σ) 4) p1.2.2.1 p1.2.2.2 (nI k)).2.2)) (nI j)))))]) [1, 2, 3, 4, 0, 5, 6] S dX3_root_131 (by decide) rfl ?_
                        refine tg_iinc (v := nI (j + 1)) (L' := [(0, .ref (h 0)), (1, .int y), (2, .int q.1), (3, .int (nI k)), (4, .int (p1.1 + 0)), (5, .int (nI (j + 1))), (6, .int ((fb_erC (((fb_forest σ) 0)) (((fb_forest σ) 4)) (fb_trC (((fb_forest σ) 10)) (((fb_forest σ) 4)) (p1.2.2.1) (p1.2.2.2) (nI k))) - (fb_erC (((fb_forest σ) 0)) (((fb_forest σ) 4)) (fb_trC (((fb_forest σ) 10)) (((fb_forest σ) 4)) (((fb_trC ((fb_forest σ) 10) ((fb_forest σ) 4) p1.2.2.1 p1.2.2.2 (nI k)).2.1)) (((fb_trC ((fb_forest σ) 10) ((fb_forest σ) 4) p1.2.2.1 p1.2.2.2 (nI k)).2.2)) (nI j)))))]) [1, 2, 3, 4, 5, 0, 6] S 5 dX3_root_133 rfl (tg_inc _) (by decide) rfl ?_
                        refine tg_goto (tgt := 40) S dX3_root_136 (by decide) ?_
                        refine tg_sub (L' := [(0, .ref (h 0)), (1, .int y), (2, .int q.1), (3, .int (nI k)), (4, .int (p1.1 + 0)), (5, .int (nI (j + 1)))]) [0, 1, 2, 3, 4, 5] rfl ?_
                        have e_7 : fb_rtS ((fb_forest σ) 0) ((fb_forest σ) 4) ((fb_forest σ) 10) ((fb_forest σ) 11) k j p1 = (p1.1 + 0, (fb_trC ((fb_forest σ) 10) ((fb_forest σ) 4) ((fb_trC ((fb_forest σ) 10) ((fb_forest σ) 4) p1.2.2.1 p1.2.2.2 (nI k)).2.1) ((fb_trC ((fb_forest σ) 10) ((fb_forest σ) 4) p1.2.2.1 p1.2.2.2 (nI k)).2.2) (nI j)).1, (fb_trC ((fb_forest σ) 10) ((fb_forest σ) 4) ((fb_trC ((fb_forest σ) 10) ((fb_forest σ) 4) p1.2.2.1 p1.2.2.2 (nI k)).2.1) ((fb_trC ((fb_forest σ) 10) ((fb_forest σ) 4) p1.2.2.1 p1.2.2.2 (nI k)).2.2) (nI j)).2.1, (fb_trC ((fb_forest σ) 10) ((fb_forest σ) 4) ((fb_trC ((fb_forest σ) 10) ((fb_forest σ) 4) p1.2.2.1 p1.2.2.2 (nI k)).2.1) ((fb_trC ((fb_forest σ) 10) ((fb_forest σ) 4) p1.2.2.1 p1.2.2.2 (nI k)).2.2) (nI j)).2.2) := (by first | (simp [fb_rtS, c_1, c_2, c_3, c_4, c_5, c_6, c_7, c_8, c_9]; done) | (simp only [fb_rtS, if_pos c_1, if_neg c_2, if_pos c_3, if_neg c_4, if_neg c_5, if_pos c_6, if_neg c_7, if_pos c_8, if_pos c_9]; done))
                        rw [e_7] at hk_j
                        exact hk_j
                      · skip
                        refine tg_iconst (v := 1) S dX3_root_125 (by decide) ?_
                        refine tg_goto (tgt := 130) S dX3_root_126 (by decide) ?_
                        refine tg_iadd S dX3_root_130 ?_
                        refine tg_istore (L' := [(0, .ref (h 0)), (1, .int y), (2, .int q.1), (3, .int (nI k)), (4, .int (p1.1 + 1)), (5, .int (nI j)), (6, .int ((fb_erC (((fb_forest σ) 0)) (((fb_forest σ) 4)) (fb_trC (((fb_forest σ) 10)) (((fb_forest σ) 4)) (p1.2.2.1) (p1.2.2.2) (nI k))) - (fb_erC (((fb_forest σ) 0)) (((fb_forest σ) 4)) (fb_trC (((fb_forest σ) 10)) (((fb_forest σ) 4)) (((fb_trC ((fb_forest σ) 10) ((fb_forest σ) 4) p1.2.2.1 p1.2.2.2 (nI k)).2.1)) (((fb_trC ((fb_forest σ) 10) ((fb_forest σ) 4) p1.2.2.1 p1.2.2.2 (nI k)).2.2)) (nI j)))))]) [1, 2, 3, 4, 0, 5, 6] S dX3_root_131 (by decide) rfl ?_
                        refine tg_iinc (v := nI (j + 1)) (L' := [(0, .ref (h 0)), (1, .int y), (2, .int q.1), (3, .int (nI k)), (4, .int (p1.1 + 1)), (5, .int (nI (j + 1))), (6, .int ((fb_erC (((fb_forest σ) 0)) (((fb_forest σ) 4)) (fb_trC (((fb_forest σ) 10)) (((fb_forest σ) 4)) (p1.2.2.1) (p1.2.2.2) (nI k))) - (fb_erC (((fb_forest σ) 0)) (((fb_forest σ) 4)) (fb_trC (((fb_forest σ) 10)) (((fb_forest σ) 4)) (((fb_trC ((fb_forest σ) 10) ((fb_forest σ) 4) p1.2.2.1 p1.2.2.2 (nI k)).2.1)) (((fb_trC ((fb_forest σ) 10) ((fb_forest σ) 4) p1.2.2.1 p1.2.2.2 (nI k)).2.2)) (nI j)))))]) [1, 2, 3, 4, 5, 0, 6] S 5 dX3_root_133 rfl (tg_inc _) (by decide) rfl ?_
                        refine tg_goto (tgt := 40) S dX3_root_136 (by decide) ?_
                        refine tg_sub (L' := [(0, .ref (h 0)), (1, .int y), (2, .int q.1), (3, .int (nI k)), (4, .int (p1.1 + 1)), (5, .int (nI (j + 1)))]) [0, 1, 2, 3, 4, 5] rfl ?_
                        have e_8 : fb_rtS ((fb_forest σ) 0) ((fb_forest σ) 4) ((fb_forest σ) 10) ((fb_forest σ) 11) k j p1 = (p1.1 + 1, (fb_trC ((fb_forest σ) 10) ((fb_forest σ) 4) ((fb_trC ((fb_forest σ) 10) ((fb_forest σ) 4) p1.2.2.1 p1.2.2.2 (nI k)).2.1) ((fb_trC ((fb_forest σ) 10) ((fb_forest σ) 4) p1.2.2.1 p1.2.2.2 (nI k)).2.2) (nI j)).1, (fb_trC ((fb_forest σ) 10) ((fb_forest σ) 4) ((fb_trC ((fb_forest σ) 10) ((fb_forest σ) 4) p1.2.2.1 p1.2.2.2 (nI k)).2.1) ((fb_trC ((fb_forest σ) 10) ((fb_forest σ) 4) p1.2.2.1 p1.2.2.2 (nI k)).2.2) (nI j)).2.1, (fb_trC ((fb_forest σ) 10) ((fb_forest σ) 4) ((fb_trC ((fb_forest σ) 10) ((fb_forest σ) 4) p1.2.2.1 p1.2.2.2 (nI k)).2.1) ((fb_trC ((fb_forest σ) 10) ((fb_forest σ) 4) p1.2.2.1 p1.2.2.2 (nI k)).2.2) (nI j)).2.2) := (by first | (simp [fb_rtS, c_1, c_2, c_3, c_4, c_5, c_6, c_7, c_8, c_9]; done) | (simp only [fb_rtS, if_pos c_1, if_neg c_2, if_pos c_3, if_neg c_4, if_neg c_5, if_pos c_6, if_neg c_7, if_pos c_8, if_neg c_9]; done))
                        rw [e_8] at hk_j
                        exact hk_j
          · skip
            refine tg_w (σ2 := tg_upA (tg_upA (tg_upA (tg_upA (fb_forest σ) 12 ((fb_rtI ((fb_forest σ) 0) ((fb_forest σ) 4) ((fb_forest σ) 10) ((fb_forest σ) 11) k q.2).2.2.1)) 13 ((fb_rtI ((fb_forest σ) 0) ((fb_forest σ) 4) ((fb_forest σ) 10) ((fb_forest σ) 11) k q.2).2.2.2)) 14 (fun _ => (fb_rtI ((fb_forest σ) 0) ((fb_forest σ) 4) ((fb_forest σ) 10) ((fb_forest σ) 11) k q.2).2.1)) 15 (fun _ => fb_thr1 (fb_in y 0 ((fb_rn (((fb_forest σ) 11)) (((fb_forest σ) 10))) - 1)))) rfl ?_
            refine tg_sub (L' := [(0, .ref (h 0)), (1, .int y), (2, .int q.1), (3, .int (nI k)), (4, .int ((fb_rtI ((fb_forest σ) 0) ((fb_forest σ) 4) ((fb_forest σ) 10) ((fb_forest σ) 11) k q.2).1)), (5, .int (nI 30))]) [0, 1, 2, 3, 4, 5] rfl ?_
            refine tg_aload_n S 0 dX3_root_40 rfl rfl ?_
            refine tg_get (v := .ref (h 12)) S tw_v3 hK 0 rfl rfl 11 (by decide) (tw_in fl_RX3_44 rfl) dX3_root_41 rfl ?_
            refine tg_iload_n S 3 dX3_root_44 rfl rfl ?_
            refine tg_zald (v := ((fb_forest σ) 11) k) S hK 12 1 rfl rfl dX3_root_45 (tg_in hi_k (by decide)) (congrArg (((fb_forest σ) 11)) (tg_cl (Nat.lt_trans hi_k (by decide)))) ?_
            refine tg_if_eq (tgt := 139) S dX3_root_46 (by decide) (fun c => absurd c c_2) (fun _ => ?_)
            refine tg_aload_n S 0 dX3_root_49 rfl rfl ?_
            refine tg_get (v := .ref (h 11)) S tw_v3 hK 0 rfl rfl 10 (by decide) (tw_in fl_RX3_41 rfl) dX3_root_50 rfl ?_
            refine tg_iload_n S 3 dX3_root_53 rfl rfl ?_
            refine tg_iald (v := ((fb_forest σ) 10) k) S hK 11 0 rfl rfl dX3_root_54 (tg_in hi_k (by decide)) (congrArg (((fb_forest σ) 10)) (tg_cl (Nat.lt_trans hi_k (by decide)))) ?_
            refine tg_iconst (v := -1) S dX3_root_55 (by decide) ?_
            refine tg_icmp_ne (tgt := 139) S dX3_root_56 (by decide) (fun c => absurd c_3 c) (fun _ => ?_)
            refine tg_iload S 5 dX3_root_59 rfl ?_
            refine tg_bipush (v := 30) S dX3_root_61 (by decide) ?_
            refine tg_icmp_ge (tgt := 139) S dX3_root_63 (by decide) (fun _ => ?_) (fun c => absurd tg_ge c)
            refine tg_aload_n S 0 dX3_root_139 rfl rfl ?_
            refine tg_get (v := .ref (h 12)) S tw_v3 hK 0 rfl rfl 11 (by decide) (tw_in fl_RX3_44 rfl) dX3_root_140 rfl ?_
            refine tg_iload_n S 3 dX3_root_143 rfl rfl ?_
            refine tg_zald (v := ((fb_forest σ) 11) k) S hK 12 1 rfl rfl dX3_root_144 (tg_in hi_k (by decide)) (congrArg (((fb_forest σ) 11)) (tg_cl (Nat.lt_trans hi_k (by decide)))) ?_
            refine tg_if_eq (tgt := 168) S dX3_root_145 (by decide) (fun c => absurd c c_2) (fun _ => ?_)
            refine tg_aload_n S 0 dX3_root_148 rfl rfl ?_
            refine tg_get (v := .ref (h 11)) S tw_v3 hK 0 rfl rfl 10 (by decide) (tw_in fl_RX3_41 rfl) dX3_root_149 rfl ?_
            refine tg_iload_n S 3 dX3_root_152 rfl rfl ?_
            refine tg_iald (v := ((fb_forest σ) 10) k) S hK 11 0 rfl rfl dX3_root_153 (tg_in hi_k (by decide)) (congrArg (((fb_forest σ) 10)) (tg_cl (Nat.lt_trans hi_k (by decide)))) ?_
            refine tg_iconst (v := -1) S dX3_root_154 (by decide) ?_
            refine tg_icmp_ne (tgt := 168) S dX3_root_155 (by decide) (fun c => absurd c_3 c) (fun _ => ?_)
            refine tg_iload S 4 dX3_root_158 rfl ?_
            refine tg_iload_n S 1 dX3_root_160 rfl rfl ?_
            refine tg_icmp_ne (tgt := 168) S dX3_root_161 (by decide) (fun c_10 => ?_) (fun c_10 => ?_)
            · skip
              refine tg_iload_n S 2 dX3_root_168 rfl rfl ?_
              refine tg_istore_n (L' := [(0, .ref (h 0)), (1, .int y), (2, .int q.1), (3, .int (nI k)), (4, .int ((fb_rtI ((fb_forest σ) 0) ((fb_forest σ) 4) ((fb_forest σ) 10) ((fb_forest σ) 11) k q.2).1)), (5, .int (nI 30))]) [1, 2, 0, 3, 4, 5] S dX3_root_169 rfl (by decide) rfl ?_
              refine tg_iinc (v := nI (k + 1)) (L' := [(0, .ref (h 0)), (1, .int y), (2, .int q.1), (3, .int (nI (k + 1))), (4, .int ((fb_rtI ((fb_forest σ) 0) ((fb_forest σ) 4) ((fb_forest σ) 10) ((fb_forest σ) 11) k q.2).1)), (5, .int (nI 30))]) [1, 2, 3, 0, 4, 5] S 3 dX3_root_170 rfl (tg_inc _) (by decide) rfl ?_
              refine tg_goto (tgt := 28) S dX3_root_173 (by decide) ?_
              refine tg_sub (L' := [(0, .ref (h 0)), (1, .int y), (2, .int q.1), (3, .int (nI (k + 1)))]) [0, 1, 2, 3] rfl ?_
              have e_9 : fb_rtO ((fb_forest σ) 0) ((fb_forest σ) 4) ((fb_forest σ) 10) ((fb_forest σ) 11) y k q = (q.1, (fb_rtI ((fb_forest σ) 0) ((fb_forest σ) 4) ((fb_forest σ) 10) ((fb_forest σ) 11) k q.2).2.1, (fb_rtI ((fb_forest σ) 0) ((fb_forest σ) 4) ((fb_forest σ) 10) ((fb_forest σ) 11) k q.2).2.2.1, (fb_rtI ((fb_forest σ) 0) ((fb_forest σ) 4) ((fb_forest σ) 10) ((fb_forest σ) 11) k q.2).2.2.2) := (by first | (simp [fb_rtO, c_1, c_2, c_3, c_10]; done) | (simp only [fb_rtO, if_pos c_1, if_neg c_2, if_pos c_3, if_neg c_10]; done))
              rw [e_9] at hk_k
              exact hk_k
            · skip
              refine tg_iload_n S 3 dX3_root_164 rfl rfl ?_
              refine tg_goto (tgt := 169) S dX3_root_165 (by decide) ?_
              refine tg_istore_n (L' := [(0, .ref (h 0)), (1, .int y), (2, .int (nI k)), (3, .int (nI k)), (4, .int ((fb_rtI ((fb_forest σ) 0) ((fb_forest σ) 4) ((fb_forest σ) 10) ((fb_forest σ) 11) k q.2).1)), (5, .int (nI 30))]) [1, 2, 0, 3, 4, 5] S dX3_root_169 rfl (by decide) rfl ?_
              refine tg_iinc (v := nI (k + 1)) (L' := [(0, .ref (h 0)), (1, .int y), (2, .int (nI k)), (3, .int (nI (k + 1))), (4, .int ((fb_rtI ((fb_forest σ) 0) ((fb_forest σ) 4) ((fb_forest σ) 10) ((fb_forest σ) 11) k q.2).1)), (5, .int (nI 30))]) [1, 2, 3, 0, 4, 5] S 3 dX3_root_170 rfl (tg_inc _) (by decide) rfl ?_
              refine tg_goto (tgt := 28) S dX3_root_173 (by decide) ?_
              refine tg_sub (L' := [(0, .ref (h 0)), (1, .int y), (2, .int (nI k)), (3, .int (nI (k + 1)))]) [0, 1, 2, 3] rfl ?_
              have e_10 : fb_rtO ((fb_forest σ) 0) ((fb_forest σ) 4) ((fb_forest σ) 10) ((fb_forest σ) 11) y k q = (nI k, (fb_rtI ((fb_forest σ) 0) ((fb_forest σ) 4) ((fb_forest σ) 10) ((fb_forest σ) 11) k q.2).2.1, (fb_rtI ((fb_forest σ) 0) ((fb_forest σ) 4) ((fb_forest σ) 10) ((fb_forest σ) 11) k q.2).2.2.1, (fb_rtI ((fb_forest σ) 0) ((fb_forest σ) 4) ((fb_forest σ) 10) ((fb_forest σ) 11) k q.2).2.2.2) := (by first | (simp [fb_rtO, c_1, c_2, c_3, c_10]; done) | (simp only [fb_rtO, if_pos c_1, if_neg c_2, if_pos c_3, if_pos c_10]; done))
              rw [e_10] at hk_k
              exact hk_k
        · skip
          refine tg_aload_n S 0 dX3_root_40 rfl rfl ?_
          refine tg_get (v := .ref (h 12)) S tw_v3 hK 0 rfl rfl 11 (by decide) (tw_in fl_RX3_44 rfl) dX3_root_41 rfl ?_
          refine tg_iload_n S 3 dX3_root_44 rfl rfl ?_
          refine tg_zald (v := ((fb_forest σ) 11) k) S hK 12 1 rfl rfl dX3_root_45 (tg_in hi_k (by decide)) (congrArg (((fb_forest σ) 11)) (tg_cl (Nat.lt_trans hi_k (by decide)))) ?_
          refine tg_if_eq (tgt := 139) S dX3_root_46 (by decide) (fun c => absurd c c_2) (fun _ => ?_)
          refine tg_aload_n S 0 dX3_root_49 rfl rfl ?_
          refine tg_get (v := .ref (h 11)) S tw_v3 hK 0 rfl rfl 10 (by decide) (tw_in fl_RX3_41 rfl) dX3_root_50 rfl ?_
          refine tg_iload_n S 3 dX3_root_53 rfl rfl ?_
          refine tg_iald (v := ((fb_forest σ) 10) k) S hK 11 0 rfl rfl dX3_root_54 (tg_in hi_k (by decide)) (congrArg (((fb_forest σ) 10)) (tg_cl (Nat.lt_trans hi_k (by decide)))) ?_
          refine tg_iconst (v := -1) S dX3_root_55 (by decide) ?_
          refine tg_icmp_ne (tgt := 139) S dX3_root_56 (by decide) (fun _ => ?_) (fun c => absurd c c_3)
          refine tg_aload_n S 0 dX3_root_139 rfl rfl ?_
          refine tg_get (v := .ref (h 12)) S tw_v3 hK 0 rfl rfl 11 (by decide) (tw_in fl_RX3_44 rfl) dX3_root_140 rfl ?_
          refine tg_iload_n S 3 dX3_root_143 rfl rfl ?_
          refine tg_zald (v := ((fb_forest σ) 11) k) S hK 12 1 rfl rfl dX3_root_144 (tg_in hi_k (by decide)) (congrArg (((fb_forest σ) 11)) (tg_cl (Nat.lt_trans hi_k (by decide)))) ?_
          refine tg_if_eq (tgt := 168) S dX3_root_145 (by decide) (fun c => absurd c c_2) (fun _ => ?_)
          refine tg_aload_n S 0 dX3_root_148 rfl rfl ?_
          refine tg_get (v := .ref (h 11)) S tw_v3 hK 0 rfl rfl 10 (by decide) (tw_in fl_RX3_41 rfl) dX3_root_149 rfl ?_
          refine tg_iload_n S 3 dX3_root_152 rfl rfl ?_
          refine tg_iald (v := ((fb_forest σ) 10) k) S hK 11 0 rfl rfl dX3_root_153 (tg_in hi_k (by decide)) (congrArg (((fb_forest σ) 10)) (tg_cl (Nat.lt_trans hi_k (by decide)))) ?_
          refine tg_iconst (v := -1) S dX3_root_154 (by decide) ?_
          refine tg_icmp_ne (tgt := 168) S dX3_root_155 (by decide) (fun _ => ?_) (fun c => absurd c c_3)
          refine tg_iload_n S 2 dX3_root_168 rfl rfl ?_
          refine tg_istore_n (L' := [(0, .ref (h 0)), (1, .int y), (2, .int q.1), (3, .int (nI k)), (4, .int 0), (5, .int (nI 0))]) [1, 2, 0, 3, 4, 5] S dX3_root_169 rfl (by decide) rfl ?_
          refine tg_iinc (v := nI (k + 1)) (L' := [(0, .ref (h 0)), (1, .int y), (2, .int q.1), (3, .int (nI (k + 1))), (4, .int 0), (5, .int (nI 0))]) [1, 2, 3, 0, 4, 5] S 3 dX3_root_170 rfl (tg_inc _) (by decide) rfl ?_
          refine tg_goto (tgt := 28) S dX3_root_173 (by decide) ?_
          refine tg_sub (L' := [(0, .ref (h 0)), (1, .int y), (2, .int q.1), (3, .int (nI (k + 1)))]) [0, 1, 2, 3] rfl ?_
          have e_11 : fb_rtO ((fb_forest σ) 0) ((fb_forest σ) 4) ((fb_forest σ) 10) ((fb_forest σ) 11) y k q = (q.1, q.2.1, q.2.2.1, q.2.2.2) := (by first | (simp [fb_rtO, c_1, c_2, c_3]; done) | (simp only [fb_rtO, if_pos c_1, if_neg c_2, if_neg c_3]; done))
          rw [e_11] at hk_k
          exact hk_k
    · skip
      refine tg_w (σ2 := tg_upA (tg_upA (tg_upA (tg_upA (fb_forest σ) 12 ((fb_rt σ y).2.2.1)) 13 ((fb_rt σ y).2.2.2)) 14 (fun _ => (fb_rt σ y).2.1)) 15 (fun _ => fb_thr1 (fb_in y 0 ((fb_rn (((fb_forest σ) 11)) (((fb_forest σ) 10))) - 1)))) rfl ?_
      refine tg_sub (L' := [(0, .ref (h 0)), (1, .int y), (2, .int ((fb_rt σ y).1)), (3, .int (nI 30))]) [0, 1, 2, 3] rfl ?_
      refine tg_iload_n S 3 dX3_root_28 rfl rfl ?_
      refine tg_bipush (v := 30) S dX3_root_29 (by decide) ?_
      refine tg_icmp_ge (tgt := 176) S dX3_root_31 (by decide) (fun _ => ?_) (fun c => absurd tg_ge c)
      refine tg_iload_n S 2 dX3_root_176 rfl rfl ?_
      exact tg_iret S hr hlk dX3_root_177 (by simp [fb_rtB, fb_rtT, fb_rtF, c_1]) (by simp [fb_rtB, fb_rtT, fb_rtF, c_1])
  · skip
    refine tg_iconst (v := 0) S dX3_root_22 (by decide) ?_
    exact tg_iret S hr hlk dX3_root_23 (by simp [fb_rtB, fb_rtT, fb_rtF, c_1]) (by simp [fb_rtB, fb_rtT, fb_rtF, c_1])
set_option maxHeartbeats 1000000 in
set_option maxRecDepth 100000 in
theorem k_X3_join {l : Launch} {D : va_G} {h : Nat → Nat} {cI cZ : ClassId} (hd : tw_dis 15 h) (σ : tg_Mem) (x : Int32) (y : Int32) (H : fb_jnC σ x y = true → fb_hyp (σ 0) (σ 1) (σ 2) (σ 7) (σ 8) (σ 9)) (HL : fb_jnC σ x y = true → fb_lst (fb_forest σ 10) (fb_forest σ 4) (fb_forest σ 12) (fb_forest σ 13) x) (H2 : fb_jnC σ x y = true → fb_jnL σ x y = true → fb_hyp (σ 0) (σ 1) (σ 2) (upd (σ 7) x.toNatClampNeg y) (fb_forest σ 8) (fb_forest σ 9)) : tg_CT l yX3_join wzX3_join (tg_rm 3) (tw_M h cI cZ) (tw_ty cI cZ) [] (tw_A 15 h) D [.ref (h 0), .int x, .int y] σ (some (.int (if fb_jnC σ x y = true then (if fb_jnL σ x y = true then fb_forest (fb_jnU σ x y (fb_jnL σ x y)) 10 x.toNatClampNeg else 0) else 0))) (if fb_jnC σ x y = true then (if fb_jnL σ x y = true then fb_forest (fb_jnU σ x y (fb_jnL σ x y)) else fb_jnV σ x (fb_jnL σ x y)) else tg_upA σ 15 (fun _ => if fb_jnR x y = true then 2 else 1)) := by
  refine tg_met (own := RX3) (cc := cX3_join) (maxL := 6) (ret := (some .int)) (by decide +kernel) rfl rfl (Nat.le_of_ble_eq_true rfl) ?_
  intro p e s m below meth c S hK hN hr hlk
  refine tg_sub (L' := [(0, .ref (h 0)), (1, .int x), (2, .int y)]) [0, 1, 2] rfl ?_
  refine tg_iload_n S 1 dX3_join_0 rfl rfl ?_
  refine tg_callS (nA := 1) (As := [.int x]) (rest := []) S hK hN (k_X3_isId hd σ x) (tw_gS ml_RX3_92 st_X3_isId in_RX3 co_X3_isId rfl) rfl (by decide +kernel) ⟨Nat.le_of_ble_eq_true rfl, Nat.le_of_ble_eq_true rfl⟩ rfl rfl (Nat.le_of_ble_eq_true rfl) dX3_join_1 ⟨Nat.le_of_ble_eq_true rfl, Nat.le_of_ble_eq_true rfl⟩ ?_
  refine tg_ifz (tgt := 23) S dX3_join_4 (by decide) (fun c_1 => ?_) (fun c_1 => ?_)
  · skip
    refine tg_iconst (v := 0) S dX3_join_23 (by decide) ?_
    refine tg_istore_n (L' := [(0, .ref (h 0)), (1, .int x), (2, .int y), (3, .int 0)]) [1, 2, 3, 0] S dX3_join_24 rfl (by decide) rfl ?_
    refine tg_iload_n S 3 dX3_join_25 rfl rfl ?_
    refine tg_if_eq (tgt := 51) S dX3_join_26 (by decide) (fun _ => ?_) (fun c => absurd (by decide) c)
    refine tg_iconst (v := 0) S dX3_join_51 (by decide) ?_
    refine tg_istore (L' := [(0, .ref (h 0)), (1, .int x), (2, .int y), (3, .int 0), (4, .int 0)]) [1, 2, 3, 4, 0] S dX3_join_52 (by decide) rfl ?_
    refine tg_iload S 4 dX3_join_54 rfl ?_
    refine tg_if_eq (tgt := 109) S dX3_join_56 (by decide) (fun _ => ?_) (fun c => absurd (by decide) c)
    refine tg_aload_n S 0 dX3_join_109 rfl rfl ?_
    refine tg_iload_n S 3 dX3_join_110 rfl rfl ?_
    refine tg_iload S 4 dX3_join_111 rfl ?_
    refine tg_callV (nA := 2) (As := [.int (tg_b false), .int (tg_b false)]) (rest := []) (q := (RX3, TX3, 16)) S hK hN (k_X3_asked_ hd σ false false) 0 rfl rfl (tw_gV ml_RX3_95 im_X3_asked_ se_X3_asked_ in_RX3 co_X3_asked_ rfl) rfl (by decide +kernel) ⟨Nat.le_of_ble_eq_true rfl, Nat.le_of_ble_eq_true rfl⟩ rfl rfl (Nat.le_of_ble_eq_true rfl) dX3_join_113 ⟨Nat.le_of_ble_eq_true rfl, Nat.le_of_ble_eq_true rfl⟩ ?_
    refine tg_w (σ2 := tg_upA σ 15 (fun _ => 1)) rfl ?_
    refine tg_eq (σ2 := tg_upA σ 15 (fun _ => 1)) (L2 := [(0, .ref (h 0)), (1, .int x), (2, .int y), (3, .int 0), (4, .int 0)]) (st2 := [.int (tg_b false)]) rfl rfl rfl ?_
    refine tg_ifnz (b := false) (tgt := 121) S dX3_join_116 (by decide) (fun c => absurd c (by decide)) (fun _ => ?_)
    refine tg_iconst (v := 0) S dX3_join_119 (by decide) ?_
    exact tg_iret S hr hlk dX3_join_120 (by simp [fb_jnC, fb_jnR, fb_jnV, c_1]) (by simp [fb_jnC, fb_jnR, fb_jnV, c_1])
  · skip
    refine tg_iload_n S 2 dX3_join_7 rfl rfl ?_
    refine tg_callS (nA := 1) (As := [.int y]) (rest := []) S hK hN (k_X3_isId hd σ y) (tw_gS ml_RX3_92 st_X3_isId in_RX3 co_X3_isId rfl) rfl (by decide +kernel) ⟨Nat.le_of_ble_eq_true rfl, Nat.le_of_ble_eq_true rfl⟩ rfl rfl (Nat.le_of_ble_eq_true rfl) dX3_join_8 ⟨Nat.le_of_ble_eq_true rfl, Nat.le_of_ble_eq_true rfl⟩ ?_
    refine tg_ifz (tgt := 23) S dX3_join_11 (by decide) (fun c_4 => ?_) (fun c_4 => ?_)
    · skip
      refine tg_iconst (v := 0) S dX3_join_23 (by decide) ?_
      refine tg_istore_n (L' := [(0, .ref (h 0)), (1, .int x), (2, .int y), (3, .int 0)]) [1, 2, 3, 0] S dX3_join_24 rfl (by decide) rfl ?_
      refine tg_iload_n S 3 dX3_join_25 rfl rfl ?_
      refine tg_if_eq (tgt := 51) S dX3_join_26 (by decide) (fun _ => ?_) (fun c => absurd (by decide) c)
      refine tg_iconst (v := 0) S dX3_join_51 (by decide) ?_
      refine tg_istore (L' := [(0, .ref (h 0)), (1, .int x), (2, .int y), (3, .int 0), (4, .int 0)]) [1, 2, 3, 4, 0] S dX3_join_52 (by decide) rfl ?_
      refine tg_iload S 4 dX3_join_54 rfl ?_
      refine tg_if_eq (tgt := 109) S dX3_join_56 (by decide) (fun _ => ?_) (fun c => absurd (by decide) c)
      refine tg_aload_n S 0 dX3_join_109 rfl rfl ?_
      refine tg_iload_n S 3 dX3_join_110 rfl rfl ?_
      refine tg_iload S 4 dX3_join_111 rfl ?_
      refine tg_callV (nA := 2) (As := [.int (tg_b false), .int (tg_b false)]) (rest := []) (q := (RX3, TX3, 16)) S hK hN (k_X3_asked_ hd σ false false) 0 rfl rfl (tw_gV ml_RX3_95 im_X3_asked_ se_X3_asked_ in_RX3 co_X3_asked_ rfl) rfl (by decide +kernel) ⟨Nat.le_of_ble_eq_true rfl, Nat.le_of_ble_eq_true rfl⟩ rfl rfl (Nat.le_of_ble_eq_true rfl) dX3_join_113 ⟨Nat.le_of_ble_eq_true rfl, Nat.le_of_ble_eq_true rfl⟩ ?_
      refine tg_w (σ2 := tg_upA σ 15 (fun _ => 1)) rfl ?_
      refine tg_eq (σ2 := tg_upA σ 15 (fun _ => 1)) (L2 := [(0, .ref (h 0)), (1, .int x), (2, .int y), (3, .int 0), (4, .int 0)]) (st2 := [.int (tg_b false)]) rfl rfl rfl ?_
      refine tg_ifnz (b := false) (tgt := 121) S dX3_join_116 (by decide) (fun c => absurd c (by decide)) (fun _ => ?_)
      refine tg_iconst (v := 0) S dX3_join_119 (by decide) ?_
      exact tg_iret S hr hlk dX3_join_120 (by simp [fb_jnC, fb_jnR, fb_jnV, c_1, c_4]) (by simp [fb_jnC, fb_jnR, fb_jnV, c_1, c_4])
    · skip
      refine tg_iload_n S 1 dX3_join_14 rfl rfl ?_
      refine tg_iload_n S 2 dX3_join_15 rfl rfl ?_
      refine tg_icmp_eq (tgt := 23) S dX3_join_16 (by decide) (fun c_7 => ?_) (fun c_7 => ?_)
      · skip
        refine tg_iconst (v := 0) S dX3_join_23 (by decide) ?_
        refine tg_istore_n (L' := [(0, .ref (h 0)), (1, .int x), (2, .int y), (3, .int 0)]) [1, 2, 3, 0] S dX3_join_24 rfl (by decide) rfl ?_
        refine tg_iload_n S 3 dX3_join_25 rfl rfl ?_
        refine tg_if_eq (tgt := 51) S dX3_join_26 (by decide) (fun _ => ?_) (fun c => absurd (by decide) c)
        refine tg_iconst (v := 0) S dX3_join_51 (by decide) ?_
        refine tg_istore (L' := [(0, .ref (h 0)), (1, .int x), (2, .int y), (3, .int 0), (4, .int 0)]) [1, 2, 3, 4, 0] S dX3_join_52 (by decide) rfl ?_
        refine tg_iload S 4 dX3_join_54 rfl ?_
        refine tg_if_eq (tgt := 109) S dX3_join_56 (by decide) (fun _ => ?_) (fun c => absurd (by decide) c)
        refine tg_aload_n S 0 dX3_join_109 rfl rfl ?_
        refine tg_iload_n S 3 dX3_join_110 rfl rfl ?_
        refine tg_iload S 4 dX3_join_111 rfl ?_
        refine tg_callV (nA := 2) (As := [.int (tg_b false), .int (tg_b false)]) (rest := []) (q := (RX3, TX3, 16)) S hK hN (k_X3_asked_ hd σ false false) 0 rfl rfl (tw_gV ml_RX3_95 im_X3_asked_ se_X3_asked_ in_RX3 co_X3_asked_ rfl) rfl (by decide +kernel) ⟨Nat.le_of_ble_eq_true rfl, Nat.le_of_ble_eq_true rfl⟩ rfl rfl (Nat.le_of_ble_eq_true rfl) dX3_join_113 ⟨Nat.le_of_ble_eq_true rfl, Nat.le_of_ble_eq_true rfl⟩ ?_
        refine tg_w (σ2 := tg_upA σ 15 (fun _ => 1)) rfl ?_
        refine tg_eq (σ2 := tg_upA σ 15 (fun _ => 1)) (L2 := [(0, .ref (h 0)), (1, .int x), (2, .int y), (3, .int 0), (4, .int 0)]) (st2 := [.int (tg_b false)]) rfl rfl rfl ?_
        refine tg_ifnz (b := false) (tgt := 121) S dX3_join_116 (by decide) (fun c => absurd c (by decide)) (fun _ => ?_)
        refine tg_iconst (v := 0) S dX3_join_119 (by decide) ?_
        exact tg_iret S hr hlk dX3_join_120 (by simp [fb_jnC, fb_jnR, fb_jnV, c_1, c_4, c_7]) (by simp [fb_jnC, fb_jnR, fb_jnV, c_1, c_4, c_7])
      · skip
        refine tg_iconst (v := 1) S dX3_join_19 (by decide) ?_
        refine tg_goto (tgt := 24) S dX3_join_20 (by decide) ?_
        refine tg_istore_n (L' := [(0, .ref (h 0)), (1, .int x), (2, .int y), (3, .int 1)]) [1, 2, 3, 0] S dX3_join_24 rfl (by decide) rfl ?_
        refine tg_iload_n S 3 dX3_join_25 rfl rfl ?_
        refine tg_if_eq (tgt := 51) S dX3_join_26 (by decide) (fun c => absurd c (by decide)) (fun _ => ?_)
        refine tg_aload_n S 0 dX3_join_29 rfl rfl ?_
        refine tg_get (v := .ref (h 1)) S tw_v3 hK 0 rfl rfl 0 (by decide) (tw_in fl_RX3_7 rfl) dX3_join_30 rfl ?_
        refine tg_iload_n S 1 dX3_join_33 rfl rfl ?_
        refine tg_zald (v := σ 0 x.toNatClampNeg) S hK 1 1 rfl rfl dX3_join_34 (fb_in30 c_1) rfl ?_
        refine tg_if_eq (tgt := 51) S dX3_join_35 (by decide) (fun c_11 => ?_) (fun c_11 => ?_)
        · skip
          refine tg_iconst (v := 0) S dX3_join_51 (by decide) ?_
          refine tg_istore (L' := [(0, .ref (h 0)), (1, .int x), (2, .int y), (3, .int 1), (4, .int 0)]) [1, 2, 3, 4, 0] S dX3_join_52 (by decide) rfl ?_
          refine tg_iload S 4 dX3_join_54 rfl ?_
          refine tg_if_eq (tgt := 109) S dX3_join_56 (by decide) (fun _ => ?_) (fun c => absurd (by decide) c)
          refine tg_aload_n S 0 dX3_join_109 rfl rfl ?_
          refine tg_iload_n S 3 dX3_join_110 rfl rfl ?_
          refine tg_iload S 4 dX3_join_111 rfl ?_
          refine tg_callV (nA := 2) (As := [.int (tg_b true), .int (tg_b false)]) (rest := []) (q := (RX3, TX3, 16)) S hK hN (k_X3_asked_ hd σ true false) 0 rfl rfl (tw_gV ml_RX3_95 im_X3_asked_ se_X3_asked_ in_RX3 co_X3_asked_ rfl) rfl (by decide +kernel) ⟨Nat.le_of_ble_eq_true rfl, Nat.le_of_ble_eq_true rfl⟩ rfl rfl (Nat.le_of_ble_eq_true rfl) dX3_join_113 ⟨Nat.le_of_ble_eq_true rfl, Nat.le_of_ble_eq_true rfl⟩ ?_
          refine tg_w (σ2 := tg_upA σ 15 (fun _ => 2)) rfl ?_
          refine tg_eq (σ2 := tg_upA σ 15 (fun _ => 2)) (L2 := [(0, .ref (h 0)), (1, .int x), (2, .int y), (3, .int 1), (4, .int 0)]) (st2 := [.int (tg_b false)]) rfl rfl rfl ?_
          refine tg_ifnz (b := false) (tgt := 121) S dX3_join_116 (by decide) (fun c => absurd c (by decide)) (fun _ => ?_)
          refine tg_iconst (v := 0) S dX3_join_119 (by decide) ?_
          exact tg_iret S hr hlk dX3_join_120 (by simp [fb_jnC, fb_jnR, fb_jnV, c_1, c_4, c_7, c_11]) (by simp [fb_jnC, fb_jnR, fb_jnV, c_1, c_4, c_7, c_11])
        · skip
          refine tg_aload_n S 0 dX3_join_38 rfl rfl ?_
          refine tg_get (v := .ref (h 1)) S tw_v3 hK 0 rfl rfl 0 (by decide) (tw_in fl_RX3_7 rfl) dX3_join_39 rfl ?_
          refine tg_iload_n S 2 dX3_join_42 rfl rfl ?_
          refine tg_zald (v := σ 0 y.toNatClampNeg) S hK 1 1 rfl rfl dX3_join_43 (fb_in30 c_4) rfl ?_
          refine tg_if_eq (tgt := 51) S dX3_join_44 (by decide) (fun c_13 => ?_) (fun c_13 => ?_)
          · skip
            refine tg_iconst (v := 0) S dX3_join_51 (by decide) ?_
            refine tg_istore (L' := [(0, .ref (h 0)), (1, .int x), (2, .int y), (3, .int 1), (4, .int 0)]) [1, 2, 3, 4, 0] S dX3_join_52 (by decide) rfl ?_
            refine tg_iload S 4 dX3_join_54 rfl ?_
            refine tg_if_eq (tgt := 109) S dX3_join_56 (by decide) (fun _ => ?_) (fun c => absurd (by decide) c)
            refine tg_aload_n S 0 dX3_join_109 rfl rfl ?_
            refine tg_iload_n S 3 dX3_join_110 rfl rfl ?_
            refine tg_iload S 4 dX3_join_111 rfl ?_
            refine tg_callV (nA := 2) (As := [.int (tg_b true), .int (tg_b false)]) (rest := []) (q := (RX3, TX3, 16)) S hK hN (k_X3_asked_ hd σ true false) 0 rfl rfl (tw_gV ml_RX3_95 im_X3_asked_ se_X3_asked_ in_RX3 co_X3_asked_ rfl) rfl (by decide +kernel) ⟨Nat.le_of_ble_eq_true rfl, Nat.le_of_ble_eq_true rfl⟩ rfl rfl (Nat.le_of_ble_eq_true rfl) dX3_join_113 ⟨Nat.le_of_ble_eq_true rfl, Nat.le_of_ble_eq_true rfl⟩ ?_
            refine tg_w (σ2 := tg_upA σ 15 (fun _ => 2)) rfl ?_
            refine tg_eq (σ2 := tg_upA σ 15 (fun _ => 2)) (L2 := [(0, .ref (h 0)), (1, .int x), (2, .int y), (3, .int 1), (4, .int 0)]) (st2 := [.int (tg_b false)]) rfl rfl rfl ?_
            refine tg_ifnz (b := false) (tgt := 121) S dX3_join_116 (by decide) (fun c => absurd c (by decide)) (fun _ => ?_)
            refine tg_iconst (v := 0) S dX3_join_119 (by decide) ?_
            exact tg_iret S hr hlk dX3_join_120 (by simp [fb_jnC, fb_jnR, fb_jnV, c_1, c_4, c_7, c_11, c_13]) (by simp [fb_jnC, fb_jnR, fb_jnV, c_1, c_4, c_7, c_11, c_13])
          · skip
            refine tg_iconst (v := 1) S dX3_join_47 (by decide) ?_
            refine tg_goto (tgt := 52) S dX3_join_48 (by decide) ?_
            refine tg_istore (L' := [(0, .ref (h 0)), (1, .int x), (2, .int y), (3, .int 1), (4, .int 1)]) [1, 2, 3, 4, 0] S dX3_join_52 (by decide) rfl ?_
            refine tg_iload S 4 dX3_join_54 rfl ?_
            refine tg_if_eq (tgt := 109) S dX3_join_56 (by decide) (fun c => absurd c (by decide)) (fun _ => ?_)
            refine tg_aload_n S 0 dX3_join_59 rfl rfl ?_
            refine tg_callV (nA := 0) (As := []) (rest := []) (q := (RX3, TX3, 16)) S hK hN (k_X3_forest hd σ (H (by simp [fb_jnC, fb_jnR, c_1, c_4, c_7, c_11, c_13]))) 0 rfl rfl (tw_gV ml_RX3_85 im_X3_forest se_X3_forest in_RX3 co_X3_forest rfl) rfl (by decide +kernel) ⟨Nat.le_of_ble_eq_true rfl, Nat.le_of_ble_eq_true rfl⟩ rfl rfl (Nat.le_of_ble_eq_true rfl) dX3_join_60 ⟨Nat.le_of_ble_eq_true rfl, Nat.le_of_ble_eq_true rfl⟩ ?_
            have hC : fb_jnC σ x y = true := by simp [fb_jnC, fb_jnR, c_1, c_4, c_7, c_11, c_13]
            obtain ⟨HT, hm, hc, hw⟩ := HL hC
            refine tg_aload_n S 0 dX3_join_63 rfl rfl ?_
            refine tg_iload_n S 1 dX3_join_64 rfl rfl ?_
            refine tg_callV (nA := 1) (As := [.int x]) (rest := []) (q := (RX3, TX3, 16)) S hK hN (k_X3_trees hd (fb_forest σ) x (fb_jnT σ x) HT) 0 rfl rfl (tw_gV ml_RX3_105 im_X3_trees se_X3_trees in_RX3 co_X3_trees rfl) rfl (by decide +kernel) ⟨Nat.le_of_ble_eq_true rfl, Nat.le_of_ble_eq_true rfl⟩ rfl rfl (Nat.le_of_ble_eq_true rfl) dX3_join_65 ⟨Nat.le_of_ble_eq_true rfl, Nat.le_of_ble_eq_true rfl⟩ ?_
            refine tg_w (σ2 := tg_upA (tg_upA (tg_upA (fb_forest σ) 12 ((fb_jnT σ x).2.1)) 13 ((fb_jnT σ x).2.2)) 14 (fun _ => (fb_jnT σ x).1)) rfl ?_
            refine tg_iconst (v := nI 0) S dX3_join_68 (by decide) ?_
            refine tg_istore (L' := [(0, .ref (h 0)), (1, .int x), (2, .int y), (3, .int 1), (4, .int 1), (5, .int (nI 0))]) [1, 2, 3, 4, 5, 0] S dX3_join_69 (by decide) rfl ?_
            refine tg_loop (X := Bool) (fb_jnS ((fb_jnT σ x).2.1) y) (fb_jnT σ x).1.toNatClampNeg true (fun b => tg_upA (tg_upA (tg_upA (fb_forest σ) 12 ((fb_jnT σ x).2.1)) 13 ((fb_jnT σ x).2.2)) 14 (fun _ => (fb_jnT σ x).1)) (fun k b => [(0, .ref (h 0)), (1, .int x), (2, .int y), (3, .int 1), (4, .int (tg_b b)), (5, .int (nI k))]) ?_ ?_
            · skip
              intro k b hi_k hk_k
              refine tg_iload S 5 dX3_join_71 rfl ?_
              refine tg_aload_n S 0 dX3_join_73 rfl rfl ?_
              refine tg_get (v := .int ((fb_jnT σ x).1)) S tw_v3 hK 0 rfl rfl 13 (by decide) (tw_in fl_RX3_79 rfl) dX3_join_74 rfl ?_
              refine tg_icmp_ge (tgt := 109) S dX3_join_77 (by decide) (fun c => absurd c (fb_mnge hi_k hc hm)) (fun _ => ?_)
              refine tg_iload S 4 dX3_join_80 rfl ?_
              refine tg_ifz (tgt := 100) S dX3_join_82 (by decide) (fun c_16 => ?_) (fun c_16 => ?_)
              · skip
                refine tg_iconst (v := 0) S dX3_join_100 (by decide) ?_
                refine tg_istore (L' := [(0, .ref (h 0)), (1, .int x), (2, .int y), (3, .int 1), (4, .int 0), (5, .int (nI k))]) [1, 2, 3, 4, 0, 5] S dX3_join_101 (by decide) rfl ?_
                refine tg_iinc (v := nI (k + 1)) (L' := [(0, .ref (h 0)), (1, .int x), (2, .int y), (3, .int 1), (4, .int 0), (5, .int (nI (k + 1)))]) [1, 2, 3, 4, 5, 0] S 5 dX3_join_103 rfl (tg_inc _) (by decide) rfl ?_
                refine tg_goto (tgt := 71) S dX3_join_106 (by decide) ?_
                have e_1 : fb_jnS ((fb_jnT σ x).2.1) y k b = false := (by first | (simp [fb_jnS, c_1, c_4, c_7, c_11, c_13, c_16]; done) | (simp only [fb_jnS, if_pos c_1, if_pos c_4, if_neg c_7, if_neg c_11, if_neg c_13, if_neg (ne_true_of_eq_false c_16)]; done))
                rw [e_1] at hk_k
                exact hk_k
              · skip
                refine tg_aload_n S 0 dX3_join_85 rfl rfl ?_
                refine tg_get (v := .ref (h 13)) S tw_v3 hK 0 rfl rfl 12 (by decide) (tw_in fl_RX3_47 rfl) dX3_join_86 rfl ?_
                refine tg_iload S 5 dX3_join_89 rfl ?_
                refine tg_iald (v := ((fb_jnT σ x).2.1) k) S hK 13 0 rfl rfl dX3_join_91 (tg_in (Nat.lt_of_lt_of_le hi_k hc) (by decide)) (congrArg (((fb_jnT σ x).2.1)) (tg_cl (Nat.lt_trans (Nat.lt_of_lt_of_le hi_k hc) (by decide)))) ?_
                refine tg_iload_n S 2 dX3_join_92 rfl rfl ?_
                refine tg_icmp_eq (tgt := 100) S dX3_join_93 (by decide) (fun c_17 => ?_) (fun c_17 => ?_)
                · skip
                  refine tg_iconst (v := 0) S dX3_join_100 (by decide) ?_
                  refine tg_istore (L' := [(0, .ref (h 0)), (1, .int x), (2, .int y), (3, .int 1), (4, .int 0), (5, .int (nI k))]) [1, 2, 3, 4, 0, 5] S dX3_join_101 (by decide) rfl ?_
                  refine tg_iinc (v := nI (k + 1)) (L' := [(0, .ref (h 0)), (1, .int x), (2, .int y), (3, .int 1), (4, .int 0), (5, .int (nI (k + 1)))]) [1, 2, 3, 4, 5, 0] S 5 dX3_join_103 rfl (tg_inc _) (by decide) rfl ?_
                  refine tg_goto (tgt := 71) S dX3_join_106 (by decide) ?_
                  have e_2 : fb_jnS ((fb_jnT σ x).2.1) y k b = false := (by first | (simp [fb_jnS, c_1, c_4, c_7, c_11, c_13, c_16, c_17]; done) | (simp only [fb_jnS, if_pos c_1, if_pos c_4, if_neg c_7, if_neg c_11, if_neg c_13, if_pos c_16, if_pos c_17]; done))
                  rw [e_2] at hk_k
                  exact hk_k
                · skip
                  refine tg_iconst (v := 1) S dX3_join_96 (by decide) ?_
                  refine tg_goto (tgt := 101) S dX3_join_97 (by decide) ?_
                  refine tg_istore (L' := [(0, .ref (h 0)), (1, .int x), (2, .int y), (3, .int 1), (4, .int 1), (5, .int (nI k))]) [1, 2, 3, 4, 0, 5] S dX3_join_101 (by decide) rfl ?_
                  refine tg_iinc (v := nI (k + 1)) (L' := [(0, .ref (h 0)), (1, .int x), (2, .int y), (3, .int 1), (4, .int 1), (5, .int (nI (k + 1)))]) [1, 2, 3, 4, 5, 0] S 5 dX3_join_103 rfl (tg_inc _) (by decide) rfl ?_
                  refine tg_goto (tgt := 71) S dX3_join_106 (by decide) ?_
                  have e_3 : fb_jnS ((fb_jnT σ x).2.1) y k b = true := (by first | (simp [fb_jnS, c_1, c_4, c_7, c_11, c_13, c_16, c_17]; done) | (simp only [fb_jnS, if_pos c_1, if_pos c_4, if_neg c_7, if_neg c_11, if_neg c_13, if_pos c_16, if_neg c_17]; done))
                  rw [e_3] at hk_k
                  exact hk_k
            · skip
              refine tg_w (σ2 := tg_upA (tg_upA (tg_upA (fb_forest σ) 12 ((fb_jnT σ x).2.1)) 13 ((fb_jnT σ x).2.2)) 14 (fun _ => (fb_jnT σ x).1)) rfl ?_
              refine tg_sub (L' := [(0, .ref (h 0)), (1, .int x), (2, .int y), (3, .int 1), (4, .int (tg_b (fb_jnL σ x y))), (5, .int (nI ((fb_jnT σ x).1.toNatClampNeg)))]) [0, 1, 2, 3, 4, 5] rfl ?_
              refine tg_iload S 5 dX3_join_71 rfl ?_
              refine tg_aload_n S 0 dX3_join_73 rfl rfl ?_
              refine tg_get (v := .int ((fb_jnT σ x).1)) S tw_v3 hK 0 rfl rfl 13 (by decide) (tw_in fl_RX3_79 rfl) dX3_join_74 rfl ?_
              refine tg_icmp_ge (tgt := 109) S dX3_join_77 (by decide) (fun _ => ?_) (fun c => absurd (fb_mge hm) c)
              obtain ⟨bJ, hJ⟩ : ∃ b, fb_jnL σ x y = b := ⟨_, rfl⟩
              rw [hJ]
              refine tg_aload_n S 0 dX3_join_109 rfl rfl ?_
              refine tg_iload_n S 3 dX3_join_110 rfl rfl ?_
              refine tg_iload S 4 dX3_join_111 rfl ?_
              refine tg_callV (nA := 2) (As := [.int (tg_b true), .int (tg_b bJ)]) (rest := []) (q := (RX3, TX3, 16)) S hK hN (k_X3_asked_ hd (tg_upA (tg_upA (tg_upA (fb_forest σ) 12 ((fb_jnT σ x).2.1)) 13 ((fb_jnT σ x).2.2)) 14 (fun _ => (fb_jnT σ x).1)) true bJ) 0 rfl rfl (tw_gV ml_RX3_95 im_X3_asked_ se_X3_asked_ in_RX3 co_X3_asked_ rfl) rfl (by decide +kernel) ⟨Nat.le_of_ble_eq_true rfl, Nat.le_of_ble_eq_true rfl⟩ rfl rfl (Nat.le_of_ble_eq_true rfl) dX3_join_113 ⟨Nat.le_of_ble_eq_true rfl, Nat.le_of_ble_eq_true rfl⟩ ?_
              refine tg_w (σ2 := tg_upA (tg_upA (tg_upA (tg_upA (fb_forest σ) 12 ((fb_jnT σ x).2.1)) 13 ((fb_jnT σ x).2.2)) 14 (fun _ => (fb_jnT σ x).1)) 15 (fun _ => fb_thr2 true bJ)) rfl ?_
              refine tg_eq (σ2 := tg_upA (tg_upA (tg_upA (tg_upA (fb_forest σ) 12 ((fb_jnT σ x).2.1)) 13 ((fb_jnT σ x).2.2)) 14 (fun _ => (fb_jnT σ x).1)) 15 (fun _ => fb_thr2 true bJ)) (L2 := [(0, .ref (h 0)), (1, .int x), (2, .int y), (3, .int 1), (4, .int (tg_b bJ)), (5, .int (nI ((fb_jnT σ x).1.toNatClampNeg)))]) (st2 := [.int (tg_b bJ)]) rfl rfl rfl ?_
              refine tg_ifnz (tgt := 121) S dX3_join_116 (by decide) (fun c_18 => ?_) (fun c_18 => ?_)
              · skip
                refine tg_eq (σ2 := tg_upA (tg_upA (tg_upA (tg_upA (fb_forest σ) 12 ((fb_jnT σ x).2.1)) 13 ((fb_jnT σ x).2.2)) 14 (fun _ => (fb_jnT σ x).1)) 15 (fun _ => fb_thr2 true bJ)) (L2 := [(0, .ref (h 0)), (1, .int x), (2, .int y), (3, .int 1), (4, .int (tg_b true)), (5, .int (nI ((fb_jnT σ x).1.toNatClampNeg)))]) (st2 := []) rfl (by first | (simp only [c_18]; done) | (simp only [c_18]; rfl)) rfl ?_
                refine tg_aload_n S 0 dX3_join_121 rfl rfl ?_
                refine tg_get (v := .ref (h 8)) S tw_v3 hK 0 rfl rfl 7 (by decide) (tw_in fl_RX3_32 rfl) dX3_join_122 rfl ?_
                refine tg_iload_n S 1 dX3_join_125 rfl rfl ?_
                refine tg_iload_n S 2 dX3_join_126 rfl rfl ?_
                refine tg_iast (σ2 := tg_upA (tg_upA (tg_upA (tg_upA (tg_upA (fb_forest σ) 7 (upd ((fb_forest σ) 7) x.toNatClampNeg y)) 12 ((fb_jnT σ x).2.1)) 13 ((fb_jnT σ x).2.2)) 14 (fun _ => (fb_jnT σ x).1)) 15 (fun _ => fb_thr2 true bJ)) S hK (tw_MD hd) 8 0 rfl rfl dX3_join_127 (fb_in30 c_1) ((tw_Ms7 (upd ((fb_forest σ) 7) x.toNatClampNeg y)).trans rfl) ?_
                refine tg_aload_n S 0 dX3_join_128 rfl rfl ?_
                refine tg_w (σ2 := fb_jnU σ x y bJ) rfl ?_
                refine tg_callV (nA := 0) (As := []) (rest := []) (q := (RX3, TX3, 16)) S hK hN (k_X3_forest hd (fb_jnU σ x y bJ) (H2 (by simp [fb_jnC, fb_jnR, c_1, c_4, c_7, c_11, c_13, c_18]) (hJ.trans c_18))) 0 rfl rfl (tw_gV ml_RX3_85 im_X3_forest se_X3_forest in_RX3 co_X3_forest rfl) rfl (by decide +kernel) ⟨Nat.le_of_ble_eq_true rfl, Nat.le_of_ble_eq_true rfl⟩ rfl rfl (Nat.le_of_ble_eq_true rfl) dX3_join_129 ⟨Nat.le_of_ble_eq_true rfl, Nat.le_of_ble_eq_true rfl⟩ ?_
                refine tg_aload_n S 0 dX3_join_132 rfl rfl ?_
                refine tg_get (v := .ref (h 11)) S tw_v3 hK 0 rfl rfl 10 (by decide) (tw_in fl_RX3_41 rfl) dX3_join_133 rfl ?_
                refine tg_iload_n S 1 dX3_join_136 rfl rfl ?_
                refine tg_iald (v := ((fb_forest (fb_jnU σ x y bJ)) 10) x.toNatClampNeg) S hK 11 0 rfl rfl dX3_join_137 (fb_in30 c_1) rfl ?_
                exact tg_iret S hr hlk dX3_join_138 (by simp [fb_jnC, fb_jnR, fb_jnV, c_1, c_4, c_7, c_11, c_13, c_18]) (by simp [fb_jnC, fb_jnR, fb_jnV, c_1, c_4, c_7, c_11, c_13, c_18])
              · skip
                refine tg_eq (σ2 := tg_upA (tg_upA (tg_upA (tg_upA (fb_forest σ) 12 ((fb_jnT σ x).2.1)) 13 ((fb_jnT σ x).2.2)) 14 (fun _ => (fb_jnT σ x).1)) 15 (fun _ => fb_thr2 true bJ)) (L2 := [(0, .ref (h 0)), (1, .int x), (2, .int y), (3, .int 1), (4, .int (tg_b false)), (5, .int (nI ((fb_jnT σ x).1.toNatClampNeg)))]) (st2 := []) rfl (by first | (simp only [c_18]; done) | (simp only [c_18]; rfl)) rfl ?_
                refine tg_iconst (v := 0) S dX3_join_119 (by decide) ?_
                exact tg_iret S hr hlk dX3_join_120 (by simp [fb_jnC, fb_jnR, fb_jnV, c_1, c_4, c_7, c_11, c_13, c_18]) (by simp [fb_jnC, fb_jnR, fb_jnV, c_1, c_4, c_7, c_11, c_13, c_18])
