/-! ===== 10: the class: its public methods (printed by wip/whole/genD.py) ===== -/
def tx_or (a b : Option String) : Option String := match a with | some E => some E | none => b
theorem tx_orN {b : Option String} : tx_or none b = b := rfl
theorem tx_orS {E : String} {b : Option String} : tx_or (some E) b = some E := rfl
def fx_id (x : Int32) : Option String := if fa_id x = true then none else some tx_I
def fx_told (x y : Int32) : Option String := tx_or (if x = -1 then none else fx_id x) (tx_or (if y = -1 then none else fx_id y) (if x = -1 then none else if y = -1 then some tx_I else none))
def fx_below (x y : Int32) : Option String := if x < 0 then some tx_I else if x < y then none else some tx_I
def fx_letter (σ : tg_Mem) (x : Int32) : Option String := tx_or (fx_id x) (if fa_holds σ x = true then none else some tx_J)
def fx_forest (σ : tg_Mem) (x : Int32) : Option String := tx_or (fx_id x) (if fa_cont σ x = true then none else some tx_O)
def fx_put (σ : tg_Mem) (x g q sub d w0 : Int32) : Option String := tx_or (fx_id x) (tx_or (fx_told g q) (tx_or (fx_below sub 20) (tx_or (fx_below d 1000) (tx_or (fx_below w0 10) (if fa_holds σ x = true then some tx_J else none)))))
def fx_join (σ : tg_Mem) (x y : Int32) : Option String := tx_or (fx_id x) (tx_or (fx_id y) (tx_or (if x = y then some tx_I else none) (tx_or (fx_letter σ x) (tx_or (fx_letter σ y) (if fa_inT σ y x = true then some tx_J else none)))))
def fx_touched (σ : tg_Mem) (x : Int32) : Bool := if fa_handOf σ x = -1 then false else true
def fx_readS (x : Int32) (j : Nat) (q : Int32 × tg_Mem) : Int32 × tg_Mem := (if fa_isUnread q.2 (fa_idAt q.2 x (nI j)) = true then q.1 + 1 else q.1, fa_mark q.2 (fa_idAt q.2 x (nI j)))
def fx_read (σ : tg_Mem) (x : Int32) : Int32 × tg_Mem := tg_it (fx_readS x) (0, σ) 30
def fx_state (σ : tg_Mem) (x : Int32) : Int32 := if fa_holds σ x = true then 3 else if fa_cont σ x = true then 2 else if fa_knows σ x = true then 1 else 0
def fx_root (σ : tg_Mem) (x : Int32) : Option String := if fa_rootAt σ x = -1 then some tx_O else none
def fx_inTree (σ : tg_Mem) (x y : Int32) : Option String := tx_or (fx_forest σ x) (if fa_idAt σ x y = -1 then some tx_O else none)
def fx_lettersS (σ : tg_Mem) (x : Int32) (j : Nat) (b : Int32) : Int32 := if fa_holds σ (fa_idAt σ x (nI j)) = true then b + 1 else b
def fx_letters (σ : tg_Mem) (x : Int32) : Int32 := tg_it (fx_lettersS σ x) 0 30
def fx_unreadS (σ : tg_Mem) (x : Int32) (j : Nat) (b : Int32) : Int32 := if fa_isUnread σ (fa_idAt σ x (nI j)) = true then b + 1 else b
def fx_unread (σ : tg_Mem) (x : Int32) : Int32 := tg_it (fx_unreadS σ x) 0 30
def fx_peopleS (σ : tg_Mem) (x : Int32) (j : Nat) (b : Int32) : Int32 := b ||| fa_writerBit σ (fa_idAt σ x (nI j))
def fx_people (σ : tg_Mem) (x : Int32) : Int32 := tg_it (fx_peopleS σ x) 0 30
def fx_latestS (σ : tg_Mem) (x : Int32) (j : Nat) (b : Int32) : Int32 := if fa_holds σ (fa_idAt σ x (nI j)) = true then (if b < fa_dayOf σ (fa_idAt σ x (nI j)) then fa_dayOf σ (fa_idAt σ x (nI j)) else b) else b
def fx_latest (σ : tg_Mem) (x : Int32) : Int32 := tg_it (fx_latestS σ x) (-1) 30

set_option maxHeartbeats 4000000 in
set_option maxRecDepth 100000 in
theorem k_X2_requireId {l : Launch} {D : va_G} {h : Nat → Nat} {cI cZ : ClassId} (hd : tw_dis 23 h) (hl : l.stackTraces = false) (σ : tg_Mem) (x : Int32) : tx_CT l yX2_requireId wzX2_requireId (tx_rm 6) (tw_T h cI cZ) (tw_ty cI cZ) tw_nl (tw_A 23 h) D [.int x] σ (fx_id x) none σ := by
  refine tx_met (own := RX2) (cc := cX2_requireId) (maxL := 1) (ret := none) (by decide +kernel) rfl rfl (Nat.le_of_ble_eq_true rfl) ?_
  intro p e s m below meth c S hK hN hX hr hlk hh
  refine tg_sub (L' := [(0, .int x)]) [0] rfl ?_
  refine tg_iload_n S 0 dX2_requireId_0 rfl rfl ?_
  refine tg_callS (nA := 1) (As := [.int x]) (rest := []) S hK hN (k_X2_isId hd σ x) (tw_gS ml_RX2_131 st_X2_isId in_RX2 co_X2_isId rfl) rfl (by decide +kernel) ⟨Nat.le_of_ble_eq_true rfl, Nat.le_of_ble_eq_true rfl⟩ rfl rfl (Nat.le_of_ble_eq_true rfl) dX2_requireId_1 ⟨Nat.le_of_ble_eq_true rfl, Nat.le_of_ble_eq_true rfl⟩ ?_
  refine tg_ifnz (tgt := 17) S dX2_requireId_4 (by decide) (fun c_1 => ?_) (fun c_1 => ?_)
  · skip
    refine tx_ends (by simp [tx_orN, tx_orS, fx_id, c_1]) ?_
    exact tg_vret S hr hlk dX2_requireId_17 rfl
  · skip
    exact tx_throw (is := 134) S hl hX hlk hh (tw_TD hd) (by simp [tx_I, tx_J, tx_O]) (by decide +kernel) tx_lI tx_nI tx_aI tx_bI tx_oI (List.mem_of_getElem? (i := 0) rfl) dX2_requireId_7 dX2_requireId_10 dX2_requireId_11 dX2_requireId_13 dX2_requireId_16 (Nat.le_of_ble_eq_true rfl) (Nat.le_of_ble_eq_true rfl) (Nat.le_of_ble_eq_true rfl) (Nat.le_of_ble_eq_true rfl) (by simp [tx_orN, tx_orS, fx_id, c_1])
set_option maxHeartbeats 4000000 in
set_option maxRecDepth 100000 in
theorem k_X2_requireTold {l : Launch} {D : va_G} {h : Nat → Nat} {cI cZ : ClassId} (hd : tw_dis 23 h) (hl : l.stackTraces = false) (σ : tg_Mem) (x : Int32) (y : Int32) : tx_CT l yX2_requireTold wzX2_requireTold (tx_rm 7) (tw_T h cI cZ) (tw_ty cI cZ) tw_nl (tw_A 23 h) D [.int x, .int y] σ (fx_told x y) none σ := by
  refine tx_met (own := RX2) (cc := cX2_requireTold) (maxL := 2) (ret := none) (by decide +kernel) rfl rfl (Nat.le_of_ble_eq_true rfl) ?_
  intro p e s m below meth c S hK hN hX hr hlk hh
  refine tg_sub (L' := [(0, .int x), (1, .int y)]) [0, 1] rfl ?_
  refine tg_iload_n S 0 dX2_requireTold_0 rfl rfl ?_
  refine tg_iconst (v := -1) S dX2_requireTold_1 (by decide) ?_
  refine tg_icmp_eq (tgt := 9) S dX2_requireTold_2 (by decide) (fun c_1 => ?_) (fun c_1 => ?_)
  · skip
    refine tg_iload_n S 1 dX2_requireTold_9 rfl rfl ?_
    refine tg_iconst (v := -1) S dX2_requireTold_10 (by decide) ?_
    refine tg_icmp_eq (tgt := 18) S dX2_requireTold_11 (by decide) (fun c_2 => ?_) (fun c_2 => ?_)
    · skip
      refine tg_iload_n S 0 dX2_requireTold_18 rfl rfl ?_
      refine tg_iconst (v := -1) S dX2_requireTold_19 (by decide) ?_
      refine tg_icmp_eq (tgt := 38) S dX2_requireTold_20 (by decide) (fun _ => ?_) (fun c => absurd c_1 c)
      refine tx_ends (by simp [tx_orN, tx_orS, fx_told, c_1, c_2]) ?_
      exact tg_vret S hr hlk dX2_requireTold_38 rfl
    · skip
      refine tg_iload_n S 1 dX2_requireTold_14 rfl rfl ?_
      refine tx_callS (nA := 1) (As := [.int y]) (rest := []) S hK hN hX hlk hh (k_X2_requireId hd hl σ y) (tw_gS ml_RX2_25 st_X2_requireId in_RX2 co_X2_requireId rfl) rfl (by decide +kernel) ⟨Nat.le_of_ble_eq_true rfl, Nat.le_of_ble_eq_true rfl⟩ rfl rfl (Nat.le_of_ble_eq_true rfl) dX2_requireTold_15 ⟨Nat.le_of_ble_eq_true rfl, Nat.le_of_ble_eq_true rfl⟩ (fun E hE => by simp [tx_orN, tx_orS, fx_told, c_1, c_2, hE]) ?_
      intro c_3
      refine tg_iload_n S 0 dX2_requireTold_18 rfl rfl ?_
      refine tg_iconst (v := -1) S dX2_requireTold_19 (by decide) ?_
      refine tg_icmp_eq (tgt := 38) S dX2_requireTold_20 (by decide) (fun _ => ?_) (fun c => absurd c_1 c)
      refine tx_ends (by simp [tx_orN, tx_orS, fx_told, c_1, c_2, c_3]) ?_
      exact tg_vret S hr hlk dX2_requireTold_38 rfl
  · skip
    refine tg_iload_n S 0 dX2_requireTold_5 rfl rfl ?_
    refine tx_callS (nA := 1) (As := [.int x]) (rest := []) S hK hN hX hlk hh (k_X2_requireId hd hl σ x) (tw_gS ml_RX2_25 st_X2_requireId in_RX2 co_X2_requireId rfl) rfl (by decide +kernel) ⟨Nat.le_of_ble_eq_true rfl, Nat.le_of_ble_eq_true rfl⟩ rfl rfl (Nat.le_of_ble_eq_true rfl) dX2_requireTold_6 ⟨Nat.le_of_ble_eq_true rfl, Nat.le_of_ble_eq_true rfl⟩ (fun E hE => by simp [tx_orN, tx_orS, fx_told, c_1, hE]) ?_
    intro c_4
    refine tg_iload_n S 1 dX2_requireTold_9 rfl rfl ?_
    refine tg_iconst (v := -1) S dX2_requireTold_10 (by decide) ?_
    refine tg_icmp_eq (tgt := 18) S dX2_requireTold_11 (by decide) (fun c_5 => ?_) (fun c_5 => ?_)
    · skip
      refine tg_iload_n S 0 dX2_requireTold_18 rfl rfl ?_
      refine tg_iconst (v := -1) S dX2_requireTold_19 (by decide) ?_
      refine tg_icmp_eq (tgt := 38) S dX2_requireTold_20 (by decide) (fun c => absurd c c_1) (fun _ => ?_)
      refine tg_iload_n S 1 dX2_requireTold_23 rfl rfl ?_
      refine tg_iconst (v := -1) S dX2_requireTold_24 (by decide) ?_
      refine tg_icmp_ne (tgt := 38) S dX2_requireTold_25 (by decide) (fun c => absurd c_5 c) (fun _ => ?_)
      exact tx_throw (is := 136) S hl hX hlk hh (tw_TD hd) (by simp [tx_I, tx_J, tx_O]) (by decide +kernel) tx_lI tx_nI tx_aI tx_bI tx_oI (List.mem_of_getElem? (i := 1) rfl) dX2_requireTold_28 dX2_requireTold_31 dX2_requireTold_32 dX2_requireTold_34 dX2_requireTold_37 (Nat.le_of_ble_eq_true rfl) (Nat.le_of_ble_eq_true rfl) (Nat.le_of_ble_eq_true rfl) (Nat.le_of_ble_eq_true rfl) (by simp [tx_orN, tx_orS, fx_told, c_1, c_4, c_5])
    · skip
      refine tg_iload_n S 1 dX2_requireTold_14 rfl rfl ?_
      refine tx_callS (nA := 1) (As := [.int y]) (rest := []) S hK hN hX hlk hh (k_X2_requireId hd hl σ y) (tw_gS ml_RX2_25 st_X2_requireId in_RX2 co_X2_requireId rfl) rfl (by decide +kernel) ⟨Nat.le_of_ble_eq_true rfl, Nat.le_of_ble_eq_true rfl⟩ rfl rfl (Nat.le_of_ble_eq_true rfl) dX2_requireTold_15 ⟨Nat.le_of_ble_eq_true rfl, Nat.le_of_ble_eq_true rfl⟩ (fun E hE => by simp [tx_orN, tx_orS, fx_told, c_1, c_4, c_5, hE]) ?_
      intro c_6
      refine tg_iload_n S 0 dX2_requireTold_18 rfl rfl ?_
      refine tg_iconst (v := -1) S dX2_requireTold_19 (by decide) ?_
      refine tg_icmp_eq (tgt := 38) S dX2_requireTold_20 (by decide) (fun c => absurd c c_1) (fun _ => ?_)
      refine tg_iload_n S 1 dX2_requireTold_23 rfl rfl ?_
      refine tg_iconst (v := -1) S dX2_requireTold_24 (by decide) ?_
      refine tg_icmp_ne (tgt := 38) S dX2_requireTold_25 (by decide) (fun _ => ?_) (fun c => absurd c c_5)
      refine tx_ends (by simp [tx_orN, tx_orS, fx_told, c_1, c_4, c_5, c_6]) ?_
      exact tg_vret S hr hlk dX2_requireTold_38 rfl
set_option maxHeartbeats 4000000 in
set_option maxRecDepth 100000 in
theorem k_X2_requireBelow {l : Launch} {D : va_G} {h : Nat → Nat} {cI cZ : ClassId} (hd : tw_dis 23 h) (hl : l.stackTraces = false) (σ : tg_Mem) (x : Int32) (y : Int32) : tx_CT l yX2_requireBelow wzX2_requireBelow (tx_rm 6) (tw_T h cI cZ) (tw_ty cI cZ) tw_nl (tw_A 23 h) D [.int x, .int y] σ (fx_below x y) none σ := by
  refine tx_met (own := RX2) (cc := cX2_requireBelow) (maxL := 2) (ret := none) (by decide +kernel) rfl rfl (Nat.le_of_ble_eq_true rfl) ?_
  intro p e s m below meth c S hK hN hX hr hlk hh
  refine tg_sub (L' := [(0, .int x), (1, .int y)]) [0, 1] rfl ?_
  refine tg_iload_n S 0 dX2_requireBelow_0 rfl rfl ?_
  refine tg_if_lt (tgt := 9) S dX2_requireBelow_1 (by decide) (fun c_1 => ?_) (fun c_1 => ?_)
  · skip
    exact tx_throw (is := 138) S hl hX hlk hh (tw_TD hd) (by simp [tx_I, tx_J, tx_O]) (by decide +kernel) tx_lI tx_nI tx_aI tx_bI tx_oI (List.mem_of_getElem? (i := 2) rfl) dX2_requireBelow_9 dX2_requireBelow_12 dX2_requireBelow_13 dX2_requireBelow_15 dX2_requireBelow_18 (Nat.le_of_ble_eq_true rfl) (Nat.le_of_ble_eq_true rfl) (Nat.le_of_ble_eq_true rfl) (Nat.le_of_ble_eq_true rfl) (by simp [tx_orN, tx_orS, fx_below, c_1])
  · skip
    refine tg_iload_n S 0 dX2_requireBelow_4 rfl rfl ?_
    refine tg_iload_n S 1 dX2_requireBelow_5 rfl rfl ?_
    refine tg_icmp_lt (tgt := 19) S dX2_requireBelow_6 (by decide) (fun c_2 => ?_) (fun c_2 => ?_)
    · skip
      refine tx_ends (by simp [tx_orN, tx_orS, fx_below, c_1, c_2]) ?_
      exact tg_vret S hr hlk dX2_requireBelow_19 rfl
    · skip
      exact tx_throw (is := 138) S hl hX hlk hh (tw_TD hd) (by simp [tx_I, tx_J, tx_O]) (by decide +kernel) tx_lI tx_nI tx_aI tx_bI tx_oI (List.mem_of_getElem? (i := 2) rfl) dX2_requireBelow_9 dX2_requireBelow_12 dX2_requireBelow_13 dX2_requireBelow_15 dX2_requireBelow_18 (Nat.le_of_ble_eq_true rfl) (Nat.le_of_ble_eq_true rfl) (Nat.le_of_ble_eq_true rfl) (Nat.le_of_ble_eq_true rfl) (by simp [tx_orN, tx_orS, fx_below, c_1, c_2])
set_option maxHeartbeats 4000000 in
set_option maxRecDepth 100000 in
theorem k_X2_requireLetter {l : Launch} {D : va_G} {h : Nat → Nat} {cI cZ : ClassId} (hd : tw_dis 23 h) (hl : l.stackTraces = false) (σ : tg_Mem) (x : Int32) : tx_CT l yX2_requireLetter wzX2_requireLetter (tx_rm 7) (tw_T h cI cZ) (tw_ty cI cZ) tw_nl (tw_A 23 h) D [.ref (h 0), .int x] σ (fx_letter σ x) none σ := by
  refine tx_met (own := RX2) (cc := cX2_requireLetter) (maxL := 2) (ret := none) (by decide +kernel) rfl rfl (Nat.le_of_ble_eq_true rfl) ?_
  intro p e s m below meth c S hK hN hX hr hlk hh
  refine tg_sub (L' := [(0, .ref (h 0)), (1, .int x)]) [0, 1] rfl ?_
  refine tg_iload_n S 1 dX2_requireLetter_0 rfl rfl ?_
  refine tx_callS (nA := 1) (As := [.int x]) (rest := []) S hK hN hX hlk hh (k_X2_requireId hd hl σ x) (tw_gS ml_RX2_25 st_X2_requireId in_RX2 co_X2_requireId rfl) rfl (by decide +kernel) ⟨Nat.le_of_ble_eq_true rfl, Nat.le_of_ble_eq_true rfl⟩ rfl rfl (Nat.le_of_ble_eq_true rfl) dX2_requireLetter_1 ⟨Nat.le_of_ble_eq_true rfl, Nat.le_of_ble_eq_true rfl⟩ (fun E hE => by simp [tx_orN, tx_orS, fx_letter, hE]) ?_
  intro c_1
  refine tg_aload_n S 0 dX2_requireLetter_4 rfl rfl ?_
  refine tg_get (v := .ref (h 1)) S tw_v2 hK 0 rfl rfl 0 (by decide) (tw_in fl_RX2_10 rfl) dX2_requireLetter_5 rfl ?_
  refine tg_iload_n S 1 dX2_requireLetter_8 rfl rfl ?_
  refine tg_callN (nA := 1) (As := [.int x]) (rest := []) (host := RX2) (q := (RX1, TX1, 9)) S hK hN (k_X1_holds hd σ x) 1 rfl rfl (tw_gW co_X1_holds rfl) (List.mem_of_getElem? (i := 3) rfl) (tw_in in_RX1 rfl) (tw_in im_X1_holds rfl) (tw_in se_X1_holds rfl) rfl (by decide +kernel) ⟨Nat.le_of_ble_eq_true rfl, Nat.le_of_ble_eq_true rfl⟩ rfl rfl (Nat.le_of_ble_eq_true rfl) dX2_requireLetter_9 ⟨Nat.le_of_ble_eq_true rfl, Nat.le_of_ble_eq_true rfl⟩ ?_
  refine tg_ifnz (tgt := 25) S dX2_requireLetter_12 (by decide) (fun c_2 => ?_) (fun c_2 => ?_)
  · skip
    refine tx_ends (by simp [tx_orN, tx_orS, fx_letter, c_1, c_2]) ?_
    exact tg_vret S hr hlk dX2_requireLetter_25 rfl
  · skip
    exact tx_throw (is := 140) S hl hX hlk hh (tw_TD hd) (by simp [tx_I, tx_J, tx_O]) (by decide +kernel) tx_lJ tx_nJ tx_aJ tx_bJ tx_oJ (List.mem_of_getElem? (i := 3) rfl) dX2_requireLetter_15 dX2_requireLetter_18 dX2_requireLetter_19 dX2_requireLetter_21 dX2_requireLetter_24 (Nat.le_of_ble_eq_true rfl) (Nat.le_of_ble_eq_true rfl) (Nat.le_of_ble_eq_true rfl) (Nat.le_of_ble_eq_true rfl) (by simp [tx_orN, tx_orS, fx_letter, c_1, c_2])
set_option maxHeartbeats 4000000 in
set_option maxRecDepth 100000 in
theorem k_X2_requireInForest {l : Launch} {D : va_G} {h : Nat → Nat} {cI cZ : ClassId} (hd : tw_dis 23 h) (hl : l.stackTraces = false) (σ : tg_Mem) (x : Int32) : tx_CT l yX2_requireInForest wzX2_requireInForest (tx_rm 7) (tw_T h cI cZ) (tw_ty cI cZ) tw_nl (tw_A 23 h) D [.ref (h 0), .int x] σ (fx_forest σ x) none σ := by
  refine tx_met (own := RX2) (cc := cX2_requireInForest) (maxL := 2) (ret := none) (by decide +kernel) rfl rfl (Nat.le_of_ble_eq_true rfl) ?_
  intro p e s m below meth c S hK hN hX hr hlk hh
  refine tg_sub (L' := [(0, .ref (h 0)), (1, .int x)]) [0, 1] rfl ?_
  refine tg_iload_n S 1 dX2_requireInForest_0 rfl rfl ?_
  refine tx_callS (nA := 1) (As := [.int x]) (rest := []) S hK hN hX hlk hh (k_X2_requireId hd hl σ x) (tw_gS ml_RX2_25 st_X2_requireId in_RX2 co_X2_requireId rfl) rfl (by decide +kernel) ⟨Nat.le_of_ble_eq_true rfl, Nat.le_of_ble_eq_true rfl⟩ rfl rfl (Nat.le_of_ble_eq_true rfl) dX2_requireInForest_1 ⟨Nat.le_of_ble_eq_true rfl, Nat.le_of_ble_eq_true rfl⟩ (fun E hE => by simp [tx_orN, tx_orS, fx_forest, hE]) ?_
  intro c_1
  refine tg_aload_n S 0 dX2_requireInForest_4 rfl rfl ?_
  refine tg_get (v := .ref (h 2)) S tw_v2 hK 0 rfl rfl 1 (by decide) (tw_in fl_RX2_21 rfl) dX2_requireInForest_5 rfl ?_
  refine tg_iload_n S 1 dX2_requireInForest_8 rfl rfl ?_
  refine tg_callN (nA := 1) (As := [.int x]) (rest := []) (host := RX2) (q := (RX0, TX0, 13)) S hK hN (k_X0_contains hd σ x) 2 rfl rfl (tw_gW co_X0_contains rfl) (List.mem_of_getElem? (i := 21) rfl) (tw_in in_RX0 rfl) (tw_in im_X0_contains rfl) (tw_in se_X0_contains rfl) rfl (by decide +kernel) ⟨Nat.le_of_ble_eq_true rfl, Nat.le_of_ble_eq_true rfl⟩ rfl rfl (Nat.le_of_ble_eq_true rfl) dX2_requireInForest_9 ⟨Nat.le_of_ble_eq_true rfl, Nat.le_of_ble_eq_true rfl⟩ ?_
  refine tg_ifnz (tgt := 25) S dX2_requireInForest_12 (by decide) (fun c_2 => ?_) (fun c_2 => ?_)
  · skip
    refine tx_ends (by simp [tx_orN, tx_orS, fx_forest, c_1, c_2]) ?_
    exact tg_vret S hr hlk dX2_requireInForest_25 rfl
  · skip
    exact tx_throw (is := 142) S hl hX hlk hh (tw_TD hd) (by simp [tx_I, tx_J, tx_O]) (by decide +kernel) tx_lO tx_nO tx_aO tx_bO tx_oO (List.mem_of_getElem? (i := 4) rfl) dX2_requireInForest_15 dX2_requireInForest_18 dX2_requireInForest_19 dX2_requireInForest_21 dX2_requireInForest_24 (Nat.le_of_ble_eq_true rfl) (Nat.le_of_ble_eq_true rfl) (Nat.le_of_ble_eq_true rfl) (Nat.le_of_ble_eq_true rfl) (by simp [tx_orN, tx_orS, fx_forest, c_1, c_2])
set_option maxHeartbeats 4000000 in
set_option maxRecDepth 100000 in
theorem k_X2_letter {l : Launch} {D : va_G} {h : Nat → Nat} {cI cZ : ClassId} (hd : tw_dis 23 h) (hl : l.stackTraces = false) (σ : tg_Mem) (x : Int32) (g : Int32) (q : Int32) (sub : Int32) (d : Int32) (w0 : Int32) : tx_CT l yX2_letter wzX2_letter (tx_rm 8) (tw_T h cI cZ) (tw_ty cI cZ) tw_nl (tw_A 23 h) D [.ref (h 0), .int x, .int g, .int q, .int sub, .int d, .int w0] σ (fx_put σ x g q sub d w0) (some (.int (fa_grow (fa_put σ x g q sub d w0) 20 0))) (fa_grow (fa_put σ x g q sub d w0)) := by
  refine tx_met (own := RX2) (cc := cX2_letter) (maxL := 7) (ret := (some .int)) (by decide +kernel) rfl rfl (Nat.le_of_ble_eq_true rfl) ?_
  intro p e s m below meth c S hK hN hX hr hlk hh
  refine tg_sub (L' := [(0, .ref (h 0)), (1, .int x), (2, .int g), (3, .int q), (4, .int sub), (5, .int d), (6, .int w0)]) [0, 1, 2, 3, 4, 5, 6] rfl ?_
  refine tg_iload_n S 1 dX2_letter_0 rfl rfl ?_
  refine tx_callS (nA := 1) (As := [.int x]) (rest := []) S hK hN hX hlk hh (k_X2_requireId hd hl σ x) (tw_gS ml_RX2_25 st_X2_requireId in_RX2 co_X2_requireId rfl) rfl (by decide +kernel) ⟨Nat.le_of_ble_eq_true rfl, Nat.le_of_ble_eq_true rfl⟩ rfl rfl (Nat.le_of_ble_eq_true rfl) dX2_letter_1 ⟨Nat.le_of_ble_eq_true rfl, Nat.le_of_ble_eq_true rfl⟩ (fun E hE => by simp [tx_orN, tx_orS, fx_put, hE]) ?_
  intro c_1
  refine tg_iload_n S 2 dX2_letter_4 rfl rfl ?_
  refine tg_iload_n S 3 dX2_letter_5 rfl rfl ?_
  refine tx_callS (nA := 2) (As := [.int g, .int q]) (rest := []) S hK hN hX hlk hh (k_X2_requireTold hd hl σ g q) (tw_gS ml_RX2_29 st_X2_requireTold in_RX2 co_X2_requireTold rfl) rfl (by decide +kernel) ⟨Nat.le_of_ble_eq_true rfl, Nat.le_of_ble_eq_true rfl⟩ rfl rfl (Nat.le_of_ble_eq_true rfl) dX2_letter_6 ⟨Nat.le_of_ble_eq_true rfl, Nat.le_of_ble_eq_true rfl⟩ (fun E hE => by simp [tx_orN, tx_orS, fx_put, c_1, hE]) ?_
  intro c_2
  refine tg_iload S 4 dX2_letter_9 rfl ?_
  refine tg_bipush (v := 20) S dX2_letter_11 (by decide) ?_
  refine tx_callS (nA := 2) (As := [.int sub, .int 20]) (rest := []) S hK hN hX hlk hh (k_X2_requireBelow hd hl σ sub 20) (tw_gS ml_RX2_33 st_X2_requireBelow in_RX2 co_X2_requireBelow rfl) rfl (by decide +kernel) ⟨Nat.le_of_ble_eq_true rfl, Nat.le_of_ble_eq_true rfl⟩ rfl rfl (Nat.le_of_ble_eq_true rfl) dX2_letter_13 ⟨Nat.le_of_ble_eq_true rfl, Nat.le_of_ble_eq_true rfl⟩ (fun E hE => by simp [tx_orN, tx_orS, fx_put, c_1, c_2, hE]) ?_
  intro c_3
  refine tg_iload S 5 dX2_letter_16 rfl ?_
  refine tg_sipush (v := 1000) S dX2_letter_18 (by decide) ?_
  refine tx_callS (nA := 2) (As := [.int d, .int 1000]) (rest := []) S hK hN hX hlk hh (k_X2_requireBelow hd hl σ d 1000) (tw_gS ml_RX2_33 st_X2_requireBelow in_RX2 co_X2_requireBelow rfl) rfl (by decide +kernel) ⟨Nat.le_of_ble_eq_true rfl, Nat.le_of_ble_eq_true rfl⟩ rfl rfl (Nat.le_of_ble_eq_true rfl) dX2_letter_21 ⟨Nat.le_of_ble_eq_true rfl, Nat.le_of_ble_eq_true rfl⟩ (fun E hE => by simp [tx_orN, tx_orS, fx_put, c_1, c_2, c_3, hE]) ?_
  intro c_4
  refine tg_iload S 6 dX2_letter_24 rfl ?_
  refine tg_bipush (v := 10) S dX2_letter_26 (by decide) ?_
  refine tx_callS (nA := 2) (As := [.int w0, .int 10]) (rest := []) S hK hN hX hlk hh (k_X2_requireBelow hd hl σ w0 10) (tw_gS ml_RX2_33 st_X2_requireBelow in_RX2 co_X2_requireBelow rfl) rfl (by decide +kernel) ⟨Nat.le_of_ble_eq_true rfl, Nat.le_of_ble_eq_true rfl⟩ rfl rfl (Nat.le_of_ble_eq_true rfl) dX2_letter_28 ⟨Nat.le_of_ble_eq_true rfl, Nat.le_of_ble_eq_true rfl⟩ (fun E hE => by simp [tx_orN, tx_orS, fx_put, c_1, c_2, c_3, c_4, hE]) ?_
  intro c_5
  refine tg_aload_n S 0 dX2_letter_31 rfl rfl ?_
  refine tg_get (v := .ref (h 1)) S tw_v2 hK 0 rfl rfl 0 (by decide) (tw_in fl_RX2_10 rfl) dX2_letter_32 rfl ?_
  refine tg_iload_n S 1 dX2_letter_35 rfl rfl ?_
  refine tg_callN (nA := 1) (As := [.int x]) (rest := []) (host := RX2) (q := (RX1, TX1, 9)) S hK hN (k_X1_holds hd σ x) 1 rfl rfl (tw_gW co_X1_holds rfl) (List.mem_of_getElem? (i := 3) rfl) (tw_in in_RX1 rfl) (tw_in im_X1_holds rfl) (tw_in se_X1_holds rfl) rfl (by decide +kernel) ⟨Nat.le_of_ble_eq_true rfl, Nat.le_of_ble_eq_true rfl⟩ rfl rfl (Nat.le_of_ble_eq_true rfl) dX2_letter_36 ⟨Nat.le_of_ble_eq_true rfl, Nat.le_of_ble_eq_true rfl⟩ ?_
  refine tg_ifz (tgt := 52) S dX2_letter_39 (by decide) (fun c_6 => ?_) (fun c_6 => ?_)
  · skip
    refine tg_aload_n S 0 dX2_letter_52 rfl rfl ?_
    refine tg_get (v := .ref (h 1)) S tw_v2 hK 0 rfl rfl 0 (by decide) (tw_in fl_RX2_10 rfl) dX2_letter_53 rfl ?_
    refine tg_iload_n S 1 dX2_letter_56 rfl rfl ?_
    refine tg_iload_n S 2 dX2_letter_57 rfl rfl ?_
    refine tg_iload_n S 3 dX2_letter_58 rfl rfl ?_
    refine tg_iload S 4 dX2_letter_59 rfl ?_
    refine tg_iload S 5 dX2_letter_61 rfl ?_
    refine tg_iload S 6 dX2_letter_63 rfl ?_
    refine tg_callN (nA := 6) (As := [.int x, .int g, .int q, .int sub, .int d, .int w0]) (rest := []) (host := RX2) (q := (RX1, TX1, 9)) S hK hN (k_X1_put hd σ x g q sub d w0) 1 rfl rfl (tw_gW co_X1_put rfl) (List.mem_of_getElem? (i := 4) rfl) (tw_in in_RX1 rfl) (tw_in im_X1_put rfl) (tw_in se_X1_put rfl) rfl (by decide +kernel) ⟨Nat.le_of_ble_eq_true rfl, Nat.le_of_ble_eq_true rfl⟩ rfl rfl (Nat.le_of_ble_eq_true rfl) dX2_letter_65 ⟨Nat.le_of_ble_eq_true rfl, Nat.le_of_ble_eq_true rfl⟩ ?_
    refine tg_aload_n S 0 dX2_letter_68 rfl rfl ?_
    refine tg_get (v := .ref (h 2)) S tw_v2 hK 0 rfl rfl 1 (by decide) (tw_in fl_RX2_21 rfl) dX2_letter_69 rfl ?_
    refine tg_callN (nA := 0) (As := []) (rest := []) (host := RX2) (q := (RX0, TX0, 13)) S hK hN (k_X0_grow hd (fa_put σ x g q sub d w0) ) 2 rfl rfl (tw_gW co_X0_grow rfl) (List.mem_of_getElem? (i := 6) rfl) (tw_in in_RX0 rfl) (tw_in im_X0_grow rfl) (tw_in se_X0_grow rfl) rfl (by decide +kernel) ⟨Nat.le_of_ble_eq_true rfl, Nat.le_of_ble_eq_true rfl⟩ rfl rfl (Nat.le_of_ble_eq_true rfl) dX2_letter_72 ⟨Nat.le_of_ble_eq_true rfl, Nat.le_of_ble_eq_true rfl⟩ ?_
    refine tg_aload_n S 0 dX2_letter_75 rfl rfl ?_
    refine tg_get (v := .ref (h 2)) S tw_v2 hK 0 rfl rfl 1 (by decide) (tw_in fl_RX2_21 rfl) dX2_letter_76 rfl ?_
    refine tg_callN (nA := 0) (As := []) (rest := []) (host := RX2) (q := (RX0, TX0, 13)) S hK hN (k_X0_countRoots hd (fa_grow (fa_put σ x g q sub d w0)) ) 2 rfl rfl (tw_gW co_X0_countRoots rfl) (List.mem_of_getElem? (i := 2) rfl) (tw_in in_RX0 rfl) (tw_in im_X0_countRoots rfl) (tw_in se_X0_countRoots rfl) rfl (by decide +kernel) ⟨Nat.le_of_ble_eq_true rfl, Nat.le_of_ble_eq_true rfl⟩ rfl rfl (Nat.le_of_ble_eq_true rfl) dX2_letter_79 ⟨Nat.le_of_ble_eq_true rfl, Nat.le_of_ble_eq_true rfl⟩ ?_
    refine tx_ends (by simp [tx_orN, tx_orS, fx_put, c_1, c_2, c_3, c_4, c_5, c_6]) ?_
    exact tg_iret S hr hlk dX2_letter_82 (by simp [c_1, c_2, c_3, c_4, c_5, c_6]) rfl
  · skip
    exact tx_throw (is := 42) S hl hX hlk hh (tw_TD hd) (by simp [tx_I, tx_J, tx_O]) (by decide +kernel) tx_lJ tx_nJ tx_aJ tx_bJ tx_oJ (List.mem_of_getElem? (i := 5) rfl) dX2_letter_42 dX2_letter_45 dX2_letter_46 dX2_letter_48 dX2_letter_51 (Nat.le_of_ble_eq_true rfl) (Nat.le_of_ble_eq_true rfl) (Nat.le_of_ble_eq_true rfl) (Nat.le_of_ble_eq_true rfl) (by simp [tx_orN, tx_orS, fx_put, c_1, c_2, c_3, c_4, c_5, c_6])
set_option maxHeartbeats 4000000 in
set_option maxRecDepth 100000 in
theorem k_X2_delete {l : Launch} {D : va_G} {h : Nat → Nat} {cI cZ : ClassId} (hd : tw_dis 23 h) (hl : l.stackTraces = false) (σ : tg_Mem) (x : Int32) : tx_CT l yX2_delete wzX2_delete (tx_rm 8) (tw_T h cI cZ) (tw_ty cI cZ) tw_nl (tw_A 23 h) D [.ref (h 0), .int x] σ (fx_letter σ x) (some (.int (fa_grow (fa_drop σ x) 20 0))) (fa_grow (fa_drop σ x)) := by
  refine tx_met (own := RX2) (cc := cX2_delete) (maxL := 2) (ret := (some .int)) (by decide +kernel) rfl rfl (Nat.le_of_ble_eq_true rfl) ?_
  intro p e s m below meth c S hK hN hX hr hlk hh
  refine tg_sub (L' := [(0, .ref (h 0)), (1, .int x)]) [0, 1] rfl ?_
  refine tg_aload_n S 0 dX2_delete_0 rfl rfl ?_
  refine tg_iload_n S 1 dX2_delete_1 rfl rfl ?_
  refine tx_callV (nA := 1) (As := [.int x]) (rest := []) (q := (RX2, TX2, 2)) S hK hN hX hlk hh (k_X2_requireLetter hd hl σ x) 0 rfl rfl (tw_gV ml_RX2_58 im_X2_requireLetter se_X2_requireLetter in_RX2 co_X2_requireLetter rfl) rfl (by decide +kernel) ⟨Nat.le_of_ble_eq_true rfl, Nat.le_of_ble_eq_true rfl⟩ rfl rfl (Nat.le_of_ble_eq_true rfl) dX2_delete_2 ⟨Nat.le_of_ble_eq_true rfl, Nat.le_of_ble_eq_true rfl⟩ (fun E hE => by simp [tx_orN, tx_orS, hE]) ?_
  intro c_1
  refine tg_aload_n S 0 dX2_delete_5 rfl rfl ?_
  refine tg_get (v := .ref (h 1)) S tw_v2 hK 0 rfl rfl 0 (by decide) (tw_in fl_RX2_10 rfl) dX2_delete_6 rfl ?_
  refine tg_iload_n S 1 dX2_delete_9 rfl rfl ?_
  refine tg_callN (nA := 1) (As := [.int x]) (rest := []) (host := RX2) (q := (RX1, TX1, 9)) S hK hN (k_X1_drop hd σ x) 1 rfl rfl (tw_gW co_X1_drop rfl) (List.mem_of_getElem? (i := 16) rfl) (tw_in in_RX1 rfl) (tw_in im_X1_drop rfl) (tw_in se_X1_drop rfl) rfl (by decide +kernel) ⟨Nat.le_of_ble_eq_true rfl, Nat.le_of_ble_eq_true rfl⟩ rfl rfl (Nat.le_of_ble_eq_true rfl) dX2_delete_10 ⟨Nat.le_of_ble_eq_true rfl, Nat.le_of_ble_eq_true rfl⟩ ?_
  refine tg_aload_n S 0 dX2_delete_13 rfl rfl ?_
  refine tg_get (v := .ref (h 2)) S tw_v2 hK 0 rfl rfl 1 (by decide) (tw_in fl_RX2_21 rfl) dX2_delete_14 rfl ?_
  refine tg_callN (nA := 0) (As := []) (rest := []) (host := RX2) (q := (RX0, TX0, 13)) S hK hN (k_X0_grow hd (fa_drop σ x) ) 2 rfl rfl (tw_gW co_X0_grow rfl) (List.mem_of_getElem? (i := 6) rfl) (tw_in in_RX0 rfl) (tw_in im_X0_grow rfl) (tw_in se_X0_grow rfl) rfl (by decide +kernel) ⟨Nat.le_of_ble_eq_true rfl, Nat.le_of_ble_eq_true rfl⟩ rfl rfl (Nat.le_of_ble_eq_true rfl) dX2_delete_17 ⟨Nat.le_of_ble_eq_true rfl, Nat.le_of_ble_eq_true rfl⟩ ?_
  refine tg_aload_n S 0 dX2_delete_20 rfl rfl ?_
  refine tg_get (v := .ref (h 2)) S tw_v2 hK 0 rfl rfl 1 (by decide) (tw_in fl_RX2_21 rfl) dX2_delete_21 rfl ?_
  refine tg_callN (nA := 0) (As := []) (rest := []) (host := RX2) (q := (RX0, TX0, 13)) S hK hN (k_X0_countRoots hd (fa_grow (fa_drop σ x)) ) 2 rfl rfl (tw_gW co_X0_countRoots rfl) (List.mem_of_getElem? (i := 2) rfl) (tw_in in_RX0 rfl) (tw_in im_X0_countRoots rfl) (tw_in se_X0_countRoots rfl) rfl (by decide +kernel) ⟨Nat.le_of_ble_eq_true rfl, Nat.le_of_ble_eq_true rfl⟩ rfl rfl (Nat.le_of_ble_eq_true rfl) dX2_delete_24 ⟨Nat.le_of_ble_eq_true rfl, Nat.le_of_ble_eq_true rfl⟩ ?_
  refine tx_ends (by simp [tx_orN, tx_orS, c_1]) ?_
  exact tg_iret S hr hlk dX2_delete_27 (by simp [c_1]) rfl
set_option maxHeartbeats 4000000 in
set_option maxRecDepth 100000 in
theorem k_X2_split {l : Launch} {D : va_G} {h : Nat → Nat} {cI cZ : ClassId} (hd : tw_dis 23 h) (hl : l.stackTraces = false) (σ : tg_Mem) (x : Int32) : tx_CT l yX2_split wzX2_split (tx_rm 8) (tw_T h cI cZ) (tw_ty cI cZ) tw_nl (tw_A 23 h) D [.ref (h 0), .int x] σ (fx_letter σ x) (some (.int (fa_par σ x))) (fa_grow (fa_setHand σ x (-2))) := by
  refine tx_met (own := RX2) (cc := cX2_split) (maxL := 3) (ret := (some .int)) (by decide +kernel) rfl rfl (Nat.le_of_ble_eq_true rfl) ?_
  intro p e s m below meth c S hK hN hX hr hlk hh
  refine tg_sub (L' := [(0, .ref (h 0)), (1, .int x)]) [0, 1] rfl ?_
  refine tg_aload_n S 0 dX2_split_0 rfl rfl ?_
  refine tg_iload_n S 1 dX2_split_1 rfl rfl ?_
  refine tx_callV (nA := 1) (As := [.int x]) (rest := []) (q := (RX2, TX2, 2)) S hK hN hX hlk hh (k_X2_requireLetter hd hl σ x) 0 rfl rfl (tw_gV ml_RX2_58 im_X2_requireLetter se_X2_requireLetter in_RX2 co_X2_requireLetter rfl) rfl (by decide +kernel) ⟨Nat.le_of_ble_eq_true rfl, Nat.le_of_ble_eq_true rfl⟩ rfl rfl (Nat.le_of_ble_eq_true rfl) dX2_split_2 ⟨Nat.le_of_ble_eq_true rfl, Nat.le_of_ble_eq_true rfl⟩ (fun E hE => by simp [tx_orN, tx_orS, hE]) ?_
  intro c_1
  refine tg_aload_n S 0 dX2_split_5 rfl rfl ?_
  refine tg_get (v := .ref (h 2)) S tw_v2 hK 0 rfl rfl 1 (by decide) (tw_in fl_RX2_21 rfl) dX2_split_6 rfl ?_
  refine tg_iload_n S 1 dX2_split_9 rfl rfl ?_
  refine tg_callN (nA := 1) (As := [.int x]) (rest := []) (host := RX2) (q := (RX0, TX0, 13)) S hK hN (k_X0_parentIn hd σ x) 2 rfl rfl (tw_gW co_X0_parentIn rfl) (List.mem_of_getElem? (i := 17) rfl) (tw_in in_RX0 rfl) (tw_in im_X0_parentIn rfl) (tw_in se_X0_parentIn rfl) rfl (by decide +kernel) ⟨Nat.le_of_ble_eq_true rfl, Nat.le_of_ble_eq_true rfl⟩ rfl rfl (Nat.le_of_ble_eq_true rfl) dX2_split_10 ⟨Nat.le_of_ble_eq_true rfl, Nat.le_of_ble_eq_true rfl⟩ ?_
  refine tg_istore_n (L' := [(0, .ref (h 0)), (1, .int x), (2, .int (fa_par σ x))]) [1, 2, 0] S dX2_split_13 rfl (by decide) rfl ?_
  refine tg_aload_n S 0 dX2_split_14 rfl rfl ?_
  refine tg_get (v := .ref (h 1)) S tw_v2 hK 0 rfl rfl 0 (by decide) (tw_in fl_RX2_10 rfl) dX2_split_15 rfl ?_
  refine tg_iload_n S 1 dX2_split_18 rfl rfl ?_
  refine tg_bipush (v := -2) S dX2_split_19 (by decide) ?_
  refine tg_callN (nA := 2) (As := [.int x, .int (-2)]) (rest := []) (host := RX2) (q := (RX1, TX1, 9)) S hK hN (k_X1_setHand hd σ x (-2)) 1 rfl rfl (tw_gW co_X1_setHand rfl) (List.mem_of_getElem? (i := 18) rfl) (tw_in in_RX1 rfl) (tw_in im_X1_setHand rfl) (tw_in se_X1_setHand rfl) rfl (by decide +kernel) ⟨Nat.le_of_ble_eq_true rfl, Nat.le_of_ble_eq_true rfl⟩ rfl rfl (Nat.le_of_ble_eq_true rfl) dX2_split_21 ⟨Nat.le_of_ble_eq_true rfl, Nat.le_of_ble_eq_true rfl⟩ ?_
  refine tg_aload_n S 0 dX2_split_24 rfl rfl ?_
  refine tg_get (v := .ref (h 2)) S tw_v2 hK 0 rfl rfl 1 (by decide) (tw_in fl_RX2_21 rfl) dX2_split_25 rfl ?_
  refine tg_callN (nA := 0) (As := []) (rest := []) (host := RX2) (q := (RX0, TX0, 13)) S hK hN (k_X0_grow hd (fa_setHand σ x (-2)) ) 2 rfl rfl (tw_gW co_X0_grow rfl) (List.mem_of_getElem? (i := 6) rfl) (tw_in in_RX0 rfl) (tw_in im_X0_grow rfl) (tw_in se_X0_grow rfl) rfl (by decide +kernel) ⟨Nat.le_of_ble_eq_true rfl, Nat.le_of_ble_eq_true rfl⟩ rfl rfl (Nat.le_of_ble_eq_true rfl) dX2_split_28 ⟨Nat.le_of_ble_eq_true rfl, Nat.le_of_ble_eq_true rfl⟩ ?_
  refine tg_iload_n S 2 dX2_split_31 rfl rfl ?_
  refine tx_ends (by simp [tx_orN, tx_orS, c_1]) ?_
  exact tg_iret S hr hlk dX2_split_32 rfl rfl
set_option maxHeartbeats 4000000 in
set_option maxRecDepth 100000 in
theorem k_X2_join {l : Launch} {D : va_G} {h : Nat → Nat} {cI cZ : ClassId} (hd : tw_dis 23 h) (hl : l.stackTraces = false) (σ : tg_Mem) (x : Int32) (y : Int32) : tx_CT l yX2_join wzX2_join (tx_rm 8) (tw_T h cI cZ) (tw_ty cI cZ) tw_nl (tw_A 23 h) D [.ref (h 0), .int x, .int y] σ (fx_join σ x y) (some (.int (fa_par (fa_grow (fa_setHand σ x y)) x))) (fa_grow (fa_setHand σ x y)) := by
  refine tx_met (own := RX2) (cc := cX2_join) (maxL := 3) (ret := (some .int)) (by decide +kernel) rfl rfl (Nat.le_of_ble_eq_true rfl) ?_
  intro p e s m below meth c S hK hN hX hr hlk hh
  refine tg_sub (L' := [(0, .ref (h 0)), (1, .int x), (2, .int y)]) [0, 1, 2] rfl ?_
  refine tg_iload_n S 1 dX2_join_0 rfl rfl ?_
  refine tx_callS (nA := 1) (As := [.int x]) (rest := []) S hK hN hX hlk hh (k_X2_requireId hd hl σ x) (tw_gS ml_RX2_25 st_X2_requireId in_RX2 co_X2_requireId rfl) rfl (by decide +kernel) ⟨Nat.le_of_ble_eq_true rfl, Nat.le_of_ble_eq_true rfl⟩ rfl rfl (Nat.le_of_ble_eq_true rfl) dX2_join_1 ⟨Nat.le_of_ble_eq_true rfl, Nat.le_of_ble_eq_true rfl⟩ (fun E hE => by simp [tx_orN, tx_orS, fx_join, hE]) ?_
  intro c_1
  refine tg_iload_n S 2 dX2_join_4 rfl rfl ?_
  refine tx_callS (nA := 1) (As := [.int y]) (rest := []) S hK hN hX hlk hh (k_X2_requireId hd hl σ y) (tw_gS ml_RX2_25 st_X2_requireId in_RX2 co_X2_requireId rfl) rfl (by decide +kernel) ⟨Nat.le_of_ble_eq_true rfl, Nat.le_of_ble_eq_true rfl⟩ rfl rfl (Nat.le_of_ble_eq_true rfl) dX2_join_5 ⟨Nat.le_of_ble_eq_true rfl, Nat.le_of_ble_eq_true rfl⟩ (fun E hE => by simp [tx_orN, tx_orS, fx_join, c_1, hE]) ?_
  intro c_2
  refine tg_iload_n S 1 dX2_join_8 rfl rfl ?_
  refine tg_iload_n S 2 dX2_join_9 rfl rfl ?_
  refine tg_icmp_ne (tgt := 23) S dX2_join_10 (by decide) (fun c_3 => ?_) (fun c_3 => ?_)
  · skip
    refine tg_aload_n S 0 dX2_join_23 rfl rfl ?_
    refine tg_iload_n S 1 dX2_join_24 rfl rfl ?_
    refine tx_callV (nA := 1) (As := [.int x]) (rest := []) (q := (RX2, TX2, 2)) S hK hN hX hlk hh (k_X2_requireLetter hd hl σ x) 0 rfl rfl (tw_gV ml_RX2_58 im_X2_requireLetter se_X2_requireLetter in_RX2 co_X2_requireLetter rfl) rfl (by decide +kernel) ⟨Nat.le_of_ble_eq_true rfl, Nat.le_of_ble_eq_true rfl⟩ rfl rfl (Nat.le_of_ble_eq_true rfl) dX2_join_25 ⟨Nat.le_of_ble_eq_true rfl, Nat.le_of_ble_eq_true rfl⟩ (fun E hE => by simp [tx_orN, tx_orS, fx_join, c_1, c_2, c_3, hE]) ?_
    intro c_4
    refine tg_aload_n S 0 dX2_join_28 rfl rfl ?_
    refine tg_iload_n S 2 dX2_join_29 rfl rfl ?_
    refine tx_callV (nA := 1) (As := [.int y]) (rest := []) (q := (RX2, TX2, 2)) S hK hN hX hlk hh (k_X2_requireLetter hd hl σ y) 0 rfl rfl (tw_gV ml_RX2_58 im_X2_requireLetter se_X2_requireLetter in_RX2 co_X2_requireLetter rfl) rfl (by decide +kernel) ⟨Nat.le_of_ble_eq_true rfl, Nat.le_of_ble_eq_true rfl⟩ rfl rfl (Nat.le_of_ble_eq_true rfl) dX2_join_30 ⟨Nat.le_of_ble_eq_true rfl, Nat.le_of_ble_eq_true rfl⟩ (fun E hE => by simp [tx_orN, tx_orS, fx_join, c_1, c_2, c_3, c_4, hE]) ?_
    intro c_5
    refine tg_aload_n S 0 dX2_join_33 rfl rfl ?_
    refine tg_get (v := .ref (h 2)) S tw_v2 hK 0 rfl rfl 1 (by decide) (tw_in fl_RX2_21 rfl) dX2_join_34 rfl ?_
    refine tg_iload_n S 2 dX2_join_37 rfl rfl ?_
    refine tg_iload_n S 1 dX2_join_38 rfl rfl ?_
    refine tg_callN (nA := 2) (As := [.int y, .int x]) (rest := []) (host := RX2) (q := (RX0, TX0, 13)) S hK hN (k_X0_isInTree hd σ y x) 2 rfl rfl (tw_gW co_X0_isInTree rfl) (List.mem_of_getElem? (i := 19) rfl) (tw_in in_RX0 rfl) (tw_in im_X0_isInTree rfl) (tw_in se_X0_isInTree rfl) rfl (by decide +kernel) ⟨Nat.le_of_ble_eq_true rfl, Nat.le_of_ble_eq_true rfl⟩ rfl rfl (Nat.le_of_ble_eq_true rfl) dX2_join_39 ⟨Nat.le_of_ble_eq_true rfl, Nat.le_of_ble_eq_true rfl⟩ ?_
    refine tg_ifz (tgt := 55) S dX2_join_42 (by decide) (fun c_6 => ?_) (fun c_6 => ?_)
    · skip
      refine tg_aload_n S 0 dX2_join_55 rfl rfl ?_
      refine tg_get (v := .ref (h 1)) S tw_v2 hK 0 rfl rfl 0 (by decide) (tw_in fl_RX2_10 rfl) dX2_join_56 rfl ?_
      refine tg_iload_n S 1 dX2_join_59 rfl rfl ?_
      refine tg_iload_n S 2 dX2_join_60 rfl rfl ?_
      refine tg_callN (nA := 2) (As := [.int x, .int y]) (rest := []) (host := RX2) (q := (RX1, TX1, 9)) S hK hN (k_X1_setHand hd σ x y) 1 rfl rfl (tw_gW co_X1_setHand rfl) (List.mem_of_getElem? (i := 18) rfl) (tw_in in_RX1 rfl) (tw_in im_X1_setHand rfl) (tw_in se_X1_setHand rfl) rfl (by decide +kernel) ⟨Nat.le_of_ble_eq_true rfl, Nat.le_of_ble_eq_true rfl⟩ rfl rfl (Nat.le_of_ble_eq_true rfl) dX2_join_61 ⟨Nat.le_of_ble_eq_true rfl, Nat.le_of_ble_eq_true rfl⟩ ?_
      refine tg_aload_n S 0 dX2_join_64 rfl rfl ?_
      refine tg_get (v := .ref (h 2)) S tw_v2 hK 0 rfl rfl 1 (by decide) (tw_in fl_RX2_21 rfl) dX2_join_65 rfl ?_
      refine tg_callN (nA := 0) (As := []) (rest := []) (host := RX2) (q := (RX0, TX0, 13)) S hK hN (k_X0_grow hd (fa_setHand σ x y) ) 2 rfl rfl (tw_gW co_X0_grow rfl) (List.mem_of_getElem? (i := 6) rfl) (tw_in in_RX0 rfl) (tw_in im_X0_grow rfl) (tw_in se_X0_grow rfl) rfl (by decide +kernel) ⟨Nat.le_of_ble_eq_true rfl, Nat.le_of_ble_eq_true rfl⟩ rfl rfl (Nat.le_of_ble_eq_true rfl) dX2_join_68 ⟨Nat.le_of_ble_eq_true rfl, Nat.le_of_ble_eq_true rfl⟩ ?_
      refine tg_aload_n S 0 dX2_join_71 rfl rfl ?_
      refine tg_get (v := .ref (h 2)) S tw_v2 hK 0 rfl rfl 1 (by decide) (tw_in fl_RX2_21 rfl) dX2_join_72 rfl ?_
      refine tg_iload_n S 1 dX2_join_75 rfl rfl ?_
      refine tg_callN (nA := 1) (As := [.int x]) (rest := []) (host := RX2) (q := (RX0, TX0, 13)) S hK hN (k_X0_parentIn hd (fa_grow (fa_setHand σ x y)) x) 2 rfl rfl (tw_gW co_X0_parentIn rfl) (List.mem_of_getElem? (i := 17) rfl) (tw_in in_RX0 rfl) (tw_in im_X0_parentIn rfl) (tw_in se_X0_parentIn rfl) rfl (by decide +kernel) ⟨Nat.le_of_ble_eq_true rfl, Nat.le_of_ble_eq_true rfl⟩ rfl rfl (Nat.le_of_ble_eq_true rfl) dX2_join_76 ⟨Nat.le_of_ble_eq_true rfl, Nat.le_of_ble_eq_true rfl⟩ ?_
      refine tx_ends (by simp [tx_orN, tx_orS, fx_join, c_1, c_2, c_3, c_4, c_5, c_6]) ?_
      exact tg_iret S hr hlk dX2_join_79 rfl rfl
    · skip
      exact tx_throw (is := 80) S hl hX hlk hh (tw_TD hd) (by simp [tx_I, tx_J, tx_O]) (by decide +kernel) tx_lJ tx_nJ tx_aJ tx_bJ tx_oJ (List.mem_of_getElem? (i := 7) rfl) dX2_join_45 dX2_join_48 dX2_join_49 dX2_join_51 dX2_join_54 (Nat.le_of_ble_eq_true rfl) (Nat.le_of_ble_eq_true rfl) (Nat.le_of_ble_eq_true rfl) (Nat.le_of_ble_eq_true rfl) (by simp [tx_orN, tx_orS, fx_join, c_1, c_2, c_3, c_4, c_5, c_6])
  · skip
    exact tx_throw (is := 73) S hl hX hlk hh (tw_TD hd) (by simp [tx_I, tx_J, tx_O]) (by decide +kernel) tx_lI tx_nI tx_aI tx_bI tx_oI (List.mem_of_getElem? (i := 6) rfl) dX2_join_13 dX2_join_16 dX2_join_17 dX2_join_19 dX2_join_22 (Nat.le_of_ble_eq_true rfl) (Nat.le_of_ble_eq_true rfl) (Nat.le_of_ble_eq_true rfl) (Nat.le_of_ble_eq_true rfl) (by simp [tx_orN, tx_orS, fx_join, c_1, c_2, c_3])
set_option maxHeartbeats 4000000 in
set_option maxRecDepth 100000 in
theorem k_X2_release {l : Launch} {D : va_G} {h : Nat → Nat} {cI cZ : ClassId} (hd : tw_dis 23 h) (hl : l.stackTraces = false) (σ : tg_Mem) (x : Int32) : tx_CT l yX2_release wzX2_release (tx_rm 8) (tw_T h cI cZ) (tw_ty cI cZ) tw_nl (tw_A 23 h) D [.ref (h 0), .int x] σ (fx_letter σ x) (some (.int (tg_b (fx_touched σ x)))) (fa_grow (fa_setHand σ x (-1))) := by
  refine tx_met (own := RX2) (cc := cX2_release) (maxL := 3) (ret := (some .boolean)) (by decide +kernel) rfl rfl (Nat.le_of_ble_eq_true rfl) ?_
  intro p e s m below meth c S hK hN hX hr hlk hh
  refine tg_sub (L' := [(0, .ref (h 0)), (1, .int x)]) [0, 1] rfl ?_
  refine tg_aload_n S 0 dX2_release_0 rfl rfl ?_
  refine tg_iload_n S 1 dX2_release_1 rfl rfl ?_
  refine tx_callV (nA := 1) (As := [.int x]) (rest := []) (q := (RX2, TX2, 2)) S hK hN hX hlk hh (k_X2_requireLetter hd hl σ x) 0 rfl rfl (tw_gV ml_RX2_58 im_X2_requireLetter se_X2_requireLetter in_RX2 co_X2_requireLetter rfl) rfl (by decide +kernel) ⟨Nat.le_of_ble_eq_true rfl, Nat.le_of_ble_eq_true rfl⟩ rfl rfl (Nat.le_of_ble_eq_true rfl) dX2_release_2 ⟨Nat.le_of_ble_eq_true rfl, Nat.le_of_ble_eq_true rfl⟩ (fun E hE => by simp [tx_orN, tx_orS, hE]) ?_
  intro c_1
  refine tg_aload_n S 0 dX2_release_5 rfl rfl ?_
  refine tg_get (v := .ref (h 1)) S tw_v2 hK 0 rfl rfl 0 (by decide) (tw_in fl_RX2_10 rfl) dX2_release_6 rfl ?_
  refine tg_iload_n S 1 dX2_release_9 rfl rfl ?_
  refine tg_callN (nA := 1) (As := [.int x]) (rest := []) (host := RX2) (q := (RX1, TX1, 9)) S hK hN (k_X1_handOf hd σ x) 1 rfl rfl (tw_gW co_X1_handOf rfl) (List.mem_of_getElem? (i := 20) rfl) (tw_in in_RX1 rfl) (tw_in im_X1_handOf rfl) (tw_in se_X1_handOf rfl) rfl (by decide +kernel) ⟨Nat.le_of_ble_eq_true rfl, Nat.le_of_ble_eq_true rfl⟩ rfl rfl (Nat.le_of_ble_eq_true rfl) dX2_release_10 ⟨Nat.le_of_ble_eq_true rfl, Nat.le_of_ble_eq_true rfl⟩ ?_
  refine tg_iconst (v := -1) S dX2_release_13 (by decide) ?_
  refine tg_icmp_eq (tgt := 21) S dX2_release_14 (by decide) (fun c_2 => ?_) (fun c_2 => ?_)
  · skip
    refine tg_iconst (v := 0) S dX2_release_21 (by decide) ?_
    refine tg_istore_n (L' := [(0, .ref (h 0)), (1, .int x), (2, .int 0)]) [1, 2, 0] S dX2_release_22 rfl (by decide) rfl ?_
    refine tg_aload_n S 0 dX2_release_23 rfl rfl ?_
    refine tg_get (v := .ref (h 1)) S tw_v2 hK 0 rfl rfl 0 (by decide) (tw_in fl_RX2_10 rfl) dX2_release_24 rfl ?_
    refine tg_iload_n S 1 dX2_release_27 rfl rfl ?_
    refine tg_iconst (v := -1) S dX2_release_28 (by decide) ?_
    refine tg_callN (nA := 2) (As := [.int x, .int (-1)]) (rest := []) (host := RX2) (q := (RX1, TX1, 9)) S hK hN (k_X1_setHand hd σ x (-1)) 1 rfl rfl (tw_gW co_X1_setHand rfl) (List.mem_of_getElem? (i := 18) rfl) (tw_in in_RX1 rfl) (tw_in im_X1_setHand rfl) (tw_in se_X1_setHand rfl) rfl (by decide +kernel) ⟨Nat.le_of_ble_eq_true rfl, Nat.le_of_ble_eq_true rfl⟩ rfl rfl (Nat.le_of_ble_eq_true rfl) dX2_release_29 ⟨Nat.le_of_ble_eq_true rfl, Nat.le_of_ble_eq_true rfl⟩ ?_
    refine tg_aload_n S 0 dX2_release_32 rfl rfl ?_
    refine tg_get (v := .ref (h 2)) S tw_v2 hK 0 rfl rfl 1 (by decide) (tw_in fl_RX2_21 rfl) dX2_release_33 rfl ?_
    refine tg_callN (nA := 0) (As := []) (rest := []) (host := RX2) (q := (RX0, TX0, 13)) S hK hN (k_X0_grow hd (fa_setHand σ x (-1)) ) 2 rfl rfl (tw_gW co_X0_grow rfl) (List.mem_of_getElem? (i := 6) rfl) (tw_in in_RX0 rfl) (tw_in im_X0_grow rfl) (tw_in se_X0_grow rfl) rfl (by decide +kernel) ⟨Nat.le_of_ble_eq_true rfl, Nat.le_of_ble_eq_true rfl⟩ rfl rfl (Nat.le_of_ble_eq_true rfl) dX2_release_36 ⟨Nat.le_of_ble_eq_true rfl, Nat.le_of_ble_eq_true rfl⟩ ?_
    refine tg_iload_n S 2 dX2_release_39 rfl rfl ?_
    refine tx_ends (by simp [tx_orN, tx_orS, c_1, c_2]) ?_
    exact tg_zret (b := false) S hr hlk dX2_release_40 (congrArg tg_b (by simp [fx_touched, c_1, c_2])) rfl
  · skip
    refine tg_iconst (v := 1) S dX2_release_17 (by decide) ?_
    refine tg_goto (tgt := 22) S dX2_release_18 (by decide) ?_
    refine tg_istore_n (L' := [(0, .ref (h 0)), (1, .int x), (2, .int 1)]) [1, 2, 0] S dX2_release_22 rfl (by decide) rfl ?_
    refine tg_aload_n S 0 dX2_release_23 rfl rfl ?_
    refine tg_get (v := .ref (h 1)) S tw_v2 hK 0 rfl rfl 0 (by decide) (tw_in fl_RX2_10 rfl) dX2_release_24 rfl ?_
    refine tg_iload_n S 1 dX2_release_27 rfl rfl ?_
    refine tg_iconst (v := -1) S dX2_release_28 (by decide) ?_
    refine tg_callN (nA := 2) (As := [.int x, .int (-1)]) (rest := []) (host := RX2) (q := (RX1, TX1, 9)) S hK hN (k_X1_setHand hd σ x (-1)) 1 rfl rfl (tw_gW co_X1_setHand rfl) (List.mem_of_getElem? (i := 18) rfl) (tw_in in_RX1 rfl) (tw_in im_X1_setHand rfl) (tw_in se_X1_setHand rfl) rfl (by decide +kernel) ⟨Nat.le_of_ble_eq_true rfl, Nat.le_of_ble_eq_true rfl⟩ rfl rfl (Nat.le_of_ble_eq_true rfl) dX2_release_29 ⟨Nat.le_of_ble_eq_true rfl, Nat.le_of_ble_eq_true rfl⟩ ?_
    refine tg_aload_n S 0 dX2_release_32 rfl rfl ?_
    refine tg_get (v := .ref (h 2)) S tw_v2 hK 0 rfl rfl 1 (by decide) (tw_in fl_RX2_21 rfl) dX2_release_33 rfl ?_
    refine tg_callN (nA := 0) (As := []) (rest := []) (host := RX2) (q := (RX0, TX0, 13)) S hK hN (k_X0_grow hd (fa_setHand σ x (-1)) ) 2 rfl rfl (tw_gW co_X0_grow rfl) (List.mem_of_getElem? (i := 6) rfl) (tw_in in_RX0 rfl) (tw_in im_X0_grow rfl) (tw_in se_X0_grow rfl) rfl (by decide +kernel) ⟨Nat.le_of_ble_eq_true rfl, Nat.le_of_ble_eq_true rfl⟩ rfl rfl (Nat.le_of_ble_eq_true rfl) dX2_release_36 ⟨Nat.le_of_ble_eq_true rfl, Nat.le_of_ble_eq_true rfl⟩ ?_
    refine tg_iload_n S 2 dX2_release_39 rfl rfl ?_
    refine tx_ends (by simp [tx_orN, tx_orS, c_1, c_2]) ?_
    exact tg_zret (b := true) S hr hlk dX2_release_40 (congrArg tg_b (by simp [fx_touched, c_1, c_2])) rfl
set_option maxHeartbeats 4000000 in
set_option maxRecDepth 100000 in
theorem k_X2_state {l : Launch} {D : va_G} {h : Nat → Nat} {cI cZ : ClassId} (hd : tw_dis 23 h) (hl : l.stackTraces = false) (σ : tg_Mem) (x : Int32) : tx_CT l yX2_state wzX2_state (tx_rm 7) (tw_T h cI cZ) (tw_ty cI cZ) tw_nl (tw_A 23 h) D [.ref (h 0), .int x] σ (fx_id x) (some (.int (fx_state σ x))) σ := by
  refine tx_met (own := RX2) (cc := cX2_state) (maxL := 2) (ret := (some .int)) (by decide +kernel) rfl rfl (Nat.le_of_ble_eq_true rfl) ?_
  intro p e s m below meth c S hK hN hX hr hlk hh
  refine tg_sub (L' := [(0, .ref (h 0)), (1, .int x)]) [0, 1] rfl ?_
  refine tg_iload_n S 1 dX2_state_0 rfl rfl ?_
  refine tx_callS (nA := 1) (As := [.int x]) (rest := []) S hK hN hX hlk hh (k_X2_requireId hd hl σ x) (tw_gS ml_RX2_25 st_X2_requireId in_RX2 co_X2_requireId rfl) rfl (by decide +kernel) ⟨Nat.le_of_ble_eq_true rfl, Nat.le_of_ble_eq_true rfl⟩ rfl rfl (Nat.le_of_ble_eq_true rfl) dX2_state_1 ⟨Nat.le_of_ble_eq_true rfl, Nat.le_of_ble_eq_true rfl⟩ (fun E hE => by simp [tx_orN, tx_orS, hE]) ?_
  intro c_1
  refine tg_aload_n S 0 dX2_state_4 rfl rfl ?_
  refine tg_get (v := .ref (h 1)) S tw_v2 hK 0 rfl rfl 0 (by decide) (tw_in fl_RX2_10 rfl) dX2_state_5 rfl ?_
  refine tg_iload_n S 1 dX2_state_8 rfl rfl ?_
  refine tg_callN (nA := 1) (As := [.int x]) (rest := []) (host := RX2) (q := (RX1, TX1, 9)) S hK hN (k_X1_holds hd σ x) 1 rfl rfl (tw_gW co_X1_holds rfl) (List.mem_of_getElem? (i := 3) rfl) (tw_in in_RX1 rfl) (tw_in im_X1_holds rfl) (tw_in se_X1_holds rfl) rfl (by decide +kernel) ⟨Nat.le_of_ble_eq_true rfl, Nat.le_of_ble_eq_true rfl⟩ rfl rfl (Nat.le_of_ble_eq_true rfl) dX2_state_9 ⟨Nat.le_of_ble_eq_true rfl, Nat.le_of_ble_eq_true rfl⟩ ?_
  refine tg_ifz (tgt := 17) S dX2_state_12 (by decide) (fun c_2 => ?_) (fun c_2 => ?_)
  · skip
    refine tg_aload_n S 0 dX2_state_17 rfl rfl ?_
    refine tg_get (v := .ref (h 2)) S tw_v2 hK 0 rfl rfl 1 (by decide) (tw_in fl_RX2_21 rfl) dX2_state_18 rfl ?_
    refine tg_iload_n S 1 dX2_state_21 rfl rfl ?_
    refine tg_callN (nA := 1) (As := [.int x]) (rest := []) (host := RX2) (q := (RX0, TX0, 13)) S hK hN (k_X0_contains hd σ x) 2 rfl rfl (tw_gW co_X0_contains rfl) (List.mem_of_getElem? (i := 21) rfl) (tw_in in_RX0 rfl) (tw_in im_X0_contains rfl) (tw_in se_X0_contains rfl) rfl (by decide +kernel) ⟨Nat.le_of_ble_eq_true rfl, Nat.le_of_ble_eq_true rfl⟩ rfl rfl (Nat.le_of_ble_eq_true rfl) dX2_state_22 ⟨Nat.le_of_ble_eq_true rfl, Nat.le_of_ble_eq_true rfl⟩ ?_
    refine tg_ifz (tgt := 30) S dX2_state_25 (by decide) (fun c_3 => ?_) (fun c_3 => ?_)
    · skip
      refine tg_aload_n S 0 dX2_state_30 rfl rfl ?_
      refine tg_get (v := .ref (h 2)) S tw_v2 hK 0 rfl rfl 1 (by decide) (tw_in fl_RX2_21 rfl) dX2_state_31 rfl ?_
      refine tg_iload_n S 1 dX2_state_34 rfl rfl ?_
      refine tg_callN (nA := 1) (As := [.int x]) (rest := []) (host := RX2) (q := (RX0, TX0, 13)) S hK hN (k_X0_knows hd σ x) 2 rfl rfl (tw_gW co_X0_knows rfl) (List.mem_of_getElem? (i := 23) rfl) (tw_in in_RX0 rfl) (tw_in im_X0_knows rfl) (tw_in se_X0_knows rfl) rfl (by decide +kernel) ⟨Nat.le_of_ble_eq_true rfl, Nat.le_of_ble_eq_true rfl⟩ rfl rfl (Nat.le_of_ble_eq_true rfl) dX2_state_35 ⟨Nat.le_of_ble_eq_true rfl, Nat.le_of_ble_eq_true rfl⟩ ?_
      refine tg_ifz (tgt := 45) S dX2_state_38 (by decide) (fun c_4 => ?_) (fun c_4 => ?_)
      · skip
        refine tg_iconst (v := 0) S dX2_state_45 (by decide) ?_
        refine tx_ends (by simp [tx_orN, tx_orS, c_1, c_2, c_3, c_4]) ?_
        exact tg_iret S hr hlk dX2_state_46 (by simp [fx_state, c_1, c_2, c_3, c_4]) rfl
      · skip
        refine tg_iconst (v := 1) S dX2_state_41 (by decide) ?_
        refine tg_goto (tgt := 46) S dX2_state_42 (by decide) ?_
        refine tx_ends (by simp [tx_orN, tx_orS, c_1, c_2, c_3, c_4]) ?_
        exact tg_iret S hr hlk dX2_state_46 (by simp [fx_state, c_1, c_2, c_3, c_4]) rfl
    · skip
      refine tg_iconst (v := 2) S dX2_state_28 (by decide) ?_
      refine tx_ends (by simp [tx_orN, tx_orS, c_1, c_2, c_3]) ?_
      exact tg_iret S hr hlk dX2_state_29 (by simp [fx_state, c_1, c_2, c_3]) rfl
  · skip
    refine tg_iconst (v := 3) S dX2_state_15 (by decide) ?_
    refine tx_ends (by simp [tx_orN, tx_orS, c_1, c_2]) ?_
    exact tg_iret S hr hlk dX2_state_16 (by simp [fx_state, c_1, c_2]) rfl
set_option maxHeartbeats 4000000 in
set_option maxRecDepth 100000 in
theorem k_X2_parent {l : Launch} {D : va_G} {h : Nat → Nat} {cI cZ : ClassId} (hd : tw_dis 23 h) (hl : l.stackTraces = false) (σ : tg_Mem) (x : Int32) : tx_CT l yX2_parent wzX2_parent (tx_rm 8) (tw_T h cI cZ) (tw_ty cI cZ) tw_nl (tw_A 23 h) D [.ref (h 0), .int x] σ (fx_forest σ x) (some (.int (fa_par σ x))) σ := by
  refine tx_met (own := RX2) (cc := cX2_parent) (maxL := 2) (ret := (some .int)) (by decide +kernel) rfl rfl (Nat.le_of_ble_eq_true rfl) ?_
  intro p e s m below meth c S hK hN hX hr hlk hh
  refine tg_sub (L' := [(0, .ref (h 0)), (1, .int x)]) [0, 1] rfl ?_
  refine tg_aload_n S 0 dX2_parent_0 rfl rfl ?_
  refine tg_iload_n S 1 dX2_parent_1 rfl rfl ?_
  refine tx_callV (nA := 1) (As := [.int x]) (rest := []) (q := (RX2, TX2, 2)) S hK hN hX hlk hh (k_X2_requireInForest hd hl σ x) 0 rfl rfl (tw_gV ml_RX2_85 im_X2_requireInForest se_X2_requireInForest in_RX2 co_X2_requireInForest rfl) rfl (by decide +kernel) ⟨Nat.le_of_ble_eq_true rfl, Nat.le_of_ble_eq_true rfl⟩ rfl rfl (Nat.le_of_ble_eq_true rfl) dX2_parent_2 ⟨Nat.le_of_ble_eq_true rfl, Nat.le_of_ble_eq_true rfl⟩ (fun E hE => by simp [tx_orN, tx_orS, hE]) ?_
  intro c_1
  refine tg_aload_n S 0 dX2_parent_5 rfl rfl ?_
  refine tg_get (v := .ref (h 2)) S tw_v2 hK 0 rfl rfl 1 (by decide) (tw_in fl_RX2_21 rfl) dX2_parent_6 rfl ?_
  refine tg_iload_n S 1 dX2_parent_9 rfl rfl ?_
  refine tg_callN (nA := 1) (As := [.int x]) (rest := []) (host := RX2) (q := (RX0, TX0, 13)) S hK hN (k_X0_parentIn hd σ x) 2 rfl rfl (tw_gW co_X0_parentIn rfl) (List.mem_of_getElem? (i := 17) rfl) (tw_in in_RX0 rfl) (tw_in im_X0_parentIn rfl) (tw_in se_X0_parentIn rfl) rfl (by decide +kernel) ⟨Nat.le_of_ble_eq_true rfl, Nat.le_of_ble_eq_true rfl⟩ rfl rfl (Nat.le_of_ble_eq_true rfl) dX2_parent_10 ⟨Nat.le_of_ble_eq_true rfl, Nat.le_of_ble_eq_true rfl⟩ ?_
  refine tx_ends (by simp [tx_orN, tx_orS, c_1]) ?_
  exact tg_iret S hr hlk dX2_parent_13 rfl rfl
set_option maxHeartbeats 4000000 in
set_option maxRecDepth 100000 in
theorem k_X2_roots {l : Launch} {D : va_G} {h : Nat → Nat} {cI cZ : ClassId} (hd : tw_dis 23 h) (σ : tg_Mem)  : tg_CT l yX2_roots wzX2_roots (tg_rm 1) (tw_T h cI cZ) (tw_ty cI cZ) tw_nl (tw_A 23 h) D [.ref (h 0)] σ (some (.int (σ 20 0))) σ := by
  refine tg_met (own := RX2) (cc := cX2_roots) (maxL := 1) (ret := (some .int)) (by decide +kernel) rfl rfl (Nat.le_of_ble_eq_true rfl) ?_
  intro p e s m below meth c S hK hN hr hlk
  refine tg_sub (L' := [(0, .ref (h 0))]) [0] rfl ?_
  refine tg_aload_n S 0 dX2_roots_0 rfl rfl ?_
  refine tg_get (v := .ref (h 2)) S tw_v2 hK 0 rfl rfl 1 (by decide) (tw_in fl_RX2_21 rfl) dX2_roots_1 rfl ?_
  refine tg_callN (nA := 0) (As := []) (rest := []) (host := RX2) (q := (RX0, TX0, 13)) S hK hN (k_X0_countRoots hd σ ) 2 rfl rfl (tw_gW co_X0_countRoots rfl) (List.mem_of_getElem? (i := 2) rfl) (tw_in in_RX0 rfl) (tw_in im_X0_countRoots rfl) (tw_in se_X0_countRoots rfl) rfl (by decide +kernel) ⟨Nat.le_of_ble_eq_true rfl, Nat.le_of_ble_eq_true rfl⟩ rfl rfl (Nat.le_of_ble_eq_true rfl) dX2_roots_4 ⟨Nat.le_of_ble_eq_true rfl, Nat.le_of_ble_eq_true rfl⟩ ?_
  exact tg_iret S hr hlk dX2_roots_7 rfl rfl
set_option maxHeartbeats 4000000 in
set_option maxRecDepth 100000 in
theorem k_X2_root {l : Launch} {D : va_G} {h : Nat → Nat} {cI cZ : ClassId} (hd : tw_dis 23 h) (hl : l.stackTraces = false) (σ : tg_Mem) (x : Int32) : tx_CT l yX2_root wzX2_root (tx_rm 6) (tw_T h cI cZ) (tw_ty cI cZ) tw_nl (tw_A 23 h) D [.ref (h 0), .int x] σ (fx_root σ x) (some (.int (fa_rootAt σ x))) σ := by
  refine tx_met (own := RX2) (cc := cX2_root) (maxL := 3) (ret := (some .int)) (by decide +kernel) rfl rfl (Nat.le_of_ble_eq_true rfl) ?_
  intro p e s m below meth c S hK hN hX hr hlk hh
  refine tg_sub (L' := [(0, .ref (h 0)), (1, .int x)]) [0, 1] rfl ?_
  refine tg_aload_n S 0 dX2_root_0 rfl rfl ?_
  refine tg_get (v := .ref (h 2)) S tw_v2 hK 0 rfl rfl 1 (by decide) (tw_in fl_RX2_21 rfl) dX2_root_1 rfl ?_
  refine tg_iload_n S 1 dX2_root_4 rfl rfl ?_
  refine tg_callN (nA := 1) (As := [.int x]) (rest := []) (host := RX2) (q := (RX0, TX0, 13)) S hK hN (k_X0_rootIdAt hd σ x) 2 rfl rfl (tw_gW co_X0_rootIdAt rfl) (List.mem_of_getElem? (i := 24) rfl) (tw_in in_RX0 rfl) (tw_in im_X0_rootIdAt rfl) (tw_in se_X0_rootIdAt rfl) rfl (by decide +kernel) ⟨Nat.le_of_ble_eq_true rfl, Nat.le_of_ble_eq_true rfl⟩ rfl rfl (Nat.le_of_ble_eq_true rfl) dX2_root_5 ⟨Nat.le_of_ble_eq_true rfl, Nat.le_of_ble_eq_true rfl⟩ ?_
  refine tg_istore_n (L' := [(0, .ref (h 0)), (1, .int x), (2, .int (fa_rootAt σ x))]) [1, 2, 0] S dX2_root_8 rfl (by decide) rfl ?_
  refine tg_iload_n S 2 dX2_root_9 rfl rfl ?_
  refine tg_iconst (v := -1) S dX2_root_10 (by decide) ?_
  refine tg_icmp_ne (tgt := 24) S dX2_root_11 (by decide) (fun c_1 => ?_) (fun c_1 => ?_)
  · skip
    refine tg_iload_n S 2 dX2_root_24 rfl rfl ?_
    refine tx_ends (by simp [tx_orN, tx_orS, fx_root, c_1]) ?_
    exact tg_iret S hr hlk dX2_root_25 rfl rfl
  · skip
    exact tx_throw (is := 109) S hl hX hlk hh (tw_TD hd) (by simp [tx_I, tx_J, tx_O]) (by decide +kernel) tx_lO tx_nO tx_aO tx_bO tx_oO (List.mem_of_getElem? (i := 8) rfl) dX2_root_14 dX2_root_17 dX2_root_18 dX2_root_20 dX2_root_23 (Nat.le_of_ble_eq_true rfl) (Nat.le_of_ble_eq_true rfl) (Nat.le_of_ble_eq_true rfl) (Nat.le_of_ble_eq_true rfl) (by simp [tx_orN, tx_orS, fx_root, c_1])
set_option maxHeartbeats 4000000 in
set_option maxRecDepth 100000 in
theorem k_X2_inTree {l : Launch} {D : va_G} {h : Nat → Nat} {cI cZ : ClassId} (hd : tw_dis 23 h) (hl : l.stackTraces = false) (σ : tg_Mem) (x : Int32) (y : Int32) : tx_CT l yX2_inTree wzX2_inTree (tx_rm 8) (tw_T h cI cZ) (tw_ty cI cZ) tw_nl (tw_A 23 h) D [.ref (h 0), .int x, .int y] σ (fx_inTree σ x y) (some (.int (fa_idAt σ x y))) σ := by
  refine tx_met (own := RX2) (cc := cX2_inTree) (maxL := 4) (ret := (some .int)) (by decide +kernel) rfl rfl (Nat.le_of_ble_eq_true rfl) ?_
  intro p e s m below meth c S hK hN hX hr hlk hh
  refine tg_sub (L' := [(0, .ref (h 0)), (1, .int x), (2, .int y)]) [0, 1, 2] rfl ?_
  refine tg_aload_n S 0 dX2_inTree_0 rfl rfl ?_
  refine tg_iload_n S 1 dX2_inTree_1 rfl rfl ?_
  refine tx_callV (nA := 1) (As := [.int x]) (rest := []) (q := (RX2, TX2, 2)) S hK hN hX hlk hh (k_X2_requireInForest hd hl σ x) 0 rfl rfl (tw_gV ml_RX2_85 im_X2_requireInForest se_X2_requireInForest in_RX2 co_X2_requireInForest rfl) rfl (by decide +kernel) ⟨Nat.le_of_ble_eq_true rfl, Nat.le_of_ble_eq_true rfl⟩ rfl rfl (Nat.le_of_ble_eq_true rfl) dX2_inTree_2 ⟨Nat.le_of_ble_eq_true rfl, Nat.le_of_ble_eq_true rfl⟩ (fun E hE => by simp [tx_orN, tx_orS, fx_inTree, hE]) ?_
  intro c_1
  refine tg_aload_n S 0 dX2_inTree_5 rfl rfl ?_
  refine tg_get (v := .ref (h 2)) S tw_v2 hK 0 rfl rfl 1 (by decide) (tw_in fl_RX2_21 rfl) dX2_inTree_6 rfl ?_
  refine tg_iload_n S 1 dX2_inTree_9 rfl rfl ?_
  refine tg_iload_n S 2 dX2_inTree_10 rfl rfl ?_
  refine tg_callN (nA := 2) (As := [.int x, .int y]) (rest := []) (host := RX2) (q := (RX0, TX0, 13)) S hK hN (k_X0_idAt hd σ x y) 2 rfl rfl (tw_gW co_X0_idAt rfl) (List.mem_of_getElem? (i := 22) rfl) (tw_in in_RX0 rfl) (tw_in im_X0_idAt rfl) (tw_in se_X0_idAt rfl) rfl (by decide +kernel) ⟨Nat.le_of_ble_eq_true rfl, Nat.le_of_ble_eq_true rfl⟩ rfl rfl (Nat.le_of_ble_eq_true rfl) dX2_inTree_11 ⟨Nat.le_of_ble_eq_true rfl, Nat.le_of_ble_eq_true rfl⟩ ?_
  refine tg_istore_n (L' := [(0, .ref (h 0)), (1, .int x), (2, .int y), (3, .int (fa_idAt σ x y))]) [1, 2, 3, 0] S dX2_inTree_14 rfl (by decide) rfl ?_
  refine tg_iload_n S 3 dX2_inTree_15 rfl rfl ?_
  refine tg_iconst (v := -1) S dX2_inTree_16 (by decide) ?_
  refine tg_icmp_ne (tgt := 30) S dX2_inTree_17 (by decide) (fun c_2 => ?_) (fun c_2 => ?_)
  · skip
    refine tg_iload_n S 3 dX2_inTree_30 rfl rfl ?_
    refine tx_ends (by simp [tx_orN, tx_orS, fx_inTree, c_1, c_2]) ?_
    exact tg_iret S hr hlk dX2_inTree_31 rfl rfl
  · skip
    exact tx_throw (is := 112) S hl hX hlk hh (tw_TD hd) (by simp [tx_I, tx_J, tx_O]) (by decide +kernel) tx_lO tx_nO tx_aO tx_bO tx_oO (List.mem_of_getElem? (i := 9) rfl) dX2_inTree_20 dX2_inTree_23 dX2_inTree_24 dX2_inTree_26 dX2_inTree_29 (Nat.le_of_ble_eq_true rfl) (Nat.le_of_ble_eq_true rfl) (Nat.le_of_ble_eq_true rfl) (Nat.le_of_ble_eq_true rfl) (by simp [tx_orN, tx_orS, fx_inTree, c_1, c_2])
set_option maxHeartbeats 4000000 in
set_option maxRecDepth 100000 in
theorem k_X2_letters {l : Launch} {D : va_G} {h : Nat → Nat} {cI cZ : ClassId} (hd : tw_dis 23 h) (hl : l.stackTraces = false) (σ : tg_Mem) (x : Int32) : tx_CT l yX2_letters wzX2_letters (tx_rm 8) (tw_T h cI cZ) (tw_ty cI cZ) tw_nl (tw_A 23 h) D [.ref (h 0), .int x] σ (fx_forest σ x) (some (.int (fx_letters σ x))) σ := by
  refine tx_met (own := RX2) (cc := cX2_letters) (maxL := 4) (ret := (some .int)) (by decide +kernel) rfl rfl (Nat.le_of_ble_eq_true rfl) ?_
  intro p e s m below meth c S hK hN hX hr hlk hh
  refine tg_sub (L' := [(0, .ref (h 0)), (1, .int x)]) [0, 1] rfl ?_
  refine tg_aload_n S 0 dX2_letters_0 rfl rfl ?_
  refine tg_iload_n S 1 dX2_letters_1 rfl rfl ?_
  refine tx_callV (nA := 1) (As := [.int x]) (rest := []) (q := (RX2, TX2, 2)) S hK hN hX hlk hh (k_X2_requireInForest hd hl σ x) 0 rfl rfl (tw_gV ml_RX2_85 im_X2_requireInForest se_X2_requireInForest in_RX2 co_X2_requireInForest rfl) rfl (by decide +kernel) ⟨Nat.le_of_ble_eq_true rfl, Nat.le_of_ble_eq_true rfl⟩ rfl rfl (Nat.le_of_ble_eq_true rfl) dX2_letters_2 ⟨Nat.le_of_ble_eq_true rfl, Nat.le_of_ble_eq_true rfl⟩ (fun E hE => by simp [tx_orN, tx_orS, hE]) ?_
  intro c_1
  refine tg_iconst (v := 0) S dX2_letters_5 (by decide) ?_
  refine tg_istore_n (L' := [(0, .ref (h 0)), (1, .int x), (2, .int 0)]) [1, 2, 0] S dX2_letters_6 rfl (by decide) rfl ?_
  refine tg_iconst (v := nI 0) S dX2_letters_7 (by decide) ?_
  refine tg_istore_n (L' := [(0, .ref (h 0)), (1, .int x), (2, .int 0), (3, .int (nI 0))]) [1, 2, 3, 0] S dX2_letters_8 rfl (by decide) rfl ?_
  refine tg_loop (X := Int32) (fx_lettersS σ x) 30 0 (fun b => σ) (fun i b => [(0, .ref (h 0)), (1, .int x), (2, .int b), (3, .int (nI i))]) ?_ ?_
  · skip
    intro i b hi_i hk_i
    refine tg_iload_n S 3 dX2_letters_9 rfl rfl ?_
    refine tg_bipush (v := 30) S dX2_letters_10 (by decide) ?_
    refine tg_icmp_ge (tgt := 43) S dX2_letters_12 (by decide) (fun c => absurd c (tg_nge hi_i)) (fun _ => ?_)
    refine tg_aload_n S 0 dX2_letters_15 rfl rfl ?_
    refine tg_get (v := .ref (h 1)) S tw_v2 hK 0 rfl rfl 0 (by decide) (tw_in fl_RX2_10 rfl) dX2_letters_16 rfl ?_
    refine tg_aload_n S 0 dX2_letters_19 rfl rfl ?_
    refine tg_get (v := .ref (h 2)) S tw_v2 hK 0 rfl rfl 1 (by decide) (tw_in fl_RX2_21 rfl) dX2_letters_20 rfl ?_
    refine tg_iload_n S 1 dX2_letters_23 rfl rfl ?_
    refine tg_iload_n S 3 dX2_letters_24 rfl rfl ?_
    refine tg_callN (nA := 2) (As := [.int x, .int (nI i)]) (rest := [.ref (h 1)]) (host := RX2) (q := (RX0, TX0, 13)) S hK hN (k_X0_idAt hd σ x (nI i)) 2 rfl rfl (tw_gW co_X0_idAt rfl) (List.mem_of_getElem? (i := 22) rfl) (tw_in in_RX0 rfl) (tw_in im_X0_idAt rfl) (tw_in se_X0_idAt rfl) rfl (by decide +kernel) ⟨Nat.le_of_ble_eq_true rfl, Nat.le_of_ble_eq_true rfl⟩ rfl rfl (Nat.le_of_ble_eq_true rfl) dX2_letters_25 ⟨Nat.le_of_ble_eq_true rfl, Nat.le_of_ble_eq_true rfl⟩ ?_
    refine tg_callN (nA := 1) (As := [.int (fa_idAt σ x (nI i))]) (rest := []) (host := RX2) (q := (RX1, TX1, 9)) S hK hN (k_X1_holds hd σ (fa_idAt σ x (nI i))) 1 rfl rfl (tw_gW co_X1_holds rfl) (List.mem_of_getElem? (i := 3) rfl) (tw_in in_RX1 rfl) (tw_in im_X1_holds rfl) (tw_in se_X1_holds rfl) rfl (by decide +kernel) ⟨Nat.le_of_ble_eq_true rfl, Nat.le_of_ble_eq_true rfl⟩ rfl rfl (Nat.le_of_ble_eq_true rfl) dX2_letters_28 ⟨Nat.le_of_ble_eq_true rfl, Nat.le_of_ble_eq_true rfl⟩ ?_
    refine tg_ifz (tgt := 37) S dX2_letters_31 (by decide) (fun c_2 => ?_) (fun c_2 => ?_)
    · skip
      refine tg_iinc (v := nI (i + 1)) (L' := [(0, .ref (h 0)), (1, .int x), (2, .int b), (3, .int (nI (i + 1)))]) [1, 2, 3, 0] S 3 dX2_letters_37 rfl (tg_inc _) (by decide) rfl ?_
      refine tg_goto (tgt := 9) S dX2_letters_40 (by decide) ?_
      have e_1 : fx_lettersS σ x i b = b := (by first | (simp [fx_lettersS, c_1, c_2]; done) | (simp only [fx_lettersS, if_neg (ne_true_of_eq_false c_2)]; done))
      rw [e_1] at hk_i
      exact hk_i
    · skip
      refine tg_iinc (v := b + 1) (L' := [(0, .ref (h 0)), (1, .int x), (2, .int (b + 1)), (3, .int (nI i))]) [1, 2, 0, 3] S 2 dX2_letters_34 rfl rfl (by decide) rfl ?_
      refine tg_iinc (v := nI (i + 1)) (L' := [(0, .ref (h 0)), (1, .int x), (2, .int (b + 1)), (3, .int (nI (i + 1)))]) [1, 2, 3, 0] S 3 dX2_letters_37 rfl (tg_inc _) (by decide) rfl ?_
      refine tg_goto (tgt := 9) S dX2_letters_40 (by decide) ?_
      have e_2 : fx_lettersS σ x i b = b + 1 := (by first | (simp [fx_lettersS, c_1, c_2]; done) | (simp only [fx_lettersS, if_pos c_2]; done))
      rw [e_2] at hk_i
      exact hk_i
  · skip
    refine tg_iload_n S 3 dX2_letters_9 rfl rfl ?_
    refine tg_bipush (v := 30) S dX2_letters_10 (by decide) ?_
    refine tg_icmp_ge (tgt := 43) S dX2_letters_12 (by decide) (fun _ => ?_) (fun c => absurd tg_ge c)
    refine tg_iload_n S 2 dX2_letters_43 rfl rfl ?_
    refine tx_ends (by simp [tx_orN, tx_orS, c_1]) ?_
    exact tg_iret S hr hlk dX2_letters_44 (by simp [fx_letters, c_1]) rfl
set_option maxHeartbeats 4000000 in
set_option maxRecDepth 100000 in
theorem k_X2_people {l : Launch} {D : va_G} {h : Nat → Nat} {cI cZ : ClassId} (hd : tw_dis 23 h) (hl : l.stackTraces = false) (σ : tg_Mem) (x : Int32) : tx_CT l yX2_people wzX2_people (tx_rm 8) (tw_T h cI cZ) (tw_ty cI cZ) tw_nl (tw_A 23 h) D [.ref (h 0), .int x] σ (fx_forest σ x) (some (.int (fx_people σ x))) σ := by
  refine tx_met (own := RX2) (cc := cX2_people) (maxL := 4) (ret := (some .int)) (by decide +kernel) rfl rfl (Nat.le_of_ble_eq_true rfl) ?_
  intro p e s m below meth c S hK hN hX hr hlk hh
  refine tg_sub (L' := [(0, .ref (h 0)), (1, .int x)]) [0, 1] rfl ?_
  refine tg_aload_n S 0 dX2_people_0 rfl rfl ?_
  refine tg_iload_n S 1 dX2_people_1 rfl rfl ?_
  refine tx_callV (nA := 1) (As := [.int x]) (rest := []) (q := (RX2, TX2, 2)) S hK hN hX hlk hh (k_X2_requireInForest hd hl σ x) 0 rfl rfl (tw_gV ml_RX2_85 im_X2_requireInForest se_X2_requireInForest in_RX2 co_X2_requireInForest rfl) rfl (by decide +kernel) ⟨Nat.le_of_ble_eq_true rfl, Nat.le_of_ble_eq_true rfl⟩ rfl rfl (Nat.le_of_ble_eq_true rfl) dX2_people_2 ⟨Nat.le_of_ble_eq_true rfl, Nat.le_of_ble_eq_true rfl⟩ (fun E hE => by simp [tx_orN, tx_orS, hE]) ?_
  intro c_1
  refine tg_iconst (v := 0) S dX2_people_5 (by decide) ?_
  refine tg_istore_n (L' := [(0, .ref (h 0)), (1, .int x), (2, .int 0)]) [1, 2, 0] S dX2_people_6 rfl (by decide) rfl ?_
  refine tg_iconst (v := nI 0) S dX2_people_7 (by decide) ?_
  refine tg_istore_n (L' := [(0, .ref (h 0)), (1, .int x), (2, .int 0), (3, .int (nI 0))]) [1, 2, 3, 0] S dX2_people_8 rfl (by decide) rfl ?_
  refine tg_loop (X := Int32) (fx_peopleS σ x) 30 0 (fun b => σ) (fun i b => [(0, .ref (h 0)), (1, .int x), (2, .int b), (3, .int (nI i))]) ?_ ?_
  · skip
    intro i b hi_i hk_i
    refine tg_iload_n S 3 dX2_people_9 rfl rfl ?_
    refine tg_bipush (v := 30) S dX2_people_10 (by decide) ?_
    refine tg_icmp_ge (tgt := 40) S dX2_people_12 (by decide) (fun c => absurd c (tg_nge hi_i)) (fun _ => ?_)
    refine tg_iload_n S 2 dX2_people_15 rfl rfl ?_
    refine tg_aload_n S 0 dX2_people_16 rfl rfl ?_
    refine tg_get (v := .ref (h 1)) S tw_v2 hK 0 rfl rfl 0 (by decide) (tw_in fl_RX2_10 rfl) dX2_people_17 rfl ?_
    refine tg_aload_n S 0 dX2_people_20 rfl rfl ?_
    refine tg_get (v := .ref (h 2)) S tw_v2 hK 0 rfl rfl 1 (by decide) (tw_in fl_RX2_21 rfl) dX2_people_21 rfl ?_
    refine tg_iload_n S 1 dX2_people_24 rfl rfl ?_
    refine tg_iload_n S 3 dX2_people_25 rfl rfl ?_
    refine tg_callN (nA := 2) (As := [.int x, .int (nI i)]) (rest := [.ref (h 1), .int b]) (host := RX2) (q := (RX0, TX0, 13)) S hK hN (k_X0_idAt hd σ x (nI i)) 2 rfl rfl (tw_gW co_X0_idAt rfl) (List.mem_of_getElem? (i := 22) rfl) (tw_in in_RX0 rfl) (tw_in im_X0_idAt rfl) (tw_in se_X0_idAt rfl) rfl (by decide +kernel) ⟨Nat.le_of_ble_eq_true rfl, Nat.le_of_ble_eq_true rfl⟩ rfl rfl (Nat.le_of_ble_eq_true rfl) dX2_people_26 ⟨Nat.le_of_ble_eq_true rfl, Nat.le_of_ble_eq_true rfl⟩ ?_
    refine tg_callN (nA := 1) (As := [.int (fa_idAt σ x (nI i))]) (rest := [.int b]) (host := RX2) (q := (RX1, TX1, 9)) S hK hN (k_X1_writerBit hd σ (fa_idAt σ x (nI i))) 1 rfl rfl (tw_gW co_X1_writerBit rfl) (List.mem_of_getElem? (i := 25) rfl) (tw_in in_RX1 rfl) (tw_in im_X1_writerBit rfl) (tw_in se_X1_writerBit rfl) rfl (by decide +kernel) ⟨Nat.le_of_ble_eq_true rfl, Nat.le_of_ble_eq_true rfl⟩ rfl rfl (Nat.le_of_ble_eq_true rfl) dX2_people_29 ⟨Nat.le_of_ble_eq_true rfl, Nat.le_of_ble_eq_true rfl⟩ ?_
    refine tg_ior S dX2_people_32 ?_
    refine tg_istore_n (L' := [(0, .ref (h 0)), (1, .int x), (2, .int (b ||| (fa_writerBit σ (fa_idAt σ x (nI i))))), (3, .int (nI i))]) [1, 2, 0, 3] S dX2_people_33 rfl (by decide) rfl ?_
    refine tg_iinc (v := nI (i + 1)) (L' := [(0, .ref (h 0)), (1, .int x), (2, .int (b ||| (fa_writerBit σ (fa_idAt σ x (nI i))))), (3, .int (nI (i + 1)))]) [1, 2, 3, 0] S 3 dX2_people_34 rfl (tg_inc _) (by decide) rfl ?_
    refine tg_goto (tgt := 9) S dX2_people_37 (by decide) ?_
    have e_1 : fx_peopleS σ x i b = b ||| (fa_writerBit σ (fa_idAt σ x (nI i))) := (by first | (simp [fx_peopleS, c_1]; done))
    rw [e_1] at hk_i
    exact hk_i
  · skip
    refine tg_iload_n S 3 dX2_people_9 rfl rfl ?_
    refine tg_bipush (v := 30) S dX2_people_10 (by decide) ?_
    refine tg_icmp_ge (tgt := 40) S dX2_people_12 (by decide) (fun _ => ?_) (fun c => absurd tg_ge c)
    refine tg_iload_n S 2 dX2_people_40 rfl rfl ?_
    refine tx_ends (by simp [tx_orN, tx_orS, c_1]) ?_
    exact tg_iret S hr hlk dX2_people_41 (by simp [fx_people, c_1]) rfl
set_option maxHeartbeats 4000000 in
set_option maxRecDepth 100000 in
theorem k_X2_latest {l : Launch} {D : va_G} {h : Nat → Nat} {cI cZ : ClassId} (hd : tw_dis 23 h) (hl : l.stackTraces = false) (σ : tg_Mem) (x : Int32) : tx_CT l yX2_latest wzX2_latest (tx_rm 8) (tw_T h cI cZ) (tw_ty cI cZ) tw_nl (tw_A 23 h) D [.ref (h 0), .int x] σ (fx_forest σ x) (some (.int (fx_latest σ x))) σ := by
  refine tx_met (own := RX2) (cc := cX2_latest) (maxL := 5) (ret := (some .int)) (by decide +kernel) rfl rfl (Nat.le_of_ble_eq_true rfl) ?_
  intro p e s m below meth c S hK hN hX hr hlk hh
  refine tg_sub (L' := [(0, .ref (h 0)), (1, .int x)]) [0, 1] rfl ?_
  refine tg_aload_n S 0 dX2_latest_0 rfl rfl ?_
  refine tg_iload_n S 1 dX2_latest_1 rfl rfl ?_
  refine tx_callV (nA := 1) (As := [.int x]) (rest := []) (q := (RX2, TX2, 2)) S hK hN hX hlk hh (k_X2_requireInForest hd hl σ x) 0 rfl rfl (tw_gV ml_RX2_85 im_X2_requireInForest se_X2_requireInForest in_RX2 co_X2_requireInForest rfl) rfl (by decide +kernel) ⟨Nat.le_of_ble_eq_true rfl, Nat.le_of_ble_eq_true rfl⟩ rfl rfl (Nat.le_of_ble_eq_true rfl) dX2_latest_2 ⟨Nat.le_of_ble_eq_true rfl, Nat.le_of_ble_eq_true rfl⟩ (fun E hE => by simp [tx_orN, tx_orS, hE]) ?_
  intro c_1
  refine tg_iconst (v := -1) S dX2_latest_5 (by decide) ?_
  refine tg_istore_n (L' := [(0, .ref (h 0)), (1, .int x), (2, .int (-1))]) [1, 2, 0] S dX2_latest_6 rfl (by decide) rfl ?_
  refine tg_iconst (v := nI 0) S dX2_latest_7 (by decide) ?_
  refine tg_istore_n (L' := [(0, .ref (h 0)), (1, .int x), (2, .int (-1)), (3, .int (nI 0))]) [1, 2, 3, 0] S dX2_latest_8 rfl (by decide) rfl ?_
  refine tg_loop (X := Int32) (fx_latestS σ x) 30 (-1) (fun b => σ) (fun i b => [(0, .ref (h 0)), (1, .int x), (2, .int b), (3, .int (nI i))]) ?_ ?_
  · skip
    intro i b hi_i hk_i
    refine tg_iload_n S 3 dX2_latest_9 rfl rfl ?_
    refine tg_bipush (v := 30) S dX2_latest_10 (by decide) ?_
    refine tg_icmp_ge (tgt := 58) S dX2_latest_12 (by decide) (fun c => absurd c (tg_nge hi_i)) (fun _ => ?_)
    refine tg_aload_n S 0 dX2_latest_15 rfl rfl ?_
    refine tg_get (v := .ref (h 2)) S tw_v2 hK 0 rfl rfl 1 (by decide) (tw_in fl_RX2_21 rfl) dX2_latest_16 rfl ?_
    refine tg_iload_n S 1 dX2_latest_19 rfl rfl ?_
    refine tg_iload_n S 3 dX2_latest_20 rfl rfl ?_
    refine tg_callN (nA := 2) (As := [.int x, .int (nI i)]) (rest := []) (host := RX2) (q := (RX0, TX0, 13)) S hK hN (k_X0_idAt hd σ x (nI i)) 2 rfl rfl (tw_gW co_X0_idAt rfl) (List.mem_of_getElem? (i := 22) rfl) (tw_in in_RX0 rfl) (tw_in im_X0_idAt rfl) (tw_in se_X0_idAt rfl) rfl (by decide +kernel) ⟨Nat.le_of_ble_eq_true rfl, Nat.le_of_ble_eq_true rfl⟩ rfl rfl (Nat.le_of_ble_eq_true rfl) dX2_latest_21 ⟨Nat.le_of_ble_eq_true rfl, Nat.le_of_ble_eq_true rfl⟩ ?_
    refine tg_istore (L' := [(0, .ref (h 0)), (1, .int x), (2, .int b), (3, .int (nI i)), (4, .int (fa_idAt σ x (nI i)))]) [1, 2, 3, 4, 0] S dX2_latest_24 (by decide) rfl ?_
    refine tg_aload_n S 0 dX2_latest_26 rfl rfl ?_
    refine tg_get (v := .ref (h 1)) S tw_v2 hK 0 rfl rfl 0 (by decide) (tw_in fl_RX2_10 rfl) dX2_latest_27 rfl ?_
    refine tg_iload S 4 dX2_latest_30 rfl ?_
    refine tg_callN (nA := 1) (As := [.int (fa_idAt σ x (nI i))]) (rest := []) (host := RX2) (q := (RX1, TX1, 9)) S hK hN (k_X1_holds hd σ (fa_idAt σ x (nI i))) 1 rfl rfl (tw_gW co_X1_holds rfl) (List.mem_of_getElem? (i := 3) rfl) (tw_in in_RX1 rfl) (tw_in im_X1_holds rfl) (tw_in se_X1_holds rfl) rfl (by decide +kernel) ⟨Nat.le_of_ble_eq_true rfl, Nat.le_of_ble_eq_true rfl⟩ rfl rfl (Nat.le_of_ble_eq_true rfl) dX2_latest_32 ⟨Nat.le_of_ble_eq_true rfl, Nat.le_of_ble_eq_true rfl⟩ ?_
    refine tg_ifz (tgt := 52) S dX2_latest_35 (by decide) (fun c_2 => ?_) (fun c_2 => ?_)
    · skip
      refine tg_iinc (v := nI (i + 1)) (L' := [(0, .ref (h 0)), (1, .int x), (2, .int b), (3, .int (nI (i + 1))), (4, .int (fa_idAt σ x (nI i)))]) [1, 2, 3, 0, 4] S 3 dX2_latest_52 rfl (tg_inc _) (by decide) rfl ?_
      refine tg_goto (tgt := 9) S dX2_latest_55 (by decide) ?_
      refine tg_sub (L' := [(0, .ref (h 0)), (1, .int x), (2, .int b), (3, .int (nI (i + 1)))]) [0, 1, 2, 3] rfl ?_
      have e_1 : fx_latestS σ x i b = b := (by first | (simp [fx_latestS, c_1, c_2]; done) | (simp only [fx_latestS, if_neg (ne_true_of_eq_false c_2)]; done))
      rw [e_1] at hk_i
      exact hk_i
    · skip
      refine tg_iload_n S 2 dX2_latest_38 rfl rfl ?_
      refine tg_aload_n S 0 dX2_latest_39 rfl rfl ?_
      refine tg_get (v := .ref (h 1)) S tw_v2 hK 0 rfl rfl 0 (by decide) (tw_in fl_RX2_10 rfl) dX2_latest_40 rfl ?_
      refine tg_iload S 4 dX2_latest_43 rfl ?_
      refine tg_callN (nA := 1) (As := [.int (fa_idAt σ x (nI i))]) (rest := [.int b]) (host := RX2) (q := (RX1, TX1, 9)) S hK hN (k_X1_dayOf hd σ (fa_idAt σ x (nI i))) 1 rfl rfl (tw_gW co_X1_dayOf rfl) (List.mem_of_getElem? (i := 26) rfl) (tw_in in_RX1 rfl) (tw_in im_X1_dayOf rfl) (tw_in se_X1_dayOf rfl) rfl (by decide +kernel) ⟨Nat.le_of_ble_eq_true rfl, Nat.le_of_ble_eq_true rfl⟩ rfl rfl (Nat.le_of_ble_eq_true rfl) dX2_latest_45 ⟨Nat.le_of_ble_eq_true rfl, Nat.le_of_ble_eq_true rfl⟩ ?_
      refine tg_max S (tw_in ml_RX2_126 rfl) (tw_in st_Math_max rfl) (tw_in in_Math rfl) (tw_in co_Math_max rfl) (Nat.le_of_ble_eq_true rfl) (Nat.le_of_ble_eq_true rfl) ⟨Nat.le_of_ble_eq_true rfl, Nat.le_of_ble_eq_true rfl⟩ dX2_latest_48 ?_
      refine tg_istore_n (L' := [(0, .ref (h 0)), (1, .int x), (2, .int (if b < fa_dayOf σ (fa_idAt σ x (nI i)) then fa_dayOf σ (fa_idAt σ x (nI i)) else b)), (3, .int (nI i)), (4, .int (fa_idAt σ x (nI i)))]) [1, 2, 0, 3, 4] S dX2_latest_51 rfl (by decide) rfl ?_
      refine tg_iinc (v := nI (i + 1)) (L' := [(0, .ref (h 0)), (1, .int x), (2, .int (if b < fa_dayOf σ (fa_idAt σ x (nI i)) then fa_dayOf σ (fa_idAt σ x (nI i)) else b)), (3, .int (nI (i + 1))), (4, .int (fa_idAt σ x (nI i)))]) [1, 2, 3, 0, 4] S 3 dX2_latest_52 rfl (tg_inc _) (by decide) rfl ?_
      refine tg_goto (tgt := 9) S dX2_latest_55 (by decide) ?_
      refine tg_sub (L' := [(0, .ref (h 0)), (1, .int x), (2, .int (if b < fa_dayOf σ (fa_idAt σ x (nI i)) then fa_dayOf σ (fa_idAt σ x (nI i)) else b)), (3, .int (nI (i + 1)))]) [0, 1, 2, 3] rfl ?_
      have e_2 : fx_latestS σ x i b = if b < fa_dayOf σ (fa_idAt σ x (nI i)) then fa_dayOf σ (fa_idAt σ x (nI i)) else b := (by first | (simp [fx_latestS, c_1, c_2]; done) | (simp only [fx_latestS, if_pos c_2]; done))
      rw [e_2] at hk_i
      exact hk_i
  · skip
    refine tg_iload_n S 3 dX2_latest_9 rfl rfl ?_
    refine tg_bipush (v := 30) S dX2_latest_10 (by decide) ?_
    refine tg_icmp_ge (tgt := 58) S dX2_latest_12 (by decide) (fun _ => ?_) (fun c => absurd tg_ge c)
    refine tg_iload_n S 2 dX2_latest_58 rfl rfl ?_
    refine tx_ends (by simp [tx_orN, tx_orS, c_1]) ?_
    exact tg_iret S hr hlk dX2_latest_59 (by simp [fx_latest, c_1]) rfl
