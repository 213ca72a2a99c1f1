/-! ===== 30: in a larger room the law answers true, at every script of at most 260 ints (rows turned out of parts 21 and the skeleton) ===== -/
set_option maxHeartbeats 4000000 in
set_option maxRecDepth 100000 in
theorem ws_start {p : Program} {e : Env} {s : State} {m : MethodId} {below : List Frame} {meth : Method} {c : Code} (l : Launch) (hflags : l.flags = flags0) {b : Nat} {xs : Nat → Int32} {L : Nat} (hL : L ≤ 260) (C0 : lw_At p s m meth c b L xs) : W p l e ws_rm s m #[Value.ref b] below meth c s.heap [] 0 0 (MQ below ws_Q #[Value.ref b] s 24000 145000 (vr_A s)) (entryFrame m ([Value.ref b] : List Value).toArray 10) := by
  obtain ⟨hx, hb, hr, hml, hown, hts, hX, hbl, hlocks, hgv⟩ := id C0
  have hA : ∀ q : Nat, s.heap.size ≤ q → vr_A s q := fun _ h => h
  obtain ⟨D, cI, cZ, hK⟩ := lq_K hts
  have hN := lq_NU hts
  have hTX := lq_TX hts hgv
  have S : CallFix p m c code 10 s #[Value.ref b] lw_tbl RL := ⟨hx, hb, hml, hown, hts⟩
  have hS : va_S (vr_A s) s.heap s.heap [] := va_S.rf
  have hP : va_P D vwCl [] s.heap := fun k q h => by simp at h
  have hD : va_D (vr_A s) [] := ⟨fun i j p q h => by simp at h, fun k q h => by simp at h⟩
  have hl := lv_entry ([.ref b]) (n := 10) (Nat.le_of_ble_eq_true rfl)
  rw [lg_entry_eq]
  generalize (lg_sl ([.ref b]) ++ List.replicate (10 - (lg_sl ([.ref b])).length) Slot.unset).toArray = ls at hl ⊢
  have hl : lv_has ls 10 [(0, .ref b)] := hl
  refine va_new (ci := 2) (fs := [.null, .null]) (C := RX2) (T := TX2) (N := 2) S.1 S.2.1 hts tw_u2 tyX2 tyX2_ok S.2.2.2.1 (hts _ lq_c9) (hts _ lq_i2) (hts _ in_RX2) hK hP hD hS hA rfl (fun j hj => by rcases (show j = 0 ∨ j = 1 by omega) with rfl | rfl <;> rfl) (Nat.le_of_ble_eq_true rfl) (Nat.le_of_ble_eq_true rfl) dL_law_0 (fun q0 H hP hD hS => ?_)
  have hP : va_P D vwCl [tn_o q0 2 [.null, .null]] H := hP
  have hD : va_D (vr_A s) [tn_o q0 2 [.null, .null]] := hD
  refine lv_dup S.1 S.2.1 dL_law_3 rfl ?_
  have hPc := hP.sub (ws' := [tn_o q0 2 [.null, .null]]) [0] rfl
  have hDc := hD.sub (ws' := [tn_o q0 2 [.null, .null]]) [0] (by decide) rfl
  have hFc := va_free (wc := [tn_o q0 2 [.null, .null]]) hD hS hA [0] rfl
  refine va_callv (va_runI (As := []) (rest := [.ref q0]) S (k_X2_init l D cI cZ q0 H.size) (cwI 0 hts (lq_good in_RL (tw_gW co_X2_init rfl)) rfl rfl rfl (hts _ in_RX2) (hts _ ml_RL_68) (hts _ im_X2_init) rfl (by decide +kernel) ⟨Nat.le_of_ble_eq_true rfl, Nat.le_of_ble_eq_true rfl⟩) ⟨fun a U g mk q => by obtain ⟨b0, b1, bP, bK, bN, bD⟩ := q; exact ⟨b0, b1, bP, va_K.moved (u := U) (U := U.calling g mk a) (Vm.Alike.refl U.vm) bK, tg_NU.same (u := U) (U := U.calling g mk a) rfl bN, bD⟩, fun U hU hW => ⟨rfl, by rw [hU], by rw [hU]; exact hPc, va_K.moved hW.alike hK, hN.warm hW, hDc.weaken (fun _ _ _ _ => trivial)⟩⟩ rfl rfl hl.1 rfl (lv_room (Nat.le_of_ble_eq_true rfl)) dL_law_4 ⟨Nat.le_of_ble_eq_true rfl, Nat.le_of_ble_eq_true rfl⟩) hS (fun q _ h => hFc q h) hFc (fun h t H1 locs ht hvm hh0 hB hz1 hk1 hS => ?_)
  obtain ⟨hP1, hD1⟩ := hB
  rw [ht] at hP1
  obtain ⟨hP, hD⟩ := va_join (wr := []) (w1 := tw_T h cI cZ (fun _ _ => 0)) hP hD [0] [] rfl rfl (by decide) (by decide) hk1 hFc hP1 hD1
  generalize H1 = H at hP hS ⊢
  have hP : va_P D vwCl (tw_T h cI cZ (fun _ _ => 0)) H := hP
  have hD : va_D (vr_A s) (tw_T h cI cZ (fun _ _ => 0)) := hD
  refine lv_astore_n (lv' := [(1, .ref q0), (0, .ref b)]) S.1 S.2.1 dL_law_7 rfl hl (by decide) rfl (fun ls hl => ?_)
  refine va_new (ci := 2) (fs := [.null, .null]) (C := RX2) (T := TX2) (N := 2) S.1 S.2.1 hts tw_u2 tyX2 tyX2_ok S.2.2.2.1 (hts _ lq_c9) (hts _ lq_i2) (hts _ in_RX2) hK hP hD hS hA rfl (fun j hj => by rcases (show j = 0 ∨ j = 1 by omega) with rfl | rfl <;> rfl) (Nat.le_of_ble_eq_true rfl) (Nat.le_of_ble_eq_true rfl) dL_law_8 (fun q1 H hP hD hS => ?_)
  refine lv_dup S.1 S.2.1 dL_law_11 rfl ?_
  have hPc := hP.sub (ws' := [tn_o q1 2 [.null, .null]]) [23] rfl
  have hDc := hD.sub (ws' := [tn_o q1 2 [.null, .null]]) [23] (by decide) rfl
  have hFc := va_free (wc := [tn_o q1 2 [.null, .null]]) hD hS hA [23] rfl
  refine va_callv (va_runI (As := []) (rest := [.ref q1]) S (k_X2_init l D cI cZ q1 H.size) (cwI 0 hts (lq_good in_RL (tw_gW co_X2_init rfl)) rfl rfl rfl (hts _ in_RX2) (hts _ ml_RL_68) (hts _ im_X2_init) rfl (by decide +kernel) ⟨Nat.le_of_ble_eq_true rfl, Nat.le_of_ble_eq_true rfl⟩) ⟨fun a U g mk q => by obtain ⟨b0, b1, bP, bK, bN, bD⟩ := q; exact ⟨b0, b1, bP, va_K.moved (u := U) (U := U.calling g mk a) (Vm.Alike.refl U.vm) bK, tg_NU.same (u := U) (U := U.calling g mk a) rfl bN, bD⟩, fun U hU hW => ⟨rfl, by rw [hU], by rw [hU]; exact hPc, va_K.moved hW.alike hK, hN.warm hW, hDc.weaken (fun _ _ _ _ => trivial)⟩⟩ rfl rfl hl.1 rfl (lv_room (Nat.le_of_ble_eq_true rfl)) dL_law_12 ⟨Nat.le_of_ble_eq_true rfl, Nat.le_of_ble_eq_true rfl⟩) hS (fun q _ h => hFc q h) hFc (fun g t H1 locs ht hvm hg0 hB hz1 hk1 hS => ?_)
  obtain ⟨hP1, hD1⟩ := hB
  rw [ht] at hP1
  obtain ⟨hP, hD⟩ := va_join (wr := tw_T h cI cZ (fun _ _ => 0)) (w1 := tw_T g cI cZ (fun _ _ => 0)) hP hD [23] [0, 1, 2, 3, 4, 5, 6, 7, 8, 9, 10, 11, 12, 13, 14, 15, 16, 17, 18, 19, 20, 21, 22] rfl rfl (by decide) (by decide) hk1 hFc hP1 hD1
  generalize H1 = H at hP hS ⊢
  refine lv_astore_n (lv' := [(2, .ref q1), (1, .ref q0), (0, .ref b)]) S.1 S.2.1 dL_law_15 rfl hl (by decide) rfl (fun ls hl => ?_)
  have hP9 := hP.sub (ws' := vg_W h g cI cZ (fun _ _ => 0) (fun _ _ => 0)) [0, 1, 2, 3, 4, 5, 6, 7, 8, 9, 10, 11, 12, 13, 14, 15, 16, 17, 18, 19, 20, 21, 22, 23, 24, 25, 26, 27, 28, 29, 30, 31, 32, 33, 34, 35, 36, 37, 38, 39, 40, 41, 42, 43, 44, 45] rfl
  have hD9 := hD.sub (ws' := vg_W h g cI cZ (fun _ _ => 0) (fun _ _ => 0)) [0, 1, 2, 3, 4, 5, 6, 7, 8, 9, 10, 11, 12, 13, 14, 15, 16, 17, 18, 19, 20, 21, 22, 23, 24, 25, 26, 27, 28, 29, 30, 31, 32, 33, 34, 35, 36, 37, 38, 39, 40, 41, 42, 43, 44, 45] (by decide) rfl
  obtain ⟨d1, d2, d3⟩ := lq_dis hD9
  subst hh0
  subst hg0
  have E : ws_E p l s m meth c D h g cI cZ b L xs := ⟨⟨hK, hN, hTX, d1, d2, d3⟩, S, hr, hlocks, lq_tr hflags, hX, hbl, hL⟩
  exact W.widen (Nat.le_of_ble_eq_true rfl) (Nat.le_of_ble_eq_true rfl) (ws_P0 E H locs ls hP9 hS (lv_sub hl [2, 1, 0] rfl) hS.1)
/-- what the owed statement says of the end, with the numbers of the larger room -/
def ws_R (_ : Array Value) (s : State) (o : Outcome) (t : State) : Prop := o = .returned (some (.int 1)) ∧ Framed s o t [] 24000 145000
theorem ws_forget {s t : State} {o : Outcome} {L : List Loc} {k n : Nat} (h : FrameEnd s o t L k n) (hL : ∀ q ∈ L, vr_A s q.base) : Framed s o t [] k n := by
  obtain ⟨h1, h2, g1, g2, g3, g4, g5, g6⟩ := h
  refine ⟨h1, h2, g1, g2, g3, g4, g5, fun a c hc => ?_⟩
  obtain ⟨c', e1, e2, e3, e4⟩ := g6 a c hc
  refine ⟨c', e1, e2, e3, fun i _ => e4 i (fun hm => ?_)⟩
  have h9 : s.heap.size ≤ a := hL _ hm
  exact absurd (Array.getElem?_eq_some_iff.mp hc).1 (Nat.not_lt.mpr h9)
set_option maxHeartbeats 4000000 in
theorem ws_walk (l : Launch) (hflags : l.flags = flags0) (b : Addr) (xs : List Int32) : MetFree l x (headSpec (Jvm.Cond.code x code maxLocals ret :: tables_1) ws_rm) (lw_P b xs) (fun _ _ _ _ _ => True) ws_R := by
  refine MetFree.of_bodyS (code := code) (maxLocals := maxLocals) (ret := ret) (by decide) ?_ ?_
  · intro args s m h hn
    obtain ⟨meth, c, h1, h2, h3, h4, h5, h6, -, -⟩ := Cond.code_spec hn (atoms_spec (ws := Jvm.Cond.code x code maxLocals ret :: tables_1) h _ List.mem_cons_self)
    exact ⟨meth, c, h1, h2, h3, h4, h5, h6⟩
  · intro p e s m args below meth c s₁ B hml0 hP _
    obtain ⟨rfl, hx, hbd, hgv⟩ := hP
    obtain ⟨scr, harrAt, hlist, hof, hsmall⟩ := hx
    obtain ⟨hcb, hkn, -, -⟩ := State.arrayAt?_spec harrAt
    have hown : s.vm.findClass R_law = some m.cls := findClass_of_methodNamed B.named
    have hts0 : ∀ c ∈ (Jvm.Cond.code x code maxLocals ret :: tables_1), c.before #[Value.ref b] s = true := atoms_spec (ws := Jvm.Cond.code x code maxLocals ret :: tables_1) B.pre
    have hts : ∀ w ∈ lw_tbl, w.before #[Value.ref b] s = true := k2_hts_sels lw_privs (fun w hw => hts0 w (List.mem_cons_of_mem _ hw)) lw_privs_ok
    have hml : c.maxLocals = 10 := B.maxLocals_eq (hts0 _ List.mem_cons_self)
    have X₀ : Stand p l e ws_rm s m #[Value.ref b] below meth c s₁ [] 0 0 := Stand.of_body B
    have hh0 : s₁.heap = s.heap := by rw [B.state]; rfl
    have hsz : scr.slots.size = xs.length := by rw [← Array.length_toList, hlist, List.length_map]
    have hval : ∀ j : Nat, j < xs.length → scr.slots[j]? = some (.int (xs.getD j 0)) := fun j hj => by
      rw [← Array.getElem?_toList, hlist]
      simp [hj]
    have hbl : b < s.heap.size := (Array.getElem?_eq_some_iff.mp hcb).1
    have hX : va_X b xs.length (fun j => xs.getD j 0) s s.heap := ⟨scr, hcb, hof, hkn, hsz, hval⟩
    have K : W p l e ws_rm s m #[Value.ref b] below meth c s₁.heap [] 0 0 (MQ below ws_Q #[Value.ref b] s 24000 145000 (vr_A s)) (entryFrame m ([Value.ref b] : List Value).toArray 10) := by
      rw [hh0]
      exact ws_start l hflags hbd ⟨B.exec, B.bytes, B.returns, hml, hown, hts, hX, hbl, B.notSynchronized, hgv⟩
    obtain ⟨t, a1, o, b1, b2, b3, L9, b4, b5⟩ := K s₁ rfl X₀
    exact ⟨t, o, a1, b1, b2, b3, ws_forget b4 b5⟩
theorem ws_pre_spec {args : Array Value} {s : State} (h : (Jvm.Cond.and given_1 narrow_1).before args s = true) (hr : rest_1_c.before args s = true) : ∃ (b : Addr) (xs : List Int32), lw_P b xs args s := by
  have hs := flat_of_before _ h
  have hq := flat_of_before _ hr
  have hc : (Cond.count 1).before args s = true := hs _ (by decide +kernel)
  have harr : (Cond.arrayOf (.arg 0) .int).before args s = true := hs _ (by decide +kernel)
  have hle : (Cond.le (.length (.arg 0)) (.int 260)).before args s = true := hs _ (by decide +kernel)
  have hlen : (Cond.isInt (.length (.arg 0))).before args s = true := hq _ (by decide +kernel)
  have hall : (Cond.all (.arg 0) (.isInt (.elem (.arg 0) (.index 0)))).before args s = true := hq _ (by decide +kernel)
  obtain ⟨b, xs, hb, hx⟩ := State.ints_of_pre rfl harr hlen hall
  have hsm : xs.length < 2 ^ 31 := hx.choose_spec.2.2.2
  have hev : (Term.length (.arg 0)).eval args s none [] s = some (.int xs.length.toInt32) := hx.length_eval hb
  have hv := Cond.le_ints hev (show (Term.int 260).eval args s none [] s = some (.int 260) from rfl)
  have hd : xs.length.toInt32 ≤ 260 := by
    simpa [Cond.before, Cond.holds, hv] using hle
  have hN : xs.length ≤ 260 := (Int32.ofNat_le_ofNat hsm (by decide)).mp (show Int32.ofNat xs.length ≤ Int32.ofNat 260 from hd)
  exact ⟨b, xs, Cond.one_arg hc (show args[0]? = some (.ref b) from hb), hx, hN, h⟩
theorem ws_comes (l : Launch) (hflags : l.flags = flags0) : Comes l x (Jvm.Cond.code x code maxLocals ret :: tables_1) ws_rm (fun tb e args s => Calls_1 tb e args s ∧ rest_1 tb e args s ∧ Pre_1 tb e args s)
    (fun _ _ args s o t => ws_R args s o t) := by
  intro p e ha hc hk s m args below hf hfit hheap happ hpre
  obtain ⟨b, xs, hP⟩ := ws_pre_spec hpre.2.2 hpre.2.1
  obtain ⟨k, o, h1, h2, h3, hQ⟩ := ws_walk l hflags b xs p e ha hc hk s m args below hf ((Spec.applies_iff_loose hf).mp happ).1 hP trivial
  exact ⟨k, o, h1, h2, h3, hQ⟩
/-- THE PROPERTY, IN A LARGER ROOM: from every start that the statement allows and that has room for 24000 cells and 145000 slots, the law returns, and answers 1, with nothing that was there before changed -/
theorem p20_larger : ArmFor flags0 classFile x code maxLocals ret World_1 tables_1 ws_rm Calls_1 rest_1 Pre_1 (fun tb e a s o t => postC limb_1_1 tb e a s o t ∧ postC limb_1_2 tb e a s o t ∧ Framed s o t [] 24000 145000) := by
  intro l hflags _ _ p e ha hc hk s m args below hf hfit hheap happ hpre
  obtain ⟨k, o, h1, h2, h3, rfl, hF⟩ := ws_comes l hflags p e ha hc hk s m args below hf hfit hheap happ hpre
  refine ⟨k, _, h1, h2, h3, ?_, ?_, hF⟩
  · show limb_1_1.after args s _ _ = true
    simp [limb_1_1, Cond.after, Cond.holds, Cond.value]
  · show limb_1_2.after args s _ _ = true
    refine Cond.after_iff.mpr ?_
    first | (rw [show limb_1_2 = Cond.eq .result (.int 1) from rfl, Cond.eq_ints (x := 1) (y := 1) rfl rfl]; simp; done) | (simp [limb_1_2, Cond.value, Term.eval]; done)
set_option maxRecDepth 16384 in
theorem ws_applies : (headSpec (Cond.code x code maxLocals ret :: tables_1) ws_rm).applies x start1.e0.platform vr_s = true :=
  (Spec.applies_iff rfl).mpr ⟨rfl, rfl, rfl, by decide +kernel, by decide +kernel, by decide +kernel, launch0.hasRoom_least _ ws_rm (by decide +kernel) (by decide +kernel) (by decide +kernel) (by decide +kernel) (by decide +kernel) (by decide +kernel), atoms_intro vr_words⟩
/-- THE OWED STATEMENT'S FIRST HALF IS REFUTED, in the statement's own word for it: at 49 zeros the law returns 1, with more than 130 new cells -/
theorem p20_refuted : RefutedClaimed_1_1 := by
  have hS := vr_atStart
  obtain ⟨hL, hW, had, -, hcas, hclk, hfr, hfit, hheap, happ, hcalls, hrest, hpre⟩ := vr_atStart
  obtain ⟨n, o, w, hrun, e, q⟩ := vr_walk launch0 rfl 0 start1.p0 start1.e0 had hcas hclk vr_s ⟨0, 0⟩ start1.args0 Lib.HandBits.below0 hfr ((Spec.applies_iff_loose hfr).mp vr_applies).1 ⟨rfl, vr_X, by decide +kernel, hpre⟩ trivial
  obtain ⟨k1, o1, w1, -, e1, q1, -⟩ := ws_comes launch0 rfl start1.p0 start1.e0 had hcas hclk vr_s ⟨0, 0⟩ start1.args0 Lib.HandBits.below0 hfr hfit hheap ws_applies ⟨hcalls, hrest, hpre⟩
  have hk1 : n = k1 := by
    rcases Nat.lt_trichotomy n k1 with h | h | h
    · exact absurd (w1 n h) e.not_within
    · exact h
    · exact absurd (w k1 h) e1.not_within
  subst hk1
  have ho1 := e.outcome_unique e1
  subst ho1
  refine ⟨launch0, start1.p0, start1.e0, vr_s, ⟨0, 0⟩, start1.args0, Lib.HandBits.below0, rfl, hS, n, o, w, hrun, e, fun hP => ?_⟩
  rcases q with h0 | hbig
  · rw [h0] at q1
    exact absurd q1 (by decide)
  · have h1 := hP.2.2.2.2.2.1
    have h2 : (stepsAlone start1.p0.tables start1.e0 n vr_s).heap.size ≤ vr_s.heap.size + 130 := h1
    omega
/-- .. and so is its second half -/
theorem p20_refuted2 : RefutedClaimed_1_2 := by
  have hS := vr_atStart
  obtain ⟨hL, hW, had, -, hcas, hclk, hfr, hfit, hheap, happ, hcalls, hrest, hpre⟩ := vr_atStart
  obtain ⟨n, o, w, hrun, e, q⟩ := vr_walk launch0 rfl 0 start1.p0 start1.e0 had hcas hclk vr_s ⟨0, 0⟩ start1.args0 Lib.HandBits.below0 hfr ((Spec.applies_iff_loose hfr).mp vr_applies).1 ⟨rfl, vr_X, by decide +kernel, hpre⟩ trivial
  obtain ⟨k1, o1, w1, -, e1, q1, -⟩ := ws_comes launch0 rfl start1.p0 start1.e0 had hcas hclk vr_s ⟨0, 0⟩ start1.args0 Lib.HandBits.below0 hfr hfit hheap ws_applies ⟨hcalls, hrest, hpre⟩
  have hk1 : n = k1 := by
    rcases Nat.lt_trichotomy n k1 with h | h | h
    · exact absurd (w1 n h) e.not_within
    · exact h
    · exact absurd (w k1 h) e1.not_within
  subst hk1
  have ho1 := e.outcome_unique e1
  subst ho1
  refine ⟨launch0, start1.p0, start1.e0, vr_s, ⟨0, 0⟩, start1.args0, Lib.HandBits.below0, rfl, hS, n, o, w, hrun, e, fun hP => ?_⟩
  rcases q with h0 | hbig
  · rw [h0] at q1
    exact absurd q1 (by decide)
  · have h1 := hP.2.2.2.2.2.1
    have h2 : (stepsAlone start1.p0.tables start1.e0 n vr_s).heap.size ≤ vr_s.heap.size + 130 := h1
    omega
