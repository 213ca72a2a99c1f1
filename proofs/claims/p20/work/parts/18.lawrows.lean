/-! ===== 18: drawn at a script of zeros; the law's rows ===== -/
set_option maxRecDepth 100000 in
theorem vr_max : Cond.constant RL 7 2147483647 ∈ lw_tbl := by decide +kernel
set_option maxHeartbeats 4000000 in
theorem k_L_drawn {l : Launch} {b i : Nat} (hi : i < 49) {xs : Nat → Int32} (hz : ∀ j, j < 49 → xs j = 0) :
    Met l yL_drawn wzL_drawn (tg_rm 0) (va_Pc [.ref b, .int (nI i)] (fun U => va_X b 49 xs U U.heap ∧ b < U.heap.size)) (fun _ st o t => o = .returned (some (.int 0)) ∧ va_F (fun _ => False) st t) 0 0 (fun _ => False) := by
  refine Met.ofW (cc := cL_drawn) (maxL := 3) (ret := some .int) (by decide +kernel) rfl ?_
  intro p e s m args below meth c s₁ B hml hv
  obtain ⟨rfl, hX, hb⟩ := hv
  have S : CallFix p m c cL_drawn 3 s ([.ref b, .int (nI i)] : List Value).toArray wzL_drawn RL := ⟨B.exec, B.bytes, hml, findClass_of_methodNamed B.named, atoms_spec (ws := wzL_drawn) B.pre⟩
  have hr := B.returns
  have hlk := B.notSynchronized
  have hS : va_S (fun _ : Nat => False) s.heap s.heap [] := va_S.rf
  have hl := lv_entry ([.ref b, .int (nI i)]) (n := 3) (Nat.le_of_ble_eq_true rfl)
  rw [lg_entry_eq]
  generalize (lg_sl ([.ref b, .int (nI i)]) ++ List.replicate (3 - (lg_sl ([.ref b, .int (nI i)])).length) Slot.unset).toArray = ls at hl ⊢
  have hl : lv_has ls 3 [(0, .ref b), (1, .int (nI i))] := hl
  refine lv_iload_n S.1 S.2.1 dL_drawn_0 rfl (lv_at hl 1 rfl) ?_
  refine lv_aload_n S.1 S.2.1 dL_drawn_1 rfl (lv_at hl 0 rfl) ?_
  refine va_slen S.1 S.2.1 hX hb (fun h => h) hS dL_drawn_2 ?_
  refine lv_icmp_ge (tgt := 12) S.1 S.2.1 dL_drawn_3 (by decide) (fun c => absurd c (nI_ge hi (by decide))) (fun _ => ?_)
  refine lv_aload_n S.1 S.2.1 dL_drawn_6 rfl (lv_at hl 0 rfl) ?_
  refine lv_iload_n S.1 S.2.1 dL_drawn_7 rfl (lv_at hl 1 rfl) ?_
  refine va_sld S.1 S.2.1 hX hb (fun h => h) hS (nI_in hi (by decide)) dL_drawn_8 ?_
  rw [nI_clamp (Nat.lt_trans hi (by decide)), hz i hi]
  refine lv_goto (tgt := 21) S.1 S.2.1 dL_drawn_9 (by decide) ?_
  refine lv_istore_n (lv' := [(2, .int 0), (0, .ref b), (1, .int (nI i))]) S.1 S.2.1 dL_drawn_21 rfl hl (by decide) rfl (fun ls2 hl2 => ?_)
  refine lv_iload_n S.1 S.2.1 dL_drawn_22 rfl (lv_at hl2 0 rfl) ?_
  refine lv_ldc (own := RL) (v := 2147483647) S.1 S.2.1 S.2.2.2.1 (S.2.2.2.2 _ (tw_in vr_max rfl)) dL_drawn_23 ?_
  refine lv_iand S.1 S.2.1 dL_drawn_25 ?_
  rw [show (0 : Int32) &&& 2147483647 = 0 from by decide]
  exact W.iret S.1 S.2.1 hr (fun t ht hW => ⟨rfl, hS.F ht⟩) hS.2.2 dL_drawn_26 hlk
theorem vr_join {σ : tg_Mem} : fx_join σ 0 0 = some tx_I := by
  have h : fx_id 0 = none := by unfold fx_id; rw [if_pos (by decide)]
  unfold fx_join
  rw [h, if_pos rfl]
  rfl
theorem k_L_join0 {l : Launch} {D : va_G} {h : Nat → Nat} {cI cZ : ClassId} (hd : tw_dis 23 h) (hl : l.stackTraces = false) (σ : tg_Mem) : vl_CT l yL_does wzL_does (tx_rm 9) (tw_T h cI cZ) (tw_ty cI cZ) tw_nl (tw_A 23 h) D [.ref (h 0), .int 3, .int 0] σ (some tx_I) (-9) σ := by
  have h1 := k_L_does3 (D := D) (cI := cI) (cZ := cZ) hd hl σ 0
  rw [vr_join] at h1
  exact h1
def vr_rm : Room := { frames := 13, cells := 15000, slots := 91000, locals := 480 }
def vr_A (s : State) : Nat → Prop := fun q => s.heap.size ≤ q
/-- the law ends with 0, or has made more than 130 new cells -/
def vr_Q : Array Value → State → Outcome → State → Prop := fun _ st o t => o = .returned (some (.int 0)) ∨ st.heap.size + 131 ≤ t.heap.size
theorem lq_good {x : Cond} {ws : List Cond} (hx : x ∈ lw_tbl) (hG : GoodIn (x :: tw_G) ws) : GoodIn lw_tbl ws := fun w hw => ⟨(List.mem_cons.mp (hG w hw).1).elim (fun e => by rw [e]; exact hx) (fun hm => (List.mem_filter.mp hm).1), (hG w hw).2⟩
section VR
variable {p : Program} {l : Launch} {e : Env} {s : State} {m : MethodId} {below : List Frame} {meth : Method} {c : Code} {D : va_G} {h g : Nat → Nat} {cI cZ : ClassId} {σ τ : tg_Mem} {k jj pc b : Nat} {xs : Nat → Int32} {L : List (Nat × Value)} {st rest : List Value} {ww : va_W}
abbrev vr_G (p : Program) (l : Launch) (e : Env) (s : State) (m : MethodId) (b : Nat) (below : List Frame) (meth : Method) (c : Code) (D : va_G) (ww : va_W) (k jj pc : Nat) (L : List (Nat × Value)) (st : List Value) : Prop :=
  vg_G p l e vr_rm s m #[Value.ref b] below meth c D ww (vr_A s) 10 k 1000 (MQ below vr_Q #[Value.ref b] s 15000 91000 (vr_A s)) jj pc L st
/-- what stays so on the law's whole way -/
def vr_E (p : Program) (l : Launch) (s : State) (m : MethodId) (meth : Method) (c : Code) (D : va_G) (h g : Nat → Nat) (cI cZ : ClassId) (b : Nat) (xs : Nat → Int32) : Prop :=
  vg_E s D h g cI cZ (vr_A s) ∧ CallFix p m c code 10 s #[Value.ref b] lw_tbl RL ∧ meth.sig.returnType = some .boolean ∧ meth.locks = false ∧ l.stackTraces = false ∧ va_X b 49 xs s s.heap ∧ b < s.heap.size ∧ ∀ j, j < 49 → xs j = 0
theorem vr_ret (E : vr_E p l s m meth c D h g cI cZ b xs) {f : Bool} (hf : f = true → 131 ≤ jj) : vr_G p l e s m b below meth c D ww 15000 jj 521 L [.int (tg_b f)] := by
  have S := E.2.1
  refine fun H locs ls hP hS hl hj => W.zret S.1 S.2.1 E.2.2.1 (by cases f <;> rfl) (fun t ht hW => ?_) hS.2.2 dL_law_521 E.2.2.2.1
  cases f with
  | false => exact Or.inl rfl
  | true => exact Or.inr (by rw [ht]; have := hf rfl; omega)
/-- drawn is called -/
theorem vr_drawn (E : vr_E p l s m meth c D h g cI cZ b xs) {i : Nat} (hi : i < 49) (hst : st = .int (nI i) :: .ref b :: rest) (hcat : (rest.map fun v => v.category).sum ≤ 8) (d : decode code pc = .ok (.invokestatic 69, 3)) (hf : k ≤ 15000)
    (kn : vr_G p l e s m b below meth c D ww k jj (pc + 3) L (.int 0 :: rest)) : vr_G p l e s m b below meth c D ww k jj pc L st := by
  obtain ⟨-, S, -, -, -, hX, hbl, hz⟩ := E
  intro H locs ls hP hS hl hj T hT X
  have hbA : ¬ vr_A s b := Nat.not_le.mpr hbl
  have hXH : va_X b 49 xs s H := hX.kept (hS.2.1 b hbl hbA)
  have hbH : b < H.size := Nat.lt_of_lt_of_le hbl hS.1
  have hpre : PreS s H (va_Pc [.ref b, .int (nI i)] (fun U => va_X b 49 xs U U.heap ∧ b < U.heap.size)) [.ref b, .int (nI i)] :=
    ⟨fun a U g mk q => by
      obtain ⟨q1, q2, q3⟩ := q
      exact ⟨q1, va_X.moved (u := U) (U := U.calling g mk a) (Vm.Alike.refl U.vm) q2, q3⟩, fun U hU hW => ⟨rfl, by rw [hU]; exact va_X.moved hW.alike hXH, by rw [hU]; exact hbH⟩⟩
  obtain ⟨v, st₀, t, T', Lc, h0, X', hL, e1, e2, ⟨hv, hz2, hk⟩, sg⟩ := va_runS (As := [.ref b, .int (nI i)]) (rest := rest) S (k_L_drawn (l := l) hi hz) (va_cwS 2 S.2.2.2.2 (lq_good in_RL (tw_gS ml_RL_69 st_L_drawn in_RL co_L_drawn rfl)) rfl rfl rfl (by decide +kernel) ⟨Nat.le_of_ble_eq_true rfl, Nat.le_of_ble_eq_true rfl⟩) hpre rfl rfl hl.1 hst (lv_room hcat) d ⟨by show _ ≤ 15000; omega, by show _ ≤ 91000; omega⟩ T hT X
  cases hv
  rw [h0] at hz2 hk
  obtain ⟨t2, a1, b1⟩ := kn T'.heap (locs ++ Lc) ls (by
      rw [e1]
      exact hP.kept (fun k q hq => hk q.1 (vx_lt hP hq) (fun f => f))) (by
      rw [e1]
      exact vg_Sk hS hz2 hk (fun q f => f.elim) hL) hl (by rw [e1]; exact Nat.le_trans hj hz2) T' rfl X'
  exact ⟨t2, sg t2 a1, b1⟩
theorem vr_blind {h g : Nat → Nat} {cI cZ : ClassId} {σ τ : tg_Mem} {D : va_G} {A : Nat → Prop} {As : List Value} : FrameBlind (va_Pc As (fun U => va_P D vwCl (vg_W h g cI cZ σ τ) U.heap ∧ va_K D vwCl (tw_ty cI cZ) U ∧ tg_NU tw_nl U ∧ tl_TX A U)) := fun a U g mk h => by
  obtain ⟨h1, h2, h3, h4, h5, h6, h7⟩ := h
  exact ⟨h1, h2, va_K.moved (u := U) (U := U.calling g mk a) (Vm.Alike.refl U.vm) h3, tg_NU.same (u := U) (U := U.calling g mk a) rfl h4, tx_TX.same (u := U) (U := U.calling g mk a) rfl rfl h5, va_Nc.moved (u := U) (U := U.calling g mk a) (Vm.Alike.refl U.vm) h6, va_Nc.moved (u := U) (U := U.calling g mk a) (Vm.Alike.refl U.vm) h7⟩
/-- areAlike is called -/
theorem vr_like (E : vr_E p l s m meth c D h g cI cZ b xs) (hNs : vn_N σ) (hNt : vn_N τ) (hroots : σ 20 0 = nI 16) (hst : st = .ref (g 0) :: .ref (h 0) :: rest) (hcat : (rest.map fun v => v.category).sum ≤ 8) (d : decode code pc = .ok (.invokestatic 79, 3)) (hf : k + 2112 ≤ 15000)
    (kn : ∀ (f : Bool) (j2 : Nat), (f = true → j2 = jj + 32) → (f = false → j2 = jj) → vr_G p l e s m b below meth c D (vg_W h g cI cZ σ τ) (k + 2112) j2 (pc + 3) L (.int (tg_b f) :: rest)) : vr_G p l e s m b below meth c D (vg_W h g cI cZ σ τ) k jj pc L st := by
  obtain ⟨⟨hK, hN, hX, hap, hAh, hAg⟩, S, -, -, hl0, -⟩ := E
  have hAl : ∀ q, al_A h g q → vr_A s q := fun q hq => hq.elim (hAh q) (hAg q)
  intro H locs ls hP hS hl hj T hT X
  have hpre : PreS s H (va_Pc [.ref (h 0), .ref (g 0)] (fun U => va_P D vwCl (vg_W h g cI cZ σ τ) U.heap ∧ va_K D vwCl (tw_ty cI cZ) U ∧ tg_NU tw_nl U ∧ tl_TX (al_A h g) U)) [.ref (h 0), .ref (g 0)] :=
    ⟨vr_blind, fun U hU hW => ⟨rfl, by rw [hU]; exact hP, va_K.moved hW.alike hK, hN.warm hW, (hX.1.call hW hU hS).narrow hAl, hX.2.1.moved hW.alike, hX.2.2.moved hW.alike⟩⟩
  obtain ⟨v, st₀, t, T', Lc, h0, X', hL, e1, e2, ⟨f, hv, hb, hP2, hz2, hk⟩, sg⟩ := va_runS (As := [.ref (h 0), .ref (g 0)]) (rest := rest) S (k_L_areAlike (l := l) (D := D) (cI := cI) (cZ := cZ) hap hl0 hNs hNt hroots) (va_cwS 2 S.2.2.2.2 (lq_good in_RL (tw_gS ml_RL_79 st_L_areAlike in_RL co_L_areAlike rfl)) rfl rfl rfl (by decide +kernel) ⟨Nat.le_of_ble_eq_true rfl, Nat.le_of_ble_eq_true rfl⟩) hpre rfl rfl hl.1 hst (lv_room hcat) d ⟨by show _ ≤ 15000; omega, by show _ ≤ 91000; omega⟩ T hT X
  cases hv
  rw [h0] at hb hz2 hk
  have ez : 6 * k + 1000 + 12672 = 6 * (k + 2112) + 1000 := by omega
  rw [ez] at X'
  obtain ⟨t2, a1, b1⟩ := kn f (if f = true then jj + 32 else jj) (fun hf => if_pos hf) (fun hf => if_neg (by rw [hf]; decide)) T'.heap (locs ++ Lc) ls (by rw [e1]; exact hP2) (by
      rw [e1]
      exact vg_Sk hS hz2 hk hAl hL) hl (by
      rw [e1]
      cases f with
      | false => exact Nat.le_trans hj hz2
      | true =>
        have h1 := hb rfl
        show s.heap.size + (jj + 32) ≤ t.heap.size
        omega) T' rfl X'
  exact ⟨t2, sg t2 a1, b1⟩
end VR
