/-! ===== 28: the law's rows, at any script ===== -/
def ws_rm : Room := { frames := 13, cells := 24000, slots := 145000, locals := 480 }
def ws_Q : Array Value → State → Outcome → State → Prop := fun _ _ o _ => o = .returned (some (.int 1))
section WS
variable {p : Program} {l : Launch} {e : Env} {s : State} {m : MethodId} {below : List Frame} {meth : Method} {c : Code} {D : va_G} {h g : Nat → Nat} {cI cZ : ClassId} {σ τ : tg_Mem} {k jj pc b L : Nat} {xs : Nat → Int32} {LL : List (Nat × Value)} {st rest : List Value} {ww : va_W}
abbrev ws_G (p : Program) (l : Launch) (e : Env) (s : State) (m : MethodId) (b : Nat) (below : List Frame) (meth : Method) (c : Code) (D : va_G) (ww : va_W) (k jj pc : Nat) (LL : List (Nat × Value)) (st : List Value) : Prop :=
  vg_G p l e ws_rm s m #[Value.ref b] below meth c D ww (vr_A s) 10 k 1000 (MQ below ws_Q #[Value.ref b] s 24000 145000 (vr_A s)) jj pc LL st
/-- what stays so on the law's whole way -/
def ws_E (p : Program) (l : Launch) (s : State) (m : MethodId) (meth : Method) (c : Code) (D : va_G) (h g : Nat → Nat) (cI cZ : ClassId) (b L : Nat) (xs : Nat → Int32) : Prop :=
  vg_E s D h g cI cZ (vr_A s) ∧ CallFix p m c code 10 s #[Value.ref b] lw_tbl RL ∧ meth.sig.returnType = some .boolean ∧ meth.locks = false ∧ l.stackTraces = false ∧ va_X b L xs s s.heap ∧ b < s.heap.size ∧ L ≤ 260
theorem ws_ret (E : ws_E p l s m meth c D h g cI cZ b L xs) (hk : k ≤ 24000) : ws_G p l e s m b below meth c D ww k jj 521 LL [.int 1] := by
  have S := E.2.1
  refine vg_widen hk ?_
  exact fun H locs ls hP hS hl hj => W.zret S.1 S.2.1 E.2.2.1 rfl (fun t ht hW => rfl) hS.2.2 dL_law_521 E.2.2.2.1
/-- drawn is called -/
theorem ws_drawn (E : ws_E p l s m meth c D h g cI cZ b L xs) {i : Nat} (hi : i < 49) (hst : st = .int (nI i) :: .ref b :: rest) (hcat : (rest.map fun v => v.category).sum ≤ 8) (d : decode code pc = .ok (.invokestatic 69, 3)) (hf : k ≤ 24000)
    (kn : ws_G p l e s m b below meth c D ww k jj (pc + 3) LL (.int (nI (dn xs L i)) :: rest)) : ws_G p l e s m b below meth c D ww k jj pc LL st := by
  obtain ⟨-, S, -, -, -, hX, hbl, hL0⟩ := E
  intro H locs ls hP hS hl hj T hT X
  have hbA : ¬ vr_A s b := Nat.not_le.mpr hbl
  have hXH : va_X b L xs s H := hX.kept (hS.2.1 b hbl hbA)
  have hbH : b < H.size := Nat.lt_of_lt_of_le hbl hS.1
  have hpre : PreS s H (va_Pc [.ref b, .int (nI i)] (fun U => va_X b L xs U U.heap ∧ b < U.heap.size)) [.ref b, .int (nI i)] :=
    ⟨fun a U g mk q => by
      obtain ⟨q1, q2, q3⟩ := q
      exact ⟨q1, va_X.moved (u := U) (U := U.calling g mk a) (Vm.Alike.refl U.vm) q2, q3⟩, fun U hU hW => ⟨rfl, by rw [hU]; exact va_X.moved hW.alike hXH, by rw [hU]; exact hbH⟩⟩
  obtain ⟨v, st₀, t, T', Lc, h0, X', hL, e1, e2, ⟨hv, hz2, hk⟩, sg⟩ := va_runS (As := [.ref b, .int (nI i)]) (rest := rest) S (k_L_drawnG (l := l) (xs := xs) hi hL0) (va_cwS 2 S.2.2.2.2 (lq_good in_RL (tw_gS ml_RL_69 st_L_drawn in_RL co_L_drawn rfl)) rfl rfl rfl (by decide +kernel) ⟨Nat.le_of_ble_eq_true rfl, Nat.le_of_ble_eq_true rfl⟩) hpre rfl rfl hl.1 hst (lv_room hcat) d ⟨by show _ ≤ 24000; omega, by show _ ≤ 145000; omega⟩ T hT X
  cases hv
  rw [h0] at hz2 hk
  obtain ⟨t2, a1, b1⟩ := kn T'.heap (locs ++ Lc) ls (by
      rw [e1]
      exact hP.kept (fun k q hq => hk q.1 (vx_lt hP hq) (fun f => f))) (by
      rw [e1]
      exact vg_Sk hS hz2 hk (fun q f => f.elim) hL) hl (by rw [e1]; exact Nat.le_trans hj hz2) T' rfl X'
  exact ⟨t2, sg t2 a1, b1⟩
/-- areAlike is called -/
theorem ws_like (E : ws_E p l s m meth c D h g cI cZ b L xs) (hsm : sm σ τ) (hst : st = .ref (g 0) :: .ref (h 0) :: rest) (hcat : (rest.map fun v => v.category).sum ≤ 8) (d : decode code pc = .ok (.invokestatic 79, 3)) (hf : k + 3960 ≤ 24000)
    (kn : ws_G p l e s m b below meth c D (vg_W h g cI cZ σ τ) (k + 3960) jj (pc + 3) LL (.int 1 :: rest)) : ws_G p l e s m b below meth c D (vg_W h g cI cZ σ τ) k jj pc LL st := by
  obtain ⟨⟨hK, hN, hX, hap, hAh, hAg⟩, S, -, -, hl0, -⟩ := E
  have hAl : ∀ q, al_A h g q → vr_A s q := fun q hq => hq.elim (hAh q) (hAg q)
  intro H locs ls hP hS hl hj T hT X
  have hpre : PreS s H (va_Pc [.ref (h 0), .ref (g 0)] (fun U => va_P D vwCl (vg_W h g cI cZ σ τ) U.heap ∧ va_K D vwCl (tw_ty cI cZ) U ∧ tg_NU tw_nl U ∧ tl_TX (al_A h g) U)) [.ref (h 0), .ref (g 0)] :=
    ⟨vr_blind, fun U hU hW => ⟨rfl, by rw [hU]; exact hP, va_K.moved hW.alike hK, hN.warm hW, (hX.1.call hW hU hS).narrow hAl, hX.2.1.moved hW.alike, hX.2.2.moved hW.alike⟩⟩
  obtain ⟨v, st₀, t, T', Lc, h0, X', hL, e1, e2, ⟨hv, hP2, hz2, hk⟩, sg⟩ := va_runS (As := [.ref (h 0), .ref (g 0)]) (rest := rest) S (k_L_alike (l := l) (D := D) (cI := cI) (cZ := cZ) hap hl0 hsm) (va_cwS 2 S.2.2.2.2 (lq_good in_RL (tw_gS ml_RL_79 st_L_areAlike in_RL co_L_areAlike rfl)) rfl rfl rfl (by decide +kernel) ⟨Nat.le_of_ble_eq_true rfl, Nat.le_of_ble_eq_true rfl⟩) hpre rfl rfl hl.1 hst (lv_room hcat) d ⟨by show _ ≤ 24000; omega, by show _ ≤ 145000; omega⟩ T hT X
  cases hv
  rw [h0] at hz2 hk
  have ez : 6 * k + 1000 + 23760 = 6 * (k + 3960) + 1000 := by omega
  rw [ez] at X'
  obtain ⟨t2, a1, b1⟩ := kn T'.heap (locs ++ Lc) ls (by rw [e1]; exact hP2) (by
      rw [e1]
      exact vg_Sk hS hz2 hk hAl hL) hl (by rw [e1]; exact Nat.le_trans hj hz2) T' rfl X'
  exact ⟨t2, sg t2 a1, b1⟩
end WS
