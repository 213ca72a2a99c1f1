/-! ===== 26: areAlike answers true of two states of the same letters (printed by wip/p20/genQ2.py) ===== -/
def bl_rm : Room := { frames := 10, cells := 3960, slots := 23760, locals := 280 }
def bl_Q (h g : Nat → Nat) (cI cZ : ClassId) (D : va_G) (σ τ : tg_Mem) : Array Value → State → Outcome → State → Prop := fun _ st o t => o = .returned (some (.int 1)) ∧ va_P D vwCl (vg_W h g cI cZ σ τ) t.heap ∧ va_F (al_A h g) st t
section BL
variable {p : Program} {l : Launch} {e : Env} {s : State} {m : MethodId} {below : List Frame} {meth : Method} {c : Code} {D : va_G} {h g : Nat → Nat} {cI cZ : ClassId} {σ τ : tg_Mem} {k jj rr : Nat}
abbrev bl_G (p : Program) (l : Launch) (e : Env) (s : State) (m : MethodId) (below : List Frame) (meth : Method) (c : Code) (D : va_G) (h g : Nat → Nat) (cI cZ : ClassId) (σ τ : tg_Mem) (k jj pc : Nat) (L : List (Nat × Value)) (st : List Value) : Prop :=
  vg_G p l e bl_rm s m ([.ref (h 0), .ref (g 0)] : List Value).toArray below meth c D (vg_W h g cI cZ σ τ) (al_A h g) 8 k 0 (MQ below (bl_Q h g cI cZ D σ τ) ([.ref (h 0), .ref (g 0)] : List Value).toArray s 3960 23760 (al_A h g)) jj pc L st
theorem bl_ret (E : al_E p l s m meth c D h g cI cZ) {L : List (Nat × Value)} : bl_G p l e s m below meth c D h g cI cZ σ τ 3960 jj 184 L [.int 1] := by
  have S := E.2.1
  exact fun H locs ls hP hS hl hj => W.zret S.1 S.2.1 E.2.2.1 rfl (fun t ht hW => ⟨rfl, by rw [ht]; exact hP, hS.F ht⟩) hS.2.2 dL_areAlike_184 E.2.2.2.1
set_option maxHeartbeats 4000000 in
theorem bl_T177 (E : al_E p l s m meth c D h g cI cZ) {i : Nat} (hk : k ≤ 132 * (i + 1)) (next : ∀ j2, bl_G p l e s m below meth c D h g cI cZ σ τ (132 * (i + 1)) j2 22 [(0, .ref (h 0)), (1, .ref (g 0)), (2, .int (nI rr)), (3, .int 1), (4, .int (nI (i + 1)))] []) : bl_G p l e s m below meth c D h g cI cZ σ τ k jj 177 [(0, .ref (h 0)), (1, .ref (g 0)), (2, .int (nI rr)), (3, .int 1), (4, .int (nI i))] [] := by
  have S := E.2.1
  refine vg_iinc (v := nI (i + 1)) (L' := [(0, .ref (h 0)), (1, .ref (g 0)), (2, .int (nI rr)), (3, .int 1), (4, .int (nI (i + 1)))]) [1, 2, 3, 4, 0] S 4 dL_areAlike_177 rfl (tg_inc _) (by decide) rfl ?_
  refine vg_goto (tgt := 22) S dL_areAlike_180 (by decide) ?_
  exact vg_widen hk (next jj)
set_option maxHeartbeats 4000000 in
theorem bl_W (E : al_E p l s m meth c D h g cI cZ) {i : Nat} {r : Int32} (hi : i < 30) (hsm : sm σ τ) (next : ∀ j2, bl_G p l e s m below meth c D h g cI cZ σ τ (132 * (i + 1)) j2 22 [(0, .ref (h 0)), (1, .ref (g 0)), (2, .int (nI rr)), (3, .int 1), (4, .int (nI (i + 1)))] []) : ∀ (f q : Nat) (x : Int32) (jj : Nat), q + f = 31 → q ≤ 30 → (q = 0 ∨ fx_inTree σ r (nI 0) = none) → ¬ x < 0 → bl_G p l e s m below meth c D h g cI cZ σ τ (132 * i + 8 + 4 * q) jj 116 [(0, .ref (h 0)), (1, .ref (g 0)), (2, .int (nI rr)), (3, .int 1), (4, .int (nI i)), (5, .int r), (6, .int (nI q)), (7, .int x)] [] := by
  have S := E.2.1
  intro f
  induction f with
  | zero => intro q x jj hf hq; omega
  | succ f ih =>
    intro q x jj hf hq ht hx
    refine vg_iload_n S 3 dL_areAlike_116 rfl rfl ?_
    refine vg_if_eq (tgt := 177) S dL_areAlike_117 (by decide) (fun c => absurd c (by decide)) (fun _ => ?_)
    refine vg_aload_n S 0 dL_areAlike_120 rfl rfl ?_
    refine vg_iload S 5 dL_areAlike_121 rfl ?_
    refine vg_iload S 6 dL_areAlike_123 rfl ?_
    refine vg_callA (nA := 3) (As := [.ref (h 0), .int r, .int (nI q)]) (rest := []) E.1 S (k_L_inTree E.1.2.2.2.1.1 E.2.2.2.2 σ r (nI q)) (tw_gS ml_RL_66 st_L_inTree in_RL co_L_inTree rfl) rfl (by decide +kernel) ⟨Nat.le_of_ble_eq_true rfl, Nat.le_of_ble_eq_true rfl⟩ rfl rfl (Nat.le_of_ble_eq_true rfl) dL_areAlike_125 ⟨by show _ ≤ 3960; omega, by show _ ≤ 23760; omega⟩ (fun j2 hj2 => ?_)
    refine vg_istore (L' := [(0, .ref (h 0)), (1, .ref (g 0)), (2, .int (nI rr)), (3, .int 1), (4, .int (nI i)), (5, .int r), (6, .int (nI q)), (7, .int (vl_k (fx_inTree σ r (nI q)) (fa_idAt σ r (nI q))))]) [1, 2, 3, 4, 5, 6, 7, 0] S dL_areAlike_128 (by decide) rfl ?_
    refine vg_aload_n S 1 dL_areAlike_130 rfl rfl ?_
    refine vg_iload S 5 dL_areAlike_131 rfl ?_
    refine vg_iload S 6 dL_areAlike_133 rfl ?_
    refine vg_callB (nA := 3) (As := [.ref (g 0), .int r, .int (nI q)]) (rest := []) E.1 S (k_L_inTree E.1.2.2.2.1.2.1 E.2.2.2.2 τ r (nI q)) (tw_gS ml_RL_66 st_L_inTree in_RL co_L_inTree rfl) rfl (by decide +kernel) ⟨Nat.le_of_ble_eq_true rfl, Nat.le_of_ble_eq_true rfl⟩ rfl rfl (Nat.le_of_ble_eq_true rfl) dL_areAlike_135 ⟨by show _ ≤ 3960; omega, by show _ ≤ 23760; omega⟩ (fun j3 hj3 => ?_)
    refine vg_iload S 7 dL_areAlike_138 rfl ?_
    refine vg_icmp_ne (tgt := 169) S dL_areAlike_140 (by decide) (fun c => absurd (sm_inT hsm r (nI q)).symm c) (fun e => ?_)
    refine vg_iload S 7 dL_areAlike_143 rfl ?_
    refine vg_if_lt (tgt := 165) S dL_areAlike_145 (by decide) (fun hlt => ?_) (fun hge => ?_)
    · skip
      refine vg_iconst (v := 1) S dL_areAlike_165 (by decide) ?_
      refine vg_goto (tgt := 170) S dL_areAlike_166 (by decide) ?_
      refine vg_istore_n (L' := [(0, .ref (h 0)), (1, .ref (g 0)), (2, .int (nI rr)), (3, .int 1), (4, .int (nI i)), (5, .int r), (6, .int (nI q)), (7, .int (vl_k (fx_inTree σ r (nI q)) (fa_idAt σ r (nI q))))]) [1, 2, 3, 0, 4, 5, 6, 7] S dL_areAlike_170 rfl (by decide) rfl ?_
      refine vg_iinc (v := nI (q + 1)) (L' := [(0, .ref (h 0)), (1, .ref (g 0)), (2, .int (nI rr)), (3, .int 1), (4, .int (nI i)), (5, .int r), (6, .int (nI (q + 1))), (7, .int (vl_k (fx_inTree σ r (nI q)) (fa_idAt σ r (nI q))))]) [1, 2, 3, 4, 5, 6, 0, 7] S 6 dL_areAlike_171 rfl (tg_inc _) (by decide) rfl ?_
      refine vg_goto (tgt := 111) S dL_areAlike_174 (by decide) ?_
      refine vg_iload S 7 dL_areAlike_111 rfl ?_
      refine vg_if_lt (tgt := 177) S dL_areAlike_113 (by decide) (fun _ => ?_) (fun c => absurd hlt c)
      refine vg_sub (L' := [(0, .ref (h 0)), (1, .ref (g 0)), (2, .int (nI rr)), (3, .int 1), (4, .int (nI i))]) [0, 1, 2, 3, 4] rfl ?_
      exact bl_T177 E (by omega) next
    · skip
      refine vg_aload_n S 0 dL_areAlike_148 rfl rfl ?_
      refine vg_iconst (v := 1) S dL_areAlike_149 (by decide) ?_
      refine vg_iload S 7 dL_areAlike_150 rfl ?_
      refine vg_callA (nA := 3) (As := [.ref (h 0), .int 1, .int (vl_k (fx_inTree σ r (nI q)) (fa_idAt σ r (nI q)))]) (rest := []) E.1 S (k_L_of1 E.1.2.2.2.1.1 E.2.2.2.2 σ (vl_k (fx_inTree σ r (nI q)) (fa_idAt σ r (nI q)))) (tw_gS ml_RL_60 st_L_of in_RL co_L_of rfl) rfl (by decide +kernel) ⟨Nat.le_of_ble_eq_true rfl, Nat.le_of_ble_eq_true rfl⟩ rfl rfl (Nat.le_of_ble_eq_true rfl) dL_areAlike_152 ⟨by show _ ≤ 3960; omega, by show _ ≤ 23760; omega⟩ (fun j4 hj4 => ?_)
      refine vg_aload_n S 1 dL_areAlike_155 rfl rfl ?_
      refine vg_iconst (v := 1) S dL_areAlike_156 (by decide) ?_
      refine vg_iload S 7 dL_areAlike_157 rfl ?_
      refine vg_callB (nA := 3) (As := [.ref (g 0), .int 1, .int (vl_k (fx_inTree σ r (nI q)) (fa_idAt σ r (nI q)))]) (rest := [_]) E.1 S (k_L_of1 E.1.2.2.2.1.2.1 E.2.2.2.2 τ (vl_k (fx_inTree σ r (nI q)) (fa_idAt σ r (nI q)))) (tw_gS ml_RL_60 st_L_of in_RL co_L_of rfl) rfl (by decide +kernel) ⟨Nat.le_of_ble_eq_true rfl, Nat.le_of_ble_eq_true rfl⟩ rfl rfl (Nat.le_of_ble_eq_true rfl) dL_areAlike_159 ⟨by show _ ≤ 3960; omega, by show _ ≤ 23760; omega⟩ (fun j5 hj5 => ?_)
      refine vg_icmp_ne (tgt := 169) S dL_areAlike_162 (by decide) (fun c => absurd (sm_par hsm (vl_k (fx_inTree σ r (nI q)) (fa_idAt σ r (nI q)))) c) (fun _ => ?_)
      refine vg_iconst (v := 1) S dL_areAlike_165 (by decide) ?_
      refine vg_goto (tgt := 170) S dL_areAlike_166 (by decide) ?_
      refine vg_istore_n (L' := [(0, .ref (h 0)), (1, .ref (g 0)), (2, .int (nI rr)), (3, .int 1), (4, .int (nI i)), (5, .int r), (6, .int (nI q)), (7, .int (vl_k (fx_inTree σ r (nI q)) (fa_idAt σ r (nI q))))]) [1, 2, 3, 0, 4, 5, 6, 7] S dL_areAlike_170 rfl (by decide) rfl ?_
      refine vg_iinc (v := nI (q + 1)) (L' := [(0, .ref (h 0)), (1, .ref (g 0)), (2, .int (nI rr)), (3, .int 1), (4, .int (nI i)), (5, .int r), (6, .int (nI (q + 1))), (7, .int (vl_k (fx_inTree σ r (nI q)) (fa_idAt σ r (nI q))))]) [1, 2, 3, 4, 5, 6, 0, 7] S 6 dL_areAlike_171 rfl (tg_inc _) (by decide) rfl ?_
      refine vg_goto (tgt := 111) S dL_areAlike_174 (by decide) ?_
      refine vg_iload S 7 dL_areAlike_111 rfl ?_
      refine vg_if_lt (tgt := 177) S dL_areAlike_113 (by decide) (fun c => absurd c hge) (fun _ => ?_)
      have hn := vn_pos hge
      have h0 : fx_inTree σ r (nI 0) = none := ht.elim (fun e0 => by rw [← e0]; exact hn) id
      have hq2 := vn_end h0 hn hq
      exact vg_widen (k1 := 132 * i + 8 + 4 * (q + 1)) (by omega) (ih (q + 1) _ j5 (by omega) (by omega) (Or.inr h0) hge)
set_option maxHeartbeats 4000000 in
theorem bl_M62 (E : al_E p l s m meth c D h g cI cZ) {i : Nat} {r : Int32} (hi : i < 30) (hsm : sm σ τ) (next : ∀ j2, bl_G p l e s m below meth c D h g cI cZ σ τ (132 * (i + 1)) j2 22 [(0, .ref (h 0)), (1, .ref (g 0)), (2, .int (nI rr)), (3, .int 1), (4, .int (nI (i + 1)))] []) : bl_G p l e s m below meth c D h g cI cZ σ τ (132 * i + 2) jj 62 [(0, .ref (h 0)), (1, .ref (g 0)), (2, .int (nI rr)), (3, .int 1), (4, .int (nI i)), (5, .int r), (6, .int 3)] [] := by
  have S := E.2.1
  refine vg_iload S 6 dL_areAlike_62 rfl ?_
  refine vg_bipush (v := 6) S dL_areAlike_64 (by decide) ?_
  refine vg_icmp_ge (tgt := 104) S dL_areAlike_66 (by decide) (fun c => absurd c (by decide)) (fun _ => ?_)
  refine vg_iload_n S 3 dL_areAlike_69 rfl rfl ?_
  refine vg_if_eq (tgt := 104) S dL_areAlike_70 (by decide) (fun c => absurd c (by decide)) (fun _ => ?_)
  refine vg_aload_n S 0 dL_areAlike_73 rfl rfl ?_
  refine vg_iload S 6 dL_areAlike_74 rfl ?_
  refine vg_iload S 5 dL_areAlike_76 rfl ?_
  refine vg_callA (nA := 3) (As := [.ref (h 0), .int 3, .int r]) (rest := []) E.1 S (k_L_of3 E.1.2.2.2.1.1 E.2.2.2.2 σ r) (tw_gS ml_RL_60 st_L_of in_RL co_L_of rfl) rfl (by decide +kernel) ⟨Nat.le_of_ble_eq_true rfl, Nat.le_of_ble_eq_true rfl⟩ rfl rfl (Nat.le_of_ble_eq_true rfl) dL_areAlike_78 ⟨by show _ ≤ 3960; omega, by show _ ≤ 23760; omega⟩ (fun a3 ha3 => ?_)
  refine vg_aload_n S 1 dL_areAlike_81 rfl rfl ?_
  refine vg_iload S 6 dL_areAlike_82 rfl ?_
  refine vg_iload S 5 dL_areAlike_84 rfl ?_
  refine vg_callB (nA := 3) (As := [.ref (g 0), .int 3, .int r]) (rest := [_]) E.1 S (k_L_of3 E.1.2.2.2.1.2.1 E.2.2.2.2 τ r) (tw_gS ml_RL_60 st_L_of in_RL co_L_of rfl) rfl (by decide +kernel) ⟨Nat.le_of_ble_eq_true rfl, Nat.le_of_ble_eq_true rfl⟩ rfl rfl (Nat.le_of_ble_eq_true rfl) dL_areAlike_86 ⟨by show _ ≤ 3960; omega, by show _ ≤ 23760; omega⟩ (fun b3 hb3 => ?_)
  refine vg_icmp_ne (tgt := 96) S dL_areAlike_89 (by decide) (fun c => absurd (sm_let hsm r) c) (fun _ => ?_)
  refine vg_iconst (v := 1) S dL_areAlike_92 (by decide) ?_
  refine vg_goto (tgt := 97) S dL_areAlike_93 (by decide) ?_
  refine vg_istore_n (L' := [(0, .ref (h 0)), (1, .ref (g 0)), (2, .int (nI rr)), (3, .int 1), (4, .int (nI i)), (5, .int r), (6, .int 3)]) [1, 2, 3, 0, 4, 5, 6] S dL_areAlike_97 rfl (by decide) rfl ?_
  refine vg_iinc (v := 4) (L' := [(0, .ref (h 0)), (1, .ref (g 0)), (2, .int (nI rr)), (3, .int 1), (4, .int (nI i)), (5, .int r), (6, .int 4)]) [1, 2, 3, 4, 5, 6, 0] S 6 dL_areAlike_98 rfl (by decide) (by decide) rfl ?_
  refine vg_goto (tgt := 62) S dL_areAlike_101 (by decide) ?_
  refine vg_iload S 6 dL_areAlike_62 rfl ?_
  refine vg_bipush (v := 6) S dL_areAlike_64 (by decide) ?_
  refine vg_icmp_ge (tgt := 104) S dL_areAlike_66 (by decide) (fun c => absurd c (by decide)) (fun _ => ?_)
  refine vg_iload_n S 3 dL_areAlike_69 rfl rfl ?_
  refine vg_if_eq (tgt := 104) S dL_areAlike_70 (by decide) (fun c => absurd c (by decide)) (fun _ => ?_)
  refine vg_aload_n S 0 dL_areAlike_73 rfl rfl ?_
  refine vg_iload S 6 dL_areAlike_74 rfl ?_
  refine vg_iload S 5 dL_areAlike_76 rfl ?_
  refine vg_callA (nA := 3) (As := [.ref (h 0), .int 4, .int r]) (rest := []) E.1 S (k_L_of4 E.1.2.2.2.1.1 E.2.2.2.2 σ r) (tw_gS ml_RL_60 st_L_of in_RL co_L_of rfl) rfl (by decide +kernel) ⟨Nat.le_of_ble_eq_true rfl, Nat.le_of_ble_eq_true rfl⟩ rfl rfl (Nat.le_of_ble_eq_true rfl) dL_areAlike_78 ⟨by show _ ≤ 3960; omega, by show _ ≤ 23760; omega⟩ (fun a4 ha4 => ?_)
  refine vg_aload_n S 1 dL_areAlike_81 rfl rfl ?_
  refine vg_iload S 6 dL_areAlike_82 rfl ?_
  refine vg_iload S 5 dL_areAlike_84 rfl ?_
  refine vg_callB (nA := 3) (As := [.ref (g 0), .int 4, .int r]) (rest := [_]) E.1 S (k_L_of4 E.1.2.2.2.1.2.1 E.2.2.2.2 τ r) (tw_gS ml_RL_60 st_L_of in_RL co_L_of rfl) rfl (by decide +kernel) ⟨Nat.le_of_ble_eq_true rfl, Nat.le_of_ble_eq_true rfl⟩ rfl rfl (Nat.le_of_ble_eq_true rfl) dL_areAlike_86 ⟨by show _ ≤ 3960; omega, by show _ ≤ 23760; omega⟩ (fun b4 hb4 => ?_)
  refine vg_icmp_ne (tgt := 96) S dL_areAlike_89 (by decide) (fun c => absurd (sm_peo hsm r) c) (fun _ => ?_)
  refine vg_iconst (v := 1) S dL_areAlike_92 (by decide) ?_
  refine vg_goto (tgt := 97) S dL_areAlike_93 (by decide) ?_
  refine vg_istore_n (L' := [(0, .ref (h 0)), (1, .ref (g 0)), (2, .int (nI rr)), (3, .int 1), (4, .int (nI i)), (5, .int r), (6, .int 4)]) [1, 2, 3, 0, 4, 5, 6] S dL_areAlike_97 rfl (by decide) rfl ?_
  refine vg_iinc (v := 5) (L' := [(0, .ref (h 0)), (1, .ref (g 0)), (2, .int (nI rr)), (3, .int 1), (4, .int (nI i)), (5, .int r), (6, .int 5)]) [1, 2, 3, 4, 5, 6, 0] S 6 dL_areAlike_98 rfl (by decide) (by decide) rfl ?_
  refine vg_goto (tgt := 62) S dL_areAlike_101 (by decide) ?_
  refine vg_iload S 6 dL_areAlike_62 rfl ?_
  refine vg_bipush (v := 6) S dL_areAlike_64 (by decide) ?_
  refine vg_icmp_ge (tgt := 104) S dL_areAlike_66 (by decide) (fun c => absurd c (by decide)) (fun _ => ?_)
  refine vg_iload_n S 3 dL_areAlike_69 rfl rfl ?_
  refine vg_if_eq (tgt := 104) S dL_areAlike_70 (by decide) (fun c => absurd c (by decide)) (fun _ => ?_)
  refine vg_aload_n S 0 dL_areAlike_73 rfl rfl ?_
  refine vg_iload S 6 dL_areAlike_74 rfl ?_
  refine vg_iload S 5 dL_areAlike_76 rfl ?_
  refine vg_callA (nA := 3) (As := [.ref (h 0), .int 5, .int r]) (rest := []) E.1 S (k_L_of5 E.1.2.2.2.1.1 E.2.2.2.2 σ r) (tw_gS ml_RL_60 st_L_of in_RL co_L_of rfl) rfl (by decide +kernel) ⟨Nat.le_of_ble_eq_true rfl, Nat.le_of_ble_eq_true rfl⟩ rfl rfl (Nat.le_of_ble_eq_true rfl) dL_areAlike_78 ⟨by show _ ≤ 3960; omega, by show _ ≤ 23760; omega⟩ (fun a5 ha5 => ?_)
  refine vg_aload_n S 1 dL_areAlike_81 rfl rfl ?_
  refine vg_iload S 6 dL_areAlike_82 rfl ?_
  refine vg_iload S 5 dL_areAlike_84 rfl ?_
  refine vg_callB (nA := 3) (As := [.ref (g 0), .int 5, .int r]) (rest := [_]) E.1 S (k_L_of5 E.1.2.2.2.1.2.1 E.2.2.2.2 τ r) (tw_gS ml_RL_60 st_L_of in_RL co_L_of rfl) rfl (by decide +kernel) ⟨Nat.le_of_ble_eq_true rfl, Nat.le_of_ble_eq_true rfl⟩ rfl rfl (Nat.le_of_ble_eq_true rfl) dL_areAlike_86 ⟨by show _ ≤ 3960; omega, by show _ ≤ 23760; omega⟩ (fun b5 hb5 => ?_)
  refine vg_icmp_ne (tgt := 96) S dL_areAlike_89 (by decide) (fun c => absurd (sm_lat hsm r) c) (fun _ => ?_)
  refine vg_iconst (v := 1) S dL_areAlike_92 (by decide) ?_
  refine vg_goto (tgt := 97) S dL_areAlike_93 (by decide) ?_
  refine vg_istore_n (L' := [(0, .ref (h 0)), (1, .ref (g 0)), (2, .int (nI rr)), (3, .int 1), (4, .int (nI i)), (5, .int r), (6, .int 5)]) [1, 2, 3, 0, 4, 5, 6] S dL_areAlike_97 rfl (by decide) rfl ?_
  refine vg_iinc (v := 6) (L' := [(0, .ref (h 0)), (1, .ref (g 0)), (2, .int (nI rr)), (3, .int 1), (4, .int (nI i)), (5, .int r), (6, .int 6)]) [1, 2, 3, 4, 5, 6, 0] S 6 dL_areAlike_98 rfl (by decide) (by decide) rfl ?_
  refine vg_goto (tgt := 62) S dL_areAlike_101 (by decide) ?_
  refine vg_iload S 6 dL_areAlike_62 rfl ?_
  refine vg_bipush (v := 6) S dL_areAlike_64 (by decide) ?_
  refine vg_icmp_ge (tgt := 104) S dL_areAlike_66 (by decide) (fun _ => ?_) (fun c => absurd (by decide) c)
  refine vg_iconst (v := nI 0) S dL_areAlike_104 (by decide) ?_
  refine vg_istore (L' := [(0, .ref (h 0)), (1, .ref (g 0)), (2, .int (nI rr)), (3, .int 1), (4, .int (nI i)), (5, .int r), (6, .int (nI 0))]) [1, 2, 3, 4, 5, 6, 0] S dL_areAlike_105 (by decide) rfl ?_
  refine vg_iload S 5 dL_areAlike_107 rfl ?_
  refine vg_istore (L' := [(0, .ref (h 0)), (1, .ref (g 0)), (2, .int (nI rr)), (3, .int 1), (4, .int (nI i)), (5, .int r), (6, .int (nI 0)), (7, .int r)]) [1, 2, 3, 4, 5, 6, 7, 0] S dL_areAlike_109 (by decide) rfl ?_
  refine vg_iload S 7 dL_areAlike_111 rfl ?_
  refine vg_if_lt (tgt := 177) S dL_areAlike_113 (by decide) (fun hlt => ?_) (fun hge => ?_)
  · skip
    refine vg_sub (L' := [(0, .ref (h 0)), (1, .ref (g 0)), (2, .int (nI rr)), (3, .int 1), (4, .int (nI i))]) [0, 1, 2, 3, 4] rfl ?_
    exact bl_T177 E (by omega) next
  · exact vg_widen (k1 := 132 * i + 8 + 4 * 0) (by omega) (bl_W E hi hsm next 31 0 r b5 rfl (by omega) (Or.inl rfl) hge)
set_option maxHeartbeats 4000000 in
theorem bl_M22 (E : al_E p l s m meth c D h g cI cZ) (hrr : rr ≤ 30) (hsm : sm σ τ) : ∀ (n i jj : Nat), i + n = rr → bl_G p l e s m below meth c D h g cI cZ σ τ (132 * i) jj 22 [(0, .ref (h 0)), (1, .ref (g 0)), (2, .int (nI rr)), (3, .int 1), (4, .int (nI i))] [] := by
  have S := E.2.1
  intro n
  induction n with
  | zero =>
    intro i jj hi
    have hi2 : rr = i := by omega
    subst hi2
    refine vg_widen (k1 := 3960) (by omega) ?_
    refine vg_iload S 4 dL_areAlike_22 rfl ?_
    refine vg_iload_n S 2 dL_areAlike_24 rfl rfl ?_
    refine vg_icmp_ge (tgt := 183) S dL_areAlike_25 (by decide) (fun _ => ?_) (fun c => absurd (nI_le (Nat.le_refl rr) (by omega)) c)
    refine vg_iload_n S 3 dL_areAlike_183 rfl rfl ?_
    exact bl_ret E
  | succ n ih =>
    intro i jj hi
    have hi2 : i < rr := by omega
    refine vg_iload S 4 dL_areAlike_22 rfl ?_
    refine vg_iload_n S 2 dL_areAlike_24 rfl rfl ?_
    refine vg_icmp_ge (tgt := 183) S dL_areAlike_25 (by decide) (fun c => absurd c (nI_ge hi2 (by omega))) (fun _ => ?_)
    refine vg_iload_n S 3 dL_areAlike_28 rfl rfl ?_
    refine vg_if_eq (tgt := 183) S dL_areAlike_29 (by decide) (fun c => absurd c (by decide)) (fun _ => ?_)
    refine vg_aload_n S 0 dL_areAlike_32 rfl rfl ?_
    refine vg_iconst (v := 2) S dL_areAlike_33 (by decide) ?_
    refine vg_iload S 4 dL_areAlike_34 rfl ?_
    refine vg_callA (nA := 3) (As := [.ref (h 0), .int 2, .int (nI i)]) (rest := []) E.1 S (k_L_of2 E.1.2.2.2.1.1 E.2.2.2.2 σ (nI i)) (tw_gS ml_RL_60 st_L_of in_RL co_L_of rfl) rfl (by decide +kernel) ⟨Nat.le_of_ble_eq_true rfl, Nat.le_of_ble_eq_true rfl⟩ rfl rfl (Nat.le_of_ble_eq_true rfl) dL_areAlike_36 ⟨by show _ ≤ 3960; omega, by show _ ≤ 23760; omega⟩ (fun j2 hj2 => ?_)
    refine vg_istore (L' := [(0, .ref (h 0)), (1, .ref (g 0)), (2, .int (nI rr)), (3, .int 1), (4, .int (nI i)), (5, .int (vl_k (fx_root σ (nI i)) (fa_rootAt σ (nI i))))]) [1, 2, 3, 4, 5, 0] S dL_areAlike_39 (by decide) rfl ?_
    refine vg_aload_n S 1 dL_areAlike_41 rfl rfl ?_
    refine vg_iconst (v := 2) S dL_areAlike_42 (by decide) ?_
    refine vg_iload S 4 dL_areAlike_43 rfl ?_
    refine vg_callB (nA := 3) (As := [.ref (g 0), .int 2, .int (nI i)]) (rest := []) E.1 S (k_L_of2 E.1.2.2.2.1.2.1 E.2.2.2.2 τ (nI i)) (tw_gS ml_RL_60 st_L_of in_RL co_L_of rfl) rfl (by decide +kernel) ⟨Nat.le_of_ble_eq_true rfl, Nat.le_of_ble_eq_true rfl⟩ rfl rfl (Nat.le_of_ble_eq_true rfl) dL_areAlike_45 ⟨by show _ ≤ 3960; omega, by show _ ≤ 23760; omega⟩ (fun j3 hj3 => ?_)
    refine vg_iload S 5 dL_areAlike_48 rfl ?_
    refine vg_icmp_ne (tgt := 57) S dL_areAlike_50 (by decide) (fun c => absurd (sm_root hsm (nI i)).symm c) (fun e => ?_)
    refine vg_iconst (v := 1) S dL_areAlike_53 (by decide) ?_
    refine vg_goto (tgt := 58) S dL_areAlike_54 (by decide) ?_
    refine vg_istore_n (L' := [(0, .ref (h 0)), (1, .ref (g 0)), (2, .int (nI rr)), (3, .int 1), (4, .int (nI i)), (5, .int (vl_k (fx_root σ (nI i)) (fa_rootAt σ (nI i))))]) [1, 2, 3, 0, 4, 5] S dL_areAlike_58 rfl (by decide) rfl ?_
    refine vg_iconst (v := 3) S dL_areAlike_59 (by decide) ?_
    refine vg_istore (L' := [(0, .ref (h 0)), (1, .ref (g 0)), (2, .int (nI rr)), (3, .int 1), (4, .int (nI i)), (5, .int (vl_k (fx_root σ (nI i)) (fa_rootAt σ (nI i)))), (6, .int 3)]) [1, 2, 3, 4, 5, 6, 0] S dL_areAlike_60 (by decide) rfl ?_
    exact bl_M62 E (by omega) hsm (fun j4 => ih (i + 1) j4 (by omega))
set_option maxHeartbeats 4000000 in
theorem bl_body (E : al_E p l s m meth c D h g cI cZ) (hsm : sm σ τ) : bl_G p l e s m below meth c D h g cI cZ σ τ 0 0 0 [(0, .ref (h 0)), (1, .ref (g 0))] [] := by
  have S := E.2.1
  obtain ⟨he, rr, hrr, hr⟩ := sm_roots hsm
  refine vg_aload_n S 0 dL_areAlike_0 rfl rfl ?_
  refine vg_callTA (nA := 0) (As := []) (rest := []) E.1 S (k_X2_roots E.1.2.2.2.1.1 σ) (tw_gV ml_RL_56 im_X2_roots se_X2_roots in_RX2 co_X2_roots rfl) rfl (by decide +kernel) ⟨Nat.le_of_ble_eq_true rfl, Nat.le_of_ble_eq_true rfl⟩ rfl rfl (Nat.le_of_ble_eq_true rfl) dL_areAlike_1 ⟨Nat.zero_le _, Nat.zero_le _⟩ ?_
  rw [hr]
  refine vg_istore_n (L' := [(0, .ref (h 0)), (1, .ref (g 0)), (2, .int (nI rr))]) [1, 2, 0] S dL_areAlike_4 rfl (by decide) rfl ?_
  refine vg_aload_n S 1 dL_areAlike_5 rfl rfl ?_
  refine vg_callTB (nA := 0) (As := []) (rest := []) E.1 S (k_X2_roots E.1.2.2.2.1.2.1 τ) (tw_gV ml_RL_56 im_X2_roots se_X2_roots in_RX2 co_X2_roots rfl) rfl (by decide +kernel) ⟨Nat.le_of_ble_eq_true rfl, Nat.le_of_ble_eq_true rfl⟩ rfl rfl (Nat.le_of_ble_eq_true rfl) dL_areAlike_6 ⟨Nat.zero_le _, Nat.zero_le _⟩ ?_
  refine vg_iload_n S 2 dL_areAlike_9 rfl rfl ?_
  refine vg_icmp_ne (tgt := 17) S dL_areAlike_10 (by decide) (fun c => absurd (he.symm.trans hr) c) (fun _ => ?_)
  refine vg_iconst (v := 1) S dL_areAlike_13 (by decide) ?_
  refine vg_goto (tgt := 18) S dL_areAlike_14 (by decide) ?_
  refine vg_istore_n (L' := [(0, .ref (h 0)), (1, .ref (g 0)), (2, .int (nI rr)), (3, .int 1)]) [1, 2, 3, 0] S dL_areAlike_18 rfl (by decide) rfl ?_
  refine vg_iconst (v := nI 0) S dL_areAlike_19 (by decide) ?_
  refine vg_istore (L' := [(0, .ref (h 0)), (1, .ref (g 0)), (2, .int (nI rr)), (3, .int 1), (4, .int (nI 0))]) [1, 2, 3, 4, 0] S dL_areAlike_20 (by decide) rfl ?_
  exact bl_M22 E hrr hsm rr 0 0 (Nat.zero_add _)
end BL
set_option maxHeartbeats 4000000 in
set_option maxRecDepth 100000 in
theorem k_L_alike {l : Launch} {D : va_G} {h g : Nat → Nat} {cI cZ : ClassId} {σ τ : tg_Mem} (hap : vg_ap h g) (hl : l.stackTraces = false) (hsm : sm σ τ) :
    Met l yL_areAlike wzL_areAlike bl_rm (va_Pc [.ref (h 0), .ref (g 0)] (fun U => va_P D vwCl (vg_W h g cI cZ σ τ) U.heap ∧ va_K D vwCl (tw_ty cI cZ) U ∧ tg_NU tw_nl U ∧ tl_TX (al_A h g) U)) (bl_Q h g cI cZ D σ τ) 3960 23760 (al_A h g) := by
  refine Met.ofW (cc := cL_areAlike) (maxL := 8) (ret := some .boolean) (by decide +kernel) rfl ?_
  intro p e s m args below meth c s₁ B hml hv
  obtain ⟨rfl, hP, hK, hN, hX⟩ := hv
  have S : CallFix p m c cL_areAlike 8 s ([.ref (h 0), .ref (g 0)] : List Value).toArray wzL_areAlike RL := ⟨B.exec, B.bytes, hml, findClass_of_methodNamed B.named, atoms_spec (ws := wzL_areAlike) B.pre⟩
  have E : al_E p l s m meth c D h g cI cZ := ⟨⟨hK, hN, hX, hap, fun q h => Or.inl h, fun q h => Or.inr h⟩, S, B.returns, B.notSynchronized, hl⟩
  rw [lg_entry_eq]
  exact bl_body E hsm s.heap [] _ hP va_S.rf (lv_entry [.ref (h 0), .ref (g 0)] (n := 8) (Nat.le_of_ble_eq_true rfl)) (Nat.le_refl _)
