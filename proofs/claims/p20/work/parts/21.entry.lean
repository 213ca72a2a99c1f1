/-! ===== 21: the law from its entry, in the larger room ===== -/
/-- cells apart, by a numbering -/
theorem lq_apart {A : Nat → Prop} {ws : va_W} {N : Nat} {f : Nat → Nat} (hD : va_D A ws) (hm : ws.map Prod.fst = (List.range N).map f) : (∀ i j, i < N → j < N → f i = f j → i = j) ∧ ∀ i, i < N → A (f i) := by
  have key : ∀ i, i < N → ∃ q : Nat × va_E, ws[i]? = some q ∧ q.1 = f i := by
    intro i hi
    have h1 : ((List.range N).map f)[i]? = some (f i) := by rw [List.getElem?_map, List.getElem?_range hi]; rfl
    rw [← hm, List.getElem?_map] at h1
    cases h2 : ws[i]? with
    | none => rw [h2] at h1; cases h1
    | some q => rw [h2] at h1; exact ⟨q, rfl, Option.some.inj h1⟩
  constructor
  · intro i j hi hj e
    obtain ⟨p, p1, p2⟩ := key i hi
    obtain ⟨q, q1, q2⟩ := key j hj
    exact hD.1 i j p q p1 q1 (by rw [p2, q2]; exact e)
  · intro i hi
    obtain ⟨p, p1, p2⟩ := key i hi
    rw [← p2]
    exact hD.2 i p p1
def lq_f (h g : Nat → Nat) (i : Nat) : Nat := if i < 23 then h i else g (i - 23)
theorem lq_dis {A : Nat → Prop} {h g : Nat → Nat} {cI cZ : ClassId} {σ τ : tg_Mem} (hD : va_D A (vg_W h g cI cZ σ τ)) : vg_ap h g ∧ (∀ q, tw_A 23 h q → A q) ∧ ∀ q, tw_A 23 g q → A q := by
  obtain ⟨k1, k2⟩ := lq_apart (N := 46) (f := lq_f h g) hD rfl
  have e1 : ∀ i, i < 23 → lq_f h g i = h i := fun i hi => if_pos hi
  have e3 : ∀ i, i < 23 → lq_f h g (i + 23) = g i := fun i hi => by
    unfold lq_f
    rw [if_neg (by omega)]; rfl
  refine ⟨⟨fun i j hi hj e => k1 i j (by omega) (by omega) (by rw [e1 i hi, e1 j hj]; exact e), fun i j hi hj e => ?_, fun i j hi hj c => ?_⟩, fun q c => ?_, fun q c => ?_⟩
  · have := k1 (i + 23) (j + 23) (by omega) (by omega) (by rw [e3 i hi, e3 j hj]; exact e)
    omega
  · have := k1 i (j + 23) (by omega) (by omega) (by rw [e1 i hi, e3 j hj]; exact c)
    omega
  · obtain ⟨j, hj, e⟩ := c
    rw [e, ← e1 j hj]; exact k2 j (by omega)
  · obtain ⟨j, hj, e⟩ := c
    rw [e, ← e3 j hj]; exact k2 (j + 23) (by omega)
theorem lq_tr {l : Launch} (h : l.flags = flags0) : l.stackTraces = false := by
  unfold Launch.stackTraces
  rw [h]
  decide +kernel
set_option maxHeartbeats 4000000 in
set_option maxRecDepth 100000 in
theorem vr_start {p : Program} {e : Env} {s : State} {m : MethodId} {below : List Frame} {meth : Method} {c : Code} (l : Launch) (hflags : l.flags = flags0) {b : Nat} {xs : Nat → Int32} (hz : ∀ j, j < 49 → xs j = 0) (C0 : lw_At p s m meth c b 49 xs) : W p l e vr_rm s m #[Value.ref b] below meth c s.heap [] 0 0 (MQ below vr_Q #[Value.ref b] s 15000 91000 (vr_A s)) (entryFrame m ([Value.ref b] : List Value).toArray 10) := by
  obtain ⟨hx, hb, hr, hml, hown, hts, hX, hbl, hlocks, hgv⟩ := id C0
  have hA : ∀ q : Nat, s.heap.size ≤ q → vr_A s q := fun _ h => h
  obtain ⟨D, cI, cZ, hK⟩ := lq_K hts
  have hN := lq_NU hts
  have hTX := lq_TX hts hgv
  have S : CallFix p m c code 10 s #[Value.ref b] lw_tbl RL := ⟨hx, hb, hml, hown, hts⟩
  have hS : va_S (vr_A s) s.heap s.heap [] := va_S.rf
  have hP : va_P D vwCl [] s.heap := fun k q h => by simp at h
  have hD : va_D (vr_A s) [] := ⟨fun i j p q h => by simp at h, fun k q h => by simp at h⟩
  have hl := lv_entry ([.ref b]) (n := 10) (Nat.le_of_ble_eq_true rfl)
  rw [lg_entry_eq]
  generalize (lg_sl ([.ref b]) ++ List.replicate (10 - (lg_sl ([.ref b])).length) Slot.unset).toArray = ls at hl ⊢
  have hl : lv_has ls 10 [(0, .ref b)] := hl
  refine va_new (ci := 2) (fs := [.null, .null]) (C := RX2) (T := TX2) (N := 2) S.1 S.2.1 hts tw_u2 tyX2 tyX2_ok S.2.2.2.1 (hts _ lq_c9) (hts _ lq_i2) (hts _ in_RX2) hK hP hD hS hA rfl (fun j hj => by rcases (show j = 0 ∨ j = 1 by omega) with rfl | rfl <;> rfl) (Nat.le_of_ble_eq_true rfl) (Nat.le_of_ble_eq_true rfl) dL_law_0 (fun q0 H hP hD hS => ?_)
  have hP : va_P D vwCl [tn_o q0 2 [.null, .null]] H := hP
  have hD : va_D (vr_A s) [tn_o q0 2 [.null, .null]] := hD
  refine lv_dup S.1 S.2.1 dL_law_3 rfl ?_
  have hPc := hP.sub (ws' := [tn_o q0 2 [.null, .null]]) [0] rfl
  have hDc := hD.sub (ws' := [tn_o q0 2 [.null, .null]]) [0] (by decide) rfl
  have hFc := va_free (wc := [tn_o q0 2 [.null, .null]]) hD hS hA [0] rfl
  refine va_callv (va_runI (As := []) (rest := [.ref q0]) S (k_X2_init l D cI cZ q0 H.size) (cwI 0 hts (lq_good in_RL (tw_gW co_X2_init rfl)) rfl rfl rfl (hts _ in_RX2) (hts _ ml_RL_68) (hts _ im_X2_init) rfl (by decide +kernel) ⟨Nat.le_of_ble_eq_true rfl, Nat.le_of_ble_eq_true rfl⟩) ⟨fun a U g mk q => by obtain ⟨b0, b1, bP, bK, bN, bD⟩ := q; exact ⟨b0, b1, bP, va_K.moved (u := U) (U := U.calling g mk a) (Vm.Alike.refl U.vm) bK, tg_NU.same (u := U) (U := U.calling g mk a) rfl bN, bD⟩, fun U hU hW => ⟨rfl, by rw [hU], by rw [hU]; exact hPc, va_K.moved hW.alike hK, hN.warm hW, hDc.weaken (fun _ _ _ _ => trivial)⟩⟩ rfl rfl hl.1 rfl (lv_room (Nat.le_of_ble_eq_true rfl)) dL_law_4 ⟨Nat.le_of_ble_eq_true rfl, Nat.le_of_ble_eq_true rfl⟩) hS (fun q _ h => hFc q h) hFc (fun h t H1 locs ht hvm hh0 hB hz1 hk1 hS => ?_)
  obtain ⟨hP1, hD1⟩ := hB
  rw [ht] at hP1
  obtain ⟨hP, hD⟩ := va_join (wr := []) (w1 := tw_T h cI cZ (fun _ _ => 0)) hP hD [0] [] rfl rfl (by decide) (by decide) hk1 hFc hP1 hD1
  generalize H1 = H at hP hS ⊢
  have hP : va_P D vwCl (tw_T h cI cZ (fun _ _ => 0)) H := hP
  have hD : va_D (vr_A s) (tw_T h cI cZ (fun _ _ => 0)) := hD
  refine lv_astore_n (lv' := [(1, .ref q0), (0, .ref b)]) S.1 S.2.1 dL_law_7 rfl hl (by decide) rfl (fun ls hl => ?_)
  refine va_new (ci := 2) (fs := [.null, .null]) (C := RX2) (T := TX2) (N := 2) S.1 S.2.1 hts tw_u2 tyX2 tyX2_ok S.2.2.2.1 (hts _ lq_c9) (hts _ lq_i2) (hts _ in_RX2) hK hP hD hS hA rfl (fun j hj => by rcases (show j = 0 ∨ j = 1 by omega) with rfl | rfl <;> rfl) (Nat.le_of_ble_eq_true rfl) (Nat.le_of_ble_eq_true rfl) dL_law_8 (fun q1 H hP hD hS => ?_)
  refine lv_dup S.1 S.2.1 dL_law_11 rfl ?_
  have hPc := hP.sub (ws' := [tn_o q1 2 [.null, .null]]) [23] rfl
  have hDc := hD.sub (ws' := [tn_o q1 2 [.null, .null]]) [23] (by decide) rfl
  have hFc := va_free (wc := [tn_o q1 2 [.null, .null]]) hD hS hA [23] rfl
  refine va_callv (va_runI (As := []) (rest := [.ref q1]) S (k_X2_init l D cI cZ q1 H.size) (cwI 0 hts (lq_good in_RL (tw_gW co_X2_init rfl)) rfl rfl rfl (hts _ in_RX2) (hts _ ml_RL_68) (hts _ im_X2_init) rfl (by decide +kernel) ⟨Nat.le_of_ble_eq_true rfl, Nat.le_of_ble_eq_true rfl⟩) ⟨fun a U g mk q => by obtain ⟨b0, b1, bP, bK, bN, bD⟩ := q; exact ⟨b0, b1, bP, va_K.moved (u := U) (U := U.calling g mk a) (Vm.Alike.refl U.vm) bK, tg_NU.same (u := U) (U := U.calling g mk a) rfl bN, bD⟩, fun U hU hW => ⟨rfl, by rw [hU], by rw [hU]; exact hPc, va_K.moved hW.alike hK, hN.warm hW, hDc.weaken (fun _ _ _ _ => trivial)⟩⟩ rfl rfl hl.1 rfl (lv_room (Nat.le_of_ble_eq_true rfl)) dL_law_12 ⟨Nat.le_of_ble_eq_true rfl, Nat.le_of_ble_eq_true rfl⟩) hS (fun q _ h => hFc q h) hFc (fun g t H1 locs ht hvm hg0 hB hz1 hk1 hS => ?_)
  obtain ⟨hP1, hD1⟩ := hB
  rw [ht] at hP1
  obtain ⟨hP, hD⟩ := va_join (wr := tw_T h cI cZ (fun _ _ => 0)) (w1 := tw_T g cI cZ (fun _ _ => 0)) hP hD [23] [0, 1, 2, 3, 4, 5, 6, 7, 8, 9, 10, 11, 12, 13, 14, 15, 16, 17, 18, 19, 20, 21, 22] rfl rfl (by decide) (by decide) hk1 hFc hP1 hD1
  generalize H1 = H at hP hS ⊢
  refine lv_astore_n (lv' := [(2, .ref q1), (1, .ref q0), (0, .ref b)]) S.1 S.2.1 dL_law_15 rfl hl (by decide) rfl (fun ls hl => ?_)
  have hP9 := hP.sub (ws' := vg_W h g cI cZ (fun _ _ => 0) (fun _ _ => 0)) [0, 1, 2, 3, 4, 5, 6, 7, 8, 9, 10, 11, 12, 13, 14, 15, 16, 17, 18, 19, 20, 21, 22, 23, 24, 25, 26, 27, 28, 29, 30, 31, 32, 33, 34, 35, 36, 37, 38, 39, 40, 41, 42, 43, 44, 45] rfl
  have hD9 := hD.sub (ws' := vg_W h g cI cZ (fun _ _ => 0) (fun _ _ => 0)) [0, 1, 2, 3, 4, 5, 6, 7, 8, 9, 10, 11, 12, 13, 14, 15, 16, 17, 18, 19, 20, 21, 22, 23, 24, 25, 26, 27, 28, 29, 30, 31, 32, 33, 34, 35, 36, 37, 38, 39, 40, 41, 42, 43, 44, 45] (by decide) rfl
  obtain ⟨d1, d2, d3⟩ := lq_dis hD9
  subst hh0
  subst hg0
  have E : vr_E p l s m meth c D h g cI cZ b xs := ⟨⟨hK, hN, hTX, d1, d2, d3⟩, S, hr, hlocks, lq_tr hflags, hX, hbl, hz⟩
  exact W.widen (Nat.le_of_ble_eq_true rfl) (Nat.le_of_ble_eq_true rfl) (vr_P0 E H locs ls hP9 hS (lv_sub hl [2, 1, 0] rfl) hS.1)
