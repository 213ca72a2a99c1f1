/-! ===== 53: the law from its entry ===== -/
theorem pu_REL0 : pu_REL (fun _ _ => 0) tn_M0 := by
  have h7 : ∀ i, i < 30 → tn_M0 7 i = -1 := fun i hi => by
    show tg_it (fun i f => upd f i (-1)) (fun _ => 0) 30 i = -1
    exact pu_itupd (v := fun _ => -1) (f0 := fun _ => 0) 30 i hi
  refine ⟨fun i hi => ⟨Iff.rfl, Or.inr ⟨0, by decide, rfl⟩, Or.inr ⟨0, by decide, rfl⟩, Or.inl (Or.inl (h7 i hi)), fun _ => h7 i hi, fun c => absurd rfl c⟩, Or.inl ⟨fun i hi => ⟨rfl, rfl, rfl⟩, rfl⟩⟩
/-- cells apart, by a numbering -/
theorem lq_apart {A : Nat → Prop} {ws : va_W} {N : Nat} {f : Nat → Nat} (hD : va_D A ws) (hm : ws.map Prod.fst = (List.range N).map f) : (∀ i j, i < N → j < N → f i = f j → i = j) ∧ ∀ i, i < N → A (f i) := by
  have key : ∀ i, i < N → ∃ q : Nat × va_E, ws[i]? = some q ∧ q.1 = f i := by
    intro i hi
    have h1 : ((List.range N).map f)[i]? = some (f i) := by rw [List.getElem?_map, List.getElem?_range hi]; rfl
    rw [← hm, List.getElem?_map] at h1
    cases h2 : ws[i]? with
    | none => rw [h2] at h1; cases h1
    | some q => rw [h2] at h1; exact ⟨q, rfl, Option.some.inj h1⟩
  constructor
  · intro i j hi hj e
    obtain ⟨p, p1, p2⟩ := key i hi
    obtain ⟨q, q1, q2⟩ := key j hj
    exact hD.1 i j p q p1 q1 (by rw [p2, q2]; exact e)
  · intro i hi
    obtain ⟨p, p1, p2⟩ := key i hi
    rw [← p2]
    exact hD.2 i p p1
def lq_f (h g : Nat → Nat) (o : Nat) (i : Nat) : Nat := if i < 23 then h i else if i = 23 then o else g (i - 24)
theorem lq_dis {A : Nat → Prop} {h g : Nat → Nat} {o : Nat} {cI cZ cJ : ClassId} {u : Nat → Int64} {σ μ : tg_Mem} (hD : va_D A (tl_w h o cI cZ cJ u σ ++ tw_M g cI cZ μ)) : tl_dis h o ∧ tw_dis 15 g ∧ (∀ i, i < 15 → ¬ tl_A h o (g i)) ∧ (∀ q, tl_A h o q → A q) ∧ ∀ i, i < 15 → A (g i) := by
  obtain ⟨k1, k2⟩ := lq_apart (N := 39) (f := lq_f h g o) hD rfl
  have e1 : ∀ i, i < 23 → lq_f h g o i = h i := fun i hi => if_pos hi
  have e2 : lq_f h g o 23 = o := rfl
  have e3 : ∀ i, i < 15 → lq_f h g o (i + 24) = g i := fun i hi => by
    unfold lq_f
    rw [if_neg (by omega), if_neg (by omega)]; rfl
  refine ⟨⟨fun i j hi hj e => k1 i j (by omega) (by omega) (by rw [e1 i hi, e1 j hj]; exact e), fun i hi e => ?_⟩, fun i j hi hj e => ?_, fun i hi c => ?_, fun q c => ?_, fun i hi => by rw [← e3 i hi]; exact k2 _ (by omega)⟩
  · have := k1 i 23 (by omega) (by omega) (by rw [e1 i hi, e2]; exact e)
    omega
  · have := k1 (i + 24) (j + 24) (by omega) (by omega) (by rw [e3 i hi, e3 j hj]; exact e)
    omega
  · obtain ⟨j, hj, e⟩ := c
    unfold tl_h at e
    by_cases hj2 : j < 23
    · rw [if_pos hj2] at e
      have := k1 (i + 24) j (by omega) (by omega) (by rw [e3 i hi, e1 j hj2]; exact e)
      omega
    · rw [if_neg hj2] at e
      have := k1 (i + 24) 23 (by omega) (by omega) (by rw [e3 i hi, e2]; exact e)
      omega
  · obtain ⟨j, hj, e⟩ := c
    unfold tl_h at e
    by_cases hj2 : j < 23
    · rw [if_pos hj2] at e
      rw [e, ← e1 j hj2]; exact k2 j (by omega)
    · rw [if_neg hj2] at e
      rw [e, ← e2]; exact k2 23 (by omega)
theorem lq_tr {l : Launch} (h : l.flags = flags0) : l.stackTraces = false := by
  unfold Launch.stackTraces
  rw [h]
  decide +kernel
set_option maxHeartbeats 4000000 in
set_option maxRecDepth 100000 in
/-- from the entry, for every script of at most 3584 ints, the law comes to its end with true -/
theorem whole_start {p : Program} {e : Env} {s : State} {m : MethodId} {below : List Frame} {meth : Method} {c : Code} (l : Launch) (hflags : l.flags = flags0) {b L : Nat} {xs : Nat → Int32} (hL : L ≤ 3584) (C0 : lw_At p s m meth c b L xs) : W p l e room_1 s m #[Value.ref b] below meth c s.heap [] 0 0 (lw_Z below #[Value.ref b] s) (entryFrame m ([Value.ref b] : List Value).toArray 7) := by
  obtain ⟨hx, hb, hr, hml, hown, hts, hX, hbl, hlocks, hgv⟩ := id C0
  have hA : ∀ q : Nat, s.heap.size ≤ q → (fun q : Nat => s.heap.size ≤ q) q := fun _ h => h
  obtain ⟨D, cI, cZ, cJ, hK3⟩ := lq_K hts
  have hN := lq_NU hts
  have hTX := lq_TX hts hgv
  have hK : va_K D vwCl (tw_ty cI cZ) s := hK3.sub [0, 1] rfl
  have S : CallFix p m c code 7 s #[Value.ref b] lw_tbl RL := ⟨hx, hb, hml, hown, hts⟩
  have hS : va_S (fun q : Nat => s.heap.size ≤ q) s.heap s.heap [] := va_S.rf
  have hP : va_P D vwCl [] s.heap := fun k q h => by simp at h
  have hD : va_D (fun q : Nat => s.heap.size ≤ q) [] := ⟨fun i j p q h => by simp at h, fun k q h => by simp at h⟩
  have hl := lv_entry ([.ref b]) (n := 7) (Nat.le_of_ble_eq_true rfl)
  rw [lg_entry_eq]
  generalize (lg_sl ([.ref b]) ++ List.replicate (7 - (lg_sl ([.ref b])).length) Slot.unset).toArray = ls at hl ⊢
  have hl : lv_has ls 7 [(0, .ref b)] := hl
  refine va_new (ci := 2) (fs := [.null, .null]) (C := RX2) (T := TX2) (N := 2) S.1 S.2.1 hts tw_u2 tyX2 tyX2_ok S.2.2.2.1 (hts _ lq_c8) (hts _ lq_i2) (hts _ in_RX2) hK hP hD hS hA rfl (fun j hj => by rcases (show j = 0 ∨ j = 1 by omega) with rfl | rfl <;> rfl) (Nat.le_of_ble_eq_true rfl) (Nat.le_of_ble_eq_true rfl) dL_law_0 (fun q0 H hP hD hS => ?_)
  have hP : va_P D vwCl [tn_o q0 2 [.null, .null]] H := hP
  have hD : va_D (fun q : Nat => s.heap.size ≤ q) [tn_o q0 2 [.null, .null]] := hD
  refine lv_dup S.1 S.2.1 dL_law_3 rfl ?_
  have hPc := hP.sub (ws' := [tn_o q0 2 [.null, .null]]) [0] rfl
  have hDc := hD.sub (ws' := [tn_o q0 2 [.null, .null]]) [0] (by decide) rfl
  have hFc := va_free (wc := [tn_o q0 2 [.null, .null]]) hD hS hA [0] rfl
  refine va_callv (va_runI (As := []) (rest := [.ref q0]) S (k_X2_init l D cI cZ q0 H.size) (cwI 0 hts (lq_good in_RL (tw_gW co_X2_init rfl)) rfl rfl rfl (hts _ in_RX2) (hts _ ml_RL_67) (hts _ im_X2_init) rfl (by decide +kernel) ⟨Nat.le_of_ble_eq_true rfl, Nat.le_of_ble_eq_true rfl⟩) ⟨fun a U g mk q => by obtain ⟨b0, b1, bP, bK, bN, bD⟩ := q; exact ⟨b0, b1, bP, va_K.moved (u := U) (U := U.calling g mk a) (Vm.Alike.refl U.vm) bK, tg_NU.same (u := U) (U := U.calling g mk a) rfl bN, bD⟩, fun U hU hW => ⟨rfl, by rw [hU], by rw [hU]; exact hPc, va_K.moved hW.alike hK, hN.warm hW, hDc.weaken (fun _ _ _ _ => trivial)⟩⟩ rfl rfl hl.1 rfl (lv_room (Nat.le_of_ble_eq_true rfl)) dL_law_4 ⟨Nat.le_of_ble_eq_true rfl, Nat.le_of_ble_eq_true rfl⟩) hS (fun q _ h => hFc q h) hFc (fun h t H1 locs ht hvm hh0 hB hz1 hk1 hS => ?_)
  obtain ⟨hP1, hD1⟩ := hB
  rw [ht] at hP1
  obtain ⟨hP, hD⟩ := va_join (wr := []) (w1 := tw_T h cI cZ (fun _ _ => 0)) hP hD [0] [] rfl rfl (by decide) (by decide) hk1 hFc hP1 hD1
  generalize H1 = H at hP hS ⊢
  have hP : va_P D vwCl (tw_T h cI cZ (fun _ _ => 0)) H := hP
  have hD : va_D (fun q : Nat => s.heap.size ≤ q) (tw_T h cI cZ (fun _ _ => 0)) := hD
  refine lv_astore_n (lv' := [(1, .ref q0), (0, .ref b)]) S.1 S.2.1 dL_law_7 rfl hl (by decide) rfl (fun ls hl => ?_)
  refine va_new (ci := 3) (fs := [.null, .null, .null, .null, .null, .null, .null, .null, .null, .null, .null, .null, .null, .int 0, .null, .int 0]) (C := RX3) (T := TX3) (N := 16) S.1 S.2.1 hts tw_u3 tyX3 tyX3_ok S.2.2.2.1 (hts _ lq_c68) (hts _ lq_i3) (hts _ in_RX3) hK hP hD hS hA rfl (fun j hj => by rcases (show j = 0 ∨ j = 1 ∨ j = 2 ∨ j = 3 ∨ j = 4 ∨ j = 5 ∨ j = 6 ∨ j = 7 ∨ j = 8 ∨ j = 9 ∨ j = 10 ∨ j = 11 ∨ j = 12 ∨ j = 13 ∨ j = 14 ∨ j = 15 by omega) with rfl | rfl | rfl | rfl | rfl | rfl | rfl | rfl | rfl | rfl | rfl | rfl | rfl | rfl | rfl | rfl <;> rfl) (Nat.le_of_ble_eq_true rfl) (Nat.le_of_ble_eq_true rfl) dL_law_8 (fun q1 H hP hD hS => ?_)
  refine lv_dup S.1 S.2.1 dL_law_11 rfl ?_
  have hPc := hP.sub (ws' := [tn_o q1 3 [.null, .null, .null, .null, .null, .null, .null, .null, .null, .null, .null, .null, .null, .int 0, .null, .int 0]]) [23] rfl
  have hDc := hD.sub (ws' := [tn_o q1 3 [.null, .null, .null, .null, .null, .null, .null, .null, .null, .null, .null, .null, .null, .int 0, .null, .int 0]]) [23] (by decide) rfl
  have hFc := va_free (wc := [tn_o q1 3 [.null, .null, .null, .null, .null, .null, .null, .null, .null, .null, .null, .null, .null, .int 0, .null, .int 0]]) hD hS hA [23] rfl
  refine va_callv (va_runI (As := []) (rest := [.ref q1]) S (k_X3_init l D cI cZ q1 H.size) (cwI 0 hts (lq_good in_RL (tw_gW co_X3_init rfl)) rfl rfl rfl (hts _ in_RX3) (hts _ ml_RL_70) (hts _ im_X3_init) rfl (by decide +kernel) ⟨Nat.le_of_ble_eq_true rfl, Nat.le_of_ble_eq_true rfl⟩) ⟨fun a U g mk q => by obtain ⟨b0, b1, bP, bK, bD⟩ := q; exact ⟨b0, b1, bP, va_K.moved (u := U) (U := U.calling g mk a) (Vm.Alike.refl U.vm) bK, bD⟩, fun U hU hW => ⟨rfl, by rw [hU], by rw [hU]; exact hPc, va_K.moved hW.alike hK, hDc.weaken (fun _ _ _ _ => trivial)⟩⟩ rfl rfl hl.1 rfl (lv_room (Nat.le_of_ble_eq_true rfl)) dL_law_12 ⟨Nat.le_of_ble_eq_true rfl, Nat.le_of_ble_eq_true rfl⟩) hS (fun q _ h => hFc q h) hFc (fun g t H1 locs ht hvm hg0 hB hz1 hk1 hS => ?_)
  obtain ⟨hP1, hD1⟩ := hB
  rw [ht] at hP1
  obtain ⟨hP, hD⟩ := va_join (wr := tw_T h cI cZ (fun _ _ => 0)) (w1 := tw_M g cI cZ tn_M0) hP hD [23] [0, 1, 2, 3, 4, 5, 6, 7, 8, 9, 10, 11, 12, 13, 14, 15, 16, 17, 18, 19, 20, 21, 22] rfl rfl (by decide) (by decide) hk1 hFc hP1 hD1
  generalize H1 = H at hP hS ⊢
  refine lv_astore_n (lv' := [(2, .ref q1), (1, .ref q0), (0, .ref b)]) S.1 S.2.1 dL_law_15 rfl hl (by decide) rfl (fun ls hl => ?_)
  refine lv_iconst (v := 1) S.1 S.2.1 dL_law_16 (by decide) ?_
  refine va_newa (atype := .long) (N' := 1) (a0 := (1, .inr (.inl (fun _ => 0)))) S.1 S.2.1 (hts _ lq_aJ) rfl hK3 hP hD hS hA (fun cA => rfl) (by decide) (by decide) (Nat.le_of_ble_eq_true rfl) (Nat.le_of_ble_eq_true rfl) (Nat.le_of_ble_eq_true rfl) dL_law_17 (fun o cA H hK4 hP hD hS => ?_)
  have eJ : cA = cJ := Option.some.inj ((show s.vm.findClass _ = some cA from (hK4.2 3 _ rfl).2).symm.trans (show s.vm.findClass _ = some cJ from (hK3.2 2 _ rfl).2))
  subst eJ
  refine lv_astore_n (lv' := [(3, .ref o), (2, .ref q1), (1, .ref q0), (0, .ref b)]) S.1 S.2.1 dL_law_19 rfl hl (by decide) rfl (fun ls hl => ?_)
  refine lv_iconst (v := 0) S.1 S.2.1 dL_law_20 (by decide) ?_
  refine lv_istore (lv' := [(4, .int 0), (3, .ref o), (2, .ref q1), (1, .ref q0), (0, .ref b)]) S.1 S.2.1 dL_law_21 hl (by decide) rfl (fun ls hl => ?_)
  have hP9 := hP.sub (ws' := tl_w h o cI cZ cA (fun _ => 0) (fun _ _ => 0) ++ tw_M g cI cZ tn_M0) [0, 1, 2, 3, 4, 5, 6, 7, 8, 9, 10, 11, 12, 13, 14, 15, 16, 17, 18, 19, 20, 21, 22, 38, 23, 24, 25, 26, 27, 28, 29, 30, 31, 32, 33, 34, 35, 36, 37] rfl
  have hD9 := hD.sub (ws' := tl_w h o cI cZ cA (fun _ => 0) (fun _ _ => 0) ++ tw_M g cI cZ tn_M0) [0, 1, 2, 3, 4, 5, 6, 7, 8, 9, 10, 11, 12, 13, 14, 15, 16, 17, 18, 19, 20, 21, 22, 38, 23, 24, 25, 26, 27, 28, 29, 30, 31, 32, 33, 34, 35, 36, 37] (by decide) rfl
  obtain ⟨d1, d2, d3, d4, d5⟩ := lq_dis hD9
  subst hh0
  subst hg0
  have E : lq_E l p s m meth c D h g o cI cZ cA b L xs := ⟨C0, hK3, hN, hTX, d1, d2, d3, d4, d5, lq_tr hflags⟩
  exact lq_loop E hL (L + 1) 0 (fun _ => 0) (fun _ _ => 0) tn_M0 (by omega) (by omega) pu_REL0 H locs ls hP9 hS (lv_sub hl [4, 3, 2, 1, 0] rfl)
