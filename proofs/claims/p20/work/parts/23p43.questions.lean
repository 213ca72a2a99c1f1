/-! ===== 43: state, parent, children, roots, depth: alike ===== -/
theorem pu_isF {σ μ : tg_Mem} (hR : pu_REL σ μ) (x : Int32) : tl_k (fx_forest σ x) = (if fb_lkB μ x = true then 0 else if fb_in x 0 29 = true then 2 else 1) ∧ (fb_lkB μ x = false → ∃ E, fx_forest σ x = some E) ∧ (fb_lkB μ x = true → fx_forest σ x = none ∧ ∃ j, j < 30 ∧ x = nI j ∧ pu_S σ j) := by
  unfold fx_forest fb_lkB
  rw [pu_fxid, fb_fo11]
  cases hi : fb_in x 0 29 with
  | false =>
    rw [if_neg Bool.false_ne_true, if_neg Bool.false_ne_true]
    exact ⟨tl_kI0, fun _ => ⟨_, rfl⟩, fun c => by cases c⟩
  | true =>
    rw [if_pos rfl, if_pos rfl]
    obtain ⟨j, hj, rfl⟩ := pu_inN (n := 29) (by decide) hi
    have hj : j < 30 := by omega
    have hh : fa_cont σ (nI j) = true ↔ (fb_AG μ).2 j ≠ 0 := (pu_cont hj).trans (not_congr ((pu_A1 hR).2.1 j hj))
    rw [tr_cl hj]
    by_cases c : (fb_AG μ).2 j = 0
    · rw [if_neg (fun d => hh.mp d c), decide_eq_true c]
      exact ⟨tl_kO0, fun _ => ⟨_, rfl⟩, fun d => by cases d⟩
    · rw [if_pos (hh.mpr c), decide_eq_false c]
      exact ⟨rfl, fun d => (by cases d), fun _ => ⟨rfl, j, hj, rfl, (pu_cont hj).mp (hh.mpr c)⟩⟩
theorem fb_lkSo (μ : tg_Mem) (x : Int32) {a : Nat} (h : a < 8) : fb_lkS μ x a = μ a := by
  unfold fb_lkS
  split
  · unfold fb_lkT
    rw [tg_upA_n (by omega), tg_upA_n (by omega), tg_upA_n (by omega), tg_upA_n (by omega), fb_fo μ h]
  · unfold fb_lkF
    rw [tg_upA_n (by omega), fb_fo μ h]
theorem fb_lkS15 (μ : tg_Mem) (x : Int32) : fb_lkS μ x 15 0 = if fb_lkB μ x = true then 0 else if fb_in x 0 29 = true then 2 else 1 := by
  unfold fb_lkS
  by_cases c : fb_lkB μ x = true
  · rw [if_pos c, if_pos c]; rfl
  · rw [if_neg c, if_neg c]; rfl
/-- a question about an id in the forest -/
theorem pu_qOK {σ μ : tg_Mem} (hR : pu_REL σ μ) (x : Int32) {a b : Int32} (h : fb_lkB μ x = true → ∀ j, j < 30 → x = nI j → pu_S σ j → a = b) : pu_OK (fx_forest σ x) (tl_k (fx_forest σ x)) σ σ (fb_lkS μ x) a b := by
  obtain ⟨h1, h2, h3⟩ := pu_isF hR x
  rw [h1, ← fb_lkS15]
  have hc := pu_RELc hR (μ' := fb_lkS μ x) (fun a ha => fb_lkSo μ x ha)
  cases c : fb_lkB μ x with
  | false =>
    obtain ⟨E, hE⟩ := h2 c
    exact pu_okS hE rfl hc
  | true =>
    obtain ⟨e, j, hj, ex, hS⟩ := h3 c
    exact pu_okN e rfl (h c j hj ex hS) hc
/-- the tree of an id in the forest, listed -/
theorem pu_tree {σ μ : tg_Mem} (hR : pu_REL σ μ) {x : Int32} (hB : fb_lkB μ x = true) : ∃ j, j < 30 ∧ x = nI j ∧ pu_S σ j ∧ pu_G σ ∧ pu_A σ μ ∧ fb_tr (fb_forest μ) x = some (fb_trR (fb_forest μ) x) ∧ (fb_trR (fb_forest μ) x).1 = nI (fb_n μ x) ∧ fb_n μ x = pu_z σ j ∧ pu_Row σ j (fb_trR (fb_forest μ) x).2.1 := by
  obtain ⟨-, j, hj, rfl, hS⟩ := (pu_isF hR x).2.2 hB
  obtain ⟨hG, hA⟩ := pu_Gof hR hj hS
  obtain ⟨r, h1, h2, h3⟩ := pu_row hR.1 hG hA hj hS (fb_forest μ 12) (fb_forest μ 13)
  have ht : fb_tr (fb_forest μ) (nI j) = some r := by
    unfold fb_tr
    rw [fb_fo10, fb_fo4]
    exact h1
  have hr : fb_trR (fb_forest μ) (nI j) = r := by unfold fb_trR; rw [ht]; rfl
  have hz : fb_n μ (nI j) = pu_z σ j := by
    unfold fb_n
    rw [hr, h2]
    exact tg_cl (Nat.lt_of_le_of_lt pu_z30 (by decide))
  refine ⟨j, hj, rfl, hS, hG, hA, ?_, ?_, hz, ?_⟩
  · rw [ht, hr]
  · rw [hr, h2, hz]
  · rw [hr]; exact h3
theorem pu_HT {σ μ : tg_Mem} (hR : pu_REL σ μ) (x : Int32) : fb_lkB μ x = true → fb_tr (fb_forest μ) x = some (fb_trR (fb_forest μ) x) := fun hB => by
  obtain ⟨j, -, -, -, -, -, h, -⟩ := pu_tree hR hB
  exact h
theorem pu_HC {σ μ : tg_Mem} (hR : pu_REL σ μ) (x : Int32) : fb_lkB μ x = true → (fb_trR (fb_forest μ) x).1 = nI (fb_n μ x) ∧ fb_n μ x ≤ 30 ∧ ∀ k, k < fb_n μ x → vp_in ((fb_trR (fb_forest μ) x).2.1 k) 30 := fun hB => by
  obtain ⟨j, -, -, -, -, -, -, h1, h2, h3⟩ := pu_tree hR hB
  refine ⟨h1, by rw [h2]; exact pu_z30, fun k hk => ?_⟩
  obtain ⟨y, y1, y2, -⟩ := h3 k (by omega)
  rw [y2]
  exact tg_in y1 (by decide)
theorem pu_parentK {σ μ : tg_Mem} (hR : pu_REL σ μ) (x : Int32) : pu_OK (fx_forest σ x) (tl_k (fx_forest σ x)) σ σ (fb_lkS μ x) (fa_par σ x) (if fb_lkB μ x = true then fb_forest μ 10 x.toNatClampNeg else 0) := by
  refine pu_qOK hR x (fun hB j hj e hS => ?_)
  obtain ⟨hG, hA⟩ := pu_Gof hR hj hS
  rw [if_pos hB, e, pu_parE hG.1 hj, tr_cl hj, hA.2.1 j hj]
  rfl
theorem pu_chE {α : tb_A} {x : Int32} : tg_it (fb_chS true α x) 0 30 = nI (pu_c α x 30) := by
  have h := tg_inv (fun n (k : Int32) => k = nI (pu_c α x n)) (fb_chS true α x) 30 0 rfl ?_ 30 (Nat.le_refl _)
  · exact h
  intro n k hn hk
  unfold fb_chS pu_c
  rw [hk, if_pos rfl]
  by_cases e : α n = x
  · rw [if_pos e, if_pos e, nI_succ]
  · rw [if_neg e, if_neg e]; exact Int32.add_zero _
theorem pu_childrenK {σ μ : tg_Mem} (hR : pu_REL σ μ) (x : Int32) : pu_OK (fx_forest σ x) (tl_k (fx_forest σ x)) σ σ (fb_lkS μ x) (fa_nch σ x) (tg_it (fb_chS (fb_lkB μ x) (fb_lkS μ x 10) x) 0 30) := by
  refine pu_qOK hR x (fun hB j hj e hS => ?_)
  obtain ⟨hG, hA⟩ := pu_Gof hR hj hS
  rw [hB, pu_chE, pu_nch, fb_lkS_10, fb_fo10, pu_c_eq 30 (fun k hk => hA.2.1 k hk)]
theorem pu_rootsK {σ μ : tg_Mem} (hR : pu_REL σ μ) : σ 20 0 = fb_rn (fb_forest (tg_upA μ 15 (fun _ => 0)) 11) (fb_forest (tg_upA μ 15 (fun _ => 0)) 10) ∧ pu_REL σ (fb_forest (tg_upA μ 15 (fun _ => 0))) := by
  have h1 : ∀ a, a < 8 → tg_upA μ 15 (fun _ => 0) a = μ a := fun a ha => tg_upA_n (by omega)
  have h2 := (pu_A1 (pu_RELc hR h1)).2.2
  exact ⟨h2, pu_RELc hR (fun a ha => (fb_fo _ ha).trans (h1 a ha))⟩
theorem pu_stateK {σ μ : tg_Mem} (hR : pu_REL σ μ) (x : Int32) : (fb_in x 0 29 = true → fb_hyp (μ 0) (μ 1) (μ 2) (μ 7) (μ 8) (μ 9)) ∧ pu_OK (fx_id x) (tl_k (fx_id x)) σ σ (if fb_in x 0 29 = true then fb_forest (fb_st μ x) else fb_st μ x) (fx_state σ x) (if fb_in x 0 29 = true then (if fb_forest (fb_st μ x) 8 x.toNatClampNeg = 0 then 0 else if fb_forest (fb_st μ x) 0 x.toNatClampNeg = 0 then (if fb_forest (fb_st μ x) 11 x.toNatClampNeg = 0 then 1 else 2) else 3) else 0) := by
  refine ⟨fun _ => pu_hyp hR.1, ?_⟩
  have hst : ∀ a, a < 8 → fb_st μ x a = μ a := fun a ha => tg_upA_n (by omega)
  rw [pu_fxid]
  cases c : fb_in x 0 29 with
  | false =>
    rw [if_neg Bool.false_ne_true, if_neg Bool.false_ne_true, if_neg Bool.false_ne_true]
    refine pu_okS rfl ?_ (pu_RELc hR hst)
    rw [tl_kI0]
    show fb_thr1 (fb_in x 0 29) = 1
    rw [c]; rfl
  | true =>
    rw [if_pos rfl, if_pos rfl, if_pos rfl]
    obtain ⟨j, hj, rfl⟩ := pu_inN (n := 29) (by decide) c
    have hj : j < 30 := by omega
    refine pu_okN rfl ?_ ?_ (pu_RELc hR (fun a ha => (fb_fo _ ha).trans (hst a ha)))
    · show fb_thr1 (fb_in (nI j) 0 29) = 0
      rw [c]; rfl
    · have hR2 := pu_RELc hR hst
      obtain ⟨k1, k2, -⟩ := pu_A1 hR2
      rw [fb_fo8, fb_fo0, fb_fo11, hst 0 (by decide), tr_cl hj]
      unfold fx_state
      have hh : fa_holds σ (nI j) = true ↔ μ 0 j ≠ 0 := (pu_holds hj).trans (not_congr (hR.1 j hj).1)
      have hc : fa_cont σ (nI j) = true ↔ (fb_AG (fb_st μ (nI j))).2 j ≠ 0 := (pu_cont hj).trans (not_congr (k2 j hj))
      have hk : fa_knows σ (nI j) = true ↔ fb_K (fb_st μ (nI j)) j ≠ 0 := by
        refine Iff.trans ?_ (not_congr (k1 j hj))
        unfold fa_knows
        rw [fa_id_nI hj, tr_cl hj]
        simp
      by_cases h0 : μ 0 j = 0
      · rw [if_neg (fun d => hh.mp d h0), if_pos h0]
        by_cases h1 : (fb_AG (fb_st μ (nI j))).2 j = 0
        · rw [if_neg (fun d => hc.mp d h1), if_pos h1]
          by_cases h2 : fb_K (fb_st μ (nI j)) j = 0
          · rw [if_neg (fun d => hk.mp d h2), if_pos h2]
          · rw [if_pos (hk.mpr h2), if_neg h2]
        · rw [if_pos (hc.mpr h1), if_neg h1, if_neg (pu_forK hR2.1 hj h1)]
      · rw [if_pos (hh.mpr h0), if_neg h0, if_neg (pu_letK hR2.1 hj (by rw [hst 0 (by decide)]; exact h0))]
theorem pu_stepN {σ : tg_Mem} : ∀ n i, fa_stepF σ n i (-1) = nI i := by
  intro n i
  cases n with
  | zero => rfl
  | succ n => unfold fa_stepF; rw [tr_id_m1]; rfl
theorem pu_dpF {σ : tg_Mem} {α : tb_A} (hF : pu_F0 σ) (hA : ∀ j, j < 30 → σ 11 j = α j) : ∀ (n i a : Nat), a < 30 → tr_anc (pu_u σ) n a = none → fb_dpF α (n + 1) (nI a, nI i) = some (fa_stepF σ n i (nI a)) := by
  intro n
  induction n with
  | zero => intro i a _ h; cases h
  | succ n ih =>
    intro i a ha h
    unfold fb_dpF fa_stepF
    dsimp only
    rw [if_neg (tr_nI1 ha), if_pos (fa_id_nI ha), if_pos (fa_id_nI ha), tr_cl ha, pu_parE hF ha, ← hA a ha, ← nI_succ]
    cases e : pu_u σ a with
    | none =>
      rw [tr_val_none hF.1 ha e, pu_stepN]
      unfold fb_dpF
      rw [if_pos rfl]
    | some y =>
      obtain ⟨e1, hy⟩ := tr_up_s e
      rw [tr_anc_s e] at h
      rw [e1]
      exact ih (i + 1) y hy h
theorem pu_depthE {σ μ : tg_Mem} (hR : pu_REL σ μ) (x : Int32) (hB : fb_lkB μ x = true) : fb_dpF (fb_lkS μ x 10) 31 (fb_lkS μ x 10 x.toNatClampNeg, 0) = some (fa_depth σ x) := by
  obtain ⟨-, j, hj, rfl, hS⟩ := (pu_isF hR x).2.2 hB
  obtain ⟨hG, hA⟩ := pu_Gof hR hj hS
  rw [fb_lkS_10, fb_fo10, tr_cl hj]
  unfold fa_depth
  rw [pu_parE hG.1 hj, ← hA.2.1 j hj]
  cases e : pu_u σ j with
  | none =>
    rw [tr_val_none hG.1.1 hj e, pu_stepN]
    unfold fb_dpF
    rw [if_pos rfl]; rfl
  | some y =>
    obtain ⟨e1, hy⟩ := tr_up_s e
    rw [e1]
    exact pu_dpF hG.1 hA.2.1 30 0 y hy (tr_len (tr_up_rng _ 30) hG.1.2.1 hy)
theorem pu_depthK {σ μ : tg_Mem} (hR : pu_REL σ μ) (x : Int32) : fb_dpF (fb_lkS μ x 10) 31 (if fb_lkB μ x = true then fb_lkS μ x 10 x.toNatClampNeg else -1, 0) = some (fb_dp μ x) ∧ pu_OK (fx_forest σ x) (tl_k (fx_forest σ x)) σ σ (fb_lkS μ x) (fa_depth σ x) (fb_dp μ x) := by
  have key : fb_lkB μ x = true → fb_dp μ x = fa_depth σ x := fun hB => by
    unfold fb_dp
    rw [if_pos hB, pu_depthE hR x hB]; rfl
  refine ⟨?_, pu_qOK hR x (fun hB j hj e hS => (key hB).symm)⟩
  by_cases hB : fb_lkB μ x = true
  · rw [key hB, if_pos hB, pu_depthE hR x hB]
  · unfold fb_dp
    rw [if_neg hB]
    have : fb_dpF (fb_lkS μ x 10) 31 (-1, 0) = some 0 := by unfold fb_dpF; rw [if_pos rfl]
    rw [this]; rfl
