/-! ===== 15: what the class answers to areAlike: never less than 0 without a throw ===== -/
def vn_N (σ : tg_Mem) : Prop := (∀ i, i < 30 → 0 ≤ σ 18 i) ∧ ∀ i, i < 30 → 0 ≤ σ 19 i
theorem vn_nn {x : Int32} (h : 0 ≤ x) : ¬ x < 0 := by
  rw [Int32.le_iff_toInt_le] at h
  rw [Int32.lt_iff_toInt_lt]
  omega
theorem vn_neg {ex : Option String} {v : Int32} (h : vl_k ex v < 0) (hv : ex = none → 0 ≤ v) : ex ≠ none := by
  intro e
  have h1 := hv e
  subst e
  exact vn_nn h1 h
theorem vn_pos {ex : Option String} {v : Int32} (h : ¬ vl_k ex v < 0) : ex = none := by
  cases ex with
  | none => rfl
  | some E => exact absurd (show vl_k (some E) v < 0 from by show (-9 : Int32) < 0; decide) h
theorem vn_root {σ : tg_Mem} {x : Int32} (hN : vn_N σ) (h : fx_root σ x = none) : 0 ≤ fa_rootAt σ x := by
  unfold fx_root at h
  by_cases h1 : fa_rootAt σ x = -1
  · rw [if_pos h1] at h; cases h
  · unfold fa_rootAt at h1 ⊢
    by_cases h2 : fa_id x = true
    · rw [if_pos h2] at h1 ⊢
      by_cases h3 : σ 20 0 ≤ x
      · rw [if_pos h3] at h1; exact absurd rfl h1
      · rw [if_neg h3]
        obtain ⟨j, hj, rfl⟩ := tr_idx h2
        rw [tr_cl hj]
        exact hN.2 j hj
    · rw [if_neg h2] at h1; exact absurd rfl h1
theorem vn_at {σ : tg_Mem} {x k : Int32} (h : fa_idAt σ x k ≠ -1) : fa_id (σ 17 x.toNatClampNeg + k) = true ∧ fa_idAt σ x k = σ 18 (σ 17 x.toNatClampNeg + k).toNatClampNeg := by
  unfold fa_idAt at h ⊢
  by_cases h1 : fa_cont σ x = true
  · rw [if_pos h1] at h ⊢
    by_cases h2 : k < 0
    · rw [if_pos h2] at h; exact absurd rfl h
    · rw [if_neg h2] at h ⊢
      by_cases h3 : k < σ 15 x.toNatClampNeg
      · rw [if_pos h3] at h ⊢
        by_cases h4 : fa_id (σ 17 x.toNatClampNeg + k) = true
        · rw [if_pos h4]; exact ⟨h4, rfl⟩
        · rw [if_neg h4] at h; exact absurd rfl h
      · rw [if_neg h3] at h; exact absurd rfl h
  · rw [if_neg h1] at h; exact absurd rfl h
theorem vn_ex {σ : tg_Mem} {x k : Int32} (h : fx_inTree σ x k = none) : fa_idAt σ x k ≠ -1 := by
  intro e
  unfold fx_inTree at h
  rw [if_pos e] at h
  cases h1 : fx_forest σ x with
  | none => rw [h1] at h; cases h
  | some E => rw [h1] at h; cases h
theorem vn_inTree {σ : tg_Mem} {x k : Int32} (hN : vn_N σ) (h : fx_inTree σ x k = none) : 0 ≤ fa_idAt σ x k := by
  obtain ⟨h1, h2⟩ := vn_at (vn_ex h)
  rw [h2]
  obtain ⟨j, hj, e⟩ := tr_idx h1
  rw [e, tr_cl hj]
  exact hN.1 j hj
/-- a walk through a tree ends behind 30 places -/
theorem vn_end {σ : tg_Mem} {x : Int32} {q : Nat} (h0 : fx_inTree σ x (nI 0) = none) (h : fx_inTree σ x (nI q) = none) (hq : q ≤ 30) : q < 30 := by
  obtain ⟨a1, -⟩ := vn_at (vn_ex h0)
  obtain ⟨b1, -⟩ := vn_at (vn_ex h)
  obtain ⟨j, hj, e⟩ := tr_idx a1
  rw [show nI 0 = 0 from nI_0, Int32.add_zero] at e
  rw [e, nI_add] at b1
  obtain ⟨i, hi, e2⟩ := tr_idx b1
  have h3 := (nI_eq (a := j + q) (b := i) (by omega) (by omega)).mp e2
  omega
