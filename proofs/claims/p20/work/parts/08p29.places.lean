/-! ===== 29: who comes before stands at a smaller place ===== -/
theorem pu_n_cong {P P' : Nat → Prop} : ∀ n, (∀ i, i < n → (P i ↔ P' i)) → pu_n P n = pu_n P' n := by
  intro n
  induction n with
  | zero => intro _; rfl
  | succ n ih =>
    intro h
    have e := ih (fun i hi => h i (by omega))
    by_cases c : P n
    · rw [pu_n_p c, pu_n_p ((h n (by omega)).mp c), e]
    · rw [pu_n_n c, pu_n_n (fun d => c ((h n (by omega)).mpr d)), e]
noncomputable def pu_pl (σ : tg_Mem) (x : Nat) : Nat := pu_n (fun i => fa_before σ (nI i) (nI x) = true) 30
theorem pu_pl_lt {σ : tg_Mem} {f g : Nat} (hf : f < 30) (hg : g < 30) (h : fa_before σ (nI f) (nI g) = true) : pu_pl σ f < pu_pl σ g := by
  unfold pu_pl
  rw [pu_n_cong (P' := fun i => i < 30 ∧ fa_before σ (nI i) (nI f) = true) 30 (fun i hi => ⟨fun c => ⟨hi, c⟩, fun c => c.2⟩), pu_n_cong (P := fun i => fa_before σ (nI i) (nI g) = true) (P' := fun i => i < 30 ∧ fa_before σ (nI i) (nI g) = true) 30 (fun i hi => ⟨fun c => ⟨hi, c⟩, fun c => c.2⟩)]
  exact pu_n_lt (fun i ⟨hi, c⟩ => ⟨hi, pu_bf_tr hi hf hg c h⟩) (j := f) ⟨hf, h⟩ (fun c => pu_bf_irr hf c.2) 30 hf
theorem pu_pl_inj {σ : tg_Mem} {f g : Nat} (hf : f < 30) (hg : g < 30) (h1 : σ 12 f ≠ 0) (h2 : σ 12 g ≠ 0) (h3 : σ 11 f = σ 11 g) (h : pu_pl σ f = pu_pl σ g) : f = g := by
  refine Classical.byContradiction fun hne => ?_
  rcases pu_bf_tot hf hg h1 h2 h3 hne with c | c
  · have := pu_pl_lt hf hg c; omega
  · have := pu_pl_lt hg hf c; omega
theorem pu_pl_30 {σ : tg_Mem} {f : Nat} (hf : f < 30) : pu_pl σ f < 30 := by
  have h := pu_n_lt (P := fun i => i < 30 ∧ fa_before σ (nI i) (nI f) = true) (P' := fun i => i < 30) (fun i c => c.1) (j := f) hf (fun c => pu_bf_irr hf c.2) 30 hf
  have h2 := pu_n_top (P := fun i => i < 30) 30
  unfold pu_pl
  rw [pu_n_cong (P' := fun i => i < 30 ∧ fa_before σ (nI i) (nI f) = true) 30 (fun i hi => ⟨fun c => ⟨hi, c⟩, fun c => c.2⟩)]
  omega
