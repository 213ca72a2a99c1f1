/-! ===== 28: before is an order; places differ ===== -/
theorem pu_n_le {P P' : Nat → Prop} (h : ∀ i, P i → P' i) : ∀ n, pu_n P n ≤ pu_n P' n := by
  intro n
  induction n with
  | zero => exact Nat.le_refl _
  | succ n ih =>
    by_cases e : P n
    · rw [pu_n_p e, pu_n_p (h n e)]; omega
    · rw [pu_n_n e]
      by_cases e2 : P' n
      · rw [pu_n_p e2]; omega
      · rw [pu_n_n e2]; exact ih
theorem pu_n_lt {P P' : Nat → Prop} (h : ∀ i, P i → P' i) {j : Nat} (h1 : P' j) (h2 : ¬ P j) : ∀ n, j < n → pu_n P n < pu_n P' n := by
  intro n
  induction n with
  | zero => intro hj; exact absurd hj (Nat.not_lt_zero j)
  | succ n ih =>
    intro hj
    by_cases e : j = n
    · subst e
      rw [pu_n_n h2, pu_n_p h1]
      have := pu_n_le h j
      omega
    · have := ih (by omega)
      by_cases e1 : P n
      · rw [pu_n_p e1, pu_n_p (h n e1)]; omega
      · rw [pu_n_n e1]
        by_cases e2 : P' n
        · rw [pu_n_p e2]; omega
        · rw [pu_n_n e2]; exact this
theorem pu_n_top {P : Nat → Prop} : ∀ n, pu_n P n ≤ n := by
  intro n
  induction n with
  | zero => exact Nat.le_refl _
  | succ n ih =>
    by_cases e : P n
    · rw [pu_n_p e]; omega
    · rw [pu_n_n e]; omega
theorem pu_bf_irr {σ : tg_Mem} {f : Nat} (hf : f < 30) : ¬ fa_before σ (nI f) (nI f) = true := by
  rw [pu_before hf hf]
  rintro ⟨-, -, -, h | ⟨-, h⟩⟩
  · exact Int32.lt_irrefl h
  · exact Nat.lt_irrefl _ h
theorem pu_bf_tr {σ : tg_Mem} {f g k : Nat} (hf : f < 30) (hg : g < 30) (hk : k < 30) (h1 : fa_before σ (nI f) (nI g) = true) (h2 : fa_before σ (nI g) (nI k) = true) : fa_before σ (nI f) (nI k) = true := by
  rw [pu_before hf hg] at h1
  rw [pu_before hg hk] at h2
  rw [pu_before hf hk]
  obtain ⟨a1, a2, a3, a4⟩ := h1
  obtain ⟨b1, b2, b3, b4⟩ := h2
  refine ⟨a1, b2, a3.trans b3, ?_⟩
  rcases a4 with a | ⟨a, a'⟩
  · rcases b4 with b | ⟨b, b'⟩
    · exact Or.inl (Int32.lt_trans a b)
    · exact Or.inl (by rw [← b]; exact a)
  · rcases b4 with b | ⟨b, b'⟩
    · exact Or.inl (by rw [a]; exact b)
    · exact Or.inr ⟨a.trans b, Nat.lt_trans a' b'⟩
theorem pu_bf_tot {σ : tg_Mem} {f g : Nat} (hf : f < 30) (hg : g < 30) (h1 : σ 12 f ≠ 0) (h2 : σ 12 g ≠ 0) (h3 : σ 11 f = σ 11 g) (hne : f ≠ g) : fa_before σ (nI f) (nI g) = true ∨ fa_before σ (nI g) (nI f) = true := by
  rw [pu_before hf hg, pu_before hg hf]
  by_cases c1 : σ 14 f < σ 14 g
  · exact Or.inl ⟨h1, h2, h3, Or.inl c1⟩
  · by_cases c2 : σ 14 g < σ 14 f
    · exact Or.inr ⟨h2, h1, h3.symm, Or.inl c2⟩
    · have e : σ 14 f = σ 14 g := Int32.le_antisymm (Int32.not_lt.mp c2) (Int32.not_lt.mp c1)
      by_cases c : f < g
      · exact Or.inl ⟨h1, h2, h3, Or.inr ⟨e, c⟩⟩
      · exact Or.inr ⟨h2, h1, h3.symm, Or.inr ⟨e.symm, by omega⟩⟩
