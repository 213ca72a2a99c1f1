/-! ===== 14: the two forests: what is known ===== -/
/-- an id or none -/
def pu_v (x : Int32) : Prop := x = -1 ∨ ∃ j, j < 30 ∧ x = nI j
/-- the letters of the class and of the reference are the same -/
def pu_M (σ μ : tg_Mem) : Prop := ∀ i, i < 30 →
  (σ 0 i = 0 ↔ μ 0 i = 0) ∧ pu_v (μ 1 i) ∧ pu_v (μ 2 i) ∧ (pu_v (μ 7 i) ∨ μ 7 i = -2) ∧ (μ 0 i = 0 → μ 7 i = -1) ∧
  (σ 0 i ≠ 0 → σ 1 i = μ 2 i ∧ σ 2 i = μ 1 i ∧ σ 8 i = μ 7 i ∧ σ 5 i = μ 4 i ∧ σ 6 i = μ 5 i ∧ (σ 7 i = 0 ↔ μ 6 i = 0) ∧
    (∃ d, d < 1000 ∧ μ 4 i = nI d) ∧ (∃ p, p < 10 ∧ μ 5 i = nI p) ∧ (∃ s, s < 10 ∧ σ 3 i = nI s ∧ ((σ 4 i = 0 ∧ μ 3 i = nI s) ∨ (σ 4 i ≠ 0 ∧ μ 3 i = nI (s + 10)))))
theorem pu_set_o {σ : tg_Mem} {k i a : Nat} {x : Int32} (h : a ≠ k) : tg_set σ k i x a = σ a := by unfold tg_set; rw [if_neg h]
theorem pu_set_s {σ : tg_Mem} {k i : Nat} {x : Int32} : tg_set σ k i x k = upd (σ k) i x := by unfold tg_set; rw [if_pos rfl]
theorem pu_upd_s {f : tb_A} {i : Nat} {x : Int32} : upd f i x i = x := by simp [upd]
theorem pu_upd_o {f : tb_A} {i j : Nat} {x : Int32} (h : j ≠ i) : upd f i x j = f j := by simp [upd, h]
theorem pu_learn_o {τ : tg_Mem} {x : Int32} {a : Nat} (h : a ≠ 9) : fa_learn τ x a = τ a := by
  unfold fa_learn; split
  · exact pu_set_o h
  · rfl
theorem pu_learn {τ : tg_Mem} {x : Int32} {i : Nat} (hi : i < 30) : fa_learn τ x 9 i ≠ 0 ↔ τ 9 i ≠ 0 ∨ nI i = x := by
  unfold fa_learn
  by_cases h : fa_id x = true
  · obtain ⟨j, hj, rfl⟩ := tr_idx h
    rw [if_pos h, pu_set_s, tr_cl hj]
    by_cases e : i = j
    · subst e
      rw [pu_upd_s]
      exact ⟨fun _ => Or.inr rfl, fun _ => by decide⟩
    · rw [pu_upd_o e]
      exact ⟨Or.inl, fun h => h.elim id (fun h => absurd ((tr_nI hi hj).mp h) e)⟩
  · rw [if_neg h]
    exact ⟨Or.inl, fun h2 => h2.elim id (fun e => absurd (by rw [← e]; exact fa_id_nI hi) h)⟩
theorem pu_holds {σ : tg_Mem} {i : Nat} (hi : i < 30) : fa_holds σ (nI i) = true ↔ σ 0 i ≠ 0 := by
  unfold fa_holds
  rw [fa_id_nI hi, tr_cl hi]
  simp
/-- who is known -/
def pu_K (σ : tg_Mem) (n i : Nat) : Prop := ∃ j, j < n ∧ σ 0 j ≠ 0 ∧ (nI i = σ 2 j ∨ nI i = σ 1 j ∨ nI i = σ 8 j)
theorem pu_K_s {σ : tg_Mem} {n i : Nat} : pu_K σ (n + 1) i ↔ pu_K σ n i ∨ (σ 0 n ≠ 0 ∧ (nI i = σ 2 n ∨ nI i = σ 1 n ∨ nI i = σ 8 n)) := by
  constructor
  · rintro ⟨j, h1, h2, h3⟩
    by_cases e : j = n
    · subst e; exact Or.inr ⟨h2, h3⟩
    · exact Or.inl ⟨j, by omega, h2, h3⟩
  · rintro (⟨j, h1, h2, h3⟩ | ⟨h2, h3⟩)
    · exact ⟨j, by omega, h2, h3⟩
    · exact ⟨n, by omega, h2, h3⟩
theorem pu_told {σ : tg_Mem} {i : Nat} (hi : i < 30) : fa_pTold σ (nI i) = (if σ 0 i ≠ 0 then σ 2 i else -1) ∧ fa_gTold σ (nI i) = (if σ 0 i ≠ 0 then σ 1 i else -1) ∧ fa_handOf σ (nI i) = (if σ 0 i ≠ 0 then σ 8 i else -1) := by
  unfold fa_pTold fa_gTold fa_handOf
  rw [tr_cl hi]
  by_cases h : σ 0 i ≠ 0
  · rw [if_pos ((pu_holds hi).mpr h), if_pos ((pu_holds hi).mpr h), if_pos ((pu_holds hi).mpr h), if_pos h, if_pos h, if_pos h]; exact ⟨rfl, rfl, rfl⟩
  · have h2 : ¬ fa_holds σ (nI i) = true := fun c => h ((pu_holds hi).mp c)
    rw [if_neg h2, if_neg h2, if_neg h2, if_neg h, if_neg h, if_neg h]; exact ⟨rfl, rfl, rfl⟩
theorem pu_fk {σ : tg_Mem} : (∀ a, a ≠ 9 → fa_findKnown σ a = σ a) ∧ ∀ i, i < 30 → (fa_findKnown σ 9 i ≠ 0 ↔ σ 0 i ≠ 0 ∨ pu_K σ 30 i) := by
  have h1 : ∀ n, n ≤ 30 → (∀ a, a ≠ 9 → tg_it fa_fk1 σ n a = σ a) ∧ ∀ i, i < n → (tg_it fa_fk1 σ n 9 i ≠ 0 ↔ σ 0 i ≠ 0) := by
    refine tg_inv (fun n τ => (∀ a, a ≠ 9 → τ a = σ a) ∧ ∀ i, i < n → (τ 9 i ≠ 0 ↔ σ 0 i ≠ 0)) fa_fk1 30 σ ⟨fun _ _ => rfl, fun i h => absurd h (Nat.not_lt_zero i)⟩ ?_
    rintro n τ hn ⟨ho, hk⟩
    refine ⟨fun a ha => by unfold fa_fk1; rw [pu_set_o ha]; exact ho a ha, fun i hi => ?_⟩
    unfold fa_fk1
    rw [pu_set_s]
    by_cases e : i = n
    · subst e
      rw [pu_upd_s]
      have hh := pu_holds (σ := τ) hn
      rw [ho 0 (by decide)] at hh
      rw [← hh]
      cases fa_holds τ (nI i) <;> simp [tg_b]
    · rw [pu_upd_o e]
      exact hk i (by omega)
  obtain ⟨o1, k1⟩ := h1 30 (Nat.le_refl _)
  have h2 := tg_inv (fun n τ => (∀ a, a ≠ 9 → τ a = σ a) ∧ ∀ i, i < 30 → (τ 9 i ≠ 0 ↔ σ 0 i ≠ 0 ∨ pu_K σ n i)) fa_fk2 30 (tg_it fa_fk1 σ 30) ⟨o1, fun i hi => by rw [k1 i hi]; exact ⟨Or.inl, fun h => h.elim id (fun ⟨j, hj, _⟩ => absurd hj (Nat.not_lt_zero j))⟩⟩ ?_ 30 (Nat.le_refl _)
  · exact h2
  rintro n τ hn ⟨ho, hk⟩
  have e1 := (pu_told (σ := τ) hn).1
  have o2 : ∀ a, a ≠ 9 → fa_learn τ (fa_pTold τ (nI n)) a = σ a := fun a ha => by rw [pu_learn_o ha]; exact ho a ha
  have e2 := (pu_told (σ := fa_learn τ (fa_pTold τ (nI n))) hn).2.1
  have o3 : ∀ a, a ≠ 9 → fa_learn (fa_learn τ (fa_pTold τ (nI n))) (fa_gTold (fa_learn τ (fa_pTold τ (nI n))) (nI n)) a = σ a := fun a ha => by rw [pu_learn_o ha]; exact o2 a ha
  have e3 := (pu_told (σ := fa_learn (fa_learn τ (fa_pTold τ (nI n))) (fa_gTold (fa_learn τ (fa_pTold τ (nI n))) (nI n))) hn).2.2
  rw [ho 0 (by decide), ho 2 (by decide)] at e1
  rw [o2 0 (by decide), o2 1 (by decide)] at e2
  rw [o3 0 (by decide), o3 8 (by decide)] at e3
  refine ⟨fun a ha => by unfold fa_fk2; rw [pu_learn_o ha]; exact o3 a ha, fun i hi => ?_⟩
  unfold fa_fk2
  rw [pu_learn hi, pu_learn hi, pu_learn hi, hk i hi, e3, e2, e1, pu_K_s]
  have hm := tr_nI1 hi
  by_cases h : σ 0 n ≠ 0
  · simp only [if_pos h]
    simp only [h, ne_eq, not_false_eq_true, true_and]
    simp only [or_assoc]
  · simp only [if_neg h]
    simp only [h, hm, false_and, or_false]
