/-! ===== 23: the final parents: no ring; a parent is in the forest ===== -/
theorem pu_AGs {σ μ : tg_Mem} (hM : pu_M σ μ) : ∀ j, j < 30 → ((fb_AG μ).1 j = -1 ∨ (fb_AG μ).1 j = fb_A0 μ j) ∧ (∀ m, m < 30 → (fb_AG μ).1 j = nI m → (fb_AG μ).2 m ≠ 0) := by
  have h := tg_inv (fun n (q : tb_A × tb_A) => (∀ j, j < 30 → q.1 j = -1 ∨ q.1 j = fb_A0 μ j) ∧ ∀ j, j < 30 → ∀ m, m < n → m < 30 → q.1 j = nI m → q.2 m ≠ 0) (fb_b (μ 0)) 30 (fb_A0 μ, μ 11) ⟨fun j _ => Or.inr rfl, fun j _ m hm => absurd hm (Nat.not_lt_zero m)⟩ ?_ 30 (Nat.le_refl _)
  · exact fun j hj => ⟨h.1 j hj, fun m hm => h.2 j hj m hm hm⟩
  rintro n q hn ⟨h1, h2⟩
  obtain ⟨b1, b2⟩ := pu_bN (α := q.1) (x := nI n)
  have hle := pu_c_le (f := q.1) (x := nI n) 30
  have h1e : ∀ k, k ≤ 30 → (nI k = 1 ↔ k = 1) := fun k hk => nI_eq (a := k) (b := 1) (Nat.lt_of_le_of_lt hk (by decide)) (by decide)
  have hgt : ∀ k, k ≤ 30 → 1 < k → ¬ nI k ≤ 1 := fun k hk h => nI_ge (a := 1) (b := k) h (Nat.lt_of_le_of_lt hk (by decide))
  -- what stands behind the step
  have hα : ∀ j, j < 30 → (fb_b (μ 0) n q).1 j = -1 ∨ ((fb_b (μ 0) n q).1 j = q.1 j ∧ (q.1 j = nI n → μ 0 n ≠ 0 ∨ 1 < pu_c q.1 (nI n) 30)) := by
    intro j hj
    unfold fb_b
    dsimp only
    by_cases ht : μ 0 n = 0
    · rw [if_pos ht, b1]
      by_cases hc : pu_c q.1 (nI n) 30 = 1
      · rw [if_pos ((h1e _ hle).mpr hc)]
        obtain ⟨k, hk, e1, e2⟩ := b2 (by omega)
        rw [e1, tr_cl hk]
        by_cases e : j = k
        · subst e; exact Or.inl pu_upd_s
        · rw [pu_upd_o e]
          exact Or.inr ⟨rfl, fun c => absurd (pu_c1 30 hc k hk e2 j hj c) e⟩
      · rw [if_neg (fun c => hc ((h1e _ hle).mp c))]
        refine Or.inr ⟨rfl, fun c => Or.inr ?_⟩
        by_cases h0 : pu_c q.1 (nI n) 30 = 0
        · exact absurd c (pu_c0 30 h0 j hj)
        · omega
    · rw [if_neg ht]
      exact Or.inr ⟨rfl, fun _ => Or.inl ht⟩
  refine ⟨fun j hj => ?_, fun j hj m hm hm2 e => ?_⟩
  · rcases hα j hj with h | ⟨h, -⟩
    · exact Or.inl h
    · rw [h]; exact h1 j hj
  · rcases hα j hj with h | ⟨h, h3⟩
    · rw [h] at e; exact absurd e.symm (tr_nI1 hm2)
    · rw [h] at e
      unfold fb_b
      dsimp only
      by_cases em : m = n
      · subst em
        rw [pu_upd_s, b1]
        rcases h3 e with h | h
        · simp [tg_b, h]
        · simp [tg_b, hgt _ hle h]
      · rw [pu_upd_o em]; exact h2 j hj m (by omega) hm2 e
theorem pu_ovs {σ μ : tg_Mem} (hM : pu_M σ μ) {j : Nat} (hj : j < 30) (h : pu_ov μ j ≠ -1) : σ 0 j ≠ 0 ∧ (fb_AG μ).1 j = -1 ∧ ∃ f, f < 30 ∧ pu_ov μ j = nI f ∧ μ 0 f ≠ 0 ∧ (fb_AG μ).1 f = -1 ∧ σ 4 f = 0 := by
  have h0 : σ 0 j ≠ 0 := fun c => h (pu_ov0 hM hj (Or.inl c))
  have h4 : σ 4 j ≠ 0 := fun c => h (pu_ov0 hM hj (Or.inr (Or.inl c)))
  have h1 : (fb_AG μ).1 j = -1 := Classical.byContradiction fun c => h (pu_ov0 hM hj (Or.inr (Or.inr c)))
  obtain ⟨ho, -, he, -⟩ := pu_keep hM
  obtain ⟨b1, b2⟩ := pu_best hM (τ := fa_keepMissing (fa_hangByLinks (fa_linkKnown (fa_findKnown σ)))) (fun a ha => ho a (by omega) (by omega) (by omega) (by omega)) (fun j hj _ => (he j hj).1) hj h0 h4
  refine ⟨h0, h1, ?_⟩
  have e : pu_ov μ j = tg_it (fb_c2 (μ 0) (fb_AG μ).1 (μ 3) (μ 4) j) (-1) 30 := by
    unfold pu_ov at h ⊢
    by_cases ha : fb_alone (μ 0) (fb_AG μ).1 (nI j) = true
    · rw [if_pos ha] at h ⊢
      by_cases h3 : μ 3 j < 10
      · rw [if_pos h3] at h; exact absurd rfl h
      · rw [if_neg h3] at h ⊢
        by_cases h7 : μ 7 j = -2
        · rw [if_pos h7] at h; exact absurd rfl h
        · rw [if_neg h7]
    · rw [if_neg ha] at h; exact absurd rfl h
  rw [← b1] at e
  rcases b2 with c | c
  · exact absurd (e.trans c) h
  · rw [e]; exact c
theorem pu_gam {μ : tg_Mem} : ∀ m, m < 30 → μ 0 m ≠ 0 → (fb_AG μ).2 m ≠ 0 := by
  intro m hm h0
  have h := tg_inv (fun n (q : tb_A × tb_A) => ∀ m, m < n → m < 30 → μ 0 m ≠ 0 → q.2 m ≠ 0) (fb_b (μ 0)) 30 (fb_A0 μ, μ 11) (fun m hm => absurd hm (Nat.not_lt_zero m)) ?_ 30 (Nat.le_refl _)
  · exact h m hm hm h0
  intro n q hn hi m hm hm2 h0
  unfold fb_b
  dsimp only
  by_cases e : m = n
  · subst e; rw [pu_upd_s]; simp [tg_b, h0]
  · rw [pu_upd_o e]; exact hi m (by omega) hm2 h0
theorem pu_twostep {u1 u2 : Nat → Option Nat} (hr : tr_rng u2 30) (h : ∀ x z, x < 30 → u2 x = some z → u1 x = some z ∨ u2 z = none) (hc : tr_acyc u1 30) : tr_acyc u2 30 := by
  have key : ∀ (n x y : Nat), x < 30 → tr_anc u2 n x = some y → tr_anc u1 n x = some y ∨ u2 y = none := by
    intro n
    induction n with
    | zero => intro x y _ e; exact Or.inl e
    | succ n ih =>
      intro x y hx e
      cases e1 : u2 x with
      | none => rw [tr_anc_n e1] at e; cases e
      | some z =>
        rw [tr_anc_s e1] at e
        rcases h x z hx e1 with h1 | h1
        · rcases ih z y (hr x z hx e1) e with h2 | h2
          · exact Or.inl (by rw [tr_anc_s h1]; exact h2)
          · exact Or.inr h2
        · cases n with
          | zero => exact Or.inr (by rw [← Option.some.inj (show some z = some y from e)]; exact h1)
          | succ n => rw [tr_anc_n h1] at e; cases e
  intro x n hx e
  rcases key (n + 1) x x hx e with h | h
  · exact hc x n hx h
  · rw [tr_anc_n h] at e; cases e
/-- the final parents -/
theorem pu_final {σ μ : tg_Mem} (hM : pu_M σ μ) : tr_val (fb_A2 μ) ∧ tr_acyc (tr_up (fb_A2 μ)) 30 ∧ (∀ j m, j < 30 → m < 30 → fb_A2 μ j = nI m → μ 0 j ≠ 0 ∧ (fb_AG μ).2 m ≠ 0) := by
  obtain ⟨-, -, he, -⟩ := pu_keep hM
  obtain ⟨hc0, hl0⟩ := pu_A0 hM
  have hAG := pu_AGs hM
  have hγ := pu_gam (μ := μ)
  have hc1 : tr_acyc (tr_up (fb_AG μ).1) 30 := pu_acyc_by (tr_up_rng _ 30) hc0 (fun x y hx e => by
    obtain ⟨e1, hy⟩ := tr_up_s e
    rcases (hAG x hx).1 with h | h
    · rw [h] at e1; exact absurd e1.symm (tr_nI1 hy)
    · exact ⟨0, by rw [tr_anc_s (tr_up_i hy (by rw [← h]; exact e1))]; rfl⟩)
  have hroot : ∀ f, f < 30 → (fb_AG μ).1 f = -1 → σ 4 f = 0 → tr_up (fb_A2 μ) f = none := fun f hf h1 h4 => tr_up_n (by rw [pu_A2 f hf, pu_ov0 hM hf (Or.inr (Or.inl h4)), if_pos rfl]; exact h1)
  refine ⟨fun j hj => ?_, ?_, fun j m hj hm e => ?_⟩
  · rw [pu_A2 j hj]
    by_cases h : pu_ov μ j = -1
    · rw [if_pos h]; exact (he j hj).2
    · rw [if_neg h]
      obtain ⟨-, -, f, hf, e, -⟩ := pu_ovs hM hj h
      exact Or.inr ⟨f, hf, e⟩
  · refine pu_twostep (tr_up_rng _ 30) (fun x z hx e1 => ?_) hc1
    obtain ⟨e2, hz⟩ := tr_up_s e1
    rw [pu_A2 x hx] at e2
    by_cases h : pu_ov μ x = -1
    · rw [if_pos h] at e2
      exact Or.inl (tr_up_i hz e2)
    · rw [if_neg h] at e2
      obtain ⟨-, -, f, hf, e3, -, h4, h5⟩ := pu_ovs hM hx h
      have ez : z = f := (tr_nI hz hf).mp (e2.symm.trans e3)
      rw [ez]
      exact Or.inr (hroot f hf h4 h5)
  · rw [pu_A2 j hj] at e
    by_cases h : pu_ov μ j = -1
    · rw [if_pos h] at e
      refine ⟨fun c => ?_, (hAG j hj).2 m hm e⟩
      rcases (hAG j hj).1 with h2 | h2
      · rw [h2] at e; exact absurd e.symm (tr_nI1 hm)
      · rw [h2, hl0 j hj c] at e; exact absurd e.symm (tr_nI1 hm)
    · rw [if_neg h] at e
      obtain ⟨h0, -, f, hf, e3, h4, -⟩ := pu_ovs hM hj h
      refine ⟨fun c => h0 ((hM j hj).1.mpr c), ?_⟩
      rw [(tr_nI hm hf).mp (e.symm.trans e3)]
      exact hγ f hf h4
