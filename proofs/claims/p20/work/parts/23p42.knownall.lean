/-! ===== 42: a missing id in the forest is known, and has a child ===== -/
theorem pu_child {σ μ : tg_Mem} (hM : pu_M σ μ) : ∀ m, m < 30 → μ 0 m = 0 → (fb_AG μ).2 m ≠ 0 → ∃ c, c < 30 ∧ (fb_AG μ).1 c = nI m := by
  have h := tg_inv (fun n (q : tb_A × tb_A) => ∀ m, m < n → m < 30 → μ 0 m = 0 → q.2 m ≠ 0 → ∃ c, c < 30 ∧ q.1 c = nI m) (fb_b (μ 0)) 30 (fb_A0 μ, μ 11) (fun m hm => absurd hm (Nat.not_lt_zero m)) ?_ 30 (Nat.le_refl _)
  · exact fun m hm => h m hm hm
  intro n q hn h m hm hm2 h0 hg
  obtain ⟨b1, b2⟩ := pu_bN (α := q.1) (x := nI n)
  have hle := pu_c_le (f := q.1) (x := nI n) 30
  have h1e : ∀ k, k ≤ 30 → (nI k = 1 ↔ k = 1) := fun k hk => nI_eq (a := k) (b := 1) (Nat.lt_of_le_of_lt hk (by decide)) (by decide)
  unfold fb_b at hg ⊢
  dsimp only at hg ⊢
  by_cases e : m = n
  · subst e
    rw [pu_upd_s, h0, b1] at hg
    rw [if_pos h0, b1]
    have hc : 1 < pu_c q.1 (nI m) 30 := by
      refine Classical.byContradiction fun c => hg ?_
      have : nI (pu_c q.1 (nI m) 30) ≤ 1 := nI_le (a := pu_c q.1 (nI m) 30) (b := 1) (by omega) (by decide)
      simp [tg_b, this]
    rw [if_neg (fun c => by have := (h1e _ hle).mp c; omega)]
    obtain ⟨c, c1, c2, c3⟩ := b2 (by omega)
    exact ⟨c, c1, c3⟩
  · rw [pu_upd_o e] at hg
    obtain ⟨c, c1, c2⟩ := h m (by omega) hm2 h0 hg
    refine ⟨c, c1, ?_⟩
    by_cases ht : μ 0 n = 0
    · rw [if_pos ht, b1]
      by_cases hc : pu_c q.1 (nI n) 30 = 1
      · rw [if_pos ((h1e _ hle).mpr hc)]
        obtain ⟨k, hk, e1, e2⟩ := b2 (by omega)
        rw [e1, tr_cl hk, pu_upd_o (fun d => e ((tr_nI hm2 hn).mp (c2.symm.trans ((congrArg q.1 d).trans e2))))]
        exact c2
      · rw [if_neg (fun d => hc ((h1e _ hle).mp d))]
        exact c2
    · rw [if_neg ht]
      exact c2
theorem pu_child2 {σ μ : tg_Mem} (hM : pu_M σ μ) {m : Nat} (hm : m < 30) (h0 : μ 0 m = 0) (hg : (fb_AG μ).2 m ≠ 0) : ∃ c, c < 30 ∧ μ 0 c ≠ 0 ∧ fb_A2 μ c = nI m := by
  obtain ⟨c, c1, c2⟩ := pu_child hM m hm h0 hg
  have c3 : fb_A2 μ c = nI m := by
    rw [pu_A2 c c1, pu_ov0 hM c1 (Or.inr (Or.inr (by rw [c2]; exact tr_nI1 hm))), if_pos rfl]
    exact c2
  exact ⟨c, c1, ((pu_final hM).2.2 c m c1 hm c3).1, c3⟩
theorem pu_fndK {μ : tg_Mem} {i m : Nat} (hm : m < 30) (hi : i < 30) : ∀ (n k : Nat), n + k = 30 → fb_fnd (μ 0) (μ 1) (μ 2) (nI i) n k () = nI m → pu_KM μ 30 m := by
  intro n
  induction n with
  | zero => intro k _ h; exact absurd h.symm (tr_nI1 hm)
  | succ n ih =>
    intro k hk h
    have ihn := ih (k + 1) (by omega)
    unfold fb_fnd at h
    by_cases h1 : μ 0 k = 0
    · rw [if_pos h1] at h; exact ihn h
    · rw [if_neg h1] at h
      by_cases h2 : μ 1 k = nI i
      · rw [if_pos h2] at h
        by_cases h3 : μ 2 k = -1
        · rw [if_pos h3] at h; exact ihn h
        · rw [if_neg h3] at h
          exact ⟨k, by omega, h1, Or.inr (Or.inr (Or.inl h.symm))⟩
      · rw [if_neg h2] at h; exact ihn h
theorem pu_toldK {μ : tg_Mem} {i m : Nat} (hm : m < 30) (hi : i < 30) (h : fb_told (μ 0) (μ 1) (μ 2) (μ 7) (nI i) = nI m) : pu_KM μ 30 m := by
  unfold fb_told at h
  rw [tr_cl hi] at h
  by_cases h1 : μ 0 i = 0
  · rw [if_pos h1] at h
    exact pu_fndK hm hi 30 0 rfl h
  · rw [if_neg h1] at h
    by_cases h2 : μ 7 i = -2
    · rw [if_pos h2] at h; exact absurd h.symm (tr_nI1 hm)
    · rw [if_neg h2] at h
      by_cases h3 : μ 7 i = -1
      · rw [if_pos h3] at h
        exact ⟨i, hi, h1, Or.inr (Or.inl h.symm)⟩
      · rw [if_neg h3] at h
        exact ⟨i, hi, h1, Or.inr (Or.inr (Or.inr h.symm))⟩
/-- a link leads to someone known -/
theorem pu_linkK {μ : tg_Mem} {m : Nat} (hm : m < 30) : ∀ i, i < 30 → fb_L μ i = nI m → pu_KM μ 30 m := by
  have h := tg_inv (fun n (lk : tb_A) => ∀ i, i < n → i < 30 → lk i = nI m → pu_KM μ 30 m) (fb_l2 (μ 0) (μ 1) (μ 2) (μ 7) (fb_K μ)) 30 (tg_it fb_l1 (μ 9) 30) (fun i hi => absurd hi (Nat.not_lt_zero i)) ?_ 30 (Nat.le_refl _)
  · exact fun i hi => h i hi hi
  intro n lk hn h i hi hi2 e
  unfold fb_l2 at e
  by_cases c : i = n
  · subst c
    rw [pu_upd_s] at e
    by_cases c1 : fb_toldK (μ 0) (μ 1) (μ 2) (μ 7) (fb_K μ) i = -1
    · rw [if_pos c1] at e; exact absurd e.symm (tr_nI1 hm)
    · rw [if_neg c1] at e
      by_cases c2 : fb_bel lk (fb_toldK (μ 0) (μ 1) (μ 2) (μ 7) (fb_K μ) i) (nI i) = true
      · rw [if_pos c2] at e; exact absurd e.symm (tr_nI1 hm)
      · rw [if_neg c2] at e
        unfold fb_toldK at e c1
        by_cases c3 : fb_K μ i = 0
        · rw [if_pos c3] at c1; exact absurd rfl c1
        · rw [if_neg c3] at e
          exact pu_toldK hm hi2 e
  · rw [pu_upd_o c] at e
    exact h i (by omega) hi2 e
theorem pu_abvK {μ : tg_Mem} {m : Nat} (hm : m < 30) : ∀ (n : Nat) (a : Int32), fb_abvF (μ 0) (fb_L μ) n a = some (nI m) → a = nI m ∨ pu_KM μ 30 m := by
  intro n
  induction n with
  | zero => intro a h; cases h
  | succ n ih =>
    intro a h
    unfold fb_abvF at h
    by_cases h1 : a = -1
    · rw [if_pos h1] at h; exact absurd (Option.some.inj h).symm (tr_nI1 hm)
    · rw [if_neg h1] at h
      by_cases h2 : fa_id a = true
      · rw [if_pos h2] at h
        obtain ⟨j, hj, rfl⟩ := tr_idx h2
        rw [tr_cl hj] at h
        by_cases h3 : μ 0 j = 0
        · rw [if_pos h3] at h
          by_cases h4 : fb_L μ j = -1
          · rw [if_pos h4] at h; exact Or.inl (Option.some.inj h)
          · rw [if_neg h4] at h
            rcases ih _ h with h5 | h5
            · exact Or.inr (pu_linkK hm j hj h5)
            · exact Or.inr h5
        · rw [if_neg h3] at h; exact Or.inl (Option.some.inj h)
      · rw [if_neg h2] at h; cases h
/-- who is in the forest is known -/
theorem pu_forK {σ μ : tg_Mem} (hM : pu_M σ μ) {m : Nat} (hm : m < 30) (hg : (fb_AG μ).2 m ≠ 0) : fb_K μ m ≠ 0 := by
  refine (pu_fbK (μ := μ) (fun j hj => ⟨(hM j hj).2.1, (hM j hj).2.2.1, (hM j hj).2.2.2.1⟩) m hm).mpr ?_
  by_cases h0 : μ 0 m = 0
  · obtain ⟨c, c1, c2⟩ := pu_child hM m hm h0 hg
    have c3 : fb_A0 μ c = nI m := by
      rcases (pu_AGs hM c c1).1 with e | e
      · rw [e] at c2; exact absurd c2.symm (tr_nI1 hm)
      · rw [← e]; exact c2
    have hA : fb_A0 μ c = fb_abv (μ 0) (fb_L μ) (if μ 0 c = 0 then -1 else fb_L μ c) := pu_itupd (v := fun k => fb_abv (μ 0) (fb_L μ) (if μ 0 k = 0 then -1 else fb_L μ k)) (f0 := μ 10) 30 c c1
    have hs := (pu_hyp hM).2.2.2.2 c c1
    rw [show fb_link (μ 0) (μ 1) (μ 2) (μ 7) (fb_known (μ 0) (μ 1) (μ 2) (μ 7) (μ 8)) (μ 9) = fb_L μ from rfl, ← hA, c3] at hs
    rcases pu_abvK hm 31 _ hs with e | e
    · by_cases hc : μ 0 c = 0
      · rw [if_pos hc] at e; exact absurd e.symm (tr_nI1 hm)
      · rw [if_neg hc] at e; exact pu_linkK hm c c1 e
    · exact e
  · exact ⟨m, hm, h0, Or.inl rfl⟩
theorem pu_letK {σ μ : tg_Mem} (hM : pu_M σ μ) {m : Nat} (hm : m < 30) (h0 : μ 0 m ≠ 0) : fb_K μ m ≠ 0 :=
  (pu_fbK (μ := μ) (fun j hj => ⟨(hM j hj).2.1, (hM j hj).2.2.1, (hM j hj).2.2.2.1⟩) m hm).mpr ⟨m, hm, h0, Or.inl rfl⟩
