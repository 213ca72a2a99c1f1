/-! ===== 21: the parents are the same ===== -/
theorem pu_ov0 {σ μ : tg_Mem} (hM : pu_M σ μ) {j : Nat} (hj : j < 30) (h : σ 0 j = 0 ∨ σ 4 j = 0 ∨ (fb_AG μ).1 j ≠ -1) : pu_ov μ j = -1 := by
  unfold pu_ov
  by_cases ha : fb_alone (μ 0) (fb_AG μ).1 (nI j) = true
  · obtain ⟨h0, h1⟩ := (pu_alone hj).mp ha
    have h0' : σ 0 j ≠ 0 := fun c => h0 ((hM j hj).1.mp c)
    rcases h with h | h | h
    · exact absurd h h0'
    · obtain ⟨-, -, -, -, -, -, -, -, ⟨s, hs, e3, e4⟩⟩ := (hM j hj).2.2.2.2.2 h0'
      have e4 := e4.resolve_right (fun c => c.1 h)
      rw [if_pos ha, if_pos (by rw [e4.2]; exact nI_lt (a := s) (b := 10) hs (by decide))]
    · exact absurd h1 h
  · rw [if_neg ha]
theorem pu_hang {σ μ : tg_Mem} (hM : pu_M σ μ) : (∀ a, a ≠ 9 → a ≠ 10 → a ≠ 11 → a ≠ 12 → fa_hangReplies (fa_keepMissing (fa_hangByLinks (fa_linkKnown (fa_findKnown σ)))) a = σ a) ∧ (∀ j, j < 30 → (fa_hangReplies (fa_keepMissing (fa_hangByLinks (fa_linkKnown (fa_findKnown σ)))) 9 j = 0 ↔ fb_K μ j = 0)) ∧ (∀ j, j < 30 → fa_hangReplies (fa_keepMissing (fa_hangByLinks (fa_linkKnown (fa_findKnown σ)))) 11 j = fb_A2 μ j) ∧ (∀ j, j < 30 → (fa_hangReplies (fa_keepMissing (fa_hangByLinks (fa_linkKnown (fa_findKnown σ)))) 12 j = 0 ↔ (fb_AG μ).2 j = 0)) := by
  obtain ⟨ho, hk, he, hg⟩ := pu_keep hM
  generalize fa_keepMissing (fa_hangByLinks (fa_linkKnown (fa_findKnown σ))) = τ3 at ho hk he hg ⊢
  have hs3 : pu_same σ τ3 := fun a ha => ho a (by omega) (by omega) (by omega) (by omega)
  have h := tg_inv (fun n (τ : tg_Mem) => (∀ a, a ≠ 11 → τ a = τ3 a) ∧ (∀ j, j < n → j < 30 → τ 11 j = if pu_ov μ j = -1 then (fb_AG μ).1 j else pu_ov μ j) ∧ ∀ j, n ≤ j → τ 11 j = τ3 11 j) fa_hr 30 τ3 ⟨fun _ _ => rfl, fun j hj => absurd hj (Nat.not_lt_zero j), fun _ _ => rfl⟩ ?_ 30 (Nat.le_refl _)
  · obtain ⟨h1, h2, -⟩ := h
    unfold fa_hangReplies
    exact ⟨fun a a9 a10 a11 a12 => (h1 a a11).trans (ho a a9 a10 a11 a12), fun j hj => by rw [h1 9 (by decide)]; exact hk j hj, fun j hj => by rw [h2 j hj hj, pu_A2 j hj], fun j hj => by rw [h1 12 (by decide)]; exact hg j hj⟩
  rintro n τ hn ⟨h1, h2, h3⟩
  have hs : pu_same σ τ := fun a ha => (h1 a (by omega)).trans (hs3 a ha)
  have hn11 : τ 11 n = (fb_AG μ).1 n := (h3 n (Nat.le_refl _)).trans (he n hn).1
  -- nothing written
  have keep : (if pu_ov μ n = -1 then (fb_AG μ).1 n else pu_ov μ n) = (fb_AG μ).1 n → (∀ a, a ≠ 11 → τ a = τ3 a) ∧ (∀ j, j < n + 1 → j < 30 → τ 11 j = if pu_ov μ j = -1 then (fb_AG μ).1 j else pu_ov μ j) ∧ ∀ j, n + 1 ≤ j → τ 11 j = τ3 11 j := by
    intro hv
    refine ⟨h1, fun j hj hj2 => ?_, fun j hj => h3 j (by omega)⟩
    by_cases e : j = n
    · subst e; rw [hv]; exact hn11
    · exact h2 j (by omega) hj2
  have hrep : fa_isReply τ (nI n) = true ↔ σ 0 n ≠ 0 ∧ σ 4 n ≠ 0 := by
    unfold fa_isReply
    rw [Bool.and_eq_true, pu_holds hn, tr_cl hn, hs 0 (by decide), hs 4 (by decide)]
    simp
  unfold fa_hr
  by_cases hr : fa_isReply τ (nI n) = true
  · obtain ⟨r0, r4⟩ := hrep.mp hr
    rw [if_pos hr]
    by_cases h11 : τ 11 n = -1
    · rw [if_pos h11]
      have hAG : (fb_AG μ).1 n = -1 := by rw [← hn11]; exact h11
      have m0 : μ 0 n ≠ 0 := fun c => r0 ((hM n hn).1.mpr c)
      obtain ⟨-, -, e8, -, -, -, -, -, ⟨s, hs', e3, e4⟩⟩ := (hM n hn).2.2.2.2.2 r0
      have e4 := e4.resolve_left (fun c => r4 c.1)
      have hh : fa_handOf τ (nI n) = μ 7 n := by rw [(pu_told hn).2.2, hs 0 (by decide), hs 8 (by decide), if_pos r0, e8]
      have hov : pu_ov μ n = if μ 7 n = -2 then -1 else tg_it (fb_c2 (μ 0) (fb_AG μ).1 (μ 3) (μ 4) n) (-1) 30 := by
        unfold pu_ov
        rw [if_pos ((pu_alone hn).mpr ⟨m0, hAG⟩), if_neg (by rw [e4.2]; exact nI_nlt (a := s + 10) (b := 10) (by omega) (by omega))]
      rw [hh]
      by_cases h7 : μ 7 n = -2
      · rw [if_pos h7] at hov ⊢
        exact keep (by rw [hov, if_pos rfl])
      · rw [if_neg h7] at hov ⊢
        have hb := (pu_best hM hs (fun j hj h4 => by
          by_cases e : j < n
          · rw [h2 j e hj, pu_ov0 hM hj (Or.inr (Or.inl h4)), if_pos rfl]
          · rw [h3 j (by omega)]; exact (he j hj).1) hn r0 r4).1
        rw [hb, ← hov]
        refine ⟨fun a ha => by rw [pu_set_o ha]; exact h1 a ha, fun j hj hj2 => ?_, fun j hj => by rw [pu_set_s, pu_upd_o (by omega)]; exact h3 j (by omega)⟩
        rw [pu_set_s]
        by_cases e : j = n
        · subst e
          rw [pu_upd_s, hAG]
          by_cases c : pu_ov μ j = -1
          · rw [if_pos c, c]
          · rw [if_neg c]
        · rw [pu_upd_o e]; exact h2 j (by omega) hj2
    · rw [if_neg h11]
      exact keep (by rw [pu_ov0 hM hn (Or.inr (Or.inr (by rw [← hn11]; exact h11))), if_pos rfl])
  · rw [if_neg hr]
    refine keep ?_
    have : σ 0 n = 0 ∨ σ 4 n = 0 ∨ (fb_AG μ).1 n ≠ -1 := by
      by_cases c : σ 0 n = 0
      · exact Or.inl c
      · by_cases d : σ 4 n = 0
        · exact Or.inr (Or.inl d)
        · exact absurd (hrep.mpr ⟨c, d⟩) hr
    rw [pu_ov0 hM hn this, if_pos rfl]
