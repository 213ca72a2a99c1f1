/-! ===== 30: the roots in their rows ===== -/
/-- r is a root of the forest -/
def pu_rt (σ : tg_Mem) (r : Nat) : Prop := σ 12 r ≠ 0 ∧ σ 11 r = -1
theorem pu_pr {σ : tg_Mem} : (∀ a, a ≠ 19 → a ≠ 20 → fa_placeRoots σ a = σ a) ∧ fa_placeRoots σ 20 0 = nI (pu_n (pu_rt σ) 30) ∧ ∀ r, r < 30 → pu_rt σ r → fa_placeRoots σ 19 (pu_pl σ r) = nI r := by
  have h := tg_inv (fun n (τ : tg_Mem) => (∀ a, a ≠ 19 → a ≠ 20 → τ a = σ a) ∧ τ 20 0 = nI (pu_n (pu_rt σ) n) ∧ ∀ r, r < n → pu_rt σ r → τ 19 (pu_pl σ r) = nI r) fa_pr 30 (tg_set σ 20 0 0) ⟨fun a _ h => pu_set_o h, by rw [pu_set_s, pu_upd_s]; rfl, fun r hr => absurd hr (Nat.not_lt_zero r)⟩ ?_ 30 (Nat.le_refl _)
  · exact ⟨h.1, h.2.1, fun r hr c => h.2.2 r hr c⟩
  rintro n τ hn ⟨ho, hc, hr⟩
  unfold fa_pr
  rw [ho 12 (by decide) (by decide), ho 11 (by decide) (by decide)]
  have skip : ¬ pu_rt σ n → (∀ a, a ≠ 19 → a ≠ 20 → τ a = σ a) ∧ τ 20 0 = nI (pu_n (pu_rt σ) (n + 1)) ∧ ∀ r, r < n + 1 → pu_rt σ r → τ 19 (pu_pl σ r) = nI r := fun c => ⟨ho, by rw [pu_n_n c]; exact hc, fun r h1 h2 => hr r (Nat.lt_of_le_of_ne (by omega) (fun e => c (by rw [← e]; exact h2))) h2⟩
  by_cases h12 : σ 12 n = 0
  · rw [if_pos h12]; exact skip (fun c => c.1 h12)
  · rw [if_neg h12]
    by_cases h11 : σ 11 n = -1
    · rw [if_pos h11]
      have hb : ∀ i, fa_before τ (nI i) (nI n) = fa_before σ (nI i) (nI n) := fun i => by
        unfold fa_before fa_cont
        rw [ho 12 (by decide) (by decide), ho 11 (by decide) (by decide), ho 14 (by decide) (by decide)]
      have hp : fa_place τ (nI n) = nI (pu_pl σ n) := by
        rw [pu_place]
        unfold pu_pl
        rw [pu_n_cong 30 (fun i _ => by rw [hb i])]
      have hlt := pu_pl_30 (σ := σ) hn
      have hpr : fa_placeRoot τ (nI n) = tg_set τ 19 (pu_pl σ n) (nI n) := by
        unfold fa_placeRoot
        rw [hp, if_pos (fa_id_nI hlt), tr_cl hlt]
      rw [hpr]
      refine ⟨fun a h1 h2 => by rw [pu_set_o h2, pu_set_o h1]; exact ho a h1 h2, ?_, fun r h1 h2 => ?_⟩
      · rw [pu_set_s, pu_upd_s, pu_set_o (by decide), hc, pu_n_p ⟨h12, h11⟩, nI_succ]
      · rw [pu_set_o (by decide), pu_set_s]
        by_cases e : r = n
        · subst e; exact pu_upd_s
        · rw [pu_upd_o (fun c => e (pu_pl_inj (by omega) hn h2.1 h12 (h2.2.trans h11.symm) c))]
          exact hr r (by omega) h2
    · rw [if_neg h11]; exact skip (fun c => h11 c.2)
