/-! ===== 31: places behind the parents ===== -/
theorem pu_pt1 {σ : tg_Mem} : ∀ n, n ≤ 30 → (∀ a, a ≠ 16 → tg_it fa_pt1 σ n a = σ a) ∧ ∀ j, j < n → tg_it fa_pt1 σ n 16 j = fa_off σ (nI j) := by
  refine tg_inv (fun n κ => (∀ a, a ≠ 16 → κ a = σ a) ∧ ∀ j, j < n → κ 16 j = fa_off σ (nI j)) fa_pt1 30 σ ⟨fun _ _ => rfl, fun i h => absurd h (Nat.not_lt_zero i)⟩ ?_
  rintro n κ hn ⟨ho, hk⟩
  have hb : ∀ i g, fa_before κ i g = fa_before σ i g := fun i g => by
    unfold fa_before fa_cont
    rw [ho 12 (by decide), ho 11 (by decide), ho 14 (by decide)]
  have hS : fa_offS κ (nI n) = fa_offS σ (nI n) := by
    funext i k
    unfold fa_offS
    rw [hb, ho 15 (by decide)]
  have hp : fa_par κ (nI n) = fa_par σ (nI n) := by
    unfold fa_par fa_cont
    rw [ho 12 (by decide), ho 11 (by decide)]
  have hd : fa_off κ (nI n) = fa_off σ (nI n) := by
    unfold fa_off
    rw [hS, hp]
  unfold fa_pt1
  rw [hd]
  refine ⟨fun a h => by rw [pu_set_o h]; exact ho a h, fun j hj => ?_⟩
  rw [pu_set_s]
  by_cases e : j = n
  · subst e; exact pu_upd_s
  · rw [pu_upd_o e]; exact hk j (by omega)
