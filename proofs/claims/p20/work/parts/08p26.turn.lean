/-! ===== 26: the measured forest ===== -/
theorem pu_mt3 {τ : tg_Mem} : ∀ n, n ≤ 30 → (∀ a, a ≠ 14 → tg_it fa_mt3 τ n a = τ a) ∧ ∀ j, j < n → tg_it fa_mt3 τ n 14 j = if τ 11 j = -1 then τ 13 j else fa_dayOf τ (nI j) := by
  refine tg_inv (fun n κ => (∀ a, a ≠ 14 → κ a = τ a) ∧ ∀ j, j < n → κ 14 j = if τ 11 j = -1 then τ 13 j else fa_dayOf τ (nI j)) fa_mt3 30 τ ⟨fun _ _ => rfl, fun i h => absurd h (Nat.not_lt_zero i)⟩ ?_
  rintro n κ hn ⟨ho, hk⟩
  have hd : fa_dayOf κ (nI n) = fa_dayOf τ (nI n) := by
    unfold fa_dayOf fa_holds
    rw [ho 0 (by decide), ho 5 (by decide)]
  unfold fa_mt3
  rw [hd, ho 11 (by decide), ho 13 (by decide)]
  refine ⟨fun a h => by rw [pu_set_o h]; exact ho a h, fun j hj => ?_⟩
  rw [pu_set_s]
  by_cases e : j = n
  · subst e; exact pu_upd_s
  · rw [pu_upd_o e]; exact hk j (by omega)
/-- the forest measured: what each array holds -/
theorem pu_measure {u : Nat → Option Nat} (hr : tr_rng u 30) (hc : tr_acyc u 30) {τ : tg_Mem} (hu : ∀ x, x < 30 → tr_up (τ 11) x = u x) :
    (∀ a, a ≠ 13 → a ≠ 14 → a ≠ 15 → fa_measure τ a = τ a) ∧ ∀ y, y < 30 → fa_measure τ 15 y = nI (pu_n (fun i => τ 12 i ≠ 0 ∧ tr_lead u i y) 30) ∧ fa_measure τ 13 y = pu_mn (fun i => τ 12 i ≠ 0 ∧ tr_lead u i y) (fun i => fa_dayOf τ (nI i)) 30 ∧ fa_measure τ 14 y = if τ 11 y = -1 then pu_mn (fun i => τ 12 i ≠ 0 ∧ tr_lead u i y) (fun i => fa_dayOf τ (nI i)) 30 else fa_dayOf τ (nI y) := by
  obtain ⟨o2, k2⟩ := pu_mt2 hr hc hu
  obtain ⟨o3, k3⟩ := pu_mt3 (τ := tg_it fa_mt2 (tg_it fa_mt1 τ 30) 30) 30 (Nat.le_refl _)
  unfold fa_measure
  refine ⟨fun a h1 h2 h3 => by rw [o3 a h2, o2 a h1 h3], fun y hy => ⟨by rw [o3 15 (by decide)]; exact (k2 y hy).1, by rw [o3 13 (by decide)]; exact (k2 y hy).2, ?_⟩⟩
  have hd : fa_dayOf (tg_it fa_mt2 (tg_it fa_mt1 τ 30) 30) (nI y) = fa_dayOf τ (nI y) := by
    unfold fa_dayOf fa_holds
    rw [o2 0 (by decide) (by decide), o2 5 (by decide) (by decide)]
  rw [k3 y hy, hd, o2 11 (by decide) (by decide), (k2 y hy).2]
