/-! ===== 25: sizes and earliest days ===== -/
noncomputable def pu_n (P : Nat → Prop) : Nat → Nat | 0 => 0 | n + 1 => pu_n P n + @ite Nat (P n) (Classical.propDecidable (P n)) 1 0
noncomputable def pu_mn (P : Nat → Prop) (d : Nat → Int32) : Nat → Int32 | 0 => 1000 | n + 1 => @ite Int32 (P n) (Classical.propDecidable (P n)) (pu_min (d n) (pu_mn P d n)) (pu_mn P d n)
theorem pu_n_p {P : Nat → Prop} {n : Nat} (h : P n) : pu_n P (n + 1) = pu_n P n + 1 := by
  show pu_n P n + _ = _
  rw [if_pos h]
theorem pu_n_n {P : Nat → Prop} {n : Nat} (h : ¬ P n) : pu_n P (n + 1) = pu_n P n := by
  show pu_n P n + _ = _
  rw [if_neg h]; rfl
theorem pu_mn_p {P : Nat → Prop} {d : Nat → Int32} {n : Nat} (h : P n) : pu_mn P d (n + 1) = pu_min (d n) (pu_mn P d n) := if_pos h
theorem pu_mn_n {P : Nat → Prop} {d : Nat → Int32} {n : Nat} (h : ¬ P n) : pu_mn P d (n + 1) = pu_mn P d n := if_neg h
theorem pu_mt1 {τ : tg_Mem} : ∀ n, n ≤ 30 → (∀ a, a ≠ 13 → a ≠ 15 → tg_it fa_mt1 τ n a = τ a) ∧ ∀ j, j < n → tg_it fa_mt1 τ n 15 j = 0 ∧ tg_it fa_mt1 τ n 13 j = 1000 := by
  refine tg_inv (fun n κ => (∀ a, a ≠ 13 → a ≠ 15 → κ a = τ a) ∧ ∀ i, i < n → κ 15 i = 0 ∧ κ 13 i = 1000) fa_mt1 30 τ ⟨fun _ _ _ => rfl, fun i h => absurd h (Nat.not_lt_zero i)⟩ ?_
  rintro n κ hn ⟨ho, hk⟩
  unfold fa_mt1
  refine ⟨fun a h1 h2 => by rw [pu_set_o h1, pu_set_o h2]; exact ho a h1 h2, fun i hi => ?_⟩
  rw [pu_set_o (by decide), pu_set_s, pu_set_s, pu_set_o (by decide)]
  by_cases e : i = n
  · subst e; exact ⟨pu_upd_s, pu_upd_s⟩
  · rw [pu_upd_o e, pu_upd_o e]; exact hk i (by omega)
/-- the sizes and the earliest days of the trees -/
theorem pu_mt2 {u : Nat → Option Nat} (hr : tr_rng u 30) (hc : tr_acyc u 30) {τ : tg_Mem} (hu : ∀ x, x < 30 → tr_up (τ 11) x = u x) :
    (∀ a, a ≠ 13 → a ≠ 15 → tg_it fa_mt2 (tg_it fa_mt1 τ 30) 30 a = τ a) ∧ ∀ y, y < 30 → tg_it fa_mt2 (tg_it fa_mt1 τ 30) 30 15 y = nI (pu_n (fun i => τ 12 i ≠ 0 ∧ tr_lead u i y) 30) ∧ tg_it fa_mt2 (tg_it fa_mt1 τ 30) 30 13 y = pu_mn (fun i => τ 12 i ≠ 0 ∧ tr_lead u i y) (fun i => fa_dayOf τ (nI i)) 30 := by
  obtain ⟨o1, k1⟩ := pu_mt1 (τ := τ) 30 (Nat.le_refl _)
  have h := tg_inv (fun n (κ : tg_Mem) => (∀ a, a ≠ 13 → a ≠ 15 → κ a = τ a) ∧ ∀ y, y < 30 → κ 15 y = nI (pu_n (fun i => τ 12 i ≠ 0 ∧ tr_lead u i y) n) ∧ κ 13 y = pu_mn (fun i => τ 12 i ≠ 0 ∧ tr_lead u i y) (fun i => fa_dayOf τ (nI i)) n) fa_mt2 30 (tg_it fa_mt1 τ 30) ⟨o1, fun y hy => k1 y hy⟩ ?_ 30 (Nat.le_refl _)
  · exact h
  rintro n κ hn ⟨ho, hk⟩
  unfold fa_mt2
  rw [ho 12 (by decide) (by decide)]
  by_cases h12 : τ 12 n = 0
  · rw [if_pos h12]
    refine ⟨ho, fun y hy => ?_⟩
    rw [pu_n_n (fun c => c.1 h12), pu_mn_n (fun c => c.1 h12)]
    exact hk y hy
  · rw [if_neg h12]
    have hd : fa_dayOf κ (nI n) = fa_dayOf τ (nI n) := by
      unfold fa_dayOf fa_holds
      rw [ho 0 (by decide) (by decide), ho 5 (by decide) (by decide)]
    unfold fa_upwards
    rw [hd]
    obtain ⟨w1, w2⟩ := pu_upF hr hc (sent := fa_dayOf τ (nI n)) 30 0 n κ hn (fun x hx => by rw [ho 11 (by decide) (by decide)]; exact hu x hx) (tr_len hr hc hn)
    refine ⟨fun a h1 h2 => (w1 a h1 h2).trans (ho a h1 h2), fun y hy => ?_⟩
    by_cases hp : tr_lead u n y
    · obtain ⟨c1, c2⟩ := (w2 y hy).1 hp
      rw [pu_n_p ⟨h12, hp⟩, pu_mn_p ⟨h12, hp⟩, c1, c2, (hk y hy).1, (hk y hy).2, nI_succ]
      exact ⟨rfl, rfl⟩
    · obtain ⟨c1, c2⟩ := (w2 y hy).2 hp
      rw [pu_n_n (fun c => hp c.2), pu_mn_n (fun c => hp c.2), c1, c2]
      exact hk y hy
