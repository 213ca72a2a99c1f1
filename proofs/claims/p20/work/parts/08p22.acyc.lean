/-! ===== 22: the parents make no ring ===== -/
theorem pu_abv_anc {th lk : tb_A} (hv : tr_val lk) : ∀ (n a m : Nat), a < 30 → m < 30 → fb_abvF th lk n (nI a) = some (nI m) → ∃ q, tr_anc (tr_up lk) q a = some m := by
  intro n
  induction n with
  | zero => intro a m _ _ h; cases h
  | succ n ih =>
    intro a m ha hm h
    unfold fb_abvF at h
    rw [if_neg (tr_nI1 ha), if_pos (fa_id_nI ha), tr_cl ha] at h
    have self : some (nI a) = some (nI m) → ∃ q, tr_anc (tr_up lk) q a = some m := fun e => ⟨0, by rw [(tr_nI ha hm).mp (Option.some.inj e)]; rfl⟩
    by_cases ht : th a = 0
    · rw [if_pos ht] at h
      by_cases hl : lk a = -1
      · rw [if_pos hl] at h; exact self h
      · rw [if_neg hl] at h
        obtain ⟨b, hb, e⟩ := (hv a ha).resolve_left hl
        rw [e] at h
        obtain ⟨q, hq⟩ := ih b m hb hm h
        exact ⟨q + 1, by rw [tr_anc_s (tr_up_i hb e)]; exact hq⟩
    · rw [if_neg ht] at h; exact self h
theorem pu_acyc_by {u u' : Nat → Option Nat} (hr : tr_rng u' 30) (hc : tr_acyc u 30) (h : ∀ x y, x < 30 → u' x = some y → ∃ q, tr_anc u (q + 1) x = some y) : tr_acyc u' 30 := by
  have key : ∀ (n x y : Nat), x < 30 → tr_anc u' (n + 1) x = some y → ∃ q, tr_anc u (q + 1) x = some y := by
    intro n
    induction n with
    | zero =>
      intro x y hx e
      cases e1 : u' x with
      | none => rw [tr_anc_n e1] at e; cases e
      | some z =>
        rw [tr_anc_s e1] at e
        have e2 : z = y := Option.some.inj e
        rw [← e2]; exact h x z hx e1
    | succ n ih =>
      intro x y hx e
      cases e1 : u' x with
      | none => rw [tr_anc_n e1] at e; cases e
      | some z =>
        rw [tr_anc_s e1] at e
        obtain ⟨q1, h1⟩ := h x z hx e1
        obtain ⟨q2, h2⟩ := ih z y (hr x z hx e1) e
        refine ⟨q1 + 1 + q2, ?_⟩
        have := tr_anc_add (u := u) (q1 + 1) (q2 + 1) x z h1
        rw [show q1 + 1 + q2 + 1 = q1 + 1 + (q2 + 1) by omega, this]
        exact h2
  intro x n hx e
  obtain ⟨q, hq⟩ := key n x x hx e
  exact hc x q hx hq
/-- the parents by links: none is its own forebear; only letters have one -/
theorem pu_A0 {σ μ : tg_Mem} (hM : pu_M σ μ) : tr_acyc (tr_up (fb_A0 μ)) 30 ∧ ∀ j, j < 30 → μ 0 j = 0 → fb_A0 μ j = -1 := by
  obtain ⟨-, -, -, hv, hc, -⟩ := pu_links hM
  have hA : ∀ j, j < 30 → fb_A0 μ j = fb_abv (μ 0) (fb_L μ) (if μ 0 j = 0 then -1 else fb_L μ j) := fun j hj => pu_itupd (v := fun k => fb_abv (μ 0) (fb_L μ) (if μ 0 k = 0 then -1 else fb_L μ k)) (f0 := μ 10) 30 j hj
  have hm1 : fb_abv (μ 0) (fb_L μ) (-1) = -1 := by unfold fb_abv fb_abvF; rw [if_pos rfl]; rfl
  refine ⟨pu_acyc_by (tr_up_rng _ 30) hc (fun x y hx e => ?_), fun j hj h0 => by rw [hA j hj, if_pos h0, hm1]⟩
  obtain ⟨e1, hy⟩ := tr_up_s e
  rw [hA x hx] at e1
  by_cases h0 : μ 0 x = 0
  · rw [if_pos h0, hm1] at e1; exact absurd e1.symm (tr_nI1 hy)
  · rw [if_neg h0] at e1
    rcases hv x hx with hl | ⟨a, ha, hl⟩
    · rw [hl, hm1] at e1; exact absurd e1.symm (tr_nI1 hy)
    · rw [hl] at e1
      have h0τ : ∀ j, j < 30 → (fa_linkKnown (fa_findKnown σ) 0 j = 0 ↔ μ 0 j = 0) := fun j hj => by rw [(pu_links hM).1 0 (by decide) (by decide)]; exact (hM j hj).1
      have hb := (pu_abv h0τ (pu_links hM).2.2.1 hv hc (Or.inr ⟨a, ha, rfl⟩ : pu_v (nI a))).1
      rw [e1] at hb
      obtain ⟨q, hq⟩ := pu_abv_anc hv 31 a y ha hy hb
      exact ⟨q, by rw [tr_anc_s (tr_up_i ha hl)]; exact hq⟩
