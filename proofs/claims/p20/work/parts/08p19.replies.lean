/-! ===== 19: replies are hung alike ===== -/
theorem pu_keep {σ μ : tg_Mem} (hM : pu_M σ μ) : (∀ a, a ≠ 9 → a ≠ 10 → a ≠ 11 → a ≠ 12 → fa_keepMissing (fa_hangByLinks (fa_linkKnown (fa_findKnown σ))) a = σ a) ∧ (∀ j, j < 30 → (fa_keepMissing (fa_hangByLinks (fa_linkKnown (fa_findKnown σ))) 9 j = 0 ↔ fb_K μ j = 0)) ∧ (∀ j, j < 30 → fa_keepMissing (fa_hangByLinks (fa_linkKnown (fa_findKnown σ))) 11 j = (fb_AG μ).1 j ∧ pu_v ((fb_AG μ).1 j)) ∧ (∀ j, j < 30 → (fa_keepMissing (fa_hangByLinks (fa_linkKnown (fa_findKnown σ))) 12 j = 0 ↔ (fb_AG μ).2 j = 0)) := by
  obtain ⟨ho, hk, he, hv, -⟩ := pu_above hM
  have hs : pu_same σ (fa_hangByLinks (fa_linkKnown (fa_findKnown σ))) := fun a ha => ho a (by omega) (by omega) (by omega)
  have h := tr_rel (pu_B (fa_hangByLinks (fa_linkKnown (fa_findKnown σ)))) fa_km (fb_b (μ 0)) 30 (fa_hangByLinks (fa_linkKnown (fa_findKnown σ))) (fb_A0 μ, μ 11) ⟨fun _ _ _ => rfl, fun j hj => ⟨he j hj, hv j hj⟩, fun j hj => absurd hj (Nat.not_lt_zero j)⟩ (fun i a b hi h => pu_Bstep hM hs hi h) 30 (Nat.le_refl _)
  obtain ⟨h1, h2, h3⟩ := h
  refine ⟨fun a a9 a10 a11 a12 => (h1 a a11 a12).trans (ho a a9 a10 a11), fun j hj => ?_, h2, h3⟩
  rw [← hk j hj]
  unfold fa_keepMissing
  rw [h1 9 (by decide) (by decide)]
theorem pu_itupd {v : Nat → Int32} {f0 : tb_A} : ∀ n, ∀ j, j < n → tg_it (fun k f => upd f k (v k)) f0 n j = v j := by
  intro n
  induction n with
  | zero => intro j hj; exact absurd hj (Nat.not_lt_zero j)
  | succ n ih =>
    intro j hj
    show upd _ n (v n) j = v j
    by_cases e : j = n
    · subst e; exact pu_upd_s
    · rw [pu_upd_o e]; exact ih j (by omega)
/-- whom a reply is hung under -/
def pu_ov (μ : tg_Mem) (k : Nat) : Int32 := if fb_alone (μ 0) (fb_AG μ).1 (nI k) = true then (if μ 3 k < 10 then -1 else if μ 7 k = -2 then -1 else tg_it (fb_c2 (μ 0) (fb_AG μ).1 (μ 3) (μ 4) k) (-1) 30) else -1
theorem pu_O {μ : tg_Mem} : ∀ j, j < 30 → fb_O μ j = pu_ov μ j := fun j hj => pu_itupd (v := pu_ov μ) (f0 := μ 12) 30 j hj
theorem pu_A2 {μ : tg_Mem} : ∀ j, j < 30 → fb_A2 μ j = if pu_ov μ j = -1 then (fb_AG μ).1 j else pu_ov μ j := by
  have h := tg_inv (fun n (α : tb_A) => (∀ j, j < 30 → j < n → α j = if pu_ov μ j = -1 then (fb_AG μ).1 j else pu_ov μ j) ∧ ∀ j, n ≤ j → α j = (fb_AG μ).1 j) (fb_d (fb_O μ)) 30 (fb_AG μ).1 ⟨fun j _ hj => absurd hj (Nat.not_lt_zero j), fun _ _ => rfl⟩ ?_ 30 (Nat.le_refl _)
  · exact fun j hj => h.1 j hj hj
  rintro n α hn ⟨h1, h2⟩
  unfold fb_d
  rw [pu_O n hn, h2 n (Nat.le_refl _)]
  refine ⟨fun j hj hj2 => ?_, fun j hj => by rw [pu_upd_o (by omega)]; exact h2 j (by omega)⟩
  by_cases e : j = n
  · subst e; exact pu_upd_s
  · rw [pu_upd_o e]; exact h1 j hj (by omega)
theorem pu_alone {μ : tg_Mem} {α : tb_A} {j : Nat} (hj : j < 30) : fb_alone (μ 0) α (nI j) = true ↔ μ 0 j ≠ 0 ∧ α j = -1 := by
  unfold fb_alone
  rw [tr_cl hj]
  simp
