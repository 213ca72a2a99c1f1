/-! ===== 18: who is missing stays or goes ===== -/
def pu_c (f : tb_A) (x : Int32) : Nat → Nat | 0 => 0 | n + 1 => pu_c f x n + (if f n = x then 1 else 0)
theorem pu_c_le {f : tb_A} {x : Int32} : ∀ n, pu_c f x n ≤ n := by
  intro n
  induction n with
  | zero => exact Nat.le_refl _
  | succ n ih => unfold pu_c; split <;> omega
theorem pu_c0 {f : tb_A} {x : Int32} : ∀ n, pu_c f x n = 0 → ∀ k, k < n → f k ≠ x := by
  intro n
  induction n with
  | zero => intro _ k hk; exact absurd hk (Nat.not_lt_zero k)
  | succ n ih =>
    intro h k hk
    unfold pu_c at h
    by_cases e : f n = x
    · rw [if_pos e] at h; omega
    · rw [if_neg e] at h
      by_cases e2 : k = n
      · subst e2; exact e
      · exact ih h k (by omega)
theorem pu_c1 {f : tb_A} {x : Int32} : ∀ n, pu_c f x n = 1 → ∀ j, j < n → f j = x → ∀ k, k < n → f k = x → k = j := by
  intro n
  induction n with
  | zero => intro _ j hj; exact absurd hj (Nat.not_lt_zero j)
  | succ n ih =>
    intro h j hj hjx k hk hkx
    unfold pu_c at h
    by_cases e : f n = x
    · rw [if_pos e] at h
      have h0 := pu_c0 (f := f) (x := x) n (by omega)
      have h1 : j = n := Nat.eq_of_le_of_lt_succ (Nat.le_of_not_lt fun c => h0 j c hjx) hj
      have h2 : k = n := Nat.eq_of_le_of_lt_succ (Nat.le_of_not_lt fun c => h0 k c hkx) hk
      rw [h1, h2]
    · rw [if_neg e] at h
      have h1 : j ≠ n := fun c => e (by rw [← c]; exact hjx)
      have h2 : k ≠ n := fun c => e (by rw [← c]; exact hkx)
      exact ih h j (by omega) hjx k (by omega) hkx
theorem pu_c_eq {f g : tb_A} {x : Int32} : ∀ n, (∀ k, k < n → f k = g k) → pu_c f x n = pu_c g x n := by
  intro n
  induction n with
  | zero => intro _; rfl
  | succ n ih => intro h; unfold pu_c; rw [ih (fun k hk => h k (by omega)), h n (by omega)]
theorem pu_nch {σ : tg_Mem} {x : Int32} : fa_nch σ x = nI (pu_c (σ 11) x 30) := by
  have h := tg_inv (fun n (k : Int32) => k = nI (pu_c (σ 11) x n)) (fa_nchS σ x) 30 0 rfl ?_ 30 (Nat.le_refl _)
  · exact h
  intro n k hn hk
  unfold fa_nchS pu_c
  rw [hk]
  by_cases e : σ 11 n = x
  · rw [if_pos e, if_pos e, nI_succ]
  · rw [if_neg e, if_neg e]; rfl
theorem pu_bN {α : tb_A} {x : Int32} : (fb_bN α x).1 = nI (pu_c α x 30) ∧ (pu_c α x 30 ≠ 0 → ∃ j, j < 30 ∧ (fb_bN α x).2 = nI j ∧ α j = x) := by
  have h := tg_inv (fun n (q : Int32 × Int32) => q.1 = nI (pu_c α x n) ∧ (pu_c α x n ≠ 0 → ∃ j, j < n ∧ q.2 = nI j ∧ α j = x)) (fb_cnt α x) 30 (0, -1) ⟨rfl, fun c => absurd rfl c⟩ ?_ 30 (Nat.le_refl _)
  · exact h
  rintro n q hn ⟨h1, h2⟩
  unfold fb_cnt pu_c
  by_cases e : α n = x
  · rw [if_pos e, if_pos e, if_pos e]
    exact ⟨by rw [nI_succ]; exact congrArg (· + 1) h1, fun _ => ⟨n, by omega, rfl, e⟩⟩
  · rw [if_neg e, if_neg e, if_neg e]
    refine ⟨?_, fun c => ?_⟩
    · show q.1 + 0 = _
      rw [h1]; exact Int32.add_zero _
    · obtain ⟨j, hj, e1, e2⟩ := h2 c
      exact ⟨j, by omega, e1, e2⟩
theorem pu_free {τ : tg_Mem} {x : Int32} (hx : x ≠ -1) : (∀ a, a ≠ 11 → fa_free τ x a = τ a) ∧ ∀ j, j < 30 → fa_free τ x 11 j = if τ 11 j = x then -1 else τ 11 j := by
  have h := tg_inv (fun n (κ : tg_Mem) => (∀ a, a ≠ 11 → κ a = τ a) ∧ (∀ j, j < n → κ 11 j = if τ 11 j = x then -1 else τ 11 j) ∧ ∀ j, n ≤ j → κ 11 j = τ 11 j) (fa_fr x) 30 τ ⟨fun _ _ => rfl, fun j hj => absurd hj (Nat.not_lt_zero j), fun _ _ => rfl⟩ ?_ 30 (Nat.le_refl _)
  · exact ⟨h.1, h.2.1⟩
  rintro n κ hn ⟨h1, h2, h3⟩
  unfold fa_fr
  rw [h3 n (Nat.le_refl _)]
  by_cases e : τ 11 n = x
  · rw [if_pos e]
    refine ⟨fun a ha => by rw [pu_set_o ha]; exact h1 a ha, fun j hj => ?_, fun j hj => ?_⟩
    · rw [pu_set_s]
      by_cases e2 : j = n
      · subst e2; rw [pu_upd_s, if_pos e]
      · rw [pu_upd_o e2]; exact h2 j (by omega)
    · rw [pu_set_s, pu_upd_o (by omega)]; exact h3 j (by omega)
  · rw [if_neg e]
    refine ⟨h1, fun j hj => ?_, fun j hj => h3 j (by omega)⟩
    by_cases e2 : j = n
    · subst e2; rw [h3 j (Nat.le_refl _), if_neg e]
    · exact h2 j (by omega)
/-- on the way through the missing -/
def pu_B (τ0 : tg_Mem) (i : Nat) (τ : tg_Mem) (q : tb_A × tb_A) : Prop :=
  (∀ a, a ≠ 11 → a ≠ 12 → τ a = τ0 a) ∧ (∀ j, j < 30 → τ 11 j = q.1 j ∧ pu_v (q.1 j)) ∧ ∀ j, j < i → (τ 12 j = 0 ↔ q.2 j = 0)
theorem pu_Bstep {σ μ τ0 : tg_Mem} (hM : pu_M σ μ) (hs : pu_same σ τ0) {i : Nat} (hi : i < 30) {τ : tg_Mem} {q : tb_A × tb_A} (h : pu_B τ0 i τ q) : pu_B τ0 (i + 1) (fa_km i τ) (fb_b (μ 0) i q) := by
  obtain ⟨ho, he, hg⟩ := h
  have hh : fa_holds τ (nI i) = true ↔ μ 0 i ≠ 0 := by
    rw [pu_holds hi, ho 0 (by decide) (by decide), hs 0 (by decide)]
    exact not_congr (hM i hi).1
  have hc : pu_c (τ 11) (nI i) 30 = pu_c q.1 (nI i) 30 := pu_c_eq 30 (fun k hk => (he k hk).1)
  have hle := pu_c_le (f := q.1) (x := nI i) 30
  obtain ⟨b1, b2⟩ := pu_bN (α := q.1) (x := nI i)
  have hset : ∀ (v : Int32) (g : Int32), (v = 0 ↔ g = 0) → ∀ j, j < i + 1 → (tg_set τ 12 i v 12 j = 0 ↔ upd q.2 i g j = 0) := by
    intro v g hvg j hj
    rw [pu_set_s]
    by_cases e : j = i
    · subst e; rw [pu_upd_s, pu_upd_s]; exact hvg
    · rw [pu_upd_o e, pu_upd_o e]; exact hg j (by omega)
  unfold fa_km fb_b
  by_cases ht : μ 0 i = 0
  · rw [if_neg (fun c => hh.mp c ht), if_pos ht, pu_nch, hc, b1]
    have hcl : ∀ k, k ≤ 30 → (nI k < 2 ↔ k < 2) := fun k hk => by
      constructor
      · intro c; exact Classical.byContradiction fun d => nI_nlt (a := k) (b := 2) (by omega) (Nat.lt_of_le_of_lt hk (by decide)) c
      · intro c; exact nI_lt (a := k) (b := 2) c (by decide)
    have h1e : ∀ k, k ≤ 30 → (nI k = 1 ↔ k = 1) := fun k hk => nI_eq (a := k) (b := 1) (Nat.lt_of_le_of_lt hk (by decide)) (by decide)
    have hle1 : ∀ k, k ≤ 30 → (nI k ≤ 1 ↔ k ≤ 1) := fun k hk => by
      constructor
      · intro c; exact Classical.byContradiction fun d => nI_ge (a := 1) (b := k) (by omega) (Nat.lt_of_le_of_lt hk (by decide)) c
      · intro c; exact nI_le (a := k) (b := 1) c (by decide)
    by_cases hlt : pu_c q.1 (nI i) 30 < 2
    · rw [if_pos ((hcl _ hle).mpr hlt)]
      obtain ⟨f1, f2⟩ := pu_free (τ := tg_set τ 12 i 0) (x := nI i) (tr_nI1 hi)
      refine ⟨fun a h11 h12 => by rw [f1 a h11, pu_set_o h12]; exact ho a h11 h12, fun j hj => ?_, fun j hj => ?_⟩
      · rw [f2 j hj, pu_set_o (by decide), (he j hj).1]
        by_cases h1 : pu_c q.1 (nI i) 30 = 1
        · rw [if_pos ((h1e _ hle).mpr h1)]
          obtain ⟨k, hk, e1, e2⟩ := b2 (by omega)
          rw [e1, tr_cl hk]
          dsimp only
          by_cases e : j = k
          · subst e; rw [if_pos e2, pu_upd_s]; exact ⟨rfl, Or.inl rfl⟩
          · rw [if_neg (fun c => e (pu_c1 30 h1 k hk e2 j hj c)), pu_upd_o e]; exact ⟨rfl, (he j hj).2⟩
        · rw [if_neg (fun c => h1 ((h1e _ hle).mp c)), if_neg (pu_c0 30 (by omega) j hj)]
          exact ⟨rfl, (he j hj).2⟩
      · rw [f1 12 (by decide)]
        refine hset 0 _ ?_ j hj
        simp [tg_b, ht, (hle1 _ hle).mpr (by omega : pu_c q.1 (nI i) 30 ≤ 1)]
    · rw [if_neg (fun c => hlt ((hcl _ hle).mp c)), if_neg (fun c => by have := (h1e _ hle).mp c; omega)]
      refine ⟨fun a h11 h12 => by rw [pu_set_o h12]; exact ho a h11 h12, fun j hj => by rw [pu_set_o (by decide)]; exact he j hj, fun j hj => ?_⟩
      refine hset 1 _ ?_ j hj
      have hn : ¬ nI (pu_c q.1 (nI i) 30) ≤ 1 := fun c => by have := (hle1 _ hle).mp c; omega
      simp [tg_b, ht, hn]
  · rw [if_pos (hh.mpr ht), if_neg ht]
    refine ⟨fun a h11 h12 => by rw [pu_set_o h12]; exact ho a h11 h12, fun j hj => by rw [pu_set_o (by decide)]; exact he j hj, fun j hj => ?_⟩
    refine hset 1 _ ?_ j hj
    simp [tg_b, ht]
