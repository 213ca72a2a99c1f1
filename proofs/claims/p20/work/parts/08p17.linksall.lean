/-! ===== 17: the links, all; who stands above ===== -/
theorem pu_init {f : tb_A} : ∀ n, n ≤ 30 → ∀ j, j < n → tg_it fb_l1 f n j = -1 := by
  refine tg_inv (fun n κ => ∀ i, i < n → κ i = -1) fb_l1 30 f (fun i h => absurd h (Nat.not_lt_zero i)) ?_
  intro n κ hn hk i hi
  unfold fb_l1
  by_cases e : i = n
  · subst e; exact pu_upd_s
  · rw [pu_upd_o e]; exact hk i (by omega)
theorem pu_init1 {τ : tg_Mem} : ∀ n, n ≤ 30 → (∀ a, a ≠ 10 → tg_it fa_lk1 τ n a = τ a) ∧ ∀ j, j < n → tg_it fa_lk1 τ n 10 j = -1 := by
  refine tg_inv (fun n κ => (∀ a, a ≠ 10 → κ a = τ a) ∧ ∀ i, i < n → κ 10 i = -1) fa_lk1 30 τ ⟨fun _ _ => rfl, fun i h => absurd h (Nat.not_lt_zero i)⟩ ?_
  rintro n κ hn ⟨ho, hk⟩
  refine ⟨fun a ha => by unfold fa_lk1; rw [pu_set_o ha]; exact ho a ha, fun i hi => ?_⟩
  unfold fa_lk1
  rw [pu_set_s]
  by_cases e : i = n
  · subst e; exact pu_upd_s
  · rw [pu_upd_o e]; exact hk i (by omega)
theorem pu_R0 {τ0 : tg_Mem} {f : tb_A} : pu_R τ0 0 (tg_it fa_lk1 τ0 30) (tg_it fb_l1 f 30) := by
  have h1 := pu_init (f := f) 30 (Nat.le_refl _)
  obtain ⟨h2, h3⟩ := pu_init1 (τ := τ0) 30 (Nat.le_refl _)
  refine ⟨h2, fun j hj => by rw [h1 j hj, h3 j hj], fun j hj => Or.inl (h1 j hj), fun x n hx => ?_, fun j _ hj => h1 j hj⟩
  rw [tr_anc_n (tr_up_n (h1 x hx))]
  exact fun c => by cases c
/-- the links -/
theorem pu_links {σ μ : tg_Mem} (hM : pu_M σ μ) : (∀ a, a ≠ 9 → a ≠ 10 → fa_linkKnown (fa_findKnown σ) a = σ a) ∧ (∀ j, j < 30 → (fa_linkKnown (fa_findKnown σ) 9 j = 0 ↔ fb_K μ j = 0)) ∧ (∀ j, j < 30 → fa_linkKnown (fa_findKnown σ) 10 j = fb_L μ j) ∧ tr_val (fb_L μ) ∧ tr_acyc (tr_up (fb_L μ)) 30 ∧
    ∀ i, i < 30 → fb_toldK (μ 0) (μ 1) (μ 2) (μ 7) (fb_K μ) i ≠ -1 → fb_belF (tg_it (fb_l2 (μ 0) (μ 1) (μ 2) (μ 7) (fb_K μ)) (tg_it fb_l1 (μ 9) 30) i) (nI i) 31 (fb_toldK (μ 0) (μ 1) (μ 2) (μ 7) (fb_K μ) i) = some (fb_bel (tg_it (fb_l2 (μ 0) (μ 1) (μ 2) (μ 7) (fb_K μ)) (tg_it fb_l1 (μ 9) 30) i) (fb_toldK (μ 0) (μ 1) (μ 2) (μ 7) (fb_K μ) i) (nI i)) := by
  have hs : pu_same σ (fa_findKnown σ) := fun a ha => pu_fk.1 a (by omega)
  have hk := pu_known hM
  have h := tr_rel (pu_R (fa_findKnown σ)) fa_lk2 (fb_l2 (μ 0) (μ 1) (μ 2) (μ 7) (fb_K μ)) 30 _ _ (pu_R0 (f := μ 9)) (fun i a b hi h => (pu_step hM hs hi (hk i hi) h).1)
  obtain ⟨ho, he, hv, hc, -⟩ := h 30 (Nat.le_refl _)
  refine ⟨fun a h9 h10 => (ho a h10).trans (pu_fk.1 a h9), fun j hj => ?_, he, hv, hc, fun i hi => (pu_step hM hs hi (hk i hi) (h i (Nat.le_of_lt hi))).2⟩
  rw [← hk j hj]
  unfold fa_linkKnown
  rw [ho 9 (by decide)]
/-- who stands above: the two walks -/
theorem pu_abvF {τ : tg_Mem} {th lk : tb_A} (h0 : ∀ j, j < 30 → (τ 0 j = 0 ↔ th j = 0)) (he : ∀ j, j < 30 → τ 10 j = lk j) (hv : tr_val lk) : ∀ (n i a : Nat), a < 30 → tr_anc (tr_up lk) n a = none → ∃ r, fb_abvF th lk (n + 1) (nI a) = some r ∧ fa_pblF τ n i (nI a) = r ∧ pu_v r := by
  intro n
  induction n with
  | zero => intro i a _ h; cases h
  | succ n ih =>
    intro i a ha h
    have hid : fa_id (nI a) = true := fa_id_nI ha
    have hh : fa_holds τ (nI a) = true ↔ th a ≠ 0 := (pu_holds ha).trans (not_congr (h0 a ha))
    unfold fb_abvF fa_pblF
    rw [if_neg (tr_nI1 ha), if_pos hid, if_pos hid, tr_cl ha, he a ha]
    by_cases ht : th a = 0
    · rw [if_pos ht, if_neg (fun c => hh.mp c ht)]
      by_cases hl : lk a = -1
      · rw [if_pos hl, if_pos hl]
        exact ⟨_, rfl, rfl, Or.inr ⟨a, ha, rfl⟩⟩
      · rw [if_neg hl, if_neg hl]
        obtain ⟨b, hb, e⟩ := (hv a ha).resolve_left hl
        rw [e]
        rw [tr_anc_s (tr_up_i hb e)] at h
        exact ih (i + 1) b hb h
    · rw [if_neg ht, if_pos (hh.mpr ht)]
      exact ⟨_, rfl, rfl, Or.inr ⟨a, ha, rfl⟩⟩
theorem pu_abv {τ : tg_Mem} {th lk : tb_A} (h0 : ∀ j, j < 30 → (τ 0 j = 0 ↔ th j = 0)) (he : ∀ j, j < 30 → τ 10 j = lk j) (hv : tr_val lk) (hc : tr_acyc (tr_up lk) 30) {x : Int32} (hx : pu_v x) : fb_abvF th lk 31 x = some (fb_abv th lk x) ∧ fa_pbl τ x = fb_abv th lk x ∧ pu_v (fb_abv th lk x) := by
  rcases hx with rfl | ⟨a, ha, rfl⟩
  · have e : fb_abvF th lk 31 (-1) = some (-1) := by unfold fb_abvF; rw [if_pos rfl]
    have e2 : fb_abv th lk (-1) = -1 := by unfold fb_abv; rw [e]; rfl
    refine ⟨by rw [e2, e], ?_, Or.inl e2⟩
    rw [e2]
    unfold fa_pbl fa_pblF
    rw [if_neg (by rw [tr_id_m1]; decide)]
  · obtain ⟨r, h1, h2, h3⟩ := pu_abvF h0 he hv 30 0 a ha (tr_len (tr_up_rng lk 30) hc ha)
    have e2 : fb_abv th lk (nI a) = r := by unfold fb_abv; rw [h1]; rfl
    rw [e2]
    exact ⟨h1, h2, h3⟩
/-- the parents by links -/
theorem pu_above {σ μ : tg_Mem} (hM : pu_M σ μ) : (∀ a, a ≠ 9 → a ≠ 10 → a ≠ 11 → fa_hangByLinks (fa_linkKnown (fa_findKnown σ)) a = σ a) ∧ (∀ j, j < 30 → (fa_hangByLinks (fa_linkKnown (fa_findKnown σ)) 9 j = 0 ↔ fb_K μ j = 0)) ∧ (∀ j, j < 30 → fa_hangByLinks (fa_linkKnown (fa_findKnown σ)) 11 j = fb_A0 μ j) ∧ (∀ j, j < 30 → pu_v (fb_A0 μ j)) ∧ fb_hyp (μ 0) (μ 1) (μ 2) (μ 7) (μ 8) (μ 9) := by
  obtain ⟨ho, hk, he, hv, hc, hb⟩ := pu_links hM
  have h0 : ∀ τ : tg_Mem, τ 0 = σ 0 → ∀ j, j < 30 → (τ 0 j = 0 ↔ μ 0 j = 0) := fun τ h j hj => by rw [h]; exact (hM j hj).1
  have hx : ∀ j, j < 30 → pu_v (if μ 0 j = 0 then -1 else fb_L μ j) := fun j hj => by
    split
    · exact Or.inl rfl
    · exact hv j hj
  have h00 := h0 _ (ho 0 (by decide) (by decide))
  have key := tr_rel (fun i (τ : tg_Mem) (α : tb_A) => (∀ a, a ≠ 11 → τ a = fa_linkKnown (fa_findKnown σ) a) ∧ (∀ j, j < i → τ 11 j = α j ∧ pu_v (α j))) fa_hb (fb_a0 (μ 0) (fb_L μ)) 30 (fa_linkKnown (fa_findKnown σ)) (μ 10) ⟨fun _ _ => rfl, fun j hj => absurd hj (Nat.not_lt_zero j)⟩ ?_ 30 (Nat.le_refl _)
  · obtain ⟨k1, k2⟩ := key
    refine ⟨fun a h9 h10 h11 => (k1 a h11).trans (ho a h9 h10), fun j hj => ?_, fun j hj => (k2 j hj).1, fun j hj => (k2 j hj).2, fun i hi => (hM i hi).2.1.imp id (fun ⟨j, hj, e⟩ => by rw [e]; exact tg_in hj (by decide)), fun i hi => (hM i hi).2.2.1.imp id (fun ⟨j, hj, e⟩ => by rw [e]; exact tg_in hj (by decide)), fun i hi => ?_, hb, fun i hi => (pu_abv h00 he hv hc (hx i hi)).1⟩
    · unfold fa_hangByLinks
      rw [k1 9 (by decide)]
      exact hk j hj
    · rcases (hM i hi).2.2.2.1 with (e | ⟨j, hj, e⟩) | e
      · exact Or.inl (by rw [e]; decide)
      · exact Or.inr (by rw [e]; exact tg_in hj (by decide))
      · exact Or.inl (by rw [e]; decide)
  rintro i τ α hi ⟨k1, k2⟩
  refine ⟨fun a ha => by unfold fa_hb; rw [pu_set_o ha]; exact k1 a ha, fun j hj => ?_⟩
  have e0 : τ 0 = σ 0 := (k1 0 (by decide)).trans (ho 0 (by decide) (by decide))
  have eL : ∀ j, j < 30 → τ 10 j = fb_L μ j := fun j hj => by rw [k1 10 (by decide)]; exact he j hj
  unfold fa_hb fb_a0
  rw [pu_set_s]
  by_cases e : j = i
  · subst e
    obtain ⟨-, a2, a3⟩ := pu_abv (h0 τ e0) eL hv hc (hx j hi)
    rw [pu_upd_s, pu_upd_s]
    refine ⟨?_, a3⟩
    by_cases ht : μ 0 j = 0
    · rw [if_pos ht] at a2 a3 ⊢
      rw [if_neg (fun c => (pu_holds hi).mp c ((h0 τ e0 j hi).mpr ht)), ← a2]
      unfold fa_pbl fa_pblF
      rw [if_neg (by rw [tr_id_m1]; decide)]
    · rw [if_neg ht] at a2 a3 ⊢
      rw [if_pos ((pu_holds hi).mpr (fun c => ht ((h0 τ e0 j hi).mp c))), eL j hi, a2]
  · rw [pu_upd_o e, pu_upd_o e]
    exact k2 j (by omega)
