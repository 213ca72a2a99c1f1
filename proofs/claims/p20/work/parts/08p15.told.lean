/-! ===== 15: what the reference knows; who is told as the parent ===== -/
def pu_KM (μ : tg_Mem) (n i : Nat) : Prop := ∃ j, j < n ∧ μ 0 j ≠ 0 ∧ (i = j ∨ nI i = μ 1 j ∨ nI i = μ 2 j ∨ nI i = μ 7 j)
theorem pu_KM_s {μ : tg_Mem} {n i : Nat} : pu_KM μ (n + 1) i ↔ pu_KM μ n i ∨ (μ 0 n ≠ 0 ∧ (i = n ∨ nI i = μ 1 n ∨ nI i = μ 2 n ∨ nI i = μ 7 n)) := by
  constructor
  · rintro ⟨j, h1, h2, h3⟩
    by_cases e : j = n
    · subst e; exact Or.inr ⟨h2, h3⟩
    · exact Or.inl ⟨j, by omega, h2, h3⟩
  · rintro (⟨j, h1, h2, h3⟩ | ⟨h2, h3⟩)
    · exact ⟨j, by omega, h2, h3⟩
    · exact ⟨n, by omega, h2, h3⟩
theorem pu_upd1 {κ : tb_A} {i j : Nat} : upd κ j 1 i ≠ 0 ↔ κ i ≠ 0 ∨ i = j := by
  by_cases e : i = j
  · subst e; rw [pu_upd_s]; exact ⟨fun _ => Or.inr rfl, fun _ => by decide⟩
  · rw [pu_upd_o e]; exact ⟨Or.inl, fun h => h.elim id (fun h => absurd h e)⟩
theorem pu_kT {tl κ : tb_A} {n i : Nat} (hi : i < 30) (hv : pu_v (tl n)) : fb_kT tl n κ i ≠ 0 ↔ κ i ≠ 0 ∨ nI i = tl n := by
  unfold fb_kT
  rcases hv with h | ⟨j, hj, h⟩
  · rw [if_pos h, h]; exact ⟨Or.inl, fun c => c.elim id (fun c => absurd c (tr_nI1 hi))⟩
  · rw [h, if_neg (tr_nI1 hj), tr_cl hj, pu_upd1, tr_nI hi hj]
theorem pu_kH {hd κ : tb_A} {n i : Nat} (hi : i < 30) (hv : pu_v (hd n) ∨ hd n = -2) : fb_kH hd n κ i ≠ 0 ↔ κ i ≠ 0 ∨ nI i = hd n := by
  unfold fb_kH
  rcases hv with (h | ⟨j, hj, h⟩) | h
  · rw [h, if_pos (by decide)]; exact ⟨Or.inl, fun c => c.elim id (fun c => absurd c (tr_nI1 hi))⟩
  · rw [h, if_neg (nI_pos (Nat.lt_trans hj (by decide))), tr_cl hj, pu_upd1, tr_nI hi hj]
  · rw [h, if_pos (by decide)]
    refine ⟨Or.inl, fun c => c.elim id (fun c => absurd ?_ (nI_pos (n := i) (Nat.lt_trans hi (by decide))))⟩
    rw [c]; decide
theorem pu_fbK {μ : tg_Mem} (hv : ∀ i, i < 30 → pu_v (μ 1 i) ∧ pu_v (μ 2 i) ∧ (pu_v (μ 7 i) ∨ μ 7 i = -2)) : ∀ i, i < 30 → (fb_K μ i ≠ 0 ↔ pu_KM μ 30 i) := by
  have h1 : ∀ n, n ≤ 30 → ∀ i, i < n → tg_it fb_k1 (μ 8) n i = 0 := by
    refine tg_inv (fun n κ => ∀ i, i < n → κ i = 0) fb_k1 30 (μ 8) (fun i h => absurd h (Nat.not_lt_zero i)) ?_
    intro n κ hn hk i hi
    unfold fb_k1
    by_cases e : i = n
    · subst e; exact pu_upd_s
    · rw [pu_upd_o e]; exact hk i (by omega)
  have h2 := tg_inv (fun n κ => ∀ i, i < 30 → (κ i ≠ 0 ↔ pu_KM μ n i)) (fb_k2 (μ 0) (μ 1) (μ 2) (μ 7)) 30 (tg_it fb_k1 (μ 8) 30) (fun i hi => by rw [h1 30 (Nat.le_refl _) i hi]; exact ⟨fun c => absurd rfl c, fun ⟨j, hj, _⟩ => absurd hj (Nat.not_lt_zero j)⟩) ?_ 30 (Nat.le_refl _)
  · exact h2
  intro n κ hn hk i hi
  unfold fb_k2
  obtain ⟨v1, v2, v7⟩ := hv n hn
  by_cases h : μ 0 n = 0
  · rw [if_pos h, hk i hi, pu_KM_s]
    exact ⟨Or.inl, fun c => c.elim id (fun c => absurd h c.1)⟩
  · rw [if_neg h, pu_kH hi v7, pu_kT hi v2, pu_kT hi v1, pu_upd1, hk i hi, pu_KM_s]
    simp only [or_assoc, ne_eq, h, not_false_eq_true, true_and]
/-- the class's known and the reference's -/
theorem pu_known {σ μ : tg_Mem} (hM : pu_M σ μ) : ∀ i, i < 30 → (fa_findKnown σ 9 i = 0 ↔ fb_K μ i = 0) := by
  intro i hi
  have h1 := pu_fk (σ := σ) |>.2 i hi
  have h2 := pu_fbK (μ := μ) (fun j hj => ⟨(hM j hj).2.1, (hM j hj).2.2.1, (hM j hj).2.2.2.1⟩) i hi
  have h3 : (σ 0 i ≠ 0 ∨ pu_K σ 30 i) ↔ pu_KM μ 30 i := by
    constructor
    · rintro (h | ⟨j, hj, h, hc⟩)
      · exact ⟨i, hi, fun c => h ((hM i hi).1.mpr c), Or.inl rfl⟩
      · obtain ⟨e1, e2, e8, -⟩ := (hM j hj).2.2.2.2.2 h
        refine ⟨j, hj, fun c => h ((hM j hj).1.mpr c), ?_⟩
        rw [e2, e1, e8] at hc
        exact Or.inr hc
    · rintro ⟨j, hj, h, hc⟩
      have h' : σ 0 j ≠ 0 := fun c => h ((hM j hj).1.mp c)
      obtain ⟨e1, e2, e8, -⟩ := (hM j hj).2.2.2.2.2 h'
      rcases hc with rfl | hc
      · exact Or.inl h'
      · exact Or.inr ⟨j, hj, h', by rw [e2, e1, e8]; exact hc⟩
  have h4 := h1.trans (h3.trans h2.symm)
  constructor
  · intro c
    exact Classical.byContradiction fun d => h4.mpr d c
  · intro c
    exact Classical.byContradiction fun d => h4.mp d c
/-- the mail as it was -/
def pu_same (σ τ : tg_Mem) : Prop := ∀ a, a < 9 → τ a = σ a
theorem pu_guess {σ τ μ : tg_Mem} (hM : pu_M σ μ) (hs : pu_same σ τ) {x : Nat} (hx : x < 30) : fa_guess τ (nI x) = fb_guess (μ 0) (μ 1) (μ 2) (nI x) := by
  unfold fa_guess fb_guess
  have key : ∀ (n i : Nat), n + i = 30 → fa_fnd τ (nI x) n i () = fb_fnd (μ 0) (μ 1) (μ 2) (nI x) n i () := by
    intro n
    induction n with
    | zero => intro i _; rfl
    | succ n ih =>
      intro i hi
      have hi' : i < 30 := by omega
      have ihn := ih (i + 1) (by omega)
      unfold fa_fnd fb_fnd
      obtain ⟨e1, e2, -⟩ := pu_told (σ := τ) hi'
      rw [e1, e2, hs 0 (by decide), hs 1 (by decide), hs 2 (by decide), ihn]
      by_cases h : σ 0 i = 0
      · have hne : ¬ (if σ 0 i ≠ 0 then σ 2 i else -1) = nI x := by rw [if_neg (fun c => c h)]; exact Ne.symm (tr_nI1 hx)
        rw [if_pos ((hM i hi').1.mp h), if_neg hne]
      · obtain ⟨m1, m2, -⟩ := (hM i hi').2.2.2.2.2 h
        rw [if_neg (fun c => h ((hM i hi').1.mpr c)), if_pos h, if_pos h, m1, m2]
  exact key 30 0 rfl
theorem pu_toldE {σ τ μ : tg_Mem} (hM : pu_M σ μ) (hs : pu_same σ τ) {x : Nat} (hx : x < 30) : fa_told τ (nI x) = fb_told (μ 0) (μ 1) (μ 2) (μ 7) (nI x) := by
  unfold fa_told fb_told
  obtain ⟨e1, e2, e3⟩ := pu_told (σ := τ) hx
  rw [e1, e3, hs 0 (by decide), hs 2 (by decide), hs 8 (by decide), tr_cl hx, pu_guess hM hs hx]
  by_cases h : σ 0 x = 0
  · have hf : fa_holds τ (nI x) = false := by
      cases hh : fa_holds τ (nI x)
      · rfl
      · exact absurd ((pu_holds hx).mp hh) (by rw [hs 0 (by decide)]; exact fun c => c h)
    rw [if_pos hf, if_pos ((hM x hx).1.mp h)]
  · have hf : ¬ fa_holds τ (nI x) = false := by
      rw [(pu_holds hx).mpr (by rw [hs 0 (by decide)]; exact h)]; decide
    obtain ⟨m1, m2, m8, -⟩ := (hM x hx).2.2.2.2.2 h
    rw [if_neg hf, if_neg (fun c => h ((hM x hx).1.mpr c)), if_pos h, if_pos h, m2, m8]
    by_cases h1 : μ 7 x = -1
    · rw [if_pos h1, if_neg (by rw [h1]; decide), if_pos h1]
    · rw [if_neg h1]
      by_cases h2 : μ 7 x = -2
      · rw [if_pos h2, if_pos h2]
      · rw [if_neg h2, if_neg h2, if_neg h1]
