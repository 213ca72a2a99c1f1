/-! ===== 16: the links are the same ===== -/
theorem pu_anc {u u' : Nat → Option Nat} (h : ∀ x, x < 30 → u x = u' x) (hr : tr_rng u' 30) : ∀ (n x : Nat), x < 30 → tr_anc u n x = tr_anc u' n x := by
  intro n
  induction n with
  | zero => intro x _; rfl
  | succ n ih =>
    intro x hx
    cases e : u' x with
    | none => rw [tr_anc_n e, tr_anc_n ((h x hx).trans e)]
    | some y => rw [tr_anc_s e, tr_anc_s ((h x hx).trans e)]; exact ih y (hr x y hx e)
theorem pu_lead {u u' : Nat → Option Nat} (h : ∀ x, x < 30 → u x = u' x) (hr : tr_rng u' 30) {a b : Nat} (ha : a < 30) : tr_lead u a b ↔ tr_lead u' a b :=
  ⟨fun ⟨n, e⟩ => ⟨n, by rw [← pu_anc h hr n a ha]; exact e⟩, fun ⟨n, e⟩ => ⟨n, by rw [pu_anc h hr n a ha]; exact e⟩⟩
theorem pu_acyc {u u' : Nat → Option Nat} (h : ∀ x, x < 30 → u x = u' x) (hr : tr_rng u' 30) (hc : tr_acyc u' 30) : tr_acyc u 30 := fun x n hx => by
  rw [pu_anc h hr (n + 1) x hx]
  exact hc x n hx
theorem pu_up_eq {f g : tb_A} {x : Nat} (h : f x = g x) : tr_up f x = tr_up g x := by unfold tr_up; rw [h]
theorem pu_guessV {μ : tg_Mem} (hv : ∀ i, i < 30 → pu_v (μ 2 i)) (x : Int32) : pu_v (fb_guess (μ 0) (μ 1) (μ 2) x) := by
  unfold fb_guess
  have key : ∀ (n i : Nat), n + i = 30 → pu_v (fb_fnd (μ 0) (μ 1) (μ 2) x n i ()) := by
    intro n
    induction n with
    | zero => intro i _; exact Or.inl rfl
    | succ n ih =>
      intro i hi
      have ihn := ih (i + 1) (by omega)
      unfold fb_fnd
      split
      · exact ihn
      · split
        · split
          · exact ihn
          · exact hv i (by omega)
        · exact ihn
  exact key 30 0 rfl
theorem pu_toldV {μ : tg_Mem} (hv : ∀ i, i < 30 → pu_v (μ 1 i) ∧ pu_v (μ 2 i) ∧ (pu_v (μ 7 i) ∨ μ 7 i = -2)) {x : Nat} (hx : x < 30) : pu_v (fb_told (μ 0) (μ 1) (μ 2) (μ 7) (nI x)) := by
  unfold fb_told
  rw [tr_cl hx]
  obtain ⟨v1, v2, v7⟩ := hv x hx
  split
  · exact pu_guessV (fun i hi => (hv i hi).2.1) _
  · split
    · exact Or.inl rfl
    · split
      · exact v1
      · exact v7.resolve_right (by assumption)
/-- the relation on the way -/
def pu_R (τ0 : tg_Mem) (i : Nat) (τ : tg_Mem) (lk : tb_A) : Prop :=
  (∀ a, a ≠ 10 → τ a = τ0 a) ∧ (∀ j, j < 30 → τ 10 j = lk j) ∧ tr_val lk ∧ tr_acyc (tr_up lk) 30 ∧ ∀ j, i ≤ j → j < 30 → lk j = -1
theorem pu_leadm1 (σ : tg_Mem) (b : Int32) : fa_lead σ (-1) b = false := by
  unfold fa_lead fa_leadF
  rw [if_neg (by rw [tr_id_m1]; decide)]
theorem pu_step {σ μ τ0 : tg_Mem} (hM : pu_M σ μ) (hs : pu_same σ τ0) {i : Nat} (hi : i < 30) (hk : τ0 9 i = 0 ↔ fb_K μ i = 0) {τ : tg_Mem} {lk : tb_A} (h : pu_R τ0 i τ lk) :
    pu_R τ0 (i + 1) (fa_lk2 i τ) (fb_l2 (μ 0) (μ 1) (μ 2) (μ 7) (fb_K μ) i lk) ∧ (fb_toldK (μ 0) (μ 1) (μ 2) (μ 7) (fb_K μ) i ≠ -1 → fb_belF lk (nI i) 31 (fb_toldK (μ 0) (μ 1) (μ 2) (μ 7) (fb_K μ) i) = some (fb_bel lk (fb_toldK (μ 0) (μ 1) (μ 2) (μ 7) (fb_K μ) i) (nI i))) := by
  obtain ⟨ho, he, hv, hc, hf⟩ := h
  have hsτ : pu_same σ τ := fun a ha => (ho a (by omega)).trans (hs a ha)
  have htold := pu_toldE hM hsτ hi
  have hK9 : τ 9 i = 0 ↔ fb_K μ i = 0 := by rw [ho 9 (by decide)]; exact hk
  have hlk : lk i = -1 := hf i (Nat.le_refl _) hi
  have hup : ∀ x, x < 30 → tr_up (τ 10) x = tr_up lk x := fun x hx => pu_up_eq (he x hx)
  have hcτ : tr_acyc (tr_up (τ 10)) 30 := pu_acyc hup (tr_up_rng lk 30) hc
  have hV := pu_toldV (μ := μ) (fun j hj => ⟨(hM j hj).2.1, (hM j hj).2.2.1, (hM j hj).2.2.2.1⟩) hi
  -- writing -1
  have none : tr_up (upd lk i (-1)) = tr_up lk := by
    funext x
    by_cases e : x = i
    · subst e; exact pu_up_eq (by rw [pu_upd_s, hlk])
    · exact pu_up_eq (pu_upd_o e)
  have w1 : ∀ (τ' : tg_Mem), (∀ a, a ≠ 10 → τ' a = τ a) → (∀ j, j < 30 → τ' 10 j = upd lk i (-1) j) → pu_R τ0 (i + 1) τ' (upd lk i (-1)) := by
    intro τ' h1 h2
    refine ⟨fun a ha => (h1 a ha).trans (ho a ha), h2, fun j hj => ?_, by rw [none]; exact hc, fun j hj hj2 => by rw [pu_upd_o (by omega)]; exact hf j (by omega) hj2⟩
    by_cases e : j = i
    · subst e; exact Or.inl pu_upd_s
    · rw [pu_upd_o e]; exact hv j hj
  have wU : ∀ v : Int32, ∀ j, j < 30 → tg_set τ 10 i v 10 j = upd lk i v j := by
    intro v j hj
    rw [pu_set_s]
    by_cases e : j = i
    · subst e; rw [pu_upd_s, pu_upd_s]
    · rw [pu_upd_o e, pu_upd_o e]; exact he j hj
  unfold fa_lk2 fb_l2
  by_cases h9 : fb_K μ i = 0
  · have eT : fb_toldK (μ 0) (μ 1) (μ 2) (μ 7) (fb_K μ) i = -1 := by unfold fb_toldK; rw [if_pos h9]
    rw [if_pos (hK9.mpr h9), eT, if_pos rfl]
    refine ⟨w1 τ (fun _ _ => rfl) (fun j hj => ?_), fun c => absurd rfl c⟩
    by_cases e : j = i
    · subst e; rw [pu_upd_s, he j hj, hlk]
    · rw [pu_upd_o e]; exact he j hj
  · have eT : fb_toldK (μ 0) (μ 1) (μ 2) (μ 7) (fb_K μ) i = fb_told (μ 0) (μ 1) (μ 2) (μ 7) (nI i) := by unfold fb_toldK; rw [if_neg h9]
    rw [if_neg (fun c => h9 (hK9.mp c)), eT, htold]
    rcases hV with e | ⟨a, ha, e⟩
    · rw [e, pu_leadm1, if_neg (by decide), if_pos rfl]
      exact ⟨w1 _ (fun a ha => pu_set_o ha) (wU (-1)), fun c => absurd rfl c⟩
    · rw [e]
      obtain ⟨b1, b2⟩ := tr_bel hv hc ha hi
      have l1 := (tr_lead_iff (σ := τ) ha hi hcτ).trans (pu_lead hup (tr_up_rng lk 30) ha)
      refine ⟨?_, fun _ => b1⟩
      rw [if_neg (tr_nI1 ha)]
      by_cases hl : tr_lead (tr_up lk) a i
      · rw [if_pos (l1.mpr hl), if_pos (b2.mpr hl)]
        exact w1 _ (fun a ha => pu_set_o ha) (wU (-1))
      · rw [if_neg (fun c => hl (l1.mp c)), if_neg (fun c => hl (b2.mp c))]
        refine ⟨fun x hx => (pu_set_o hx).trans (ho x hx), wU _, fun j hj => ?_, ?_, fun j hj hj2 => by rw [pu_upd_o (by omega)]; exact hf j (by omega) hj2⟩
        · by_cases e : j = i
          · subst e; exact Or.inr ⟨a, ha, pu_upd_s⟩
          · rw [pu_upd_o e]; exact hv j hj
        · exact tr_acyc_add hc (fun j hj => pu_up_eq (pu_upd_o hj)) (tr_up_i ha pu_upd_s) hl
