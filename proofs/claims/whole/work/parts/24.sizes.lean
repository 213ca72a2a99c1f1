/-! ===== 24: sizes: a walk upwards ===== -/
theorem pu_lead_s {u : Nat → Option Nat} {a b y : Nat} (h : u a = some b) : tr_lead u a y ↔ y = a ∨ tr_lead u b y := by
  constructor
  · rintro ⟨n, e⟩
    cases n with
    | zero => exact Or.inl (Option.some.inj (show some a = some y from e)).symm
    | succ n => rw [tr_anc_s h] at e; exact Or.inr ⟨n, e⟩
  · rintro (rfl | ⟨n, e⟩)
    · exact tr_lead_rf u _
    · exact ⟨n + 1, by rw [tr_anc_s h]; exact e⟩
theorem pu_lead_n {u : Nat → Option Nat} {a y : Nat} (h : u a = none) : tr_lead u a y ↔ y = a := by
  constructor
  · rintro ⟨n, e⟩
    cases n with
    | zero => exact (Option.some.inj (show some a = some y from e)).symm
    | succ n => rw [tr_anc_n h] at e; cases e
  · rintro rfl
    exact tr_lead_rf u _
theorem pu_lead_no {u : Nat → Option Nat} {a b : Nat} (hc : tr_acyc u 30) (ha : a < 30) (h : u a = some b) : ¬ tr_lead u b a := fun ⟨n, e⟩ => hc a n ha (by rw [tr_anc_s h]; exact e)
def pu_min (s x : Int32) : Int32 := if s < x then s else x
theorem pu_upS {τ : tg_Mem} {sent : Int32} {x : Nat} : (∀ a, a ≠ 13 → a ≠ 15 → fa_upS sent x τ a = τ a) ∧ (∀ y, fa_upS sent x τ 15 y = if y = x then τ 15 x + 1 else τ 15 y) ∧ (∀ y, fa_upS sent x τ 13 y = if y = x then pu_min sent (τ 13 x) else τ 13 y) := by
  unfold fa_upS
  refine ⟨fun a h1 h2 => by rw [pu_set_o h1, pu_set_o h2], fun y => ?_, fun y => ?_⟩
  · rw [pu_set_o (by decide), pu_set_s]; rfl
  · rw [pu_set_s, pu_set_o (by decide)]; rfl
