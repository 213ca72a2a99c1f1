/-! ===== 24: sizes: a walk upwards ===== -/
theorem pu_lead_s {u : Nat → Option Nat} {a b y : Nat} (h : u a = some b) : tr_lead u a y ↔ y = a ∨ tr_lead u b y := by
  constructor
  · rintro ⟨n, e⟩
    cases n with
    | zero => exact Or.inl (Option.some.inj (show some a = some y from e)).symm
    | succ n => rw [tr_anc_s h] at e; exact Or.inr ⟨n, e⟩
  · rintro (rfl | ⟨n, e⟩)
    · exact tr_lead_rf u _
    · exact ⟨n + 1, by rw [tr_anc_s h]; exact e⟩
theorem pu_lead_n {u : Nat → Option Nat} {a y : Nat} (h : u a = none) : tr_lead u a y ↔ y = a := by
  constructor
  · rintro ⟨n, e⟩
    cases n with
    | zero => exact (Option.some.inj (show some a = some y from e)).symm
    | succ n => rw [tr_anc_n h] at e; cases e
  · rintro rfl
    exact tr_lead_rf u _
theorem pu_lead_no {u : Nat → Option Nat} {a b : Nat} (hc : tr_acyc u 30) (ha : a < 30) (h : u a = some b) : ¬ tr_lead u b a := fun ⟨n, e⟩ => hc a n ha (by rw [tr_anc_s h]; exact e)
def pu_min (s x : Int32) : Int32 := if s < x then s else x
theorem pu_upS {τ : tg_Mem} {sent : Int32} {x : Nat} : (∀ a, a ≠ 13 → a ≠ 15 → fa_upS sent x τ a = τ a) ∧ (∀ y, fa_upS sent x τ 15 y = if y = x then τ 15 x + 1 else τ 15 y) ∧ (∀ y, fa_upS sent x τ 13 y = if y = x then pu_min sent (τ 13 x) else τ 13 y) := by
  unfold fa_upS
  refine ⟨fun a h1 h2 => by rw [pu_set_o h1, pu_set_o h2], fun y => ?_, fun y => ?_⟩
  · rw [pu_set_o (by decide), pu_set_s]; rfl
  · rw [pu_set_s, pu_set_o (by decide)]; rfl
/-- what a walk upwards leaves behind -/
def pu_W (sent : Int32) (τ τ' : tg_Mem) (P : Nat → Prop) : Prop :=
  (∀ a, a ≠ 13 → a ≠ 15 → τ' a = τ a) ∧ ∀ y, y < 30 → (P y → τ' 15 y = τ 15 y + 1 ∧ τ' 13 y = pu_min sent (τ 13 y)) ∧ (¬ P y → τ' 15 y = τ 15 y ∧ τ' 13 y = τ 13 y)
theorem pu_upF {u : Nat → Option Nat} (hr : tr_rng u 30) (hc : tr_acyc u 30) {sent : Int32} : ∀ (n i a : Nat) (τ : tg_Mem), a < 30 → (∀ x, x < 30 → tr_up (τ 11) x = u x) → tr_anc u n a = none → pu_W sent τ (fa_upF sent n i (nI a, τ)) (tr_lead u a) := by
  intro n
  induction n with
  | zero => intro i a τ _ _ h; cases h
  | succ n ih =>
    intro i a τ ha hu h
    unfold fa_upF
    rw [if_pos (fa_id_nI ha), tr_cl ha]
    dsimp only
    obtain ⟨s1, s2, s3⟩ := pu_upS (τ := τ) (sent := sent) (x := a)
    have hu2 : ∀ x, x < 30 → tr_up (fa_upS sent a τ 11) x = u x := fun x hx => by rw [s1 11 (by decide) (by decide)]; exact hu x hx
    cases e : u a with
    | none =>
      have hv : fa_id (τ 11 a) = false := by
        have := hu a ha
        rw [e] at this
        unfold tr_up at this
        cases h1 : fa_id (τ 11 a)
        · rfl
        · rw [if_pos h1] at this; cases this
      have hend : fa_upF sent n (i + 1) (τ 11 a, fa_upS sent a τ) = fa_upS sent a τ := by
        cases n with
        | zero => rfl
        | succ n => unfold fa_upF; rw [if_neg (by rw [hv]; decide)]
      rw [hend]
      refine ⟨s1, fun y hy => ⟨fun hp => ?_, fun hp => ?_⟩⟩
      · have ey := (pu_lead_n e).mp hp
        subst ey
        exact ⟨by rw [s2, if_pos rfl], by rw [s3, if_pos rfl]⟩
      · have ey : ¬ y = a := fun c => hp ((pu_lead_n e).mpr c)
        exact ⟨by rw [s2, if_neg ey], by rw [s3, if_neg ey]⟩
    | some b =>
      have hb := hr a b ha e
      have h11 : τ 11 a = nI b := (tr_up_s ((hu a ha).trans e)).1
      rw [tr_anc_s e] at h
      rw [h11]
      obtain ⟨w1, w2⟩ := ih (i + 1) b (fa_upS sent a τ) hb hu2 h
      have hno := pu_lead_no hc ha e
      refine ⟨fun k h1 h2 => (w1 k h1 h2).trans (s1 k h1 h2), fun y hy => ⟨fun hp => ?_, fun hp => ?_⟩⟩
      · rcases (pu_lead_s e).mp hp with ey | hp2
        · subst ey
          obtain ⟨c1, c2⟩ := (w2 y hy).2 hno
          exact ⟨by rw [c1, s2, if_pos rfl], by rw [c2, s3, if_pos rfl]⟩
        · have ey : ¬ y = a := fun c => hno (by rw [← c]; exact hp2)
          obtain ⟨c1, c2⟩ := (w2 y hy).1 hp2
          exact ⟨by rw [c1, s2, if_neg ey], by rw [c2, s3, if_neg ey]⟩
      · have ey : ¬ y = a := fun c => hp ((pu_lead_s e).mpr (Or.inl c))
        have hp2 : ¬ tr_lead u b y := fun c => hp ((pu_lead_s e).mpr (Or.inr c))
        obtain ⟨c1, c2⟩ := (w2 y hy).2 hp2
        exact ⟨by rw [c1, s2, if_neg ey], by rw [c2, s3, if_neg ey]⟩
