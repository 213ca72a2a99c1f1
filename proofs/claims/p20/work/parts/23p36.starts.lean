/-! ===== 36: the class's order of all trees ===== -/
def pu_S (σ : tg_Mem) (i : Nat) : Prop := σ 12 i ≠ 0
def pu_bf (σ : tg_Mem) (a b : Nat) : Prop := fa_before σ (nI a) (nI b) = true
abbrev pu_u (σ : tg_Mem) : Nat → Option Nat := tr_up (σ 11)
/-- a forest whose parents are as they must be -/
def pu_F0 (σ : tg_Mem) : Prop := tr_val (σ 11) ∧ tr_acyc (pu_u σ) 30 ∧ ∀ x y, x < 30 → pu_u σ x = some y → pu_S σ x ∧ pu_S σ y
theorem pu_u11 {σ : tg_Mem} (hv : tr_val (σ 11)) {a b : Nat} (ha : a < 30) (hb : b < 30) : pu_u σ a = pu_u σ b ↔ σ 11 a = σ 11 b := by
  constructor
  · intro h
    cases e : pu_u σ b with
    | none => rw [tr_val_none hv ha (h.trans e), tr_val_none hv hb e]
    | some y => rw [(tr_up_s (h.trans e)).1, (tr_up_s e).1]
  · intro h
    show tr_up (σ 11) a = tr_up (σ 11) b
    unfold tr_up
    rw [h]
theorem pu_T {σ : tg_Mem} (h : pu_F0 σ) : pu_TR (pu_u σ) (pu_S σ) (pu_bf σ) := by
  obtain ⟨hv, hc, hS⟩ := h
  refine ⟨tr_up_rng _ 30, hc, hS, fun a b ha hb c => ?_, fun a ha => pu_bf_irr ha, fun a b c ha hb hc => pu_bf_tr ha hb hc, fun a b ha hb h1 h2 h3 h4 => pu_bf_tot ha hb h1 h2 ((pu_u11 hv ha hb).mp h3) h4⟩
  obtain ⟨c1, c2, c3, -⟩ := (pu_before ha hb).mp c
  exact ⟨c1, c2, (pu_u11 hv ha hb).mpr c3⟩
theorem pu_cont {σ : tg_Mem} {x : Nat} (hx : x < 30) : fa_cont σ (nI x) = true ↔ pu_S σ x := by
  unfold fa_cont pu_S
  rw [fa_id_nI hx, tr_cl hx]
  simp
theorem pu_parE {σ : tg_Mem} (h : pu_F0 σ) {x : Nat} (hx : x < 30) : fa_par σ (nI x) = σ 11 x := by
  unfold fa_par
  by_cases c : pu_S σ x
  · rw [if_pos ((pu_cont hx).mpr c), tr_cl hx]
  · rw [if_neg (fun d => c ((pu_cont hx).mp d))]
    cases e : pu_u σ x with
    | none => exact (tr_val_none h.1 hx e).symm
    | some y => exact absurd (h.2.2 x y hx e).1 c
theorem pu_offE {σ : tg_Mem} (h : pu_F0 σ) (hz : ∀ i, i < 30 → σ 15 i = nI (pu_sz (pu_u σ) (pu_S σ) i)) {x : Nat} (hx : x < 30) : fa_off σ (nI x) = nI (pu_of (pu_u σ) (pu_S σ) (pu_bf σ) x) := by
  rw [pu_off hz, pu_parE h hx]
  cases e : pu_u σ x with
  | none => rw [if_pos (tr_val_none h.1 hx e), pu_of_n e, Nat.zero_add]; rfl
  | some y =>
    obtain ⟨e1, e2⟩ := tr_up_s e
    rw [pu_of_s e, if_neg (by rw [e1]; exact tr_nI1 e2)]; rfl
theorem pu_startF {σ : tg_Mem} (h : pu_F0 σ) {S : Nat → Prop} {bf : Nat → Nat → Prop} (h16 : ∀ i, i < 30 → σ 16 i = nI (pu_of (pu_u σ) S bf i)) : ∀ (n i a b : Nat), a < 30 → fa_startF σ n i (nI b, nI a) = nI (b + pu_stF (pu_u σ) S bf n a) := by
  intro n
  induction n with
  | zero => intro i a b _; rfl
  | succ n ih =>
    intro i a b ha
    unfold fa_startF
    dsimp only
    rw [if_pos (fa_id_nI ha), tr_cl ha, h16 a ha, nI_add]
    cases e : pu_u σ a with
    | none =>
      rw [pu_stF_n e, tr_val_none h.1 ha e]
      cases n with
      | zero => rfl
      | succ n => unfold fa_startF; dsimp only; rw [tr_id_m1]; rfl
    | some y =>
      obtain ⟨e1, e2⟩ := tr_up_s e
      rw [pu_stF_s e, e1, ih (i + 1) y _ e2, Nat.add_assoc]
theorem pu_startE {σ : tg_Mem} (h : pu_F0 σ) {S : Nat → Prop} {bf : Nat → Nat → Prop} (h16 : ∀ i, i < 30 → σ 16 i = nI (pu_of (pu_u σ) S bf i)) {x : Nat} (hx : x < 30) : fa_start σ (nI x) = nI (pu_st (pu_u σ) S bf x) := by
  unfold fa_start pu_st
  have := pu_startF h h16 30 0 x 0 hx
  rw [Nat.zero_add] at this
  exact this
/-- the starts and the order -/
theorem pu_placeT {τ : tg_Mem} (h : pu_F0 τ) (hz : ∀ i, i < 30 → τ 15 i = nI (pu_sz (pu_u τ) (pu_S τ) i)) :
    (∀ a, a ≠ 16 → a ≠ 17 → a ≠ 18 → fa_placeTrees τ a = τ a) ∧ (∀ i, i < 30 → fa_placeTrees τ 17 i = nI (pu_st (pu_u τ) (pu_S τ) (pu_bf τ) i)) ∧ ∀ i, i < 30 → pu_S τ i → fa_placeTrees τ 18 (pu_st (pu_u τ) (pu_S τ) (pu_bf τ) i) = nI i := by
  have T := pu_T h
  obtain ⟨o1, k1⟩ := pu_pt1 (σ := τ) 30 (Nat.le_refl _)
  have hh := tg_inv (fun n (κ : tg_Mem) => (∀ a, a ≠ 16 → a ≠ 17 → a ≠ 18 → κ a = τ a) ∧ (∀ i, i < 30 → κ 16 i = nI (pu_of (pu_u τ) (pu_S τ) (pu_bf τ) i)) ∧ (∀ i, i < n → κ 17 i = nI (pu_st (pu_u τ) (pu_S τ) (pu_bf τ) i)) ∧ ∀ i, i < n → pu_S τ i → κ 18 (pu_st (pu_u τ) (pu_S τ) (pu_bf τ) i) = nI i) fa_pt2 30 (tg_it fa_pt1 τ 30) ⟨fun a h1 _ _ => o1 a h1, fun i hi => (k1 i hi).trans (pu_offE h hz hi), fun i hi => absurd hi (Nat.not_lt_zero i), fun i hi => absurd hi (Nat.not_lt_zero i)⟩ ?_ 30 (Nat.le_refl _)
  · exact ⟨hh.1, hh.2.2.1, hh.2.2.2⟩
  rintro n κ hn ⟨ho, h6, h7, h8⟩
  have hu : pu_u κ = pu_u τ := by unfold pu_u; rw [ho 11 (by decide) (by decide) (by decide)]
  have hF : pu_F0 κ := by
    refine ⟨by rw [ho 11 (by decide) (by decide) (by decide)]; exact h.1, by rw [hu]; exact h.2.1, fun x y hx e => ?_⟩
    rw [hu] at e
    unfold pu_S
    rw [ho 12 (by decide) (by decide) (by decide)]
    exact h.2.2 x y hx e
  have hst : fa_start κ (nI n) = nI (pu_st (pu_u τ) (pu_S τ) (pu_bf τ) n) := by
    rw [pu_startE hF (S := pu_S τ) (bf := pu_bf τ) (by rw [hu]; exact h6) hn, hu]
  unfold fa_pt2
  rw [hst, ho 12 (by decide) (by decide) (by decide)]
  by_cases hs : pu_S τ n
  · have hs' : ¬ τ 12 n = 0 := hs
    have hlt : pu_st (pu_u τ) (pu_S τ) (pu_bf τ) n < 30 := by
      have := pu_st30 T hn hs
      have := pu_sz1 (u := pu_u τ) hn hs
      omega
    rw [if_neg hs', if_pos (fa_id_nI hlt), tr_cl hlt]
    refine ⟨fun a a1 a2 a3 => by rw [pu_set_o a3, pu_set_o a2]; exact ho a a1 a2 a3, fun i hi => by rw [pu_set_o (by decide), pu_set_o (by decide)]; exact h6 i hi, fun i hi => ?_, fun i hi hi2 => ?_⟩
    · rw [pu_set_o (by decide), pu_set_s]
      by_cases e : i = n
      · subst e; exact pu_upd_s
      · rw [pu_upd_o e]; exact h7 i (by omega)
    · rw [pu_set_s, pu_set_o (by decide)]
      by_cases e : i = n
      · subst e; exact pu_upd_s
      · rw [pu_upd_o (fun c => e (pu_st_inj T (by omega) hn hi2 hs c))]
        exact h8 i (by omega) hi2
  · have hs' : τ 12 n = 0 := Classical.byContradiction fun c => hs c
    rw [if_pos hs']
    refine ⟨fun a a1 a2 a3 => by rw [pu_set_o a2]; exact ho a a1 a2 a3, fun i hi => by rw [pu_set_o (by decide)]; exact h6 i hi, fun i hi => ?_, fun i hi hi2 => ?_⟩
    · rw [pu_set_s]
      by_cases e : i = n
      · subst e; exact pu_upd_s
      · rw [pu_upd_o e]; exact h7 i (by omega)
    · rw [pu_set_o (by decide)]
      by_cases e : i = n
      · subst e; exact absurd hi2 hs
      · exact h8 i (by omega) hi2
