/-! ===== 38: a tree's row, in the class and in the reference ===== -/
theorem pu_sz_cg {u u' : Nat → Option Nat} {S : Nat → Prop} (h : ∀ x, x < 30 → u x = u' x) (hr : tr_rng u' 30) (y : Nat) : pu_sz u S y = pu_sz u' S y :=
  pu_n_cong 30 (fun i hi => and_congr Iff.rfl (pu_lead h hr hi))
theorem pu_of_cg {u u' : Nat → Option Nat} {S : Nat → Prop} {bf : Nat → Nat → Prop} (h : ∀ x, x < 30 → u x = u' x) (hr : tr_rng u' 30) {x : Nat} (hx : x < 30) : pu_of u S bf x = pu_of u' S bf x := by
  unfold pu_of
  rw [h x hx, pu_sum_cong 30 (fun i _ => Iff.rfl) (fun i _ => pu_sz_cg h hr i)]
theorem pu_stF_cg {u u' : Nat → Option Nat} {S : Nat → Prop} {bf : Nat → Nat → Prop} (h : ∀ x, x < 30 → u x = u' x) (hr : tr_rng u' 30) : ∀ (n x : Nat), x < 30 → pu_stF u S bf n x = pu_stF u' S bf n x := by
  intro n
  induction n with
  | zero => intro x _; rfl
  | succ n ih =>
    intro x hx
    cases e : u' x with
    | none => rw [pu_stF_n e, pu_stF_n ((h x hx).trans e), pu_of_cg h hr hx]
    | some y => rw [pu_stF_s e, pu_stF_s ((h x hx).trans e), pu_of_cg h hr hx, ih y (hr x y hx e)]
theorem pu_TR_cg {u u' : Nat → Option Nat} {S : Nat → Prop} {bf : Nat → Nat → Prop} (h : ∀ x, x < 30 → u x = u' x) (T : pu_TR u' S bf) : pu_TR u S bf := by
  obtain ⟨h1, h2, h3, h4, h5, h6, h7⟩ := T
  refine ⟨fun x y hx e => h1 x y hx ((h x hx).symm.trans e), pu_acyc h h1 h2, fun x y hx e => h3 x y hx ((h x hx).symm.trans e), fun a b ha hb c => ?_, h5, h6, fun a b ha hb s1 s2 e => h7 a b ha hb s1 s2 ((h a ha).symm.trans (e.trans (h b hb)))⟩
  obtain ⟨c1, c2, c3⟩ := h4 a b ha hb c
  exact ⟨c1, c2, (h a ha).trans (c3.trans (h b hb).symm)⟩
/-- the reference's days order the siblings as the class does -/
theorem pu_AHof {σ μ : tg_Mem} (hM : pu_M σ μ) (hG : pu_G σ) (hA : pu_A σ μ) : pu_AH (fb_A2 μ) (μ 4) (pu_bf σ) := by
  intro a b p ha hb ea eb
  obtain ⟨-, hA1, hA2⟩ := hA
  have hU : ∀ x, x < 30 → pu_u σ x = tr_up (fb_A2 μ) x := fun x hx => pu_up_eq (hA1 x hx)
  have key : ∀ x, x < 30 → tr_up (fb_A2 μ) x = some p → σ 12 x ≠ 0 ∧ σ 11 x = nI p ∧ σ 14 x = μ 4 x := by
    intro x hx e
    obtain ⟨e1, hp⟩ := tr_up_s e
    have h11 : σ 11 x = nI p := (hA1 x hx).trans e1
    have h0 := (pu_final hM).2.2 x p hx hp e1
    have hs : σ 0 x ≠ 0 := fun c => h0.1 ((hM x hx).1.mp c)
    refine ⟨(hG.1.2.2 x p hx ((hU x hx).trans e)).1, h11, ?_⟩
    rw [hG.2.2.2.2.2.2 x hx, h11, if_neg (tr_nI1 hp)]
    unfold fa_dayOf
    rw [if_pos ((pu_holds hx).mpr hs), tr_cl hx]
    exact ((hM x hx).2.2.2.2.2 hs).2.2.2.1
  obtain ⟨a1, a2, a3⟩ := key a ha ea
  obtain ⟨b1, b2, b3⟩ := key b hb eb
  have hl : ¬ nI b ≤ nI a ↔ a < b := by
    constructor
    · intro c; exact Classical.byContradiction fun d => c (nI_le (a := b) (b := a) (by omega) (Nat.lt_trans ha (by decide)))
    · intro c; exact nI_ge c (Nat.lt_trans hb (by decide))
  unfold pu_bf
  rw [pu_before ha hb, a3, b3, a2, b2]
  unfold fb_ahead
  rw [tr_cl ha, tr_cl hb]
  simp only [Bool.and_eq_true, Bool.or_eq_true, decide_eq_true_eq, Bool.not_eq_true', decide_eq_false_iff_not, hl]
  exact ⟨fun c => ⟨a1, b1, trivial, c⟩, fun c => c.2.2.2⟩
noncomputable def pu_z (σ : tg_Mem) (x : Nat) : Nat := pu_sz (pu_u σ) (pu_S σ) x
noncomputable def pu_s (σ : tg_Mem) (x : Nat) : Nat := pu_st (pu_u σ) (pu_S σ) (pu_bf σ) x
theorem pu_z30 {σ : tg_Mem} {x : Nat} : pu_z σ x ≤ 30 := pu_n_top 30
/-- the row of a tree: its places -/
def pu_Row (σ : tg_Mem) (x : Nat) (ω : tb_A) : Prop := ∀ k, k < pu_z σ x → ∃ y, y < 30 ∧ ω k = nI y ∧ pu_S σ y ∧ tr_lead (pu_u σ) y x ∧ pu_s σ y = pu_s σ x + k ∧ fa_idAt σ (nI x) (nI k) = nI y
theorem pu_row {σ μ : tg_Mem} (hM : pu_M σ μ) (hG : pu_G σ) (hA : pu_A σ μ) {x : Nat} (hx : x < 30) (hS : pu_S σ x) (ω stk : tb_A) :
    ∃ r, fb_trF (fb_A2 μ) (μ 4) 31 (0, 0, ω, upd stk 0 (nI x)) = some r ∧ r.1 = nI (pu_z σ x) ∧ pu_Row σ x r.2.1 := by
  have hU : ∀ y, y < 30 → tr_up (fb_A2 μ) y = pu_u σ y := fun y hy => pu_up_eq (hA.2.1 y hy).symm
  have hr : tr_rng (pu_u σ) 30 := tr_up_rng _ 30
  obtain ⟨r, h1, h2, h3⟩ := pu_trW (pu_TR_cg hU (pu_T hG.1)) (pu_AHof hM hG hA) hx hS ω stk
  refine ⟨r, h1, by rw [h2, pu_sz_cg hU hr]; rfl, fun k hk => ?_⟩
  rw [pu_sz_cg hU hr] at h3
  obtain ⟨y, y1, y2, y3, y4, y5⟩ := h3 k hk
  have es : ∀ z, z < 30 → pu_st (tr_up (fb_A2 μ)) (pu_S σ) (pu_bf σ) z = pu_s σ z := fun z hz => pu_stF_cg hU hr 30 z hz
  rw [es y y1, es x hx] at y5
  refine ⟨y, y1, y2, y3, (pu_lead hU hr y1).mp y4, y5, ?_⟩
  have h30 : pu_s σ y + pu_z σ y ≤ 30 := pu_st30 (pu_T hG.1) y1 y3
  have hy1 : 1 ≤ pu_z σ y := pu_sz1 y1 y3
  have hz : pu_z σ x ≤ 30 := pu_n_top 30
  unfold fa_idAt
  rw [if_pos ((pu_cont hx).mpr hS), if_neg (nI_pos (n := k) (by omega)), tr_cl hx, hG.2.1 x hx, if_pos (nI_lt (a := k) (b := pu_sz (pu_u σ) (pu_S σ) x) hk (Nat.lt_of_le_of_lt hz (by decide))), hG.2.2.1 x hx, nI_add]
  rw [show pu_st (pu_u σ) (pu_S σ) (pu_bf σ) x + k = pu_s σ y from y5.symm, if_pos (fa_id_nI (by omega)), tr_cl (by omega)]
  exact hG.2.2.2.1 y y1 y3
theorem pu_idAt_no {σ : tg_Mem} (hG : pu_G σ) {x k : Nat} (hx : x < 30) (hk : k < 2 ^ 31) (h : pu_z σ x ≤ k) : fa_idAt σ (nI x) (nI k) = -1 := by
  unfold fa_idAt
  by_cases hS : pu_S σ x
  · rw [if_pos ((pu_cont hx).mpr hS), if_neg (nI_pos hk), tr_cl hx, hG.2.1 x hx, if_neg (nI_nlt (b := pu_sz (pu_u σ) (pu_S σ) x) h hk)]
  · rw [if_neg (fun c => hS ((pu_cont hx).mp c))]
/-- who is in the tree has a place in it -/
theorem pu_Row_all {σ : tg_Mem} (hG : pu_G σ) {x y : Nat} {ω : tb_A} (h : pu_Row σ x ω) (hy : y < 30) (hSy : pu_S σ y) (hl : tr_lead (pu_u σ) y x) : ∃ k, k < pu_z σ x ∧ ω k = nI y := by
  have T := pu_T hG.1
  obtain ⟨n, hl⟩ := hl
  obtain ⟨i1, i2, -⟩ := pu_iv T n y x hy hl
  have i1 : pu_s σ x ≤ pu_s σ y := i1
  have i2 : pu_s σ y + pu_z σ y ≤ pu_s σ x + pu_z σ x := i2
  have hy1 : 1 ≤ pu_z σ y := pu_sz1 hy hSy
  obtain ⟨w, w1, w2, w3, w4, w5, -⟩ := h (pu_s σ y - pu_s σ x) (by omega)
  have e : w = y := pu_st_inj T w1 hy w3 hSy (show pu_s σ w = pu_s σ y by omega)
  exact ⟨pu_s σ y - pu_s σ x, by omega, by rw [w2, e]⟩
