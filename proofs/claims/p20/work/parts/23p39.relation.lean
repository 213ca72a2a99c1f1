/-! ===== 39: the relation between two calls ===== -/
theorem pu_int {x : Int32} {lo hi : Int32} : fb_in x lo hi = true ↔ lo.toInt ≤ x.toInt ∧ x.toInt ≤ hi.toInt := by
  simp only [fb_in, Bool.and_eq_true, Bool.not_eq_true', decide_eq_false_iff_not, Int32.lt_iff_toInt_lt]
  omega
theorem pu_in_id (x : Int32) : fb_in x 0 29 = fa_id x := by
  have h : fb_in x 0 29 = true ↔ fa_id x = true := by
    rw [pu_int]
    simp only [fa_id, Bool.and_eq_true, Bool.not_eq_true', decide_eq_false_iff_not, Int32.lt_iff_toInt_lt, Int32.le_iff_toInt_le]
    have h1 : (29 : Int32).toInt = 29 := by decide
    have h2 : (0 : Int32).toInt = 0 := by decide
    have h3 : (30 : Int32).toInt = 30 := by decide
    omega
  cases e1 : fb_in x 0 29 <;> cases e2 : fa_id x <;> simp_all
theorem fb_fo8 (μ : tg_Mem) : fb_forest μ 8 = fb_K μ := rfl
theorem fb_fo9 (μ : tg_Mem) : fb_forest μ 9 = fb_L μ := rfl
theorem fb_fo10 (μ : tg_Mem) : fb_forest μ 10 = fb_A2 μ := rfl
theorem fb_fo11 (μ : tg_Mem) : fb_forest μ 11 = (fb_AG μ).2 := rfl
theorem fb_fo12 (μ : tg_Mem) : fb_forest μ 12 = fb_O μ := rfl
theorem fb_fo (μ : tg_Mem) {a : Nat} (h : a < 8) : fb_forest μ a = μ a := by
  unfold fb_forest
  rw [tg_upA_n (by omega), tg_upA_n (by omega), tg_upA_n (by omega), tg_upA_n (by omega), tg_upA_n (by omega)]
def pu_ini (σ : tg_Mem) : Prop := (∀ i, i < 30 → σ 0 i = 0 ∧ σ 9 i = 0 ∧ σ 12 i = 0) ∧ σ 20 0 = 0
/-- the class's state and the reference's between two calls -/
def pu_REL (σ μ : tg_Mem) : Prop := pu_M σ μ ∧ (pu_ini σ ∨ (pu_G σ ∧ pu_A σ μ))
theorem pu_Mcg {σ σ' μ μ' : tg_Mem} (hM : pu_M σ μ) (hs : ∀ a, a < 9 → σ' a = σ a) (h : ∀ a, a < 8 → μ' a = μ a) : pu_M σ' μ' := by
  unfold pu_M
  rw [h 0 (by decide), h 1 (by decide), h 2 (by decide), h 3 (by decide), h 4 (by decide), h 5 (by decide), h 6 (by decide), h 7 (by decide), hs 0 (by decide), hs 1 (by decide), hs 2 (by decide), hs 3 (by decide), hs 4 (by decide), hs 5 (by decide), hs 6 (by decide), hs 7 (by decide), hs 8 (by decide)]
  exact hM
/-- the forest doesn't hang on the scratch rows -/
theorem pu_scr {σ μ μ' : tg_Mem} (hM : pu_M σ μ) (h : ∀ a, a < 8 → μ' a = μ a) : ∀ j, j < 30 → (fb_K μ' j = 0 ↔ fb_K μ j = 0) ∧ fb_A2 μ' j = fb_A2 μ j ∧ ((fb_AG μ').2 j = 0 ↔ (fb_AG μ).2 j = 0) := by
  obtain ⟨-, a9, a11, a12⟩ := pu_hang hM
  obtain ⟨-, b9, b11, b12⟩ := pu_hang (pu_Mcg hM (fun _ _ => rfl) h)
  exact fun j hj => ⟨(b9 j hj).symm.trans (a9 j hj), (b11 j hj).symm.trans (a11 j hj), (b12 j hj).symm.trans (a12 j hj)⟩
theorem pu_Ac {σ0 σ μ μ' : tg_Mem} (hM : pu_M σ0 μ) (h : ∀ a, a < 8 → μ' a = μ a) (hA : pu_A σ μ) : pu_A σ μ' := by
  have hs := pu_scr hM h
  exact ⟨fun j hj => (hA.1 j hj).trans (hs j hj).1.symm, fun j hj => (hA.2.1 j hj).trans (hs j hj).2.1.symm, fun j hj => (hA.2.2 j hj).trans (hs j hj).2.2.symm⟩
/-- the reference's state with other scratch rows -/
theorem pu_RELc {σ μ μ' : tg_Mem} (hR : pu_REL σ μ) (h : ∀ a, a < 8 → μ' a = μ a) : pu_REL σ μ' :=
  ⟨pu_Mcg hR.1 (fun _ _ => rfl) h, hR.2.imp id (fun ⟨hG, hA⟩ => ⟨hG, pu_Ac hR.1 h hA⟩)⟩
/-- grown anew -/
theorem pu_regrow {σ μ μ' : tg_Mem} (hM : pu_M σ μ) (h : ∀ a, a < 8 → μ' a = μ a) : pu_REL (fa_grow σ) μ' := by
  obtain ⟨hG, hA, ho⟩ := pu_grown hM
  exact ⟨pu_Mcg hM ho h, Or.inr ⟨hG, pu_Ac hM h hA⟩⟩
theorem pu_rn {γ α : tb_A} : fb_rn γ α = nI (pu_n (fun i => γ i ≠ 0 ∧ α i = -1) 30) := by
  have h := tg_inv (fun n (k : Int32) => k = nI (pu_n (fun i => γ i ≠ 0 ∧ α i = -1) n)) (fb_rnS γ α) 30 0 rfl ?_ 30 (Nat.le_refl _)
  · exact h
  intro n k hn hk
  unfold fb_rnS
  rw [hk]
  by_cases h1 : γ n = 0
  · rw [if_pos h1, pu_n_n (fun c => c.1 h1)]; exact Int32.add_zero _
  · rw [if_neg h1]
    by_cases h2 : α n = -1
    · rw [if_pos h2, pu_n_p ⟨h1, h2⟩, nI_succ]
    · rw [if_neg h2, pu_n_n (fun c => h2 c.2)]; exact Int32.add_zero _
theorem pu_rootsG {σ μ : tg_Mem} (hG : pu_G σ) (hA : pu_A σ μ) : σ 20 0 = fb_rn (fb_AG μ).2 (fb_A2 μ) := by
  rw [hG.2.2.2.2.1, pu_rn]
  refine congrArg nI (pu_n_cong 30 (fun i hi => ?_))
  unfold pu_rt
  rw [hA.2.1 i hi]
  exact and_congr (not_congr (hA.2.2 i hi)) Iff.rfl
theorem pu_c_no {f : tb_A} {x : Int32} : ∀ n, (∀ k, k < n → f k ≠ x) → pu_c f x n = 0 := by
  intro n
  induction n with
  | zero => intro _; rfl
  | succ n ih =>
    intro h
    unfold pu_c
    rw [ih (fun k hk => h k (by omega)), if_neg (h n (by omega))]
/-- no letters, no forest -/
theorem pu_none {σ μ : tg_Mem} (hM : pu_M σ μ) (h0 : ∀ i, i < 30 → σ 0 i = 0) : ∀ j, j < 30 → fb_K μ j = 0 ∧ (fb_AG μ).2 j = 0 := by
  have hm : ∀ i, i < 30 → μ 0 i = 0 := fun i hi => (hM i hi).1.mp (h0 i hi)
  have hA0 := (pu_A0 hM).2
  have h := tg_inv (fun n (q : tb_A × tb_A) => (∀ j, j < 30 → q.1 j = -1) ∧ ∀ j, j < n → j < 30 → q.2 j = 0) (fb_b (μ 0)) 30 (fb_A0 μ, μ 11) ⟨fun j hj => hA0 j hj (hm j hj), fun j hj => absurd hj (Nat.not_lt_zero j)⟩ ?_ 30 (Nat.le_refl _)
  · refine fun j hj => ⟨Classical.byContradiction fun c => ?_, h.2 j hj hj⟩
    obtain ⟨i, hi, hi2, -⟩ := (pu_fbK (μ := μ) (fun j hj => ⟨(hM j hj).2.1, (hM j hj).2.2.1, (hM j hj).2.2.2.1⟩) j hj).mp c
    exact hi2 (hm i hi)
  rintro n q hn ⟨h1, h2⟩
  have hc : (fb_bN q.1 (nI n)).1 = 0 := by
    rw [(pu_bN (α := q.1) (x := nI n)).1, pu_c_no 30 (fun k hk e => tr_nI1 hn (e.symm.trans (h1 k hk)))]
    rfl
  unfold fb_b
  dsimp only
  rw [if_pos (hm n hn), hc, if_neg (by decide)]
  refine ⟨h1, fun j hj hj2 => ?_⟩
  by_cases e : j = n
  · subst e
    rw [pu_upd_s, hm j hn]
    decide
  · rw [pu_upd_o e]; exact h2 j (by omega) hj2
/-- what holds of both kinds of states -/
theorem pu_A1 {σ μ : tg_Mem} (hR : pu_REL σ μ) : (∀ j, j < 30 → (σ 9 j = 0 ↔ fb_K μ j = 0)) ∧ (∀ j, j < 30 → (σ 12 j = 0 ↔ (fb_AG μ).2 j = 0)) ∧ σ 20 0 = fb_rn (fb_AG μ).2 (fb_A2 μ) := by
  obtain ⟨hM, h | ⟨hG, hA⟩⟩ := hR
  · have hn := pu_none hM (fun i hi => (h.1 i hi).1)
    refine ⟨fun j hj => iff_of_true (h.1 j hj).2.1 (hn j hj).1, fun j hj => iff_of_true (h.1 j hj).2.2 (hn j hj).2, ?_⟩
    rw [h.2, pu_rn, pu_n_zero 30 (fun i hi c => c.1 (hn i hi).2)]
    rfl
  · exact ⟨hA.1, hA.2.2, pu_rootsG hG hA⟩
theorem pu_Gof {σ μ : tg_Mem} (hR : pu_REL σ μ) {x : Nat} (hx : x < 30) (h : pu_S σ x) : pu_G σ ∧ pu_A σ μ :=
  hR.2.resolve_left (fun c => h (c.1 x hx).2.2)
theorem pu_hyp {σ μ : tg_Mem} (hM : pu_M σ μ) : fb_hyp (μ 0) (μ 1) (μ 2) (μ 7) (μ 8) (μ 9) := (pu_above hM).2.2.2.2
