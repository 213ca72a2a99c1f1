/-! ===== 48: join: alike ===== -/
theorem pu_inF {σ : tg_Mem} (hF : pu_F0 σ) {b : Nat} (hb : b < 30) : ∀ (n i a : Nat), a < 30 → (fa_inF σ (nI b) n i (nI a) = true ↔ ∃ m, m < n ∧ tr_anc (pu_u σ) m a = some b) := by
  intro n
  induction n with
  | zero => intro i a _; simp [fa_inF]
  | succ n ih =>
    intro i a ha
    unfold fa_inF
    rw [if_pos (fa_id_nI ha)]
    by_cases hab : a = b
    · subst hab
      rw [if_pos rfl]
      exact ⟨fun _ => ⟨0, by omega, rfl⟩, fun _ => rfl⟩
    · rw [if_neg (fun e => hab ((tr_nI ha hb).mp e)), pu_parE hF ha]
      cases hu : pu_u σ a with
      | none =>
        rw [tr_val_none hF.1 ha hu]
        have h2 : fa_inF σ (nI b) n (i + 1) (-1) = false := by
          cases n with
          | zero => rfl
          | succ n => unfold fa_inF; rw [tr_id_m1]; rfl
        rw [h2]
        refine ⟨fun h => (by cases h), fun ⟨m, hm, h⟩ => ?_⟩
        cases m with
        | zero => simp only [tr_anc, Option.some.injEq] at h; exact absurd h hab
        | succ m => rw [tr_anc_n hu] at h; cases h
      | some y =>
        obtain ⟨e, hy⟩ := tr_up_s hu
        rw [e, ih (i + 1) y hy]
        constructor
        · rintro ⟨m, hm, h⟩
          exact ⟨m + 1, by omega, by rw [tr_anc_s hu]; exact h⟩
        · rintro ⟨m, hm, h⟩
          cases m with
          | zero => simp only [tr_anc, Option.some.injEq] at h; exact absurd h hab
          | succ m => rw [tr_anc_s hu] at h; exact ⟨m, by omega, h⟩
theorem pu_inT {σ : tg_Mem} (hF : pu_F0 σ) {a b : Nat} (ha : a < 30) (hb : b < 30) : fa_inT σ (nI a) (nI b) = true ↔ tr_lead (pu_u σ) a b := by
  unfold fa_inT
  rw [pu_inF hF hb 30 0 a ha]
  refine ⟨fun ⟨m, _, h⟩ => ⟨m, h⟩, fun ⟨m, h⟩ => ⟨m, ?_, h⟩⟩
  rcases Nat.lt_or_ge m 30 with h1 | h1
  · exact h1
  · obtain ⟨y, hy⟩ := tr_anc_le h h1
    rw [tr_len (tr_up_rng _ 30) hF.2.1 ha] at hy
    cases hy
theorem pu_jnS {ω : tb_A} {y : Int32} : ∀ n, tg_it (fb_jnS ω y) true n = true ↔ ∀ k, k < n → ω k ≠ y := by
  intro n
  induction n with
  | zero => exact ⟨fun _ k hk => absurd hk (Nat.not_lt_zero k), fun _ => rfl⟩
  | succ n ih =>
    have e : tg_it (fb_jnS ω y) true (n + 1) = (tg_it (fb_jnS ω y) true n && !(decide (ω n = y))) := rfl
    rw [e, Bool.and_eq_true, ih, Bool.not_eq_true', decide_eq_false_iff_not]
    constructor
    · rintro ⟨h1, h2⟩ k hk
      by_cases c : k = n
      · rw [c]; exact h2
      · exact h1 k (by omega)
    · exact fun h => ⟨fun k hk => h k (by omega), h n (by omega)⟩
theorem fb_jnUo (μ : tg_Mem) (x y : Int32) (b : Bool) {a : Nat} (h : a < 7) : fb_jnU μ x y b a = μ a := by
  unfold fb_jnU
  rw [tg_upA_n (by omega), tg_upA_n (by omega), tg_upA_n (by omega), tg_upA_n (by omega), tg_upA_n (by omega), fb_fo μ (by omega)]
theorem fb_jnVo (μ : tg_Mem) (x : Int32) (b : Bool) {a : Nat} (h : a < 8) : fb_jnV μ x b a = μ a := by
  unfold fb_jnV
  rw [tg_upA_n (by omega), tg_upA_n (by omega), tg_upA_n (by omega), tg_upA_n (by omega), fb_fo μ h]
theorem pu_jnR {x y : Int32} (h : fb_jnR x y = true) : ∃ i j, i < 30 ∧ j < 30 ∧ x = nI i ∧ y = nI j ∧ i ≠ j := by
  simp only [fb_jnR, Bool.and_eq_true, Bool.not_eq_true', decide_eq_false_iff_not] at h
  obtain ⟨h1, h2, h3⟩ := h
  obtain ⟨i, i1, i2⟩ := pu_inN (n := 29) (by decide) h1
  obtain ⟨j, j1, j2⟩ := pu_inN (n := 29) (by decide) h2
  exact ⟨i, j, by omega, by omega, i2, j2, fun e => h3 (by rw [i2, j2, e])⟩
theorem pu_fxjoin (σ : tg_Mem) (x y : Int32) : fx_join σ x y = if fb_jnR x y = true then tx_or (fx_letter σ x) (tx_or (fx_letter σ y) (if fa_inT σ y x = true then some tx_J else none)) else some tx_I := by
  unfold fx_join fb_jnR
  rw [pu_fxid, pu_fxid]
  by_cases e : x = y
  · rw [if_pos e, decide_eq_true e]
    cases fb_in x 0 29 <;> cases fb_in y 0 29 <;> rfl
  · rw [if_neg e, decide_eq_false e]
    cases fb_in x 0 29 <;> cases fb_in y 0 29 <;> rfl
/-- the tree of the one that is joined -/
theorem pu_jnE {σ μ : tg_Mem} (hR : pu_REL σ μ) {x y : Int32} (hC : fb_jnC μ x y = true) : ∃ i j, i < 30 ∧ j < 30 ∧ x = nI i ∧ y = nI j ∧ σ 0 i ≠ 0 ∧ σ 0 j ≠ 0 ∧ pu_G σ ∧ pu_A σ μ ∧ fb_lst (fb_forest μ 10) (fb_forest μ 4) (fb_forest μ 12) (fb_forest μ 13) x ∧ (fb_jnL μ x y = true ↔ ¬ tr_lead (pu_u σ) j i) := by
  simp only [fb_jnC, Bool.and_eq_true, Bool.not_eq_true', decide_eq_false_iff_not] at hC
  obtain ⟨c1, c2, c3⟩ := hC
  obtain ⟨i, j, hi, hj, rfl, rfl, hij⟩ := pu_jnR c1
  rw [tr_cl hi] at c2
  rw [tr_cl hj] at c3
  have si : σ 0 i ≠ 0 := fun d => c2 ((hR.1 i hi).1.mp d)
  have sj : σ 0 j ≠ 0 := fun d => c3 ((hR.1 j hj).1.mp d)
  obtain ⟨hG, hA, hSi⟩ := pu_lG hR hi si
  obtain ⟨-, -, hSj⟩ := pu_lG hR hj sj
  obtain ⟨l1, l2, l3⟩ := pu_lst hR.1 hG hA hi hSi (fb_forest μ 12) (fb_forest μ 13)
  refine ⟨i, j, hi, hj, rfl, rfl, si, sj, hG, hA, l1, ?_⟩
  have hT : fb_jnT μ (nI i) = fb_trC (fb_A2 μ) (μ 4) (fb_forest μ 12) (fb_forest μ 13) (nI i) := rfl
  unfold fb_jnL
  rw [hT, l2, pu_jnS]
  constructor
  · intro h hl
    obtain ⟨k, k1, k2⟩ := pu_Row_all hG l3 hj hSj hl
    exact h k k1 k2
  · intro h k hk e
    obtain ⟨z, z1, z2, z3, z4, -⟩ := l3 k hk
    rw [z2] at e
    exact h (by rw [← (tr_nI z1 hj).mp e]; exact z4)
theorem pu_jnM {σ μ : tg_Mem} (hR : pu_REL σ μ) {x y : Int32} (hC : fb_jnC μ x y = true) (b : Bool) : pu_M (fa_setHand σ x y) (fb_jnU μ x y b) := by
  obtain ⟨i, j, hi, hj, rfl, rfl, si, sj, -⟩ := pu_jnE hR hC
  exact pu_handM hR.1 hi si (v := nI j) (μ' := fb_jnU μ (nI i) (nI j) b) (Or.inl (Or.inr ⟨j, hj, rfl⟩)) (fun a ha => fb_jnUo μ _ _ b ha) ((show _ = upd (μ 7) (nI i).toNatClampNeg (nI j) from rfl).trans (by rw [tr_cl hi]))
theorem pu_joinK {σ μ : tg_Mem} (hR : pu_REL σ μ) (x y : Int32) :
    (fb_jnC μ x y = true → fb_hyp (μ 0) (μ 1) (μ 2) (μ 7) (μ 8) (μ 9)) ∧
    (fb_jnC μ x y = true → fb_lst (fb_forest μ 10) (fb_forest μ 4) (fb_forest μ 12) (fb_forest μ 13) x) ∧
    (fb_jnC μ x y = true → fb_jnL μ x y = true → fb_hyp (μ 0) (μ 1) (μ 2) (upd (μ 7) x.toNatClampNeg y) (fb_forest μ 8) (fb_forest μ 9)) ∧
    pu_OK (fx_join σ x y) (tl_k (fx_join σ x y)) (fa_grow (fa_setHand σ x y)) σ (if fb_jnC μ x y = true then (if fb_jnL μ x y = true then fb_forest (fb_jnU μ x y (fb_jnL μ x y)) else fb_jnV μ x (fb_jnL μ x y)) else tg_upA μ 15 (fun _ => if fb_jnR x y = true then 2 else 1)) (fa_par (fa_grow (fa_setHand σ x y)) x) (if fb_jnC μ x y = true then (if fb_jnL μ x y = true then fb_forest (fb_jnU μ x y (fb_jnL μ x y)) 10 x.toNatClampNeg else 0) else 0) := by
  refine ⟨fun _ => pu_hyp hR.1, fun hC => ?_, fun hC _ => pu_hyp (pu_jnM hR hC true), ?_⟩
  · obtain ⟨i, j, -, -, -, -, -, -, -, -, h, -⟩ := pu_jnE hR hC
    exact h
  · rw [pu_fxjoin]
    cases hr : fb_jnR x y with
    | false =>
      have hC : fb_jnC μ x y = false := by unfold fb_jnC; rw [hr]; rfl
      rw [hC, if_neg Bool.false_ne_true, if_neg Bool.false_ne_true, if_neg Bool.false_ne_true]
      refine pu_okS rfl ?_ (pu_RELc hR (fun a ha => tg_upA_n (by omega)))
      rw [tl_kI0]
      show (if false = true then (2 : Int32) else 1) = 1
      rfl
    | true =>
      rw [if_pos rfl]
      cases hC : fb_jnC μ x y with
      | false =>
        rw [if_neg Bool.false_ne_true, if_neg Bool.false_ne_true]
        have hex : tx_or (fx_letter σ x) (tx_or (fx_letter σ y) (if fa_inT σ y x = true then some tx_J else none)) = some tx_J := by
          obtain ⟨i, j, hi, hj, rfl, rfl, hij⟩ := pu_jnR hr
          have hin : ∀ k, k < 30 → fx_letter σ (nI k) = if μ 0 k = 0 then some tx_J else none := fun k hk => by
            unfold fx_letter
            rw [pu_fxid, pu_in_id, if_pos (fa_id_nI hk)]
            by_cases c : μ 0 k = 0
            · rw [if_pos c, if_neg (fun d => (pu_holdsM hR.1 hk).mp d c)]; rfl
            · rw [if_neg c, if_pos ((pu_holdsM hR.1 hk).mpr c)]; rfl
          unfold fb_jnC at hC
          rw [hr, tr_cl hi, tr_cl hj] at hC
          rw [hin i hi, hin j hj]
          by_cases c1 : μ 0 i = 0
          · rw [if_pos c1]; rfl
          · rw [if_neg c1]
            by_cases c2 : μ 0 j = 0
            · rw [if_pos c2]; rfl
            · rw [decide_eq_false c1, decide_eq_false c2] at hC; cases hC
        rw [hex]
        refine pu_okS rfl ?_ (pu_RELc hR (fun a ha => tg_upA_n (by omega)))
        rw [tl_kJ0]
        show (if true = true then (2 : Int32) else 1) = 2
        rfl
      | true =>
        rw [if_pos rfl, if_pos rfl]
        have hMp := pu_jnM hR hC true
        obtain ⟨i, j, hi, hj, rfl, rfl, si, sj, hG, hA, -, hl⟩ := pu_jnE hR hC
        have e1 : fx_letter σ (nI i) = none := by
          unfold fx_letter
          rw [pu_fxid, pu_in_id, if_pos (fa_id_nI hi), if_pos ((pu_holds hi).mpr si)]; rfl
        have e2 : fx_letter σ (nI j) = none := by
          unfold fx_letter
          rw [pu_fxid, pu_in_id, if_pos (fa_id_nI hj), if_pos ((pu_holds hj).mpr sj)]; rfl
        rw [e1, e2, tx_orN, tx_orN]
        have ht := pu_inT hG.1 hj hi
        cases hL : fb_jnL μ (nI i) (nI j) with
        | false =>
          have hle : tr_lead (pu_u σ) j i := Classical.byContradiction fun c => by rw [hl.mpr c] at hL; cases hL
          rw [if_neg Bool.false_ne_true, if_neg Bool.false_ne_true, if_pos (ht.mpr hle)]
          refine pu_okS rfl ?_ (pu_RELc hR (fun a ha => fb_jnVo μ _ _ ha))
          rw [tl_kJ0]; rfl
        | true =>
          have hle := hl.mp hL
          rw [if_pos rfl, if_pos rfl, if_neg (fun c => hle (ht.mp c))]
          obtain ⟨g1, g2, -⟩ := pu_grown hMp
          refine pu_okN rfl rfl ?_ (pu_regrow hMp (fun a ha => fb_fo _ ha))
          rw [pu_parE g1.1 hi, tr_cl hi, g2.2.1 i hi]; rfl
