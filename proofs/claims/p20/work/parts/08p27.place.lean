/-! ===== 27: places among the roots, places behind a parent ===== -/
theorem pu_place {σ : tg_Mem} {x : Int32} : fa_place σ x = nI (pu_n (fun i => fa_before σ (nI i) x = true) 30) := by
  have h := tg_inv (fun n (k : Int32) => k = nI (pu_n (fun i => fa_before σ (nI i) x = true) n)) (fa_placeS σ x) 30 0 rfl ?_ 30 (Nat.le_refl _)
  · exact h
  intro n k hn hk
  unfold fa_placeS
  rw [hk]
  by_cases e : fa_before σ (nI n) x = true
  · rw [if_pos e, pu_n_p e, nI_succ]
  · rw [if_neg e, pu_n_n e]
/-- a sum over those who are P -/
noncomputable def pu_sum (P : Nat → Prop) (f : Nat → Nat) : Nat → Nat | 0 => 0 | n + 1 => pu_sum P f n + @ite Nat (P n) (Classical.propDecidable (P n)) (f n) 0
theorem pu_sum_p {P : Nat → Prop} {f : Nat → Nat} {n : Nat} (h : P n) : pu_sum P f (n + 1) = pu_sum P f n + f n := by
  show pu_sum P f n + _ = _
  rw [if_pos h]
theorem pu_sum_n {P : Nat → Prop} {f : Nat → Nat} {n : Nat} (h : ¬ P n) : pu_sum P f (n + 1) = pu_sum P f n := by
  show pu_sum P f n + _ = _
  rw [if_neg h]; rfl
theorem pu_off {σ : tg_Mem} {x : Int32} {sz : Nat → Nat} (hz : ∀ i, i < 30 → σ 15 i = nI (sz i)) : fa_off σ x = nI ((if fa_par σ x = -1 then 0 else 1) + pu_sum (fun i => fa_before σ (nI i) x = true) sz 30) := by
  have h := tg_inv (fun n (k : Int32) => k = nI ((if fa_par σ x = -1 then 0 else 1) + pu_sum (fun i => fa_before σ (nI i) x = true) sz n)) (fa_offS σ x) 30 (if fa_par σ x = -1 then 0 else 1) (by
    show _ = nI (_ + 0)
    split <;> rfl) ?_ 30 (Nat.le_refl _)
  · exact h
  intro n k hn hk
  unfold fa_offS
  rw [hk]
  by_cases e : fa_before σ (nI n) x = true
  · rw [if_pos e, pu_sum_p e, hz n hn, ← Nat.add_assoc]
    exact (Int32.ofNat_add _ _).symm
  · rw [if_neg e, pu_sum_n e]
/-- who comes before whom -/
theorem pu_before {σ : tg_Mem} {f g : Nat} (hf : f < 30) (hg : g < 30) : fa_before σ (nI f) (nI g) = true ↔ σ 12 f ≠ 0 ∧ σ 12 g ≠ 0 ∧ σ 11 f = σ 11 g ∧ (σ 14 f < σ 14 g ∨ (σ 14 f = σ 14 g ∧ f < g)) := by
  have hc : ∀ i, i < 30 → (fa_cont σ (nI i) = true ↔ σ 12 i ≠ 0) := fun i hi => by
    unfold fa_cont
    rw [fa_id_nI hi, tr_cl hi]
    simp
  have hl : ¬ nI g ≤ nI f ↔ f < g := by
    constructor
    · intro c; exact Classical.byContradiction fun d => c (nI_le (a := g) (b := f) (by omega) (Nat.lt_trans hf (by decide)))
    · intro c; exact nI_ge c (Nat.lt_trans hg (by decide))
  unfold fa_before
  rw [Bool.and_eq_true, Bool.and_eq_true, hc f hf, hc g hg, tr_cl hf, tr_cl hg]
  simp only [Bool.and_eq_true, Bool.or_eq_true, decide_eq_true_eq, Bool.not_eq_true', decide_eq_false_iff_not, hl]
