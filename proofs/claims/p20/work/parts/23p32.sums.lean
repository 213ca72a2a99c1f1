/-! ===== 32: sums and chains, without any machine ===== -/
theorem pu_sum_cong {P P' : Nat → Prop} {f f' : Nat → Nat} : ∀ n, (∀ i, i < n → (P i ↔ P' i)) → (∀ i, i < n → f i = f' i) → pu_sum P f n = pu_sum P' f' n := by
  intro n
  induction n with
  | zero => intro _ _; rfl
  | succ n ih =>
    intro h1 h2
    have e := ih (fun i hi => h1 i (by omega)) (fun i hi => h2 i (by omega))
    by_cases c : P n
    · rw [pu_sum_p c, pu_sum_p ((h1 n (by omega)).mp c), e, h2 n (by omega)]
    · rw [pu_sum_n c, pu_sum_n (fun d => c ((h1 n (by omega)).mpr d)), e]
theorem pu_sum_le {P P' : Nat → Prop} {f : Nat → Nat} : ∀ n, (∀ i, i < n → P i → P' i) → pu_sum P f n ≤ pu_sum P' f n := by
  intro n
  induction n with
  | zero => intro _; exact Nat.le_refl _
  | succ n ih =>
    intro h
    have e := ih (fun i hi => h i (by omega))
    by_cases c : P n
    · rw [pu_sum_p c, pu_sum_p (h n (by omega) c)]; omega
    · rw [pu_sum_n c]
      by_cases d : P' n
      · rw [pu_sum_p d]; omega
      · rw [pu_sum_n d]; exact e
theorem pu_sum_ex {P P' : Nat → Prop} {f : Nat → Nat} {j : Nat} (h1 : P' j) (h2 : ¬ P j) : ∀ n, j < n → (∀ i, i < n → P i → P' i) → pu_sum P f n + f j ≤ pu_sum P' f n := by
  intro n
  induction n with
  | zero => intro hj; exact absurd hj (Nat.not_lt_zero j)
  | succ n ih =>
    intro hj h
    by_cases e : j = n
    · subst e
      rw [pu_sum_n h2, pu_sum_p h1]
      have := pu_sum_le (f := f) j (fun i hi => h i (by omega))
      omega
    · have := ih (by omega) (fun i hi => h i (by omega))
      by_cases c : P n
      · rw [pu_sum_p c, pu_sum_p (h n (by omega) c)]; omega
      · rw [pu_sum_n c]
        by_cases d : P' n
        · rw [pu_sum_p d]; omega
        · rw [pu_sum_n d]; exact this
theorem pu_sum_or {P P' : Nat → Prop} {f : Nat → Nat} {j : Nat} (h2 : ¬ P j) : ∀ n, j < n → (∀ i, i < n → (P' i ↔ P i ∨ i = j)) → pu_sum P' f n = pu_sum P f n + f j := by
  intro n
  induction n with
  | zero => intro hj; exact absurd hj (Nat.not_lt_zero j)
  | succ n ih =>
    intro hj h
    by_cases e : j = n
    · subst e
      rw [pu_sum_n h2, pu_sum_p ((h j (by omega)).mpr (Or.inr rfl))]
      rw [pu_sum_cong (f' := f) j (fun i hi => ⟨fun c => ((h i (by omega)).mp c).elim id (fun d => by omega), fun c => (h i (by omega)).mpr (Or.inl c)⟩) (fun _ _ => rfl)]
    · have hn := ih (by omega) (fun i hi => h i (by omega))
      by_cases c : P n
      · rw [pu_sum_p c, pu_sum_p ((h n (by omega)).mpr (Or.inl c)), hn]; omega
      · rw [pu_sum_n c, pu_sum_n (fun d => ((h n (by omega)).mp d).elim c (fun d => e d.symm)), hn]
theorem pu_n_add {A B C : Nat → Prop} : ∀ n, (∀ i, i < n → (C i ↔ A i ∨ B i)) → (∀ i, i < n → A i → B i → False) → pu_n C n = pu_n A n + pu_n B n := by
  intro n
  induction n with
  | zero => intro _ _; rfl
  | succ n ih =>
    intro h1 h2
    have e := ih (fun i hi => h1 i (by omega)) (fun i hi => h2 i (by omega))
    by_cases a : A n
    · rw [pu_n_p a, pu_n_n (fun b => h2 n (by omega) a b), pu_n_p ((h1 n (by omega)).mpr (Or.inl a)), e]; omega
    · by_cases b : B n
      · rw [pu_n_n a, pu_n_p b, pu_n_p ((h1 n (by omega)).mpr (Or.inr b)), e]; omega
      · rw [pu_n_n a, pu_n_n b, pu_n_n (fun c => ((h1 n (by omega)).mp c).elim a b), e]
theorem pu_n_zero {P : Nat → Prop} : ∀ n, (∀ i, i < n → ¬ P i) → pu_n P n = 0 := by
  intro n
  induction n with
  | zero => intro _; rfl
  | succ n ih => intro h; rw [pu_n_n (h n (by omega))]; exact ih (fun i hi => h i (by omega))
theorem pu_n_one {P : Nat → Prop} {j : Nat} : ∀ n, j < n → (∀ i, i < n → (P i ↔ i = j)) → pu_n P n = 1 := by
  intro n
  induction n with
  | zero => intro hj; exact absurd hj (Nat.not_lt_zero j)
  | succ n ih =>
    intro hj h
    by_cases e : j = n
    · subst e
      rw [pu_n_p ((h j (by omega)).mpr rfl), pu_n_zero j (fun i hi c => by have := (h i (by omega)).mp c; omega)]
    · rw [pu_n_n (fun c => e ((h n (by omega)).mp c).symm)]
      exact ih (by omega) (fun i hi => h i (by omega))
theorem pu_n_mono {P P' : Nat → Prop} : ∀ n, (∀ i, i < n → P i → P' i) → pu_n P n ≤ pu_n P' n := by
  intro n
  induction n with
  | zero => intro _; exact Nat.le_refl _
  | succ n ih =>
    intro h
    have e := ih (fun i hi => h i (by omega))
    by_cases c : P n
    · rw [pu_n_p c, pu_n_p (h n (by omega) c)]; omega
    · rw [pu_n_n c]
      by_cases d : P' n
      · rw [pu_n_p d]; omega
      · rw [pu_n_n d]; exact e
theorem pu_n_pos {P : Nat → Prop} {j n : Nat} (hj : j < n) (h : P j) : 1 ≤ pu_n P n := by
  rw [← pu_n_one (P := fun i => i = j) n hj (fun i _ => Iff.rfl)]
  exact pu_n_mono n (fun i _ e => by rw [e]; exact h)
/-- two ids above one are one above the other -/
theorem pu_comp {u : Nat → Option Nat} {i a b : Nat} (h1 : tr_lead u i a) (h2 : tr_lead u i b) : tr_lead u a b ∨ tr_lead u b a := by
  obtain ⟨n, h1⟩ := h1
  obtain ⟨m, h2⟩ := h2
  rcases Nat.le_total n m with h | h
  · refine Or.inl ⟨m - n, ?_⟩
    rw [← tr_anc_add n (m - n) i a h1, show n + (m - n) = m by omega, h2]
  · refine Or.inr ⟨n - m, ?_⟩
    rw [← tr_anc_add m (n - m) i b h2, show m + (n - m) = n by omega, h1]
theorem pu_anti {u : Nat → Option Nat} (hc : tr_acyc u 30) {a b : Nat} (ha : a < 30) (h1 : tr_lead u a b) (h2 : tr_lead u b a) : a = b := by
  obtain ⟨n, h1⟩ := h1
  obtain ⟨m, h2⟩ := h2
  cases n with
  | zero => exact Option.some.inj (show some a = some b from h1)
  | succ n =>
    refine absurd ?_ (hc a (n + m) ha)
    rw [show n + m + 1 = n + 1 + m by omega, tr_anc_add (n + 1) m a b h1, h2]
theorem pu_sib {u : Nat → Option Nat} (hr : tr_rng u 30) (hc : tr_acyc u 30) {c d i : Nat} (hc3 : c < 30) (hd3 : d < 30) (he : u c = u d) (h1 : tr_lead u i c) (h2 : tr_lead u i d) : c = d := by
  have key : ∀ c d, c < 30 → d < 30 → u c = u d → tr_lead u c d → c = d := by
    intro c d hc3 hd3 he h
    cases e : u c with
    | none => exact ((pu_lead_n e).mp h).symm
    | some y =>
      rcases (pu_lead_s e).mp h with h | h
      · exact h.symm
      · exact absurd h (pu_lead_no hc hd3 (he.symm.trans e))
  rcases pu_comp h1 h2 with h | h
  · exact key c d hc3 hd3 he h
  · exact (key d c hd3 hc3 he.symm h).symm
theorem pu_wf {u : Nat → Option Nat} (hr : tr_rng u 30) (hc : tr_acyc u 30) {P : Nat → Prop} (h : ∀ x, x < 30 → (∀ y, u x = some y → P y) → P x) : ∀ x, x < 30 → P x := by
  have key : ∀ n x, x < 30 → tr_anc u n x = none → P x := by
    intro n
    induction n with
    | zero => intro x _ e; cases e
    | succ n ih =>
      intro x hx e
      refine h x hx (fun y e2 => ih y (hr x y hx e2) ?_)
      rw [tr_anc_s e2] at e
      exact e
  exact fun x hx => key 30 x hx (tr_len hr hc hx)
/-- the child through which a chain comes -/
theorem pu_via {u : Nat → Option Nat} {p : Nat} : ∀ (n z : Nat), tr_anc u n z = some p → z = p ∨ ∃ c, tr_lead u z c ∧ u c = some p := by
  intro n
  induction n with
  | zero => intro z h; exact Or.inl (Option.some.inj (show some z = some p from h))
  | succ n ih =>
    intro z h
    cases e : u z with
    | none => rw [tr_anc_n e] at h; cases h
    | some y =>
      rw [tr_anc_s e] at h
      rcases ih y h with h2 | ⟨c, h2, h3⟩
      · exact Or.inr ⟨z, tr_lead_rf u z, by rw [e, h2]⟩
      · exact Or.inr ⟨c, tr_lead_tr (tr_lead_step e) h2, h3⟩
theorem pu_lead_30 {u : Nat → Option Nat} (hr : tr_rng u 30) {a b : Nat} (ha : a < 30) (h : tr_lead u a b) : b < 30 := by
  obtain ⟨n, h⟩ := h
  exact tr_anc_rng hr n a b ha h
theorem pu_top {u : Nat → Option Nat} (hr : tr_rng u 30) (hc : tr_acyc u 30) : ∀ x, x < 30 → ∃ r, r < 30 ∧ tr_lead u x r ∧ u r = none := by
  refine pu_wf hr hc (fun x hx ih => ?_)
  cases e : u x with
  | none => exact ⟨x, hx, tr_lead_rf u x, e⟩
  | some y =>
    obtain ⟨r, h1, h2, h3⟩ := ih y e
    exact ⟨r, h1, tr_lead_tr (tr_lead_step e) h2, h3⟩
