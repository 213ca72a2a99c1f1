/-! ===== 33: where the trees stand in the order of all, without any machine ===== -/
/-- a forest: parents u, who stands S, who comes before whom bf -/
def pu_TR (u : Nat → Option Nat) (S : Nat → Prop) (bf : Nat → Nat → Prop) : Prop :=
  tr_rng u 30 ∧ tr_acyc u 30 ∧ (∀ x y, x < 30 → u x = some y → S x ∧ S y) ∧ (∀ a b, a < 30 → b < 30 → bf a b → S a ∧ S b ∧ u a = u b) ∧ (∀ a, a < 30 → ¬ bf a a) ∧ (∀ a b c, a < 30 → b < 30 → c < 30 → bf a b → bf b c → bf a c) ∧ (∀ a b, a < 30 → b < 30 → S a → S b → u a = u b → a ≠ b → bf a b ∨ bf b a)
noncomputable def pu_sz (u : Nat → Option Nat) (S : Nat → Prop) (y : Nat) : Nat := pu_n (fun i => S i ∧ tr_lead u i y) 30
noncomputable def pu_of (u : Nat → Option Nat) (S : Nat → Prop) (bf : Nat → Nat → Prop) (x : Nat) : Nat := (match u x with | none => 0 | some _ => 1) + pu_sum (fun i => bf i x) (pu_sz u S) 30
noncomputable def pu_stF (u : Nat → Option Nat) (S : Nat → Prop) (bf : Nat → Nat → Prop) : Nat → Nat → Nat
  | 0, _ => 0
  | n + 1, x => pu_of u S bf x + (match u x with | none => 0 | some y => pu_stF u S bf n y)
noncomputable def pu_st (u : Nat → Option Nat) (S : Nat → Prop) (bf : Nat → Nat → Prop) (x : Nat) : Nat := pu_stF u S bf 30 x
theorem pu_stF_n {u : Nat → Option Nat} {S : Nat → Prop} {bf : Nat → Nat → Prop} {n x : Nat} (h : u x = none) : pu_stF u S bf (n + 1) x = pu_of u S bf x := by
  show _ + _ = _
  rw [h]; rfl
theorem pu_stF_s {u : Nat → Option Nat} {S : Nat → Prop} {bf : Nat → Nat → Prop} {n x y : Nat} (h : u x = some y) : pu_stF u S bf (n + 1) x = pu_of u S bf x + pu_stF u S bf n y := by
  show _ + _ = _
  rw [h]
theorem pu_stF_eq {u : Nat → Option Nat} {S : Nat → Prop} {bf : Nat → Nat → Prop} : ∀ (n m x : Nat), tr_anc u n x = none → tr_anc u m x = none → pu_stF u S bf n x = pu_stF u S bf m x := by
  intro n
  induction n with
  | zero => intro m x h; cases h
  | succ n ih =>
    intro m x h1 h2
    cases m with
    | zero => cases h2
    | succ m =>
      cases e : u x with
      | none => rw [pu_stF_n e, pu_stF_n e]
      | some y =>
        rw [tr_anc_s e] at h1 h2
        rw [pu_stF_s e, pu_stF_s e, ih m y h1 h2]
theorem pu_sum_w {P : Nat → Prop} {f : Nat → Nat} : pu_sum (fun i => i < 30 ∧ P i) f 30 = pu_sum P f 30 :=
  pu_sum_cong 30 (fun i hi => ⟨fun c => c.2, fun c => ⟨hi, c⟩⟩) (fun _ _ => rfl)
section PT
variable {u : Nat → Option Nat} {S : Nat → Prop} {bf : Nat → Nat → Prop}
theorem pu_st_n {x : Nat} (h : u x = none) : pu_st u S bf x = pu_of u S bf x := pu_stF_n h
theorem pu_st_s (T : pu_TR u S bf) {x y : Nat} (hx : x < 30) (h : u x = some y) : pu_st u S bf x = pu_of u S bf x + pu_st u S bf y := by
  unfold pu_st
  have h1 := tr_len T.1 T.2.1 hx
  have h2 := tr_len T.1 T.2.1 (T.1 x y hx h)
  rw [show (30 : Nat) = 29 + 1 from rfl, tr_anc_s h] at h1
  rw [show pu_stF u S bf 30 x = pu_of u S bf x + pu_stF u S bf 29 y from pu_stF_s h, pu_stF_eq 29 30 y h1 h2]
theorem pu_of_n {x : Nat} (h : u x = none) : pu_of u S bf x = pu_sum (fun i => bf i x) (pu_sz u S) 30 := by
  unfold pu_of
  rw [h]; exact Nat.zero_add _
theorem pu_of_s {x y : Nat} (h : u x = some y) : pu_of u S bf x = 1 + pu_sum (fun i => bf i x) (pu_sz u S) 30 := by
  unfold pu_of
  rw [h]
theorem pu_sz1 {x : Nat} (hx : x < 30) (h : S x) : 1 ≤ pu_sz u S x := pu_n_pos (j := x) hx ⟨h, tr_lead_rf u x⟩
/-- the trees of several, none above another -/
theorem pu_un {P : Nat → Prop} (hd : ∀ c c' i, c < 30 → c' < 30 → P c → P c' → tr_lead u i c → tr_lead u i c' → c = c') : ∀ m, m ≤ 30 → pu_n (fun i => S i ∧ ∃ c, c < m ∧ P c ∧ tr_lead u i c) 30 = pu_sum P (pu_sz u S) m := by
  intro m
  induction m with
  | zero => intro _; exact pu_n_zero 30 (fun i _ ⟨_, c, hc, _⟩ => absurd hc (Nat.not_lt_zero c))
  | succ m ih =>
    intro hm
    by_cases e : P m
    · rw [pu_sum_p e, ← ih (by omega)]
      refine pu_n_add 30 (fun i hi => ?_) (fun i hi => ?_)
      · constructor
        · rintro ⟨h1, c, h2, h3, h4⟩
          by_cases hcm : c = m
          · subst hcm; exact Or.inr ⟨h1, h4⟩
          · exact Or.inl ⟨h1, c, by omega, h3, h4⟩
        · rintro (⟨h1, c, h2, h3, h4⟩ | ⟨h1, h4⟩)
          · exact ⟨h1, c, by omega, h3, h4⟩
          · exact ⟨h1, m, by omega, e, h4⟩
      · rintro ⟨-, c, h2, h3, h4⟩ ⟨-, h5⟩
        have := hd c m i (by omega) (by omega) h3 e h4 h5
        omega
    · rw [pu_sum_n e, ← ih (by omega)]
      refine pu_n_cong 30 (fun i hi => ⟨?_, ?_⟩)
      · rintro ⟨h1, c, h2, h3, h4⟩
        exact ⟨h1, c, by have : c ≠ m := fun d => e (by rw [← d]; exact h3)
                         omega, h3, h4⟩
      · rintro ⟨h1, c, h2, h3, h4⟩
        exact ⟨h1, c, by omega, h3, h4⟩
/-- a tree is its top and its children's trees -/
theorem pu_szc (T : pu_TR u S bf) {p : Nat} (hp : p < 30) (h : S p) : pu_sz u S p = 1 + pu_sum (fun c => u c = some p) (pu_sz u S) 30 := by
  rw [← pu_un (S := S) (fun c c' i h1 h2 h3 h4 h5 h6 => pu_sib T.1 T.2.1 h1 h2 (h3.trans h4.symm) h5 h6) 30 (Nat.le_refl _), ← pu_n_one (P := fun i => i = p) 30 hp (fun i _ => Iff.rfl)]
  refine pu_n_add 30 (fun i hi => ⟨?_, ?_⟩) ?_
  · rintro ⟨h1, n, h2⟩
    rcases pu_via n i h2 with e | ⟨c, e1, e2⟩
    · exact Or.inl e
    · exact Or.inr ⟨h1, c, pu_lead_30 T.1 hi e1, e2, e1⟩
  · rintro (rfl | ⟨h1, c, -, h3, h4⟩)
    · exact ⟨h, tr_lead_rf u _⟩
    · exact ⟨h1, tr_lead_tr h4 (tr_lead_step h3)⟩
  · rintro i hi rfl ⟨-, c, h2, h3, h4⟩
    exact pu_lead_no T.2.1 h2 h3 h4
/-- siblings' trees lie apart -/
theorem pu_of_bf (T : pu_TR u S bf) {a b : Nat} (ha : a < 30) (hb : b < 30) (h : bf a b) : pu_of u S bf a + pu_sz u S a ≤ pu_of u S bf b := by
  have hs := pu_sum_ex (P := fun i => i < 30 ∧ bf i a) (P' := fun i => i < 30 ∧ bf i b) (f := pu_sz u S) (j := a) ⟨ha, h⟩ (fun c => T.2.2.2.2.1 a ha c.2) 30 ha (fun i hi ⟨c1, c2⟩ => ⟨c1, T.2.2.2.2.2.1 i a b c1 ha hb c2 h⟩)
  rw [pu_sum_w (P := fun i => bf i a), pu_sum_w (P := fun i => bf i b)] at hs
  have he := (T.2.2.2.1 a b ha hb h).2.2
  unfold pu_of
  rw [he]
  omega
/-- a child's tree ends within its parent's -/
theorem pu_of_in (T : pu_TR u S bf) {c p : Nat} (hc : c < 30) (h : u c = some p) : pu_of u S bf c + pu_sz u S c ≤ pu_sz u S p := by
  have hS := T.2.2.1 c p hc h
  have hp := T.1 c p hc h
  have hs := pu_sum_ex (P := fun i => i < 30 ∧ bf i c) (P' := fun i => u i = some p) (f := pu_sz u S) (j := c) h (fun d => T.2.2.2.2.1 c hc d.2) 30 hc (fun i hi ⟨c1, c2⟩ => (T.2.2.2.1 i c c1 hc c2).2.2.trans h)
  rw [pu_sum_w (P := fun i => bf i c)] at hs
  rw [pu_szc T hp hS.2, pu_of_s h]
  omega
/-- a root's tree ends within all -/
theorem pu_of_rt (T : pu_TR u S bf) {r : Nat} (hr : r < 30) (h : u r = none) (hS : S r) : pu_of u S bf r + pu_sz u S r ≤ 30 := by
  have hs := pu_sum_ex (P := fun i => i < 30 ∧ bf i r) (P' := fun i => u i = none) (f := pu_sz u S) (j := r) h (fun d => T.2.2.2.2.1 r hr d.2) 30 hr (fun i hi ⟨c1, c2⟩ => (T.2.2.2.1 i r c1 hr c2).2.2.trans h)
  have hu := pu_un (u := u) (S := S) (P := fun i => u i = none) (fun c c' i h1 h2 h3 h4 h5 h6 => pu_sib T.1 T.2.1 h1 h2 (h3.trans h4.symm) h5 h6) 30 (Nat.le_refl _)
  have ht := pu_n_top (P := fun i => S i ∧ ∃ c, c < 30 ∧ u c = none ∧ tr_lead u i c) 30
  rw [pu_sum_w (P := fun i => bf i r)] at hs
  rw [pu_of_n h]
  omega
/-- a tree lies within the trees above it -/
theorem pu_iv (T : pu_TR u S bf) : ∀ (n w y : Nat), w < 30 → tr_anc u n w = some y → pu_st u S bf y ≤ pu_st u S bf w ∧ pu_st u S bf w + pu_sz u S w ≤ pu_st u S bf y + pu_sz u S y ∧ (w ≠ y → pu_st u S bf y < pu_st u S bf w) := by
  intro n
  induction n with
  | zero =>
    intro w y _ h
    have e := Option.some.inj (show some w = some y from h)
    subst e
    exact ⟨Nat.le_refl _, Nat.le_refl _, fun c => absurd rfl c⟩
  | succ n ih =>
    intro w y hw h
    cases e : u w with
    | none => rw [tr_anc_n e] at h; cases h
    | some p =>
      rw [tr_anc_s e] at h
      obtain ⟨h1, h2, -⟩ := ih p y (T.1 w p hw e) h
      have h4 := pu_of_in T hw e
      have h5 := pu_of_s (S := S) (bf := bf) e
      have h6 := pu_st_s T hw e
      exact ⟨by omega, by omega, fun _ => by omega⟩
theorem pu_st30 (T : pu_TR u S bf) {x : Nat} (hx : x < 30) (hS : S x) : pu_st u S bf x + pu_sz u S x ≤ 30 := by
  obtain ⟨r, h1, ⟨n, h2⟩, h3⟩ := pu_top T.1 T.2.1 x hx
  have hSr : S r := by
    cases n with
    | zero => rw [← Option.some.inj (show some x = some r from h2)]; exact hS
    | succ n =>
      rcases pu_via (n + 1) x h2 with e | ⟨c, e1, e2⟩
      · rw [← e]; exact hS
      · exact (T.2.2.1 c r (pu_lead_30 T.1 hx e1) e2).2
  have h4 := (pu_iv T n x r hx h2).2.1
  have h5 := pu_of_rt T h1 h3 hSr
  rw [pu_st_n h3] at h4
  omega
/-- trees that meet lie one within the other -/
theorem pu_meet (T : pu_TR u S bf) : ∀ y, y < 30 → ∀ z, z < 30 → S y → S z → pu_st u S bf y < pu_st u S bf z + pu_sz u S z → pu_st u S bf z < pu_st u S bf y + pu_sz u S y → tr_lead u y z ∨ tr_lead u z y := by
  refine pu_wf T.1 T.2.1 (fun y hy ih z hz hSy hSz h1 h2 => ?_)
  cases e : u y with
  | none =>
    obtain ⟨r, hr, ⟨n, h3⟩, h4⟩ := pu_top T.1 T.2.1 z hz
    obtain ⟨i1, i2, -⟩ := pu_iv T n z r hz h3
    have hSr : S r := by
      rcases pu_via n z h3 with e | ⟨c, e1, e2⟩
      · rw [← e]; exact hSz
      · exact (T.2.2.1 c r (pu_lead_30 T.1 hz e1) e2).2
    by_cases hry : r = y
    · subst hry; exact Or.inr ⟨n, h3⟩
    · exfalso
      rw [pu_st_n h4] at i1 i2
      rw [pu_st_n e] at h1 h2
      rcases T.2.2.2.2.2.2 r y hr hy hSr hSy (h4.trans e.symm) hry with c | c
      · have := pu_of_bf T hr hy c; omega
      · have := pu_of_bf T hy hr c; omega
  | some p =>
    have hp := T.1 y p hy e
    have hSp := (T.2.2.1 y p hy e).2
    obtain ⟨i1, i2, -⟩ := pu_iv T 1 y p hy (by rw [tr_anc_s e]; rfl)
    rcases ih p e z hz hSp hSz (by omega) (by omega) with c | c
    · exact Or.inl (tr_lead_tr (tr_lead_step e) c)
    · obtain ⟨n, c⟩ := c
      rcases pu_via n z c with d | ⟨k, d1, d2⟩
      · subst d; exact Or.inl (tr_lead_step e)
      · have hk := pu_lead_30 T.1 hz d1
        by_cases hky : k = y
        · subst hky; exact Or.inr d1
        · exfalso
          obtain ⟨m, d1⟩ := d1
          obtain ⟨j1, j2, -⟩ := pu_iv T m z k hz d1
          rw [pu_st_s T hk d2] at j1 j2
          rw [pu_st_s T hy e] at h1 h2
          rcases T.2.2.2.2.2.2 k y hk hy (T.2.2.1 k p hk d2).1 hSy (d2.trans e.symm) hky with c | c
          · have := pu_of_bf T hk hy c; omega
          · have := pu_of_bf T hy hk c; omega
theorem pu_st_inj (T : pu_TR u S bf) {y z : Nat} (hy : y < 30) (hz : z < 30) (hSy : S y) (hSz : S z) (h : pu_st u S bf y = pu_st u S bf z) : y = z := by
  have h1 := pu_sz1 (u := u) hy hSy
  have h2 := pu_sz1 (u := u) hz hSz
  refine Classical.byContradiction fun hne => ?_
  rcases pu_meet T y hy z hz hSy hSz (by omega) (by omega) with ⟨n, c⟩ | ⟨n, c⟩
  · have := (pu_iv T n y z hy c).2.2 hne; omega
  · have := (pu_iv T n z y hz c).2.2 (fun e => hne e.symm); omega
end PT
