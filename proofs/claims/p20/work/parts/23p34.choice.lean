/-! ===== 34: the reference's choice of the next child ===== -/
def pu_el (u : Nat → Option Nat) (bf : Nat → Nat → Prop) (p : Nat) (L : Option Nat) (k : Nat) : Prop := u k = some p ∧ ∀ c, L = some c → bf k c
def pu_lt (L : Option Nat) : Int32 := match L with | none => -1 | some c => nI c
/-- the days' order is the siblings' -/
def pu_AH (α dy : tb_A) (bf : Nat → Nat → Prop) : Prop := ∀ a b p, a < 30 → b < 30 → tr_up α a = some p → tr_up α b = some p → (fb_ahead dy (nI a) (nI b) = true ↔ bf a b)
theorem pu_sel {α dy : tb_A} {S : Nat → Prop} {bf : Nat → Nat → Prop} (T : pu_TR (tr_up α) S bf) (hA : pu_AH α dy bf) {p : Nat} (hp : p < 30) {L : Option Nat} (hL : ∀ c, L = some c → c < 30 ∧ tr_up α c = some p) :
    (fb_sel α dy (nI p) (pu_lt L) = -1 ∧ ∀ k, k < 30 → ¬ pu_el (tr_up α) bf p L k) ∨ ∃ k, k < 30 ∧ fb_sel α dy (nI p) (pu_lt L) = nI k ∧ pu_el (tr_up α) bf p L k ∧ ∀ j, j < 30 → pu_el (tr_up α) bf p L j → j ≠ k → bf j k := by
  have h := tg_inv (fun n (b : Int32) => (b = -1 ∧ ∀ k, k < n → ¬ pu_el (tr_up α) bf p L k) ∨ ∃ k, k < n ∧ b = nI k ∧ pu_el (tr_up α) bf p L k ∧ ∀ j, j < n → pu_el (tr_up α) bf p L j → j ≠ k → bf j k) (fb_bs α dy (nI p) (pu_lt L)) 30 (-1) (Or.inl ⟨rfl, fun k hk => absurd hk (Nat.not_lt_zero k)⟩) ?_ 30 (Nat.le_refl _)
  · exact h
  intro n b hn h
  have he : pu_el (tr_up α) bf p L n ↔ α n = nI p ∧ (pu_lt L = -1 ∨ fb_ahead dy (nI n) (pu_lt L) = true) := by
    unfold pu_el pu_lt
    cases L with
    | none => exact ⟨fun c => ⟨(tr_up_s c.1).1, Or.inl rfl⟩, fun c => ⟨tr_up_i hp c.1, fun c h => by cases h⟩⟩
    | some c =>
      obtain ⟨hc1, hc2⟩ := hL c rfl
      constructor
      · rintro ⟨h1, h2⟩
        exact ⟨(tr_up_s h1).1, Or.inr ((hA n c p hn hc1 h1 hc2).mpr (h2 c rfl))⟩
      · rintro ⟨h1, h2 | h2⟩
        · exact absurd h2 (tr_nI1 hc1)
        · have h1 := tr_up_i hp h1
          exact ⟨h1, fun d hd => by cases hd; exact (hA n c p hn hc1 h1 hc2).mp h2⟩
  by_cases hE : pu_el (tr_up α) bf p L n
  · have ⟨h1, h2⟩ := he.mp hE
    unfold fb_bs
    rw [if_pos h1, if_pos h2]
    rcases h with ⟨h3, h4⟩ | ⟨k, h3, h4, h5, h6⟩
    · rw [if_pos h3]
      exact Or.inr ⟨n, by omega, rfl, hE, fun j hj hj2 hj3 => absurd hj2 (h4 j (by omega))⟩
    · subst h4
      have hk : k < 30 := by omega
      have hkn := hA k n p hk hn h5.1 hE.1
      rw [if_neg (tr_nI1 hk)]
      by_cases hc : fb_ahead dy (nI k) (nI n) = true
      · rw [if_pos hc]
        refine Or.inr ⟨n, by omega, rfl, hE, fun j hj hj2 hj3 => ?_⟩
        by_cases hjk : j = k
        · rw [hjk]; exact hkn.mp hc
        · exact T.2.2.2.2.2.1 j k n (by omega) hk hn (h6 j (by omega) hj2 hjk) (hkn.mp hc)
      · rw [if_neg hc]
        refine Or.inr ⟨k, by omega, rfl, h5, fun j hj hj2 hj3 => ?_⟩
        by_cases hjn : j = n
        · subst hjn
          rcases T.2.2.2.2.2.2 j k hn hk (T.2.2.1 j p hn hE.1).1 (T.2.2.1 k p hk h5.1).1 (hE.1.trans h5.1.symm) hj3 with c | c
          · exact c
          · exact absurd (hkn.mpr c) hc
        · exact h6 j (by omega) hj2 hj3
  · have hb : fb_bs α dy (nI p) (pu_lt L) n b = b := by
      unfold fb_bs
      by_cases h1 : α n = nI p
      · rw [if_pos h1, if_neg (fun c => hE (he.mpr ⟨h1, c⟩))]
      · rw [if_neg h1]
    rw [hb]
    rcases h with ⟨h3, h4⟩ | ⟨k, h3, h4, h5, h6⟩
    · refine Or.inl ⟨h3, fun k hk => ?_⟩
      by_cases e : k = n
      · rw [e]; exact hE
      · exact h4 k (by omega)
    · refine Or.inr ⟨k, by omega, h4, h5, fun j hj hj2 hj3 => ?_⟩
      by_cases e : j = n
      · exact absurd (by rw [← e]; exact hj2) hE
      · exact h6 j (by omega) hj2 hj3
/-- where the trees of the children not yet chosen end -/
noncomputable def pu_eL (u : Nat → Option Nat) (S : Nat → Prop) (bf : Nat → Nat → Prop) (p : Nat) (L : Option Nat) : Nat := match L with | none => pu_st u S bf p + pu_sz u S p | some c => pu_st u S bf c
theorem pu_eL_ge {u : Nat → Option Nat} {S : Nat → Prop} {bf : Nat → Nat → Prop} (T : pu_TR u S bf) {p : Nat} (hp : p < 30) (hS : S p) {L : Option Nat} (hL : ∀ c, L = some c → c < 30 ∧ u c = some p) : pu_st u S bf p + 1 ≤ pu_eL u S bf p L := by
  cases L with
  | none => exact Nat.add_le_add_left (pu_sz1 hp hS) _
  | some c =>
    obtain ⟨h1, h2⟩ := hL c rfl
    show pu_st u S bf p + 1 ≤ pu_st u S bf c
    rw [pu_st_s T h1 h2, pu_of_s h2]
    omega
theorem pu_selE {α dy : tb_A} {S : Nat → Prop} {bf : Nat → Nat → Prop} (T : pu_TR (tr_up α) S bf) (hA : pu_AH α dy bf) {p : Nat} (hp : p < 30) (hS : S p) {L : Option Nat} (hL : ∀ c, L = some c → c < 30 ∧ tr_up α c = some p) :
    (fb_sel α dy (nI p) (pu_lt L) = -1 ∧ pu_eL (tr_up α) S bf p L = pu_st (tr_up α) S bf p + 1) ∨ ∃ k, k < 30 ∧ fb_sel α dy (nI p) (pu_lt L) = nI k ∧ tr_up α k = some p ∧ pu_st (tr_up α) S bf k + pu_sz (tr_up α) S k = pu_eL (tr_up α) S bf p L := by
  have hz : ∀ P : Nat → Prop, (∀ i, i < 30 → ¬ P i) → pu_sum P (pu_sz (tr_up α) S) 30 = 0 := fun P h => by
    have key : ∀ n, n ≤ 30 → pu_sum P (pu_sz (tr_up α) S) n = 0 := by
      intro n
      induction n with
      | zero => intro _; rfl
      | succ n ih => intro hn; rw [pu_sum_n (h n (by omega))]; exact ih (by omega)
    exact key 30 (Nat.le_refl _)
  rcases pu_sel T hA hp hL with ⟨h1, h2⟩ | ⟨k, h1, h2, h3, h4⟩
  · refine Or.inl ⟨h1, ?_⟩
    cases L with
    | none =>
      show pu_st _ S bf p + pu_sz _ S p = _
      rw [pu_szc T hp hS, hz _ (fun i hi c => h2 i hi ⟨c, fun c h => by cases h⟩)]
    | some c =>
      obtain ⟨c1, c2⟩ := hL c rfl
      show pu_st _ S bf c = _
      rw [pu_st_s T c1 c2, pu_of_s c2, hz _ (fun i hi d => h2 i hi ⟨(T.2.2.2.1 i c hi c1 d).2.2.trans c2, fun e h => by cases h; exact d⟩)]
      omega
  · refine Or.inr ⟨k, h1, h2, h3.1, ?_⟩
    have hirr : ¬ bf k k := T.2.2.2.2.1 k h1
    have hup : ∀ i, i < 30 → bf i k → tr_up α i = some p := fun i hi c => (T.2.2.2.1 i k hi h1 c).2.2.trans h3.1
    rw [pu_st_s T h1 h3.1, pu_of_s h3.1]
    cases L with
    | none =>
      show _ = pu_st _ S bf p + pu_sz _ S p
      rw [pu_szc T hp hS, pu_sum_or (P := fun i => bf i k) (P' := fun c => tr_up α c = some p) (j := k) hirr 30 h1 (fun i hi => ⟨fun c => ?_, fun c => ?_⟩)]
      · omega
      · by_cases e : i = k
        · exact Or.inr e
        · exact Or.inl (h4 i hi ⟨c, fun c h => by cases h⟩ e)
      · rcases c with c | c
        · exact hup i hi c
        · rw [c]; exact h3.1
    | some c =>
      obtain ⟨c1, c2⟩ := hL c rfl
      have hkc := h3.2 c rfl
      show _ = pu_st _ S bf c
      rw [pu_st_s T c1 c2, pu_of_s c2, pu_sum_or (P := fun i => bf i k) (P' := fun i => bf i c) (j := k) hirr 30 h1 (fun i hi => ⟨fun d => ?_, fun d => ?_⟩)]
      · omega
      · by_cases e : i = k
        · exact Or.inr e
        · exact Or.inl (h4 i hi ⟨(T.2.2.2.1 i c hi c1 d).2.2.trans c2, fun e h => by cases h; exact d⟩ e)
      · rcases d with d | d
        · exact T.2.2.2.2.2.1 i k c hi h1 c1 d hkc
        · rw [d]; exact hkc
