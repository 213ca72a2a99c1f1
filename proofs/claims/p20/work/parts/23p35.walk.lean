/-! ===== 35: the reference's walk through a tree ===== -/
/-- what stands on the stack: trees side by side, from e to E, all of the tree of x -/
def pu_Ch (u : Nat → Option Nat) (S : Nat → Prop) (bf : Nat → Nat → Prop) (x : Nat) (stk : tb_A) : Nat → Nat → Nat → Prop
  | 0, e, E => e = E
  | t + 1, e, E => ∃ y, y < 30 ∧ stk t = nI y ∧ S y ∧ tr_lead u y x ∧ pu_st u S bf y = e ∧ pu_Ch u S bf x stk t (e + pu_sz u S y) E
theorem pu_Ch_fr {u : Nat → Option Nat} {S : Nat → Prop} {bf : Nat → Nat → Prop} {x : Nat} {stk stk' : tb_A} : ∀ (t e E : Nat), (∀ i, i < t → stk' i = stk i) → pu_Ch u S bf x stk t e E → pu_Ch u S bf x stk' t e E := by
  intro t
  induction t with
  | zero => intro e E _ h; exact h
  | succ t ih =>
    rintro e E h ⟨y, h1, h2, h3, h4, h5, h6⟩
    exact ⟨y, h1, (h t (by omega)).trans h2, h3, h4, h5, ih _ _ (fun i hi => h i (by omega)) h6⟩
theorem pu_Ch_le {u : Nat → Option Nat} {S : Nat → Prop} {bf : Nat → Nat → Prop} {x : Nat} {stk : tb_A} : ∀ (t e E : Nat), pu_Ch u S bf x stk t e E → e + t ≤ E := by
  intro t
  induction t with
  | zero => intro e E h; exact Nat.le_of_eq h
  | succ t ih =>
    rintro e E ⟨y, h1, h2, h3, h4, h5, h6⟩
    have := ih _ _ h6
    have := pu_sz1 (u := u) h1 h3
    omega
theorem pu_tp (t : Nat) : nI t + (-1) + 1 = nI t := by
  rw [Int32.add_assoc, show (-1 : Int32) + 1 = 0 by decide, Int32.add_zero]
theorem pu_tq (t : Nat) : nI (t + 1) + (-1) = nI t := by
  rw [nI_succ, Int32.add_assoc, show (1 : Int32) + (-1) = 0 by decide, Int32.add_zero]
theorem pu_in59 {t : Nat} (h : t ≤ 59) : fb_in (nI t) 0 59 = true := by
  unfold fb_in
  rw [Bool.and_eq_true, Bool.not_eq_true', Bool.not_eq_true', decide_eq_false_iff_not, decide_eq_false_iff_not]
  exact ⟨nI_pos (Nat.lt_of_le_of_lt h (by decide)), nI_nlt (a := 59) (b := t) h (by decide)⟩
theorem pu_tn {α dy : tb_A} {S : Nat → Prop} {bf : Nat → Nat → Prop} (T : pu_TR (tr_up α) S bf) (hA : pu_AH α dy bf) {p x E : Nat} (hp : p < 30) (hS : S p) (hx : tr_lead (tr_up α) p x) (hE : E ≤ 30) :
    ∀ (n i : Nat) (L : Option Nat) (t : Nat) (stk : tb_A), (∀ c, L = some c → c < 30 ∧ tr_up α c = some p) → pu_eL (tr_up α) S bf p L ≤ pu_st (tr_up α) S bf p + 1 + n → pu_Ch (tr_up α) S bf x stk t (pu_eL (tr_up α) S bf p L) E →
      ∃ t' stk', fb_tnF α dy (nI p) n i (nI t + (-1), stk, pu_lt L) = some (nI t' + (-1), stk') ∧ pu_Ch (tr_up α) S bf x stk' t' (pu_st (tr_up α) S bf p + 1) E := by
  intro n
  induction n with
  | zero =>
    intro i L t stk hL h1 h2
    have := pu_eL_ge T hp hS hL
    refine ⟨t, stk, rfl, ?_⟩
    rw [show pu_st (tr_up α) S bf p + 1 = pu_eL (tr_up α) S bf p L by omega]
    exact h2
  | succ n ih =>
    intro i L t stk hL h1 h2
    have hlt : pu_lt L = -1 ∨ fa_id (pu_lt L) = true := by
      cases L with
      | none => exact Or.inl rfl
      | some c => exact Or.inr (fa_id_nI (hL c rfl).1)
    unfold fb_tnF
    dsimp only
    rw [if_pos hlt]
    rcases pu_selE T hA hp hS hL with ⟨e1, e2⟩ | ⟨k, k1, k2, k3, k4⟩
    · rw [if_pos e1]
      exact ⟨t, stk, rfl, by rw [← e2]; exact h2⟩
    · have hb := pu_Ch_le _ _ _ h2
      have ht : t < 30 := by
        have := pu_eL_ge T hp hS hL
        omega
      rw [k2, if_neg (tr_nI1 k1), pu_tp, if_pos (pu_in59 (by omega)), tr_cl ht]
      have hSk := (T.2.2.1 k p k1 k3).1
      have := pu_sz1 (u := tr_up α) k1 hSk
      have hch : pu_Ch (tr_up α) S bf x (upd stk t (nI k)) (t + 1) (pu_eL (tr_up α) S bf p (some k)) E := by
        refine ⟨k, k1, pu_upd_s, hSk, tr_lead_tr (tr_lead_step k3) hx, rfl, ?_⟩
        rw [show pu_eL (tr_up α) S bf p (some k) + pu_sz (tr_up α) S k = pu_eL (tr_up α) S bf p L from k4]
        exact pu_Ch_fr _ _ _ (fun i hi => pu_upd_o (by omega)) h2
      have hle : pu_eL (tr_up α) S bf p (some k) ≤ pu_st (tr_up α) S bf p + 1 + n := by
        have : pu_eL (tr_up α) S bf p (some k) + pu_sz (tr_up α) S k = pu_eL (tr_up α) S bf p L := k4
        omega
      have h := ih (i + 1) (some k) (t + 1) (upd stk t (nI k)) (fun c hc => by cases hc; exact ⟨k1, k3⟩) hle hch
      rw [pu_tq] at h
      exact h
/-- the row of a tree: place k holds the id that starts there -/
def pu_Rw (u : Nat → Option Nat) (S : Nat → Prop) (bf : Nat → Nat → Prop) (x m : Nat) (ω : tb_A) : Prop := ∀ k, k < m → ∃ y, y < 30 ∧ ω k = nI y ∧ S y ∧ tr_lead u y x ∧ pu_st u S bf y = pu_st u S bf x + k
theorem pu_trF {α dy : tb_A} {S : Nat → Prop} {bf : Nat → Nat → Prop} (T : pu_TR (tr_up α) S bf) (hA : pu_AH α dy bf) {x : Nat} (hx : x < 30) (hS : S x) :
    ∀ (n m t : Nat) (ω stk : tb_A), pu_sz (tr_up α) S x < n + m → pu_Ch (tr_up α) S bf x stk t (pu_st (tr_up α) S bf x + m) (pu_st (tr_up α) S bf x + pu_sz (tr_up α) S x) → pu_Rw (tr_up α) S bf x m ω →
      ∃ r, fb_trF α dy n (nI t + (-1), nI m, ω, stk) = some r ∧ r.1 = nI (pu_sz (tr_up α) S x) ∧ pu_Rw (tr_up α) S bf x (pu_sz (tr_up α) S x) r.2.1 := by
  have hE := pu_st30 T hx hS
  intro n
  induction n with
  | zero =>
    intro m t ω stk h1 h2
    have := pu_Ch_le _ _ _ h2
    omega
  | succ n ih =>
    intro m t ω stk h1 h2 h3
    have hb := pu_Ch_le _ _ _ h2
    unfold fb_trF
    dsimp only
    cases t with
    | zero =>
      rw [if_pos (by decide)]
      have e : m = pu_sz (tr_up α) S x := by
        have : pu_st (tr_up α) S bf x + m = pu_st (tr_up α) S bf x + pu_sz (tr_up α) S x := h2
        omega
      exact ⟨_, rfl, by rw [e], by rw [← e]; exact h3⟩
    | succ t =>
      obtain ⟨y, y1, y2, y3, y4, y5, y6⟩ := h2
      have hm : m < 30 := by omega
      have ht : t < 30 := by omega
      rw [pu_tq, if_neg (nI_pos (Nat.lt_trans ht (by decide))), if_pos ⟨pu_in59 (by omega), fa_id_nI hm⟩, tr_cl ht, tr_cl hm, y2]
      have hsz : pu_sz (tr_up α) S y ≤ 30 := pu_n_top 30
      obtain ⟨t', stk', e1, e2⟩ := pu_tn T hA (x := x) y1 y3 y4 hE 30 0 none t stk (fun c hc => by cases hc) (by show pu_st _ S bf y + pu_sz _ S y ≤ _; omega) (by show pu_Ch _ _ _ _ _ _ (pu_st _ S bf y + pu_sz _ S y) _; rw [y5]; exact y6)
      rw [show (-1 : Int32) = pu_lt none from rfl] at e1 ⊢
      rw [e1]
      dsimp only
      rw [← nI_succ]
      refine ih (m + 1) t' (upd ω m (nI y)) stk' (by omega) (by rw [y5] at e2; exact e2) (fun k hk => ?_)
      by_cases e : k = m
      · subst e
        exact ⟨y, y1, pu_upd_s, y3, y4, y5⟩
      · rw [pu_upd_o e]
        exact h3 k (by omega)
/-- the walk from its start -/
theorem pu_trW {α dy : tb_A} {S : Nat → Prop} {bf : Nat → Nat → Prop} (T : pu_TR (tr_up α) S bf) (hA : pu_AH α dy bf) {x : Nat} (hx : x < 30) (hS : S x) (ω stk : tb_A) :
    ∃ r, fb_trF α dy 31 (0, 0, ω, upd stk 0 (nI x)) = some r ∧ r.1 = nI (pu_sz (tr_up α) S x) ∧ pu_Rw (tr_up α) S bf x (pu_sz (tr_up α) S x) r.2.1 := by
  have hsz : pu_sz (tr_up α) S x ≤ 30 := pu_n_top 30
  exact pu_trF T hA hx hS 31 0 1 ω (upd stk 0 (nI x)) (by omega) ⟨x, hx, pu_upd_s, hS, tr_lead_rf _ x, rfl, rfl⟩ (fun k hk => absurd hk (Nat.not_lt_zero k))
