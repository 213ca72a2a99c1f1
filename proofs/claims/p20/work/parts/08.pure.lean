/-! ===== 06: chains, without any machine ===== -/
theorem tr_pig {l : List Nat} {N : Nat} (hn : l.Nodup) (hl : ∀ x ∈ l, x < N) : l.length ≤ N := by
  have h : l.Perm ((List.range N).filter (fun x => decide (x ∈ l))) := by
    refine (List.perm_ext_iff_of_nodup hn (List.nodup_range.filter _)).mpr ?_
    intro a
    simp only [List.mem_filter, List.mem_range, decide_eq_true_eq]
    exact ⟨fun h => ⟨hl a h, h⟩, fun h => h.2⟩
  have h2 := List.length_filter_le (fun x => decide (x ∈ l)) (List.range N)
  rw [h.length_eq]
  simpa using h2
def tr_anc (u : Nat → Option Nat) : Nat → Nat → Option Nat
  | 0, x => some x
  | n + 1, x => match u x with
    | none => none
    | some y => tr_anc u n y
theorem tr_anc_s {u : Nat → Option Nat} {n x y : Nat} (h : u x = some y) : tr_anc u (n + 1) x = tr_anc u n y := by simp [tr_anc, h]
theorem tr_anc_n {u : Nat → Option Nat} {n x : Nat} (h : u x = none) : tr_anc u (n + 1) x = none := by simp [tr_anc, h]
theorem tr_anc_add {u : Nat → Option Nat} : ∀ (m n x y : Nat), tr_anc u m x = some y → tr_anc u (m + n) x = tr_anc u n y := by
  intro m
  induction m with
  | zero => intro n x y h; simp only [tr_anc, Option.some.injEq] at h; subst h; rw [Nat.zero_add]
  | succ m ih =>
    intro n x y h
    have e : m + 1 + n = (m + n) + 1 := by omega
    cases hx : u x with
    | none => rw [tr_anc_n hx] at h; cases h
    | some w => rw [tr_anc_s hx] at h; rw [e, tr_anc_s hx]; exact ih n w y h
theorem tr_anc_le {u : Nat → Option Nat} {m n x z : Nat} (h : tr_anc u n x = some z) (hm : m ≤ n) : ∃ y, tr_anc u m x = some y := by
  cases hy : tr_anc u m x with
  | some y => exact ⟨y, rfl⟩
  | none =>
    exfalso
    have key : ∀ (m d x : Nat), tr_anc u m x = none → tr_anc u (m + d) x = none := by
      intro m
      induction m with
      | zero => intro d x h; simp [tr_anc] at h
      | succ m ih =>
        intro d x h
        have e : m + 1 + d = (m + d) + 1 := by omega
        cases hx : u x with
        | none => rw [e, tr_anc_n hx]
        | some w => rw [tr_anc_s hx] at h; rw [e, tr_anc_s hx]; exact ih d w h
    have h2 := key m (n - m) x hy
    rw [show m + (n - m) = n by omega, h] at h2
    cases h2
def tr_rng (u : Nat → Option Nat) (N : Nat) : Prop := ∀ x y, x < N → u x = some y → y < N
def tr_acyc (u : Nat → Option Nat) (N : Nat) : Prop := ∀ x n, x < N → tr_anc u (n + 1) x ≠ some x
theorem tr_anc_rng {u : Nat → Option Nat} {N : Nat} (hr : tr_rng u N) : ∀ (n x y : Nat), x < N → tr_anc u n x = some y → y < N := by
  intro n
  induction n with
  | zero => intro x y hx h; simp only [tr_anc, Option.some.injEq] at h; omega
  | succ n ih =>
    intro x y hx h
    cases hw : u x with
    | none => rw [tr_anc_n hw] at h; cases h
    | some w => rw [tr_anc_s hw] at h; exact ih w y (hr x w hx hw) h
theorem tr_len {u : Nat → Option Nat} {N x : Nat} (hr : tr_rng u N) (ha : tr_acyc u N) (hx : x < N) : tr_anc u N x = none := by
  cases hz : tr_anc u N x with
  | none => rfl
  | some z =>
    exfalso
    have hall : ∀ m, m ≤ N → ∃ y, tr_anc u m x = some y := fun m hm => tr_anc_le hz hm
    have hl : ((List.range (N + 1)).map (fun m => (tr_anc u m x).getD 0)).length ≤ N := by
      refine tr_pig ?_ ?_
      · refine List.pairwise_map.mpr (List.Pairwise.imp_of_mem ?_ List.pairwise_lt_range)
        intro a b ha' hb' hab hE
        rw [List.mem_range] at ha' hb'
        obtain ⟨ya, ea⟩ := hall a (by omega)
        obtain ⟨yb, eb⟩ := hall b (by omega)
        simp only [ea, eb, Option.getD_some] at hE
        subst hE
        have h3 := tr_anc_add a (b - a) x ya ea
        rw [show a + (b - a) = (b - a - 1) + 1 + a by omega] at h3
        have h4 : tr_anc u (b - a) ya = some ya := by
          rw [← tr_anc_add a (b - a) x ya ea, show a + (b - a) = b by omega, eb]
        rw [show b - a = (b - a - 1) + 1 by omega] at h4
        exact ha ya _ (tr_anc_rng hr a x ya hx ea) h4
      · intro y hy
        obtain ⟨m, hm, rfl⟩ := List.mem_map.mp hy
        rw [List.mem_range] at hm
        obtain ⟨yy, e⟩ := hall m (by omega)
        rw [e]
        exact tr_anc_rng hr m x yy hx e
    simp at hl
    omega
/-- some steps lead from a to b -/
def tr_lead (u : Nat → Option Nat) (a b : Nat) : Prop := ∃ n, tr_anc u n a = some b
theorem tr_lead_rf (u : Nat → Option Nat) (a : Nat) : tr_lead u a a := ⟨0, rfl⟩
theorem tr_lead_tr {u : Nat → Option Nat} {a b c : Nat} (h1 : tr_lead u a b) (h2 : tr_lead u b c) : tr_lead u a c := by
  obtain ⟨m, h1⟩ := h1
  obtain ⟨n, h2⟩ := h2
  exact ⟨m + n, by rw [tr_anc_add m n a b h1]; exact h2⟩
theorem tr_lead_step {u : Nat → Option Nat} {a b : Nat} (h : u a = some b) : tr_lead u a b := ⟨1, by rw [tr_anc_s h]; rfl⟩
/-- a chain that doesn't meet k is the same when k alone is hung anew -/
theorem tr_off {u u' : Nat → Option Nat} {k : Nat} (hu : ∀ j, j ≠ k → u' j = u j) : ∀ (m y : Nat), (∀ i, tr_anc u i y ≠ some k) → tr_anc u' m y = tr_anc u m y := by
  intro m
  induction m with
  | zero => intro y _; rfl
  | succ m ih =>
    intro y h
    have hy : y ≠ k := fun e => h 0 (by rw [e]; rfl)
    cases hw : u y with
    | none => rw [tr_anc_n hw, tr_anc_n (by rw [hu y hy]; exact hw)]
    | some w =>
      rw [tr_anc_s hw, tr_anc_s (by rw [hu y hy]; exact hw)]
      exact ih w (fun i e => h (i + 1) (by rw [tr_anc_s hw]; exact e))
theorem tr_split {u u' : Nat → Option Nat} {k p : Nat} (hu : ∀ j, j ≠ k → u' j = u j) (hk : u' k = some p) : ∀ (m y z : Nat), tr_anc u' m y = some z → tr_anc u m y = some z ∨ ∃ i j, i + 1 + j = m ∧ tr_anc u i y = some k ∧ tr_anc u' j p = some z := by
  intro m
  induction m with
  | zero => intro y z h; exact Or.inl h
  | succ m ih =>
    intro y z h
    by_cases hy : y = k
    · subst hy
      rw [tr_anc_s hk] at h
      exact Or.inr ⟨0, m, by omega, rfl, h⟩
    · cases hw : u y with
      | none => rw [tr_anc_n (by rw [hu y hy]; exact hw)] at h; cases h
      | some w =>
        rw [tr_anc_s (by rw [hu y hy]; exact hw)] at h
        rcases ih w z h with h1 | ⟨i, j, e, h1, h2⟩
        · exact Or.inl (by rw [tr_anc_s hw]; exact h1)
        · exact Or.inr ⟨i + 1, j, by omega, by rw [tr_anc_s hw]; exact h1, h2⟩
theorem tr_acyc_add {u u' : Nat → Option Nat} {N k p : Nat} (ha : tr_acyc u N) (hu : ∀ j, j ≠ k → u' j = u j) (hk : u' k = some p) (hn : ¬ tr_lead u p k) : tr_acyc u' N := by
  intro x n hx h
  have hp : ∀ m, tr_anc u' m p = tr_anc u m p := fun m => tr_off hu m p (fun i e => hn ⟨i, e⟩)
  rcases tr_split hu hk (n + 1) x x h with h1 | ⟨i, j, e, h1, h2⟩
  · exact ha x n hx h1
  · rw [hp] at h2
    exact hn ⟨j + i, by rw [tr_anc_add j i p x h2]; exact h1⟩
/-! ids as ints -/
theorem tr_idx {v : Int32} (h : fa_id v = true) : ∃ j, j < 30 ∧ v = nI j := vp_in_of (fa_id_in h) (by decide)
theorem tr_id_m1 : fa_id (-1) = false := by decide
theorem tr_cl {i : Nat} (h : i < 30) : (nI i).toNatClampNeg = i := tg_cl (Nat.lt_trans h (by decide))
theorem tr_nI {i j : Nat} (hi : i < 30) (hj : j < 30) : nI i = nI j ↔ i = j := nI_eq (Nat.lt_trans hi (by decide)) (Nat.lt_trans hj (by decide))
theorem tr_nI1 {i : Nat} (h : i < 30) : nI i ≠ -1 := by
  intro e
  have := congrArg fa_id e
  rw [fa_id_nI h, tr_id_m1] at this
  cases this
/-- an array of ids as a step -/
def tr_up (lk : tb_A) (x : Nat) : Option Nat := if fa_id (lk x) = true then some (lk x).toNatClampNeg else none
theorem tr_up_s {lk : tb_A} {x y : Nat} (h : tr_up lk x = some y) : lk x = nI y ∧ y < 30 := by
  unfold tr_up at h
  split at h
  · rename_i h1
    obtain ⟨j, hj, e⟩ := tr_idx h1
    rw [e, tr_cl hj] at h
    cases h
    exact ⟨e, hj⟩
  · cases h
theorem tr_up_i {lk : tb_A} {x y : Nat} (hy : y < 30) (h : lk x = nI y) : tr_up lk x = some y := by
  unfold tr_up
  rw [h, fa_id_nI hy, if_pos rfl, tr_cl hy]
theorem tr_up_n {lk : tb_A} {x : Nat} (h : lk x = -1) : tr_up lk x = none := by
  unfold tr_up
  rw [h, tr_id_m1]
  rfl
theorem tr_up_rng (lk : tb_A) (N : Nat) : tr_rng (tr_up lk) 30 := fun _ _ _ h => (tr_up_s h).2
/-- every entry is an id or -1 -/
def tr_val (lk : tb_A) : Prop := ∀ i, i < 30 → lk i = -1 ∨ ∃ j, j < 30 ∧ lk i = nI j
theorem tr_val_none {lk : tb_A} {x : Nat} (hv : tr_val lk) (hx : x < 30) (h : tr_up lk x = none) : lk x = -1 := by
  rcases hv x hx with h1 | ⟨j, hj, e⟩
  · exact h1
  · rw [tr_up_i hj e] at h; cases h
/-! iterations side by side -/
theorem tr_rel {X Y : Type} (R : Nat → X → Y → Prop) (f : Nat → X → X) (g : Nat → Y → Y) (N : Nat) (x : X) (y : Y) (h0 : R 0 x y) (hs : ∀ i a b, i < N → R i a b → R (i + 1) (f i a) (g i b)) : ∀ j, j ≤ N → R j (tg_it f x j) (tg_it g y j) := by
  intro j
  induction j with
  | zero => intro _; exact h0
  | succ j ih => intro h; exact hs j _ _ (by omega) (ih (by omega))
/-- whether the class's bounded walk meets b -/
theorem tr_leadF {σ : tg_Mem} {b : Nat} (hb : b < 30) : ∀ (n i a : Nat), a < 30 → (fa_leadF σ (nI b) n i (nI a) = true ↔ ∃ m, m < n ∧ tr_anc (tr_up (σ 10)) m a = some b) := by
  intro n
  induction n with
  | zero => intro i a _; simp [fa_leadF]
  | succ n ih =>
    intro i a ha
    unfold fa_leadF
    rw [if_pos (fa_id_nI ha)]
    by_cases hab : a = b
    · subst hab
      rw [if_pos rfl]
      exact ⟨fun _ => ⟨0, by omega, rfl⟩, fun _ => rfl⟩
    · rw [if_neg (fun e => hab ((tr_nI ha hb).mp e)), tr_cl ha]
      cases hu : tr_up (σ 10) a with
      | none =>
        have h1 : fa_id (σ 10 a) = false := by
          unfold tr_up at hu
          split at hu
          · cases hu
          · rename_i h; simpa using h
        have h2 : fa_leadF σ (nI b) n (i + 1) (σ 10 a) = false := by
          cases n with
          | zero => rfl
          | succ n => simp [fa_leadF, h1]
        rw [h2]
        refine ⟨fun h => (by cases h), fun ⟨m, hm, h⟩ => ?_⟩
        cases m with
        | zero => simp only [tr_anc, Option.some.injEq] at h; exact absurd h hab
        | succ m => rw [tr_anc_n hu] at h; cases h
      | some y =>
        obtain ⟨e, hy⟩ := tr_up_s hu
        rw [e, ih (i + 1) y hy]
        constructor
        · rintro ⟨m, hm, h⟩
          exact ⟨m + 1, by omega, by rw [tr_anc_s hu]; exact h⟩
        · rintro ⟨m, hm, h⟩
          cases m with
          | zero => simp only [tr_anc, Option.some.injEq] at h; exact absurd h hab
          | succ m => rw [tr_anc_s hu] at h; exact ⟨m, by omega, h⟩
theorem tr_lead_iff {σ : tg_Mem} {a b : Nat} (ha : a < 30) (hb : b < 30) (hc : tr_acyc (tr_up (σ 10)) 30) : fa_lead σ (nI a) (nI b) = true ↔ tr_lead (tr_up (σ 10)) a b := by
  unfold fa_lead
  rw [tr_leadF hb 30 0 a ha]
  refine ⟨fun ⟨m, _, h⟩ => ⟨m, h⟩, fun ⟨m, h⟩ => ⟨m, ?_, h⟩⟩
  rcases Nat.lt_or_ge m 30 with h1 | h1
  · exact h1
  · obtain ⟨y, hy⟩ := tr_anc_le h h1
    rw [tr_len (tr_up_rng _ 30) hc ha] at hy
    cases hy
/-- the reference's walk, that ends by itself -/
theorem tr_belF {lk : tb_A} (hv : tr_val lk) {b : Nat} (hb : b < 30) : ∀ (n a : Nat), a < 30 → tr_anc (tr_up lk) n a = none → ∃ r, fb_belF lk (nI b) (n + 1) (nI a) = some r ∧ (r = true ↔ tr_lead (tr_up lk) a b) := by
  intro n
  induction n with
  | zero => intro a _ h; simp [tr_anc] at h
  | succ n ih =>
    intro a ha h
    unfold fb_belF
    rw [if_neg (tr_nI1 ha)]
    by_cases hab : a = b
    · subst hab
      rw [if_pos rfl]
      exact ⟨true, rfl, fun _ => tr_lead_rf _ _, fun _ => rfl⟩
    · rw [if_neg (fun e => hab ((tr_nI ha hb).mp e)), if_pos (fa_id_nI ha), tr_cl ha]
      cases hu : tr_up lk a with
      | none =>
        rw [tr_val_none hv ha hu]
        refine ⟨false, ?_, fun h => (by cases h), fun ⟨m, h⟩ => ?_⟩
        · unfold fb_belF
          rw [if_pos rfl]
          simp only [Option.some.injEq, decide_eq_false_iff_not]
          exact fun e => tr_nI1 hb e.symm
        · cases m with
          | zero => simp only [tr_anc, Option.some.injEq] at h; exact absurd h hab
          | succ m => rw [tr_anc_n hu] at h; cases h
      | some y =>
        obtain ⟨e, hy⟩ := tr_up_s hu
        rw [tr_anc_s hu] at h
        obtain ⟨r, h1, h2⟩ := ih y hy h
        refine ⟨r, by rw [e]; exact h1, h2.trans ⟨fun ⟨m, q⟩ => ⟨m + 1, by rw [tr_anc_s hu]; exact q⟩, fun ⟨m, q⟩ => ?_⟩⟩
        cases m with
        | zero => simp only [tr_anc, Option.some.injEq] at q; exact absurd q hab
        | succ m => rw [tr_anc_s hu] at q; exact ⟨m, q⟩
theorem tr_bel {lk : tb_A} (hv : tr_val lk) (hc : tr_acyc (tr_up lk) 30) {a b : Nat} (ha : a < 30) (hb : b < 30) : fb_belF lk (nI b) 31 (nI a) = some (fb_bel lk (nI a) (nI b)) ∧ (fb_bel lk (nI a) (nI b) = true ↔ tr_lead (tr_up lk) a b) := by
  obtain ⟨r, h1, h2⟩ := tr_belF hv hb 30 a ha (tr_len (tr_up_rng _ 30) hc ha)
  have e : fb_bel lk (nI a) (nI b) = r := by unfold fb_bel; rw [h1]; rfl
  rw [e]
  exact ⟨h1, h2⟩
