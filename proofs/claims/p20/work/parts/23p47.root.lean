/-! ===== 47: root: the places of the roots ===== -/
theorem pu_pig {f : Nat → Nat} {n : Nat} : ∀ (p : Nat) (P : Nat → Prop), (∀ i, i < n → P i → f i < p) → (∀ i j, i < n → j < n → P i → P j → f i = f j → i = j) → pu_n P n ≤ p := by
  intro p
  induction p with
  | zero => intro P h _; rw [pu_n_zero n (fun i hi c => absurd (h i hi c) (Nat.not_lt_zero _))]; exact Nat.le_refl _
  | succ p ih =>
    intro P h hi
    have h1 := ih (fun i => P i ∧ f i ≠ p) (fun i hi2 ⟨c, d⟩ => by have := h i hi2 c; omega) (fun i j a b c d => hi i j a b c.1 d.1)
    have h2 : pu_n (fun i => P i ∧ f i = p) n ≤ 1 := by
      by_cases c : ∃ i, i < n ∧ P i ∧ f i = p
      · obtain ⟨i, i1, i2, i3⟩ := c
        rw [pu_n_one (j := i) n i1 (fun k hk => ⟨fun ⟨c1, c2⟩ => hi k i hk i1 c1 i2 (c2.trans i3.symm), fun e => by rw [e]; exact ⟨i2, i3⟩⟩)]
        exact Nat.le_refl _
      · rw [pu_n_zero n (fun i hi d => c ⟨i, hi, d⟩)]; omega
    rw [pu_n_add (A := fun i => P i ∧ f i ≠ p) (B := fun i => P i ∧ f i = p) n (fun i _ => ⟨fun c => by by_cases d : f i = p; exact Or.inr ⟨c, d⟩; exact Or.inl ⟨c, d⟩, fun c => c.elim (fun d => d.1) (fun d => d.1)⟩) (fun i _ c d => c.2 d.2)]
    omega
theorem pu_rtB4 {σ : tg_Mem} {i r : Nat} (hi : i < 30) (hr : r < 30) (h : pu_rt σ r) (hb : fa_before σ (nI i) (nI r) = true) : pu_rt σ i := by
  obtain ⟨c1, -, c3, -⟩ := (pu_before hi hr).mp hb
  exact ⟨c1, c3.trans h.2⟩
/-- every place below their number has a root -/
theorem pu_rtAt {σ : tg_Mem} {p : Nat} (hp : p < pu_n (pu_rt σ) 30) : ∃ r, r < 30 ∧ pu_rt σ r ∧ pu_pl σ r = p := by
  have hQ : pu_n (fun i => pu_rt σ i ∧ pu_pl σ i < p) 30 ≤ p := pu_pig (f := pu_pl σ) p _ (fun i _ c => c.2) (fun i j hi hj c d e => pu_pl_inj hi hj c.1.1 d.1.1 (c.1.2.trans d.1.2.symm) e)
  have key : ∀ d, (∃ r, r < 30 ∧ pu_rt σ r ∧ pu_pl σ r = p + d) → ∃ r, r < 30 ∧ pu_rt σ r ∧ pu_pl σ r = p := by
    intro d
    induction d using Nat.strongRecOn with
    | ind d ih =>
      rintro ⟨r, r1, r2, r3⟩
      by_cases hd : d = 0
      · exact ⟨r, r1, r2, by omega⟩
      · by_cases c : ∃ i, i < 30 ∧ fa_before σ (nI i) (nI r) = true ∧ p ≤ pu_pl σ i
        · obtain ⟨i, i1, i2, i3⟩ := c
          have := pu_pl_lt i1 r1 i2
          exact ih (pu_pl σ i - p) (by omega) ⟨i, i1, pu_rtB4 i1 r1 r2 i2, by omega⟩
        · exfalso
          have : pu_pl σ r ≤ pu_n (fun i => pu_rt σ i ∧ pu_pl σ i < p) 30 := pu_n_mono 30 (fun i hi hb => ⟨pu_rtB4 hi r1 r2 hb, Nat.lt_of_not_le (fun e => c ⟨i, hi, hb, e⟩)⟩)
          omega
  by_cases c : ∃ r, r < 30 ∧ pu_rt σ r ∧ p ≤ pu_pl σ r
  · obtain ⟨r, r1, r2, r3⟩ := c
    exact key (pu_pl σ r - p) ⟨r, r1, r2, by omega⟩
  · exfalso
    have : pu_n (pu_rt σ) 30 ≤ pu_n (fun i => pu_rt σ i ∧ pu_pl σ i < p) 30 := pu_n_mono 30 (fun i hi h => ⟨h, Nat.lt_of_not_le (fun e => c ⟨i, hi, h, e⟩)⟩)
    omega
theorem pu_subd {a b : Nat} (ha : a ≤ 1000) (hb : b ≤ 1000) : (0 < nI a - nI b ↔ b < a) ∧ (nI a - nI b = 0 ↔ a = b) := by
  have h1 : (nI a - nI b).toInt = (a : Int) - b := pk_sub_toInt (by omega) (by omega)
  have h2 : (0 : Int32).toInt = 0 := by decide
  rw [Int32.lt_iff_toInt_lt, ← Int32.toInt_inj, h1, h2]
  omega
/-- the reference's count of the roots ahead -/
theorem pu_rtI {σ μ : tg_Mem} (hM : pu_M σ μ) (hG : pu_G σ) (hA : pu_A σ μ) {k : Nat} (hk : k < 30) (hr : pu_rt σ k) (q : Int32 × tb_A × tb_A) : (fb_rtI (μ 0) (μ 4) (fb_A2 μ) (fb_AG μ).2 k q).1 = nI (pu_pl σ k) := by
  have h := tg_inv (fun n (q : Int32 × Int32 × tb_A × tb_A) => q.1 = nI (pu_n (fun i => fa_before σ (nI i) (nI k) = true) n)) (fb_rtS (μ 0) (μ 4) (fb_A2 μ) (fb_AG μ).2 k) 30 (0, q.1, q.2.1, q.2.2) rfl ?_ 30 (Nat.le_refl _)
  · exact h
  intro n q hn hq
  have hb := pu_before (σ := σ) hn hk
  unfold fb_rtS
  by_cases c1 : nI n = nI k
  · rw [if_pos c1, pu_n_n (by rw [c1]; exact pu_bf_irr hk)]; exact hq
  · rw [if_neg c1]
    by_cases c2 : (fb_AG μ).2 n = 0
    · rw [if_pos c2, pu_n_n (fun d => (hb.mp d).1 ((hA.2.2 n hn).mpr c2))]; exact hq
    · rw [if_neg c2]
      have s12 : σ 12 n ≠ 0 := fun d => c2 ((hA.2.2 n hn).mp d)
      by_cases c3 : fb_A2 μ n = -1
      · rw [if_pos c3]
        dsimp only
        have hrn : pu_rt σ n := ⟨s12, (hA.2.1 n hn).trans c3⟩
        obtain ⟨ek, a, ha, ea⟩ := pu_er hM hG hA hk hr q.2.2.1 q.2.2.2
        obtain ⟨en, b, hb2, eb⟩ := pu_er hM hG hA hn hrn (fb_trC (fb_A2 μ) (μ 4) q.2.2.1 q.2.2.2 (nI k)).2.1 (fb_trC (fb_A2 μ) (μ 4) q.2.2.1 q.2.2.2 (nI k)).2.2
        rw [ek, en, ea, eb, hq]
        obtain ⟨d1, d2⟩ := pu_subd ha hb2
        have hbf : fa_before σ (nI n) (nI k) = true ↔ b < a ∨ (b = a ∧ n < k) := by
          rw [hb, ea, eb, nI_ltI (by omega) (by omega), nI_eq (by omega) (by omega)]
          exact ⟨fun c => c.2.2.2, fun c => ⟨s12, hr.1, hrn.2.trans hr.2.symm, c⟩⟩
        by_cases e1 : b < a
        · rw [if_pos (d1.mpr e1), pu_n_p (hbf.mpr (Or.inl e1)), nI_succ]
        · rw [if_neg (fun c => e1 (d1.mp c))]
          by_cases e2 : a = b
          · rw [if_pos (d2.mpr e2)]
            by_cases e3 : n < k
            · rw [if_neg (nI_ge e3 (Nat.lt_trans hk (by decide))), pu_n_p (hbf.mpr (Or.inr ⟨e2.symm, e3⟩)), nI_succ]
            · rw [if_pos (nI_le (a := k) (b := n) (by omega) (Nat.lt_trans hn (by decide))), pu_n_n (fun c => (hbf.mp c).elim e1 (fun c => e3 c.2))]
              exact Int32.add_zero _
          · rw [if_neg (fun c => e2 (d2.mp c)), pu_n_n (fun c => (hbf.mp c).elim e1 (fun c => e2 c.1.symm))]
            exact Int32.add_zero _
      · rw [if_neg c3, pu_n_n (fun d => c3 (by rw [← hA.2.1 n hn, (hb.mp d).2.2.1]; exact hr.2))]
        exact hq
theorem pu_rtE {σ μ : tg_Mem} (hM : pu_M σ μ) (hG : pu_G σ) (hA : pu_A σ μ) {p r : Nat} (hp : p < 30) (hr : r < 30) (hrt : pu_rt σ r) (hpl : pu_pl σ r = p) : (fb_rt μ (nI p)).1 = nI r := by
  have h := tg_inv (fun n (q : Int32 × Int32 × tb_A × tb_A) => (r < n → q.1 = nI r)) (fb_rtO (μ 0) (μ 4) (fb_A2 μ) (fb_AG μ).2 (nI p)) 30 (-1, fb_forest μ 14 0, fb_forest μ 12, fb_forest μ 13) (fun c => absurd c (Nat.not_lt_zero r)) ?_ 30 (Nat.le_refl _)
  · exact h hr
  intro n q hn hq hlt
  unfold fb_rtO
  by_cases c1 : (fb_AG μ).2 n = 0
  · rw [if_pos c1]
    have : r ≠ n := fun e => hrt.1 ((hA.2.2 r hr).mpr (by rw [e]; exact c1))
    exact hq (by omega)
  · rw [if_neg c1]
    by_cases c2 : fb_A2 μ n = -1
    · rw [if_pos c2]
      dsimp only
      have hn2 : pu_rt σ n := ⟨fun d => c1 ((hA.2.2 n hn).mp d), (hA.2.1 n hn).trans c2⟩
      rw [pu_rtI hM hG hA hn hn2]
      have h30 := pu_pl_30 (σ := σ) hn
      by_cases c3 : pu_pl σ n = p
      · rw [if_pos (by rw [c3]), pu_pl_inj hr hn hrt.1 hn2.1 (hrt.2.trans hn2.2.symm) (hpl.trans c3.symm)]
      · rw [if_neg (fun c => c3 ((tr_nI h30 hp).mp c))]
        have : r ≠ n := fun e => c3 (by rw [← e]; exact hpl)
        exact hq (by omega)
    · rw [if_neg c2]
      have : r ≠ n := fun e => c2 (by rw [← e, ← hA.2.1 r hr]; exact hrt.2)
      exact hq (by omega)
theorem fb_rtTo (μ : tg_Mem) (y : Int32) {a : Nat} (h : a < 8) : fb_rtT μ y a = μ a := by
  unfold fb_rtT
  rw [tg_upA_n (by omega), tg_upA_n (by omega), tg_upA_n (by omega), tg_upA_n (by omega), fb_fo μ h]
theorem fb_rtFo (μ : tg_Mem) (y : Int32) {a : Nat} (h : a < 8) : fb_rtF μ y a = μ a := by
  unfold fb_rtF
  rw [tg_upA_n (by omega), fb_fo μ h]
theorem pu_HE {σ μ : tg_Mem} (hR : pu_REL σ μ) : ∀ (ω s : tb_A) (k : Nat), k < 30 → ¬ fb_forest μ 11 k = 0 → fb_lst (fb_forest μ 10) (fb_forest μ 4) ω s (nI k) := by
  intro ω s k hk h
  have hS : pu_S σ k := fun d => h (((pu_A1 hR).2.1 k hk).mp d)
  obtain ⟨hG, hA⟩ := pu_Gof hR hk hS
  exact (pu_lst hR.1 hG hA hk hS ω s).1
theorem pu_rootK {σ μ : tg_Mem} (hR : pu_REL σ μ) (y : Int32) : pu_OK (fx_root σ y) (tl_k1 (fx_root σ y)) σ σ (if fb_rtB μ y = true then fb_rtT μ y else fb_rtF μ y) (fa_rootAt σ y) (if fb_rtB μ y = true then (fb_rt μ y).1 else 0) := by
  have h20 := (pu_A1 hR).2.2
  have hrB : fb_rtB μ y = true ↔ ∃ p, p < pu_n (fun i => (fb_AG μ).2 i ≠ 0 ∧ fb_A2 μ i = -1) 30 ∧ y = nI p := by
    unfold fb_rtB
    rw [fb_fo10, fb_fo11, pu_rn]
    exact pu_inz (pu_n_top 30)
  rw [pu_rn] at h20
  have h30 := pu_n_top (P := fun i => (fb_AG μ).2 i ≠ 0 ∧ fb_A2 μ i = -1) 30
  cases c : fb_rtB μ y with
  | true =>
    obtain ⟨p, p1, rfl⟩ := hrB.mp c
    have hk : ∃ k, k < 30 ∧ pu_S σ k := by
      refine Classical.byContradiction fun hne => ?_
      rw [pu_n_zero 30 (fun i hi d => hne ⟨i, hi, fun e => d.1 (((pu_A1 hR).2.1 i hi).mp e)⟩)] at p1
      exact absurd p1 (Nat.not_lt_zero p)
    obtain ⟨k, k1, k2⟩ := hk
    obtain ⟨hG, hA⟩ := pu_Gof hR k1 k2
    have hc : pu_n (pu_rt σ) 30 = pu_n (fun i => (fb_AG μ).2 i ≠ 0 ∧ fb_A2 μ i = -1) 30 := pu_n_cong 30 (fun i hi => by
      unfold pu_rt
      rw [hA.2.1 i hi]
      exact and_congr (not_congr (hA.2.2 i hi)) Iff.rfl)
    obtain ⟨r, r1, r2, r3⟩ := pu_rtAt (σ := σ) (p := p) (by omega)
    have hp : p < 30 := by omega
    have hans : fa_rootAt σ (nI p) = nI r := by
      unfold fa_rootAt
      rw [if_pos (fa_id_nI hp), h20, if_neg (nI_ge p1 (by omega)), tr_cl hp, ← r3]
      exact hG.2.2.2.2.2.1 r r1 r2
    have hex : fx_root σ (nI p) = none := by unfold fx_root; rw [hans, if_neg (tr_nI1 r1)]
    rw [if_pos rfl, if_pos rfl, hans, pu_rtE hR.1 hG hA hp r1 r2 r3, hex]
    refine pu_okN rfl ?_ rfl (pu_RELc hR (fun a ha => fb_rtTo μ _ ha))
    show fb_thr1 (fb_rtB μ (nI p)) = 0
    rw [c]; rfl
  | false =>
    have hans : fa_rootAt σ y = -1 := by
      unfold fa_rootAt
      by_cases d : fa_id y = true
      · rw [if_pos d]
        obtain ⟨p, p1, rfl⟩ := tr_idx d
        rw [h20]
        by_cases e : p < pu_n (fun i => (fb_AG μ).2 i ≠ 0 ∧ fb_A2 μ i = -1) 30
        · rw [hrB.mpr ⟨p, e, rfl⟩] at c; cases c
        · rw [if_pos (nI_le (Nat.le_of_not_lt e) (by omega))]
      · rw [if_neg d]
    have hex : fx_root σ y = some tx_O := by unfold fx_root; rw [hans, if_pos rfl]
    rw [if_neg Bool.false_ne_true, if_neg Bool.false_ne_true, hex]
    refine pu_okS rfl ?_ (pu_RELc hR (fun a ha => fb_rtFo μ _ ha))
    show fb_thr1 (fb_rtB μ y) = 1
    rw [c]; rfl
