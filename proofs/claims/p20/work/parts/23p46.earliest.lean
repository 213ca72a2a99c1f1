/-! ===== 46: root: alike ===== -/
theorem pu_lst {σ μ : tg_Mem} (hM : pu_M σ μ) (hG : pu_G σ) (hA : pu_A σ μ) {k : Nat} (hk : k < 30) (hS : pu_S σ k) (ω s : tb_A) : fb_lst (fb_A2 μ) (μ 4) ω s (nI k) ∧ (fb_trC (fb_A2 μ) (μ 4) ω s (nI k)).1.toNatClampNeg = pu_z σ k ∧ pu_Row σ k (fb_trC (fb_A2 μ) (μ 4) ω s (nI k)).2.1 := by
  obtain ⟨r, h1, h2, h3⟩ := pu_row hM hG hA hk hS ω s
  have e : fb_trC (fb_A2 μ) (μ 4) ω s (nI k) = r := by unfold fb_trC; rw [h1]; rfl
  have hz : r.1.toNatClampNeg = pu_z σ k := by rw [h2]; exact tg_cl (Nat.lt_of_le_of_lt pu_z30 (by decide))
  unfold fb_lst
  rw [e, hz]
  refine ⟨⟨h1, h2, pu_z30, fun i hi => ?_⟩, rfl, h3⟩
  obtain ⟨y, y1, y2, -⟩ := h3 i hi
  rw [y2]
  exact tg_in y1 (by decide)
/-- the earliest day of a tree, in words -/
def pu_min_of (σ μ : tg_Mem) (k : Nat) (v : Int32) : Prop := v ≤ 1000 ∧ (∀ y, y < 30 → pu_S σ y → tr_lead (pu_u σ) y k → μ 0 y ≠ 0 → v ≤ μ 4 y) ∧ (v = 1000 ∨ ∃ y, y < 30 ∧ pu_S σ y ∧ tr_lead (pu_u σ) y k ∧ μ 0 y ≠ 0 ∧ v = μ 4 y)
theorem pu_min_un {σ μ : tg_Mem} {k : Nat} {v w : Int32} (h1 : pu_min_of σ μ k v) (h2 : pu_min_of σ μ k w) : v = w := by
  have key : ∀ v w, pu_min_of σ μ k v → pu_min_of σ μ k w → v ≤ w := by
    rintro v w ⟨a1, a2, a3⟩ ⟨b1, b2, b3⟩
    rcases b3 with e | ⟨y, y1, y2, y3, y4, e⟩
    · rw [e]; exact a1
    · rw [e]; exact a2 y y1 y2 y3 y4
  exact Int32.le_antisymm (key v w h1 h2) (key w v h2 h1)
theorem pu_dayL {σ μ : tg_Mem} (hM : pu_M σ μ) {y : Nat} (hy : y < 30) (h : μ 0 y ≠ 0) : ∃ d, d < 1000 ∧ μ 4 y = nI d ∧ fa_dayOf σ (nI y) = nI d := by
  have h0 : σ 0 y ≠ 0 := fun d => h ((hM y hy).1.mp d)
  obtain ⟨-, -, -, h5, -, -, ⟨d, hd, hd2⟩, -⟩ := (hM y hy).2.2.2.2.2 h0
  refine ⟨d, hd, hd2, ?_⟩
  unfold fa_dayOf
  rw [if_pos ((pu_holds hy).mpr h0), tr_cl hy, h5, hd2]
theorem pu_minMn {σ μ : tg_Mem} (hM : pu_M σ μ) (k : Nat) : pu_min_of σ μ k (pu_mn (fun i => pu_S σ i ∧ tr_lead (pu_u σ) i k) (fun i => fa_dayOf σ (nI i)) 30) := by
  have key : ∀ n, n ≤ 30 → pu_mn (fun i => pu_S σ i ∧ tr_lead (pu_u σ) i k) (fun i => fa_dayOf σ (nI i)) n ≤ 1000 ∧ (∀ y, y < n → pu_S σ y → tr_lead (pu_u σ) y k → μ 0 y ≠ 0 → pu_mn (fun i => pu_S σ i ∧ tr_lead (pu_u σ) i k) (fun i => fa_dayOf σ (nI i)) n ≤ μ 4 y) ∧ (pu_mn (fun i => pu_S σ i ∧ tr_lead (pu_u σ) i k) (fun i => fa_dayOf σ (nI i)) n = 1000 ∨ ∃ y, y < 30 ∧ pu_S σ y ∧ tr_lead (pu_u σ) y k ∧ μ 0 y ≠ 0 ∧ pu_mn (fun i => pu_S σ i ∧ tr_lead (pu_u σ) i k) (fun i => fa_dayOf σ (nI i)) n = μ 4 y) := by
    intro n
    induction n with
    | zero => intro _; exact ⟨Int32.le_refl _, fun y hy => absurd hy (Nat.not_lt_zero y), Or.inl rfl⟩
    | succ n ih =>
      intro hn
      obtain ⟨i1, i2, i3⟩ := ih (by omega)
      by_cases c : pu_S σ n ∧ tr_lead (pu_u σ) n k
      · rw [pu_mn_p c]
        generalize pu_mn (fun i => pu_S σ i ∧ tr_lead (pu_u σ) i k) (fun i => fa_dayOf σ (nI i)) n = v at i1 i2 i3 ⊢
        unfold pu_min
        by_cases c0 : μ 0 n = 0
        · have hd : fa_dayOf σ (nI n) = 1000 := by
            unfold fa_dayOf
            rw [if_neg (fun d => (pu_holdsM hM (by omega)).mp d c0)]
          rw [hd, if_neg (Int32.not_lt.mpr i1)]
          refine ⟨i1, fun y hy s1 s2 s3 => ?_, i3⟩
          by_cases e : y = n
          · rw [e] at s3; exact absurd c0 s3
          · exact i2 y (by omega) s1 s2 s3
        · obtain ⟨d, d1, d2, d3⟩ := pu_dayL hM (y := n) (by omega) c0
          rw [d3]
          by_cases c2 : nI d < v
          · rw [if_pos c2]
            refine ⟨Int32.le_trans (Int32.le_of_lt c2) i1, fun y hy s1 s2 s3 => ?_, Or.inr ⟨n, by omega, c.1, c.2, c0, d2.symm⟩⟩
            by_cases e : y = n
            · rw [e, d2]; exact Int32.le_refl _
            · exact Int32.le_trans (Int32.le_of_lt c2) (i2 y (by omega) s1 s2 s3)
          · rw [if_neg c2]
            refine ⟨i1, fun y hy s1 s2 s3 => ?_, i3⟩
            by_cases e : y = n
            · rw [e, d2]; exact Int32.not_lt.mp c2
            · exact i2 y (by omega) s1 s2 s3
      · rw [pu_mn_n c]
        refine ⟨i1, fun y hy s1 s2 s3 => ?_, i3⟩
        by_cases e : y = n
        · exact absurd ⟨by rw [← e]; exact s1, by rw [← e]; exact s2⟩ c
        · exact i2 y (by omega) s1 s2 s3
  exact key 30 (Nat.le_refl _)
theorem pu_minEr {σ μ : tg_Mem} (hG : pu_G σ) {k : Nat} {ω : tb_A} (hw : pu_Row σ k ω) : pu_min_of σ μ k (tg_it (fb_erS (μ 0) (μ 4) ω) 1000 (pu_z σ k)) := by
  have h := tg_inv (fun n (b : Int32) => b ≤ 1000 ∧ (∀ i, i < n → ∀ y, y < 30 → ω i = nI y → μ 0 y ≠ 0 → b ≤ μ 4 y) ∧ (b = 1000 ∨ ∃ y, y < 30 ∧ pu_S σ y ∧ tr_lead (pu_u σ) y k ∧ μ 0 y ≠ 0 ∧ b = μ 4 y)) (fb_erS (μ 0) (μ 4) ω) (pu_z σ k) 1000 ⟨Int32.le_refl _, fun i hi => absurd hi (Nat.not_lt_zero i), Or.inl rfl⟩ ?_ (pu_z σ k) (Nat.le_refl _)
  · obtain ⟨h1, h2, h3⟩ := h
    refine ⟨h1, fun y y1 y2 y3 y4 => ?_, h3⟩
    obtain ⟨i, i1, i2⟩ := pu_Row_all hG hw y1 y2 y3
    exact h2 i i1 y y1 i2 y4
  rintro n b hn ⟨h1, h2, h3⟩
  obtain ⟨y, y1, y2, y3, y4, -⟩ := hw n hn
  unfold fb_erS
  rw [y2, tr_cl y1]
  have same : ∀ i, i < n + 1 → ∀ z, z < 30 → ω i = nI z → i = n → z = y := fun i _ z hz e1 e2 => by
    rw [e2, y2] at e1
    exact ((tr_nI y1 hz).mp e1).symm
  by_cases c0 : μ 0 y = 0
  · rw [if_pos c0]
    refine ⟨h1, fun i hi z hz e1 e2 => ?_, h3⟩
    by_cases e : i = n
    · rw [same i hi z hz e1 e] at e2; exact absurd c0 e2
    · exact h2 i (by omega) z hz e1 e2
  · rw [if_neg c0]
    by_cases c : b ≤ μ 4 y
    · rw [if_pos c]
      refine ⟨h1, fun i hi z hz e1 e2 => ?_, h3⟩
      by_cases e : i = n
      · rw [same i hi z hz e1 e]; exact c
      · exact h2 i (by omega) z hz e1 e2
    · rw [if_neg c]
      have c' := Int32.le_of_lt (Int32.not_le.mp c)
      refine ⟨Int32.le_trans c' h1, fun i hi z hz e1 e2 => ?_, Or.inr ⟨y, y1, y3, y4, c0, rfl⟩⟩
      by_cases e : i = n
      · rw [same i hi z hz e1 e]; exact Int32.le_refl _
      · exact Int32.le_trans c' (h2 i (by omega) z hz e1 e2)
/-- the reference's earliest day of a root's tree is the class's turn -/
theorem pu_er {σ μ : tg_Mem} (hM : pu_M σ μ) (hG : pu_G σ) (hA : pu_A σ μ) {k : Nat} (hk : k < 30) (hr : pu_rt σ k) (ω s : tb_A) : fb_erC (μ 0) (μ 4) (fb_trC (fb_A2 μ) (μ 4) ω s (nI k)) = σ 14 k ∧ ∃ d, d ≤ 1000 ∧ σ 14 k = nI d := by
  obtain ⟨-, h1, h2⟩ := pu_lst hM hG hA hk hr.1 ω s
  have ht := hG.2.2.2.2.2.2 k hk
  rw [if_pos hr.2] at ht
  have hm := pu_minMn hM (σ := σ) k
  rw [← ht] at hm
  refine ⟨?_, ?_⟩
  · unfold fb_erC
    rw [h1]
    exact pu_min_un (pu_minEr hG h2) hm
  · rcases hm.2.2 with e | ⟨y, y1, -, -, y4, e⟩
    · exact ⟨1000, by omega, e⟩
    · obtain ⟨d, d1, d2, -⟩ := pu_dayL hM y1 y4
      exact ⟨d, by omega, e.trans d2⟩
