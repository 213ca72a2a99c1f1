/-! ===== 20: the letter answered ===== -/
theorem pu_day {a b : Nat} (ha : a < 1000) (hb : b < 1000) : nI a - nI b < 0 ↔ nI a < nI b := by
  have e1 := nI_toInt (n := a) (Nat.lt_trans ha (by decide))
  have e2 := nI_toInt (n := b) (Nat.lt_trans hb (by decide))
  rw [Int32.lt_iff_toInt_lt, Int32.lt_iff_toInt_lt, Int32.toInt_sub, e1, e2]
  have e0 : (0 : Int32).toInt = 0 := rfl
  rw [e0]
  simp only [Int.bmod]
  split <;> omega
theorem pu_s10 {s : Nat} : nI (s + 10) - 10 = nI s := by
  have e : nI (s + 10) = nI s + 10 := Int32.ofNat_add s 10
  rw [e, Int32.add_sub_cancel]
theorem pu_can {σ τ μ : tg_Mem} (hM : pu_M σ μ) (hs : pu_same σ τ) (he : ∀ j, j < 30 → σ 4 j = 0 → τ 11 j = (fb_AG μ).1 j) {k j : Nat} (hk : k < 30) (hj : j < 30) (hk0 : σ 0 k ≠ 0) (hk4 : σ 4 k ≠ 0) : (τ 11 j = -1 ∧ fa_ans τ (nI j) (nI k) = true) ↔ fb_can (μ 0) (fb_AG μ).1 (μ 3) (μ 4) k j = true := by
  obtain ⟨-, -, -, d5k, -, -, ⟨dk, hdk, edk⟩, -, ⟨sk, hsk, e3k, e4k⟩⟩ := (hM k hk).2.2.2.2.2 hk0
  have e4k := e4k.resolve_left (fun c => hk4 c.1)
  have hcan : fb_can (μ 0) (fb_AG μ).1 (μ 3) (μ 4) k j = true ↔ (μ 0 j ≠ 0 ∧ (fb_AG μ).1 j = -1) ∧ μ 3 j = μ 3 k - 10 ∧ ¬ (μ 4 k < μ 4 j) ∧ ¬ (14 < μ 4 k - μ 4 j) := by
    unfold fb_can
    rw [Bool.and_eq_true, pu_alone hj]
    simp
  have hans : fa_ans τ (nI j) (nI k) = true ↔ σ 0 j ≠ 0 ∧ σ 0 k ≠ 0 ∧ σ 4 j = 0 ∧ σ 4 k ≠ 0 ∧ σ 3 j = σ 3 k ∧ ¬ (σ 5 k - σ 5 j < 0) ∧ ¬ (14 < σ 5 k - σ 5 j) := by
    unfold fa_ans
    rw [Bool.and_eq_true, pu_holds hj, Bool.and_eq_true, pu_holds hk, tr_cl hj, tr_cl hk, hs 0 (by decide), hs 3 (by decide), hs 4 (by decide), hs 5 (by decide)]
    simp
  rw [hcan, hans]
  have h10 : μ 3 k - 10 = nI sk := by rw [e4k.2]; exact pu_s10
  rw [h10]
  constructor
  · rintro ⟨h11, h0, -, h4, -, h3, hd1, hd2⟩
    obtain ⟨-, -, -, d5j, -, -, ⟨dj, hdj, edj⟩, -, ⟨sj, hsj, e3j, e4j⟩⟩ := (hM j hj).2.2.2.2.2 h0
    have e4j := e4j.resolve_right (fun c => c.1 h4)
    rw [d5k, d5j, edk, edj] at hd1 hd2
    rw [edk, edj]
    refine ⟨⟨fun c => h0 ((hM j hj).1.mpr c), by rw [← he j hj h4]; exact h11⟩, ?_, fun c => hd1 ((pu_day hdk hdj).mpr c), hd2⟩
    rw [e4j.2, ← e3j, h3, e3k]
  · rintro ⟨⟨h0, h11⟩, h3, hd1, hd2⟩
    have h0' : σ 0 j ≠ 0 := fun c => h0 ((hM j hj).1.mp c)
    obtain ⟨-, -, -, d5j, -, -, ⟨dj, hdj, edj⟩, -, ⟨sj, hsj, e3j, e4j⟩⟩ := (hM j hj).2.2.2.2.2 h0'
    have h4 : σ 4 j = 0 ∧ μ 3 j = nI sj := by
      refine e4j.resolve_right (fun c => ?_)
      rw [c.2] at h3
      have := (nI_eq (a := sj + 10) (b := sk) (by omega) (by omega)).mp h3
      omega
    rw [edk, edj] at hd1 hd2
    refine ⟨by rw [he j hj h4.1]; exact h11, h0', hk0, h4.1, hk4, ?_, ?_, ?_⟩
    · rw [e3j, e3k, ← h4.2]; exact h3
    · rw [d5k, d5j, edk, edj]; exact fun c => hd1 ((pu_day hdk hdj).mp c)
    · rw [d5k, d5j, edk, edj]; exact hd2
theorem pu_best {σ τ μ : tg_Mem} (hM : pu_M σ μ) (hs : pu_same σ τ) (he : ∀ j, j < 30 → σ 4 j = 0 → τ 11 j = (fb_AG μ).1 j) {k : Nat} (hk : k < 30) (hk0 : σ 0 k ≠ 0) (hk4 : σ 4 k ≠ 0) : fa_best τ (nI k) = tg_it (fb_c2 (μ 0) (fb_AG μ).1 (μ 3) (μ 4) k) (-1) 30 ∧ (fa_best τ (nI k) = -1 ∨ ∃ f, f < 30 ∧ fa_best τ (nI k) = nI f ∧ μ 0 f ≠ 0 ∧ (fb_AG μ).1 f = -1 ∧ σ 4 f = 0) := by
  have h := tr_rel (fun (_ : Nat) (b c : Int32) => b = c ∧ (b = -1 ∨ ∃ f, f < 30 ∧ b = nI f ∧ μ 0 f ≠ 0 ∧ (fb_AG μ).1 f = -1 ∧ σ 4 f = 0)) (fa_bestS τ (nI k)) (fb_c2 (μ 0) (fb_AG μ).1 (μ 3) (μ 4) k) 30 (-1) (-1) ⟨rfl, Or.inl rfl⟩ ?_ 30 (Nat.le_refl _)
  · unfold fa_best
    refine ⟨h.1, h.2⟩
  rintro j b c hj ⟨rfl, hb⟩
  have hcan := pu_can hM hs he hk hj hk0 hk4
  have hday : ∀ f, f < 30 → μ 0 f ≠ 0 → fa_dayOf τ (nI f) = μ 4 f := fun f hf h0 => by
    have h0' : σ 0 f ≠ 0 := fun c => h0 ((hM f hf).1.mp c)
    unfold fa_dayOf
    rw [if_pos ((pu_holds hf).mpr (by rw [hs 0 (by decide)]; exact h0')), tr_cl hf, hs 5 (by decide)]
    exact ((hM f hf).2.2.2.2.2 h0').2.2.2.1
  unfold fa_bestS fb_c2
  by_cases hc : fb_can (μ 0) (fb_AG μ).1 (μ 3) (μ 4) k j = true
  · obtain ⟨c1, c2⟩ := hcan.mpr hc
    have hj0 : μ 0 j ≠ 0 ∧ (fb_AG μ).1 j = -1 := by
      unfold fb_can at hc
      rw [Bool.and_eq_true, pu_alone hj] at hc
      exact hc.1
    have hj4 : σ 4 j = 0 := by
      unfold fa_ans at c2
      simp only [Bool.and_eq_true, decide_eq_true_eq] at c2
      have := c2.2.2.1
      rw [tr_cl hj, hs 4 (by decide)] at this
      exact this
    have hnew : nI j = -1 ∨ ∃ f, f < 30 ∧ nI j = nI f ∧ μ 0 f ≠ 0 ∧ (fb_AG μ).1 f = -1 ∧ σ 4 f = 0 := Or.inr ⟨j, hj, rfl, hj0.1, hj0.2, hj4⟩
    rw [if_pos c1, if_pos c2, if_pos hc]
    rcases hb with rfl | ⟨f, hf, rfl, hf0, hf1⟩
    · rw [if_pos rfl, if_pos rfl]; exact ⟨rfl, hnew⟩
    · rw [if_neg (tr_nI1 hf), if_neg (tr_nI1 hf), hday j hj hj0.1, hday f hf hf0, tr_cl hf]
      refine ⟨rfl, ?_⟩
      split
      · exact Or.inr ⟨f, hf, rfl, hf0, hf1⟩
      · exact hnew
  · rw [if_neg hc]
    by_cases c1 : τ 11 j = -1
    · rw [if_pos c1, if_neg (fun c2 => hc (hcan.mp ⟨c1, c2⟩))]; exact ⟨rfl, hb⟩
    · rw [if_neg c1]; exact ⟨rfl, hb⟩
