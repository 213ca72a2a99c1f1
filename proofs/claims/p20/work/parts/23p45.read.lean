/-! ===== 45: inTree, read: alike ===== -/
theorem pu_inz {y : Int32} {z : Nat} (hz : z ≤ 30) : fb_in y 0 (nI z - 1) = true ↔ ∃ k, k < z ∧ y = nI k := by
  have h1 : (nI z - 1).toInt = (z : Int) - 1 := pk_sub_toInt (a := z) (b := 1) (by omega) (by omega)
  have h2 : (0 : Int32).toInt = 0 := by decide
  rw [pu_int, h1, h2]
  constructor
  · rintro ⟨c1, c2⟩
    obtain ⟨k, k1, k2⟩ := nI_of (x := y) (by rw [Int32.lt_iff_toInt_lt]; omega)
    rw [k2, nI_toInt k1] at c2
    exact ⟨k, by omega, k2⟩
  · rintro ⟨k, k1, k2⟩
    rw [k2, nI_toInt (by omega)]
    omega
theorem fb_itTo (μ : tg_Mem) (x y : Int32) {a : Nat} (h : a < 8) : fb_itT μ x y a = μ a := by
  unfold fb_itT
  rw [tg_upA_n (by omega), tg_upA_n (by omega), tg_upA_n (by omega), tg_upA_n (by omega), fb_fo μ h]
theorem pu_inTreeK {σ μ : tg_Mem} (hR : pu_REL σ μ) (x y : Int32) : pu_OK (fx_inTree σ x y) (tl_k (fx_inTree σ x y)) σ σ (if fb_lkB μ x = true then fb_itT μ x y else fb_lkS μ x) (fa_idAt σ x y) (if fb_lkB μ x = true then (if fb_in y 0 ((fb_trR (fb_forest μ) x).1 - 1) = true then ((fb_trR (fb_forest μ) x).2.1) y.toNatClampNeg else 0) else 0) := by
  obtain ⟨h1, h2, h3⟩ := pu_isF hR x
  cases c : fb_lkB μ x with
  | false =>
    obtain ⟨E, hE⟩ := h2 c
    have hx : fx_inTree σ x y = some E := by unfold fx_inTree; rw [hE]; rfl
    rw [if_neg Bool.false_ne_true, if_neg Bool.false_ne_true, hx]
    rw [hE, c, if_neg Bool.false_ne_true] at h1
    refine pu_okS rfl ?_ (pu_RELc hR (fun a ha => fb_lkSo μ x ha))
    rw [h1, fb_lkS15, c, if_neg Bool.false_ne_true]
  | true =>
    obtain ⟨e, -⟩ := h3 c
    have hx : fx_inTree σ x y = if fa_idAt σ x y = -1 then some tx_O else none := by unfold fx_inTree; rw [e]; rfl
    obtain ⟨j, hj, rfl, hS, hG, hA, -, hn, hz, hw⟩ := pu_tree hR c
    rw [if_pos rfl, if_pos rfl, hx]
    have h15 : fb_itT μ (nI j) y 15 0 = fb_thr2 true (fb_in y 0 ((fb_trR (fb_forest μ) (nI j)).1 - 1)) := rfl
    have hc := pu_RELc hR (μ' := fb_itT μ (nI j) y) (fun a ha => fb_itTo μ (nI j) y ha)
    rw [hn, hz] at h15 ⊢
    cases d : fb_in y 0 (nI (pu_z σ j) - 1) with
    | true =>
      obtain ⟨k, k1, k2⟩ := (pu_inz pu_z30).mp d
      obtain ⟨w, w1, w2, w3, w4, w5, w6⟩ := hw k k1
      have hz30 := pu_z30 (σ := σ) (x := j)
      rw [if_pos rfl, k2, tg_cl (i := k) (by omega), w2, w6, if_neg (tr_nI1 w1)]
      rw [k2] at h15 hc d
      refine pu_okN rfl ?_ rfl hc
      rw [h15, d]; rfl
    | false =>
      have hno : fa_idAt σ (nI j) y = -1 := by
        refine Classical.byContradiction fun hne => ?_
        unfold fa_idAt at hne
        rw [if_pos ((pu_cont hj).mpr hS)] at hne
        by_cases y0 : y < 0
        · rw [if_pos y0] at hne; exact hne rfl
        · obtain ⟨k, k1, k2⟩ := nI_of y0
          rw [if_neg y0, tr_cl hj, hG.2.1 j hj] at hne
          by_cases y1 : y < nI (pu_sz (pu_u σ) (pu_S σ) j)
          · rw [k2] at y1
            have := (nI_ltI (a := k) (b := pu_sz (pu_u σ) (pu_S σ) j) k1 (Nat.lt_of_le_of_lt (pu_z30 (σ := σ) (x := j)) (by decide))).mp y1
            rw [(pu_inz pu_z30).mpr ⟨k, this, k2⟩] at d
            cases d
          · rw [if_neg y1] at hne; exact hne rfl
      rw [hno, if_pos rfl]
      refine pu_okS rfl ?_ hc
      rw [h15, d, tl_kO0]; rfl
theorem pu_A6 {μ μ' : tg_Mem} (h : ∀ a, a ≠ 6 → μ' a = μ a) : fb_K μ' = fb_K μ ∧ fb_A2 μ' = fb_A2 μ ∧ fb_AG μ' = fb_AG μ := by
  have h0 := h 0 (by decide)
  have h1 := h 1 (by decide)
  have h2 := h 2 (by decide)
  have h3 := h 3 (by decide)
  have h4 := h 4 (by decide)
  have h7 := h 7 (by decide)
  have eK : fb_K μ' = fb_K μ := by unfold fb_K; rw [h0, h1, h2, h7, h 8 (by decide)]
  have eL : fb_L μ' = fb_L μ := by unfold fb_L; rw [h0, h1, h2, h7, eK, h 9 (by decide)]
  have eA : fb_A0 μ' = fb_A0 μ := by unfold fb_A0; rw [h0, eL, h 10 (by decide)]
  have eG : fb_AG μ' = fb_AG μ := by unfold fb_AG; rw [h0, eA, h 11 (by decide)]
  have eO : fb_O μ' = fb_O μ := by unfold fb_O; rw [h0, eG, h3, h4, h7, h 12 (by decide)]
  exact ⟨eK, by unfold fb_A2; rw [eO, eG], eG⟩
theorem fb_rdTo (μ : tg_Mem) (x : Int32) {a : Nat} (h : a < 8) (h6 : a ≠ 6) : fb_rdT μ x a = μ a := by
  unfold fb_rdT
  rw [tg_upA_n (by omega), tg_upA_n (by omega), tg_upA_n (by omega), tg_upA_n (by omega), tg_upA_n h6, fb_fo μ h]
theorem pu_idAt_cg {σ τ : tg_Mem} (h : ∀ a, a ≠ 7 → τ a = σ a) (x k : Int32) : fa_idAt τ x k = fa_idAt σ x k := by
  unfold fa_idAt fa_cont
  rw [h 12 (by decide), h 15 (by decide), h 17 (by decide), h 18 (by decide)]
theorem pu_readE {σ μ : tg_Mem} (hR : pu_REL σ μ) {x : Int32} (hB : fb_lkB μ x = true) : (fx_read σ x).1 = (fb_rd μ x).1 ∧ (∀ a, a ≠ 7 → (fx_read σ x).2 a = σ a) ∧ ∀ i, i < 30 → μ 0 i ≠ 0 → ((fx_read σ x).2 7 i = 0 ↔ (fb_rd μ x).2 i = 0) := by
  obtain ⟨j, hj, rfl, hS, hG, hA, -, -, hz, hw⟩ := pu_tree hR hB
  unfold fx_read fb_rd
  rw [hz, fb_fo0, fb_fo6]
  generalize (fb_trR (fb_forest μ) (nI j)).2.1 = ω at hw
  have hm7 : ∀ i, i < 30 → μ 0 i ≠ 0 → (σ 7 i = 0 ↔ μ 6 i = 0) := fun i hi h0 => ((hR.1 i hi).2.2.2.2.2 (fun d => h0 ((hR.1 i hi).1.mp d))).2.2.2.2.2.1
  refine pu_fold (fun _ (a : Int32 × tg_Mem) (b : Int32 × tb_A) => a.1 = b.1 ∧ (∀ i, i ≠ 7 → a.2 i = σ i) ∧ ∀ i, i < 30 → μ 0 i ≠ 0 → (a.2 7 i = 0 ↔ b.2 i = 0)) (fx_readS (nI j)) (fb_rdS (μ 0) ω) pu_z30 (0, σ) (0, μ 6) ⟨rfl, fun _ _ => rfl, hm7⟩ (fun k a b hk e => ?_) (fun k a b hk hk2 e => ?_)
  · obtain ⟨e1, e2, e3⟩ := e
    obtain ⟨y, y1, y2, y3, y4, y5, y6⟩ := hw k hk
    unfold fx_readS fb_rdS
    dsimp only
    rw [pu_idAt_cg e2, y6, y2, tr_cl y1]
    have hu : fa_isUnread a.2 (nI y) = true ↔ μ 0 y ≠ 0 ∧ b.2 y ≠ 0 := by
      unfold fa_isUnread fa_holds
      rw [e2 0 (by decide), show (fa_id (nI y) && !decide (σ 0 (nI y).toNatClampNeg = 0)) = fa_holds σ (nI y) from rfl, Bool.and_eq_true, pu_holdsM hR.1 y1, tr_cl y1]
      simp only [Bool.not_eq_true', decide_eq_false_iff_not]
      constructor
      · exact fun ⟨c1, c2⟩ => ⟨c1, fun d => c2 ((e3 y y1 c1).mpr d)⟩
      · exact fun ⟨c1, c2⟩ => ⟨c1, fun d => c2 ((e3 y y1 c1).mp d)⟩
    unfold fa_mark
    by_cases c : μ 0 y = 0
    · rw [if_neg (fun d => (hu.mp d).1 c), if_neg (fun d => (hu.mp d).1 c), if_pos c, Int32.add_zero]
      refine ⟨e1, e2, fun i hi h0 => ?_⟩
      rw [pu_upd_o (fun d => h0 (by rw [d]; exact c))]
      exact e3 i hi h0
    · by_cases c2 : b.2 y = 0
      · rw [if_neg (fun d => (hu.mp d).2 c2), if_neg (fun d => (hu.mp d).2 c2), if_neg c, if_pos c2, Int32.add_zero]
        refine ⟨e1, e2, fun i hi h0 => ?_⟩
        by_cases d : i = y
        · rw [d, pu_upd_s]
          exact ⟨fun _ => rfl, fun _ => (e3 y y1 c).mpr c2⟩
        · rw [pu_upd_o d]; exact e3 i hi h0
      · rw [if_pos (hu.mpr ⟨c, c2⟩), if_pos (hu.mpr ⟨c, c2⟩), if_neg c, if_neg c2, tr_cl y1, e1]
        refine ⟨rfl, fun i hi => by rw [pu_set_o hi]; exact e2 i hi, fun i hi h0 => ?_⟩
        rw [pu_set_s]
        by_cases d : i = y
        · rw [d, pu_upd_s, pu_upd_s]
        · rw [pu_upd_o d, pu_upd_o d]; exact e3 i hi h0
  · obtain ⟨e1, e2, e3⟩ := e
    have hu : fa_isUnread a.2 (-1) = false := pu_unreadm1
    unfold fx_readS fa_mark
    rw [pu_idAt_cg e2, pu_idAt_no hG hj (by omega) hk, hu, if_neg Bool.false_ne_true, if_neg Bool.false_ne_true]
    exact ⟨e1, e2, e3⟩
theorem pu_readK {σ μ : tg_Mem} (hR : pu_REL σ μ) (x : Int32) : pu_OK (fx_forest σ x) (tl_k (fx_forest σ x)) (fx_read σ x).2 σ (if fb_lkB μ x = true then fb_rdT μ x else fb_lkS μ x) (fx_read σ x).1 (if fb_lkB μ x = true then (fb_rd μ x).1 else 0) := by
  obtain ⟨h1, h2, h3⟩ := pu_isF hR x
  cases c : fb_lkB μ x with
  | false =>
    obtain ⟨E, hE⟩ := h2 c
    rw [if_neg Bool.false_ne_true, if_neg Bool.false_ne_true, h1, ← fb_lkS15]
    exact pu_okS hE rfl (pu_RELc hR (fun a ha => fb_lkSo μ x ha))
  | true =>
    obtain ⟨e, j, hj, ej, hS⟩ := h3 c
    obtain ⟨hG, hA⟩ := pu_Gof hR hj hS
    obtain ⟨r1, r2, r3⟩ := pu_readE hR c
    rw [if_pos rfl, if_pos rfl, h1, c, if_pos rfl]
    generalize hq : fx_read σ x = q at r1 r2 r3 ⊢
    have hm6 : fb_rdT μ x 6 = (fb_rd μ x).2 := rfl
    refine pu_okN e rfl r1 ⟨fun i hi => ?_, Or.inr ⟨pu_G7 r2 hG, ?_⟩⟩
    · rw [r2 0 (by decide), r2 1 (by decide), r2 2 (by decide), r2 3 (by decide), r2 4 (by decide), r2 5 (by decide), r2 6 (by decide), r2 8 (by decide), hm6, fb_rdTo μ x (a := 0) (by decide) (by decide), fb_rdTo μ x (a := 1) (by decide) (by decide), fb_rdTo μ x (a := 2) (by decide) (by decide), fb_rdTo μ x (a := 3) (by decide) (by decide), fb_rdTo μ x (a := 4) (by decide) (by decide), fb_rdTo μ x (a := 5) (by decide) (by decide), fb_rdTo μ x (a := 7) (by decide) (by decide)]
      obtain ⟨m1, m2, m3, m4, m5, m6⟩ := hR.1 i hi
      refine ⟨m1, m2, m3, m4, m5, fun h0 => ?_⟩
      obtain ⟨n1, n2, n3, n4, n5, n6, n7⟩ := m6 h0
      exact ⟨n1, n2, n3, n4, n5, r3 i hi (fun d => h0 (m1.mpr d)), n7⟩
    · obtain ⟨k1, k2, k3⟩ := pu_A6 (μ := fb_rdT μ x) (μ' := tg_upA (fb_rdT μ x) 6 (μ 6)) (fun a ha => tg_upA_n ha)
      have hA2 : pu_A σ (tg_upA (fb_rdT μ x) 6 (μ 6)) := pu_Ac hR.1 (fun a ha => by
        by_cases d : a = 6
        · rw [d, tg_upA_s]
        · rw [tg_upA_n d, fb_rdTo μ x ha d]) hA
      unfold pu_A at hA2 ⊢
      rw [k1, k2, k3] at hA2
      rw [r2 9 (by decide), r2 11 (by decide), r2 12 (by decide)]
      exact hA2
