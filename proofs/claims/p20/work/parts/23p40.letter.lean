/-! ===== 40: a letter comes ===== -/
def pu_M1 (σ μ : tg_Mem) (i : Nat) : Prop :=
  (σ 0 i = 0 ↔ μ 0 i = 0) ∧ pu_v (μ 1 i) ∧ pu_v (μ 2 i) ∧ (pu_v (μ 7 i) ∨ μ 7 i = -2) ∧ (μ 0 i = 0 → μ 7 i = -1) ∧
  (σ 0 i ≠ 0 → σ 1 i = μ 2 i ∧ σ 2 i = μ 1 i ∧ σ 8 i = μ 7 i ∧ σ 5 i = μ 4 i ∧ σ 6 i = μ 5 i ∧ (σ 7 i = 0 ↔ μ 6 i = 0) ∧
    (∃ d, d < 1000 ∧ μ 4 i = nI d) ∧ (∃ p, p < 10 ∧ μ 5 i = nI p) ∧ (∃ s, s < 10 ∧ σ 3 i = nI s ∧ ((σ 4 i = 0 ∧ μ 3 i = nI s) ∨ (σ 4 i ≠ 0 ∧ μ 3 i = nI (s + 10)))))
theorem pu_Mset {σ μ σ' μ' : tg_Mem} (hM : pu_M σ μ) {j : Nat} (es : ∀ a, a < 9 → ∀ i, i ≠ j → σ' a i = σ a i) (em : ∀ a, a < 8 → ∀ i, i ≠ j → μ' a i = μ a i) (hj : j < 30 → pu_M1 σ' μ' j) : pu_M σ' μ' := by
  intro i hi
  by_cases e : i = j
  · subst e; exact hj hi
  · rw [es 0 (by decide) i e, es 1 (by decide) i e, es 2 (by decide) i e, es 3 (by decide) i e, es 4 (by decide) i e, es 5 (by decide) i e, es 6 (by decide) i e, es 7 (by decide) i e, es 8 (by decide) i e, em 0 (by decide) i e, em 1 (by decide) i e, em 2 (by decide) i e, em 3 (by decide) i e, em 4 (by decide) i e, em 5 (by decide) i e, em 6 (by decide) i e, em 7 (by decide) i e]
    exact hM i hi
theorem pu_fxid (x : Int32) : fx_id x = if fb_in x 0 29 = true then none else some tx_I := by unfold fx_id; rw [pu_in_id]
theorem pu_fxb {x y hi : Int32} (h : y.toInt = hi.toInt + 1) : fx_below x y = if fb_in x 0 hi = true then none else some tx_I := by
  have h2 : (0 : Int32).toInt = 0 := by decide
  unfold fx_below
  by_cases c : fb_in x 0 hi = true
  · obtain ⟨c1, c2⟩ := pu_int.mp c
    rw [if_pos c, if_neg (by rw [Int32.lt_iff_toInt_lt]; omega), if_pos (by rw [Int32.lt_iff_toInt_lt]; omega)]
  · rw [if_neg c]
    split
    · rfl
    · rename_i d
      rw [if_neg]
      rw [Int32.lt_iff_toInt_lt] at d ⊢
      rw [pu_int] at c
      omega
theorem pu_inm1 {x : Int32} (h : x ≠ -1) : fb_in x (-1) 29 = fb_in x 0 29 := by
  have h1 : fb_in x (-1) 29 = true ↔ fb_in x 0 29 = true := by
    have h2 : (0 : Int32).toInt = 0 := by decide
    have h3 : (-1 : Int32).toInt = -1 := by decide
    have h4 : x.toInt ≠ -1 := fun c => h (Int32.toInt_inj.mp (by rw [c, h3]))
    rw [pu_int, pu_int]
    omega
  cases e1 : fb_in x (-1) 29 <;> cases e2 : fb_in x 0 29 <;> simp_all
theorem pu_fxt (g q : Int32) : fx_told g q = if (fb_in g (-1) 29 && (fb_in q (-1) 29 && (!(decide (q = -1)) || decide (g = -1)))) = true then none else some tx_I := by
  unfold fx_told
  rw [pu_fxid, pu_fxid]
  by_cases hg : g = -1
  · rw [hg, fb_inm]
    by_cases hq : q = -1
    · rw [hq, fb_inm]; rfl
    · rw [pu_inm1 hq, if_neg hq, if_pos rfl, if_pos rfl]
      cases fb_in q 0 29 <;> simp [tx_or, hq]
  · rw [pu_inm1 hg, if_neg hg, if_neg hg]
    by_cases hq : q = -1
    · rw [hq, fb_inm, if_pos rfl, if_pos rfl]
      cases fb_in g 0 29 <;> simp [tx_or, hg]
    · rw [pu_inm1 hq, if_neg hq, if_neg hq]
      cases fb_in q 0 29 <;> cases fb_in g 0 29 <;> simp [tx_or, hg, hq]
theorem pu_fxput (σ : tg_Mem) (x g q sub d w0 : Int32) : fx_put σ x g q sub d w0 = if fb_right x g q sub d w0 = true then (if fa_holds σ x = true then some tx_J else none) else some tx_I := by
  unfold fx_put fb_right
  rw [pu_fxid, pu_fxt, pu_fxb (x := sub) (y := 20) (hi := 19) (by decide), pu_fxb (x := d) (y := 1000) (hi := 999) (by decide), pu_fxb (x := w0) (y := 10) (hi := 9) (by decide)]
  cases fb_in x 0 29 <;> cases fb_in g (-1) 29 <;> cases fb_in q (-1) 29 <;> cases fb_in sub 0 19 <;> cases fb_in d 0 999 <;> cases fb_in w0 0 9 <;> cases (!(decide (q = -1)) || decide (g = -1)) <;> simp [tx_or]
theorem pu_inN {x hi : Int32} {n : Nat} (hn : hi.toInt = n) (h : fb_in x 0 hi = true) : ∃ j, j ≤ n ∧ x = nI j := by
  have h2 : (0 : Int32).toInt = 0 := by decide
  obtain ⟨c1, c2⟩ := pu_int.mp h
  exact nI_of2 hn (by rw [Int32.lt_iff_toInt_lt]; omega) (by rw [Int32.le_iff_toInt_le]; exact c2)
theorem pu_inV {x : Int32} (h : fb_in x (-1) 29 = true) : pu_v x := by
  by_cases e : x = -1
  · exact Or.inl e
  · rw [pu_inm1 e] at h
    obtain ⟨j, hj, e2⟩ := pu_inN (n := 29) (by decide) h
    exact Or.inr ⟨j, by omega, e2⟩
theorem pu_rightE {x g q sub d w0 : Int32} (h : fb_right x g q sub d w0 = true) : (∃ j, j < 30 ∧ x = nI j) ∧ pu_v g ∧ pu_v q ∧ (∃ s, s < 20 ∧ sub = nI s) ∧ (∃ k, k < 1000 ∧ d = nI k) ∧ ∃ w, w < 10 ∧ w0 = nI w := by
  simp only [fb_right, Bool.and_eq_true] at h
  obtain ⟨h1, h2, h3, h4, h5, h6, -⟩ := h
  obtain ⟨j, j1, j2⟩ := pu_inN (n := 29) (by decide) h1
  obtain ⟨s, s1, s2⟩ := pu_inN (n := 19) (by decide) h4
  obtain ⟨k, k1, k2⟩ := pu_inN (n := 999) (by decide) h5
  obtain ⟨w, w1, w2⟩ := pu_inN (n := 9) (by decide) h6
  exact ⟨⟨j, by omega, j2⟩, pu_inV h2, pu_inV h3, ⟨s, by omega, s2⟩, ⟨k, by omega, k2⟩, w, by omega, w2⟩
theorem pu_putM {σ μ : tg_Mem} (hM : pu_M σ μ) {x g q sub d w0 : Int32} (h : fb_right x g q sub d w0 = true) : pu_M (fa_put σ x g q sub d w0) (fb_put μ x g q sub d w0) := by
  obtain ⟨⟨j, hj, rfl⟩, hg, hq, ⟨s, hs, rfl⟩, ⟨k, hk, rfl⟩, w, hw, rfl⟩ := pu_rightE h
  have e : (nI j).toNatClampNeg = j := tr_cl hj
  have m0 : fb_put μ (nI j) g q (nI s) (nI k) (nI w) 0 = upd (μ 0) j 1 := (show _ = upd (μ 0) (nI j).toNatClampNeg 1 from rfl).trans (by rw [e])
  have m1 : fb_put μ (nI j) g q (nI s) (nI k) (nI w) 1 = upd (μ 1) j q := (show _ = upd (μ 1) (nI j).toNatClampNeg q from rfl).trans (by rw [e])
  have m2 : fb_put μ (nI j) g q (nI s) (nI k) (nI w) 2 = upd (μ 2) j g := (show _ = upd (μ 2) (nI j).toNatClampNeg g from rfl).trans (by rw [e])
  have m3 : fb_put μ (nI j) g q (nI s) (nI k) (nI w) 3 = upd (μ 3) j (nI s) := (show _ = upd (μ 3) (nI j).toNatClampNeg (nI s) from rfl).trans (by rw [e])
  have m4 : fb_put μ (nI j) g q (nI s) (nI k) (nI w) 4 = upd (μ 4) j (nI k) := (show _ = upd (μ 4) (nI j).toNatClampNeg (nI k) from rfl).trans (by rw [e])
  have m5 : fb_put μ (nI j) g q (nI s) (nI k) (nI w) 5 = upd (μ 5) j (nI w) := (show _ = upd (μ 5) (nI j).toNatClampNeg (nI w) from rfl).trans (by rw [e])
  have m6 : fb_put μ (nI j) g q (nI s) (nI k) (nI w) 6 = upd (μ 6) j 1 := (show _ = upd (μ 6) (nI j).toNatClampNeg 1 from rfl).trans (by rw [e])
  have m7 : fb_put μ (nI j) g q (nI s) (nI k) (nI w) 7 = upd (μ 7) j (-1) := (show _ = upd (μ 7) (nI j).toNatClampNeg (-1) from rfl).trans (by rw [e])
  have hs1 : nI s < 10 ↔ s < 10 := nI_ltI (b := 10) (by omega) (by decide)
  have key : ∀ (σ' : tg_Mem) (r v : Int32), σ' = tg_set (tg_set (tg_set (tg_set (tg_set (tg_set (tg_set (tg_set (tg_set σ 0 j 1) 1 j g) 2 j q) 4 j r) 3 j v) 5 j (nI k)) 6 j (nI w)) 7 j 1) 8 j (-1) → (∃ s', s' < 10 ∧ v = nI s' ∧ ((r = 0 ∧ nI s = nI s') ∨ (r ≠ 0 ∧ nI s = nI (s' + 10)))) → pu_M σ' (fb_put μ (nI j) g q (nI s) (nI k) (nI w)) := by
    intro σ' r v hσ hv
    have t0 : σ' 0 = upd (σ 0) j 1 := by rw [hσ]; rfl
    have t1 : σ' 1 = upd (σ 1) j g := by rw [hσ]; rfl
    have t2 : σ' 2 = upd (σ 2) j q := by rw [hσ]; rfl
    have t3 : σ' 3 = upd (σ 3) j v := by rw [hσ]; rfl
    have t4 : σ' 4 = upd (σ 4) j r := by rw [hσ]; rfl
    have t5 : σ' 5 = upd (σ 5) j (nI k) := by rw [hσ]; rfl
    have t6 : σ' 6 = upd (σ 6) j (nI w) := by rw [hσ]; rfl
    have t7 : σ' 7 = upd (σ 7) j 1 := by rw [hσ]; rfl
    have t8 : σ' 8 = upd (σ 8) j (-1) := by rw [hσ]; rfl
    refine pu_Mset hM (j := j) (fun a ha i hi => ?_) (fun a ha i hi => ?_) (fun _ => ?_)
    · rcases a with _ | _ | _ | _ | _ | _ | _ | _ | _ | a
      · rw [t0, pu_upd_o hi]
      · rw [t1, pu_upd_o hi]
      · rw [t2, pu_upd_o hi]
      · rw [t3, pu_upd_o hi]
      · rw [t4, pu_upd_o hi]
      · rw [t5, pu_upd_o hi]
      · rw [t6, pu_upd_o hi]
      · rw [t7, pu_upd_o hi]
      · rw [t8, pu_upd_o hi]
      · omega
    · rcases a with _ | _ | _ | _ | _ | _ | _ | _ | a
      · rw [m0, pu_upd_o hi]
      · rw [m1, pu_upd_o hi]
      · rw [m2, pu_upd_o hi]
      · rw [m3, pu_upd_o hi]
      · rw [m4, pu_upd_o hi]
      · rw [m5, pu_upd_o hi]
      · rw [m6, pu_upd_o hi]
      · rw [m7, pu_upd_o hi]
      · omega
    · unfold pu_M1
      rw [t0, t1, t2, t3, t4, t5, t6, t7, t8, m0, m1, m2, m3, m4, m5, m6, m7]
      repeat rw [pu_upd_s]
      exact ⟨Iff.rfl, hq, hg, Or.inl (Or.inl rfl), fun c => absurd c (by decide), fun _ => ⟨rfl, rfl, rfl, rfl, rfl, Iff.rfl, ⟨k, hk, rfl⟩, ⟨w, hw, rfl⟩, hv⟩⟩
  unfold fa_put
  rw [if_pos (fa_id_nI hj), e]
  by_cases c : s < 10
  · rw [if_pos (hs1.mpr c)]
    exact key _ 0 (nI s) rfl ⟨s, c, rfl, Or.inl ⟨rfl, rfl⟩⟩
  · rw [if_neg (fun d => c (hs1.mp d))]
    have es : nI s = nI (s - 10) + 10 := by
      rw [show (10 : Int32) = nI 10 from rfl, nI_add, Nat.sub_add_cancel (by omega)]
    refine key _ 1 (nI s - 10) rfl ⟨s - 10, by omega, ?_, Or.inr ⟨by decide, ?_⟩⟩
    · rw [es, Int32.add_sub_cancel]
    · rw [Nat.sub_add_cancel (by omega)]
/-- letter: both throw alike; the answers, and the states behind -/
theorem pu_letter {σ μ : tg_Mem} (hR : pu_REL σ μ) (x g q sub d w0 : Int32) :
    tl_k (fx_put σ x g q sub d w0) = fb_thrP (μ 0) x g q sub d w0 ∧
    (fb_okP (μ 0) x g q sub d w0 = false → ∃ E, fx_put σ x g q sub d w0 = some E) ∧
    (fb_okP (μ 0) x g q sub d w0 = true → fx_put σ x g q sub d w0 = none ∧ fb_hyp (upd (μ 0) x.toNatClampNeg 1) (upd (μ 1) x.toNatClampNeg q) (upd (μ 2) x.toNatClampNeg g) (upd (μ 7) x.toNatClampNeg (-1)) (μ 8) (μ 9) ∧ fa_grow (fa_put σ x g q sub d w0) 20 0 = fb_rn (fb_forest (fb_put μ x g q sub d w0) 11) (fb_forest (fb_put μ x g q sub d w0) 10) ∧ pu_REL (fa_grow (fa_put σ x g q sub d w0)) (fb_forest (fb_put μ x g q sub d w0))) := by
  rw [pu_fxput]
  unfold fb_thrP fb_okP
  cases hr : fb_right x g q sub d w0 with
  | false =>
    rw [if_neg (by decide), if_neg (by decide)]
    exact ⟨tl_kI0, fun _ => ⟨_, rfl⟩, fun c => by cases c⟩
  | true =>
    rw [if_pos rfl, if_pos rfl]
    obtain ⟨⟨j, hj, rfl⟩, -⟩ := pu_rightE hr
    have hh : fa_holds σ (nI j) = true ↔ μ 0 j ≠ 0 := (pu_holds hj).trans (not_congr (hR.1 j hj).1)
    rw [tr_cl hj]
    by_cases c : μ 0 j = 0
    · rw [if_pos c, if_neg (fun d => hh.mp d c), decide_eq_true c]
      refine ⟨rfl, fun d => (by cases d), fun _ => ⟨rfl, ?_, ?_, ?_⟩⟩
      · have := pu_hyp (pu_putM hR.1 hr)
        rw [← tr_cl hj]
        exact this
      · exact pu_rootsG (pu_grown (pu_putM hR.1 hr)).1 (pu_grown (pu_putM hR.1 hr)).2.1
      · exact pu_regrow (pu_putM hR.1 hr) (fun a ha => fb_fo _ ha)
    · rw [if_neg c, if_pos (hh.mpr c), decide_eq_false c]
      exact ⟨tl_kJ0, fun _ => ⟨_, rfl⟩, fun d => by cases d⟩
