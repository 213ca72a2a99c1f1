/-! ===== 44: letters, unread, people, latest, inTree: alike ===== -/
theorem pu_fold {X Y : Type} (R : Nat → X → Y → Prop) (f : Nat → X → X) (g : Nat → Y → Y) {m N : Nat} (hm : m ≤ N) (x : X) (y : Y) (h0 : R 0 x y) (hs : ∀ k a b, k < m → R k a b → R (k + 1) (f k a) (g k b)) (he : ∀ k a b, m ≤ k → k < N → R m a b → R m (f k a) b) : R m (tg_it f x N) (tg_it g y m) := by
  have h := tr_rel R f g m x y h0 hs m (Nat.le_refl m)
  have key : ∀ d, m + d ≤ N → R m (tg_it f x (m + d)) (tg_it g y m) := by
    intro d
    induction d with
    | zero => intro _; exact h
    | succ d ih => intro hd; exact he (m + d) _ _ (by omega) (by omega) (ih (by omega))
  have h2 := key (N - m) (by omega)
  rw [Nat.add_sub_cancel' hm] at h2
  exact h2
theorem pu_holdsm1 {σ : tg_Mem} : fa_holds σ (-1) = false := by unfold fa_holds; rw [tr_id_m1]; rfl
theorem pu_holdsM {σ μ : tg_Mem} (hM : pu_M σ μ) {y : Nat} (hy : y < 30) : fa_holds σ (nI y) = true ↔ μ 0 y ≠ 0 := (pu_holds hy).trans (not_congr (hM y hy).1)
theorem pu_lettersK {σ μ : tg_Mem} (hR : pu_REL σ μ) (x : Int32) : pu_OK (fx_forest σ x) (tl_k (fx_forest σ x)) σ σ (fb_lkS μ x) (fx_letters σ x) (if fb_lkB μ x = true then tg_it (fb_ltS ((fb_forest μ) 0) ((fb_trR (fb_forest μ) x).2.1)) 0 (fb_n μ x) else 0) := by
  refine pu_qOK hR x (fun hB _ _ _ _ => ?_)
  obtain ⟨j, hj, rfl, hS, hG, hA, -, -, hz, hw⟩ := pu_tree hR hB
  rw [if_pos hB, hz, fb_fo0]
  generalize (fb_trR (fb_forest μ) (nI j)).2.1 = ω at hw
  unfold fx_letters
  refine pu_fold (fun _ (a b : Int32) => a = b) _ _ pu_z30 0 0 rfl (fun k a b hk e => ?_) (fun k a b hk hk2 e => ?_)
  · obtain ⟨y, y1, y2, y3, y4, y5, y6⟩ := hw k hk
    unfold fx_lettersS fb_ltS
    rw [y6, y2, tr_cl y1, e]
    by_cases c : μ 0 y = 0
    · rw [if_neg (fun d => (pu_holdsM hR.1 y1).mp d c), if_pos c, Int32.add_zero]
    · rw [if_pos ((pu_holdsM hR.1 y1).mpr c), if_neg c]
  · unfold fx_lettersS
    rw [pu_idAt_no hG hj (by omega) hk, pu_holdsm1, if_neg Bool.false_ne_true]
    exact e
theorem pu_unreadM {σ μ : tg_Mem} (hM : pu_M σ μ) {y : Nat} (hy : y < 30) : fa_isUnread σ (nI y) = true ↔ μ 0 y ≠ 0 ∧ μ 6 y ≠ 0 := by
  unfold fa_isUnread
  rw [Bool.and_eq_true, pu_holdsM hM hy, tr_cl hy]
  constructor
  · rintro ⟨h1, h2⟩
    refine ⟨h1, fun c => ?_⟩
    rw [((hM y hy).2.2.2.2.2 (fun d => h1 ((hM y hy).1.mp d))).2.2.2.2.2.1.mpr c] at h2
    exact absurd h2 (by decide)
  · rintro ⟨h1, h2⟩
    refine ⟨h1, ?_⟩
    have h3 : ¬ σ 7 y = 0 := fun c => h2 (((hM y hy).2.2.2.2.2 (fun d => h1 ((hM y hy).1.mp d))).2.2.2.2.2.1.mp c)
    rw [decide_eq_false h3]; rfl
theorem pu_unreadm1 {σ : tg_Mem} : fa_isUnread σ (-1) = false := by unfold fa_isUnread; rw [pu_holdsm1]; rfl
theorem pu_unreadK {σ μ : tg_Mem} (hR : pu_REL σ μ) (x : Int32) : pu_OK (fx_forest σ x) (tl_k (fx_forest σ x)) σ σ (fb_lkS μ x) (fx_unread σ x) (if fb_lkB μ x = true then tg_it (fb_urS ((fb_forest μ) 0) ((fb_forest μ) 6) ((fb_trR (fb_forest μ) x).2.1)) 0 (fb_n μ x) else 0) := by
  refine pu_qOK hR x (fun hB _ _ _ _ => ?_)
  obtain ⟨j, hj, rfl, hS, hG, hA, -, -, hz, hw⟩ := pu_tree hR hB
  rw [if_pos hB, hz, fb_fo0, fb_fo6]
  generalize (fb_trR (fb_forest μ) (nI j)).2.1 = ω at hw
  unfold fx_unread
  refine pu_fold (fun _ (a b : Int32) => a = b) _ _ pu_z30 0 0 rfl (fun k a b hk e => ?_) (fun k a b hk hk2 e => ?_)
  · obtain ⟨y, y1, y2, y3, y4, y5, y6⟩ := hw k hk
    have hu := pu_unreadM hR.1 y1
    unfold fx_unreadS fb_urS
    rw [y6, y2, tr_cl y1, e]
    by_cases c : μ 0 y = 0
    · rw [if_neg (fun d => (hu.mp d).1 c), if_pos c, Int32.add_zero]
    · by_cases c2 : μ 6 y = 0
      · rw [if_neg (fun d => (hu.mp d).2 c2), if_neg c, if_pos c2, Int32.add_zero]
      · rw [if_pos (hu.mpr ⟨c, c2⟩), if_neg c, if_neg c2]
  · unfold fx_unreadS
    rw [pu_idAt_no hG hj (by omega) hk, pu_unreadm1, if_neg Bool.false_ne_true]
    exact e
theorem pu_peopleK {σ μ : tg_Mem} (hR : pu_REL σ μ) (x : Int32) : pu_OK (fx_forest σ x) (tl_k (fx_forest σ x)) σ σ (fb_lkS μ x) (fx_people σ x) (if fb_lkB μ x = true then tg_it (fb_ppS ((fb_forest μ) 0) ((fb_forest μ) 5) ((fb_trR (fb_forest μ) x).2.1)) 0 (fb_n μ x) else 0) := by
  refine pu_qOK hR x (fun hB _ _ _ _ => ?_)
  obtain ⟨j, hj, rfl, hS, hG, hA, -, -, hz, hw⟩ := pu_tree hR hB
  rw [if_pos hB, hz, fb_fo0, fb_fo5]
  generalize (fb_trR (fb_forest μ) (nI j)).2.1 = ω at hw
  unfold fx_people
  refine pu_fold (fun _ (a b : Int32) => a = b) _ _ pu_z30 0 0 rfl (fun k a b hk e => ?_) (fun k a b hk hk2 e => ?_)
  · obtain ⟨y, y1, y2, y3, y4, y5, y6⟩ := hw k hk
    unfold fx_peopleS fb_ppS fa_writerBit
    rw [y6, y2, tr_cl y1, e]
    by_cases c : μ 0 y = 0
    · rw [if_neg (fun d => (pu_holdsM hR.1 y1).mp d c), if_pos c]
    · have h0 : σ 0 y ≠ 0 := fun d => c ((hR.1 y y1).1.mp d)
      rw [if_pos ((pu_holdsM hR.1 y1).mpr c), if_neg c, ((hR.1 y y1).2.2.2.2.2 h0).2.2.2.2.1]
  · unfold fx_peopleS fa_writerBit
    rw [pu_idAt_no hG hj (by omega) hk, pu_holdsm1, if_neg Bool.false_ne_true, Int32.or_zero]
    exact e
/-- every tree of the forest has a letter -/
theorem pu_hasL {σ μ : tg_Mem} (hM : pu_M σ μ) (hG : pu_G σ) (hA : pu_A σ μ) {x : Nat} (hx : x < 30) (hS : pu_S σ x) : ∃ y, y < 30 ∧ μ 0 y ≠ 0 ∧ pu_S σ y ∧ tr_lead (pu_u σ) y x := by
  by_cases h0 : μ 0 x = 0
  · obtain ⟨c, c1, c2, c3⟩ := pu_child2 hM hx h0 (fun d => hS ((hA.2.2 x hx).mpr d))
    have hu : pu_u σ c = some x := tr_up_i hx ((hA.2.1 c c1).trans c3)
    exact ⟨c, c1, c2, (hG.1.2.2 c x c1 hu).1, tr_lead_step hu⟩
  · exact ⟨x, hx, h0, hS, tr_lead_rf _ x⟩
theorem pu_latestK {σ μ : tg_Mem} (hR : pu_REL σ μ) (x : Int32) : pu_OK (fx_forest σ x) (tl_k (fx_forest σ x)) σ σ (fb_lkS μ x) (fx_latest σ x) (if fb_lkB μ x = true then tg_it (fb_laS ((fb_forest μ) 0) ((fb_forest μ) 4) ((fb_trR (fb_forest μ) x).2.1)) 0 (fb_n μ x) else 0) := by
  refine pu_qOK hR x (fun hB _ _ _ _ => ?_)
  obtain ⟨j, hj, rfl, hS, hG, hA, -, -, hz, hw⟩ := pu_tree hR hB
  rw [if_pos hB, hz, fb_fo0, fb_fo4]
  generalize (fb_trR (fb_forest μ) (nI j)).2.1 = ω at hw
  unfold fx_latest
  have h := pu_fold (m := pu_z σ j) (N := 30) (fun k (a b : Int32) => (a = b ∧ ¬ b < 0) ∨ (a = -1 ∧ b = 0 ∧ ∀ i y, i < k → ω i = nI y → y < 30 → μ 0 y = 0)) (fx_latestS σ (nI j)) (fb_laS (μ 0) (μ 4) ω) pu_z30 (-1) 0 (Or.inr ⟨rfl, rfl, fun i y hi => absurd hi (Nat.not_lt_zero i)⟩) (fun k a b hk e => ?_) (fun k a b hk hk2 e => ?_)
  · rcases h with h | ⟨-, -, h3⟩
    · exact h.1
    · exfalso
      obtain ⟨y, y1, y2, y3, y4⟩ := pu_hasL hR.1 hG hA hj hS
      obtain ⟨k, k1, k2⟩ := pu_Row_all hG hw y1 y3 y4
      exact y2 (h3 k y k1 k2 y1)
  · obtain ⟨y, y1, y2, y3, y4, y5, y6⟩ := hw k hk
    unfold fx_latestS fb_laS fa_dayOf
    rw [y6, y2, tr_cl y1]
    by_cases c : μ 0 y = 0
    · rw [if_neg (fun d => (pu_holdsM hR.1 y1).mp d c), if_pos c]
      rcases e with e | ⟨e1, e2, e3⟩
      · exact Or.inl e
      · refine Or.inr ⟨e1, e2, fun i z hi hz hz2 => ?_⟩
        by_cases ei : i = k
        · rw [ei, y2] at hz
          rw [← (tr_nI y1 hz2).mp hz]
          exact c
        · exact e3 i z (by omega) hz hz2
    · have h0 : σ 0 y ≠ 0 := fun d => c ((hR.1 y y1).1.mp d)
      obtain ⟨-, -, -, h5, -, -, ⟨d, hd, hd2⟩, -⟩ := (hR.1 y y1).2.2.2.2.2 h0
      have hd0 : ¬ nI d < 0 := nI_pos (Nat.lt_trans hd (by decide))
      rw [if_pos ((pu_holdsM hR.1 y1).mpr c), if_pos ((pu_holdsM hR.1 y1).mpr c), if_neg c, h5, hd2]
      rcases e with ⟨e1, e2⟩ | ⟨e1, e2, e3⟩
      · rw [e1]
        by_cases c2 : b < nI d
        · rw [if_pos c2, if_neg (Int32.not_le.mpr c2)]
          exact Or.inl ⟨rfl, hd0⟩
        · rw [if_neg c2, if_pos (Int32.not_lt.mp c2)]
          exact Or.inl ⟨rfl, e2⟩
      · rw [e1, e2]
        have h1 : (-1 : Int32) < nI d := by
          rw [Int32.lt_iff_toInt_lt] at hd0 ⊢
          have h2 : (0 : Int32).toInt = 0 := by decide
          have h3 : (-1 : Int32).toInt = -1 := by decide
          omega
        rw [if_pos h1]
        by_cases c2 : nI d ≤ 0
        · rw [if_pos c2]
          exact Or.inl ⟨Int32.le_antisymm c2 (Int32.not_lt.mp hd0), by decide⟩
        · rw [if_neg c2]
          exact Or.inl ⟨rfl, hd0⟩
  · unfold fx_latestS
    rw [pu_idAt_no hG hj (by omega) hk, pu_holdsm1, if_neg Bool.false_ne_true]
    exact e
