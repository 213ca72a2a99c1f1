/-! ===== 41: letter, delete, release, split: alike ===== -/
/-- what the law looks at behind a call: the thrown code, the answers, the states -/
def pu_OK (ex : Option String) (kk : Int32) (σ1 σ μ' : tg_Mem) (a b : Int32) : Prop := μ' 15 0 = kk ∧ (ex = none → a = b) ∧ pu_REL (tl_s ex σ1 σ) μ'
theorem pu_okN {ex : Option String} (he : ex = none) {kk a b : Int32} {σ1 σ μ' : tg_Mem} (h1 : μ' 15 0 = kk) (h2 : a = b) (h3 : pu_REL σ1 μ') : pu_OK ex kk σ1 σ μ' a b := by
  subst he; exact ⟨h1, fun _ => h2, h3⟩
theorem pu_okS {ex : Option String} {E : String} (he : ex = some E) {kk a b : Int32} {σ1 σ μ' : tg_Mem} (h1 : μ' 15 0 = kk) (h3 : pu_REL σ μ') : pu_OK ex kk σ1 σ μ' a b := by
  subst he; exact ⟨h1, fun c => (by cases c), h3⟩
theorem tl_k0 {ex : Option String} (h : tl_k ex = 0) : ex = none := by
  cases ex with
  | none => rfl
  | some E =>
    exfalso
    unfold tl_k at h
    dsimp only at h
    split at h
    · exact absurd h (by decide)
    · exact absurd h (by decide)
theorem tl_k10 {ex : Option String} (h : tl_k1 ex = 0) : ex = none := by
  cases ex with
  | none => rfl
  | some E => exact absurd h (by show ¬ (1 : Int32) = 0; decide)
theorem pu_letterK {σ μ : tg_Mem} (hR : pu_REL σ μ) (x g q sub d w0 : Int32) :
    (fb_okP (μ 0) x g q sub d w0 = true → fb_hyp (upd (μ 0) x.toNatClampNeg 1) (upd (μ 1) x.toNatClampNeg q) (upd (μ 2) x.toNatClampNeg g) (upd (μ 7) x.toNatClampNeg (-1)) (μ 8) (μ 9)) ∧
    pu_OK (fx_put σ x g q sub d w0) (tl_k (fx_put σ x g q sub d w0)) (fa_grow (fa_put σ x g q sub d w0)) σ (if fb_okP (μ 0) x g q sub d w0 = true then fb_forest (fb_put μ x g q sub d w0) else tg_upA μ 15 (fun _ => fb_thrP (μ 0) x g q sub d w0)) (fa_grow (fa_put σ x g q sub d w0) 20 0) (if fb_okP (μ 0) x g q sub d w0 = true then fb_rn (fb_forest (fb_put μ x g q sub d w0) 11) (fb_forest (fb_put μ x g q sub d w0) 10) else 0) := by
  obtain ⟨h1, h2, h3⟩ := pu_letter hR x g q sub d w0
  refine ⟨fun c => (h3 c).2.1, ?_⟩
  cases c : fb_okP (μ 0) x g q sub d w0 with
  | false =>
    obtain ⟨E, hE⟩ := h2 c
    rw [if_neg (by decide), if_neg (by decide), h1]
    exact pu_okS hE rfl (pu_RELc hR (fun a ha => tg_upA_n (by omega)))
  | true =>
    obtain ⟨e, -, h4, h5⟩ := h3 c
    rw [if_pos rfl, if_pos rfl]
    refine pu_okN e ?_ h4 h5
    rw [e]; rfl
/-! a letter that is there -/
theorem pu_isL {σ μ : tg_Mem} (hM : pu_M σ μ) (x : Int32) : tl_k (fx_letter σ x) = fb_thrL (μ 0) x ∧ (fb_isL (μ 0) x = false → ∃ E, fx_letter σ x = some E) ∧ (fb_isL (μ 0) x = true → fx_letter σ x = none ∧ ∃ j, j < 30 ∧ x = nI j ∧ σ 0 j ≠ 0 ∧ μ 0 j ≠ 0) := by
  unfold fx_letter fb_thrL fb_isL
  rw [pu_fxid]
  cases hi : fb_in x 0 29 with
  | false =>
    rw [if_neg Bool.false_ne_true, if_neg Bool.false_ne_true]
    exact ⟨tl_kI0, fun _ => ⟨_, rfl⟩, fun c => by cases c⟩
  | true =>
    rw [if_pos rfl, if_pos rfl]
    obtain ⟨j, hj, rfl⟩ := pu_inN (n := 29) (by decide) hi
    have hj : j < 30 := by omega
    have hh : fa_holds σ (nI j) = true ↔ μ 0 j ≠ 0 := (pu_holds hj).trans (not_congr (hM j hj).1)
    rw [tr_cl hj]
    by_cases c : μ 0 j = 0
    · rw [if_neg (fun d => hh.mp d c), if_pos c, decide_eq_true c]
      exact ⟨tl_kJ0, fun _ => ⟨_, rfl⟩, fun d => by cases d⟩
    · rw [if_pos (hh.mpr c), if_neg c, decide_eq_false c]
      exact ⟨rfl, fun d => (by cases d), fun _ => ⟨rfl, j, hj, rfl, fun d => c ((hM j hj).1.mp d), c⟩⟩
theorem pu_handM {σ μ μ' : tg_Mem} (hM : pu_M σ μ) {j : Nat} (hj : j < 30) (h0 : σ 0 j ≠ 0) {v : Int32} (hv : pu_v v ∨ v = -2) (h : ∀ a, a < 7 → μ' a = μ a) (h7 : μ' 7 = upd (μ 7) j v) : pu_M (fa_setHand σ (nI j) v) μ' := by
  unfold fa_setHand
  rw [if_pos ((pu_holds hj).mpr h0), tr_cl hj]
  refine pu_Mset hM (j := j) (fun a ha i hi => ?_) (fun a ha i hi => ?_) (fun _ => ?_)
  · by_cases e : a = 8
    · subst e; rw [pu_set_s, pu_upd_o hi]
    · rw [pu_set_o e]
  · by_cases e : a = 7
    · subst e; rw [h7, pu_upd_o hi]
    · rw [h a (by omega)]
  · have hm := hM j hj
    unfold pu_M1
    rw [h 0 (by decide), h 1 (by decide), h 2 (by decide), h 3 (by decide), h 4 (by decide), h 5 (by decide), h 6 (by decide), h7, pu_set_s, pu_set_o (by decide), pu_set_o (by decide), pu_set_o (by decide), pu_set_o (by decide), pu_set_o (by decide), pu_set_o (by decide), pu_set_o (by decide), pu_set_o (by decide), pu_upd_s, pu_upd_s]
    obtain ⟨m1, m2, m3, m4, m5, m6⟩ := hm
    refine ⟨m1, m2, m3, hv, fun c => absurd (m1.mpr c) h0, fun c => ?_⟩
    obtain ⟨n1, n2, n3, n4⟩ := m6 c
    exact ⟨n1, n2, rfl, n4⟩
theorem pu_delM {σ μ : tg_Mem} (hM : pu_M σ μ) {j : Nat} (hj : j < 30) : pu_M (fa_drop σ (nI j)) (fb_del μ (nI j)) := by
  unfold fa_drop
  rw [if_pos (fa_id_nI hj), tr_cl hj]
  have m0 : fb_del μ (nI j) 0 = upd (μ 0) j 0 := (show _ = upd (μ 0) (nI j).toNatClampNeg 0 from rfl).trans (by rw [tr_cl hj])
  have m7 : fb_del μ (nI j) 7 = upd (μ 7) j (-1) := (show _ = upd (μ 7) (nI j).toNatClampNeg (-1) from rfl).trans (by rw [tr_cl hj])
  have mo : ∀ a, a < 8 → a ≠ 0 → a ≠ 7 → fb_del μ (nI j) a = μ a := fun a ha h0 h7 => by
    unfold fb_del
    rw [tg_upA_n (by omega), tg_upA_n h7, tg_upA_n h0]
  refine pu_Mset hM (j := j) (fun a ha i hi => ?_) (fun a ha i hi => ?_) (fun _ => ?_)
  · by_cases e : a = 0
    · subst e; rw [pu_set_s, pu_upd_o hi]
    · rw [pu_set_o e]
  · by_cases e : a = 0
    · subst e; rw [m0, pu_upd_o hi]
    · by_cases e7 : a = 7
      · subst e7; rw [m7, pu_upd_o hi]
      · rw [mo a ha e e7]
  · have hm := hM j hj
    unfold pu_M1
    rw [m0, m7, mo 1 (by decide) (by decide) (by decide), mo 2 (by decide) (by decide) (by decide), pu_set_s, pu_upd_s, pu_upd_s, pu_upd_s]
    exact ⟨Iff.rfl, hm.2.1, hm.2.2.1, Or.inl (Or.inl rfl), fun _ => rfl, fun c => absurd rfl c⟩
theorem pu_deleteK {σ μ : tg_Mem} (hR : pu_REL σ μ) (x : Int32) :
    (fb_isL (μ 0) x = true → fb_hyp (upd (μ 0) x.toNatClampNeg 0) (μ 1) (μ 2) (upd (μ 7) x.toNatClampNeg (-1)) (μ 8) (μ 9)) ∧
    pu_OK (fx_letter σ x) (tl_k (fx_letter σ x)) (fa_grow (fa_drop σ x)) σ (if fb_isL (μ 0) x = true then fb_forest (fb_del μ x) else fb_thS μ x) (fa_grow (fa_drop σ x) 20 0) (if fb_isL (μ 0) x = true then fb_rn (fb_forest (fb_del μ x) 11) (fb_forest (fb_del μ x) 10) else 0) := by
  obtain ⟨h1, h2, h3⟩ := pu_isL hR.1 x
  constructor
  · intro c
    obtain ⟨-, j, hj, rfl, -⟩ := h3 c
    exact pu_hyp (pu_delM hR.1 hj)
  · rw [h1]
    cases c : fb_isL (μ 0) x with
    | false =>
      obtain ⟨E, hE⟩ := h2 c
      rw [if_neg (by decide), if_neg (by decide)]
      exact pu_okS hE rfl (pu_RELc hR (fun a ha => tg_upA_n (by omega)))
    | true =>
      obtain ⟨e, j, hj, rfl, -⟩ := h3 c
      have hM := pu_delM hR.1 hj
      rw [if_pos rfl, if_pos rfl]
      exact pu_okN e rfl (pu_rootsG (pu_grown hM).1 (pu_grown hM).2.1) (pu_regrow hM (fun a ha => fb_fo _ ha))
theorem pu_releaseK {σ μ : tg_Mem} (hR : pu_REL σ μ) (x : Int32) :
    pu_OK (fx_letter σ x) (tl_k (fx_letter σ x)) (fa_grow (fa_setHand σ x (-1))) σ (if fb_isL (μ 0) x = true then fb_rel μ x else fb_thS μ x) (tg_b (fx_touched σ x)) (tg_b (fb_isL (μ 0) x && !(decide (μ 7 x.toNatClampNeg = -1)))) := by
  obtain ⟨h1, h2, h3⟩ := pu_isL hR.1 x
  rw [h1]
  cases c : fb_isL (μ 0) x with
  | false =>
    obtain ⟨E, hE⟩ := h2 c
    rw [if_neg (by decide)]
    exact pu_okS hE rfl (pu_RELc hR (fun a ha => tg_upA_n (by omega)))
  | true =>
    obtain ⟨e, j, hj, rfl, j0, -⟩ := h3 c
    rw [if_pos rfl]
    refine pu_okN e rfl ?_ ?_
    · unfold fx_touched
      rw [(pu_told hj).2.2, if_pos j0, tr_cl hj, ((hR.1 j hj).2.2.2.2.2 j0).2.2.1]
      by_cases d : μ 7 j = -1
      · rw [if_pos d, decide_eq_true d]; rfl
      · rw [if_neg d, decide_eq_false d]; rfl
    · refine pu_regrow (pu_handM hR.1 hj j0 (v := -1) (μ' := fb_rel μ (nI j)) (Or.inl (Or.inl rfl)) (fun a ha => ?_) ?_) (fun _ _ => rfl)
      · unfold fb_rel
        rw [tg_upA_n (by omega), tg_upA_n (by omega)]
      · exact (show _ = upd (μ 7) (nI j).toNatClampNeg (-1) from rfl).trans (by rw [tr_cl hj])
theorem pu_lG {σ μ : tg_Mem} (hR : pu_REL σ μ) {j : Nat} (hj : j < 30) (h : σ 0 j ≠ 0) : pu_G σ ∧ pu_A σ μ ∧ pu_S σ j := by
  obtain ⟨hG, hA⟩ := hR.2.resolve_left (fun c => h (c.1 j hj).1)
  exact ⟨hG, hA, fun c => pu_gam j hj (fun d => h ((hR.1 j hj).1.mpr d)) ((hA.2.2 j hj).mp c)⟩
theorem pu_splitK {σ μ : tg_Mem} (hR : pu_REL σ μ) (x : Int32) :
    (fb_isL (μ 0) x = true → fb_hyp (μ 0) (μ 1) (μ 2) (μ 7) (μ 8) (μ 9)) ∧
    pu_OK (fx_letter σ x) (tl_k (fx_letter σ x)) (fa_grow (fa_setHand σ x (-2))) σ (if fb_isL (μ 0) x = true then fb_spl μ x else fb_thS μ x) (fa_par σ x) (if fb_isL (μ 0) x = true then fb_forest (fb_thS μ x) 10 x.toNatClampNeg else 0) := by
  obtain ⟨h1, h2, h3⟩ := pu_isL hR.1 x
  refine ⟨fun _ => pu_hyp hR.1, ?_⟩
  rw [h1]
  cases c : fb_isL (μ 0) x with
  | false =>
    obtain ⟨E, hE⟩ := h2 c
    rw [if_neg (by decide), if_neg (by decide)]
    exact pu_okS hE rfl (pu_RELc hR (fun a ha => tg_upA_n (by omega)))
  | true =>
    obtain ⟨e, j, hj, rfl, j0, -⟩ := h3 c
    rw [if_pos rfl, if_pos rfl]
    obtain ⟨hG, hA, -⟩ := pu_lG hR hj j0
    refine pu_okN e rfl ?_ ?_
    · rw [pu_parE hG.1 hj, tr_cl hj, hA.2.1 j hj, fb_fo10]
      exact ((pu_scr hR.1 (μ' := fb_thS μ (nI j)) (fun a ha => tg_upA_n (by omega)) j hj).2.1).symm
    · refine pu_regrow (pu_handM hR.1 hj j0 (v := -2) (μ' := fb_spl μ (nI j)) (Or.inr rfl) (fun a ha => ?_) ?_) (fun _ _ => rfl)
      · unfold fb_spl
        rw [tg_upA_n (by omega), fb_fo _ (by omega)]
        exact tg_upA_n (by omega)
      · exact (show _ = upd (μ 7) (nI j).toNatClampNeg (-2) from rfl).trans (by rw [tr_cl hj])
