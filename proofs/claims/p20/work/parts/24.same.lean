/-! ===== 24: two states of the class of the same letters answer alike ===== -/
theorem sm_vk {ex ex' : Option String} {a a' : Int32} (h : tl_k ex = tl_k ex') (h2 : ex = none → ex' = none → a = a') : vl_k ex a = vl_k ex' a' := by
  cases ex with
  | none =>
    have e : ex' = none := tl_k0 h.symm
    subst e
    exact h2 rfl rfl
  | some E =>
    cases ex' with
    | none => exact absurd (tl_k0 (ex := some E) h) (by simp)
    | some E' => rfl
theorem sm_vk1 {ex ex' : Option String} {a a' : Int32} (h : tl_k1 ex = tl_k1 ex') (h2 : ex = none → ex' = none → a = a') : vl_k ex a = vl_k ex' a' := by
  cases ex with
  | none =>
    have e : ex' = none := tl_k10 h.symm
    subst e
    exact h2 rfl rfl
  | some E =>
    cases ex' with
    | none => exact absurd (tl_k10 (ex := some E) h) (by simp)
    | some E' => rfl
/-- of the same letters -/
def sm (σ τ : tg_Mem) : Prop := ∃ μ, pu_REL σ μ ∧ pu_REL τ μ
theorem sm_OK {ex ex' : Option String} {a a' b : Int32} {σ σ1 τ τ1 μ' : tg_Mem} (h1 : pu_OK ex (tl_k ex) σ1 σ μ' a b) (h2 : pu_OK ex' (tl_k ex') τ1 τ μ' a' b) : vl_k ex a = vl_k ex' a' ∧ sm (tl_s ex σ1 σ) (tl_s ex' τ1 τ) :=
  ⟨sm_vk (h1.1.symm.trans h2.1) (fun e e' => (h1.2.1 e).trans (h2.2.1 e').symm), μ', h1.2.2, h2.2.2⟩
section SM
variable {σ τ : tg_Mem} (h : sm σ τ)
theorem sm_come (h : sm σ τ) (x g q sub d w0 : Int32) : vl_k (fx_put σ x g q sub d w0) (fa_grow (fa_put σ x g q sub d w0) 20 0) = vl_k (fx_put τ x g q sub d w0) (fa_grow (fa_put τ x g q sub d w0) 20 0) ∧ sm (tl_s (fx_put σ x g q sub d w0) (fa_grow (fa_put σ x g q sub d w0)) σ) (tl_s (fx_put τ x g q sub d w0) (fa_grow (fa_put τ x g q sub d w0)) τ) := by
  obtain ⟨μ, h1, h2⟩ := h
  exact sm_OK (pu_letterK h1 x g q sub d w0).2 (pu_letterK h2 x g q sub d w0).2
theorem sm_del (h : sm σ τ) (x : Int32) : vl_k (fx_letter σ x) (fa_grow (fa_drop σ x) 20 0) = vl_k (fx_letter τ x) (fa_grow (fa_drop τ x) 20 0) ∧ sm (tl_s (fx_letter σ x) (fa_grow (fa_drop σ x)) σ) (tl_s (fx_letter τ x) (fa_grow (fa_drop τ x)) τ) := by
  obtain ⟨μ, h1, h2⟩ := h
  exact sm_OK (pu_deleteK h1 x).2 (pu_deleteK h2 x).2
theorem sm_spl (h : sm σ τ) (x : Int32) : vl_k (fx_letter σ x) (fa_par σ x) = vl_k (fx_letter τ x) (fa_par τ x) ∧ sm (tl_s (fx_letter σ x) (fa_grow (fa_setHand σ x (-2))) σ) (tl_s (fx_letter τ x) (fa_grow (fa_setHand τ x (-2))) τ) := by
  obtain ⟨μ, h1, h2⟩ := h
  exact sm_OK (pu_splitK h1 x).2 (pu_splitK h2 x).2
theorem sm_rel (h : sm σ τ) (x : Int32) : vl_k (fx_letter σ x) (tg_b (fx_touched σ x)) = vl_k (fx_letter τ x) (tg_b (fx_touched τ x)) ∧ sm (tl_s (fx_letter σ x) (fa_grow (fa_setHand σ x (-1))) σ) (tl_s (fx_letter τ x) (fa_grow (fa_setHand τ x (-1))) τ) := by
  obtain ⟨μ, h1, h2⟩ := h
  exact sm_OK (pu_releaseK h1 x) (pu_releaseK h2 x)
theorem sm_join (h : sm σ τ) (x y : Int32) : vl_k (fx_join σ x y) (fa_par (fa_grow (fa_setHand σ x y)) x) = vl_k (fx_join τ x y) (fa_par (fa_grow (fa_setHand τ x y)) x) ∧ sm (tl_s (fx_join σ x y) (fa_grow (fa_setHand σ x y)) σ) (tl_s (fx_join τ x y) (fa_grow (fa_setHand τ x y)) τ) := by
  obtain ⟨μ, h1, h2⟩ := h
  exact sm_OK (pu_joinK h1 x y).2.2.2 (pu_joinK h2 x y).2.2.2
theorem sm_par (h : sm σ τ) (x : Int32) : vl_k (fx_forest σ x) (fa_par σ x) = vl_k (fx_forest τ x) (fa_par τ x) := by
  obtain ⟨μ, h1, h2⟩ := h
  exact (sm_OK (pu_parentK h1 x) (pu_parentK h2 x)).1
theorem sm_let (h : sm σ τ) (x : Int32) : vl_k (fx_forest σ x) (fx_letters σ x) = vl_k (fx_forest τ x) (fx_letters τ x) := by
  obtain ⟨μ, h1, h2⟩ := h
  exact (sm_OK (pu_lettersK h1 x) (pu_lettersK h2 x)).1
theorem sm_peo (h : sm σ τ) (x : Int32) : vl_k (fx_forest σ x) (fx_people σ x) = vl_k (fx_forest τ x) (fx_people τ x) := by
  obtain ⟨μ, h1, h2⟩ := h
  exact (sm_OK (pu_peopleK h1 x) (pu_peopleK h2 x)).1
theorem sm_lat (h : sm σ τ) (x : Int32) : vl_k (fx_forest σ x) (fx_latest σ x) = vl_k (fx_forest τ x) (fx_latest τ x) := by
  obtain ⟨μ, h1, h2⟩ := h
  exact (sm_OK (pu_latestK h1 x) (pu_latestK h2 x)).1
theorem sm_inT (h : sm σ τ) (x y : Int32) : vl_k (fx_inTree σ x y) (fa_idAt σ x y) = vl_k (fx_inTree τ x y) (fa_idAt τ x y) := by
  obtain ⟨μ, h1, h2⟩ := h
  exact (sm_OK (pu_inTreeK h1 x y) (pu_inTreeK h2 x y)).1
theorem sm_root (h : sm σ τ) (y : Int32) : vl_k (fx_root σ y) (fa_rootAt σ y) = vl_k (fx_root τ y) (fa_rootAt τ y) := by
  obtain ⟨μ, h1, h2⟩ := h
  have k1 := pu_rootK h1 y
  have k2 := pu_rootK h2 y
  exact sm_vk1 (k1.1.symm.trans k2.1) (fun e e' => (k1.2.1 e).trans (k2.2.1 e').symm)
theorem sm_roots (h : sm σ τ) : σ 20 0 = τ 20 0 ∧ ∃ r, r ≤ 30 ∧ σ 20 0 = nI r := by
  obtain ⟨μ, h1, h2⟩ := h
  have e1 := (pu_A1 h1).2.2
  have e2 := (pu_A1 h2).2.2
  refine ⟨e1.trans e2.symm, ?_⟩
  rw [e1, pu_rn]
  exact ⟨_, pu_n_top 30, rfl⟩
end SM
/-- the same state, told by other letters of the reference's -/
theorem sm_swap {σ μ μ' : tg_Mem} (hM : pu_M σ μ') (hR : pu_REL σ μ) : pu_REL σ μ' := by
  obtain ⟨hM0, h⟩ := hR
  refine ⟨hM, h.imp id (fun ⟨hG, hA⟩ => ⟨hG, ?_⟩)⟩
  obtain ⟨-, a9, a11, a12⟩ := pu_hang hM0
  obtain ⟨-, b9, b11, b12⟩ := pu_hang hM
  exact ⟨fun j hj => (hA.1 j hj).trans ((a9 j hj).symm.trans (b9 j hj)), fun j hj => (hA.2.1 j hj).trans ((a11 j hj).symm.trans (b11 j hj)), fun j hj => (hA.2.2 j hj).trans ((a12 j hj).symm.trans (b12 j hj))⟩
theorem sm_of {σ τ μ ν : tg_Mem} (h1 : pu_REL σ μ) (h2 : pu_REL τ ν) (he : ∀ i, i < 30 → (τ 0 i = 0 ↔ σ 0 i = 0) ∧ (τ 0 i ≠ 0 → ∀ a, a < 9 → τ a i = σ a i)) : sm σ τ := by
  refine ⟨μ, h1, sm_swap (fun i hi => ?_) h2⟩
  obtain ⟨e0, e⟩ := he i hi
  obtain ⟨m0, m1, m2, m3, m4, m5⟩ := h1.1 i hi
  refine ⟨e0.trans m0, m1, m2, m3, m4, fun c => ?_⟩
  have r := e c
  rw [r 1 (by decide), r 2 (by decide), r 3 (by decide), r 4 (by decide), r 5 (by decide), r 6 (by decide), r 7 (by decide), r 8 (by decide)]
  exact m5 (fun q => c (e0.mpr q))
/-! letters by a drawn number -/
def zp (n : Nat) : Int32 := if n % 4 = 0 then -1 else nI (n / 4 % 16)
def zg (n : Nat) : Int32 := if zp n = -1 then -1 else if n / 64 % 2 = 0 then -1 else nI (n / 128 % 16)
def zs (n : Nat) : Int32 := nI (n / 2048 % 2 * 10 + n / 4096 % 2)
def zd (n : Nat) : Int32 := nI (n / 8192 % 50)
def zw (n : Nat) : Int32 := nI (n / 11 % 10)
abbrev zput (σ : tg_Mem) (x : Int32) (n : Nat) : tg_Mem := fa_put σ x (zg n) (zp n) (zs n) (zd n) (zw n)
abbrev zex (σ : tg_Mem) (x : Int32) (n : Nat) : Option String := fx_put σ x (zg n) (zp n) (zs n) (zd n) (zw n)
theorem zin0 {j : Nat} {hi : Int32} {m : Nat} (hm : hi.toInt = m) (hj : j ≤ m) (h31 : j < 2 ^ 31) : fb_in (nI j) 0 hi = true := by
  rw [pu_int, nI_toInt h31]
  have : (0 : Int32).toInt = 0 := by decide
  omega
theorem zin1 {j : Nat} (hj : j < 30) : fb_in (nI j) (-1) 29 = true := by
  rw [pu_int, nI_toInt (by omega)]
  have h1 : (-1 : Int32).toInt = -1 := by decide
  have h2 : (29 : Int32).toInt = 29 := by decide
  omega
theorem zright {x n : Nat} (hx : x < 30) : fb_right (nI x) (zg n) (zp n) (zs n) (zd n) (zw n) = true := by
  have hp : fb_in (zp n) (-1) 29 = true := by
    unfold zp
    split
    · decide
    · exact zin1 (by omega)
  have hg : fb_in (zg n) (-1) 29 = true := by
    unfold zg
    split
    · decide
    · split
      · decide
      · exact zin1 (by omega)
  have hgp : (!(decide (zp n = -1)) || decide (zg n = -1)) = true := by
    by_cases c : zp n = -1
    · have : zg n = -1 := by unfold zg; rw [if_pos c]
      simp [this]
    · simp [c]
  unfold fb_right
  rw [zin0 (m := 29) (by decide) (by omega) (by omega), hg, hp, show fb_in (zs n) 0 19 = true from zin0 (m := 19) (by decide) (by omega) (by omega), show fb_in (zd n) 0 999 = true from zin0 (m := 999) (by decide) (by omega) (by omega), show fb_in (zw n) 0 9 = true from zin0 (m := 9) (by decide) (by omega) (by omega), hgp]
  rfl
theorem zneg {σ μ : tg_Mem} (hG : pu_G σ) : ¬ σ 20 0 < 0 := by
  rw [hG.2.2.2.2.1]
  have := pu_n_top (P := pu_rt σ) 30
  exact nI_pos (by omega)
/-- the rows of such a letter -/
def zr (x n a : Nat) : Int32 := zput (fun _ _ => 0) (nI x) n a x
theorem zr_put {σ : tg_Mem} {x n a i : Nat} (hx : x < 30) (ha : a < 9) : zput σ (nI x) n a i = if i = x then zr x n a else σ a i := by
  unfold zr zput fa_put
  rw [if_pos (fa_id_nI hx), if_pos (fa_id_nI hx), tr_cl hx]
  by_cases hs : zs n < 10
  · rw [if_pos hs, if_pos hs]
    rcases (show a = 0 ∨ a = 1 ∨ a = 2 ∨ a = 3 ∨ a = 4 ∨ a = 5 ∨ a = 6 ∨ a = 7 ∨ a = 8 by omega) with rfl | rfl | rfl | rfl | rfl | rfl | rfl | rfl | rfl <;> by_cases e : i = x <;> simp [tg_set, upd, e]
  · rw [if_neg hs, if_neg hs]
    rcases (show a = 0 ∨ a = 1 ∨ a = 2 ∨ a = 3 ∨ a = 4 ∨ a = 5 ∨ a = 6 ∨ a = 7 ∨ a = 8 by omega) with rfl | rfl | rfl | rfl | rfl | rfl | rfl | rfl | rfl <;> by_cases e : i = x <;> simp [tg_set, upd, e]
theorem zr0 {x n : Nat} (hx : x < 30) : zr x n 0 ≠ 0 := by
  unfold zr zput fa_put
  rw [if_pos (fa_id_nI hx), tr_cl hx]
  split <;> simp [tg_set, upd]
def zL (σ : tg_Mem) (x n : Nat) : Prop := ∀ a, a < 9 → σ a x = zr x n a
theorem zheld {σ : tg_Mem} {x : Nat} (hx : x < 30) (h : σ 0 x = 0) : ¬ fa_holds σ (nI x) = true := fun c => (pu_holds hx).mp c h
/-- a letter comes to an id that is free -/
theorem zcome {σ μ : tg_Mem} (hR : pu_REL σ μ) {x n : Nat} (hx : x < 30) (h0 : σ 0 x = 0) : zex σ (nI x) n = none ∧ ¬ fa_grow (zput σ (nI x) n) 20 0 < 0 ∧ (∃ μ', pu_REL (fa_grow (zput σ (nI x) n)) μ') ∧ ∀ a, a < 9 → ∀ i, fa_grow (zput σ (nI x) n) a i = if i = x then zr x n a else σ a i := by
  have hr := zright (n := n) hx
  have hM := pu_putM hR.1 hr
  have hG := (pu_grown hM).1
  have he : zex σ (nI x) n = none := by
    unfold zex
    rw [pu_fxput, if_pos hr, if_neg (zheld hx h0)]
  refine ⟨he, zneg (μ := μ) hG, ⟨_, pu_regrow hM (fun _ _ => rfl)⟩, fun a ha i => ?_⟩
  rw [vq_low ha]
  exact zr_put hx ha
/-- a letter that is there is deleted -/
theorem zdel {σ μ : tg_Mem} (hR : pu_REL σ μ) {x : Nat} (hx : x < 30) (h0 : σ 0 x ≠ 0) : fx_letter σ (nI x) = none ∧ ¬ fa_grow (fa_drop σ (nI x)) 20 0 < 0 ∧ (∃ μ', pu_REL (fa_grow (fa_drop σ (nI x))) μ') ∧ fa_grow (fa_drop σ (nI x)) 0 x = 0 ∧ ∀ a, a < 9 → ∀ i, i ≠ x → fa_grow (fa_drop σ (nI x)) a i = σ a i := by
  have hM := pu_delM hR.1 hx
  have hG := (pu_grown hM).1
  have hid : fx_id (nI x) = none := by unfold fx_id; rw [if_pos (fa_id_nI hx)]
  have he : fx_letter σ (nI x) = none := by
    unfold fx_letter
    rw [hid, if_pos ((pu_holds hx).mpr h0)]
    rfl
  have hd : fa_drop σ (nI x) = tg_set σ 0 x 0 := by
    unfold fa_drop
    rw [if_pos (fa_id_nI hx), tr_cl hx]
  refine ⟨he, zneg (μ := μ) hG, ⟨_, pu_regrow hM (fun _ _ => rfl)⟩, ?_, fun a ha i hi => ?_⟩
  · rw [vq_low (by decide), hd, pu_set_s, pu_upd_s]
  · rw [vq_low ha, hd]
    by_cases c : a = 0
    · subst c; rw [pu_set_s, pu_upd_o hi]
    · rw [pu_set_o c]
theorem zidn {x : Nat} (hx : x < 30) : fx_id (nI x) = none := by unfold fx_id; rw [if_pos (fa_id_nI hx)]
theorem zst {σ : tg_Mem} {x : Nat} (hx : x < 30) : (σ 0 x ≠ 0 → fx_state σ (nI x) = 3) ∧ (σ 0 x = 0 → fx_state σ (nI x) < 3 ∧ fx_state σ (nI x) ≠ 3) := by
  constructor
  · intro h
    unfold fx_state
    rw [if_pos ((pu_holds hx).mpr h)]
  · intro h
    unfold fx_state
    rw [if_neg (zheld hx h)]
    split
    · decide
    · split <;> decide
