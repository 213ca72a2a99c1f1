/-! ===== 05: the reference: what its methods answer (a text beside its own) ===== -/
def fb_in (x lo hi : Int32) : Bool := !(decide (x < lo)) && !(decide (hi < x))
def fb_k1 (i : Nat) (κ : tb_A) : tb_A := upd κ i 0
def fb_kT (tl : tb_A) (i : Nat) (κ : tb_A) : tb_A := if tl i = -1 then κ else upd κ (tl i).toNatClampNeg 1
def fb_kH (hd : tb_A) (i : Nat) (κ : tb_A) : tb_A := if hd i < 0 then κ else upd κ (hd i).toNatClampNeg 1
def fb_k2 (th tl by' hd : tb_A) (i : Nat) (κ : tb_A) : tb_A := if th i = 0 then κ else fb_kH hd i (fb_kT by' i (fb_kT tl i (upd κ i 1)))
def fb_known (th tl by' hd κ : tb_A) : tb_A := tg_it (fb_k2 th tl by' hd) (tg_it fb_k1 κ 30) 30
def fb_fnd (th tl by' : tb_A) (x : Int32) : Nat → Nat → Unit → Int32
  | 0, _, _ => -1
  | n + 1, i, u => if th i = 0 then fb_fnd th tl by' x n (i + 1) u else if tl i = x then (if by' i = -1 then fb_fnd th tl by' x n (i + 1) u else by' i) else fb_fnd th tl by' x n (i + 1) u
def fb_guess (th tl by' : tb_A) (x : Int32) : Int32 := fb_fnd th tl by' x 30 0 ()
def fb_told (th tl by' hd : tb_A) (x : Int32) : Int32 := if th x.toNatClampNeg = 0 then fb_guess th tl by' x else if hd x.toNatClampNeg = -2 then -1 else if hd x.toNatClampNeg = -1 then tl x.toNatClampNeg else hd x.toNatClampNeg
def fb_belF (lk : tb_A) (y : Int32) : Nat → Int32 → Option Bool
  | 0, _ => none
  | n + 1, a => if a = -1 then some (decide (a = y)) else if a = y then some true else if fa_id a = true then fb_belF lk y n (lk a.toNatClampNeg) else none
def fb_bel (lk : tb_A) (a y : Int32) : Bool := (fb_belF lk y 31 a).getD false
def fb_toldK (th tl by' hd κ : tb_A) (i : Nat) : Int32 := if κ i = 0 then -1 else fb_told th tl by' hd (nI i)
def fb_l1 (i : Nat) (lk : tb_A) : tb_A := upd lk i (-1)
def fb_l2 (th tl by' hd κ : tb_A) (i : Nat) (lk : tb_A) : tb_A := upd lk i (if fb_toldK th tl by' hd κ i = -1 then -1 else if fb_bel lk (fb_toldK th tl by' hd κ i) (nI i) = true then -1 else fb_toldK th tl by' hd κ i)
def fb_link (th tl by' hd κ lk : tb_A) : tb_A := tg_it (fb_l2 th tl by' hd κ) (tg_it fb_l1 lk 30) 30
def fb_abvF (th lk : tb_A) : Nat → Int32 → Option Int32
  | 0, _ => none
  | n + 1, a => if a = -1 then some (-1) else if fa_id a = true then (if th a.toNatClampNeg = 0 then (if lk a.toNatClampNeg = -1 then some a else fb_abvF th lk n (lk a.toNatClampNeg)) else some a) else none
def fb_abv (th lk : tb_A) (a : Int32) : Int32 := (fb_abvF th lk 31 a).getD (-1)
def fb_a0 (th lk : tb_A) (k : Nat) (α : tb_A) : tb_A := upd α k (fb_abv th lk (if th k = 0 then -1 else lk k))
def fb_cnt (α : tb_A) (x : Int32) (i : Nat) (q : Int32 × Int32) : Int32 × Int32 := (q.1 + (if α i = x then 1 else 0), if α i = x then nI i else q.2)
def fb_bN (α : tb_A) (x : Int32) : Int32 × Int32 := tg_it (fb_cnt α x) (0, -1) 30
def fb_b (th : tb_A) (i : Nat) (q : tb_A × tb_A) : tb_A × tb_A :=
  (if th i = 0 then (if (fb_bN q.1 (nI i)).1 = 1 then upd q.1 (fb_bN q.1 (nI i)).2.toNatClampNeg (-1) else q.1) else q.1,
   upd q.2 i (tg_b (!(decide (th i = 0)) || !(decide ((fb_bN q.1 (nI i)).1 ≤ 1)))))
def fb_alone (th α : tb_A) (x : Int32) : Bool := !(decide (th x.toNatClampNeg = 0)) && decide (α x.toNatClampNeg = -1)
def fb_can (th α sb dy : tb_A) (k j : Nat) : Bool := fb_alone th α (nI j) && (decide (sb j = sb k - 10) && (!(decide (dy k < dy j)) && !(decide (14 < dy k - dy j))))
def fb_c2 (th α sb dy : tb_A) (k j : Nat) (b : Int32) : Int32 := if fb_can th α sb dy k j = true then (if b = -1 then nI j else if dy j ≤ dy b.toNatClampNeg then b else nI j) else b
def fb_c (th α sb dy hd : tb_A) (k : Nat) (ω : tb_A) : tb_A := upd ω k (if fb_alone th α (nI k) = true then (if sb k < 10 then -1 else if hd k = -2 then -1 else tg_it (fb_c2 th α sb dy k) (-1) 30) else -1)
def fb_d (ω : tb_A) (i : Nat) (α : tb_A) : tb_A := upd α i (if ω i = -1 then α i else ω i)
/-! the forest made anew: known, linked, above, grows, order -/
def fb_K (μ : tg_Mem) : tb_A := fb_known (μ 0) (μ 1) (μ 2) (μ 7) (μ 8)
def fb_L (μ : tg_Mem) : tb_A := fb_link (μ 0) (μ 1) (μ 2) (μ 7) (fb_K μ) (μ 9)
def fb_A0 (μ : tg_Mem) : tb_A := tg_it (fb_a0 (μ 0) (fb_L μ)) (μ 10) 30
def fb_AG (μ : tg_Mem) : tb_A × tb_A := tg_it (fb_b (μ 0)) (fb_A0 μ, μ 11) 30
def fb_O (μ : tg_Mem) : tb_A := tg_it (fb_c (μ 0) (fb_AG μ).1 (μ 3) (μ 4) (μ 7)) (μ 12) 30
def fb_A2 (μ : tg_Mem) : tb_A := tg_it (fb_d (fb_O μ)) (fb_AG μ).1 30
def fb_forest (μ : tg_Mem) : tg_Mem := tg_upA (tg_upA (tg_upA (tg_upA (tg_upA μ 8 (fb_K μ)) 9 (fb_L μ)) 10 (fb_A2 μ)) 11 (fb_AG μ).2) 12 (fb_O μ)
/-! trees -/
def fb_ahead (dy : tb_A) (x y : Int32) : Bool := decide (dy x.toNatClampNeg < dy y.toNatClampNeg) || (decide (dy x.toNatClampNeg = dy y.toNatClampNeg) && !(decide (y ≤ x)))
def fb_bs (α dy : tb_A) (its later : Int32) (k : Nat) (b : Int32) : Int32 := if α k = its then (if later = -1 ∨ fb_ahead dy (nI k) later = true then (if b = -1 then nI k else if fb_ahead dy b (nI k) = true then nI k else b) else b) else b
def fb_sel (α dy : tb_A) (its later : Int32) : Int32 := tg_it (fb_bs α dy its later) (-1) 30
def fb_tnF (α dy : tb_A) (its : Int32) : Nat → Nat → Int32 × tb_A × Int32 → Option (Int32 × tb_A)
  | 0, _, q => some (q.1, q.2.1)
  | n + 1, i, q => if q.2.2 = -1 ∨ fa_id q.2.2 = true then (if fb_sel α dy its q.2.2 = -1 then some (q.1, q.2.1) else if fb_in (q.1 + 1) 0 59 = true then fb_tnF α dy its n (i + 1) (q.1 + 1, upd q.2.1 (q.1 + 1).toNatClampNeg (fb_sel α dy its q.2.2), fb_sel α dy its q.2.2) else none) else none
/-- top, many, order, stack -/
def fb_trF (α dy : tb_A) : Nat → Int32 × Int32 × tb_A × tb_A → Option (Int32 × tb_A × tb_A)
  | 0, _ => none
  | n + 1, q => if q.1 < 0 then some (q.2.1, q.2.2.1, q.2.2.2) else if fb_in q.1 0 59 = true ∧ fa_id q.2.1 = true then
      (match fb_tnF α dy (q.2.2.2 q.1.toNatClampNeg) 30 0 (q.1 + (-1), q.2.2.2, -1) with
       | none => none
       | some r => fb_trF α dy n (r.1, q.2.1 + 1, upd q.2.2.1 q.2.1.toNatClampNeg (q.2.2.2 q.1.toNatClampNeg), r.2))
    else none
def fb_tr (μ : tg_Mem) (x : Int32) : Option (Int32 × tb_A × tb_A) := fb_trF (μ 10) (μ 4) 31 (0, 0, μ 12, upd (μ 13) 0 x)
def fb_trees (μ : tg_Mem) (x : Int32) : tg_Mem := match fb_tr μ x with
  | none => μ
  | some r => tg_upA (tg_upA (tg_upA μ 12 r.2.1) 13 r.2.2) 14 (fun _ => r.1)
def fb_rnS (γ α : tb_A) (i : Nat) (k : Int32) : Int32 := k + (if γ i = 0 then 0 else if α i = -1 then 1 else 0)
def fb_rn (γ α : tb_A) : Int32 := tg_it (fb_rnS γ α) 0 30
/-- what the reference's walk through the forest asks of the letters: valid ids, and ends -/
def fb_hyp (th tl by' hd κ0 lk0 : tb_A) : Prop :=
  (∀ i, i < 30 → tl i = -1 ∨ vp_in (tl i) 30) ∧ (∀ i, i < 30 → by' i = -1 ∨ vp_in (by' i) 30) ∧ (∀ i, i < 30 → hd i < 0 ∨ vp_in (hd i) 30) ∧
  (∀ i, i < 30 → fb_toldK th tl by' hd (fb_known th tl by' hd κ0) i ≠ -1 → fb_belF (tg_it (fb_l2 th tl by' hd (fb_known th tl by' hd κ0)) (tg_it fb_l1 lk0 30) i) (nI i) 31 (fb_toldK th tl by' hd (fb_known th tl by' hd κ0) i) = some (fb_bel (tg_it (fb_l2 th tl by' hd (fb_known th tl by' hd κ0)) (tg_it fb_l1 lk0 30) i) (fb_toldK th tl by' hd (fb_known th tl by' hd κ0) i) (nI i))) ∧
  (∀ i, i < 30 → fb_abvF th (fb_link th tl by' hd (fb_known th tl by' hd κ0) lk0) 31 (if th i = 0 then -1 else fb_link th tl by' hd (fb_known th tl by' hd κ0) lk0 i) = some (fb_abv th (fb_link th tl by' hd (fb_known th tl by' hd κ0) lk0) (if th i = 0 then -1 else fb_link th tl by' hd (fb_known th tl by' hd κ0) lk0 i)))
theorem fb_cnt_in {α : tb_A} {x : Int32} {j : Nat} {q : Int32 × Int32} (hj : j < 30) (h : q.1 = 0 ∨ vp_in q.2 30) : (fb_cnt α x j q).1 = 0 ∨ vp_in (fb_cnt α x j q).2 30 := by
  unfold fb_cnt
  by_cases hc : α j = x
  · simp only [hc, if_true]
    exact Or.inr (tg_in hj (by decide))
  · simp only [if_neg hc]
    rcases h with h | h
    · exact Or.inl (by rw [h]; rfl)
    · exact Or.inr h
theorem fb_c2_in {th α sb dy : tb_A} {k j : Nat} {b : Int32} (hj : j < 30) (h : b = -1 ∨ vp_in b 30) : fb_c2 th α sb dy k j b = -1 ∨ vp_in (fb_c2 th α sb dy k j b) 30 := by
  unfold fb_c2
  have hn : vp_in (nI j) 30 := tg_in hj (by decide)
  by_cases h1 : fb_can th α sb dy k j = true
  · rw [if_pos h1]
    by_cases h2 : b = -1
    · rw [if_pos h2]; exact Or.inr hn
    · rw [if_neg h2]
      by_cases h3 : dy j ≤ dy b.toNatClampNeg
      · rw [if_pos h3]; exact h
      · rw [if_neg h3]; exact Or.inr hn
  · rw [if_neg h1]; exact h
theorem fb_in60 {x : Int32} (h : fb_in x 0 59 = true) : vp_in x 60 := by
  simp only [fb_in, Bool.and_eq_true, Bool.not_eq_true', decide_eq_false_iff_not, Int32.lt_iff_toInt_lt] at h
  rw [vp_in_iff]
  have h1 : (59 : Int32).toInt = 59 := by decide
  have h2 : (0 : Int32).toInt = 0 := by decide
  omega
theorem fb_bs_in {α dy : tb_A} {its later : Int32} {k : Nat} {b : Int32} (hk : k < 30) (h : b = -1 ∨ vp_in b 30) : fb_bs α dy its later k b = -1 ∨ vp_in (fb_bs α dy its later k b) 30 := by
  have hn : vp_in (nI k) 30 := tg_in hk (by decide)
  unfold fb_bs
  split
  · split
    · split
      · exact Or.inr hn
      · split
        · exact Or.inr hn
        · exact h
    · exact h
  · exact h
theorem tw_Ms0 {h : Nat → Nat} {cI cZ : ClassId} {σ : tg_Mem} (f : tb_A) : (tw_M h cI cZ σ).set 1 (h 1, .inl (cZ, 30, .inl f)) = tw_M h cI cZ (tg_upA σ 0 f) := rfl
theorem tw_Ms1 {h : Nat → Nat} {cI cZ : ClassId} {σ : tg_Mem} (f : tb_A) : (tw_M h cI cZ σ).set 2 (h 2, .inl (cI, 30, .inl f)) = tw_M h cI cZ (tg_upA σ 1 f) := rfl
theorem tw_Ms2 {h : Nat → Nat} {cI cZ : ClassId} {σ : tg_Mem} (f : tb_A) : (tw_M h cI cZ σ).set 3 (h 3, .inl (cI, 30, .inl f)) = tw_M h cI cZ (tg_upA σ 2 f) := rfl
theorem tw_Ms3 {h : Nat → Nat} {cI cZ : ClassId} {σ : tg_Mem} (f : tb_A) : (tw_M h cI cZ σ).set 4 (h 4, .inl (cI, 30, .inl f)) = tw_M h cI cZ (tg_upA σ 3 f) := rfl
theorem tw_Ms4 {h : Nat → Nat} {cI cZ : ClassId} {σ : tg_Mem} (f : tb_A) : (tw_M h cI cZ σ).set 5 (h 5, .inl (cI, 30, .inl f)) = tw_M h cI cZ (tg_upA σ 4 f) := rfl
theorem tw_Ms5 {h : Nat → Nat} {cI cZ : ClassId} {σ : tg_Mem} (f : tb_A) : (tw_M h cI cZ σ).set 6 (h 6, .inl (cI, 30, .inl f)) = tw_M h cI cZ (tg_upA σ 5 f) := rfl
theorem tw_Ms6 {h : Nat → Nat} {cI cZ : ClassId} {σ : tg_Mem} (f : tb_A) : (tw_M h cI cZ σ).set 7 (h 7, .inl (cZ, 30, .inl f)) = tw_M h cI cZ (tg_upA σ 6 f) := rfl
theorem tw_Ms7 {h : Nat → Nat} {cI cZ : ClassId} {σ : tg_Mem} (f : tb_A) : (tw_M h cI cZ σ).set 8 (h 8, .inl (cI, 30, .inl f)) = tw_M h cI cZ (tg_upA σ 7 f) := rfl
theorem tw_Ms8 {h : Nat → Nat} {cI cZ : ClassId} {σ : tg_Mem} (f : tb_A) : (tw_M h cI cZ σ).set 9 (h 9, .inl (cZ, 30, .inl f)) = tw_M h cI cZ (tg_upA σ 8 f) := rfl
theorem tw_Ms9 {h : Nat → Nat} {cI cZ : ClassId} {σ : tg_Mem} (f : tb_A) : (tw_M h cI cZ σ).set 10 (h 10, .inl (cI, 30, .inl f)) = tw_M h cI cZ (tg_upA σ 9 f) := rfl
theorem tw_Ms10 {h : Nat → Nat} {cI cZ : ClassId} {σ : tg_Mem} (f : tb_A) : (tw_M h cI cZ σ).set 11 (h 11, .inl (cI, 30, .inl f)) = tw_M h cI cZ (tg_upA σ 10 f) := rfl
theorem tw_Ms11 {h : Nat → Nat} {cI cZ : ClassId} {σ : tg_Mem} (f : tb_A) : (tw_M h cI cZ σ).set 12 (h 12, .inl (cZ, 30, .inl f)) = tw_M h cI cZ (tg_upA σ 11 f) := rfl
theorem tw_Ms12 {h : Nat → Nat} {cI cZ : ClassId} {σ : tg_Mem} (f : tb_A) : (tw_M h cI cZ σ).set 13 (h 13, .inl (cI, 30, .inl f)) = tw_M h cI cZ (tg_upA σ 12 f) := rfl
theorem tw_Ms13 {h : Nat → Nat} {cI cZ : ClassId} {σ : tg_Mem} (f : tb_A) : (tw_M h cI cZ σ).set 14 (h 14, .inl (cI, 60, .inl f)) = tw_M h cI cZ (tg_upA σ 13 f) := rfl
theorem fb_in30 {x : Int32} (h : fb_in x 0 29 = true) : vp_in x 30 := by
  simp only [fb_in, Bool.and_eq_true, Bool.not_eq_true', decide_eq_false_iff_not, Int32.lt_iff_toInt_lt] at h
  rw [vp_in_iff]
  have h1 : (29 : Int32).toInt = 29 := by decide
  have h2 : (0 : Int32).toInt = 0 := by decide
  omega
theorem fb_fo0 (μ : tg_Mem) : fb_forest μ 0 = μ 0 := rfl
theorem fb_fo1 (μ : tg_Mem) : fb_forest μ 1 = μ 1 := rfl
theorem fb_fo2 (μ : tg_Mem) : fb_forest μ 2 = μ 2 := rfl
theorem fb_fo3 (μ : tg_Mem) : fb_forest μ 3 = μ 3 := rfl
theorem fb_fo4 (μ : tg_Mem) : fb_forest μ 4 = μ 4 := rfl
theorem fb_fo5 (μ : tg_Mem) : fb_forest μ 5 = μ 5 := rfl
theorem fb_fo6 (μ : tg_Mem) : fb_forest μ 6 = μ 6 := rfl
theorem fb_fo7 (μ : tg_Mem) : fb_forest μ 7 = μ 7 := rfl
theorem fb_fo13 (μ : tg_Mem) : fb_forest μ 13 = μ 13 := rfl
theorem fb_fo14 (μ : tg_Mem) : fb_forest μ 14 = μ 14 := rfl
theorem fb_fo15 (μ : tg_Mem) : fb_forest μ 15 = μ 15 := rfl
theorem tg_upA_s (σ : tg_Mem) (k : Nat) (f : tb_A) : tg_upA σ k f k = f := by simp [tg_upA]
theorem tg_upA_n {σ : tg_Mem} {k a : Nat} {f : tb_A} (h : a ≠ k) : tg_upA σ k f a = σ a := by simp [tg_upA, h]
def fb_thr2 (b b2 : Bool) : Int32 := if b = true then (if b2 = true then 0 else 2) else 1
def fb_isL (th : tb_A) (x : Int32) : Bool := fb_in x 0 29 && !(decide (th x.toNatClampNeg = 0))
theorem fb_isL_in {th : tb_A} {x : Int32} (h : fb_isL th x = true) : vp_in x 30 := by
  simp only [fb_isL, Bool.and_eq_true] at h
  exact fb_in30 h.1
def fb_thrL (th : tb_A) (x : Int32) : Int32 := if fb_in x 0 29 = true then (if th x.toNatClampNeg = 0 then 2 else 0) else 1
def fb_thS (σ : tg_Mem) (x : Int32) : tg_Mem := tg_upA σ 15 (fun _ => fb_thrL (σ 0) x)
def fb_del (σ : tg_Mem) (x : Int32) : tg_Mem := tg_upA (tg_upA (tg_upA σ 0 (upd (σ 0) x.toNatClampNeg 0)) 7 (upd (σ 7) x.toNatClampNeg (-1))) 15 (fun _ => fb_thrL (σ 0) x)
def fb_spl (σ : tg_Mem) (x : Int32) : tg_Mem := tg_upA (fb_forest (fb_thS σ x)) 7 (upd (σ 7) x.toNatClampNeg (-2))
def fb_rel (σ : tg_Mem) (x : Int32) : tg_Mem := tg_upA (tg_upA σ 7 (upd (σ 7) x.toNatClampNeg (-1))) 15 (fun _ => fb_thrL (σ 0) x)
def fb_right (x g q s d w0 : Int32) : Bool := fb_in x 0 29 && (fb_in g (-1) 29 && (fb_in q (-1) 29 && (fb_in s 0 19 && (fb_in d 0 999 && (fb_in w0 0 9 && (!(decide (q = -1)) || decide (g = -1)))))))
def fb_thrP (th : tb_A) (x g q s d w0 : Int32) : Int32 := if fb_right x g q s d w0 = true then (if th x.toNatClampNeg = 0 then 0 else 2) else 1
def fb_okP (th : tb_A) (x g q s d w0 : Int32) : Bool := fb_right x g q s d w0 && decide (th x.toNatClampNeg = 0)
def fb_put (σ : tg_Mem) (x g q s d w0 : Int32) : tg_Mem := tg_upA (tg_upA (tg_upA (tg_upA (tg_upA (tg_upA (tg_upA (tg_upA (tg_upA σ 0 (upd (σ 0) x.toNatClampNeg 1)) 1 (upd (σ 1) x.toNatClampNeg q)) 2 (upd (σ 2) x.toNatClampNeg g)) 3 (upd (σ 3) x.toNatClampNeg s)) 4 (upd (σ 4) x.toNatClampNeg d)) 5 (upd (σ 5) x.toNatClampNeg w0)) 6 (upd (σ 6) x.toNatClampNeg 1)) 7 (upd (σ 7) x.toNatClampNeg (-1))) 15 (fun _ => 0)
/-! the tree of an id, in order -/
def fb_trR (μ : tg_Mem) (x : Int32) : Int32 × tb_A × tb_A := (fb_tr μ x).getD (0, μ 12, μ 13)
def fb_lkB (σ : tg_Mem) (x : Int32) : Bool := fb_in x 0 29 && !(decide (fb_forest σ 11 x.toNatClampNeg = 0))
theorem fb_lkB_in {σ : tg_Mem} {x : Int32} (h : fb_lkB σ x = true) : vp_in x 30 := by
  simp only [fb_lkB, Bool.and_eq_true] at h
  exact fb_in30 h.1
def fb_lkT (σ : tg_Mem) (x : Int32) : tg_Mem := tg_upA (tg_upA (tg_upA (tg_upA (fb_forest σ) 12 (fb_trR (fb_forest σ) x).2.1) 13 (fb_trR (fb_forest σ) x).2.2) 14 (fun _ => (fb_trR (fb_forest σ) x).1)) 15 (fun _ => 0)
def fb_lkF (σ : tg_Mem) (x : Int32) : tg_Mem := tg_upA (fb_forest σ) 15 (fun _ => if fb_in x 0 29 = true then 2 else 1)
def fb_lkS (σ : tg_Mem) (x : Int32) : tg_Mem := if fb_lkB σ x = true then fb_lkT σ x else fb_lkF σ x
def fb_chS (b : Bool) (α : tb_A) (x : Int32) (k : Nat) (n : Int32) : Int32 := n + (if b = true then (if α k = x then 1 else 0) else 0)
theorem fb_lkS_0 (σ : tg_Mem) (x : Int32) : fb_lkS σ x 0 = fb_forest σ 0 := by unfold fb_lkS; split <;> rfl
theorem fb_lkS_4 (σ : tg_Mem) (x : Int32) : fb_lkS σ x 4 = fb_forest σ 4 := by unfold fb_lkS; split <;> rfl
theorem fb_lkS_5 (σ : tg_Mem) (x : Int32) : fb_lkS σ x 5 = fb_forest σ 5 := by unfold fb_lkS; split <;> rfl
theorem fb_lkS_6 (σ : tg_Mem) (x : Int32) : fb_lkS σ x 6 = fb_forest σ 6 := by unfold fb_lkS; split <;> rfl
theorem fb_lkS_10 (σ : tg_Mem) (x : Int32) : fb_lkS σ x 10 = fb_forest σ 10 := by unfold fb_lkS; split <;> rfl
theorem fb_lkS_11 (σ : tg_Mem) (x : Int32) : fb_lkS σ x 11 = fb_forest σ 11 := by unfold fb_lkS; split <;> rfl
theorem fb_inm : fb_in (-1) (-1) 29 = true := by decide
def fb_thr1 (b : Bool) : Int32 := if b = true then 0 else 1
def fb_st (σ : tg_Mem) (x : Int32) : tg_Mem := tg_upA σ 15 (fun _ => fb_thr1 (fb_in x 0 29))
