/-! ===== 05: the reference: what its methods answer (a text beside its own) ===== -/
def fb_in (x lo hi : Int32) : Bool := !(decide (x < lo)) && !(decide (hi < x))
def fb_k1 (i : Nat) (κ : tb_A) : tb_A := upd κ i 0
def fb_kT (tl : tb_A) (i : Nat) (κ : tb_A) : tb_A := if tl i = -1 then κ else upd κ (tl i).toNatClampNeg 1
def fb_kH (hd : tb_A) (i : Nat) (κ : tb_A) : tb_A := if hd i < 0 then κ else upd κ (hd i).toNatClampNeg 1
def fb_k2 (th tl by' hd : tb_A) (i : Nat) (κ : tb_A) : tb_A := if th i = 0 then κ else fb_kH hd i (fb_kT by' i (fb_kT tl i (upd κ i 1)))
def fb_known (th tl by' hd κ : tb_A) : tb_A := tg_it (fb_k2 th tl by' hd) (tg_it fb_k1 κ 30) 30
def fb_fnd (th tl by' : tb_A) (x : Int32) : Nat → Nat → Unit → Int32
  | 0, _, _ => -1
  | n + 1, i, u => if th i = 0 then fb_fnd th tl by' x n (i + 1) u else if tl i = x then (if by' i = -1 then fb_fnd th tl by' x n (i + 1) u else by' i) else fb_fnd th tl by' x n (i + 1) u
def fb_guess (th tl by' : tb_A) (x : Int32) : Int32 := fb_fnd th tl by' x 30 0 ()
def fb_told (th tl by' hd : tb_A) (x : Int32) : Int32 := if th x.toNatClampNeg = 0 then fb_guess th tl by' x else if hd x.toNatClampNeg = -2 then -1 else if hd x.toNatClampNeg = -1 then tl x.toNatClampNeg else hd x.toNatClampNeg
def fb_belF (lk : tb_A) (y : Int32) : Nat → Int32 → Option Bool
  | 0, _ => none
  | n + 1, a => if a = -1 then some (decide (a = y)) else if a = y then some true else if fa_id a = true then fb_belF lk y n (lk a.toNatClampNeg) else none
def fb_bel (lk : tb_A) (a y : Int32) : Bool := (fb_belF lk y 31 a).getD false
def fb_toldK (th tl by' hd κ : tb_A) (i : Nat) : Int32 := if κ i = 0 then -1 else fb_told th tl by' hd (nI i)
def fb_l1 (i : Nat) (lk : tb_A) : tb_A := upd lk i (-1)
def fb_l2 (th tl by' hd κ : tb_A) (i : Nat) (lk : tb_A) : tb_A := upd lk i (if fb_toldK th tl by' hd κ i = -1 then -1 else if fb_bel lk (fb_toldK th tl by' hd κ i) (nI i) = true then -1 else fb_toldK th tl by' hd κ i)
def fb_link (th tl by' hd κ lk : tb_A) : tb_A := tg_it (fb_l2 th tl by' hd κ) (tg_it fb_l1 lk 30) 30
def fb_abvF (th lk : tb_A) : Nat → Int32 → Option Int32
  | 0, _ => none
  | n + 1, a => if a = -1 then some (-1) else if fa_id a = true then (if th a.toNatClampNeg = 0 then (if lk a.toNatClampNeg = -1 then some a else fb_abvF th lk n (lk a.toNatClampNeg)) else some a) else none
def fb_abv (th lk : tb_A) (a : Int32) : Int32 := (fb_abvF th lk 31 a).getD (-1)
def fb_a0 (th lk : tb_A) (k : Nat) (α : tb_A) : tb_A := upd α k (fb_abv th lk (if th k = 0 then -1 else lk k))
def fb_cnt (α : tb_A) (x : Int32) (i : Nat) (q : Int32 × Int32) : Int32 × Int32 := (q.1 + (if α i = x then 1 else 0), if α i = x then nI i else q.2)
def fb_bN (α : tb_A) (x : Int32) : Int32 × Int32 := tg_it (fb_cnt α x) (0, -1) 30
def fb_b (th : tb_A) (i : Nat) (q : tb_A × tb_A) : tb_A × tb_A :=
  (if th i = 0 then (if (fb_bN q.1 (nI i)).1 = 1 then upd q.1 (fb_bN q.1 (nI i)).2.toNatClampNeg (-1) else q.1) else q.1,
   upd q.2 i (tg_b (!(decide (th i = 0)) || !(decide ((fb_bN q.1 (nI i)).1 ≤ 1)))))
def fb_alone (th α : tb_A) (x : Int32) : Bool := !(decide (th x.toNatClampNeg = 0)) && decide (α x.toNatClampNeg = -1)
def fb_can (th α sb dy : tb_A) (k j : Nat) : Bool := fb_alone th α (nI j) && (decide (sb j = sb k - 10) && (!(decide (dy k < dy j)) && !(decide (14 < dy k - dy j))))
def fb_c2 (th α sb dy : tb_A) (k j : Nat) (b : Int32) : Int32 := if fb_can th α sb dy k j = true then (if b = -1 then nI j else if dy j ≤ dy b.toNatClampNeg then b else nI j) else b
def fb_c (th α sb dy hd : tb_A) (k : Nat) (ω : tb_A) : tb_A := upd ω k (if fb_alone th α (nI k) = true then (if sb k < 10 then -1 else if hd k = -2 then -1 else tg_it (fb_c2 th α sb dy k) (-1) 30) else -1)
def fb_d (ω : tb_A) (i : Nat) (α : tb_A) : tb_A := upd α i (if ω i = -1 then α i else ω i)
/-! the forest made anew: known, linked, above, grows, order -/
def fb_K (μ : tg_Mem) : tb_A := fb_known (μ 0) (μ 1) (μ 2) (μ 7) (μ 8)
def fb_L (μ : tg_Mem) : tb_A := fb_link (μ 0) (μ 1) (μ 2) (μ 7) (fb_K μ) (μ 9)
def fb_A0 (μ : tg_Mem) : tb_A := tg_it (fb_a0 (μ 0) (fb_L μ)) (μ 10) 30
def fb_AG (μ : tg_Mem) : tb_A × tb_A := tg_it (fb_b (μ 0)) (fb_A0 μ, μ 11) 30
def fb_O (μ : tg_Mem) : tb_A := tg_it (fb_c (μ 0) (fb_AG μ).1 (μ 3) (μ 4) (μ 7)) (μ 12) 30
def fb_A2 (μ : tg_Mem) : tb_A := tg_it (fb_d (fb_O μ)) (fb_AG μ).1 30
def fb_forest (μ : tg_Mem) : tg_Mem := tg_upA (tg_upA (tg_upA (tg_upA (tg_upA μ 8 (fb_K μ)) 9 (fb_L μ)) 10 (fb_A2 μ)) 11 (fb_AG μ).2) 12 (fb_O μ)
/-! trees -/
def fb_ahead (dy : tb_A) (x y : Int32) : Bool := decide (dy x.toNatClampNeg < dy y.toNatClampNeg) || (decide (dy x.toNatClampNeg = dy y.toNatClampNeg) && !(decide (y ≤ x)))
def fb_bs (α dy : tb_A) (its later : Int32) (k : Nat) (b : Int32) : Int32 := if α k = its then (if later = -1 ∨ fb_ahead dy (nI k) later = true then (if b = -1 then nI k else if fb_ahead dy b (nI k) = true then nI k else b) else b) else b
def fb_sel (α dy : tb_A) (its later : Int32) : Int32 := tg_it (fb_bs α dy its later) (-1) 30
def fb_tnF (α dy : tb_A) (its : Int32) : Nat → Nat → Int32 × tb_A × Int32 → Option (Int32 × tb_A)
  | 0, _, q => some (q.1, q.2.1)
  | n + 1, i, q => if q.2.2 = -1 ∨ fa_id q.2.2 = true then (if fb_sel α dy its q.2.2 = -1 then some (q.1, q.2.1) else if fb_in (q.1 + 1) 0 59 = true then fb_tnF α dy its n (i + 1) (q.1 + 1, upd q.2.1 (q.1 + 1).toNatClampNeg (fb_sel α dy its q.2.2), fb_sel α dy its q.2.2) else none) else none
/-- top, many, order, stack -/
def fb_trF (α dy : tb_A) : Nat → Int32 × Int32 × tb_A × tb_A → Option (Int32 × tb_A × tb_A)
  | 0, _ => none
  | n + 1, q => if q.1 < 0 then some (q.2.1, q.2.2.1, q.2.2.2) else if fb_in q.1 0 59 = true ∧ fa_id q.2.1 = true then
      (match fb_tnF α dy (q.2.2.2 q.1.toNatClampNeg) 30 0 (q.1 + (-1), q.2.2.2, -1) with
       | none => none
       | some r => fb_trF α dy n (r.1, q.2.1 + 1, upd q.2.2.1 q.2.1.toNatClampNeg (q.2.2.2 q.1.toNatClampNeg), r.2))
    else none
def fb_tr (μ : tg_Mem) (x : Int32) : Option (Int32 × tb_A × tb_A) := fb_trF (μ 10) (μ 4) 31 (0, 0, μ 12, upd (μ 13) 0 x)
def fb_trees (μ : tg_Mem) (x : Int32) : tg_Mem := match fb_tr μ x with
  | none => μ
  | some r => tg_upA (tg_upA (tg_upA μ 12 r.2.1) 13 r.2.2) 14 (fun _ => r.1)
def fb_rnS (γ α : tb_A) (i : Nat) (k : Int32) : Int32 := k + (if γ i = 0 then 0 else if α i = -1 then 1 else 0)
def fb_rn (γ α : tb_A) : Int32 := tg_it (fb_rnS γ α) 0 30
/-- what the reference's walk through the forest asks of the letters: valid ids, and ends -/
def fb_hyp (th tl by' hd κ0 lk0 : tb_A) : Prop :=
  (∀ i, i < 30 → tl i = -1 ∨ vp_in (tl i) 30) ∧ (∀ i, i < 30 → by' i = -1 ∨ vp_in (by' i) 30) ∧ (∀ i, i < 30 → hd i < 0 ∨ vp_in (hd i) 30) ∧
  (∀ i, i < 30 → fb_toldK th tl by' hd (fb_known th tl by' hd κ0) i ≠ -1 → fb_belF (tg_it (fb_l2 th tl by' hd (fb_known th tl by' hd κ0)) (tg_it fb_l1 lk0 30) i) (nI i) 31 (fb_toldK th tl by' hd (fb_known th tl by' hd κ0) i) = some (fb_bel (tg_it (fb_l2 th tl by' hd (fb_known th tl by' hd κ0)) (tg_it fb_l1 lk0 30) i) (fb_toldK th tl by' hd (fb_known th tl by' hd κ0) i) (nI i))) ∧
  (∀ i, i < 30 → fb_abvF th (fb_link th tl by' hd (fb_known th tl by' hd κ0) lk0) 31 (if th i = 0 then -1 else fb_link th tl by' hd (fb_known th tl by' hd κ0) lk0 i) = some (fb_abv th (fb_link th tl by' hd (fb_known th tl by' hd κ0) lk0) (if th i = 0 then -1 else fb_link th tl by' hd (fb_known th tl by' hd κ0) lk0 i)))
theorem fb_cnt_in {α : tb_A} {x : Int32} {j : Nat} {q : Int32 × Int32} (hj : j < 30) (h : q.1 = 0 ∨ vp_in q.2 30) : (fb_cnt α x j q).1 = 0 ∨ vp_in (fb_cnt α x j q).2 30 := by
  unfold fb_cnt
  by_cases hc : α j = x
  · simp only [hc, if_true]
    exact Or.inr (tg_in hj (by decide))
  · simp only [if_neg hc]
    rcases h with h | h
    · exact Or.inl (by rw [h]; rfl)
    · exact Or.inr h
theorem fb_c2_in {th α sb dy : tb_A} {k j : Nat} {b : Int32} (hj : j < 30) (h : b = -1 ∨ vp_in b 30) : fb_c2 th α sb dy k j b = -1 ∨ vp_in (fb_c2 th α sb dy k j b) 30 := by
  unfold fb_c2
  have hn : vp_in (nI j) 30 := tg_in hj (by decide)
  by_cases h1 : fb_can th α sb dy k j = true
  · rw [if_pos h1]
    by_cases h2 : b = -1
    · rw [if_pos h2]; exact Or.inr hn
    · rw [if_neg h2]
      by_cases h3 : dy j ≤ dy b.toNatClampNeg
      · rw [if_pos h3]; exact h
      · rw [if_neg h3]; exact Or.inr hn
  · rw [if_neg h1]; exact h
theorem fb_in60 {x : Int32} (h : fb_in x 0 59 = true) : vp_in x 60 := by
  simp only [fb_in, Bool.and_eq_true, Bool.not_eq_true', decide_eq_false_iff_not, Int32.lt_iff_toInt_lt] at h
  rw [vp_in_iff]
  have h1 : (59 : Int32).toInt = 59 := by decide
  have h2 : (0 : Int32).toInt = 0 := by decide
  omega
theorem fb_bs_in {α dy : tb_A} {its later : Int32} {k : Nat} {b : Int32} (hk : k < 30) (h : b = -1 ∨ vp_in b 30) : fb_bs α dy its later k b = -1 ∨ vp_in (fb_bs α dy its later k b) 30 := by
  have hn : vp_in (nI k) 30 := tg_in hk (by decide)
  unfold fb_bs
  split
  · split
    · split
      · exact Or.inr hn
      · split
        · exact Or.inr hn
        · exact h
    · exact h
  · exact h
theorem tw_Ms0 {h : Nat → Nat} {cI cZ : ClassId} {σ : tg_Mem} (f : tb_A) : (tw_M h cI cZ σ).set 1 (h 1, .inl (cZ, 30, .inl f)) = tw_M h cI cZ (tg_upA σ 0 f) := rfl
theorem tw_Ms1 {h : Nat → Nat} {cI cZ : ClassId} {σ : tg_Mem} (f : tb_A) : (tw_M h cI cZ σ).set 2 (h 2, .inl (cI, 30, .inl f)) = tw_M h cI cZ (tg_upA σ 1 f) := rfl
theorem tw_Ms2 {h : Nat → Nat} {cI cZ : ClassId} {σ : tg_Mem} (f : tb_A) : (tw_M h cI cZ σ).set 3 (h 3, .inl (cI, 30, .inl f)) = tw_M h cI cZ (tg_upA σ 2 f) := rfl
theorem tw_Ms3 {h : Nat → Nat} {cI cZ : ClassId} {σ : tg_Mem} (f : tb_A) : (tw_M h cI cZ σ).set 4 (h 4, .inl (cI, 30, .inl f)) = tw_M h cI cZ (tg_upA σ 3 f) := rfl
theorem tw_Ms4 {h : Nat → Nat} {cI cZ : ClassId} {σ : tg_Mem} (f : tb_A) : (tw_M h cI cZ σ).set 5 (h 5, .inl (cI, 30, .inl f)) = tw_M h cI cZ (tg_upA σ 4 f) := rfl
theorem tw_Ms5 {h : Nat → Nat} {cI cZ : ClassId} {σ : tg_Mem} (f : tb_A) : (tw_M h cI cZ σ).set 6 (h 6, .inl (cI, 30, .inl f)) = tw_M h cI cZ (tg_upA σ 5 f) := rfl
theorem tw_Ms6 {h : Nat → Nat} {cI cZ : ClassId} {σ : tg_Mem} (f : tb_A) : (tw_M h cI cZ σ).set 7 (h 7, .inl (cZ, 30, .inl f)) = tw_M h cI cZ (tg_upA σ 6 f) := rfl
theorem tw_Ms7 {h : Nat → Nat} {cI cZ : ClassId} {σ : tg_Mem} (f : tb_A) : (tw_M h cI cZ σ).set 8 (h 8, .inl (cI, 30, .inl f)) = tw_M h cI cZ (tg_upA σ 7 f) := rfl
theorem tw_Ms8 {h : Nat → Nat} {cI cZ : ClassId} {σ : tg_Mem} (f : tb_A) : (tw_M h cI cZ σ).set 9 (h 9, .inl (cZ, 30, .inl f)) = tw_M h cI cZ (tg_upA σ 8 f) := rfl
theorem tw_Ms9 {h : Nat → Nat} {cI cZ : ClassId} {σ : tg_Mem} (f : tb_A) : (tw_M h cI cZ σ).set 10 (h 10, .inl (cI, 30, .inl f)) = tw_M h cI cZ (tg_upA σ 9 f) := rfl
theorem tw_Ms10 {h : Nat → Nat} {cI cZ : ClassId} {σ : tg_Mem} (f : tb_A) : (tw_M h cI cZ σ).set 11 (h 11, .inl (cI, 30, .inl f)) = tw_M h cI cZ (tg_upA σ 10 f) := rfl
theorem tw_Ms11 {h : Nat → Nat} {cI cZ : ClassId} {σ : tg_Mem} (f : tb_A) : (tw_M h cI cZ σ).set 12 (h 12, .inl (cZ, 30, .inl f)) = tw_M h cI cZ (tg_upA σ 11 f) := rfl
theorem tw_Ms12 {h : Nat → Nat} {cI cZ : ClassId} {σ : tg_Mem} (f : tb_A) : (tw_M h cI cZ σ).set 13 (h 13, .inl (cI, 30, .inl f)) = tw_M h cI cZ (tg_upA σ 12 f) := rfl
theorem tw_Ms13 {h : Nat → Nat} {cI cZ : ClassId} {σ : tg_Mem} (f : tb_A) : (tw_M h cI cZ σ).set 14 (h 14, .inl (cI, 60, .inl f)) = tw_M h cI cZ (tg_upA σ 13 f) := rfl
