/-! ===== 23a: whole's pure words (what the reference answers, and the helpers' codes) ===== -/
def fb_n (σ : tg_Mem) (x : Int32) : Nat := (fb_trR (fb_forest σ) x).1.toNatClampNeg
def fb_ltS (th ω : tb_A) (k : Nat) (c : Int32) : Int32 := c + (if th (ω k).toNatClampNeg = 0 then 0 else 1)
def fb_urS (th un ω : tb_A) (k : Nat) (c : Int32) : Int32 := c + (if th (ω k).toNatClampNeg = 0 then 0 else if un (ω k).toNatClampNeg = 0 then 0 else 1)
def fb_ppS (th pe ω : tb_A) (k : Nat) (c : Int32) : Int32 := c ||| (if th (ω k).toNatClampNeg = 0 then 0 else ((1 : Int32) <<< ((pe (ω k).toNatClampNeg) &&& (31 : Int32))))
def fb_laS (th dy ω : tb_A) (k : Nat) (b : Int32) : Int32 := if th (ω k).toNatClampNeg = 0 then b else if dy (ω k).toNatClampNeg ≤ b then b else dy (ω k).toNatClampNeg
def fb_rdS (th ω : tb_A) (k : Nat) (q : Int32 × tb_A) : Int32 × tb_A := (q.1 + (if th (ω k).toNatClampNeg = 0 then 0 else if q.2 (ω k).toNatClampNeg = 0 then 0 else 1), upd q.2 (ω k).toNatClampNeg 0)
def fb_rd (σ : tg_Mem) (x : Int32) : Int32 × tb_A := tg_it (fb_rdS (fb_forest σ 0) (fb_trR (fb_forest σ) x).2.1) (0, fb_forest σ 6) (fb_n σ x)
def fb_rdT (σ : tg_Mem) (x : Int32) : tg_Mem := tg_upA (tg_upA (tg_upA (tg_upA (tg_upA (fb_forest σ) 6 (fb_rd σ x).2) 12 (fb_trR (fb_forest σ) x).2.1) 13 (fb_trR (fb_forest σ) x).2.2) 14 (fun _ => (fb_trR (fb_forest σ) x).1)) 15 (fun _ => 0)
theorem fb_mnge {i n : Nat} {m : Int32} (h : i < n) (hc : n ≤ 30) (hm : m = nI n) : ¬ m ≤ nI i := by
  rw [hm]
  exact nI_ge h (Nat.lt_of_le_of_lt hc (by decide))
theorem fb_mge {n : Nat} {m : Int32} (hm : m = nI n) : m ≤ nI n := by
  rw [hm]
  exact Int32.le_refl _
theorem tg_split {p : Program} {l : Launch} {e : Env} {R : Room} {s : State} {m : MethodId} {args : Array Value} {below : List Frame} {meth : Method} {c : Code} {D : va_G} {w : tg_Mem → va_W} {A : Nat → Prop} {n k z : Nat} {Q : State → Prop} {σ : tg_Mem} {pc : Nat} {L : List (Nat × Value)} {st : List Value} {b : Bool} (h1 : b = true → tg_G p l e R s m args below meth c D w A n k z Q σ pc L st) (h2 : b = false → tg_G p l e R s m args below meth c D w A n k z Q σ pc L st) : tg_G p l e R s m args below meth c D w A n k z Q σ pc L st := by
  cases b with
  | true => exact h1 rfl
  | false => exact h2 rfl
def fb_dpF (α : tb_A) : Nat → Int32 × Int32 → Option Int32
  | 0, _ => none
  | m + 1, q => if q.1 = -1 then some q.2 else if fa_id q.1 = true then fb_dpF α m (α q.1.toNatClampNeg, q.2 + 1) else none
def fb_dp (σ : tg_Mem) (x : Int32) : Int32 := (fb_dpF (fb_lkS σ x 10) 31 (if fb_lkB σ x = true then fb_lkS σ x 10 x.toNatClampNeg else -1, 0)).getD 0
def fb_itT (σ : tg_Mem) (x y : Int32) : tg_Mem := tg_upA (tg_upA (tg_upA (tg_upA (fb_forest σ) 12 (fb_trR (fb_forest σ) x).2.1) 13 (fb_trR (fb_forest σ) x).2.2) 14 (fun _ => (fb_trR (fb_forest σ) x).1)) 15 (fun _ => fb_thr2 true (fb_in y 0 ((fb_trR (fb_forest σ) x).1 - 1)))
theorem fb_inm30 {y m : Int32} {n : Nat} (h : fb_in y 0 (m - 1) = true) (hm : m = nI n) (hc : n ≤ 30) : vp_in y 30 := by
  simp only [fb_in, Bool.and_eq_true, Bool.not_eq_true', decide_eq_false_iff_not, Int32.lt_iff_toInt_lt] at h
  rw [hm] at h
  have h1 : (nI n - 1).toInt = (n : Int) - 1 := pk_sub_toInt (a := n) (b := 1) (by omega) (by omega)
  have h2 : (0 : Int32).toInt = 0 := by decide
  rw [vp_in_iff]
  omega
def fb_trC (α dy ω s : tb_A) (x : Int32) : Int32 × tb_A × tb_A := (fb_trF α dy 31 (0, 0, ω, upd s 0 x)).getD (0, ω, s)
def fb_erS (th dy ω : tb_A) (k : Nat) (b : Int32) : Int32 := if th (ω k).toNatClampNeg = 0 then b else if b ≤ dy (ω k).toNatClampNeg then b else dy (ω k).toNatClampNeg
def fb_erC (th dy : tb_A) (r : Int32 × tb_A × tb_A) : Int32 := tg_it (fb_erS th dy r.2.1) 1000 r.1.toNatClampNeg
/-- a tree's list stands: it ends, its length is a small number, its entries are ids -/
def fb_lst (α dy ω s : tb_A) (x : Int32) : Prop := fb_trF α dy 31 (0, 0, ω, upd s 0 x) = some (fb_trC α dy ω s x) ∧ (fb_trC α dy ω s x).1 = nI (fb_trC α dy ω s x).1.toNatClampNeg ∧ (fb_trC α dy ω s x).1.toNatClampNeg ≤ 30 ∧ ∀ k, k < (fb_trC α dy ω s x).1.toNatClampNeg → vp_in ((fb_trC α dy ω s x).2.1 k) 30
def fb_rtS (th dy α γ : tb_A) (k j : Nat) (q : Int32 × Int32 × tb_A × tb_A) : Int32 × Int32 × tb_A × tb_A :=
  if nI j = nI k then q else if γ j = 0 then q else if α j = -1 then
    (q.1 + (if 0 < fb_erC th dy (fb_trC α dy q.2.2.1 q.2.2.2 (nI k)) - fb_erC th dy (fb_trC α dy (fb_trC α dy q.2.2.1 q.2.2.2 (nI k)).2.1 (fb_trC α dy q.2.2.1 q.2.2.2 (nI k)).2.2 (nI j)) then 1
      else if fb_erC th dy (fb_trC α dy q.2.2.1 q.2.2.2 (nI k)) - fb_erC th dy (fb_trC α dy (fb_trC α dy q.2.2.1 q.2.2.2 (nI k)).2.1 (fb_trC α dy q.2.2.1 q.2.2.2 (nI k)).2.2 (nI j)) = 0 then (if nI k ≤ nI j then 0 else 1) else 0),
     (fb_trC α dy (fb_trC α dy q.2.2.1 q.2.2.2 (nI k)).2.1 (fb_trC α dy q.2.2.1 q.2.2.2 (nI k)).2.2 (nI j)).1, (fb_trC α dy (fb_trC α dy q.2.2.1 q.2.2.2 (nI k)).2.1 (fb_trC α dy q.2.2.1 q.2.2.2 (nI k)).2.2 (nI j)).2.1, (fb_trC α dy (fb_trC α dy q.2.2.1 q.2.2.2 (nI k)).2.1 (fb_trC α dy q.2.2.1 q.2.2.2 (nI k)).2.2 (nI j)).2.2)
  else q
def fb_rtI (th dy α γ : tb_A) (k : Nat) (q : Int32 × tb_A × tb_A) : Int32 × Int32 × tb_A × tb_A := tg_it (fb_rtS th dy α γ k) (0, q.1, q.2.1, q.2.2) 30
def fb_rtO (th dy α γ : tb_A) (y : Int32) (k : Nat) (q : Int32 × Int32 × tb_A × tb_A) : Int32 × Int32 × tb_A × tb_A :=
  if γ k = 0 then q else if α k = -1 then
    (if (fb_rtI th dy α γ k q.2).1 = y then nI k else q.1, (fb_rtI th dy α γ k q.2).2.1, (fb_rtI th dy α γ k q.2).2.2.1, (fb_rtI th dy α γ k q.2).2.2.2)
  else q
def fb_rt (σ : tg_Mem) (y : Int32) : Int32 × Int32 × tb_A × tb_A := tg_it (fb_rtO (fb_forest σ 0) (fb_forest σ 4) (fb_forest σ 10) (fb_forest σ 11) y) (-1, fb_forest σ 14 0, fb_forest σ 12, fb_forest σ 13) 30
def fb_rtB (σ : tg_Mem) (y : Int32) : Bool := fb_in y 0 (fb_rn (fb_forest σ 11) (fb_forest σ 10) - 1)
def fb_rtT (σ : tg_Mem) (y : Int32) : tg_Mem := tg_upA (tg_upA (tg_upA (tg_upA (fb_forest σ) 12 (fb_rt σ y).2.2.1) 13 (fb_rt σ y).2.2.2) 14 (fun _ => (fb_rt σ y).2.1)) 15 (fun _ => fb_thr1 (fb_rtB σ y))
def fb_rtF (σ : tg_Mem) (y : Int32) : tg_Mem := tg_upA (fb_forest σ) 15 (fun _ => fb_thr1 (fb_rtB σ y))
def fb_jnS (ω : tb_A) (y : Int32) (k : Nat) (b : Bool) : Bool := b && !(decide (ω k = y))
def fb_jnR (x y : Int32) : Bool := fb_in x 0 29 && (fb_in y 0 29 && !(decide (x = y)))
def fb_jnC (σ : tg_Mem) (x y : Int32) : Bool := fb_jnR x y && (!(decide (σ 0 x.toNatClampNeg = 0)) && !(decide (σ 0 y.toNatClampNeg = 0)))
def fb_jnT (σ : tg_Mem) (x : Int32) : Int32 × tb_A × tb_A := fb_trC (fb_forest σ 10) (fb_forest σ 4) (fb_forest σ 12) (fb_forest σ 13) x
def fb_jnL (σ : tg_Mem) (x y : Int32) : Bool := tg_it (fb_jnS (fb_jnT σ x).2.1 y) true (fb_jnT σ x).1.toNatClampNeg
def fb_jnU (σ : tg_Mem) (x y : Int32) (b : Bool) : tg_Mem := tg_upA (tg_upA (tg_upA (tg_upA (tg_upA (fb_forest σ) 7 (upd (σ 7) x.toNatClampNeg y)) 12 (fb_jnT σ x).2.1) 13 (fb_jnT σ x).2.2) 14 (fun _ => (fb_jnT σ x).1)) 15 (fun _ => fb_thr2 true b)
def fb_jnV (σ : tg_Mem) (x : Int32) (b : Bool) : tg_Mem := tg_upA (tg_upA (tg_upA (tg_upA (fb_forest σ) 12 (fb_jnT σ x).2.1) 13 (fb_jnT σ x).2.2) 14 (fun _ => (fb_jnT σ x).1)) 15 (fun _ => fb_thr2 true b)
theorem tg_dec {p : Program} {l : Launch} {e : Env} {R : Room} {s : State} {m : MethodId} {args : Array Value} {below : List Frame} {meth : Method} {c : Code} {D : va_G} {w : tg_Mem → va_W} {A : Nat → Prop} {n k z : Nat} {Q : State → Prop} {σ : tg_Mem} {pc : Nat} {L : List (Nat × Value)} {st : List Value} {P : Prop} (h1 : P → tg_G p l e R s m args below meth c D w A n k z Q σ pc L st) (h2 : ¬ P → tg_G p l e R s m args below meth c D w A n k z Q σ pc L st) : tg_G p l e R s m args below meth c D w A n k z Q σ pc L st := by
  by_cases h : P
  · exact h1 h
  · exact h2 h
def tl_k (ex : Option String) : Int32 := match ex with | none => 0 | some E => if E = tx_I then 1 else 2
def tl_k1 (ex : Option String) : Int32 := match ex with | none => 0 | some _ => 1
theorem tl_kN {ex : Option String} (h : ex = none) : 0 = tl_k ex := by subst h; rfl
theorem tl_kI0 : tl_k (some tx_I) = 1 := by decide +kernel
theorem tl_kJ0 : tl_k (some tx_J) = 2 := by decide +kernel
theorem tl_kO0 : tl_k (some tx_O) = 2 := by decide +kernel
theorem tl_kI {ex : Option String} (h : ex = some tx_I) : 1 = tl_k ex := by rw [h]; exact tl_kI0.symm
theorem tl_kJ {ex : Option String} (h : ex = some tx_J) : 2 = tl_k ex := by rw [h]; exact tl_kJ0.symm
theorem tl_kO {ex : Option String} (h : ex = some tx_O) : 2 = tl_k ex := by rw [h]; exact tl_kO0.symm
theorem tl_k1N {ex : Option String} (h : ex = none) : 0 = tl_k1 ex := by subst h; rfl
theorem tl_k1S {ex : Option String} {E : String} (h : ex = some E) : 1 = tl_k1 ex := by subst h; rfl
