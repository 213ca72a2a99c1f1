/-! ===== 17: letters without references: each is a root ===== -/
theorem vq_it {f : Nat → tg_Mem → tg_Mem} {a : Nat} (h : ∀ i τ, f i τ a = τ a) (σ : tg_Mem) : ∀ n, tg_it f σ n a = σ a := by
  intro n
  induction n with
  | zero => rfl
  | succ n ih =>
    show f n (tg_it f σ n) a = σ a
    rw [h, ih]
theorem vq_put {σ : tg_Mem} {x g q sub d w0 : Int32} {a : Nat} (h : 9 ≤ a) : fa_put σ x g q sub d w0 a = σ a := by
  unfold fa_put
  split
  · split
    · rw [pu_set_o (by omega), pu_set_o (by omega), pu_set_o (by omega), pu_set_o (by omega), pu_set_o (by omega), pu_set_o (by omega), pu_set_o (by omega), pu_set_o (by omega), pu_set_o (by omega)]
    · rw [pu_set_o (by omega), pu_set_o (by omega), pu_set_o (by omega), pu_set_o (by omega), pu_set_o (by omega), pu_set_o (by omega), pu_set_o (by omega), pu_set_o (by omega), pu_set_o (by omega)]
  · rfl
theorem vq_drop {σ : tg_Mem} {x : Int32} {a : Nat} (h : 9 ≤ a) : fa_drop σ x a = σ a := by
  unfold fa_drop
  split
  · rw [pu_set_o (by omega)]
  · rfl
theorem vq_link {σ : tg_Mem} {a : Nat} (h : a ≠ 10) : fa_linkKnown σ a = σ a := by
  unfold fa_linkKnown
  rw [vq_it (fun i τ => by unfold fa_lk2; split <;> first | rfl | exact pu_set_o h), vq_it (fun i τ => by unfold fa_lk1; exact pu_set_o h)]
theorem vq_hb {σ : tg_Mem} {a : Nat} (h : a ≠ 11) : fa_hangByLinks σ a = σ a := vq_it (fun i τ => by unfold fa_hb; exact pu_set_o h) σ 30
theorem vq_free {σ : tg_Mem} {x : Int32} {a : Nat} (h : a ≠ 11) : fa_free σ x a = σ a := vq_it (fun i τ => by unfold fa_fr; split <;> first | rfl | exact pu_set_o h) σ 30
theorem vq_km {σ : tg_Mem} {a : Nat} (h : a ≠ 11) (h2 : a ≠ 12) : fa_keepMissing σ a = σ a := vq_it (fun i τ => by
  unfold fa_km
  split
  · exact pu_set_o h2
  · split
    · rw [vq_free h]; exact pu_set_o h2
    · exact pu_set_o h2) σ 30
theorem vq_hr {σ : tg_Mem} {a : Nat} (h : a ≠ 11) : fa_hangReplies σ a = σ a := vq_it (fun i τ => by
  unfold fa_hr
  split
  · split
    · split
      · rfl
      · exact pu_set_o h
    · rfl
  · rfl) σ 30
theorem vq_upF {sent : Int32} {a : Nat} (h1 : a ≠ 13) (h2 : a ≠ 15) : ∀ (n i : Nat) (q : Int32 × tg_Mem), fa_upF sent n i q a = q.2 a := by
  intro n
  induction n with
  | zero => intro i q; rfl
  | succ n ih =>
    intro i q
    unfold fa_upF
    split
    · rw [ih]
      show fa_upS sent q.1.toNatClampNeg q.2 a = q.2 a
      unfold fa_upS
      rw [pu_set_o h1, pu_set_o h2]
    · rfl
theorem vq_me {σ : tg_Mem} {a : Nat} (h1 : a ≠ 13) (h2 : a ≠ 14) (h3 : a ≠ 15) : fa_measure σ a = σ a := by
  unfold fa_measure
  rw [vq_it (fun i τ => by unfold fa_mt3; exact pu_set_o h2), vq_it (fun i τ => by unfold fa_mt2; split <;> first | rfl | exact vq_upF h1 h3 _ _ _), vq_it (fun i τ => by unfold fa_mt1; rw [pu_set_o h1, pu_set_o h3])]
theorem vq_pr1 {σ : tg_Mem} {x : Int32} {a : Nat} (h : a ≠ 19) : fa_placeRoot σ x a = σ a := by
  unfold fa_placeRoot
  split
  · exact pu_set_o h
  · rfl
theorem vq_pr {σ : tg_Mem} {a : Nat} (h : a ≠ 19) (h2 : a ≠ 20) : fa_placeRoots σ a = σ a := by
  unfold fa_placeRoots
  rw [vq_it (fun i τ => by
    unfold fa_pr
    split
    · rfl
    · split
      · rw [pu_set_o h2, vq_pr1 h]
      · rfl)]
  exact pu_set_o h2
theorem vq_pt {σ : tg_Mem} {a : Nat} (h1 : a ≠ 16) (h2 : a ≠ 17) (h3 : a ≠ 18) : fa_placeTrees σ a = σ a := by
  unfold fa_placeTrees
  rw [vq_it (fun i τ => by
    unfold fa_pt2
    split
    · exact pu_set_o h2
    · split
      · rw [pu_set_o h3, pu_set_o h2]
      · exact pu_set_o h2), vq_it (fun i τ => by unfold fa_pt1; exact pu_set_o h1)]
theorem vq_nIp {i : Nat} (h : i < 30) : 0 ≤ nI i := nI_pos' (by omega)
theorem vq_upd {f : tb_A} {k : Nat} {x : Int32} (hf : ∀ i, i < 30 → 0 ≤ f i) (hx : 0 ≤ x) : ∀ i, i < 30 → 0 ≤ upd f k x i := by
  intro i hi
  by_cases e : i = k
  · subst e; rw [pu_upd_s]; exact hx
  · rw [pu_upd_o e]; exact hf i hi
theorem vq_18 {σ : tg_Mem} (h : ∀ i, i < 30 → 0 ≤ σ 18 i) : ∀ i, i < 30 → 0 ≤ fa_placeTrees σ 18 i := by
  have h0 : ∀ i, i < 30 → 0 ≤ tg_it fa_pt1 σ 30 18 i := by
    rw [vq_it (fun i τ => by unfold fa_pt1; exact pu_set_o (by decide))]; exact h
  have h1 := tg_inv (fun n τ => ∀ i, i < 30 → 0 ≤ τ 18 i) fa_pt2 30 (tg_it fa_pt1 σ 30) h0 ?_ 30 (Nat.le_refl _)
  · exact h1
  intro n τ hn hI
  unfold fa_pt2
  split
  · rw [pu_set_o (by decide)]; exact hI
  · split
    · rw [pu_set_s, pu_set_o (by decide)]; exact vq_upd hI (vq_nIp hn)
    · rw [pu_set_o (by decide)]; exact hI
theorem vq_19 {σ : tg_Mem} (h : ∀ i, i < 30 → 0 ≤ σ 19 i) : ∀ i, i < 30 → 0 ≤ fa_placeRoots σ 19 i := by
  have h0 : ∀ i, i < 30 → 0 ≤ (tg_set σ 20 0 0) 19 i := by rw [pu_set_o (by decide)]; exact h
  have h1 := tg_inv (fun n τ => ∀ i, i < 30 → 0 ≤ τ 19 i) fa_pr 30 (tg_set σ 20 0 0) h0 ?_ 30 (Nat.le_refl _)
  · exact h1
  intro n τ hn hI
  unfold fa_pr
  split
  · exact hI
  · split
    · rw [pu_set_o (by decide)]
      unfold fa_placeRoot
      split
      · rw [pu_set_s]; exact vq_upd hI (vq_nIp hn)
      · exact hI
    · exact hI
theorem vq_N {σ : tg_Mem} (h : vn_N σ) : vn_N (fa_grow σ) := by
  unfold fa_grow
  constructor
  · refine vq_18 ?_
    rw [vq_pr (by decide) (by decide), vq_me (by decide) (by decide) (by decide), vq_hr (by decide), vq_km (by decide) (by decide), vq_hb (by decide), vq_link (by decide), pu_fk.1 18 (by decide)]
    exact h.1
  · rw [vq_pt (by decide) (by decide) (by decide)]
    refine vq_19 ?_
    rw [vq_me (by decide) (by decide) (by decide), vq_hr (by decide), vq_km (by decide) (by decide), vq_hb (by decide), vq_link (by decide), pu_fk.1 19 (by decide)]
    exact h.2
theorem vq_Nput {σ : tg_Mem} {x g q sub d w0 : Int32} (h : vn_N σ) : vn_N (fa_put σ x g q sub d w0) := ⟨by rw [vq_put (by decide)]; exact h.1, by rw [vq_put (by decide)]; exact h.2⟩
theorem vq_Ndrop {σ : tg_Mem} {x : Int32} (h : vn_N σ) : vn_N (fa_drop σ x) := ⟨by rw [vq_drop (by decide)]; exact h.1, by rw [vq_drop (by decide)]; exact h.2⟩
theorem vq_low {σ : tg_Mem} {a : Nat} (h : a < 9) : fa_grow σ a = σ a := by
  unfold fa_grow
  rw [vq_pt (by omega) (by omega) (by omega), vq_pr (by omega) (by omega), vq_me (by omega) (by omega) (by omega), vq_hr (by omega), vq_km (by omega) (by omega), vq_hb (by omega), vq_link (by omega), pu_fk.1 a (by omega)]
/-- letters that tell nothing -/
def vq_fl (σ : tg_Mem) : Prop := ∀ i, i < 30 → σ 0 i ≠ 0 → σ 1 i = -1 ∧ σ 2 i = -1 ∧ σ 4 i = 0 ∧ σ 8 i = -1
theorem vq_flc {σ τ : tg_Mem} (h : vq_fl σ) (e : ∀ a, a < 9 → τ a = σ a) : vq_fl τ := by
  unfold vq_fl
  rw [e 0 (by decide), e 1 (by decide), e 2 (by decide), e 4 (by decide), e 8 (by decide)]
  exact h
theorem vq_fnd {σ : tg_Mem} (h : vq_fl σ) (x : Int32) : ∀ (n i : Nat) (u : Unit), i + n = 30 → fa_fnd σ x n i u = -1 := by
  intro n
  induction n with
  | zero => intro i u _; rfl
  | succ n ih =>
    intro i u hi
    have hi2 : i < 30 := by omega
    have hg : fa_gTold σ (nI i) = -1 := by
      rw [(pu_told hi2).2.1]
      by_cases c : σ 0 i ≠ 0
      · rw [if_pos c]; exact (h i hi2 c).1
      · rw [if_neg c]
    unfold fa_fnd
    rw [if_pos hg, ih (i + 1) u (by omega), ite_self]
theorem vq_told {σ : tg_Mem} (h : vq_fl σ) {i : Nat} (hi : i < 30) : fa_told σ (nI i) = -1 := by
  unfold fa_told
  by_cases c : fa_holds σ (nI i) = false
  · rw [if_pos c]; exact vq_fnd h _ 30 0 () rfl
  · rw [if_neg c]
    have c2 : σ 0 i ≠ 0 := (pu_holds hi).mp (by cases e : fa_holds σ (nI i) <;> simp_all)
    obtain ⟨-, a2, -, a8⟩ := h i hi c2
    have t := pu_told (σ := σ) hi
    rw [if_pos (by rw [t.2.2, if_pos c2, a8]), t.1, if_pos c2, a2]
theorem vq_L {σ : tg_Mem} (h : vq_fl σ) : ∀ j, j < 30 → fa_linkKnown σ 10 j = -1 := by
  have h0 := pu_init1 (τ := σ) 30 (Nat.le_refl _)
  have h1 := tg_inv (fun n τ => (∀ a, a < 9 → τ a = σ a) ∧ ∀ j, j < 30 → τ 10 j = -1) fa_lk2 30 (tg_it fa_lk1 σ 30) ⟨fun a ha => h0.1 a (by omega), h0.2⟩ ?_ 30 (Nat.le_refl _)
  · exact h1.2
  rintro n τ hn ⟨hI, hJ⟩
  unfold fa_lk2
  split
  · exact ⟨hI, hJ⟩
  · refine ⟨fun a ha => by rw [pu_set_o (by omega)]; exact hI a ha, fun j hj => ?_⟩
    rw [pu_set_s, vq_told (vq_flc h hI) hn, ite_self]
    by_cases e : j = n
    · subst e; rw [pu_upd_s]
    · rw [pu_upd_o e]; exact hJ j hj
theorem vq_B {σ : tg_Mem} (h : ∀ j, j < 30 → σ 10 j = -1) : ∀ j, j < 30 → fa_hangByLinks σ 11 j = -1 := by
  have h1 := tg_inv (fun n τ => (∀ j, j < 30 → τ 10 j = -1) ∧ ∀ j, j < n → τ 11 j = -1) fa_hb 30 σ ⟨h, fun j hj => absurd hj (Nat.not_lt_zero j)⟩ ?_ 30 (Nat.le_refl _)
  · exact h1.2
  rintro n τ hn ⟨hI, hJ⟩
  have hp : fa_pbl τ (τ 10 n) = -1 := by
    rw [hI n hn]
    unfold fa_pbl fa_pblF
    rw [if_neg (by decide)]
  unfold fa_hb
  rw [hp, ite_self]
  refine ⟨by rw [pu_set_o (by decide)]; exact hI, fun j hj => ?_⟩
  rw [pu_set_s]
  by_cases e : j = n
  · subst e; rw [pu_upd_s]
  · rw [pu_upd_o e]; exact hJ j (by omega)
theorem vq_cno {f : tb_A} {x : Int32} : ∀ n, (∀ k, k < n → f k ≠ x) → pu_c f x n = 0 := by
  intro n
  induction n with
  | zero => intro _; rfl
  | succ n ih =>
    intro h
    unfold pu_c
    rw [ih (fun k hk => h k (by omega)), if_neg (h n (by omega))]
theorem vq_M {σ : tg_Mem} (h : ∀ j, j < 30 → σ 11 j = -1) : (∀ j, j < 30 → fa_keepMissing σ 11 j = -1) ∧ ∀ j, j < 30 → (fa_keepMissing σ 12 j ≠ 0 ↔ σ 0 j ≠ 0) := by
  have h1 := tg_inv (fun n τ => τ 0 = σ 0 ∧ (∀ j, j < 30 → τ 11 j = -1) ∧ ∀ j, j < n → (τ 12 j ≠ 0 ↔ σ 0 j ≠ 0)) fa_km 30 σ ⟨rfl, h, fun j hj => absurd hj (Nat.not_lt_zero j)⟩ ?_ 30 (Nat.le_refl _)
  · exact h1.2
  rintro n τ hn ⟨hO, hI, hJ⟩
  have hset : ∀ (v : Int32), (v ≠ 0 ↔ σ 0 n ≠ 0) → ∀ j, j < n + 1 → (upd (τ 12) n v j ≠ 0 ↔ σ 0 j ≠ 0) := by
    intro v hv j hj
    by_cases e : j = n
    · subst e; rw [pu_upd_s]; exact hv
    · rw [pu_upd_o e]; exact hJ j (by omega)
  unfold fa_km
  by_cases c : fa_holds τ (nI n) = true
  · have c2 : σ 0 n ≠ 0 := by rw [← hO]; exact (pu_holds hn).mp c
    rw [if_pos c]
    refine ⟨by rw [pu_set_o (by decide)]; exact hO, by rw [pu_set_o (by decide)]; exact hI, ?_⟩
    rw [pu_set_s]
    exact hset 1 ⟨fun _ => c2, fun _ => by decide⟩
  · have c2 : ¬ σ 0 n ≠ 0 := by rw [← hO]; exact fun q => c ((pu_holds hn).mpr q)
    have hc : fa_nch τ (nI n) < 2 := by
      rw [pu_nch, vq_cno 30 (fun k hk => by rw [hI k hk]; exact (tr_nI1 hn).symm)]
      decide
    rw [if_neg c, if_pos hc]
    have hf := pu_free (τ := tg_set τ 12 n 0) (tr_nI1 hn)
    refine ⟨by rw [hf.1 0 (by decide), pu_set_o (by decide)]; exact hO, fun j hj => ?_, ?_⟩
    · rw [hf.2 j hj, pu_set_o (by decide), hI j hj, ite_self]
    · rw [hf.1 12 (by decide), pu_set_s]
      exact hset 0 ⟨fun q => absurd rfl q, fun q => absurd q c2⟩
theorem vq_R {σ : tg_Mem} (h : vq_fl σ) : fa_hangReplies σ = σ := by
  have h1 := tg_inv (fun _ τ => τ = σ) fa_hr 30 σ rfl ?_ 30 (Nat.le_refl _)
  · exact h1
  intro n τ hn e
  subst e
  unfold fa_hr
  rw [if_neg]
  intro c
  unfold fa_isReply at c
  rw [Bool.and_eq_true] at c
  have c2 := (pu_holds hn).mp c.1
  have c3 := c.2
  rw [tr_cl hn, (h n hn c2).2.2.1] at c3
  exact absurd c3 (by decide)
theorem vq_roots {σ : tg_Mem} (h : vq_fl σ) : fa_grow σ 20 0 = nI (pu_n (fun i => σ 0 i ≠ 0) 30) := by
  have e1 : ∀ a, a < 9 → fa_findKnown σ a = σ a := fun a ha => pu_fk.1 a (by omega)
  have f1 := vq_flc h e1
  have e2 : ∀ a, a < 9 → fa_linkKnown (fa_findKnown σ) a = σ a := fun a ha => by rw [vq_link (by omega)]; exact e1 a ha
  have l2 := vq_L f1
  have e3 : ∀ a, a < 9 → fa_hangByLinks (fa_linkKnown (fa_findKnown σ)) a = σ a := fun a ha => by rw [vq_hb (by omega)]; exact e2 a ha
  have b3 := vq_B l2
  have e4 : ∀ a, a < 9 → fa_keepMissing (fa_hangByLinks (fa_linkKnown (fa_findKnown σ))) a = σ a := fun a ha => by rw [vq_km (by omega) (by omega)]; exact e3 a ha
  obtain ⟨m1, m2⟩ := vq_M b3
  unfold fa_grow
  rw [vq_pt (by decide) (by decide) (by decide), vq_R (vq_flc h e4), pu_pr.2.1]
  refine congrArg nI (pu_n_cong 30 (fun i hi => ?_))
  unfold pu_rt
  rw [vq_me (by decide) (by decide) (by decide), vq_me (by decide) (by decide) (by decide), m1 i hi, m2 i hi, e3 0 (by decide)]
  exact ⟨fun q => q.1, fun q => ⟨q, rfl⟩⟩
/-- what a letter that tells nothing makes of them -/
theorem vq_flp {σ : tg_Mem} (h : vq_fl σ) {x : Nat} (hx : x < 30) : vq_fl (fa_put σ (nI x) (-1) (-1) 0 0 0) ∧ ∀ i, i < 30 → (fa_put σ (nI x) (-1) (-1) 0 0 0 0 i ≠ 0 ↔ σ 0 i ≠ 0 ∨ i = x) := by
  have e : fa_put σ (nI x) (-1) (-1) 0 0 0 = tg_set (tg_set (tg_set (tg_set (tg_set (tg_set (tg_set (tg_set (tg_set σ 0 x 1) 1 x (-1)) 2 x (-1)) 4 x 0) 3 x 0) 5 x 0) 6 x 0) 7 x 1) 8 x (-1) := by
    unfold fa_put
    rw [if_pos (fa_id_nI hx), if_pos (by decide), tr_cl hx]
  rw [e]
  generalize hτ : tg_set (tg_set (tg_set (tg_set (tg_set (tg_set (tg_set (tg_set (tg_set σ 0 x 1) 1 x (-1)) 2 x (-1)) 4 x 0) 3 x 0) 5 x 0) 6 x 0) 7 x 1) 8 x (-1) = τ
  have r0 : τ 0 = upd (σ 0) x 1 := by rw [← hτ, pu_set_o (by decide), pu_set_o (by decide), pu_set_o (by decide), pu_set_o (by decide), pu_set_o (by decide), pu_set_o (by decide), pu_set_o (by decide), pu_set_o (by decide), pu_set_s]
  have r1 : τ 1 = upd (σ 1) x (-1) := by rw [← hτ, pu_set_o (by decide), pu_set_o (by decide), pu_set_o (by decide), pu_set_o (by decide), pu_set_o (by decide), pu_set_o (by decide), pu_set_o (by decide), pu_set_s, pu_set_o (by decide)]
  have r2 : τ 2 = upd (σ 2) x (-1) := by rw [← hτ, pu_set_o (by decide), pu_set_o (by decide), pu_set_o (by decide), pu_set_o (by decide), pu_set_o (by decide), pu_set_o (by decide), pu_set_s, pu_set_o (by decide), pu_set_o (by decide)]
  have r4 : τ 4 = upd (σ 4) x 0 := by rw [← hτ, pu_set_o (by decide), pu_set_o (by decide), pu_set_o (by decide), pu_set_o (by decide), pu_set_o (by decide), pu_set_s, pu_set_o (by decide), pu_set_o (by decide), pu_set_o (by decide)]
  have r8 : τ 8 = upd (σ 8) x (-1) := by rw [← hτ, pu_set_s, pu_set_o (by decide), pu_set_o (by decide), pu_set_o (by decide), pu_set_o (by decide), pu_set_o (by decide), pu_set_o (by decide), pu_set_o (by decide), pu_set_o (by decide)]
  constructor
  · intro i hi
    rw [r0, r1, r2, r4, r8]
    by_cases c : i = x
    · subst c
      rw [pu_upd_s, pu_upd_s, pu_upd_s, pu_upd_s, pu_upd_s]
      exact fun _ => ⟨rfl, rfl, rfl, rfl⟩
    · rw [pu_upd_o c, pu_upd_o c, pu_upd_o c, pu_upd_o c, pu_upd_o c]
      exact h i hi
  · intro i hi
    rw [r0]
    exact pu_upd1
/-- the sixteen ids -/
def vq_b (i : Nat) : Bool := (List.range 16).any (fun k => i == 7 * k % 30)
theorem vq_cnt : ∀ (b : Nat → Bool) (n : Nat), pu_n (fun i => b i = true) n = ((List.range n).filter b).length := by
  intro b n
  induction n with
  | zero => rfl
  | succ n ih =>
    rw [List.range_succ, List.filter_append, List.length_append, ← ih]
    by_cases c : b n = true
    · rw [pu_n_p (P := fun i => b i = true) c]
      simp [c]
    · rw [pu_n_n (P := fun i => b i = true) c]
      simp [c]
theorem vq_16 {P : Nat → Prop} (h : ∀ i, i < 30 → (P i ↔ ∃ j, j < 16 ∧ i = 7 * j % 30)) : pu_n P 30 = 16 := by
  have h1 : pu_n P 30 = pu_n (fun i => vq_b i = true) 30 := pu_n_cong 30 (fun i hi => (h i hi).trans (by
    unfold vq_b
    rw [List.any_eq_true]
    constructor
    · rintro ⟨j, hj, e⟩
      exact ⟨j, List.mem_range.mpr hj, by rw [e]; exact beq_self_eq_true _⟩
    · rintro ⟨j, hj, e⟩
      exact ⟨j, List.mem_range.mp hj, eq_of_beq e⟩))
  rw [h1, vq_cnt]
  decide +kernel
