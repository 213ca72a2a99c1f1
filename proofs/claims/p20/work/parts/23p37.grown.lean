/-! ===== 37: the class's forest behind a growing ===== -/
theorem pu_cgU {σ τ : tg_Mem} (h : σ 11 = τ 11) : pu_u σ = pu_u τ := by unfold pu_u; rw [h]
theorem pu_cgS {σ τ : tg_Mem} (h : σ 12 = τ 12) : pu_S σ = pu_S τ := by funext i; unfold pu_S; rw [h]
theorem pu_cgb {σ τ : tg_Mem} (h1 : σ 11 = τ 11) (h2 : σ 12 = τ 12) (h4 : σ 14 = τ 14) (x y : Int32) : fa_before σ x y = fa_before τ x y := by unfold fa_before fa_cont; rw [h1, h2, h4]
theorem pu_cgB {σ τ : tg_Mem} (h1 : σ 11 = τ 11) (h2 : σ 12 = τ 12) (h4 : σ 14 = τ 14) : pu_bf σ = pu_bf τ := by funext a b; unfold pu_bf; rw [pu_cgb h1 h2 h4]
theorem pu_cgR {σ τ : tg_Mem} (h1 : σ 11 = τ 11) (h2 : σ 12 = τ 12) : pu_rt σ = pu_rt τ := by funext a; unfold pu_rt; rw [h1, h2]
theorem pu_cgP {σ τ : tg_Mem} (h1 : σ 11 = τ 11) (h2 : σ 12 = τ 12) (h4 : σ 14 = τ 14) : pu_pl σ = pu_pl τ := by funext a; unfold pu_pl; exact pu_n_cong 30 (fun i _ => by rw [pu_cgb h1 h2 h4])
theorem pu_cgF {σ τ : tg_Mem} (h1 : σ 11 = τ 11) (h2 : σ 12 = τ 12) (h : pu_F0 τ) : pu_F0 σ := by
  unfold pu_F0
  rw [pu_cgU h1, pu_cgS h2, h1]
  exact h
theorem pu_cgD {σ τ : tg_Mem} (h0 : σ 0 = τ 0) (h5 : σ 5 = τ 5) (x : Int32) : fa_dayOf σ x = fa_dayOf τ x := by unfold fa_dayOf fa_holds; rw [h0, h5]
/-- what each array of the forest holds -/
def pu_G (σ : tg_Mem) : Prop :=
  pu_F0 σ ∧ (∀ i, i < 30 → σ 15 i = nI (pu_sz (pu_u σ) (pu_S σ) i)) ∧ (∀ i, i < 30 → σ 17 i = nI (pu_st (pu_u σ) (pu_S σ) (pu_bf σ) i)) ∧ (∀ i, i < 30 → pu_S σ i → σ 18 (pu_st (pu_u σ) (pu_S σ) (pu_bf σ) i) = nI i) ∧ σ 20 0 = nI (pu_n (pu_rt σ) 30) ∧ (∀ r, r < 30 → pu_rt σ r → σ 19 (pu_pl σ r) = nI r) ∧
  ∀ y, y < 30 → σ 14 y = if σ 11 y = -1 then pu_mn (fun i => pu_S σ i ∧ tr_lead (pu_u σ) i y) (fun i => fa_dayOf σ (nI i)) 30 else fa_dayOf σ (nI y)
theorem pu_G7 {σ τ : tg_Mem} (h : ∀ a, a ≠ 7 → σ a = τ a) (hG : pu_G τ) : pu_G σ := by
  have hD : ∀ x, fa_dayOf σ x = fa_dayOf τ x := pu_cgD (h 0 (by decide)) (h 5 (by decide))
  obtain ⟨h1, h2, h3, h4, h5, h6, h7⟩ := hG
  unfold pu_G
  rw [pu_cgU (h 11 (by decide)), pu_cgS (h 12 (by decide)), pu_cgB (h 11 (by decide)) (h 12 (by decide)) (h 14 (by decide)), pu_cgR (h 11 (by decide)) (h 12 (by decide)), pu_cgP (h 11 (by decide)) (h 12 (by decide)) (h 14 (by decide)), h 15 (by decide), h 17 (by decide), h 18 (by decide), h 20 (by decide), h 19 (by decide), h 14 (by decide), h 11 (by decide)]
  refine ⟨pu_cgF (h 11 (by decide)) (h 12 (by decide)) h1, h2, h3, h4, h5, h6, fun y hy => ?_⟩
  rw [hD, h7 y hy]
  simp only [hD]
/-- the class's forest is the reference's -/
def pu_A (σ μ : tg_Mem) : Prop := (∀ j, j < 30 → (σ 9 j = 0 ↔ fb_K μ j = 0)) ∧ (∀ j, j < 30 → σ 11 j = fb_A2 μ j) ∧ ∀ j, j < 30 → (σ 12 j = 0 ↔ (fb_AG μ).2 j = 0)
theorem pu_F0of {σ0 μ τ : tg_Mem} (hM : pu_M σ0 μ) (h11 : ∀ j, j < 30 → τ 11 j = fb_A2 μ j) (h12 : ∀ j, j < 30 → (τ 12 j = 0 ↔ (fb_AG μ).2 j = 0)) : pu_F0 τ := by
  obtain ⟨hv, hc, hp⟩ := pu_final hM
  have hg := pu_gam (μ := μ)
  refine ⟨fun j hj => by rw [h11 j hj]; exact hv j hj, pu_acyc (fun x hx => pu_up_eq (h11 x hx)) (tr_up_rng _ 30) hc, fun x y hx e => ?_⟩
  obtain ⟨e1, hy⟩ := tr_up_s e
  rw [h11 x hx] at e1
  obtain ⟨p1, p2⟩ := hp x y hx hy e1
  exact ⟨fun c => hg x hx p1 ((h12 x hx).mp c), fun c => p2 ((h12 y hy).mp c)⟩
theorem pu_grown {σ0 μ : tg_Mem} (hM : pu_M σ0 μ) : pu_G (fa_grow σ0) ∧ pu_A (fa_grow σ0) μ ∧ ∀ a, a < 9 → fa_grow σ0 a = σ0 a := by
  obtain ⟨o4, k9, k11, k12⟩ := pu_hang hM
  unfold fa_grow
  generalize fa_hangReplies (fa_keepMissing (fa_hangByLinks (fa_linkKnown (fa_findKnown σ0)))) = τ4 at o4 k9 k11 k12 ⊢
  have F4 := pu_F0of hM k11 k12
  obtain ⟨o5, k5⟩ := pu_measure (u := pu_u τ4) (tr_up_rng _ 30) F4.2.1 (τ := τ4) (fun _ _ => rfl)
  generalize fa_measure τ4 = τ5 at o5 k5 ⊢
  obtain ⟨o6, k20, k19⟩ := pu_pr (σ := τ5)
  generalize fa_placeRoots τ5 = τ6 at o6 k20 k19 ⊢
  have e54 : ∀ a, a ≠ 13 → a ≠ 14 → a ≠ 15 → τ5 a = τ4 a := o5
  have F5 : pu_F0 τ5 := pu_cgF (o5 11 (by decide) (by decide) (by decide)) (o5 12 (by decide) (by decide) (by decide)) F4
  have F6 : pu_F0 τ6 := pu_cgF (o6 11 (by decide) (by decide)) (o6 12 (by decide) (by decide)) F5
  have U5 : pu_u τ5 = pu_u τ4 := pu_cgU (o5 11 (by decide) (by decide) (by decide))
  have S5 : pu_S τ5 = pu_S τ4 := pu_cgS (o5 12 (by decide) (by decide) (by decide))
  have U6 : pu_u τ6 = pu_u τ5 := pu_cgU (o6 11 (by decide) (by decide))
  have S6 : pu_S τ6 = pu_S τ5 := pu_cgS (o6 12 (by decide) (by decide))
  have z6 : ∀ i, i < 30 → τ6 15 i = nI (pu_sz (pu_u τ6) (pu_S τ6) i) := fun i hi => by
    rw [o6 15 (by decide) (by decide), U6, S6, U5, S5]
    exact (k5 i hi).1
  obtain ⟨o7, k17, k18⟩ := pu_placeT F6 z6
  generalize fa_placeTrees τ6 = σ at o7 k17 k18 ⊢
  have U7 : pu_u σ = pu_u τ6 := pu_cgU (o7 11 (by decide) (by decide) (by decide))
  have S7 : pu_S σ = pu_S τ6 := pu_cgS (o7 12 (by decide) (by decide) (by decide))
  have B7 : pu_bf σ = pu_bf τ6 := pu_cgB (o7 11 (by decide) (by decide) (by decide)) (o7 12 (by decide) (by decide) (by decide)) (o7 14 (by decide) (by decide) (by decide))
  have a6 : ∀ a, a ≠ 16 → a ≠ 17 → a ≠ 18 → a ≠ 19 → a ≠ 20 → σ a = τ5 a := fun a h1 h2 h3 h4 h5 => (o7 a h1 h2 h3).trans (o6 a h4 h5)
  have e11 : σ 11 = τ5 11 := a6 11 (by decide) (by decide) (by decide) (by decide) (by decide)
  have e12 : σ 12 = τ5 12 := a6 12 (by decide) (by decide) (by decide) (by decide) (by decide)
  have e14 : σ 14 = τ5 14 := a6 14 (by decide) (by decide) (by decide) (by decide) (by decide)
  have hD : ∀ x, fa_dayOf σ x = fa_dayOf τ4 x := pu_cgD ((a6 0 (by decide) (by decide) (by decide) (by decide) (by decide)).trans (o5 0 (by decide) (by decide) (by decide))) ((a6 5 (by decide) (by decide) (by decide) (by decide) (by decide)).trans (o5 5 (by decide) (by decide) (by decide)))
  refine ⟨⟨pu_cgF (o7 11 (by decide) (by decide) (by decide)) (o7 12 (by decide) (by decide) (by decide)) F6, fun i hi => ?_, fun i hi => ?_, fun i hi hS => ?_, ?_, fun r hr c => ?_, fun y hy => ?_⟩, ⟨fun j hj => ?_, fun j hj => ?_, fun j hj => ?_⟩, fun a ha => ?_⟩
  · rw [o7 15 (by decide) (by decide) (by decide), U7, S7]; exact z6 i hi
  · rw [U7, S7, B7]; exact k17 i hi
  · rw [U7, S7, B7]; rw [S7] at hS; exact k18 i hi hS
  · rw [o7 20 (by decide) (by decide) (by decide), k20, pu_cgR e11 e12]
  · rw [o7 19 (by decide) (by decide) (by decide), pu_cgP e11 e12 e14]
    rw [pu_cgR e11 e12] at c
    exact k19 r hr c
  · rw [e14, e11, U7, S7, U6, S6, U5, S5, hD, (k5 y hy).2.2, o5 11 (by decide) (by decide) (by decide)]
    simp only [hD]
    rfl
  · rw [a6 9 (by decide) (by decide) (by decide) (by decide) (by decide), o5 9 (by decide) (by decide) (by decide)]; exact k9 j hj
  · rw [e11, o5 11 (by decide) (by decide) (by decide)]; exact k11 j hj
  · rw [e12, o5 12 (by decide) (by decide) (by decide)]; exact k12 j hj
  · rw [a6 a (by omega) (by omega) (by omega) (by omega) (by omega), o5 a (by omega) (by omega) (by omega)]
    exact o4 a (by omega) (by omega) (by omega) (by omega)
