/-! ===== 27: how the two joiners come to the same letters ===== -/
theorem wi_inj {f q q' : Nat} (h : q < 16) (h' : q' < 16) (e : (f + 7 * q) % 30 = (f + 7 * q') % 30) : q = q' := by omega
theorem wi_inj2 {f q q' : Nat} (h : q < 8) (h' : q' < 8) (e : (f + 7 * q + 2) % 30 = (f + 7 * q' + 2) % 30) : q = q' := by omega
theorem wi_lt (n : Nat) : n % 30 < 30 := Nat.mod_lt _ (by decide)
/-- the first, behind i letters -/
def wa (xs : Nat → Int32) (L f i : Nat) (σ : tg_Mem) : Prop := (∃ μ, pu_REL σ μ) ∧ (∀ j, j < 30 → (σ 0 j ≠ 0 ↔ ∃ q, q < i ∧ j = (f + 7 * q) % 30)) ∧ ∀ q, q < i → zL σ ((f + 7 * q) % 30) (dn xs L (1 + q))
theorem wa_step {xs : Nat → Int32} {L f i : Nat} {σ : tg_Mem} (h : wa xs L f i σ) (hi : i < 16) : zex σ (nI ((f + 7 * i) % 30)) (dn xs L (1 + i)) = none ∧ ¬ fa_grow (zput σ (nI ((f + 7 * i) % 30)) (dn xs L (1 + i))) 20 0 < 0 ∧ wa xs L f (i + 1) (fa_grow (zput σ (nI ((f + 7 * i) % 30)) (dn xs L (1 + i)))) := by
  obtain ⟨⟨μ, hR⟩, hs, hz⟩ := h
  have hx := wi_lt (f + 7 * i)
  have h0 : σ 0 ((f + 7 * i) % 30) = 0 := Classical.byContradiction (fun c => by
    obtain ⟨q, hq, e⟩ := (hs _ hx).mp c
    have := wi_inj hi (by omega) e
    omega)
  obtain ⟨e1, e2, e3, e4⟩ := zcome (n := dn xs L (1 + i)) hR hx h0
  refine ⟨e1, e2, e3, fun j hj => ?_, fun q hq a ha => ?_⟩
  · rw [e4 0 (by decide) j]
    by_cases c : j = (f + 7 * i) % 30
    · rw [if_pos c]
      exact ⟨fun _ => ⟨i, by omega, c⟩, fun _ => zr0 hx⟩
    · rw [if_neg c, hs j hj]
      exact ⟨fun ⟨q, a, b⟩ => ⟨q, by omega, b⟩, fun ⟨q, a, b⟩ => ⟨q, by
        rcases Nat.lt_or_ge q i with w | w
        · exact w
        · exact absurd (show j = (f + 7 * i) % 30 by rw [b, show q = i by omega]) c, b⟩⟩
  · rw [e4 a ha]
    by_cases c : q = i
    · subst c; rw [if_pos rfl]
    · rw [if_neg (fun w => c (wi_inj (by omega) hi w))]
      exact hz q (by omega) a ha
/-- the second, behind i letters of its own -/
def wb (f i : Nat) (τ : tg_Mem) : Prop := (∃ μ, pu_REL τ μ) ∧ ∀ j, j < 30 → (τ 0 j ≠ 0 ↔ ∃ q, q < i ∧ j = (f + 7 * q + 2) % 30)
theorem wb_step {f i n : Nat} {τ : tg_Mem} (h : wb f i τ) (hi : i < 8) : zex τ (nI ((f + 7 * i + 2) % 30)) n = none ∧ ¬ fa_grow (zput τ (nI ((f + 7 * i + 2) % 30)) n) 20 0 < 0 ∧ wb f (i + 1) (fa_grow (zput τ (nI ((f + 7 * i + 2) % 30)) n)) := by
  obtain ⟨⟨μ, hR⟩, hs⟩ := h
  have hx := wi_lt (f + 7 * i + 2)
  have h0 : τ 0 ((f + 7 * i + 2) % 30) = 0 := Classical.byContradiction (fun c => by
    obtain ⟨q, hq, e⟩ := (hs _ hx).mp c
    have := wi_inj2 hi (by omega) e
    omega)
  obtain ⟨e1, e2, e3, e4⟩ := zcome (n := n) hR hx h0
  refine ⟨e1, e2, e3, fun j hj => ?_⟩
  rw [e4 0 (by decide) j]
  by_cases c : j = (f + 7 * i + 2) % 30
  · rw [if_pos c]
    exact ⟨fun _ => ⟨i, by omega, c⟩, fun _ => zr0 hx⟩
  · rw [if_neg c, hs j hj]
    exact ⟨fun ⟨q, a, b⟩ => ⟨q, by omega, b⟩, fun ⟨q, a, b⟩ => ⟨q, by
      rcases Nat.lt_or_ge q i with w | w
      · exact w
      · exact absurd (show j = (f + 7 * i + 2) % 30 by rw [b, show q = i by omega]) c, b⟩⟩
/-- the second has the letters from the n-th on -/
def wc (xs : Nat → Int32) (L f n : Nat) (τ : tg_Mem) : Prop := (∃ μ, pu_REL τ μ) ∧ ∀ q, n ≤ q → q < 16 → zL τ ((f + 7 * q) % 30) (dn xs L (1 + q))
theorem wc_come {xs : Nat → Int32} {L f n : Nat} {τ : tg_Mem} (h : wc xs L f (n + 1) τ) (hn : n < 16) (h0 : τ 0 ((f + 7 * n) % 30) = 0) : zex τ (nI ((f + 7 * n) % 30)) (dn xs L (1 + n)) = none ∧ ¬ fa_grow (zput τ (nI ((f + 7 * n) % 30)) (dn xs L (1 + n))) 20 0 < 0 ∧ wc xs L f n (fa_grow (zput τ (nI ((f + 7 * n) % 30)) (dn xs L (1 + n)))) := by
  obtain ⟨⟨μ, hR⟩, hz⟩ := h
  have hx := wi_lt (f + 7 * n)
  obtain ⟨e1, e2, e3, e4⟩ := zcome (n := dn xs L (1 + n)) hR hx h0
  refine ⟨e1, e2, e3, fun q hq hq2 a ha => ?_⟩
  rw [e4 a ha]
  by_cases c : q = n
  · subst c; rw [if_pos rfl]
  · rw [if_neg (fun w => c (wi_inj hq2 hn w))]
    exact hz q (by omega) hq2 a ha
theorem wc_del {xs : Nat → Int32} {L f n : Nat} {τ : tg_Mem} (h : wc xs L f (n + 1) τ) (hn : n < 16) (h0 : τ 0 ((f + 7 * n) % 30) ≠ 0) : fx_letter τ (nI ((f + 7 * n) % 30)) = none ∧ ¬ fa_grow (fa_drop τ (nI ((f + 7 * n) % 30))) 20 0 < 0 ∧ wc xs L f (n + 1) (fa_grow (fa_drop τ (nI ((f + 7 * n) % 30)))) ∧ fa_grow (fa_drop τ (nI ((f + 7 * n) % 30))) 0 ((f + 7 * n) % 30) = 0 := by
  obtain ⟨⟨μ, hR⟩, hz⟩ := h
  have hx := wi_lt (f + 7 * n)
  obtain ⟨e1, e2, e3, e4, e5⟩ := zdel hR hx h0
  refine ⟨e1, e2, ⟨e3, fun q hq hq2 a ha => ?_⟩, e4⟩
  rw [e5 a ha _ (fun w => by have := wi_inj hq2 hn w; omega)]
  exact hz q hq hq2 a ha
/-- .. and none below i that the first hasn't -/
def wd (xs : Nat → Int32) (L f i : Nat) (σ τ : tg_Mem) : Prop := wc xs L f 0 τ ∧ ∀ j, j < i → τ 0 j ≠ 0 → σ 0 j ≠ 0
theorem wd_keep {xs : Nat → Int32} {L f i : Nat} {σ τ : tg_Mem} (h : wd xs L f i σ τ) (hk : τ 0 i ≠ 0 → σ 0 i ≠ 0) : wd xs L f (i + 1) σ τ :=
  ⟨h.1, fun j hj c => by
    rcases Nat.lt_or_ge j i with w | w
    · exact h.2 j w c
    · have e : j = i := by omega
      subst e
      exact hk c⟩
theorem wd_del {xs : Nat → Int32} {L f i : Nat} {σ τ : tg_Mem} (ha : wa xs L f 16 σ) (h : wd xs L f i σ τ) (hi : i < 30) (h1 : σ 0 i = 0) (h0 : τ 0 i ≠ 0) : fx_letter τ (nI i) = none ∧ ¬ fa_grow (fa_drop τ (nI i)) 20 0 < 0 ∧ wd xs L f (i + 1) σ (fa_grow (fa_drop τ (nI i))) := by
  obtain ⟨⟨⟨μ, hR⟩, hz⟩, hk⟩ := h
  obtain ⟨e1, e2, e3, e4, e5⟩ := zdel hR hi h0
  refine ⟨e1, e2, ⟨e3, fun q hq hq2 a ha2 => ?_⟩, fun j hj c => ?_⟩
  · have hne : (f + 7 * q) % 30 ≠ i := fun w => by
      have hs := (ha.2.1 i hi).mpr ⟨q, hq2, w.symm⟩
      exact hs h1
    rw [e5 a ha2 _ hne]
    exact hz q hq hq2 a ha2
  · by_cases e : j = i
    · subst e; exact absurd e4 c
    · rw [e5 0 (by decide) j e] at c
      exact hk j (by omega) c
theorem wd_end {xs : Nat → Int32} {L f : Nat} {σ τ : tg_Mem} (ha : wa xs L f 16 σ) (h : wd xs L f 30 σ τ) : sm σ τ := by
  obtain ⟨⟨μ, hR⟩, hs, hz⟩ := ha
  obtain ⟨⟨⟨ν, hR2⟩, hz2⟩, hk⟩ := h
  refine sm_of hR hR2 (fun i hi => ⟨⟨fun c => Classical.byContradiction fun c2 => ?_, fun c => Classical.byContradiction fun c2 => hk i hi c2 c⟩, fun c a ha2 => ?_⟩)
  · obtain ⟨q, hq, e⟩ := (hs i hi).mp c2
    have h1 := hz2 q (Nat.zero_le _) hq 0 (by decide)
    rw [← e] at h1
    exact zr0 hi (h1.symm.trans c)
  · obtain ⟨q, hq, e⟩ := (hs i hi).mp (hk i hi c)
    rw [e, hz2 q (Nat.zero_le _) hq a ha2, hz q hq a ha2]
/-- how an id stands, for the law -/
theorem wst {σ : tg_Mem} {x : Nat} (hx : x < 30) : (vl_k (fx_id (nI x)) (fx_state σ (nI x)) < 3 → σ 0 x = 0) ∧ (¬ vl_k (fx_id (nI x)) (fx_state σ (nI x)) < 3 → σ 0 x ≠ 0) ∧ (vl_k (fx_id (nI x)) (fx_state σ (nI x)) = 3 → σ 0 x ≠ 0) ∧ (¬ vl_k (fx_id (nI x)) (fx_state σ (nI x)) = 3 → σ 0 x = 0) := by
  rw [← vl_kN (zidn hx)]
  obtain ⟨h1, h2⟩ := zst (σ := σ) hx
  refine ⟨fun c => Classical.byContradiction fun q => ?_, fun c q => c (h2 q).1, fun c q => (h2 q).2 c, fun c => Classical.byContradiction fun q => c (h1 q)⟩
  rw [h1 q] at c
  exact absurd c (by decide)
theorem wa_0 {xs : Nat → Int32} {L f : Nat} : wa xs L f 0 (fun _ _ => 0) := by
  refine ⟨⟨tg_upA (fun _ _ => 0) 7 (fun _ => -1), fun i hi => ⟨Iff.rfl, Or.inr ⟨0, by decide, rfl⟩, Or.inr ⟨0, by decide, rfl⟩, Or.inl (Or.inl rfl), fun _ => rfl, fun c => absurd rfl c⟩, Or.inl ⟨fun i hi => ⟨rfl, rfl, rfl⟩, rfl⟩⟩, fun j hj => ⟨fun c => absurd rfl c, fun ⟨q, a, b⟩ => absurd a (Nat.not_lt_zero q)⟩, fun q hq => absurd hq (Nat.not_lt_zero q)⟩
theorem wb_0 {f : Nat} : wb f 0 (fun _ _ => 0) := ⟨(wa_0 (xs := fun _ => 0) (L := 0) (f := 0)).1, fun j hj => ⟨fun c => absurd rfl c, fun ⟨q, a, b⟩ => absurd a (Nat.not_lt_zero q)⟩⟩
