/-! ===== 22: the owed statement is refuted: at a script of 49 zeros ===== -/
/-- the start of the walk: the script is 49 zeros -/
def vr_P (b : Addr) (args : Array Value) (s : State) : Prop := args = #[.ref b] ∧ va_X b 49 (fun _ => 0) s s.heap ∧ b < s.heap.size ∧ (Jvm.Cond.and given_1 narrow_1).before args s = true
set_option maxHeartbeats 4000000 in
theorem vr_walk (l : Launch) (hflags : l.flags = flags0) (b : Addr) : MetFree l x (headSpec (Jvm.Cond.code x code maxLocals ret :: tables_1) vr_rm) (vr_P b) (fun _ _ _ _ _ => True) vr_Q := by
  refine MetFree.of_bodyS (code := code) (maxLocals := maxLocals) (ret := ret) (by decide) ?_ ?_
  · intro args s m h hn
    obtain ⟨meth, c, h1, h2, h3, h4, h5, h6, -, -⟩ := Cond.code_spec hn (atoms_spec (ws := Jvm.Cond.code x code maxLocals ret :: tables_1) h _ List.mem_cons_self)
    exact ⟨meth, c, h1, h2, h3, h4, h5, h6⟩
  · intro p e s m args below meth c s₁ B hml0 hP _
    obtain ⟨rfl, hX, hbl, hgv⟩ := hP
    have hown : s.vm.findClass R_law = some m.cls := findClass_of_methodNamed B.named
    have hts0 : ∀ c ∈ (Jvm.Cond.code x code maxLocals ret :: tables_1), c.before #[Value.ref b] s = true := atoms_spec (ws := Jvm.Cond.code x code maxLocals ret :: tables_1) B.pre
    have hts : ∀ w ∈ lw_tbl, w.before #[Value.ref b] s = true := k2_hts_sels lw_privs (fun w hw => hts0 w (List.mem_cons_of_mem _ hw)) lw_privs_ok
    have hml : c.maxLocals = 10 := B.maxLocals_eq (hts0 _ List.mem_cons_self)
    have X₀ : Stand p l e vr_rm s m #[Value.ref b] below meth c s₁ [] 0 0 := Stand.of_body B
    have hh0 : s₁.heap = s.heap := by rw [B.state]; rfl
    have K : W p l e vr_rm s m #[Value.ref b] below meth c s₁.heap [] 0 0 (MQ below vr_Q #[Value.ref b] s 15000 91000 (vr_A s)) (entryFrame m ([Value.ref b] : List Value).toArray 10) := by
      rw [hh0]
      exact vr_start l hflags (xs := fun _ => 0) (fun _ _ => rfl) ⟨B.exec, B.bytes, B.returns, hml, hown, hts, hX, hbl, B.notSynchronized, hgv⟩
    obtain ⟨t, a1, o, b1, b2, b3, -⟩ := K s₁ rfl X₀
    exact ⟨t, o, a1, b1, b2, b3⟩
/-- a start that the statement allows: the witness's own, but with 49 zeros for a script -/
def vr_s : State := start1.aboutOf (Array.replicate 49 (.int 0))
set_option maxRecDepth 100000 in
theorem vr_ots : ∀ w ∈ (Cond.code x code maxLocals ret :: tables_1).filter (fun w => !vx_ot w), w.before start1.args0 vr_s = true := by decide +kernel
theorem vr_words : ∀ w ∈ (Cond.code x code maxLocals ret :: tables_1), w.before start1.args0 vr_s = true := fun w hw => by
  by_cases h : vx_ot w = true
  · exact vx_ot_at (U := vr_s) (State.WarmedH.refl start1.about) rfl h (start1.words w hw)
  · exact vr_ots w (List.mem_filter.mpr ⟨hw, by simp [h]⟩)
set_option maxRecDepth 16384 in
theorem vr_atStart : AtStart classFile x code maxLocals ret World_1 tables_1 room_1 Calls_1 rest_1 Pre_1 launch0 start1.p0 start1.e0 vr_s ⟨0, 0⟩ start1.args0 Lib.HandBits.below0 :=
  ⟨lists_1, trivial, launch0.admits_env _ _ _, launch0.least_env, fairChoices_fair.cas, fairChoices_fair.clock, rfl, by decide +kernel, by decide +kernel,
    (Spec.applies_iff rfl).mpr ⟨rfl, rfl, rfl, by decide +kernel, by decide +kernel, by decide +kernel, launch0.hasRoom_least _ room_1 (by decide +kernel) (by decide +kernel) (by decide +kernel) (by decide +kernel) (by decide +kernel) (by decide +kernel), atoms_intro vr_words⟩,
    trivial, (show rest_1_c.before start1.args0 vr_s = true by decide +kernel), (show (Cond.and given_1 narrow_1).before start1.args0 vr_s = true by decide +kernel)⟩
set_option maxRecDepth 16384 in
/-- it has room for the walk too -/
theorem vr_applies : (headSpec (Cond.code x code maxLocals ret :: tables_1) vr_rm).applies x start1.e0.platform vr_s = true :=
  (Spec.applies_iff rfl).mpr ⟨rfl, rfl, rfl, by decide +kernel, by decide +kernel, by decide +kernel, launch0.hasRoom_least _ vr_rm (by decide +kernel) (by decide +kernel) (by decide +kernel) (by decide +kernel) (by decide +kernel) (by decide +kernel), atoms_intro vr_words⟩
theorem vr_X : va_X 0 49 (fun _ => 0) vr_s vr_s.heap :=
  ⟨{ cls := 14, slots := Array.replicate 49 (.int 0), vm := .none }, rfl, ⟨fun k h => by (cases h), start1.cArr "[I" 13 .int, rfl, 13, rfl⟩, fun h => by (cases h), Array.size_replicate, fun j hj => by rw [Array.getElem?_replicate, if_pos hj]⟩
/-- THE OWED STATEMENT IS FALSE: at the start vr_s the law either answers 0, or has made more than 130 new cells -/
theorem p20_false : ¬ (Claimed_1_1 ∧ Claimed_1_2) := by
  rintro ⟨c1, c2⟩
  obtain ⟨hL, hW, had, -, hcas, hclk, hfr, hfit, hheap, happ, hcalls, hrest, hpre⟩ := vr_atStart
  obtain ⟨k1, o1, w1, -, e1, q1⟩ := c1 launch0 rfl hL hW start1.p0 start1.e0 had hcas hclk vr_s ⟨0, 0⟩ start1.args0 Lib.HandBits.below0 hfr hfit hheap happ ⟨hcalls, hrest, hpre⟩
  obtain ⟨k2, o2, w2, -, e2, q2⟩ := c2 launch0 rfl hL hW start1.p0 start1.e0 had hcas hclk vr_s ⟨0, 0⟩ start1.args0 Lib.HandBits.below0 hfr hfit hheap happ ⟨hcalls, hrest, hpre⟩
  obtain ⟨n, o, w, -, e, q⟩ := vr_walk launch0 rfl 0 start1.p0 start1.e0 had hcas hclk vr_s ⟨0, 0⟩ start1.args0 Lib.HandBits.below0 hfr ((Spec.applies_iff_loose hfr).mp vr_applies).1 ⟨rfl, vr_X, by decide +kernel, hpre⟩ trivial
  have hk1 : n = k1 := by
    rcases Nat.lt_trichotomy n k1 with h | h | h
    · exact absurd (w1 n h) e.not_within
    · exact h
    · exact absurd (w k1 h) e1.not_within
  have hk2 : n = k2 := by
    rcases Nat.lt_trichotomy n k2 with h | h | h
    · exact absurd (w2 n h) e.not_within
    · exact h
    · exact absurd (w k2 h) e2.not_within
  subst hk1
  subst hk2
  have ho1 := e.outcome_unique e1
  have ho2 := e.outcome_unique e2
  subst ho1
  subst ho2
  rcases q with h0 | hbig
  · have h2 : limb_1_2.after start1.args0 vr_s o (stepsAlone start1.p0.tables start1.e0 n vr_s) = true := q2.1
    rw [h0] at h2
    have h3 := Cond.after_iff.mp h2
    rw [show limb_1_2 = Cond.eq .result (.int 1) from rfl, Cond.eq_ints (x := 0) (y := 1) rfl rfl] at h3
    simp at h3
  · have h1 := q1.2.2.2.2.2.1
    have h2 : (stepsAlone start1.p0.tables start1.e0 n vr_s).heap.size ≤ vr_s.heap.size + 130 := h1
    omega
