/-! ===== 52: the law's loop ===== -/
set_option maxHeartbeats 4000000 in
set_option maxRecDepth 100000 in
theorem lq_loop {l : Launch} {p : Program} {e : Env} {s : State} {m : MethodId} {below : List Frame} {meth : Method} {c : Code} {D : va_G} {h g : Nat → Nat} {o : Nat} {cI cZ cJ : ClassId} {b L : Nat} {xs : Nat → Int32} (E : lq_E l p s m meth c D h g o cI cZ cJ b L xs) (hL : L ≤ 3584) :
    ∀ (f n : Nat) (u : Nat → Int64) (σ μ : tg_Mem), 7 * n ≤ L → L < 7 * n + 7 * f → pu_REL σ μ → lq_G l p e s m below meth c D h g o cI cZ cJ b (39 + n) (1091 + 6 * n) u σ μ 23 [(0, .ref b), (1, .ref (h 0)), (2, .ref (g 0)), (3, .ref o), (4, .int (nI (7 * n)))] [] := by
  have S := lq_S E
  intro f
  induction f with
  | zero => intro n u σ μ h1 h2; exact absurd h2 (by omega)
  | succ f ih =>
    intro n u σ μ h1 h2 hR
    have hsub : (nI L - nI 7).toInt = (L : Int) - 7 := pk_sub_toInt (a := L) (b := 7) (by omega) (by omega)
    have hi : (nI (7 * n)).toInt = ((7 * n : Nat) : Int) := nI_toInt (by omega)
    refine tg_iload S 4 dL_law_23 rfl ?_
    refine tg_aload_n S 0 dL_law_25 rfl rfl ?_
    refine lq_slen E dL_law_26 ?_
    refine tg_bipush (v := nI 7) S dL_law_27 (by decide) ?_
    refine tg_isub S dL_law_29 ?_
    refine lq_icmp_gt (tgt := 1132) E dL_law_30 (by decide) (fun _ => ?_) (fun hc => ?_)
    · intro H locs ls hP hS hl
      refine lv_iconst (v := 1) S.1 S.2.1 dL_law_1132 (by decide) ?_
      refine va_forget (fun q hq => hS.2.2 q hq) ?_
      refine W.widen (k := 1073) (n := 9343) (by omega) (by omega) ?_
      exact lw_ret E.1.1 E.1.2.1 E.1.2.2.1 E.1.2.2.2.2.2.2.2.2.1 dL_law_1133
    · have hn : 7 * n + 7 ≤ L := by
        rw [Int32.lt_iff_toInt_lt, hsub, hi] at hc
        omega
      have hk : (39 + n) + 1 ≤ 1000 ∧ (1091 + 6 * n) + 6 ≤ 9000 := ⟨by omega, by omega⟩
      have kn : ∀ (u' : Nat → Int64) (σ' μ' : tg_Mem), pu_REL σ' μ' → lq_G l p e s m below meth c D h g o cI cZ cJ b (39 + n + 1) (1091 + 6 * n + 6) u' σ' μ' 1126 [(0, .ref b), (1, .ref (h 0)), (2, .ref (g 0)), (3, .ref o), (4, .int (nI (7 * n)))] [] := by
        intro u' σ' μ' hR'
        refine tg_iinc (v := nI (7 * (n + 1))) [1, 2, 3, 4, 0] S 4 dL_law_1126 rfl (by show nI (7 * n) + nI 7 = _; rw [nI_add]; rfl) (by decide) rfl ?_
        refine tg_goto (tgt := 23) S dL_law_1129 (by decide) ?_
        have hh := ih (n + 1) u' σ' μ' (by omega) (by omega) hR'
        rw [show 39 + (n + 1) = 39 + n + 1 by omega, show 1091 + 6 * (n + 1) = 1091 + 6 * n + 6 by omega] at hh
        exact hh
      refine tg_aload_n S 0 dL_law_33 rfl rfl ?_
      refine tg_iload S 4 dL_law_34 rfl ?_
      refine lq_sld (v := xs (7 * n)) E (tg_in (by omega) (by omega)) (by rw [tg_cl (by omega)]) dL_law_36 ?_
      refine tg_bipush (v := 31) S dL_law_37 (by decide) ?_
      refine lq_iand E dL_law_39 ?_
      generalize xs (7 * n) &&& 31 = x
      by_cases c1 : x.toInt < 0
      · exact lq_tabO (tgt := 1126) E dL_law_40 (Or.inl c1) (by decide) (lq_widen (by omega) (by omega) (kn u σ μ hR))
      · by_cases c2 : 16 < x.toInt
        · exact lq_tabO (tgt := 1126) E dL_law_40 (Or.inr c2) (by decide) (lq_widen (by omega) (by omega) (kn u σ μ hR))
        · rcases (show x.toInt = 0 ∨ x.toInt = 1 ∨ x.toInt = 2 ∨ x.toInt = 3 ∨ x.toInt = 4 ∨ x.toInt = 5 ∨ x.toInt = 6 ∨ x.toInt = 7 ∨ x.toInt = 8 ∨ x.toInt = 9 ∨ x.toInt = 10 ∨ x.toInt = 11 ∨ x.toInt = 12 ∨ x.toInt = 13 ∨ x.toInt = 14 ∨ x.toInt = 15 ∨ x.toInt = 16 by omega) with hx | hx | hx | hx | hx | hx | hx | hx | hx | hx | hx | hx | hx | hx | hx | hx | hx
          · exact lq_tabI (off := 84) (tgt := 124) E dL_law_40 c1 c2 (by rw [hx]; rfl) (by decide) (lq_case_letter E hL hn hk hR kn)
          · exact lq_tabI (off := 202) (tgt := 242) E dL_law_40 c1 c2 (by rw [hx]; rfl) (by decide) (lq_case_delete E hL hn hk hR kn)
          · exact lq_tabI (off := 258) (tgt := 298) E dL_law_40 c1 c2 (by rw [hx]; rfl) (by decide) (lq_case_split E hL hn hk hR kn)
          · exact lq_tabI (off := 314) (tgt := 354) E dL_law_40 c1 c2 (by rw [hx]; rfl) (by decide) (lq_case_join E hL hn hk hR kn)
          · exact lq_tabI (off := 382) (tgt := 422) E dL_law_40 c1 c2 (by rw [hx]; rfl) (by decide) (lq_case_release E hL hn hk hR kn)
          · exact lq_tabI (off := 445) (tgt := 485) E dL_law_40 c1 c2 (by rw [hx]; rfl) (by decide) (lq_case_read E hL hn hk hR kn)
          · exact lq_tabI (off := 501) (tgt := 541) E dL_law_40 c1 c2 (by rw [hx]; rfl) (by decide) (lq_case_state E hL hn hk hR kn)
          · exact lq_tabI (off := 557) (tgt := 597) E dL_law_40 c1 c2 (by rw [hx]; rfl) (by decide) (lq_case_parent E hL hn hk hR kn)
          · exact lq_tabI (off := 613) (tgt := 653) E dL_law_40 c1 c2 (by rw [hx]; rfl) (by decide) (lq_case_children E hL hn hk hR kn)
          · exact lq_tabI (off := 669) (tgt := 709) E dL_law_40 c1 c2 (by rw [hx]; rfl) (by decide) (lq_case_roots E hL hn hk hR kn)
          · exact lq_tabI (off := 682) (tgt := 722) E dL_law_40 c1 c2 (by rw [hx]; rfl) (by decide) (lq_case_root E hL hn hk hR kn)
          · exact lq_tabI (off := 738) (tgt := 778) E dL_law_40 c1 c2 (by rw [hx]; rfl) (by decide) (lq_case_inTree E hL hn hk hR kn)
          · exact lq_tabI (off := 806) (tgt := 846) E dL_law_40 c1 c2 (by rw [hx]; rfl) (by decide) (lq_case_depth E hL hn hk hR kn)
          · exact lq_tabI (off := 862) (tgt := 902) E dL_law_40 c1 c2 (by rw [hx]; rfl) (by decide) (lq_case_letters E hL hn hk hR kn)
          · exact lq_tabI (off := 918) (tgt := 958) E dL_law_40 c1 c2 (by rw [hx]; rfl) (by decide) (lq_case_unread E hL hn hk hR kn)
          · exact lq_tabI (off := 974) (tgt := 1014) E dL_law_40 c1 c2 (by rw [hx]; rfl) (by decide) (lq_case_people E hL hn hk hR kn)
          · exact lq_tabI (off := 1030) (tgt := 1070) E dL_law_40 c1 c2 (by rw [hx]; rfl) (by decide) (lq_case_latest E hL hn hk hR kn)
