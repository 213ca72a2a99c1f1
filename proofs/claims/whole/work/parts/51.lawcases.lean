/-! ===== 51: the law's calls, one by one (printed by wip/whole/genW.py) ===== -/
section LQA
variable {l : Launch} {p : Program} {e : Env} {s : State} {m : MethodId} {below : List Frame} {meth : Method} {c : Code} {D : va_G} {h g : Nat → Nat} {o : Nat} {cI cZ cJ : ClassId} {b L : Nat} {xs : Nat → Int32}
variable {k z : Nat} {u : Nat → Int64} {σ μ : tg_Mem} {pc : Nat} {LL : List (Nat × Value)} {st : List Value}
/-- an int of the script is pushed -/
theorem lq_arg (E : lq_E l p s m meth c D h g o cI cZ cJ b L xs) {n j : Nat} {jj : Int} (q0 q4 : Nat) (h0 : LL[q0]? = some (0, .ref b)) (h4 : LL[q4]? = some (4, .int (nI (7 * n)))) (hj : 7 * n + j < L) (hL : L ≤ 3584) (hjj : Int32.ofInt jj = nI j)
    (d0 : decode code pc = .ok (.aload_n 0, 1)) (d1 : decode code (pc + 1) = .ok (.iload 4, 2)) (d2 : decode code (pc + 1 + 2) = .ok (.iconst jj, 1)) (d3 : decode code (pc + 1 + 2 + 1) = .ok (.iadd, 1)) (d4 : decode code (pc + 1 + 2 + 1 + 1) = .ok (.iaload, 1))
    (kn : lq_G l p e s m below meth c D h g o cI cZ cJ b k z u σ μ (pc + 1 + 2 + 1 + 1 + 1) LL (.int (xs (7 * n + j)) :: st)) : lq_G l p e s m below meth c D h g o cI cZ cJ b k z u σ μ pc LL st := by
  have S := lq_S E
  refine tg_aload_n S q0 d0 rfl h0 ?_
  refine tg_iload S q4 d1 h4 ?_
  refine tg_iconst S d2 hjj ?_
  refine tg_iadd S d3 ?_
  rw [nI_add]
  exact lq_sld E (tg_in hj (by omega)) (by rw [tg_cl (by omega)]) d4 kn
theorem lq_arg6 (E : lq_E l p s m meth c D h g o cI cZ cJ b L xs) {n j : Nat} {jj : Int} (q0 q4 : Nat) (h0 : LL[q0]? = some (0, .ref b)) (h4 : LL[q4]? = some (4, .int (nI (7 * n)))) (hj : 7 * n + j < L) (hL : L ≤ 3584) (hjj : (Int8.ofInt jj).toInt32 = nI j)
    (d0 : decode code pc = .ok (.aload_n 0, 1)) (d1 : decode code (pc + 1) = .ok (.iload 4, 2)) (d2 : decode code (pc + 1 + 2) = .ok (.bipush jj, 2)) (d3 : decode code (pc + 1 + 2 + 2) = .ok (.iadd, 1)) (d4 : decode code (pc + 1 + 2 + 2 + 1) = .ok (.iaload, 1))
    (kn : lq_G l p e s m below meth c D h g o cI cZ cJ b k z u σ μ (pc + 1 + 2 + 2 + 1 + 1) LL (.int (xs (7 * n + j)) :: st)) : lq_G l p e s m below meth c D h g o cI cZ cJ b k z u σ μ pc LL st := by
  have S := lq_S E
  refine tg_aload_n S q0 d0 rfl h0 ?_
  refine tg_iload S q4 d1 h4 ?_
  refine tg_bipush S d2 hjj ?_
  refine tg_iadd S d3 ?_
  rw [nI_add]
  exact lq_sld E (tg_in hj (by omega)) (by rw [tg_cl (by omega)]) d4 kn
theorem tl_u0 {u : Nat → Int64} {x : Int64} : tl_u u x 0 = x := by simp [tl_u, vp_updL]
theorem lq_out {ex : Option String} {kk a b : Int32} {σ1 σ μ' : tg_Mem} {u : Nat → Int64} (hOK : pu_OK ex kk σ1 σ μ' a b) (hn : ex = none) : lg_cmp (tl_s ex (tl_u u a.toInt64) u 0) b.toInt64 = 0 := by
  have h := hOK.2.1 hn
  subst hn
  rw [lg_cmp_eq, ← h]
  exact tl_u0
theorem lq_outB {ex : Option String} {kk : Int32} {t B : Bool} {σ1 σ μ' : tg_Mem} {u : Nat → Int64} (hOK : pu_OK ex kk σ1 σ μ' (tg_b t) (tg_b B)) (hn : ex = none) : lg_cmp (tl_s ex (tl_u u (if t = true then 1 else 0)) u 0) (if B = true then 1 else 0) = 0 := by
  have h := hOK.2.1 hn
  subst hn
  have e : t = B := by cases t <;> cases B <;> first | rfl | exact absurd h (by decide)
  rw [lg_cmp_eq, e]
  exact tl_u0
end LQA
set_option maxHeartbeats 4000000 in
set_option maxRecDepth 100000 in
theorem lq_case_letter {l : Launch} {p : Program} {e : Env} {s : State} {m : MethodId} {below : List Frame} {meth : Method} {c : Code} {D : va_G} {h g : Nat → Nat} {o : Nat} {cI cZ cJ : ClassId} {b L : Nat} {xs : Nat → Int32} {k z : Nat} {u : Nat → Int64} {σ μ : tg_Mem} (E : lq_E l p s m meth c D h g o cI cZ cJ b L xs) {n : Nat} (hL : L ≤ 3584) (hn : 7 * n + 7 ≤ L) (hk : k + 1 ≤ 1000 ∧ z + 6 ≤ 9000) (hR : pu_REL σ μ) (kn : ∀ (u' : Nat → Int64) (σ' μ' : tg_Mem), pu_REL σ' μ' → lq_G l p e s m below meth c D h g o cI cZ cJ b (k + 1) (z + 6) u' σ' μ' 1126 [(0, .ref b), (1, .ref (h 0)), (2, .ref (g 0)), (3, .ref o), (4, .int (nI (7 * n)))] []) : lq_G l p e s m below meth c D h g o cI cZ cJ b k z u σ μ 124 [(0, .ref b), (1, .ref (h 0)), (2, .ref (g 0)), (3, .ref o), (4, .int (nI (7 * n)))] [] := by
  have S := lq_S E
  have hd := E.2.2.2.2.1
  have hg := E.2.2.2.2.2.1
  have hl := E.2.2.2.2.2.2.2.2.2
  obtain ⟨hH, hOK⟩ := pu_letterK hR (xs (7 * n + 1)) (xs (7 * n + 2)) (xs (7 * n + 3)) (xs (7 * n + 4)) (xs (7 * n + 5)) (xs (7 * n + 6))
  refine tg_aload_n S 1 dL_law_124 rfl rfl ?_
  refine lq_arg E (n := n) (j := 1) 0 4 rfl rfl (by omega) hL (by decide) dL_law_125 dL_law_126 dL_law_128 dL_law_129 dL_law_130 ?_
  refine lq_arg E (n := n) (j := 2) 0 4 rfl rfl (by omega) hL (by decide) dL_law_131 dL_law_132 dL_law_134 dL_law_135 dL_law_136 ?_
  refine lq_arg E (n := n) (j := 3) 0 4 rfl rfl (by omega) hL (by decide) dL_law_137 dL_law_138 dL_law_140 dL_law_141 dL_law_142 ?_
  refine lq_arg E (n := n) (j := 4) 0 4 rfl rfl (by omega) hL (by decide) dL_law_143 dL_law_144 dL_law_146 dL_law_147 dL_law_148 ?_
  refine lq_arg E (n := n) (j := 5) 0 4 rfl rfl (by omega) hL (by decide) dL_law_149 dL_law_150 dL_law_152 dL_law_153 dL_law_154 ?_
  refine lq_arg6 E (n := n) (j := 6) 0 4 rfl rfl (by omega) hL (by decide) dL_law_155 dL_law_156 dL_law_158 dL_law_160 dL_law_161 ?_
  refine tg_aload_n S 3 dL_law_162 rfl rfl ?_
  refine lq_callL E (nA := 8) (As := [.ref (h 0), .int (xs (7 * n + 1)), .int (xs (7 * n + 2)), .int (xs (7 * n + 3)), .int (xs (7 * n + 4)), .int (xs (7 * n + 5)), .int (xs (7 * n + 6)), .ref o]) (rest := []) (k_L_letter hd hl σ u (xs (7 * n + 1)) (xs (7 * n + 2)) (xs (7 * n + 3)) (xs (7 * n + 4)) (xs (7 * n + 5)) (xs (7 * n + 6))) (lq_good in_RL (tw_gS ml_RL_71 st_L_letter in_RL co_L_letter rfl)) rfl (by decide +kernel) ⟨Nat.le_of_ble_eq_true rfl, Nat.le_of_ble_eq_true rfl⟩ rfl rfl (Nat.le_of_ble_eq_true rfl) dL_law_163 ⟨(by show k + 1 ≤ 1073; omega), (by show z + 6 ≤ 9343; omega)⟩ ?_
  refine tg_istore [1, 2, 3, 4, 5, 0] S dL_law_166 (by decide) rfl ?_
  refine tg_aload_n S 2 dL_law_168 rfl rfl ?_
  refine lq_arg E (n := n) (j := 1) 0 4 rfl rfl (by omega) hL (by decide) dL_law_169 dL_law_170 dL_law_172 dL_law_173 dL_law_174 ?_
  refine lq_arg E (n := n) (j := 2) 0 4 rfl rfl (by omega) hL (by decide) dL_law_175 dL_law_176 dL_law_178 dL_law_179 dL_law_180 ?_
  refine lq_arg E (n := n) (j := 3) 0 4 rfl rfl (by omega) hL (by decide) dL_law_181 dL_law_182 dL_law_184 dL_law_185 dL_law_186 ?_
  refine lq_arg E (n := n) (j := 4) 0 4 rfl rfl (by omega) hL (by decide) dL_law_187 dL_law_188 dL_law_190 dL_law_191 dL_law_192 ?_
  refine lq_arg E (n := n) (j := 5) 0 4 rfl rfl (by omega) hL (by decide) dL_law_193 dL_law_194 dL_law_196 dL_law_197 dL_law_198 ?_
  refine lq_arg6 E (n := n) (j := 6) 0 4 rfl rfl (by omega) hL (by decide) dL_law_199 dL_law_200 dL_law_202 dL_law_204 dL_law_205 ?_
  refine lq_callM E (fr := 4) (nA := 6) (As := [.int (xs (7 * n + 1)), .int (xs (7 * n + 2)), .int (xs (7 * n + 3)), .int (xs (7 * n + 4)), .int (xs (7 * n + 5)), .int (xs (7 * n + 6))]) (rest := []) (k_X3_letter hg μ (xs (7 * n + 1)) (xs (7 * n + 2)) (xs (7 * n + 3)) (xs (7 * n + 4)) (xs (7 * n + 5)) (xs (7 * n + 6)) hH) (lq_good in_RL (tw_gV ml_RL_76 im_X3_letter se_X3_letter in_RX3 co_X3_letter rfl)) rfl (by decide +kernel) ⟨Nat.le_of_ble_eq_true rfl, Nat.le_of_ble_eq_true rfl⟩ rfl rfl (Nat.le_of_ble_eq_true rfl) dL_law_206 ⟨(by show k + 1 ≤ 1073; omega), (by show z + 6 ≤ 9343; omega)⟩ ?_
  refine tg_istore [1, 2, 3, 4, 5, 6, 0] S dL_law_209 (by decide) rfl ?_
  refine tg_aload_n S 2 dL_law_211 rfl rfl ?_
  refine lq_callM E (fr := 0) (nA := 0) (As := []) (rest := []) (k_X3_thrown hg _) (lq_good in_RL (tw_gV ml_RL_77 im_X3_thrown se_X3_thrown in_RX3 co_X3_thrown rfl)) rfl (by decide +kernel) ⟨Nat.le_of_ble_eq_true rfl, Nat.le_of_ble_eq_true rfl⟩ rfl rfl (Nat.le_of_ble_eq_true rfl) dL_law_212 ⟨(by show k + 1 ≤ 1073; omega), (by show z + 6 ≤ 9343; omega)⟩ ?_
  refine tg_iload S 5 dL_law_215 rfl ?_
  refine tg_icmp_eq (tgt := 222) S dL_law_217 (by decide) (fun _ => ?_) (fun hc => absurd hOK.1 hc)
  refine tg_iload S 5 dL_law_222 rfl ?_
  refine tg_if_ne (tgt := 239) S dL_law_224 (by decide) (fun _ => ?_) (fun hz => ?_)
  · refine tg_goto (tgt := 1126) S dL_law_239 (by decide) ?_
    refine tg_sub (L' := [(0, .ref b), (1, .ref (h 0)), (2, .ref (g 0)), (3, .ref o), (4, .int (nI (7 * n)))]) [0, 1, 2, 3, 4] rfl ?_
    exact kn _ _ _ hOK.2.2
  · refine tg_aload_n S 3 dL_law_227 rfl rfl ?_
    refine tg_iconst (v := 0) S dL_law_228 (by decide) ?_
    refine lq_lald E dL_law_229 ?_
    refine tg_iload S 6 dL_law_230 rfl ?_
    refine tl_i2l S dL_law_232 ?_
    refine lq_lcmp E dL_law_233 ?_
    refine tg_if_eq (tgt := 239) S dL_law_234 (by decide) (fun _ => ?_) (fun hc => absurd (lq_out hOK (tl_k0 hz)) hc)
    refine tg_goto (tgt := 1126) S dL_law_239 (by decide) ?_
    refine tg_sub (L' := [(0, .ref b), (1, .ref (h 0)), (2, .ref (g 0)), (3, .ref o), (4, .int (nI (7 * n)))]) [0, 1, 2, 3, 4] rfl ?_
    exact kn _ _ _ hOK.2.2
set_option maxHeartbeats 4000000 in
set_option maxRecDepth 100000 in
theorem lq_case_delete {l : Launch} {p : Program} {e : Env} {s : State} {m : MethodId} {below : List Frame} {meth : Method} {c : Code} {D : va_G} {h g : Nat → Nat} {o : Nat} {cI cZ cJ : ClassId} {b L : Nat} {xs : Nat → Int32} {k z : Nat} {u : Nat → Int64} {σ μ : tg_Mem} (E : lq_E l p s m meth c D h g o cI cZ cJ b L xs) {n : Nat} (hL : L ≤ 3584) (hn : 7 * n + 7 ≤ L) (hk : k + 1 ≤ 1000 ∧ z + 6 ≤ 9000) (hR : pu_REL σ μ) (kn : ∀ (u' : Nat → Int64) (σ' μ' : tg_Mem), pu_REL σ' μ' → lq_G l p e s m below meth c D h g o cI cZ cJ b (k + 1) (z + 6) u' σ' μ' 1126 [(0, .ref b), (1, .ref (h 0)), (2, .ref (g 0)), (3, .ref o), (4, .int (nI (7 * n)))] []) : lq_G l p e s m below meth c D h g o cI cZ cJ b k z u σ μ 242 [(0, .ref b), (1, .ref (h 0)), (2, .ref (g 0)), (3, .ref o), (4, .int (nI (7 * n)))] [] := by
  have S := lq_S E
  have hd := E.2.2.2.2.1
  have hg := E.2.2.2.2.2.1
  have hl := E.2.2.2.2.2.2.2.2.2
  obtain ⟨hH, hOK⟩ := pu_deleteK hR (xs (7 * n + 1))
  refine tg_aload_n S 1 dL_law_242 rfl rfl ?_
  refine lq_arg E (n := n) (j := 1) 0 4 rfl rfl (by omega) hL (by decide) dL_law_243 dL_law_244 dL_law_246 dL_law_247 dL_law_248 ?_
  refine tg_aload_n S 3 dL_law_249 rfl rfl ?_
  refine lq_callL E (nA := 3) (As := [.ref (h 0), .int (xs (7 * n + 1)), .ref o]) (rest := []) (k_L_delete hd hl σ u (xs (7 * n + 1))) (lq_good in_RL (tw_gS ml_RL_81 st_L_delete in_RL co_L_delete rfl)) rfl (by decide +kernel) ⟨Nat.le_of_ble_eq_true rfl, Nat.le_of_ble_eq_true rfl⟩ rfl rfl (Nat.le_of_ble_eq_true rfl) dL_law_250 ⟨(by show k + 1 ≤ 1073; omega), (by show z + 6 ≤ 9343; omega)⟩ ?_
  refine tg_istore [1, 2, 3, 4, 5, 0] S dL_law_253 (by decide) rfl ?_
  refine tg_aload_n S 2 dL_law_255 rfl rfl ?_
  refine lq_arg E (n := n) (j := 1) 0 4 rfl rfl (by omega) hL (by decide) dL_law_256 dL_law_257 dL_law_259 dL_law_260 dL_law_261 ?_
  refine lq_callM E (fr := 4) (nA := 1) (As := [.int (xs (7 * n + 1))]) (rest := []) (k_X3_delete hg μ (xs (7 * n + 1)) hH) (lq_good in_RL (tw_gV ml_RL_84 im_X3_delete se_X3_delete in_RX3 co_X3_delete rfl)) rfl (by decide +kernel) ⟨Nat.le_of_ble_eq_true rfl, Nat.le_of_ble_eq_true rfl⟩ rfl rfl (Nat.le_of_ble_eq_true rfl) dL_law_262 ⟨(by show k + 1 ≤ 1073; omega), (by show z + 6 ≤ 9343; omega)⟩ ?_
  refine tg_istore [1, 2, 3, 4, 5, 6, 0] S dL_law_265 (by decide) rfl ?_
  refine tg_aload_n S 2 dL_law_267 rfl rfl ?_
  refine lq_callM E (fr := 0) (nA := 0) (As := []) (rest := []) (k_X3_thrown hg _) (lq_good in_RL (tw_gV ml_RL_77 im_X3_thrown se_X3_thrown in_RX3 co_X3_thrown rfl)) rfl (by decide +kernel) ⟨Nat.le_of_ble_eq_true rfl, Nat.le_of_ble_eq_true rfl⟩ rfl rfl (Nat.le_of_ble_eq_true rfl) dL_law_268 ⟨(by show k + 1 ≤ 1073; omega), (by show z + 6 ≤ 9343; omega)⟩ ?_
  refine tg_iload S 5 dL_law_271 rfl ?_
  refine tg_icmp_eq (tgt := 278) S dL_law_273 (by decide) (fun _ => ?_) (fun hc => absurd hOK.1 hc)
  refine tg_iload S 5 dL_law_278 rfl ?_
  refine tg_if_ne (tgt := 295) S dL_law_280 (by decide) (fun _ => ?_) (fun hz => ?_)
  · refine tg_goto (tgt := 1126) S dL_law_295 (by decide) ?_
    refine tg_sub (L' := [(0, .ref b), (1, .ref (h 0)), (2, .ref (g 0)), (3, .ref o), (4, .int (nI (7 * n)))]) [0, 1, 2, 3, 4] rfl ?_
    exact kn _ _ _ hOK.2.2
  · refine tg_aload_n S 3 dL_law_283 rfl rfl ?_
    refine tg_iconst (v := 0) S dL_law_284 (by decide) ?_
    refine lq_lald E dL_law_285 ?_
    refine tg_iload S 6 dL_law_286 rfl ?_
    refine tl_i2l S dL_law_288 ?_
    refine lq_lcmp E dL_law_289 ?_
    refine tg_if_eq (tgt := 295) S dL_law_290 (by decide) (fun _ => ?_) (fun hc => absurd (lq_out hOK (tl_k0 hz)) hc)
    refine tg_goto (tgt := 1126) S dL_law_295 (by decide) ?_
    refine tg_sub (L' := [(0, .ref b), (1, .ref (h 0)), (2, .ref (g 0)), (3, .ref o), (4, .int (nI (7 * n)))]) [0, 1, 2, 3, 4] rfl ?_
    exact kn _ _ _ hOK.2.2
set_option maxHeartbeats 4000000 in
set_option maxRecDepth 100000 in
theorem lq_case_split {l : Launch} {p : Program} {e : Env} {s : State} {m : MethodId} {below : List Frame} {meth : Method} {c : Code} {D : va_G} {h g : Nat → Nat} {o : Nat} {cI cZ cJ : ClassId} {b L : Nat} {xs : Nat → Int32} {k z : Nat} {u : Nat → Int64} {σ μ : tg_Mem} (E : lq_E l p s m meth c D h g o cI cZ cJ b L xs) {n : Nat} (hL : L ≤ 3584) (hn : 7 * n + 7 ≤ L) (hk : k + 1 ≤ 1000 ∧ z + 6 ≤ 9000) (hR : pu_REL σ μ) (kn : ∀ (u' : Nat → Int64) (σ' μ' : tg_Mem), pu_REL σ' μ' → lq_G l p e s m below meth c D h g o cI cZ cJ b (k + 1) (z + 6) u' σ' μ' 1126 [(0, .ref b), (1, .ref (h 0)), (2, .ref (g 0)), (3, .ref o), (4, .int (nI (7 * n)))] []) : lq_G l p e s m below meth c D h g o cI cZ cJ b k z u σ μ 298 [(0, .ref b), (1, .ref (h 0)), (2, .ref (g 0)), (3, .ref o), (4, .int (nI (7 * n)))] [] := by
  have S := lq_S E
  have hd := E.2.2.2.2.1
  have hg := E.2.2.2.2.2.1
  have hl := E.2.2.2.2.2.2.2.2.2
  obtain ⟨hH, hOK⟩ := pu_splitK hR (xs (7 * n + 1))
  refine tg_aload_n S 1 dL_law_298 rfl rfl ?_
  refine lq_arg E (n := n) (j := 1) 0 4 rfl rfl (by omega) hL (by decide) dL_law_299 dL_law_300 dL_law_302 dL_law_303 dL_law_304 ?_
  refine tg_aload_n S 3 dL_law_305 rfl rfl ?_
  refine lq_callL E (nA := 3) (As := [.ref (h 0), .int (xs (7 * n + 1)), .ref o]) (rest := []) (k_L_split hd hl σ u (xs (7 * n + 1))) (lq_good in_RL (tw_gS ml_RL_85 st_L_split in_RL co_L_split rfl)) rfl (by decide +kernel) ⟨Nat.le_of_ble_eq_true rfl, Nat.le_of_ble_eq_true rfl⟩ rfl rfl (Nat.le_of_ble_eq_true rfl) dL_law_306 ⟨(by show k + 1 ≤ 1073; omega), (by show z + 6 ≤ 9343; omega)⟩ ?_
  refine tg_istore [1, 2, 3, 4, 5, 0] S dL_law_309 (by decide) rfl ?_
  refine tg_aload_n S 2 dL_law_311 rfl rfl ?_
  refine lq_arg E (n := n) (j := 1) 0 4 rfl rfl (by omega) hL (by decide) dL_law_312 dL_law_313 dL_law_315 dL_law_316 dL_law_317 ?_
  refine lq_callM E (fr := 3) (nA := 1) (As := [.int (xs (7 * n + 1))]) (rest := []) (k_X3_split hg μ (xs (7 * n + 1)) hH) (lq_good in_RL (tw_gV ml_RL_87 im_X3_split se_X3_split in_RX3 co_X3_split rfl)) rfl (by decide +kernel) ⟨Nat.le_of_ble_eq_true rfl, Nat.le_of_ble_eq_true rfl⟩ rfl rfl (Nat.le_of_ble_eq_true rfl) dL_law_318 ⟨(by show k + 1 ≤ 1073; omega), (by show z + 6 ≤ 9343; omega)⟩ ?_
  refine tg_istore [1, 2, 3, 4, 5, 6, 0] S dL_law_321 (by decide) rfl ?_
  refine tg_aload_n S 2 dL_law_323 rfl rfl ?_
  refine lq_callM E (fr := 0) (nA := 0) (As := []) (rest := []) (k_X3_thrown hg _) (lq_good in_RL (tw_gV ml_RL_77 im_X3_thrown se_X3_thrown in_RX3 co_X3_thrown rfl)) rfl (by decide +kernel) ⟨Nat.le_of_ble_eq_true rfl, Nat.le_of_ble_eq_true rfl⟩ rfl rfl (Nat.le_of_ble_eq_true rfl) dL_law_324 ⟨(by show k + 1 ≤ 1073; omega), (by show z + 6 ≤ 9343; omega)⟩ ?_
  refine tg_iload S 5 dL_law_327 rfl ?_
  refine tg_icmp_eq (tgt := 334) S dL_law_329 (by decide) (fun _ => ?_) (fun hc => absurd hOK.1 hc)
  refine tg_iload S 5 dL_law_334 rfl ?_
  refine tg_if_ne (tgt := 351) S dL_law_336 (by decide) (fun _ => ?_) (fun hz => ?_)
  · refine tg_goto (tgt := 1126) S dL_law_351 (by decide) ?_
    refine tg_sub (L' := [(0, .ref b), (1, .ref (h 0)), (2, .ref (g 0)), (3, .ref o), (4, .int (nI (7 * n)))]) [0, 1, 2, 3, 4] rfl ?_
    exact kn _ _ _ hOK.2.2
  · refine tg_aload_n S 3 dL_law_339 rfl rfl ?_
    refine tg_iconst (v := 0) S dL_law_340 (by decide) ?_
    refine lq_lald E dL_law_341 ?_
    refine tg_iload S 6 dL_law_342 rfl ?_
    refine tl_i2l S dL_law_344 ?_
    refine lq_lcmp E dL_law_345 ?_
    refine tg_if_eq (tgt := 351) S dL_law_346 (by decide) (fun _ => ?_) (fun hc => absurd (lq_out hOK (tl_k0 hz)) hc)
    refine tg_goto (tgt := 1126) S dL_law_351 (by decide) ?_
    refine tg_sub (L' := [(0, .ref b), (1, .ref (h 0)), (2, .ref (g 0)), (3, .ref o), (4, .int (nI (7 * n)))]) [0, 1, 2, 3, 4] rfl ?_
    exact kn _ _ _ hOK.2.2
set_option maxHeartbeats 4000000 in
set_option maxRecDepth 100000 in
theorem lq_case_join {l : Launch} {p : Program} {e : Env} {s : State} {m : MethodId} {below : List Frame} {meth : Method} {c : Code} {D : va_G} {h g : Nat → Nat} {o : Nat} {cI cZ cJ : ClassId} {b L : Nat} {xs : Nat → Int32} {k z : Nat} {u : Nat → Int64} {σ μ : tg_Mem} (E : lq_E l p s m meth c D h g o cI cZ cJ b L xs) {n : Nat} (hL : L ≤ 3584) (hn : 7 * n + 7 ≤ L) (hk : k + 1 ≤ 1000 ∧ z + 6 ≤ 9000) (hR : pu_REL σ μ) (kn : ∀ (u' : Nat → Int64) (σ' μ' : tg_Mem), pu_REL σ' μ' → lq_G l p e s m below meth c D h g o cI cZ cJ b (k + 1) (z + 6) u' σ' μ' 1126 [(0, .ref b), (1, .ref (h 0)), (2, .ref (g 0)), (3, .ref o), (4, .int (nI (7 * n)))] []) : lq_G l p e s m below meth c D h g o cI cZ cJ b k z u σ μ 354 [(0, .ref b), (1, .ref (h 0)), (2, .ref (g 0)), (3, .ref o), (4, .int (nI (7 * n)))] [] := by
  have S := lq_S E
  have hd := E.2.2.2.2.1
  have hg := E.2.2.2.2.2.1
  have hl := E.2.2.2.2.2.2.2.2.2
  obtain ⟨hH, hH1, hH2, hOK⟩ := pu_joinK hR (xs (7 * n + 1)) (xs (7 * n + 2))
  refine tg_aload_n S 1 dL_law_354 rfl rfl ?_
  refine lq_arg E (n := n) (j := 1) 0 4 rfl rfl (by omega) hL (by decide) dL_law_355 dL_law_356 dL_law_358 dL_law_359 dL_law_360 ?_
  refine lq_arg E (n := n) (j := 2) 0 4 rfl rfl (by omega) hL (by decide) dL_law_361 dL_law_362 dL_law_364 dL_law_365 dL_law_366 ?_
  refine tg_aload_n S 3 dL_law_367 rfl rfl ?_
  refine lq_callL E (nA := 4) (As := [.ref (h 0), .int (xs (7 * n + 1)), .int (xs (7 * n + 2)), .ref o]) (rest := []) (k_L_join hd hl σ u (xs (7 * n + 1)) (xs (7 * n + 2))) (lq_good in_RL (tw_gS ml_RL_88 st_L_join in_RL co_L_join rfl)) rfl (by decide +kernel) ⟨Nat.le_of_ble_eq_true rfl, Nat.le_of_ble_eq_true rfl⟩ rfl rfl (Nat.le_of_ble_eq_true rfl) dL_law_368 ⟨(by show k + 1 ≤ 1073; omega), (by show z + 6 ≤ 9343; omega)⟩ ?_
  refine tg_istore [1, 2, 3, 4, 5, 0] S dL_law_371 (by decide) rfl ?_
  refine tg_aload_n S 2 dL_law_373 rfl rfl ?_
  refine lq_arg E (n := n) (j := 1) 0 4 rfl rfl (by omega) hL (by decide) dL_law_374 dL_law_375 dL_law_377 dL_law_378 dL_law_379 ?_
  refine lq_arg E (n := n) (j := 2) 0 4 rfl rfl (by omega) hL (by decide) dL_law_380 dL_law_381 dL_law_383 dL_law_384 dL_law_385 ?_
  refine lq_callM E (fr := 3) (nA := 2) (As := [.int (xs (7 * n + 1)), .int (xs (7 * n + 2))]) (rest := []) (k_X3_join hg μ (xs (7 * n + 1)) (xs (7 * n + 2)) hH hH1 hH2) (lq_good in_RL (tw_gV ml_RL_91 im_X3_join se_X3_join in_RX3 co_X3_join rfl)) rfl (by decide +kernel) ⟨Nat.le_of_ble_eq_true rfl, Nat.le_of_ble_eq_true rfl⟩ rfl rfl (Nat.le_of_ble_eq_true rfl) dL_law_386 ⟨(by show k + 1 ≤ 1073; omega), (by show z + 6 ≤ 9343; omega)⟩ ?_
  refine tg_istore [1, 2, 3, 4, 5, 6, 0] S dL_law_389 (by decide) rfl ?_
  refine tg_aload_n S 2 dL_law_391 rfl rfl ?_
  refine lq_callM E (fr := 0) (nA := 0) (As := []) (rest := []) (k_X3_thrown hg _) (lq_good in_RL (tw_gV ml_RL_77 im_X3_thrown se_X3_thrown in_RX3 co_X3_thrown rfl)) rfl (by decide +kernel) ⟨Nat.le_of_ble_eq_true rfl, Nat.le_of_ble_eq_true rfl⟩ rfl rfl (Nat.le_of_ble_eq_true rfl) dL_law_392 ⟨(by show k + 1 ≤ 1073; omega), (by show z + 6 ≤ 9343; omega)⟩ ?_
  refine tg_iload S 5 dL_law_395 rfl ?_
  refine tg_icmp_eq (tgt := 402) S dL_law_397 (by decide) (fun _ => ?_) (fun hc => absurd hOK.1 hc)
  refine tg_iload S 5 dL_law_402 rfl ?_
  refine tg_if_ne (tgt := 419) S dL_law_404 (by decide) (fun _ => ?_) (fun hz => ?_)
  · refine tg_goto (tgt := 1126) S dL_law_419 (by decide) ?_
    refine tg_sub (L' := [(0, .ref b), (1, .ref (h 0)), (2, .ref (g 0)), (3, .ref o), (4, .int (nI (7 * n)))]) [0, 1, 2, 3, 4] rfl ?_
    exact kn _ _ _ hOK.2.2
  · refine tg_aload_n S 3 dL_law_407 rfl rfl ?_
    refine tg_iconst (v := 0) S dL_law_408 (by decide) ?_
    refine lq_lald E dL_law_409 ?_
    refine tg_iload S 6 dL_law_410 rfl ?_
    refine tl_i2l S dL_law_412 ?_
    refine lq_lcmp E dL_law_413 ?_
    refine tg_if_eq (tgt := 419) S dL_law_414 (by decide) (fun _ => ?_) (fun hc => absurd (lq_out hOK (tl_k0 hz)) hc)
    refine tg_goto (tgt := 1126) S dL_law_419 (by decide) ?_
    refine tg_sub (L' := [(0, .ref b), (1, .ref (h 0)), (2, .ref (g 0)), (3, .ref o), (4, .int (nI (7 * n)))]) [0, 1, 2, 3, 4] rfl ?_
    exact kn _ _ _ hOK.2.2
set_option maxHeartbeats 4000000 in
set_option maxRecDepth 100000 in
theorem lq_case_release {l : Launch} {p : Program} {e : Env} {s : State} {m : MethodId} {below : List Frame} {meth : Method} {c : Code} {D : va_G} {h g : Nat → Nat} {o : Nat} {cI cZ cJ : ClassId} {b L : Nat} {xs : Nat → Int32} {k z : Nat} {u : Nat → Int64} {σ μ : tg_Mem} (E : lq_E l p s m meth c D h g o cI cZ cJ b L xs) {n : Nat} (hL : L ≤ 3584) (hn : 7 * n + 7 ≤ L) (hk : k + 1 ≤ 1000 ∧ z + 6 ≤ 9000) (hR : pu_REL σ μ) (kn : ∀ (u' : Nat → Int64) (σ' μ' : tg_Mem), pu_REL σ' μ' → lq_G l p e s m below meth c D h g o cI cZ cJ b (k + 1) (z + 6) u' σ' μ' 1126 [(0, .ref b), (1, .ref (h 0)), (2, .ref (g 0)), (3, .ref o), (4, .int (nI (7 * n)))] []) : lq_G l p e s m below meth c D h g o cI cZ cJ b k z u σ μ 422 [(0, .ref b), (1, .ref (h 0)), (2, .ref (g 0)), (3, .ref o), (4, .int (nI (7 * n)))] [] := by
  have S := lq_S E
  have hd := E.2.2.2.2.1
  have hg := E.2.2.2.2.2.1
  have hl := E.2.2.2.2.2.2.2.2.2
  have hOK := pu_releaseK hR (xs (7 * n + 1))
  refine tg_aload_n S 1 dL_law_422 rfl rfl ?_
  refine lq_arg E (n := n) (j := 1) 0 4 rfl rfl (by omega) hL (by decide) dL_law_423 dL_law_424 dL_law_426 dL_law_427 dL_law_428 ?_
  refine tg_aload_n S 3 dL_law_429 rfl rfl ?_
  refine lq_callL E (nA := 3) (As := [.ref (h 0), .int (xs (7 * n + 1)), .ref o]) (rest := []) (k_L_release hd hl σ u (xs (7 * n + 1))) (lq_good in_RL (tw_gS ml_RL_92 st_L_release in_RL co_L_release rfl)) rfl (by decide +kernel) ⟨Nat.le_of_ble_eq_true rfl, Nat.le_of_ble_eq_true rfl⟩ rfl rfl (Nat.le_of_ble_eq_true rfl) dL_law_430 ⟨(by show k + 1 ≤ 1073; omega), (by show z + 6 ≤ 9343; omega)⟩ ?_
  refine tg_istore [1, 2, 3, 4, 5, 0] S dL_law_433 (by decide) rfl ?_
  refine tg_aload_n S 2 dL_law_435 rfl rfl ?_
  refine lq_arg E (n := n) (j := 1) 0 4 rfl rfl (by omega) hL (by decide) dL_law_436 dL_law_437 dL_law_439 dL_law_440 dL_law_441 ?_
  refine lq_callM E (fr := 3) (nA := 1) (As := [.int (xs (7 * n + 1))]) (rest := []) (k_X3_release hg μ (xs (7 * n + 1))) (lq_good in_RL (tw_gV ml_RL_94 im_X3_release se_X3_release in_RX3 co_X3_release rfl)) rfl (by decide +kernel) ⟨Nat.le_of_ble_eq_true rfl, Nat.le_of_ble_eq_true rfl⟩ rfl rfl (Nat.le_of_ble_eq_true rfl) dL_law_442 ⟨(by show k + 1 ≤ 1073; omega), (by show z + 6 ≤ 9343; omega)⟩ ?_
  refine tg_istore [1, 2, 3, 4, 5, 6, 0] S dL_law_445 (by decide) rfl ?_
  refine tg_aload_n S 2 dL_law_447 rfl rfl ?_
  refine lq_callM E (fr := 0) (nA := 0) (As := []) (rest := []) (k_X3_thrown hg _) (lq_good in_RL (tw_gV ml_RL_77 im_X3_thrown se_X3_thrown in_RX3 co_X3_thrown rfl)) rfl (by decide +kernel) ⟨Nat.le_of_ble_eq_true rfl, Nat.le_of_ble_eq_true rfl⟩ rfl rfl (Nat.le_of_ble_eq_true rfl) dL_law_448 ⟨(by show k + 1 ≤ 1073; omega), (by show z + 6 ≤ 9343; omega)⟩ ?_
  refine tg_iload S 5 dL_law_451 rfl ?_
  refine tg_icmp_eq (tgt := 458) S dL_law_453 (by decide) (fun _ => ?_) (fun hc => absurd hOK.1 hc)
  refine tg_iload S 5 dL_law_458 rfl ?_
  refine tg_if_ne (tgt := 482) S dL_law_460 (by decide) (fun _ => ?_) (fun hz => ?_)
  · refine tg_goto (tgt := 1126) S dL_law_482 (by decide) ?_
    refine tg_sub (L' := [(0, .ref b), (1, .ref (h 0)), (2, .ref (g 0)), (3, .ref o), (4, .int (nI (7 * n)))]) [0, 1, 2, 3, 4] rfl ?_
    exact kn _ _ _ hOK.2.2
  · refine tg_aload_n S 3 dL_law_463 rfl rfl ?_
    refine tg_iconst (v := 0) S dL_law_464 (by decide) ?_
    refine lq_lald E dL_law_465 ?_
    refine tg_iload S 6 dL_law_466 rfl ?_
    have hB := lq_outB (u := u) hOK (tl_k0 hz)
    refine tg_ifz (tgt := 475) S dL_law_468 (by decide) (fun hb => ?_) (fun hb => ?_)
    · refine lq_lconst (v := 0) E dL_law_475 (by decide) ?_
      rw [hb] at hB
      refine lq_lcmp E dL_law_476 ?_
      refine tg_if_eq (tgt := 482) S dL_law_477 (by decide) (fun _ => ?_) (fun hc => absurd hB hc)
      refine tg_goto (tgt := 1126) S dL_law_482 (by decide) ?_
      refine tg_sub (L' := [(0, .ref b), (1, .ref (h 0)), (2, .ref (g 0)), (3, .ref o), (4, .int (nI (7 * n)))]) [0, 1, 2, 3, 4] rfl ?_
      exact kn _ _ _ hOK.2.2
    · refine lq_lconst (v := 1) E dL_law_471 (by decide) ?_
      rw [hb] at hB
      refine tg_goto (tgt := 476) S dL_law_472 (by decide) ?_
      refine lq_lcmp E dL_law_476 ?_
      refine tg_if_eq (tgt := 482) S dL_law_477 (by decide) (fun _ => ?_) (fun hc => absurd hB hc)
      refine tg_goto (tgt := 1126) S dL_law_482 (by decide) ?_
      refine tg_sub (L' := [(0, .ref b), (1, .ref (h 0)), (2, .ref (g 0)), (3, .ref o), (4, .int (nI (7 * n)))]) [0, 1, 2, 3, 4] rfl ?_
      exact kn _ _ _ hOK.2.2
set_option maxHeartbeats 4000000 in
set_option maxRecDepth 100000 in
theorem lq_case_read {l : Launch} {p : Program} {e : Env} {s : State} {m : MethodId} {below : List Frame} {meth : Method} {c : Code} {D : va_G} {h g : Nat → Nat} {o : Nat} {cI cZ cJ : ClassId} {b L : Nat} {xs : Nat → Int32} {k z : Nat} {u : Nat → Int64} {σ μ : tg_Mem} (E : lq_E l p s m meth c D h g o cI cZ cJ b L xs) {n : Nat} (hL : L ≤ 3584) (hn : 7 * n + 7 ≤ L) (hk : k + 1 ≤ 1000 ∧ z + 6 ≤ 9000) (hR : pu_REL σ μ) (kn : ∀ (u' : Nat → Int64) (σ' μ' : tg_Mem), pu_REL σ' μ' → lq_G l p e s m below meth c D h g o cI cZ cJ b (k + 1) (z + 6) u' σ' μ' 1126 [(0, .ref b), (1, .ref (h 0)), (2, .ref (g 0)), (3, .ref o), (4, .int (nI (7 * n)))] []) : lq_G l p e s m below meth c D h g o cI cZ cJ b k z u σ μ 485 [(0, .ref b), (1, .ref (h 0)), (2, .ref (g 0)), (3, .ref o), (4, .int (nI (7 * n)))] [] := by
  have S := lq_S E
  have hd := E.2.2.2.2.1
  have hg := E.2.2.2.2.2.1
  have hl := E.2.2.2.2.2.2.2.2.2
  have hOK := pu_readK hR (xs (7 * n + 1))
  refine tg_aload_n S 1 dL_law_485 rfl rfl ?_
  refine lq_arg E (n := n) (j := 1) 0 4 rfl rfl (by omega) hL (by decide) dL_law_486 dL_law_487 dL_law_489 dL_law_490 dL_law_491 ?_
  refine tg_aload_n S 3 dL_law_492 rfl rfl ?_
  refine lq_callL E (nA := 3) (As := [.ref (h 0), .int (xs (7 * n + 1)), .ref o]) (rest := []) (k_L_read hd hl σ u (xs (7 * n + 1))) (lq_good in_RL (tw_gS ml_RL_95 st_L_read in_RL co_L_read rfl)) rfl (by decide +kernel) ⟨Nat.le_of_ble_eq_true rfl, Nat.le_of_ble_eq_true rfl⟩ rfl rfl (Nat.le_of_ble_eq_true rfl) dL_law_493 ⟨(by show k + 1 ≤ 1073; omega), (by show z + 6 ≤ 9343; omega)⟩ ?_
  refine tg_istore [1, 2, 3, 4, 5, 0] S dL_law_496 (by decide) rfl ?_
  refine tg_aload_n S 2 dL_law_498 rfl rfl ?_
  refine lq_arg E (n := n) (j := 1) 0 4 rfl rfl (by omega) hL (by decide) dL_law_499 dL_law_500 dL_law_502 dL_law_503 dL_law_504 ?_
  refine lq_callM E (fr := 4) (nA := 1) (As := [.int (xs (7 * n + 1))]) (rest := []) (k_X3_read hg μ (xs (7 * n + 1)) (pu_hyp hR.1) (pu_HT hR (xs (7 * n + 1))) (pu_HC hR (xs (7 * n + 1)))) (lq_good in_RL (tw_gV ml_RL_97 im_X3_read se_X3_read in_RX3 co_X3_read rfl)) rfl (by decide +kernel) ⟨Nat.le_of_ble_eq_true rfl, Nat.le_of_ble_eq_true rfl⟩ rfl rfl (Nat.le_of_ble_eq_true rfl) dL_law_505 ⟨(by show k + 1 ≤ 1073; omega), (by show z + 6 ≤ 9343; omega)⟩ ?_
  refine tg_istore [1, 2, 3, 4, 5, 6, 0] S dL_law_508 (by decide) rfl ?_
  refine tg_aload_n S 2 dL_law_510 rfl rfl ?_
  refine lq_callM E (fr := 0) (nA := 0) (As := []) (rest := []) (k_X3_thrown hg _) (lq_good in_RL (tw_gV ml_RL_77 im_X3_thrown se_X3_thrown in_RX3 co_X3_thrown rfl)) rfl (by decide +kernel) ⟨Nat.le_of_ble_eq_true rfl, Nat.le_of_ble_eq_true rfl⟩ rfl rfl (Nat.le_of_ble_eq_true rfl) dL_law_511 ⟨(by show k + 1 ≤ 1073; omega), (by show z + 6 ≤ 9343; omega)⟩ ?_
  refine tg_iload S 5 dL_law_514 rfl ?_
  refine tg_icmp_eq (tgt := 521) S dL_law_516 (by decide) (fun _ => ?_) (fun hc => absurd hOK.1 hc)
  refine tg_iload S 5 dL_law_521 rfl ?_
  refine tg_if_ne (tgt := 538) S dL_law_523 (by decide) (fun _ => ?_) (fun hz => ?_)
  · refine tg_goto (tgt := 1126) S dL_law_538 (by decide) ?_
    refine tg_sub (L' := [(0, .ref b), (1, .ref (h 0)), (2, .ref (g 0)), (3, .ref o), (4, .int (nI (7 * n)))]) [0, 1, 2, 3, 4] rfl ?_
    exact kn _ _ _ hOK.2.2
  · refine tg_aload_n S 3 dL_law_526 rfl rfl ?_
    refine tg_iconst (v := 0) S dL_law_527 (by decide) ?_
    refine lq_lald E dL_law_528 ?_
    refine tg_iload S 6 dL_law_529 rfl ?_
    refine tl_i2l S dL_law_531 ?_
    refine lq_lcmp E dL_law_532 ?_
    refine tg_if_eq (tgt := 538) S dL_law_533 (by decide) (fun _ => ?_) (fun hc => absurd (lq_out hOK (tl_k0 hz)) hc)
    refine tg_goto (tgt := 1126) S dL_law_538 (by decide) ?_
    refine tg_sub (L' := [(0, .ref b), (1, .ref (h 0)), (2, .ref (g 0)), (3, .ref o), (4, .int (nI (7 * n)))]) [0, 1, 2, 3, 4] rfl ?_
    exact kn _ _ _ hOK.2.2
set_option maxHeartbeats 4000000 in
set_option maxRecDepth 100000 in
theorem lq_case_state {l : Launch} {p : Program} {e : Env} {s : State} {m : MethodId} {below : List Frame} {meth : Method} {c : Code} {D : va_G} {h g : Nat → Nat} {o : Nat} {cI cZ cJ : ClassId} {b L : Nat} {xs : Nat → Int32} {k z : Nat} {u : Nat → Int64} {σ μ : tg_Mem} (E : lq_E l p s m meth c D h g o cI cZ cJ b L xs) {n : Nat} (hL : L ≤ 3584) (hn : 7 * n + 7 ≤ L) (hk : k + 1 ≤ 1000 ∧ z + 6 ≤ 9000) (hR : pu_REL σ μ) (kn : ∀ (u' : Nat → Int64) (σ' μ' : tg_Mem), pu_REL σ' μ' → lq_G l p e s m below meth c D h g o cI cZ cJ b (k + 1) (z + 6) u' σ' μ' 1126 [(0, .ref b), (1, .ref (h 0)), (2, .ref (g 0)), (3, .ref o), (4, .int (nI (7 * n)))] []) : lq_G l p e s m below meth c D h g o cI cZ cJ b k z u σ μ 541 [(0, .ref b), (1, .ref (h 0)), (2, .ref (g 0)), (3, .ref o), (4, .int (nI (7 * n)))] [] := by
  have S := lq_S E
  have hd := E.2.2.2.2.1
  have hg := E.2.2.2.2.2.1
  have hl := E.2.2.2.2.2.2.2.2.2
  obtain ⟨hH, hOK⟩ := pu_stateK hR (xs (7 * n + 1))
  refine tg_aload_n S 1 dL_law_541 rfl rfl ?_
  refine lq_arg E (n := n) (j := 1) 0 4 rfl rfl (by omega) hL (by decide) dL_law_542 dL_law_543 dL_law_545 dL_law_546 dL_law_547 ?_
  refine tg_aload_n S 3 dL_law_548 rfl rfl ?_
  refine lq_callL E (nA := 3) (As := [.ref (h 0), .int (xs (7 * n + 1)), .ref o]) (rest := []) (k_L_state hd hl σ u (xs (7 * n + 1))) (lq_good in_RL (tw_gS ml_RL_98 st_L_state in_RL co_L_state rfl)) rfl (by decide +kernel) ⟨Nat.le_of_ble_eq_true rfl, Nat.le_of_ble_eq_true rfl⟩ rfl rfl (Nat.le_of_ble_eq_true rfl) dL_law_549 ⟨(by show k + 1 ≤ 1073; omega), (by show z + 6 ≤ 9343; omega)⟩ ?_
  refine tg_istore [1, 2, 3, 4, 5, 0] S dL_law_552 (by decide) rfl ?_
  refine tg_aload_n S 2 dL_law_554 rfl rfl ?_
  refine lq_arg E (n := n) (j := 1) 0 4 rfl rfl (by omega) hL (by decide) dL_law_555 dL_law_556 dL_law_558 dL_law_559 dL_law_560 ?_
  refine lq_callM E (fr := 3) (nA := 1) (As := [.int (xs (7 * n + 1))]) (rest := []) (k_X3_state hg μ (xs (7 * n + 1)) hH) (lq_good in_RL (tw_gV ml_RL_100 im_X3_state se_X3_state in_RX3 co_X3_state rfl)) rfl (by decide +kernel) ⟨Nat.le_of_ble_eq_true rfl, Nat.le_of_ble_eq_true rfl⟩ rfl rfl (Nat.le_of_ble_eq_true rfl) dL_law_561 ⟨(by show k + 1 ≤ 1073; omega), (by show z + 6 ≤ 9343; omega)⟩ ?_
  refine tg_istore [1, 2, 3, 4, 5, 6, 0] S dL_law_564 (by decide) rfl ?_
  refine tg_aload_n S 2 dL_law_566 rfl rfl ?_
  refine lq_callM E (fr := 0) (nA := 0) (As := []) (rest := []) (k_X3_thrown hg _) (lq_good in_RL (tw_gV ml_RL_77 im_X3_thrown se_X3_thrown in_RX3 co_X3_thrown rfl)) rfl (by decide +kernel) ⟨Nat.le_of_ble_eq_true rfl, Nat.le_of_ble_eq_true rfl⟩ rfl rfl (Nat.le_of_ble_eq_true rfl) dL_law_567 ⟨(by show k + 1 ≤ 1073; omega), (by show z + 6 ≤ 9343; omega)⟩ ?_
  refine tg_iload S 5 dL_law_570 rfl ?_
  refine tg_icmp_eq (tgt := 577) S dL_law_572 (by decide) (fun _ => ?_) (fun hc => absurd hOK.1 hc)
  refine tg_iload S 5 dL_law_577 rfl ?_
  refine tg_if_ne (tgt := 594) S dL_law_579 (by decide) (fun _ => ?_) (fun hz => ?_)
  · refine tg_goto (tgt := 1126) S dL_law_594 (by decide) ?_
    refine tg_sub (L' := [(0, .ref b), (1, .ref (h 0)), (2, .ref (g 0)), (3, .ref o), (4, .int (nI (7 * n)))]) [0, 1, 2, 3, 4] rfl ?_
    exact kn _ _ _ hOK.2.2
  · refine tg_aload_n S 3 dL_law_582 rfl rfl ?_
    refine tg_iconst (v := 0) S dL_law_583 (by decide) ?_
    refine lq_lald E dL_law_584 ?_
    refine tg_iload S 6 dL_law_585 rfl ?_
    refine tl_i2l S dL_law_587 ?_
    refine lq_lcmp E dL_law_588 ?_
    refine tg_if_eq (tgt := 594) S dL_law_589 (by decide) (fun _ => ?_) (fun hc => absurd (lq_out hOK (tl_k0 hz)) hc)
    refine tg_goto (tgt := 1126) S dL_law_594 (by decide) ?_
    refine tg_sub (L' := [(0, .ref b), (1, .ref (h 0)), (2, .ref (g 0)), (3, .ref o), (4, .int (nI (7 * n)))]) [0, 1, 2, 3, 4] rfl ?_
    exact kn _ _ _ hOK.2.2
set_option maxHeartbeats 4000000 in
set_option maxRecDepth 100000 in
theorem lq_case_parent {l : Launch} {p : Program} {e : Env} {s : State} {m : MethodId} {below : List Frame} {meth : Method} {c : Code} {D : va_G} {h g : Nat → Nat} {o : Nat} {cI cZ cJ : ClassId} {b L : Nat} {xs : Nat → Int32} {k z : Nat} {u : Nat → Int64} {σ μ : tg_Mem} (E : lq_E l p s m meth c D h g o cI cZ cJ b L xs) {n : Nat} (hL : L ≤ 3584) (hn : 7 * n + 7 ≤ L) (hk : k + 1 ≤ 1000 ∧ z + 6 ≤ 9000) (hR : pu_REL σ μ) (kn : ∀ (u' : Nat → Int64) (σ' μ' : tg_Mem), pu_REL σ' μ' → lq_G l p e s m below meth c D h g o cI cZ cJ b (k + 1) (z + 6) u' σ' μ' 1126 [(0, .ref b), (1, .ref (h 0)), (2, .ref (g 0)), (3, .ref o), (4, .int (nI (7 * n)))] []) : lq_G l p e s m below meth c D h g o cI cZ cJ b k z u σ μ 597 [(0, .ref b), (1, .ref (h 0)), (2, .ref (g 0)), (3, .ref o), (4, .int (nI (7 * n)))] [] := by
  have S := lq_S E
  have hd := E.2.2.2.2.1
  have hg := E.2.2.2.2.2.1
  have hl := E.2.2.2.2.2.2.2.2.2
  have hOK := pu_parentK hR (xs (7 * n + 1))
  refine tg_aload_n S 1 dL_law_597 rfl rfl ?_
  refine lq_arg E (n := n) (j := 1) 0 4 rfl rfl (by omega) hL (by decide) dL_law_598 dL_law_599 dL_law_601 dL_law_602 dL_law_603 ?_
  refine tg_aload_n S 3 dL_law_604 rfl rfl ?_
  refine lq_callL E (nA := 3) (As := [.ref (h 0), .int (xs (7 * n + 1)), .ref o]) (rest := []) (k_L_parent hd hl σ u (xs (7 * n + 1))) (lq_good in_RL (tw_gS ml_RL_101 st_L_parent in_RL co_L_parent rfl)) rfl (by decide +kernel) ⟨Nat.le_of_ble_eq_true rfl, Nat.le_of_ble_eq_true rfl⟩ rfl rfl (Nat.le_of_ble_eq_true rfl) dL_law_605 ⟨(by show k + 1 ≤ 1073; omega), (by show z + 6 ≤ 9343; omega)⟩ ?_
  refine tg_istore [1, 2, 3, 4, 5, 0] S dL_law_608 (by decide) rfl ?_
  refine tg_aload_n S 2 dL_law_610 rfl rfl ?_
  refine lq_arg E (n := n) (j := 1) 0 4 rfl rfl (by omega) hL (by decide) dL_law_611 dL_law_612 dL_law_614 dL_law_615 dL_law_616 ?_
  refine lq_callM E (fr := 4) (nA := 1) (As := [.int (xs (7 * n + 1))]) (rest := []) (k_X3_parent hg μ (xs (7 * n + 1)) (pu_hyp hR.1) (pu_HT hR (xs (7 * n + 1)))) (lq_good in_RL (tw_gV ml_RL_103 im_X3_parent se_X3_parent in_RX3 co_X3_parent rfl)) rfl (by decide +kernel) ⟨Nat.le_of_ble_eq_true rfl, Nat.le_of_ble_eq_true rfl⟩ rfl rfl (Nat.le_of_ble_eq_true rfl) dL_law_617 ⟨(by show k + 1 ≤ 1073; omega), (by show z + 6 ≤ 9343; omega)⟩ ?_
  refine tg_istore [1, 2, 3, 4, 5, 6, 0] S dL_law_620 (by decide) rfl ?_
  refine tg_aload_n S 2 dL_law_622 rfl rfl ?_
  refine lq_callM E (fr := 0) (nA := 0) (As := []) (rest := []) (k_X3_thrown hg _) (lq_good in_RL (tw_gV ml_RL_77 im_X3_thrown se_X3_thrown in_RX3 co_X3_thrown rfl)) rfl (by decide +kernel) ⟨Nat.le_of_ble_eq_true rfl, Nat.le_of_ble_eq_true rfl⟩ rfl rfl (Nat.le_of_ble_eq_true rfl) dL_law_623 ⟨(by show k + 1 ≤ 1073; omega), (by show z + 6 ≤ 9343; omega)⟩ ?_
  refine tg_iload S 5 dL_law_626 rfl ?_
  refine tg_icmp_eq (tgt := 633) S dL_law_628 (by decide) (fun _ => ?_) (fun hc => absurd hOK.1 hc)
  refine tg_iload S 5 dL_law_633 rfl ?_
  refine tg_if_ne (tgt := 650) S dL_law_635 (by decide) (fun _ => ?_) (fun hz => ?_)
  · refine tg_goto (tgt := 1126) S dL_law_650 (by decide) ?_
    refine tg_sub (L' := [(0, .ref b), (1, .ref (h 0)), (2, .ref (g 0)), (3, .ref o), (4, .int (nI (7 * n)))]) [0, 1, 2, 3, 4] rfl ?_
    exact kn _ _ _ hOK.2.2
  · refine tg_aload_n S 3 dL_law_638 rfl rfl ?_
    refine tg_iconst (v := 0) S dL_law_639 (by decide) ?_
    refine lq_lald E dL_law_640 ?_
    refine tg_iload S 6 dL_law_641 rfl ?_
    refine tl_i2l S dL_law_643 ?_
    refine lq_lcmp E dL_law_644 ?_
    refine tg_if_eq (tgt := 650) S dL_law_645 (by decide) (fun _ => ?_) (fun hc => absurd (lq_out hOK (tl_k0 hz)) hc)
    refine tg_goto (tgt := 1126) S dL_law_650 (by decide) ?_
    refine tg_sub (L' := [(0, .ref b), (1, .ref (h 0)), (2, .ref (g 0)), (3, .ref o), (4, .int (nI (7 * n)))]) [0, 1, 2, 3, 4] rfl ?_
    exact kn _ _ _ hOK.2.2
set_option maxHeartbeats 4000000 in
set_option maxRecDepth 100000 in
theorem lq_case_children {l : Launch} {p : Program} {e : Env} {s : State} {m : MethodId} {below : List Frame} {meth : Method} {c : Code} {D : va_G} {h g : Nat → Nat} {o : Nat} {cI cZ cJ : ClassId} {b L : Nat} {xs : Nat → Int32} {k z : Nat} {u : Nat → Int64} {σ μ : tg_Mem} (E : lq_E l p s m meth c D h g o cI cZ cJ b L xs) {n : Nat} (hL : L ≤ 3584) (hn : 7 * n + 7 ≤ L) (hk : k + 1 ≤ 1000 ∧ z + 6 ≤ 9000) (hR : pu_REL σ μ) (kn : ∀ (u' : Nat → Int64) (σ' μ' : tg_Mem), pu_REL σ' μ' → lq_G l p e s m below meth c D h g o cI cZ cJ b (k + 1) (z + 6) u' σ' μ' 1126 [(0, .ref b), (1, .ref (h 0)), (2, .ref (g 0)), (3, .ref o), (4, .int (nI (7 * n)))] []) : lq_G l p e s m below meth c D h g o cI cZ cJ b k z u σ μ 653 [(0, .ref b), (1, .ref (h 0)), (2, .ref (g 0)), (3, .ref o), (4, .int (nI (7 * n)))] [] := by
  have S := lq_S E
  have hd := E.2.2.2.2.1
  have hg := E.2.2.2.2.2.1
  have hl := E.2.2.2.2.2.2.2.2.2
  have hOK := pu_childrenK hR (xs (7 * n + 1))
  refine tg_aload_n S 1 dL_law_653 rfl rfl ?_
  refine lq_arg E (n := n) (j := 1) 0 4 rfl rfl (by omega) hL (by decide) dL_law_654 dL_law_655 dL_law_657 dL_law_658 dL_law_659 ?_
  refine tg_aload_n S 3 dL_law_660 rfl rfl ?_
  refine lq_callL E (nA := 3) (As := [.ref (h 0), .int (xs (7 * n + 1)), .ref o]) (rest := []) (k_L_children hd hl σ u (xs (7 * n + 1))) (lq_good in_RL (tw_gS ml_RL_104 st_L_children in_RL co_L_children rfl)) rfl (by decide +kernel) ⟨Nat.le_of_ble_eq_true rfl, Nat.le_of_ble_eq_true rfl⟩ rfl rfl (Nat.le_of_ble_eq_true rfl) dL_law_661 ⟨(by show k + 1 ≤ 1073; omega), (by show z + 6 ≤ 9343; omega)⟩ ?_
  refine tg_istore [1, 2, 3, 4, 5, 0] S dL_law_664 (by decide) rfl ?_
  refine tg_aload_n S 2 dL_law_666 rfl rfl ?_
  refine lq_arg E (n := n) (j := 1) 0 4 rfl rfl (by omega) hL (by decide) dL_law_667 dL_law_668 dL_law_670 dL_law_671 dL_law_672 ?_
  refine lq_callM E (fr := 4) (nA := 1) (As := [.int (xs (7 * n + 1))]) (rest := []) (k_X3_children hg μ (xs (7 * n + 1)) (pu_hyp hR.1) (pu_HT hR (xs (7 * n + 1)))) (lq_good in_RL (tw_gV ml_RL_106 im_X3_children se_X3_children in_RX3 co_X3_children rfl)) rfl (by decide +kernel) ⟨Nat.le_of_ble_eq_true rfl, Nat.le_of_ble_eq_true rfl⟩ rfl rfl (Nat.le_of_ble_eq_true rfl) dL_law_673 ⟨(by show k + 1 ≤ 1073; omega), (by show z + 6 ≤ 9343; omega)⟩ ?_
  refine tg_istore [1, 2, 3, 4, 5, 6, 0] S dL_law_676 (by decide) rfl ?_
  refine tg_aload_n S 2 dL_law_678 rfl rfl ?_
  refine lq_callM E (fr := 0) (nA := 0) (As := []) (rest := []) (k_X3_thrown hg _) (lq_good in_RL (tw_gV ml_RL_77 im_X3_thrown se_X3_thrown in_RX3 co_X3_thrown rfl)) rfl (by decide +kernel) ⟨Nat.le_of_ble_eq_true rfl, Nat.le_of_ble_eq_true rfl⟩ rfl rfl (Nat.le_of_ble_eq_true rfl) dL_law_679 ⟨(by show k + 1 ≤ 1073; omega), (by show z + 6 ≤ 9343; omega)⟩ ?_
  refine tg_iload S 5 dL_law_682 rfl ?_
  refine tg_icmp_eq (tgt := 689) S dL_law_684 (by decide) (fun _ => ?_) (fun hc => absurd hOK.1 hc)
  refine tg_iload S 5 dL_law_689 rfl ?_
  refine tg_if_ne (tgt := 706) S dL_law_691 (by decide) (fun _ => ?_) (fun hz => ?_)
  · refine tg_goto (tgt := 1126) S dL_law_706 (by decide) ?_
    refine tg_sub (L' := [(0, .ref b), (1, .ref (h 0)), (2, .ref (g 0)), (3, .ref o), (4, .int (nI (7 * n)))]) [0, 1, 2, 3, 4] rfl ?_
    exact kn _ _ _ hOK.2.2
  · refine tg_aload_n S 3 dL_law_694 rfl rfl ?_
    refine tg_iconst (v := 0) S dL_law_695 (by decide) ?_
    refine lq_lald E dL_law_696 ?_
    refine tg_iload S 6 dL_law_697 rfl ?_
    refine tl_i2l S dL_law_699 ?_
    refine lq_lcmp E dL_law_700 ?_
    refine tg_if_eq (tgt := 706) S dL_law_701 (by decide) (fun _ => ?_) (fun hc => absurd (lq_out hOK (tl_k0 hz)) hc)
    refine tg_goto (tgt := 1126) S dL_law_706 (by decide) ?_
    refine tg_sub (L' := [(0, .ref b), (1, .ref (h 0)), (2, .ref (g 0)), (3, .ref o), (4, .int (nI (7 * n)))]) [0, 1, 2, 3, 4] rfl ?_
    exact kn _ _ _ hOK.2.2
set_option maxHeartbeats 4000000 in
set_option maxRecDepth 100000 in
theorem lq_case_roots {l : Launch} {p : Program} {e : Env} {s : State} {m : MethodId} {below : List Frame} {meth : Method} {c : Code} {D : va_G} {h g : Nat → Nat} {o : Nat} {cI cZ cJ : ClassId} {b L : Nat} {xs : Nat → Int32} {k z : Nat} {u : Nat → Int64} {σ μ : tg_Mem} (E : lq_E l p s m meth c D h g o cI cZ cJ b L xs) {n : Nat} (hL : L ≤ 3584) (hn : 7 * n + 7 ≤ L) (hk : k + 1 ≤ 1000 ∧ z + 6 ≤ 9000) (hR : pu_REL σ μ) (kn : ∀ (u' : Nat → Int64) (σ' μ' : tg_Mem), pu_REL σ' μ' → lq_G l p e s m below meth c D h g o cI cZ cJ b (k + 1) (z + 6) u' σ' μ' 1126 [(0, .ref b), (1, .ref (h 0)), (2, .ref (g 0)), (3, .ref o), (4, .int (nI (7 * n)))] []) : lq_G l p e s m below meth c D h g o cI cZ cJ b k z u σ μ 709 [(0, .ref b), (1, .ref (h 0)), (2, .ref (g 0)), (3, .ref o), (4, .int (nI (7 * n)))] [] := by
  have S := lq_S E
  have hd := E.2.2.2.2.1
  have hg := E.2.2.2.2.2.1
  have hl := E.2.2.2.2.2.2.2.2.2
  obtain ⟨hq, hR2⟩ := pu_rootsK hR
  refine tg_aload_n S 1 dL_law_709 rfl rfl ?_
  refine lq_callT E (fr := 1) (nA := 0) (As := []) (rest := []) (k_X2_roots hd.1 σ) (lq_good in_RL (tw_gV ml_RL_107 im_X2_roots se_X2_roots in_RX2 co_X2_roots rfl)) rfl (by decide +kernel) ⟨Nat.le_of_ble_eq_true rfl, Nat.le_of_ble_eq_true rfl⟩ rfl rfl (Nat.le_of_ble_eq_true rfl) dL_law_710 ⟨(by show k ≤ 1073; omega), (by show z ≤ 9343; omega)⟩ ?_
  refine tg_aload_n S 2 dL_law_713 rfl rfl ?_
  refine lq_callM E (fr := 4) (nA := 0) (As := []) (rest := [.int (σ 20 0)]) (k_X3_roots hg μ (pu_hyp hR.1)) (lq_good in_RL (tw_gV ml_RL_110 im_X3_roots se_X3_roots in_RX3 co_X3_roots rfl)) rfl (by decide +kernel) ⟨Nat.le_of_ble_eq_true rfl, Nat.le_of_ble_eq_true rfl⟩ rfl rfl (Nat.le_of_ble_eq_true rfl) dL_law_714 ⟨(by show k ≤ 1073; omega), (by show z ≤ 9343; omega)⟩ ?_
  refine tg_icmp_eq (tgt := 1126) S dL_law_717 (by decide) (fun _ => ?_) (fun hc => absurd hq hc)
  exact lq_widen (by omega) (by omega) (kn _ _ _ hR2)
set_option maxHeartbeats 4000000 in
set_option maxRecDepth 100000 in
theorem lq_case_root {l : Launch} {p : Program} {e : Env} {s : State} {m : MethodId} {below : List Frame} {meth : Method} {c : Code} {D : va_G} {h g : Nat → Nat} {o : Nat} {cI cZ cJ : ClassId} {b L : Nat} {xs : Nat → Int32} {k z : Nat} {u : Nat → Int64} {σ μ : tg_Mem} (E : lq_E l p s m meth c D h g o cI cZ cJ b L xs) {n : Nat} (hL : L ≤ 3584) (hn : 7 * n + 7 ≤ L) (hk : k + 1 ≤ 1000 ∧ z + 6 ≤ 9000) (hR : pu_REL σ μ) (kn : ∀ (u' : Nat → Int64) (σ' μ' : tg_Mem), pu_REL σ' μ' → lq_G l p e s m below meth c D h g o cI cZ cJ b (k + 1) (z + 6) u' σ' μ' 1126 [(0, .ref b), (1, .ref (h 0)), (2, .ref (g 0)), (3, .ref o), (4, .int (nI (7 * n)))] []) : lq_G l p e s m below meth c D h g o cI cZ cJ b k z u σ μ 722 [(0, .ref b), (1, .ref (h 0)), (2, .ref (g 0)), (3, .ref o), (4, .int (nI (7 * n)))] [] := by
  have S := lq_S E
  have hd := E.2.2.2.2.1
  have hg := E.2.2.2.2.2.1
  have hl := E.2.2.2.2.2.2.2.2.2
  have hOK := pu_rootK hR (xs (7 * n + 1))
  refine tg_aload_n S 1 dL_law_722 rfl rfl ?_
  refine lq_arg E (n := n) (j := 1) 0 4 rfl rfl (by omega) hL (by decide) dL_law_723 dL_law_724 dL_law_726 dL_law_727 dL_law_728 ?_
  refine tg_aload_n S 3 dL_law_729 rfl rfl ?_
  refine lq_callL E (nA := 3) (As := [.ref (h 0), .int (xs (7 * n + 1)), .ref o]) (rest := []) (k_L_root hd hl σ u (xs (7 * n + 1))) (lq_good in_RL (tw_gS ml_RL_111 st_L_root in_RL co_L_root rfl)) rfl (by decide +kernel) ⟨Nat.le_of_ble_eq_true rfl, Nat.le_of_ble_eq_true rfl⟩ rfl rfl (Nat.le_of_ble_eq_true rfl) dL_law_730 ⟨(by show k + 1 ≤ 1073; omega), (by show z + 6 ≤ 9343; omega)⟩ ?_
  refine tg_istore [1, 2, 3, 4, 5, 0] S dL_law_733 (by decide) rfl ?_
  refine tg_aload_n S 2 dL_law_735 rfl rfl ?_
  refine lq_arg E (n := n) (j := 1) 0 4 rfl rfl (by omega) hL (by decide) dL_law_736 dL_law_737 dL_law_739 dL_law_740 dL_law_741 ?_
  refine lq_callM E (fr := 3) (nA := 1) (As := [.int (xs (7 * n + 1))]) (rest := []) (k_X3_root hg μ (xs (7 * n + 1)) (pu_hyp hR.1) (pu_HE hR)) (lq_good in_RL (tw_gV ml_RL_113 im_X3_root se_X3_root in_RX3 co_X3_root rfl)) rfl (by decide +kernel) ⟨Nat.le_of_ble_eq_true rfl, Nat.le_of_ble_eq_true rfl⟩ rfl rfl (Nat.le_of_ble_eq_true rfl) dL_law_742 ⟨(by show k + 1 ≤ 1073; omega), (by show z + 6 ≤ 9343; omega)⟩ ?_
  refine tg_istore [1, 2, 3, 4, 5, 6, 0] S dL_law_745 (by decide) rfl ?_
  refine tg_aload_n S 2 dL_law_747 rfl rfl ?_
  refine lq_callM E (fr := 0) (nA := 0) (As := []) (rest := []) (k_X3_thrown hg _) (lq_good in_RL (tw_gV ml_RL_77 im_X3_thrown se_X3_thrown in_RX3 co_X3_thrown rfl)) rfl (by decide +kernel) ⟨Nat.le_of_ble_eq_true rfl, Nat.le_of_ble_eq_true rfl⟩ rfl rfl (Nat.le_of_ble_eq_true rfl) dL_law_748 ⟨(by show k + 1 ≤ 1073; omega), (by show z + 6 ≤ 9343; omega)⟩ ?_
  refine tg_iload S 5 dL_law_751 rfl ?_
  refine tg_icmp_eq (tgt := 758) S dL_law_753 (by decide) (fun _ => ?_) (fun hc => absurd hOK.1 hc)
  refine tg_iload S 5 dL_law_758 rfl ?_
  refine tg_if_ne (tgt := 775) S dL_law_760 (by decide) (fun _ => ?_) (fun hz => ?_)
  · refine tg_goto (tgt := 1126) S dL_law_775 (by decide) ?_
    refine tg_sub (L' := [(0, .ref b), (1, .ref (h 0)), (2, .ref (g 0)), (3, .ref o), (4, .int (nI (7 * n)))]) [0, 1, 2, 3, 4] rfl ?_
    exact kn _ _ _ hOK.2.2
  · refine tg_aload_n S 3 dL_law_763 rfl rfl ?_
    refine tg_iconst (v := 0) S dL_law_764 (by decide) ?_
    refine lq_lald E dL_law_765 ?_
    refine tg_iload S 6 dL_law_766 rfl ?_
    refine tl_i2l S dL_law_768 ?_
    refine lq_lcmp E dL_law_769 ?_
    refine tg_if_eq (tgt := 775) S dL_law_770 (by decide) (fun _ => ?_) (fun hc => absurd (lq_out hOK (tl_k10 hz)) hc)
    refine tg_goto (tgt := 1126) S dL_law_775 (by decide) ?_
    refine tg_sub (L' := [(0, .ref b), (1, .ref (h 0)), (2, .ref (g 0)), (3, .ref o), (4, .int (nI (7 * n)))]) [0, 1, 2, 3, 4] rfl ?_
    exact kn _ _ _ hOK.2.2
set_option maxHeartbeats 4000000 in
set_option maxRecDepth 100000 in
theorem lq_case_inTree {l : Launch} {p : Program} {e : Env} {s : State} {m : MethodId} {below : List Frame} {meth : Method} {c : Code} {D : va_G} {h g : Nat → Nat} {o : Nat} {cI cZ cJ : ClassId} {b L : Nat} {xs : Nat → Int32} {k z : Nat} {u : Nat → Int64} {σ μ : tg_Mem} (E : lq_E l p s m meth c D h g o cI cZ cJ b L xs) {n : Nat} (hL : L ≤ 3584) (hn : 7 * n + 7 ≤ L) (hk : k + 1 ≤ 1000 ∧ z + 6 ≤ 9000) (hR : pu_REL σ μ) (kn : ∀ (u' : Nat → Int64) (σ' μ' : tg_Mem), pu_REL σ' μ' → lq_G l p e s m below meth c D h g o cI cZ cJ b (k + 1) (z + 6) u' σ' μ' 1126 [(0, .ref b), (1, .ref (h 0)), (2, .ref (g 0)), (3, .ref o), (4, .int (nI (7 * n)))] []) : lq_G l p e s m below meth c D h g o cI cZ cJ b k z u σ μ 778 [(0, .ref b), (1, .ref (h 0)), (2, .ref (g 0)), (3, .ref o), (4, .int (nI (7 * n)))] [] := by
  have S := lq_S E
  have hd := E.2.2.2.2.1
  have hg := E.2.2.2.2.2.1
  have hl := E.2.2.2.2.2.2.2.2.2
  have hOK := pu_inTreeK hR (xs (7 * n + 1)) (xs (7 * n + 2))
  refine tg_aload_n S 1 dL_law_778 rfl rfl ?_
  refine lq_arg E (n := n) (j := 1) 0 4 rfl rfl (by omega) hL (by decide) dL_law_779 dL_law_780 dL_law_782 dL_law_783 dL_law_784 ?_
  refine lq_arg E (n := n) (j := 2) 0 4 rfl rfl (by omega) hL (by decide) dL_law_785 dL_law_786 dL_law_788 dL_law_789 dL_law_790 ?_
  refine tg_aload_n S 3 dL_law_791 rfl rfl ?_
  refine lq_callL E (nA := 4) (As := [.ref (h 0), .int (xs (7 * n + 1)), .int (xs (7 * n + 2)), .ref o]) (rest := []) (k_L_inTree hd hl σ u (xs (7 * n + 1)) (xs (7 * n + 2))) (lq_good in_RL (tw_gS ml_RL_114 st_L_inTree in_RL co_L_inTree rfl)) rfl (by decide +kernel) ⟨Nat.le_of_ble_eq_true rfl, Nat.le_of_ble_eq_true rfl⟩ rfl rfl (Nat.le_of_ble_eq_true rfl) dL_law_792 ⟨(by show k + 1 ≤ 1073; omega), (by show z + 6 ≤ 9343; omega)⟩ ?_
  refine tg_istore [1, 2, 3, 4, 5, 0] S dL_law_795 (by decide) rfl ?_
  refine tg_aload_n S 2 dL_law_797 rfl rfl ?_
  refine lq_arg E (n := n) (j := 1) 0 4 rfl rfl (by omega) hL (by decide) dL_law_798 dL_law_799 dL_law_801 dL_law_802 dL_law_803 ?_
  refine lq_arg E (n := n) (j := 2) 0 4 rfl rfl (by omega) hL (by decide) dL_law_804 dL_law_805 dL_law_807 dL_law_808 dL_law_809 ?_
  refine lq_callM E (fr := 4) (nA := 2) (As := [.int (xs (7 * n + 1)), .int (xs (7 * n + 2))]) (rest := []) (k_X3_inTree hg μ (xs (7 * n + 1)) (xs (7 * n + 2)) (pu_hyp hR.1) (pu_HT hR (xs (7 * n + 1))) (pu_HC hR (xs (7 * n + 1)))) (lq_good in_RL (tw_gV ml_RL_116 im_X3_inTree se_X3_inTree in_RX3 co_X3_inTree rfl)) rfl (by decide +kernel) ⟨Nat.le_of_ble_eq_true rfl, Nat.le_of_ble_eq_true rfl⟩ rfl rfl (Nat.le_of_ble_eq_true rfl) dL_law_810 ⟨(by show k + 1 ≤ 1073; omega), (by show z + 6 ≤ 9343; omega)⟩ ?_
  refine tg_istore [1, 2, 3, 4, 5, 6, 0] S dL_law_813 (by decide) rfl ?_
  refine tg_aload_n S 2 dL_law_815 rfl rfl ?_
  refine lq_callM E (fr := 0) (nA := 0) (As := []) (rest := []) (k_X3_thrown hg _) (lq_good in_RL (tw_gV ml_RL_77 im_X3_thrown se_X3_thrown in_RX3 co_X3_thrown rfl)) rfl (by decide +kernel) ⟨Nat.le_of_ble_eq_true rfl, Nat.le_of_ble_eq_true rfl⟩ rfl rfl (Nat.le_of_ble_eq_true rfl) dL_law_816 ⟨(by show k + 1 ≤ 1073; omega), (by show z + 6 ≤ 9343; omega)⟩ ?_
  refine tg_iload S 5 dL_law_819 rfl ?_
  refine tg_icmp_eq (tgt := 826) S dL_law_821 (by decide) (fun _ => ?_) (fun hc => absurd hOK.1 hc)
  refine tg_iload S 5 dL_law_826 rfl ?_
  refine tg_if_ne (tgt := 843) S dL_law_828 (by decide) (fun _ => ?_) (fun hz => ?_)
  · refine tg_goto (tgt := 1126) S dL_law_843 (by decide) ?_
    refine tg_sub (L' := [(0, .ref b), (1, .ref (h 0)), (2, .ref (g 0)), (3, .ref o), (4, .int (nI (7 * n)))]) [0, 1, 2, 3, 4] rfl ?_
    exact kn _ _ _ hOK.2.2
  · refine tg_aload_n S 3 dL_law_831 rfl rfl ?_
    refine tg_iconst (v := 0) S dL_law_832 (by decide) ?_
    refine lq_lald E dL_law_833 ?_
    refine tg_iload S 6 dL_law_834 rfl ?_
    refine tl_i2l S dL_law_836 ?_
    refine lq_lcmp E dL_law_837 ?_
    refine tg_if_eq (tgt := 843) S dL_law_838 (by decide) (fun _ => ?_) (fun hc => absurd (lq_out hOK (tl_k0 hz)) hc)
    refine tg_goto (tgt := 1126) S dL_law_843 (by decide) ?_
    refine tg_sub (L' := [(0, .ref b), (1, .ref (h 0)), (2, .ref (g 0)), (3, .ref o), (4, .int (nI (7 * n)))]) [0, 1, 2, 3, 4] rfl ?_
    exact kn _ _ _ hOK.2.2
set_option maxHeartbeats 4000000 in
set_option maxRecDepth 100000 in
theorem lq_case_depth {l : Launch} {p : Program} {e : Env} {s : State} {m : MethodId} {below : List Frame} {meth : Method} {c : Code} {D : va_G} {h g : Nat → Nat} {o : Nat} {cI cZ cJ : ClassId} {b L : Nat} {xs : Nat → Int32} {k z : Nat} {u : Nat → Int64} {σ μ : tg_Mem} (E : lq_E l p s m meth c D h g o cI cZ cJ b L xs) {n : Nat} (hL : L ≤ 3584) (hn : 7 * n + 7 ≤ L) (hk : k + 1 ≤ 1000 ∧ z + 6 ≤ 9000) (hR : pu_REL σ μ) (kn : ∀ (u' : Nat → Int64) (σ' μ' : tg_Mem), pu_REL σ' μ' → lq_G l p e s m below meth c D h g o cI cZ cJ b (k + 1) (z + 6) u' σ' μ' 1126 [(0, .ref b), (1, .ref (h 0)), (2, .ref (g 0)), (3, .ref o), (4, .int (nI (7 * n)))] []) : lq_G l p e s m below meth c D h g o cI cZ cJ b k z u σ μ 846 [(0, .ref b), (1, .ref (h 0)), (2, .ref (g 0)), (3, .ref o), (4, .int (nI (7 * n)))] [] := by
  have S := lq_S E
  have hd := E.2.2.2.2.1
  have hg := E.2.2.2.2.2.1
  have hl := E.2.2.2.2.2.2.2.2.2
  obtain ⟨hH, hOK⟩ := pu_depthK hR (xs (7 * n + 1))
  refine tg_aload_n S 1 dL_law_846 rfl rfl ?_
  refine lq_arg E (n := n) (j := 1) 0 4 rfl rfl (by omega) hL (by decide) dL_law_847 dL_law_848 dL_law_850 dL_law_851 dL_law_852 ?_
  refine tg_aload_n S 3 dL_law_853 rfl rfl ?_
  refine lq_callL E (nA := 3) (As := [.ref (h 0), .int (xs (7 * n + 1)), .ref o]) (rest := []) (k_L_depth hd hl σ u (xs (7 * n + 1))) (lq_good in_RL (tw_gS ml_RL_117 st_L_depth in_RL co_L_depth rfl)) rfl (by decide +kernel) ⟨Nat.le_of_ble_eq_true rfl, Nat.le_of_ble_eq_true rfl⟩ rfl rfl (Nat.le_of_ble_eq_true rfl) dL_law_854 ⟨(by show k + 1 ≤ 1073; omega), (by show z + 6 ≤ 9343; omega)⟩ ?_
  refine tg_istore [1, 2, 3, 4, 5, 0] S dL_law_857 (by decide) rfl ?_
  refine tg_aload_n S 2 dL_law_859 rfl rfl ?_
  refine lq_arg E (n := n) (j := 1) 0 4 rfl rfl (by omega) hL (by decide) dL_law_860 dL_law_861 dL_law_863 dL_law_864 dL_law_865 ?_
  refine lq_callM E (fr := 4) (nA := 1) (As := [.int (xs (7 * n + 1))]) (rest := []) (k_X3_depth hg μ (xs (7 * n + 1)) (pu_hyp hR.1) (pu_HT hR (xs (7 * n + 1))) hH) (lq_good in_RL (tw_gV ml_RL_119 im_X3_depth se_X3_depth in_RX3 co_X3_depth rfl)) rfl (by decide +kernel) ⟨Nat.le_of_ble_eq_true rfl, Nat.le_of_ble_eq_true rfl⟩ rfl rfl (Nat.le_of_ble_eq_true rfl) dL_law_866 ⟨(by show k + 1 ≤ 1073; omega), (by show z + 6 ≤ 9343; omega)⟩ ?_
  refine tg_istore [1, 2, 3, 4, 5, 6, 0] S dL_law_869 (by decide) rfl ?_
  refine tg_aload_n S 2 dL_law_871 rfl rfl ?_
  refine lq_callM E (fr := 0) (nA := 0) (As := []) (rest := []) (k_X3_thrown hg _) (lq_good in_RL (tw_gV ml_RL_77 im_X3_thrown se_X3_thrown in_RX3 co_X3_thrown rfl)) rfl (by decide +kernel) ⟨Nat.le_of_ble_eq_true rfl, Nat.le_of_ble_eq_true rfl⟩ rfl rfl (Nat.le_of_ble_eq_true rfl) dL_law_872 ⟨(by show k + 1 ≤ 1073; omega), (by show z + 6 ≤ 9343; omega)⟩ ?_
  refine tg_iload S 5 dL_law_875 rfl ?_
  refine tg_icmp_eq (tgt := 882) S dL_law_877 (by decide) (fun _ => ?_) (fun hc => absurd hOK.1 hc)
  refine tg_iload S 5 dL_law_882 rfl ?_
  refine tg_if_ne (tgt := 899) S dL_law_884 (by decide) (fun _ => ?_) (fun hz => ?_)
  · refine tg_goto (tgt := 1126) S dL_law_899 (by decide) ?_
    refine tg_sub (L' := [(0, .ref b), (1, .ref (h 0)), (2, .ref (g 0)), (3, .ref o), (4, .int (nI (7 * n)))]) [0, 1, 2, 3, 4] rfl ?_
    exact kn _ _ _ hOK.2.2
  · refine tg_aload_n S 3 dL_law_887 rfl rfl ?_
    refine tg_iconst (v := 0) S dL_law_888 (by decide) ?_
    refine lq_lald E dL_law_889 ?_
    refine tg_iload S 6 dL_law_890 rfl ?_
    refine tl_i2l S dL_law_892 ?_
    refine lq_lcmp E dL_law_893 ?_
    refine tg_if_eq (tgt := 899) S dL_law_894 (by decide) (fun _ => ?_) (fun hc => absurd (lq_out hOK (tl_k0 hz)) hc)
    refine tg_goto (tgt := 1126) S dL_law_899 (by decide) ?_
    refine tg_sub (L' := [(0, .ref b), (1, .ref (h 0)), (2, .ref (g 0)), (3, .ref o), (4, .int (nI (7 * n)))]) [0, 1, 2, 3, 4] rfl ?_
    exact kn _ _ _ hOK.2.2
set_option maxHeartbeats 4000000 in
set_option maxRecDepth 100000 in
theorem lq_case_letters {l : Launch} {p : Program} {e : Env} {s : State} {m : MethodId} {below : List Frame} {meth : Method} {c : Code} {D : va_G} {h g : Nat → Nat} {o : Nat} {cI cZ cJ : ClassId} {b L : Nat} {xs : Nat → Int32} {k z : Nat} {u : Nat → Int64} {σ μ : tg_Mem} (E : lq_E l p s m meth c D h g o cI cZ cJ b L xs) {n : Nat} (hL : L ≤ 3584) (hn : 7 * n + 7 ≤ L) (hk : k + 1 ≤ 1000 ∧ z + 6 ≤ 9000) (hR : pu_REL σ μ) (kn : ∀ (u' : Nat → Int64) (σ' μ' : tg_Mem), pu_REL σ' μ' → lq_G l p e s m below meth c D h g o cI cZ cJ b (k + 1) (z + 6) u' σ' μ' 1126 [(0, .ref b), (1, .ref (h 0)), (2, .ref (g 0)), (3, .ref o), (4, .int (nI (7 * n)))] []) : lq_G l p e s m below meth c D h g o cI cZ cJ b k z u σ μ 902 [(0, .ref b), (1, .ref (h 0)), (2, .ref (g 0)), (3, .ref o), (4, .int (nI (7 * n)))] [] := by
  have S := lq_S E
  have hd := E.2.2.2.2.1
  have hg := E.2.2.2.2.2.1
  have hl := E.2.2.2.2.2.2.2.2.2
  have hOK := pu_lettersK hR (xs (7 * n + 1))
  refine tg_aload_n S 1 dL_law_902 rfl rfl ?_
  refine lq_arg E (n := n) (j := 1) 0 4 rfl rfl (by omega) hL (by decide) dL_law_903 dL_law_904 dL_law_906 dL_law_907 dL_law_908 ?_
  refine tg_aload_n S 3 dL_law_909 rfl rfl ?_
  refine lq_callL E (nA := 3) (As := [.ref (h 0), .int (xs (7 * n + 1)), .ref o]) (rest := []) (k_L_letters hd hl σ u (xs (7 * n + 1))) (lq_good in_RL (tw_gS ml_RL_120 st_L_letters in_RL co_L_letters rfl)) rfl (by decide +kernel) ⟨Nat.le_of_ble_eq_true rfl, Nat.le_of_ble_eq_true rfl⟩ rfl rfl (Nat.le_of_ble_eq_true rfl) dL_law_910 ⟨(by show k + 1 ≤ 1073; omega), (by show z + 6 ≤ 9343; omega)⟩ ?_
  refine tg_istore [1, 2, 3, 4, 5, 0] S dL_law_913 (by decide) rfl ?_
  refine tg_aload_n S 2 dL_law_915 rfl rfl ?_
  refine lq_arg E (n := n) (j := 1) 0 4 rfl rfl (by omega) hL (by decide) dL_law_916 dL_law_917 dL_law_919 dL_law_920 dL_law_921 ?_
  refine lq_callM E (fr := 4) (nA := 1) (As := [.int (xs (7 * n + 1))]) (rest := []) (k_X3_letters hg μ (xs (7 * n + 1)) (pu_hyp hR.1) (pu_HT hR (xs (7 * n + 1))) (pu_HC hR (xs (7 * n + 1)))) (lq_good in_RL (tw_gV ml_RL_122 im_X3_letters se_X3_letters in_RX3 co_X3_letters rfl)) rfl (by decide +kernel) ⟨Nat.le_of_ble_eq_true rfl, Nat.le_of_ble_eq_true rfl⟩ rfl rfl (Nat.le_of_ble_eq_true rfl) dL_law_922 ⟨(by show k + 1 ≤ 1073; omega), (by show z + 6 ≤ 9343; omega)⟩ ?_
  refine tg_istore [1, 2, 3, 4, 5, 6, 0] S dL_law_925 (by decide) rfl ?_
  refine tg_aload_n S 2 dL_law_927 rfl rfl ?_
  refine lq_callM E (fr := 0) (nA := 0) (As := []) (rest := []) (k_X3_thrown hg _) (lq_good in_RL (tw_gV ml_RL_77 im_X3_thrown se_X3_thrown in_RX3 co_X3_thrown rfl)) rfl (by decide +kernel) ⟨Nat.le_of_ble_eq_true rfl, Nat.le_of_ble_eq_true rfl⟩ rfl rfl (Nat.le_of_ble_eq_true rfl) dL_law_928 ⟨(by show k + 1 ≤ 1073; omega), (by show z + 6 ≤ 9343; omega)⟩ ?_
  refine tg_iload S 5 dL_law_931 rfl ?_
  refine tg_icmp_eq (tgt := 938) S dL_law_933 (by decide) (fun _ => ?_) (fun hc => absurd hOK.1 hc)
  refine tg_iload S 5 dL_law_938 rfl ?_
  refine tg_if_ne (tgt := 955) S dL_law_940 (by decide) (fun _ => ?_) (fun hz => ?_)
  · refine tg_goto (tgt := 1126) S dL_law_955 (by decide) ?_
    refine tg_sub (L' := [(0, .ref b), (1, .ref (h 0)), (2, .ref (g 0)), (3, .ref o), (4, .int (nI (7 * n)))]) [0, 1, 2, 3, 4] rfl ?_
    exact kn _ _ _ hOK.2.2
  · refine tg_aload_n S 3 dL_law_943 rfl rfl ?_
    refine tg_iconst (v := 0) S dL_law_944 (by decide) ?_
    refine lq_lald E dL_law_945 ?_
    refine tg_iload S 6 dL_law_946 rfl ?_
    refine tl_i2l S dL_law_948 ?_
    refine lq_lcmp E dL_law_949 ?_
    refine tg_if_eq (tgt := 955) S dL_law_950 (by decide) (fun _ => ?_) (fun hc => absurd (lq_out hOK (tl_k0 hz)) hc)
    refine tg_goto (tgt := 1126) S dL_law_955 (by decide) ?_
    refine tg_sub (L' := [(0, .ref b), (1, .ref (h 0)), (2, .ref (g 0)), (3, .ref o), (4, .int (nI (7 * n)))]) [0, 1, 2, 3, 4] rfl ?_
    exact kn _ _ _ hOK.2.2
set_option maxHeartbeats 4000000 in
set_option maxRecDepth 100000 in
theorem lq_case_unread {l : Launch} {p : Program} {e : Env} {s : State} {m : MethodId} {below : List Frame} {meth : Method} {c : Code} {D : va_G} {h g : Nat → Nat} {o : Nat} {cI cZ cJ : ClassId} {b L : Nat} {xs : Nat → Int32} {k z : Nat} {u : Nat → Int64} {σ μ : tg_Mem} (E : lq_E l p s m meth c D h g o cI cZ cJ b L xs) {n : Nat} (hL : L ≤ 3584) (hn : 7 * n + 7 ≤ L) (hk : k + 1 ≤ 1000 ∧ z + 6 ≤ 9000) (hR : pu_REL σ μ) (kn : ∀ (u' : Nat → Int64) (σ' μ' : tg_Mem), pu_REL σ' μ' → lq_G l p e s m below meth c D h g o cI cZ cJ b (k + 1) (z + 6) u' σ' μ' 1126 [(0, .ref b), (1, .ref (h 0)), (2, .ref (g 0)), (3, .ref o), (4, .int (nI (7 * n)))] []) : lq_G l p e s m below meth c D h g o cI cZ cJ b k z u σ μ 958 [(0, .ref b), (1, .ref (h 0)), (2, .ref (g 0)), (3, .ref o), (4, .int (nI (7 * n)))] [] := by
  have S := lq_S E
  have hd := E.2.2.2.2.1
  have hg := E.2.2.2.2.2.1
  have hl := E.2.2.2.2.2.2.2.2.2
  have hOK := pu_unreadK hR (xs (7 * n + 1))
  refine tg_aload_n S 1 dL_law_958 rfl rfl ?_
  refine lq_arg E (n := n) (j := 1) 0 4 rfl rfl (by omega) hL (by decide) dL_law_959 dL_law_960 dL_law_962 dL_law_963 dL_law_964 ?_
  refine tg_aload_n S 3 dL_law_965 rfl rfl ?_
  refine lq_callL E (nA := 3) (As := [.ref (h 0), .int (xs (7 * n + 1)), .ref o]) (rest := []) (k_L_unread hd hl σ u (xs (7 * n + 1))) (lq_good in_RL (tw_gS ml_RL_123 st_L_unread in_RL co_L_unread rfl)) rfl (by decide +kernel) ⟨Nat.le_of_ble_eq_true rfl, Nat.le_of_ble_eq_true rfl⟩ rfl rfl (Nat.le_of_ble_eq_true rfl) dL_law_966 ⟨(by show k + 1 ≤ 1073; omega), (by show z + 6 ≤ 9343; omega)⟩ ?_
  refine tg_istore [1, 2, 3, 4, 5, 0] S dL_law_969 (by decide) rfl ?_
  refine tg_aload_n S 2 dL_law_971 rfl rfl ?_
  refine lq_arg E (n := n) (j := 1) 0 4 rfl rfl (by omega) hL (by decide) dL_law_972 dL_law_973 dL_law_975 dL_law_976 dL_law_977 ?_
  refine lq_callM E (fr := 4) (nA := 1) (As := [.int (xs (7 * n + 1))]) (rest := []) (k_X3_unread hg μ (xs (7 * n + 1)) (pu_hyp hR.1) (pu_HT hR (xs (7 * n + 1))) (pu_HC hR (xs (7 * n + 1)))) (lq_good in_RL (tw_gV ml_RL_125 im_X3_unread se_X3_unread in_RX3 co_X3_unread rfl)) rfl (by decide +kernel) ⟨Nat.le_of_ble_eq_true rfl, Nat.le_of_ble_eq_true rfl⟩ rfl rfl (Nat.le_of_ble_eq_true rfl) dL_law_978 ⟨(by show k + 1 ≤ 1073; omega), (by show z + 6 ≤ 9343; omega)⟩ ?_
  refine tg_istore [1, 2, 3, 4, 5, 6, 0] S dL_law_981 (by decide) rfl ?_
  refine tg_aload_n S 2 dL_law_983 rfl rfl ?_
  refine lq_callM E (fr := 0) (nA := 0) (As := []) (rest := []) (k_X3_thrown hg _) (lq_good in_RL (tw_gV ml_RL_77 im_X3_thrown se_X3_thrown in_RX3 co_X3_thrown rfl)) rfl (by decide +kernel) ⟨Nat.le_of_ble_eq_true rfl, Nat.le_of_ble_eq_true rfl⟩ rfl rfl (Nat.le_of_ble_eq_true rfl) dL_law_984 ⟨(by show k + 1 ≤ 1073; omega), (by show z + 6 ≤ 9343; omega)⟩ ?_
  refine tg_iload S 5 dL_law_987 rfl ?_
  refine tg_icmp_eq (tgt := 994) S dL_law_989 (by decide) (fun _ => ?_) (fun hc => absurd hOK.1 hc)
  refine tg_iload S 5 dL_law_994 rfl ?_
  refine tg_if_ne (tgt := 1011) S dL_law_996 (by decide) (fun _ => ?_) (fun hz => ?_)
  · refine tg_goto (tgt := 1126) S dL_law_1011 (by decide) ?_
    refine tg_sub (L' := [(0, .ref b), (1, .ref (h 0)), (2, .ref (g 0)), (3, .ref o), (4, .int (nI (7 * n)))]) [0, 1, 2, 3, 4] rfl ?_
    exact kn _ _ _ hOK.2.2
  · refine tg_aload_n S 3 dL_law_999 rfl rfl ?_
    refine tg_iconst (v := 0) S dL_law_1000 (by decide) ?_
    refine lq_lald E dL_law_1001 ?_
    refine tg_iload S 6 dL_law_1002 rfl ?_
    refine tl_i2l S dL_law_1004 ?_
    refine lq_lcmp E dL_law_1005 ?_
    refine tg_if_eq (tgt := 1011) S dL_law_1006 (by decide) (fun _ => ?_) (fun hc => absurd (lq_out hOK (tl_k0 hz)) hc)
    refine tg_goto (tgt := 1126) S dL_law_1011 (by decide) ?_
    refine tg_sub (L' := [(0, .ref b), (1, .ref (h 0)), (2, .ref (g 0)), (3, .ref o), (4, .int (nI (7 * n)))]) [0, 1, 2, 3, 4] rfl ?_
    exact kn _ _ _ hOK.2.2
set_option maxHeartbeats 4000000 in
set_option maxRecDepth 100000 in
theorem lq_case_people {l : Launch} {p : Program} {e : Env} {s : State} {m : MethodId} {below : List Frame} {meth : Method} {c : Code} {D : va_G} {h g : Nat → Nat} {o : Nat} {cI cZ cJ : ClassId} {b L : Nat} {xs : Nat → Int32} {k z : Nat} {u : Nat → Int64} {σ μ : tg_Mem} (E : lq_E l p s m meth c D h g o cI cZ cJ b L xs) {n : Nat} (hL : L ≤ 3584) (hn : 7 * n + 7 ≤ L) (hk : k + 1 ≤ 1000 ∧ z + 6 ≤ 9000) (hR : pu_REL σ μ) (kn : ∀ (u' : Nat → Int64) (σ' μ' : tg_Mem), pu_REL σ' μ' → lq_G l p e s m below meth c D h g o cI cZ cJ b (k + 1) (z + 6) u' σ' μ' 1126 [(0, .ref b), (1, .ref (h 0)), (2, .ref (g 0)), (3, .ref o), (4, .int (nI (7 * n)))] []) : lq_G l p e s m below meth c D h g o cI cZ cJ b k z u σ μ 1014 [(0, .ref b), (1, .ref (h 0)), (2, .ref (g 0)), (3, .ref o), (4, .int (nI (7 * n)))] [] := by
  have S := lq_S E
  have hd := E.2.2.2.2.1
  have hg := E.2.2.2.2.2.1
  have hl := E.2.2.2.2.2.2.2.2.2
  have hOK := pu_peopleK hR (xs (7 * n + 1))
  refine tg_aload_n S 1 dL_law_1014 rfl rfl ?_
  refine lq_arg E (n := n) (j := 1) 0 4 rfl rfl (by omega) hL (by decide) dL_law_1015 dL_law_1016 dL_law_1018 dL_law_1019 dL_law_1020 ?_
  refine tg_aload_n S 3 dL_law_1021 rfl rfl ?_
  refine lq_callL E (nA := 3) (As := [.ref (h 0), .int (xs (7 * n + 1)), .ref o]) (rest := []) (k_L_people hd hl σ u (xs (7 * n + 1))) (lq_good in_RL (tw_gS ml_RL_126 st_L_people in_RL co_L_people rfl)) rfl (by decide +kernel) ⟨Nat.le_of_ble_eq_true rfl, Nat.le_of_ble_eq_true rfl⟩ rfl rfl (Nat.le_of_ble_eq_true rfl) dL_law_1022 ⟨(by show k + 1 ≤ 1073; omega), (by show z + 6 ≤ 9343; omega)⟩ ?_
  refine tg_istore [1, 2, 3, 4, 5, 0] S dL_law_1025 (by decide) rfl ?_
  refine tg_aload_n S 2 dL_law_1027 rfl rfl ?_
  refine lq_arg E (n := n) (j := 1) 0 4 rfl rfl (by omega) hL (by decide) dL_law_1028 dL_law_1029 dL_law_1031 dL_law_1032 dL_law_1033 ?_
  refine lq_callM E (fr := 4) (nA := 1) (As := [.int (xs (7 * n + 1))]) (rest := []) (k_X3_people hg μ (xs (7 * n + 1)) (pu_hyp hR.1) (pu_HT hR (xs (7 * n + 1))) (pu_HC hR (xs (7 * n + 1)))) (lq_good in_RL (tw_gV ml_RL_128 im_X3_people se_X3_people in_RX3 co_X3_people rfl)) rfl (by decide +kernel) ⟨Nat.le_of_ble_eq_true rfl, Nat.le_of_ble_eq_true rfl⟩ rfl rfl (Nat.le_of_ble_eq_true rfl) dL_law_1034 ⟨(by show k + 1 ≤ 1073; omega), (by show z + 6 ≤ 9343; omega)⟩ ?_
  refine tg_istore [1, 2, 3, 4, 5, 6, 0] S dL_law_1037 (by decide) rfl ?_
  refine tg_aload_n S 2 dL_law_1039 rfl rfl ?_
  refine lq_callM E (fr := 0) (nA := 0) (As := []) (rest := []) (k_X3_thrown hg _) (lq_good in_RL (tw_gV ml_RL_77 im_X3_thrown se_X3_thrown in_RX3 co_X3_thrown rfl)) rfl (by decide +kernel) ⟨Nat.le_of_ble_eq_true rfl, Nat.le_of_ble_eq_true rfl⟩ rfl rfl (Nat.le_of_ble_eq_true rfl) dL_law_1040 ⟨(by show k + 1 ≤ 1073; omega), (by show z + 6 ≤ 9343; omega)⟩ ?_
  refine tg_iload S 5 dL_law_1043 rfl ?_
  refine tg_icmp_eq (tgt := 1050) S dL_law_1045 (by decide) (fun _ => ?_) (fun hc => absurd hOK.1 hc)
  refine tg_iload S 5 dL_law_1050 rfl ?_
  refine tg_if_ne (tgt := 1067) S dL_law_1052 (by decide) (fun _ => ?_) (fun hz => ?_)
  · refine tg_goto (tgt := 1126) S dL_law_1067 (by decide) ?_
    refine tg_sub (L' := [(0, .ref b), (1, .ref (h 0)), (2, .ref (g 0)), (3, .ref o), (4, .int (nI (7 * n)))]) [0, 1, 2, 3, 4] rfl ?_
    exact kn _ _ _ hOK.2.2
  · refine tg_aload_n S 3 dL_law_1055 rfl rfl ?_
    refine tg_iconst (v := 0) S dL_law_1056 (by decide) ?_
    refine lq_lald E dL_law_1057 ?_
    refine tg_iload S 6 dL_law_1058 rfl ?_
    refine tl_i2l S dL_law_1060 ?_
    refine lq_lcmp E dL_law_1061 ?_
    refine tg_if_eq (tgt := 1067) S dL_law_1062 (by decide) (fun _ => ?_) (fun hc => absurd (lq_out hOK (tl_k0 hz)) hc)
    refine tg_goto (tgt := 1126) S dL_law_1067 (by decide) ?_
    refine tg_sub (L' := [(0, .ref b), (1, .ref (h 0)), (2, .ref (g 0)), (3, .ref o), (4, .int (nI (7 * n)))]) [0, 1, 2, 3, 4] rfl ?_
    exact kn _ _ _ hOK.2.2
set_option maxHeartbeats 4000000 in
set_option maxRecDepth 100000 in
theorem lq_case_latest {l : Launch} {p : Program} {e : Env} {s : State} {m : MethodId} {below : List Frame} {meth : Method} {c : Code} {D : va_G} {h g : Nat → Nat} {o : Nat} {cI cZ cJ : ClassId} {b L : Nat} {xs : Nat → Int32} {k z : Nat} {u : Nat → Int64} {σ μ : tg_Mem} (E : lq_E l p s m meth c D h g o cI cZ cJ b L xs) {n : Nat} (hL : L ≤ 3584) (hn : 7 * n + 7 ≤ L) (hk : k + 1 ≤ 1000 ∧ z + 6 ≤ 9000) (hR : pu_REL σ μ) (kn : ∀ (u' : Nat → Int64) (σ' μ' : tg_Mem), pu_REL σ' μ' → lq_G l p e s m below meth c D h g o cI cZ cJ b (k + 1) (z + 6) u' σ' μ' 1126 [(0, .ref b), (1, .ref (h 0)), (2, .ref (g 0)), (3, .ref o), (4, .int (nI (7 * n)))] []) : lq_G l p e s m below meth c D h g o cI cZ cJ b k z u σ μ 1070 [(0, .ref b), (1, .ref (h 0)), (2, .ref (g 0)), (3, .ref o), (4, .int (nI (7 * n)))] [] := by
  have S := lq_S E
  have hd := E.2.2.2.2.1
  have hg := E.2.2.2.2.2.1
  have hl := E.2.2.2.2.2.2.2.2.2
  have hOK := pu_latestK hR (xs (7 * n + 1))
  refine tg_aload_n S 1 dL_law_1070 rfl rfl ?_
  refine lq_arg E (n := n) (j := 1) 0 4 rfl rfl (by omega) hL (by decide) dL_law_1071 dL_law_1072 dL_law_1074 dL_law_1075 dL_law_1076 ?_
  refine tg_aload_n S 3 dL_law_1077 rfl rfl ?_
  refine lq_callL E (nA := 3) (As := [.ref (h 0), .int (xs (7 * n + 1)), .ref o]) (rest := []) (k_L_latest hd hl σ u (xs (7 * n + 1))) (lq_good in_RL (tw_gS ml_RL_129 st_L_latest in_RL co_L_latest rfl)) rfl (by decide +kernel) ⟨Nat.le_of_ble_eq_true rfl, Nat.le_of_ble_eq_true rfl⟩ rfl rfl (Nat.le_of_ble_eq_true rfl) dL_law_1078 ⟨(by show k + 1 ≤ 1073; omega), (by show z + 6 ≤ 9343; omega)⟩ ?_
  refine tg_istore [1, 2, 3, 4, 5, 0] S dL_law_1081 (by decide) rfl ?_
  refine tg_aload_n S 2 dL_law_1083 rfl rfl ?_
  refine lq_arg E (n := n) (j := 1) 0 4 rfl rfl (by omega) hL (by decide) dL_law_1084 dL_law_1085 dL_law_1087 dL_law_1088 dL_law_1089 ?_
  refine lq_callM E (fr := 4) (nA := 1) (As := [.int (xs (7 * n + 1))]) (rest := []) (k_X3_latest hg μ (xs (7 * n + 1)) (pu_hyp hR.1) (pu_HT hR (xs (7 * n + 1))) (pu_HC hR (xs (7 * n + 1)))) (lq_good in_RL (tw_gV ml_RL_131 im_X3_latest se_X3_latest in_RX3 co_X3_latest rfl)) rfl (by decide +kernel) ⟨Nat.le_of_ble_eq_true rfl, Nat.le_of_ble_eq_true rfl⟩ rfl rfl (Nat.le_of_ble_eq_true rfl) dL_law_1090 ⟨(by show k + 1 ≤ 1073; omega), (by show z + 6 ≤ 9343; omega)⟩ ?_
  refine tg_istore [1, 2, 3, 4, 5, 6, 0] S dL_law_1093 (by decide) rfl ?_
  refine tg_aload_n S 2 dL_law_1095 rfl rfl ?_
  refine lq_callM E (fr := 0) (nA := 0) (As := []) (rest := []) (k_X3_thrown hg _) (lq_good in_RL (tw_gV ml_RL_77 im_X3_thrown se_X3_thrown in_RX3 co_X3_thrown rfl)) rfl (by decide +kernel) ⟨Nat.le_of_ble_eq_true rfl, Nat.le_of_ble_eq_true rfl⟩ rfl rfl (Nat.le_of_ble_eq_true rfl) dL_law_1096 ⟨(by show k + 1 ≤ 1073; omega), (by show z + 6 ≤ 9343; omega)⟩ ?_
  refine tg_iload S 5 dL_law_1099 rfl ?_
  refine tg_icmp_eq (tgt := 1106) S dL_law_1101 (by decide) (fun _ => ?_) (fun hc => absurd hOK.1 hc)
  refine tg_iload S 5 dL_law_1106 rfl ?_
  refine tg_if_ne (tgt := 1123) S dL_law_1108 (by decide) (fun _ => ?_) (fun hz => ?_)
  · refine tg_goto (tgt := 1126) S dL_law_1123 (by decide) ?_
    refine tg_sub (L' := [(0, .ref b), (1, .ref (h 0)), (2, .ref (g 0)), (3, .ref o), (4, .int (nI (7 * n)))]) [0, 1, 2, 3, 4] rfl ?_
    exact kn _ _ _ hOK.2.2
  · refine tg_aload_n S 3 dL_law_1111 rfl rfl ?_
    refine tg_iconst (v := 0) S dL_law_1112 (by decide) ?_
    refine lq_lald E dL_law_1113 ?_
    refine tg_iload S 6 dL_law_1114 rfl ?_
    refine tl_i2l S dL_law_1116 ?_
    refine lq_lcmp E dL_law_1117 ?_
    refine tg_if_eq (tgt := 1123) S dL_law_1118 (by decide) (fun _ => ?_) (fun hc => absurd (lq_out hOK (tl_k0 hz)) hc)
    refine tg_goto (tgt := 1126) S dL_law_1123 (by decide) ?_
    refine tg_sub (L' := [(0, .ref b), (1, .ref (h 0)), (2, .ref (g 0)), (3, .ref o), (4, .int (nI (7 * n)))]) [0, 1, 2, 3, 4] rfl ?_
    exact kn _ _ _ hOK.2.2
