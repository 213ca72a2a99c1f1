/-! ===== 01w: the tables' words by their places (printed by wip/whole/mkwords.py) ===== -/
def tw_G : List Cond := lw_tbl.filter goodWord
theorem tw_in {w x : Cond} (h : w ∈ lw_tbl) (hg : goodWord w = true) : w ∈ x :: tw_G := List.mem_cons_of_mem _ (List.mem_filter.mpr ⟨h, hg⟩)
theorem tw_m1 {w : Cond} (h : w ∈ tables_1_1) : w ∈ lw_tbl := List.mem_append_right _ (List.mem_append_left _ h)
theorem tw_m2 {w : Cond} (h : w ∈ tables_1_2) : w ∈ lw_tbl := List.mem_append_right _ (List.mem_append_right _ (List.mem_append_left _ h))
theorem tw_m3 {w : Cond} (h : w ∈ tables_1_3) : w ∈ lw_tbl := List.mem_append_right _ (List.mem_append_right _ (List.mem_append_right _ h))
theorem tw_m0 {q : MethodName × Nat} (h : q ∈ lw_privs) : Cond.selects q.1.cls q.1 q.1 ∈ lw_tbl := List.mem_append_left _ (List.mem_map.mpr ⟨q, h, rfl⟩)
theorem tw_good {w x : Cond} (hw : w ∈ tw_G) : w ∈ x :: tw_G ∧ ((w.onTables && w.keeps) = true ∨ ∃ ty, w = .arrayClass ty) := ⟨List.mem_cons_of_mem _ hw, good_of_word (List.mem_filter.mp hw).2⟩
theorem tw_one {w x : Cond} (h : w ∈ lw_tbl) (hg : goodWord w = true) : w ∈ x :: tw_G ∧ ((w.onTables && w.keeps) = true ∨ ∃ ty, w = .arrayClass ty) := ⟨tw_in h hg, good_of_word hg⟩
theorem tw_gW {x w : Cond} (h : w ∈ lw_tbl) (hg : goodWord w = true) : GoodIn (x :: tw_G) (w :: tw_G) := fun v hv => (List.mem_cons.mp hv).elim (fun e => by rw [e]; exact tw_one h hg) tw_good
theorem tw_gV {x w : Cond} {own C : String} {idx : Nat} {y : MethodName} (h1 : Cond.methodLink own idx y ∈ lw_tbl) (h2 : Cond.instanceMethod y ∈ lw_tbl) (h3 : Cond.selects C y y ∈ lw_tbl) (h4 : Cond.initialized C ∈ lw_tbl) (h5 : w ∈ lw_tbl) (hg : (goodWord (.methodLink own idx y) && goodWord (.instanceMethod y) && goodWord (.selects C y y) && goodWord (.initialized C) && goodWord w) = true) : GoodIn (x :: tw_G) (wsV own idx C y (w :: tw_G)) := by
  simp only [Bool.and_eq_true] at hg
  intro v hv
  unfold wsV at hv
  rcases List.mem_append.mp hv with h | h
  · simp only [List.mem_cons, List.not_mem_nil, or_false] at h
    rcases h with rfl | rfl | rfl | rfl
    · exact tw_one h1 hg.1.1.1.1
    · exact tw_one h2 hg.1.1.1.2
    · exact tw_one h3 hg.1.1.2
    · exact tw_one h4 hg.1.2
  · exact tw_gW h5 hg.2 v h
theorem tw_gS {x w : Cond} {own : String} {idx : Nat} {y : MethodName} (h1 : Cond.methodLink own idx y ∈ lw_tbl) (h2 : Cond.static y ∈ lw_tbl) (h4 : Cond.initialized y.cls ∈ lw_tbl) (h5 : w ∈ lw_tbl) (hg : (goodWord (.methodLink own idx y) && goodWord (.static y) && goodWord (.initialized y.cls) && goodWord w) = true) : GoodIn (x :: tw_G) (va_wsS own idx y (w :: tw_G)) := by
  simp only [Bool.and_eq_true] at hg
  intro v hv
  unfold va_wsS at hv
  rcases List.mem_append.mp hv with h | h
  · simp only [List.mem_cons, List.not_mem_nil, or_false] at h
    rcases h with rfl | rfl | rfl
    · exact tw_one h1 hg.1.1.1
    · exact tw_one h2 hg.1.1.2
    · exact tw_one h4 hg.1.2
  · exact tw_gW h5 hg.2 v h
theorem in_RL : Cond.initialized RL ∈ lw_tbl := tw_m1 (List.mem_of_getElem? (i := 0) rfl)
theorem in_RX2 : Cond.initialized RX2 ∈ lw_tbl := tw_m1 (List.mem_of_getElem? (i := 1) rfl)
theorem in_RX1 : Cond.initialized RX1 ∈ lw_tbl := tw_m1 (List.mem_of_getElem? (i := 2) rfl)
theorem in_RX0 : Cond.initialized RX0 ∈ lw_tbl := tw_m1 (List.mem_of_getElem? (i := 3) rfl)
theorem in_Throwable : Cond.initialized "java/lang/Throwable" ∈ lw_tbl := tw_m1 (List.mem_of_getElem? (i := 4) rfl)
theorem in_Exception : Cond.initialized "java/lang/Exception" ∈ lw_tbl := tw_m1 (List.mem_of_getElem? (i := 5) rfl)
theorem in_RuntimeException : Cond.initialized "java/lang/RuntimeException" ∈ lw_tbl := tw_m1 (List.mem_of_getElem? (i := 6) rfl)
theorem in_IllegalArgumentException : Cond.initialized "java/lang/IllegalArgumentException" ∈ lw_tbl := tw_m1 (List.mem_of_getElem? (i := 7) rfl)
theorem in_IllegalStateException : Cond.initialized "java/lang/IllegalStateException" ∈ lw_tbl := tw_m1 (List.mem_of_getElem? (i := 8) rfl)
theorem in_Math : Cond.initialized "java/lang/Math" ∈ lw_tbl := tw_m1 (List.mem_of_getElem? (i := 9) rfl)
theorem in_IndexOutOfBoundsException : Cond.initialized "java/lang/IndexOutOfBoundsException" ∈ lw_tbl := tw_m1 (List.mem_of_getElem? (i := 10) rfl)
theorem ml_RL_68 : Cond.methodLink RL 68 yX2_init ∈ lw_tbl := tw_m1 (List.mem_of_getElem? (i := 13) rfl)
theorem im_X2_init : Cond.instanceMethod yX2_init ∈ lw_tbl := tw_m1 (List.mem_of_getElem? (i := 14) rfl)
theorem co_X2_init : Cond.code yX2_init cX2_init 1 none ∈ lw_tbl := tw_m1 (List.mem_of_getElem? (i := 15) rfl)
theorem ml_RX2_1 : Cond.methodLink RX2 1 objectInit ∈ lw_tbl := tw_m1 (List.mem_of_getElem? (i := 16) rfl)
theorem im_objectInit : Cond.instanceMethod objectInit ∈ lw_tbl := tw_m1 (List.mem_of_getElem? (i := 17) rfl)
theorem co_objectInit : Cond.code objectInit ⟨#[0xb1]⟩ 1 none ∈ lw_tbl := tw_m1 (List.mem_of_getElem? (i := 18) rfl)
theorem im_X1_init : Cond.instanceMethod yX1_init ∈ lw_tbl := tw_m1 (List.mem_of_getElem? (i := 22) rfl)
theorem co_X1_init : Cond.code yX1_init cX1_init 1 none ∈ lw_tbl := tw_m1 (List.mem_of_getElem? (i := 23) rfl)
theorem ml_RX1_3 : Cond.methodLink RX1 3 objectInit ∈ lw_tbl := tw_m1 (List.mem_of_getElem? (i := 24) rfl)
theorem fl_RX1_9 : Cond.fieldLink RX1 9 "Threadline$Mail" "there" "[Z" ∈ lw_tbl := tw_m1 (List.mem_of_getElem? (i := 25) rfl)
theorem fl_RX1_15 : Cond.fieldLink RX1 15 "Threadline$Mail" "toldGrandparent" "[I" ∈ lw_tbl := tw_m1 (List.mem_of_getElem? (i := 26) rfl)
theorem fl_RX1_19 : Cond.fieldLink RX1 19 "Threadline$Mail" "toldParent" "[I" ∈ lw_tbl := tw_m1 (List.mem_of_getElem? (i := 27) rfl)
theorem fl_RX1_22 : Cond.fieldLink RX1 22 "Threadline$Mail" "subject" "[I" ∈ lw_tbl := tw_m1 (List.mem_of_getElem? (i := 28) rfl)
theorem fl_RX1_25 : Cond.fieldLink RX1 25 "Threadline$Mail" "reply" "[Z" ∈ lw_tbl := tw_m1 (List.mem_of_getElem? (i := 29) rfl)
theorem fl_RX1_28 : Cond.fieldLink RX1 28 "Threadline$Mail" "day" "[I" ∈ lw_tbl := tw_m1 (List.mem_of_getElem? (i := 30) rfl)
theorem fl_RX1_31 : Cond.fieldLink RX1 31 "Threadline$Mail" "person" "[I" ∈ lw_tbl := tw_m1 (List.mem_of_getElem? (i := 31) rfl)
theorem fl_RX1_34 : Cond.fieldLink RX1 34 "Threadline$Mail" "unseen" "[Z" ∈ lw_tbl := tw_m1 (List.mem_of_getElem? (i := 32) rfl)
theorem fl_RX1_37 : Cond.fieldLink RX1 37 "Threadline$Mail" "hand" "[I" ∈ lw_tbl := tw_m1 (List.mem_of_getElem? (i := 33) rfl)
theorem im_X0_init : Cond.instanceMethod yX0_init ∈ lw_tbl := tw_m1 (List.mem_of_getElem? (i := 58) rfl)
theorem co_X0_init : Cond.code yX0_init cX0_init 2 none ∈ lw_tbl := tw_m1 (List.mem_of_getElem? (i := 59) rfl)
theorem ml_RX0_3 : Cond.methodLink RX0 3 objectInit ∈ lw_tbl := tw_m1 (List.mem_of_getElem? (i := 60) rfl)
theorem fl_RX0_46 : Cond.fieldLink RX0 46 "Threadline$Forest" "mail" "LThreadline$Mail;" ∈ lw_tbl := tw_m1 (List.mem_of_getElem? (i := 61) rfl)
theorem fl_RX0_9 : Cond.fieldLink RX0 9 "Threadline$Forest" "known" "[Z" ∈ lw_tbl := tw_m1 (List.mem_of_getElem? (i := 62) rfl)
theorem fl_RX0_15 : Cond.fieldLink RX0 15 "Threadline$Forest" "link" "[I" ∈ lw_tbl := tw_m1 (List.mem_of_getElem? (i := 63) rfl)
theorem fl_RX0_19 : Cond.fieldLink RX0 19 "Threadline$Forest" "parentOf" "[I" ∈ lw_tbl := tw_m1 (List.mem_of_getElem? (i := 64) rfl)
theorem fl_RX0_22 : Cond.fieldLink RX0 22 "Threadline$Forest" "standing" "[Z" ∈ lw_tbl := tw_m1 (List.mem_of_getElem? (i := 65) rfl)
theorem fl_RX0_25 : Cond.fieldLink RX0 25 "Threadline$Forest" "earliest" "[I" ∈ lw_tbl := tw_m1 (List.mem_of_getElem? (i := 66) rfl)
theorem fl_RX0_28 : Cond.fieldLink RX0 28 "Threadline$Forest" "turn" "[I" ∈ lw_tbl := tw_m1 (List.mem_of_getElem? (i := 67) rfl)
theorem fl_RX0_31 : Cond.fieldLink RX0 31 "Threadline$Forest" "size" "[I" ∈ lw_tbl := tw_m1 (List.mem_of_getElem? (i := 68) rfl)
theorem fl_RX0_34 : Cond.fieldLink RX0 34 "Threadline$Forest" "offset" "[I" ∈ lw_tbl := tw_m1 (List.mem_of_getElem? (i := 69) rfl)
theorem fl_RX0_37 : Cond.fieldLink RX0 37 "Threadline$Forest" "start" "[I" ∈ lw_tbl := tw_m1 (List.mem_of_getElem? (i := 70) rfl)
theorem fl_RX0_40 : Cond.fieldLink RX0 40 "Threadline$Forest" "order" "[I" ∈ lw_tbl := tw_m1 (List.mem_of_getElem? (i := 71) rfl)
theorem fl_RX0_43 : Cond.fieldLink RX0 43 "Threadline$Forest" "rootRow" "[I" ∈ lw_tbl := tw_m1 (List.mem_of_getElem? (i := 72) rfl)
theorem fl_RX0_57 : Cond.fieldLink RX0 57 "Threadline$Forest" "rootCount" "I" ∈ lw_tbl := tw_m1 (List.mem_of_getElem? (i := 73) rfl)
theorem fl_RX2_10 : Cond.fieldLink RX2 10 "Threadline" "mail" "LThreadline$Mail;" ∈ lw_tbl := tw_m1 (List.mem_of_getElem? (i := 101) rfl)
theorem fl_RX2_21 : Cond.fieldLink RX2 21 "Threadline" "forest" "LThreadline$Forest;" ∈ lw_tbl := tw_m1 (List.mem_of_getElem? (i := 102) rfl)
theorem ml_RL_56 : Cond.methodLink RL 56 yX2_roots ∈ lw_tbl := tw_m1 (List.mem_of_getElem? (i := 108) rfl)
theorem im_X2_roots : Cond.instanceMethod yX2_roots ∈ lw_tbl := tw_m1 (List.mem_of_getElem? (i := 109) rfl)
theorem se_X2_roots : Cond.selects RX2 yX2_roots yX2_roots ∈ lw_tbl := tw_m1 (List.mem_of_getElem? (i := 110) rfl)
theorem co_X2_roots : Cond.code yX2_roots cX2_roots 1 (some .int) ∈ lw_tbl := tw_m1 (List.mem_of_getElem? (i := 111) rfl)
theorem im_X0_countRoots : Cond.instanceMethod yX0_countRoots ∈ lw_tbl := tw_m1 (List.mem_of_getElem? (i := 114) rfl)
theorem co_X0_countRoots : Cond.code yX0_countRoots cX0_countRoots 1 (some .int) ∈ lw_tbl := tw_m1 (List.mem_of_getElem? (i := 115) rfl)
theorem ml_RL_69 : Cond.methodLink RL 69 yL_drawn ∈ lw_tbl := tw_m1 (List.mem_of_getElem? (i := 116) rfl)
theorem st_L_drawn : Cond.static yL_drawn ∈ lw_tbl := tw_m1 (List.mem_of_getElem? (i := 117) rfl)
theorem co_L_drawn : Cond.code yL_drawn cL_drawn 3 (some .int) ∈ lw_tbl := tw_m1 (List.mem_of_getElem? (i := 118) rfl)
theorem ml_RL_73 : Cond.methodLink RL 73 yL_come ∈ lw_tbl := tw_m1 (List.mem_of_getElem? (i := 120) rfl)
theorem st_L_come : Cond.static yL_come ∈ lw_tbl := tw_m1 (List.mem_of_getElem? (i := 121) rfl)
theorem co_L_come : Cond.codeWith yL_come cL_come 6 (some .int) [(45, 86, 87, 14), (45, 86, 92, 16)] ∈ lw_tbl := tw_m1 (List.mem_of_getElem? (i := 122) rfl)
theorem ml_RL_8 : Cond.methodLink RL 8 yX2_letter ∈ lw_tbl := tw_m1 (List.mem_of_getElem? (i := 125) rfl)
theorem im_X2_letter : Cond.instanceMethod yX2_letter ∈ lw_tbl := tw_m1 (List.mem_of_getElem? (i := 126) rfl)
theorem se_X2_letter : Cond.selects RX2 yX2_letter yX2_letter ∈ lw_tbl := tw_m1 (List.mem_of_getElem? (i := 127) rfl)
theorem co_X2_letter : Cond.code yX2_letter cX2_letter 7 (some .int) ∈ lw_tbl := tw_m1 (List.mem_of_getElem? (i := 128) rfl)
theorem ml_RX2_25 : Cond.methodLink RX2 25 yX2_requireId ∈ lw_tbl := tw_m1 (List.mem_of_getElem? (i := 129) rfl)
theorem st_X2_requireId : Cond.static yX2_requireId ∈ lw_tbl := tw_m1 (List.mem_of_getElem? (i := 130) rfl)
theorem co_X2_requireId : Cond.code yX2_requireId cX2_requireId 1 none ∈ lw_tbl := tw_m1 (List.mem_of_getElem? (i := 131) rfl)
theorem ml_RX2_131 : Cond.methodLink RX2 131 yX2_isId ∈ lw_tbl := tw_m1 (List.mem_of_getElem? (i := 132) rfl)
theorem st_X2_isId : Cond.static yX2_isId ∈ lw_tbl := tw_m1 (List.mem_of_getElem? (i := 133) rfl)
theorem co_X2_isId : Cond.code yX2_isId cX2_isId 1 (some .boolean) ∈ lw_tbl := tw_m1 (List.mem_of_getElem? (i := 134) rfl)
theorem ml_RX2_29 : Cond.methodLink RX2 29 yX2_requireTold ∈ lw_tbl := tw_m1 (List.mem_of_getElem? (i := 203) rfl)
theorem st_X2_requireTold : Cond.static yX2_requireTold ∈ lw_tbl := tw_m1 (List.mem_of_getElem? (i := 204) rfl)
theorem co_X2_requireTold : Cond.code yX2_requireTold cX2_requireTold 2 none ∈ lw_tbl := tw_m1 (List.mem_of_getElem? (i := 205) rfl)
theorem ml_RX2_33 : Cond.methodLink RX2 33 yX2_requireBelow ∈ lw_tbl := tw_m1 (List.mem_of_getElem? (i := 207) rfl)
theorem st_X2_requireBelow : Cond.static yX2_requireBelow ∈ lw_tbl := tw_m1 (List.mem_of_getElem? (i := 208) rfl)
theorem co_X2_requireBelow : Cond.code yX2_requireBelow cX2_requireBelow 2 none ∈ lw_tbl := tw_m1 (List.mem_of_getElem? (i := 209) rfl)
theorem im_X1_holds : Cond.instanceMethod yX1_holds ∈ lw_tbl := tw_m1 (List.mem_of_getElem? (i := 213) rfl)
theorem co_X1_holds : Cond.code yX1_holds cX1_holds 2 (some .boolean) ∈ lw_tbl := tw_m1 (List.mem_of_getElem? (i := 214) rfl)
theorem im_X1_put : Cond.instanceMethod yX1_put ∈ lw_tbl := tw_m1 (List.mem_of_getElem? (i := 233) rfl)
theorem co_X1_put : Cond.code yX1_put cX1_put 7 none ∈ lw_tbl := tw_m1 (List.mem_of_getElem? (i := 234) rfl)
theorem im_X0_grow : Cond.instanceMethod yX0_grow ∈ lw_tbl := tw_m1 (List.mem_of_getElem? (i := 238) rfl)
theorem co_X0_grow : Cond.code yX0_grow cX0_grow 1 none ∈ lw_tbl := tw_m1 (List.mem_of_getElem? (i := 239) rfl)
theorem ml_RX0_65 : Cond.methodLink RX0 65 yX0_findKnown ∈ lw_tbl := tw_m2 (List.mem_of_getElem? (i := 0) rfl)
theorem im_X0_findKnown : Cond.instanceMethod yX0_findKnown ∈ lw_tbl := tw_m2 (List.mem_of_getElem? (i := 2) rfl)
theorem co_X0_findKnown : Cond.code yX0_findKnown cX0_findKnown 2 none ∈ lw_tbl := tw_m2 (List.mem_of_getElem? (i := 3) rfl)
theorem im_X1_parentToldBy : Cond.instanceMethod yX1_parentToldBy ∈ lw_tbl := tw_m2 (List.mem_of_getElem? (i := 7) rfl)
theorem co_X1_parentToldBy : Cond.code yX1_parentToldBy cX1_parentToldBy 2 (some .int) ∈ lw_tbl := tw_m2 (List.mem_of_getElem? (i := 8) rfl)
theorem ml_RX1_44 : Cond.methodLink RX1 44 yX1_holds ∈ lw_tbl := tw_m2 (List.mem_of_getElem? (i := 9) rfl)
theorem ml_RX0_97 : Cond.methodLink RX0 97 yX0_learn ∈ lw_tbl := tw_m2 (List.mem_of_getElem? (i := 10) rfl)
theorem im_X0_learn : Cond.instanceMethod yX0_learn ∈ lw_tbl := tw_m2 (List.mem_of_getElem? (i := 12) rfl)
theorem co_X0_learn : Cond.code yX0_learn cX0_learn 2 none ∈ lw_tbl := tw_m2 (List.mem_of_getElem? (i := 13) rfl)
theorem im_X1_grandparentToldBy : Cond.instanceMethod yX1_grandparentToldBy ∈ lw_tbl := tw_m2 (List.mem_of_getElem? (i := 17) rfl)
theorem co_X1_grandparentToldBy : Cond.code yX1_grandparentToldBy cX1_grandparentToldBy 2 (some .int) ∈ lw_tbl := tw_m2 (List.mem_of_getElem? (i := 18) rfl)
theorem im_X1_handOf : Cond.instanceMethod yX1_handOf ∈ lw_tbl := tw_m2 (List.mem_of_getElem? (i := 21) rfl)
theorem co_X1_handOf : Cond.code yX1_handOf cX1_handOf 2 (some .int) ∈ lw_tbl := tw_m2 (List.mem_of_getElem? (i := 22) rfl)
theorem ml_RX0_68 : Cond.methodLink RX0 68 yX0_linkKnown ∈ lw_tbl := tw_m2 (List.mem_of_getElem? (i := 23) rfl)
theorem im_X0_linkKnown : Cond.instanceMethod yX0_linkKnown ∈ lw_tbl := tw_m2 (List.mem_of_getElem? (i := 25) rfl)
theorem co_X0_linkKnown : Cond.code yX0_linkKnown cX0_linkKnown 3 none ∈ lw_tbl := tw_m2 (List.mem_of_getElem? (i := 26) rfl)
theorem im_X1_toldParentOf : Cond.instanceMethod yX1_toldParentOf ∈ lw_tbl := tw_m2 (List.mem_of_getElem? (i := 29) rfl)
theorem co_X1_toldParentOf : Cond.code yX1_toldParentOf cX1_toldParentOf 3 (some .int) ∈ lw_tbl := tw_m2 (List.mem_of_getElem? (i := 30) rfl)
theorem ml_RX1_50 : Cond.methodLink RX1 50 yX1_guessedParentOf ∈ lw_tbl := tw_m2 (List.mem_of_getElem? (i := 31) rfl)
theorem im_X1_guessedParentOf : Cond.instanceMethod yX1_guessedParentOf ∈ lw_tbl := tw_m2 (List.mem_of_getElem? (i := 33) rfl)
theorem co_X1_guessedParentOf : Cond.code yX1_guessedParentOf cX1_guessedParentOf 3 (some .int) ∈ lw_tbl := tw_m2 (List.mem_of_getElem? (i := 34) rfl)
theorem ml_RX1_57 : Cond.methodLink RX1 57 yX1_parentToldBy ∈ lw_tbl := tw_m2 (List.mem_of_getElem? (i := 35) rfl)
theorem ml_RX1_60 : Cond.methodLink RX1 60 yX1_grandparentToldBy ∈ lw_tbl := tw_m2 (List.mem_of_getElem? (i := 36) rfl)
theorem ml_RX1_54 : Cond.methodLink RX1 54 yX1_handOf ∈ lw_tbl := tw_m2 (List.mem_of_getElem? (i := 37) rfl)
theorem ml_RX0_110 : Cond.methodLink RX0 110 yX0_linksLead ∈ lw_tbl := tw_m2 (List.mem_of_getElem? (i := 38) rfl)
theorem im_X0_linksLead : Cond.instanceMethod yX0_linksLead ∈ lw_tbl := tw_m2 (List.mem_of_getElem? (i := 40) rfl)
theorem co_X0_linksLead : Cond.code yX0_linksLead cX0_linksLead 5 (some .boolean) ∈ lw_tbl := tw_m2 (List.mem_of_getElem? (i := 41) rfl)
theorem ml_RX0_71 : Cond.methodLink RX0 71 yX0_hangByLinks ∈ lw_tbl := tw_m2 (List.mem_of_getElem? (i := 42) rfl)
theorem im_X0_hangByLinks : Cond.instanceMethod yX0_hangByLinks ∈ lw_tbl := tw_m2 (List.mem_of_getElem? (i := 44) rfl)
theorem co_X0_hangByLinks : Cond.code yX0_hangByLinks cX0_hangByLinks 2 none ∈ lw_tbl := tw_m2 (List.mem_of_getElem? (i := 45) rfl)
theorem ml_RX0_114 : Cond.methodLink RX0 114 yX0_parentByLinks ∈ lw_tbl := tw_m2 (List.mem_of_getElem? (i := 46) rfl)
theorem im_X0_parentByLinks : Cond.instanceMethod yX0_parentByLinks ∈ lw_tbl := tw_m2 (List.mem_of_getElem? (i := 48) rfl)
theorem co_X0_parentByLinks : Cond.code yX0_parentByLinks cX0_parentByLinks 4 (some .int) ∈ lw_tbl := tw_m2 (List.mem_of_getElem? (i := 49) rfl)
theorem ml_RX0_74 : Cond.methodLink RX0 74 yX0_keepMissing ∈ lw_tbl := tw_m2 (List.mem_of_getElem? (i := 50) rfl)
theorem im_X0_keepMissing : Cond.instanceMethod yX0_keepMissing ∈ lw_tbl := tw_m2 (List.mem_of_getElem? (i := 52) rfl)
theorem co_X0_keepMissing : Cond.code yX0_keepMissing cX0_keepMissing 2 none ∈ lw_tbl := tw_m2 (List.mem_of_getElem? (i := 53) rfl)
theorem ml_RX0_117 : Cond.methodLink RX0 117 yX0_countChildren ∈ lw_tbl := tw_m2 (List.mem_of_getElem? (i := 54) rfl)
theorem im_X0_countChildren : Cond.instanceMethod yX0_countChildren ∈ lw_tbl := tw_m2 (List.mem_of_getElem? (i := 56) rfl)
theorem co_X0_countChildren : Cond.code yX0_countChildren cX0_countChildren 4 (some .int) ∈ lw_tbl := tw_m2 (List.mem_of_getElem? (i := 57) rfl)
theorem ml_RX0_120 : Cond.methodLink RX0 120 yX0_freeChildren ∈ lw_tbl := tw_m2 (List.mem_of_getElem? (i := 58) rfl)
theorem im_X0_freeChildren : Cond.instanceMethod yX0_freeChildren ∈ lw_tbl := tw_m2 (List.mem_of_getElem? (i := 60) rfl)
theorem co_X0_freeChildren : Cond.code yX0_freeChildren cX0_freeChildren 3 none ∈ lw_tbl := tw_m2 (List.mem_of_getElem? (i := 61) rfl)
theorem ml_RX0_77 : Cond.methodLink RX0 77 yX0_hangReplies ∈ lw_tbl := tw_m2 (List.mem_of_getElem? (i := 62) rfl)
theorem im_X0_hangReplies : Cond.instanceMethod yX0_hangReplies ∈ lw_tbl := tw_m2 (List.mem_of_getElem? (i := 64) rfl)
theorem co_X0_hangReplies : Cond.code yX0_hangReplies cX0_hangReplies 2 none ∈ lw_tbl := tw_m2 (List.mem_of_getElem? (i := 65) rfl)
theorem im_X1_isReply : Cond.instanceMethod yX1_isReply ∈ lw_tbl := tw_m2 (List.mem_of_getElem? (i := 68) rfl)
theorem co_X1_isReply : Cond.code yX1_isReply cX1_isReply 2 (some .boolean) ∈ lw_tbl := tw_m2 (List.mem_of_getElem? (i := 69) rfl)
theorem ml_RX0_126 : Cond.methodLink RX0 126 yX0_letterAnsweredBy ∈ lw_tbl := tw_m2 (List.mem_of_getElem? (i := 70) rfl)
theorem im_X0_letterAnsweredBy : Cond.instanceMethod yX0_letterAnsweredBy ∈ lw_tbl := tw_m2 (List.mem_of_getElem? (i := 72) rfl)
theorem co_X0_letterAnsweredBy : Cond.code yX0_letterAnsweredBy cX0_letterAnsweredBy 5 (some .int) ∈ lw_tbl := tw_m2 (List.mem_of_getElem? (i := 73) rfl)
theorem im_X1_isAnsweredBy : Cond.instanceMethod yX1_isAnsweredBy ∈ lw_tbl := tw_m2 (List.mem_of_getElem? (i := 76) rfl)
theorem co_X1_isAnsweredBy : Cond.code yX1_isAnsweredBy cX1_isAnsweredBy 4 (some .boolean) ∈ lw_tbl := tw_m2 (List.mem_of_getElem? (i := 77) rfl)
theorem im_X1_dayOf : Cond.instanceMethod yX1_dayOf ∈ lw_tbl := tw_m2 (List.mem_of_getElem? (i := 80) rfl)
theorem co_X1_dayOf : Cond.code yX1_dayOf cX1_dayOf 2 (some .int) ∈ lw_tbl := tw_m2 (List.mem_of_getElem? (i := 81) rfl)
theorem ml_RX0_80 : Cond.methodLink RX0 80 yX0_measureTrees ∈ lw_tbl := tw_m2 (List.mem_of_getElem? (i := 82) rfl)
theorem im_X0_measureTrees : Cond.instanceMethod yX0_measureTrees ∈ lw_tbl := tw_m2 (List.mem_of_getElem? (i := 84) rfl)
theorem co_X0_measureTrees : Cond.code yX0_measureTrees cX0_measureTrees 2 none ∈ lw_tbl := tw_m2 (List.mem_of_getElem? (i := 85) rfl)
theorem ml_RX0_135 : Cond.methodLink RX0 135 yX0_countUpwards ∈ lw_tbl := tw_m2 (List.mem_of_getElem? (i := 86) rfl)
theorem im_X0_countUpwards : Cond.instanceMethod yX0_countUpwards ∈ lw_tbl := tw_m2 (List.mem_of_getElem? (i := 88) rfl)
theorem co_X0_countUpwards : Cond.code yX0_countUpwards cX0_countUpwards 5 none ∈ lw_tbl := tw_m2 (List.mem_of_getElem? (i := 89) rfl)
theorem ml_RX0_138 : Cond.methodLink RX0 138 Lib.Math.min.name ∈ lw_tbl := tw_m2 (List.mem_of_getElem? (i := 90) rfl)
theorem st_Math_min : Cond.static Lib.Math.min.name ∈ lw_tbl := tw_m2 (List.mem_of_getElem? (i := 91) rfl)
theorem co_Math_min : Cond.code Lib.Math.min.name Lib.Math.min.code 2 (some .int) ∈ lw_tbl := tw_m2 (List.mem_of_getElem? (i := 92) rfl)
theorem ml_RX0_83 : Cond.methodLink RX0 83 yX0_placeRoots ∈ lw_tbl := tw_m2 (List.mem_of_getElem? (i := 93) rfl)
theorem im_X0_placeRoots : Cond.instanceMethod yX0_placeRoots ∈ lw_tbl := tw_m2 (List.mem_of_getElem? (i := 95) rfl)
theorem co_X0_placeRoots : Cond.code yX0_placeRoots cX0_placeRoots 2 none ∈ lw_tbl := tw_m2 (List.mem_of_getElem? (i := 96) rfl)
theorem ml_RX0_144 : Cond.methodLink RX0 144 yX0_placeRoot ∈ lw_tbl := tw_m2 (List.mem_of_getElem? (i := 97) rfl)
theorem im_X0_placeRoot : Cond.instanceMethod yX0_placeRoot ∈ lw_tbl := tw_m2 (List.mem_of_getElem? (i := 99) rfl)
theorem co_X0_placeRoot : Cond.code yX0_placeRoot cX0_placeRoot 4 none ∈ lw_tbl := tw_m2 (List.mem_of_getElem? (i := 100) rfl)
theorem ml_RX0_147 : Cond.methodLink RX0 147 yX0_comesBefore ∈ lw_tbl := tw_m2 (List.mem_of_getElem? (i := 101) rfl)
theorem im_X0_comesBefore : Cond.instanceMethod yX0_comesBefore ∈ lw_tbl := tw_m2 (List.mem_of_getElem? (i := 103) rfl)
theorem co_X0_comesBefore : Cond.code yX0_comesBefore cX0_comesBefore 3 (some .boolean) ∈ lw_tbl := tw_m2 (List.mem_of_getElem? (i := 104) rfl)
theorem ml_RX0_54 : Cond.methodLink RX0 54 yX0_contains ∈ lw_tbl := tw_m2 (List.mem_of_getElem? (i := 105) rfl)
theorem im_X0_contains : Cond.instanceMethod yX0_contains ∈ lw_tbl := tw_m2 (List.mem_of_getElem? (i := 107) rfl)
theorem co_X0_contains : Cond.code yX0_contains cX0_contains 2 (some .boolean) ∈ lw_tbl := tw_m2 (List.mem_of_getElem? (i := 108) rfl)
theorem ml_RX0_86 : Cond.methodLink RX0 86 yX0_placeTrees ∈ lw_tbl := tw_m2 (List.mem_of_getElem? (i := 109) rfl)
theorem im_X0_placeTrees : Cond.instanceMethod yX0_placeTrees ∈ lw_tbl := tw_m2 (List.mem_of_getElem? (i := 111) rfl)
theorem co_X0_placeTrees : Cond.code yX0_placeTrees cX0_placeTrees 2 none ∈ lw_tbl := tw_m2 (List.mem_of_getElem? (i := 112) rfl)
theorem ml_RX0_150 : Cond.methodLink RX0 150 yX0_offsetBehindParent ∈ lw_tbl := tw_m2 (List.mem_of_getElem? (i := 113) rfl)
theorem im_X0_offsetBehindParent : Cond.instanceMethod yX0_offsetBehindParent ∈ lw_tbl := tw_m2 (List.mem_of_getElem? (i := 115) rfl)
theorem co_X0_offsetBehindParent : Cond.code yX0_offsetBehindParent cX0_offsetBehindParent 4 (some .int) ∈ lw_tbl := tw_m2 (List.mem_of_getElem? (i := 116) rfl)
theorem ml_RX0_61 : Cond.methodLink RX0 61 yX0_parentIn ∈ lw_tbl := tw_m2 (List.mem_of_getElem? (i := 117) rfl)
theorem im_X0_parentIn : Cond.instanceMethod yX0_parentIn ∈ lw_tbl := tw_m2 (List.mem_of_getElem? (i := 119) rfl)
theorem co_X0_parentIn : Cond.code yX0_parentIn cX0_parentIn 2 (some .int) ∈ lw_tbl := tw_m2 (List.mem_of_getElem? (i := 120) rfl)
theorem ml_RX0_153 : Cond.methodLink RX0 153 yX0_startInOrder ∈ lw_tbl := tw_m2 (List.mem_of_getElem? (i := 121) rfl)
theorem im_X0_startInOrder : Cond.instanceMethod yX0_startInOrder ∈ lw_tbl := tw_m2 (List.mem_of_getElem? (i := 123) rfl)
theorem co_X0_startInOrder : Cond.code yX0_startInOrder cX0_startInOrder 5 (some .int) ∈ lw_tbl := tw_m2 (List.mem_of_getElem? (i := 124) rfl)
theorem ml_RL_76 : Cond.methodLink RL 76 yL_does ∈ lw_tbl := tw_m2 (List.mem_of_getElem? (i := 125) rfl)
theorem st_L_does : Cond.static yL_does ∈ lw_tbl := tw_m2 (List.mem_of_getElem? (i := 126) rfl)
theorem co_L_does : Cond.codeWith yL_does cL_does 4 (some .int) [(0, 54, 55, 14), (0, 54, 59, 16)] ∈ lw_tbl := tw_m2 (List.mem_of_getElem? (i := 127) rfl)
theorem ml_RL_18 : Cond.methodLink RL 18 yX2_delete ∈ lw_tbl := tw_m2 (List.mem_of_getElem? (i := 128) rfl)
theorem im_X2_delete : Cond.instanceMethod yX2_delete ∈ lw_tbl := tw_m2 (List.mem_of_getElem? (i := 129) rfl)
theorem se_X2_delete : Cond.selects RX2 yX2_delete yX2_delete ∈ lw_tbl := tw_m2 (List.mem_of_getElem? (i := 130) rfl)
theorem co_X2_delete : Cond.code yX2_delete cX2_delete 2 (some .int) ∈ lw_tbl := tw_m2 (List.mem_of_getElem? (i := 131) rfl)
theorem ml_RX2_58 : Cond.methodLink RX2 58 yX2_requireLetter ∈ lw_tbl := tw_m2 (List.mem_of_getElem? (i := 132) rfl)
theorem im_X2_requireLetter : Cond.instanceMethod yX2_requireLetter ∈ lw_tbl := tw_m2 (List.mem_of_getElem? (i := 134) rfl)
theorem co_X2_requireLetter : Cond.code yX2_requireLetter cX2_requireLetter 2 none ∈ lw_tbl := tw_m2 (List.mem_of_getElem? (i := 135) rfl)
theorem im_X1_drop : Cond.instanceMethod yX1_drop ∈ lw_tbl := tw_m2 (List.mem_of_getElem? (i := 139) rfl)
theorem co_X1_drop : Cond.code yX1_drop cX1_drop 2 none ∈ lw_tbl := tw_m2 (List.mem_of_getElem? (i := 140) rfl)
theorem ml_RL_22 : Cond.methodLink RL 22 yX2_split ∈ lw_tbl := tw_m2 (List.mem_of_getElem? (i := 141) rfl)
theorem im_X2_split : Cond.instanceMethod yX2_split ∈ lw_tbl := tw_m2 (List.mem_of_getElem? (i := 142) rfl)
theorem se_X2_split : Cond.selects RX2 yX2_split yX2_split ∈ lw_tbl := tw_m2 (List.mem_of_getElem? (i := 143) rfl)
theorem co_X2_split : Cond.code yX2_split cX2_split 3 (some .int) ∈ lw_tbl := tw_m2 (List.mem_of_getElem? (i := 144) rfl)
theorem im_X1_setHand : Cond.instanceMethod yX1_setHand ∈ lw_tbl := tw_m2 (List.mem_of_getElem? (i := 148) rfl)
theorem co_X1_setHand : Cond.code yX1_setHand cX1_setHand 3 none ∈ lw_tbl := tw_m2 (List.mem_of_getElem? (i := 149) rfl)
theorem ml_RL_25 : Cond.methodLink RL 25 yX2_release ∈ lw_tbl := tw_m2 (List.mem_of_getElem? (i := 150) rfl)
theorem im_X2_release : Cond.instanceMethod yX2_release ∈ lw_tbl := tw_m2 (List.mem_of_getElem? (i := 151) rfl)
theorem se_X2_release : Cond.selects RX2 yX2_release yX2_release ∈ lw_tbl := tw_m2 (List.mem_of_getElem? (i := 152) rfl)
theorem co_X2_release : Cond.code yX2_release cX2_release 3 (some .boolean) ∈ lw_tbl := tw_m2 (List.mem_of_getElem? (i := 153) rfl)
theorem ml_RL_29 : Cond.methodLink RL 29 yX2_join ∈ lw_tbl := tw_m2 (List.mem_of_getElem? (i := 155) rfl)
theorem im_X2_join : Cond.instanceMethod yX2_join ∈ lw_tbl := tw_m2 (List.mem_of_getElem? (i := 156) rfl)
theorem se_X2_join : Cond.selects RX2 yX2_join yX2_join ∈ lw_tbl := tw_m2 (List.mem_of_getElem? (i := 157) rfl)
theorem co_X2_join : Cond.code yX2_join cX2_join 3 (some .int) ∈ lw_tbl := tw_m2 (List.mem_of_getElem? (i := 158) rfl)
theorem im_X0_isInTree : Cond.instanceMethod yX0_isInTree ∈ lw_tbl := tw_m2 (List.mem_of_getElem? (i := 162) rfl)
theorem co_X0_isInTree : Cond.code yX0_isInTree cX0_isInTree 5 (some .boolean) ∈ lw_tbl := tw_m2 (List.mem_of_getElem? (i := 163) rfl)
theorem ml_RL_60 : Cond.methodLink RL 60 yL_of ∈ lw_tbl := tw_m2 (List.mem_of_getElem? (i := 165) rfl)
theorem st_L_of : Cond.static yL_of ∈ lw_tbl := tw_m2 (List.mem_of_getElem? (i := 166) rfl)
theorem co_L_of : Cond.codeWith yL_of cL_of 4 (some .int) [(0, 69, 70, 14), (0, 69, 74, 51)] ∈ lw_tbl := tw_m2 (List.mem_of_getElem? (i := 167) rfl)
theorem ml_RL_33 : Cond.methodLink RL 33 yX2_state ∈ lw_tbl := tw_m2 (List.mem_of_getElem? (i := 169) rfl)
theorem im_X2_state : Cond.instanceMethod yX2_state ∈ lw_tbl := tw_m2 (List.mem_of_getElem? (i := 170) rfl)
theorem se_X2_state : Cond.selects RX2 yX2_state yX2_state ∈ lw_tbl := tw_m2 (List.mem_of_getElem? (i := 171) rfl)
theorem co_X2_state : Cond.code yX2_state cX2_state 2 (some .int) ∈ lw_tbl := tw_m2 (List.mem_of_getElem? (i := 172) rfl)
theorem im_X0_knows : Cond.instanceMethod yX0_knows ∈ lw_tbl := tw_m2 (List.mem_of_getElem? (i := 176) rfl)
theorem co_X0_knows : Cond.code yX0_knows cX0_knows 2 (some .boolean) ∈ lw_tbl := tw_m2 (List.mem_of_getElem? (i := 177) rfl)
theorem ml_RL_36 : Cond.methodLink RL 36 yX2_parent ∈ lw_tbl := tw_m2 (List.mem_of_getElem? (i := 178) rfl)
theorem im_X2_parent : Cond.instanceMethod yX2_parent ∈ lw_tbl := tw_m2 (List.mem_of_getElem? (i := 179) rfl)
theorem se_X2_parent : Cond.selects RX2 yX2_parent yX2_parent ∈ lw_tbl := tw_m2 (List.mem_of_getElem? (i := 180) rfl)
theorem co_X2_parent : Cond.code yX2_parent cX2_parent 2 (some .int) ∈ lw_tbl := tw_m2 (List.mem_of_getElem? (i := 181) rfl)
theorem ml_RX2_85 : Cond.methodLink RX2 85 yX2_requireInForest ∈ lw_tbl := tw_m2 (List.mem_of_getElem? (i := 182) rfl)
theorem im_X2_requireInForest : Cond.instanceMethod yX2_requireInForest ∈ lw_tbl := tw_m2 (List.mem_of_getElem? (i := 184) rfl)
theorem co_X2_requireInForest : Cond.code yX2_requireInForest cX2_requireInForest 2 none ∈ lw_tbl := tw_m2 (List.mem_of_getElem? (i := 185) rfl)
theorem ml_RL_39 : Cond.methodLink RL 39 yX2_root ∈ lw_tbl := tw_m2 (List.mem_of_getElem? (i := 202) rfl)
theorem im_X2_root : Cond.instanceMethod yX2_root ∈ lw_tbl := tw_m2 (List.mem_of_getElem? (i := 203) rfl)
theorem se_X2_root : Cond.selects RX2 yX2_root yX2_root ∈ lw_tbl := tw_m2 (List.mem_of_getElem? (i := 204) rfl)
theorem co_X2_root : Cond.code yX2_root cX2_root 3 (some .int) ∈ lw_tbl := tw_m2 (List.mem_of_getElem? (i := 205) rfl)
theorem im_X0_rootIdAt : Cond.instanceMethod yX0_rootIdAt ∈ lw_tbl := tw_m2 (List.mem_of_getElem? (i := 208) rfl)
theorem co_X0_rootIdAt : Cond.code yX0_rootIdAt cX0_rootIdAt 2 (some .int) ∈ lw_tbl := tw_m2 (List.mem_of_getElem? (i := 209) rfl)
theorem ml_RL_42 : Cond.methodLink RL 42 yX2_letters ∈ lw_tbl := tw_m2 (List.mem_of_getElem? (i := 211) rfl)
theorem im_X2_letters : Cond.instanceMethod yX2_letters ∈ lw_tbl := tw_m2 (List.mem_of_getElem? (i := 212) rfl)
theorem se_X2_letters : Cond.selects RX2 yX2_letters yX2_letters ∈ lw_tbl := tw_m2 (List.mem_of_getElem? (i := 213) rfl)
theorem co_X2_letters : Cond.code yX2_letters cX2_letters 4 (some .int) ∈ lw_tbl := tw_m2 (List.mem_of_getElem? (i := 214) rfl)
theorem im_X0_idAt : Cond.instanceMethod yX0_idAt ∈ lw_tbl := tw_m2 (List.mem_of_getElem? (i := 217) rfl)
theorem co_X0_idAt : Cond.code yX0_idAt cX0_idAt 4 (some .int) ∈ lw_tbl := tw_m2 (List.mem_of_getElem? (i := 218) rfl)
theorem ml_RL_45 : Cond.methodLink RL 45 yX2_people ∈ lw_tbl := tw_m2 (List.mem_of_getElem? (i := 219) rfl)
theorem im_X2_people : Cond.instanceMethod yX2_people ∈ lw_tbl := tw_m2 (List.mem_of_getElem? (i := 220) rfl)
theorem se_X2_people : Cond.selects RX2 yX2_people yX2_people ∈ lw_tbl := tw_m2 (List.mem_of_getElem? (i := 221) rfl)
theorem co_X2_people : Cond.code yX2_people cX2_people 4 (some .int) ∈ lw_tbl := tw_m2 (List.mem_of_getElem? (i := 222) rfl)
theorem im_X1_writerBit : Cond.instanceMethod yX1_writerBit ∈ lw_tbl := tw_m2 (List.mem_of_getElem? (i := 225) rfl)
theorem co_X1_writerBit : Cond.code yX1_writerBit cX1_writerBit 2 (some .int) ∈ lw_tbl := tw_m2 (List.mem_of_getElem? (i := 226) rfl)
theorem ml_RL_48 : Cond.methodLink RL 48 yX2_latest ∈ lw_tbl := tw_m2 (List.mem_of_getElem? (i := 227) rfl)
theorem im_X2_latest : Cond.instanceMethod yX2_latest ∈ lw_tbl := tw_m2 (List.mem_of_getElem? (i := 228) rfl)
theorem se_X2_latest : Cond.selects RX2 yX2_latest yX2_latest ∈ lw_tbl := tw_m2 (List.mem_of_getElem? (i := 229) rfl)
theorem co_X2_latest : Cond.code yX2_latest cX2_latest 5 (some .int) ∈ lw_tbl := tw_m2 (List.mem_of_getElem? (i := 230) rfl)
theorem ml_RX2_126 : Cond.methodLink RX2 126 Lib.Math.max.name ∈ lw_tbl := tw_m2 (List.mem_of_getElem? (i := 232) rfl)
theorem st_Math_max : Cond.static Lib.Math.max.name ∈ lw_tbl := tw_m2 (List.mem_of_getElem? (i := 233) rfl)
theorem co_Math_max : Cond.code Lib.Math.max.name Lib.Math.max.code 2 (some .int) ∈ lw_tbl := tw_m2 (List.mem_of_getElem? (i := 234) rfl)
theorem ml_RL_79 : Cond.methodLink RL 79 yL_areAlike ∈ lw_tbl := tw_m2 (List.mem_of_getElem? (i := 235) rfl)
theorem st_L_areAlike : Cond.static yL_areAlike ∈ lw_tbl := tw_m2 (List.mem_of_getElem? (i := 236) rfl)
theorem co_L_areAlike : Cond.code yL_areAlike cL_areAlike 8 (some .boolean) ∈ lw_tbl := tw_m2 (List.mem_of_getElem? (i := 237) rfl)
theorem ml_RL_66 : Cond.methodLink RL 66 yL_inTree ∈ lw_tbl := tw_m2 (List.mem_of_getElem? (i := 238) rfl)
theorem st_L_inTree : Cond.static yL_inTree ∈ lw_tbl := tw_m2 (List.mem_of_getElem? (i := 239) rfl)
theorem co_L_inTree : Cond.codeWith yL_inTree cL_inTree 4 (some .int) [(0, 6, 7, 14), (0, 6, 11, 51)] ∈ lw_tbl := tw_m3 (List.mem_of_getElem? (i := 0) rfl)
theorem ml_RL_53 : Cond.methodLink RL 53 yX2_inTree ∈ lw_tbl := tw_m3 (List.mem_of_getElem? (i := 1) rfl)
theorem im_X2_inTree : Cond.instanceMethod yX2_inTree ∈ lw_tbl := tw_m3 (List.mem_of_getElem? (i := 2) rfl)
theorem se_X2_inTree : Cond.selects RX2 yX2_inTree yX2_inTree ∈ lw_tbl := tw_m3 (List.mem_of_getElem? (i := 3) rfl)
theorem co_X2_inTree : Cond.code yX2_inTree cX2_inTree 4 (some .int) ∈ lw_tbl := tw_m3 (List.mem_of_getElem? (i := 4) rfl)
theorem se_X0_countRoots : Cond.selects RX0 yX0_countRoots yX0_countRoots ∈ lw_tbl := tw_m0 (q := (yX0_countRoots, 13)) (List.mem_append_left _ (List.mem_of_getElem? (i := 0) rfl))
theorem se_X1_holds : Cond.selects RX1 yX1_holds yX1_holds ∈ lw_tbl := tw_m0 (q := (yX1_holds, 9)) (List.mem_append_left _ (List.mem_of_getElem? (i := 2) rfl))
theorem se_X1_put : Cond.selects RX1 yX1_put yX1_put ∈ lw_tbl := tw_m0 (q := (yX1_put, 9)) (List.mem_append_left _ (List.mem_of_getElem? (i := 3) rfl))
theorem se_X0_grow : Cond.selects RX0 yX0_grow yX0_grow ∈ lw_tbl := tw_m0 (q := (yX0_grow, 13)) (List.mem_append_left _ (List.mem_of_getElem? (i := 4) rfl))
theorem se_X0_findKnown : Cond.selects RX0 yX0_findKnown yX0_findKnown ∈ lw_tbl := tw_m0 (q := (yX0_findKnown, 13)) (List.mem_append_left _ (List.mem_of_getElem? (i := 5) rfl))
theorem se_X1_parentToldBy : Cond.selects RX1 yX1_parentToldBy yX1_parentToldBy ∈ lw_tbl := tw_m0 (q := (yX1_parentToldBy, 9)) (List.mem_append_left _ (List.mem_of_getElem? (i := 6) rfl))
theorem se_X0_learn : Cond.selects RX0 yX0_learn yX0_learn ∈ lw_tbl := tw_m0 (q := (yX0_learn, 13)) (List.mem_append_left _ (List.mem_of_getElem? (i := 7) rfl))
theorem se_X1_grandparentToldBy : Cond.selects RX1 yX1_grandparentToldBy yX1_grandparentToldBy ∈ lw_tbl := tw_m0 (q := (yX1_grandparentToldBy, 9)) (List.mem_append_left _ (List.mem_of_getElem? (i := 8) rfl))
theorem se_X1_handOf : Cond.selects RX1 yX1_handOf yX1_handOf ∈ lw_tbl := tw_m0 (q := (yX1_handOf, 9)) (List.mem_append_left _ (List.mem_of_getElem? (i := 9) rfl))
theorem se_X0_linkKnown : Cond.selects RX0 yX0_linkKnown yX0_linkKnown ∈ lw_tbl := tw_m0 (q := (yX0_linkKnown, 13)) (List.mem_append_left _ (List.mem_of_getElem? (i := 10) rfl))
theorem se_X1_toldParentOf : Cond.selects RX1 yX1_toldParentOf yX1_toldParentOf ∈ lw_tbl := tw_m0 (q := (yX1_toldParentOf, 9)) (List.mem_append_left _ (List.mem_of_getElem? (i := 11) rfl))
theorem se_X1_guessedParentOf : Cond.selects RX1 yX1_guessedParentOf yX1_guessedParentOf ∈ lw_tbl := tw_m0 (q := (yX1_guessedParentOf, 9)) (List.mem_append_left _ (List.mem_of_getElem? (i := 12) rfl))
theorem se_X0_linksLead : Cond.selects RX0 yX0_linksLead yX0_linksLead ∈ lw_tbl := tw_m0 (q := (yX0_linksLead, 13)) (List.mem_append_left _ (List.mem_of_getElem? (i := 13) rfl))
theorem se_X0_hangByLinks : Cond.selects RX0 yX0_hangByLinks yX0_hangByLinks ∈ lw_tbl := tw_m0 (q := (yX0_hangByLinks, 13)) (List.mem_append_left _ (List.mem_of_getElem? (i := 14) rfl))
theorem se_X0_parentByLinks : Cond.selects RX0 yX0_parentByLinks yX0_parentByLinks ∈ lw_tbl := tw_m0 (q := (yX0_parentByLinks, 13)) (List.mem_append_left _ (List.mem_of_getElem? (i := 15) rfl))
theorem se_X0_keepMissing : Cond.selects RX0 yX0_keepMissing yX0_keepMissing ∈ lw_tbl := tw_m0 (q := (yX0_keepMissing, 13)) (List.mem_append_right _ (List.mem_append_left _ (List.mem_of_getElem? (i := 0) rfl)))
theorem se_X0_countChildren : Cond.selects RX0 yX0_countChildren yX0_countChildren ∈ lw_tbl := tw_m0 (q := (yX0_countChildren, 13)) (List.mem_append_right _ (List.mem_append_left _ (List.mem_of_getElem? (i := 1) rfl)))
theorem se_X0_freeChildren : Cond.selects RX0 yX0_freeChildren yX0_freeChildren ∈ lw_tbl := tw_m0 (q := (yX0_freeChildren, 13)) (List.mem_append_right _ (List.mem_append_left _ (List.mem_of_getElem? (i := 2) rfl)))
theorem se_X0_hangReplies : Cond.selects RX0 yX0_hangReplies yX0_hangReplies ∈ lw_tbl := tw_m0 (q := (yX0_hangReplies, 13)) (List.mem_append_right _ (List.mem_append_left _ (List.mem_of_getElem? (i := 3) rfl)))
theorem se_X1_isReply : Cond.selects RX1 yX1_isReply yX1_isReply ∈ lw_tbl := tw_m0 (q := (yX1_isReply, 9)) (List.mem_append_right _ (List.mem_append_left _ (List.mem_of_getElem? (i := 4) rfl)))
theorem se_X0_letterAnsweredBy : Cond.selects RX0 yX0_letterAnsweredBy yX0_letterAnsweredBy ∈ lw_tbl := tw_m0 (q := (yX0_letterAnsweredBy, 13)) (List.mem_append_right _ (List.mem_append_left _ (List.mem_of_getElem? (i := 5) rfl)))
theorem se_X1_isAnsweredBy : Cond.selects RX1 yX1_isAnsweredBy yX1_isAnsweredBy ∈ lw_tbl := tw_m0 (q := (yX1_isAnsweredBy, 9)) (List.mem_append_right _ (List.mem_append_left _ (List.mem_of_getElem? (i := 6) rfl)))
theorem se_X1_dayOf : Cond.selects RX1 yX1_dayOf yX1_dayOf ∈ lw_tbl := tw_m0 (q := (yX1_dayOf, 9)) (List.mem_append_right _ (List.mem_append_left _ (List.mem_of_getElem? (i := 7) rfl)))
theorem se_X0_measureTrees : Cond.selects RX0 yX0_measureTrees yX0_measureTrees ∈ lw_tbl := tw_m0 (q := (yX0_measureTrees, 13)) (List.mem_append_right _ (List.mem_append_left _ (List.mem_of_getElem? (i := 8) rfl)))
theorem se_X0_countUpwards : Cond.selects RX0 yX0_countUpwards yX0_countUpwards ∈ lw_tbl := tw_m0 (q := (yX0_countUpwards, 13)) (List.mem_append_right _ (List.mem_append_left _ (List.mem_of_getElem? (i := 9) rfl)))
theorem se_X0_placeRoots : Cond.selects RX0 yX0_placeRoots yX0_placeRoots ∈ lw_tbl := tw_m0 (q := (yX0_placeRoots, 13)) (List.mem_append_right _ (List.mem_append_left _ (List.mem_of_getElem? (i := 10) rfl)))
theorem se_X0_placeRoot : Cond.selects RX0 yX0_placeRoot yX0_placeRoot ∈ lw_tbl := tw_m0 (q := (yX0_placeRoot, 13)) (List.mem_append_right _ (List.mem_append_left _ (List.mem_of_getElem? (i := 11) rfl)))
theorem se_X0_comesBefore : Cond.selects RX0 yX0_comesBefore yX0_comesBefore ∈ lw_tbl := tw_m0 (q := (yX0_comesBefore, 13)) (List.mem_append_right _ (List.mem_append_left _ (List.mem_of_getElem? (i := 12) rfl)))
theorem se_X0_contains : Cond.selects RX0 yX0_contains yX0_contains ∈ lw_tbl := tw_m0 (q := (yX0_contains, 13)) (List.mem_append_right _ (List.mem_append_left _ (List.mem_of_getElem? (i := 13) rfl)))
theorem se_X0_placeTrees : Cond.selects RX0 yX0_placeTrees yX0_placeTrees ∈ lw_tbl := tw_m0 (q := (yX0_placeTrees, 13)) (List.mem_append_right _ (List.mem_append_left _ (List.mem_of_getElem? (i := 14) rfl)))
theorem se_X0_offsetBehindParent : Cond.selects RX0 yX0_offsetBehindParent yX0_offsetBehindParent ∈ lw_tbl := tw_m0 (q := (yX0_offsetBehindParent, 13)) (List.mem_append_right _ (List.mem_append_left _ (List.mem_of_getElem? (i := 15) rfl)))
theorem se_X0_parentIn : Cond.selects RX0 yX0_parentIn yX0_parentIn ∈ lw_tbl := tw_m0 (q := (yX0_parentIn, 13)) (List.mem_append_right _ (List.mem_append_right _ (List.mem_of_getElem? (i := 0) rfl)))
theorem se_X0_startInOrder : Cond.selects RX0 yX0_startInOrder yX0_startInOrder ∈ lw_tbl := tw_m0 (q := (yX0_startInOrder, 13)) (List.mem_append_right _ (List.mem_append_right _ (List.mem_of_getElem? (i := 1) rfl)))
theorem se_X2_requireLetter : Cond.selects RX2 yX2_requireLetter yX2_requireLetter ∈ lw_tbl := tw_m0 (q := (yX2_requireLetter, 2)) (List.mem_append_right _ (List.mem_append_right _ (List.mem_of_getElem? (i := 2) rfl)))
theorem se_X1_drop : Cond.selects RX1 yX1_drop yX1_drop ∈ lw_tbl := tw_m0 (q := (yX1_drop, 9)) (List.mem_append_right _ (List.mem_append_right _ (List.mem_of_getElem? (i := 3) rfl)))
theorem se_X1_setHand : Cond.selects RX1 yX1_setHand yX1_setHand ∈ lw_tbl := tw_m0 (q := (yX1_setHand, 9)) (List.mem_append_right _ (List.mem_append_right _ (List.mem_of_getElem? (i := 4) rfl)))
theorem se_X0_isInTree : Cond.selects RX0 yX0_isInTree yX0_isInTree ∈ lw_tbl := tw_m0 (q := (yX0_isInTree, 13)) (List.mem_append_right _ (List.mem_append_right _ (List.mem_of_getElem? (i := 5) rfl)))
theorem se_X0_knows : Cond.selects RX0 yX0_knows yX0_knows ∈ lw_tbl := tw_m0 (q := (yX0_knows, 13)) (List.mem_append_right _ (List.mem_append_right _ (List.mem_of_getElem? (i := 6) rfl)))
theorem se_X2_requireInForest : Cond.selects RX2 yX2_requireInForest yX2_requireInForest ∈ lw_tbl := tw_m0 (q := (yX2_requireInForest, 2)) (List.mem_append_right _ (List.mem_append_right _ (List.mem_of_getElem? (i := 7) rfl)))
theorem se_X0_rootIdAt : Cond.selects RX0 yX0_rootIdAt yX0_rootIdAt ∈ lw_tbl := tw_m0 (q := (yX0_rootIdAt, 13)) (List.mem_append_right _ (List.mem_append_right _ (List.mem_of_getElem? (i := 8) rfl)))
theorem se_X0_idAt : Cond.selects RX0 yX0_idAt yX0_idAt ∈ lw_tbl := tw_m0 (q := (yX0_idAt, 13)) (List.mem_append_right _ (List.mem_append_right _ (List.mem_of_getElem? (i := 9) rfl)))
theorem se_X1_writerBit : Cond.selects RX1 yX1_writerBit yX1_writerBit ∈ lw_tbl := tw_m0 (q := (yX1_writerBit, 9)) (List.mem_append_right _ (List.mem_append_right _ (List.mem_of_getElem? (i := 10) rfl)))
theorem tw_u0 : ∀ w ∈ u_ws RX0 TX0 13, w ∈ lw_tbl := by
  have h : u_ws RX0 TX0 13 = [74, 76, 78, 80, 82, 84, 86, 88, 90, 92, 94, 96, 98].filterMap (fun i => tables_1_1[i]?) := rfl
  intro w hw
  rw [h] at hw
  obtain ⟨i, -, hi⟩ := List.mem_filterMap.mp hw
  exact tw_m1 (List.mem_of_getElem? hi)
theorem tw_v0 {x : Cond} : ∀ w ∈ u_ws RX0 TX0 13, w ∈ x :: tw_G := fun w h => tw_in (tw_u0 w h) (List.all_eq_true.mp (show (u_ws RX0 TX0 13).all goodWord = true from by decide +kernel) w h)
theorem tw_u1 : ∀ w ∈ u_ws RX1 TX1 9, w ∈ lw_tbl := by
  have h : u_ws RX1 TX1 9 = [34, 36, 38, 40, 42, 44, 46, 48, 50].filterMap (fun i => tables_1_1[i]?) := rfl
  intro w hw
  rw [h] at hw
  obtain ⟨i, -, hi⟩ := List.mem_filterMap.mp hw
  exact tw_m1 (List.mem_of_getElem? hi)
theorem tw_v1 {x : Cond} : ∀ w ∈ u_ws RX1 TX1 9, w ∈ x :: tw_G := fun w h => tw_in (tw_u1 w h) (List.all_eq_true.mp (show (u_ws RX1 TX1 9).all goodWord = true from by decide +kernel) w h)
theorem tw_u2 : ∀ w ∈ u_ws RX2 TX2 2, w ∈ lw_tbl := by
  have h : u_ws RX2 TX2 2 = [103, 105].filterMap (fun i => tables_1_1[i]?) := rfl
  intro w hw
  rw [h] at hw
  obtain ⟨i, -, hi⟩ := List.mem_filterMap.mp hw
  exact tw_m1 (List.mem_of_getElem? hi)
theorem tw_v2 {x : Cond} : ∀ w ∈ u_ws RX2 TX2 2, w ∈ x :: tw_G := fun w h => tw_in (tw_u2 w h) (List.all_eq_true.mp (show (u_ws RX2 TX2 2).all goodWord = true from by decide +kernel) w h)
abbrev wzX0_init : List Cond := Cond.code yX0_init cX0_init 2 none  :: tw_G
abbrev wzX2_isId : List Cond := Cond.code yX2_isId cX2_isId 1 (some .boolean)  :: tw_G
abbrev wzX0_knows : List Cond := Cond.code yX0_knows cX0_knows 2 (some .boolean)  :: tw_G
abbrev wzX0_contains : List Cond := Cond.code yX0_contains cX0_contains 2 (some .boolean)  :: tw_G
abbrev wzX0_parentIn : List Cond := Cond.code yX0_parentIn cX0_parentIn 2 (some .int)  :: tw_G
abbrev wzX0_countRoots : List Cond := Cond.code yX0_countRoots cX0_countRoots 1 (some .int)  :: tw_G
abbrev wzX0_rootIdAt : List Cond := Cond.code yX0_rootIdAt cX0_rootIdAt 2 (some .int)  :: tw_G
abbrev wzX0_countChildren : List Cond := Cond.code yX0_countChildren cX0_countChildren 4 (some .int)  :: tw_G
abbrev wzX0_idAt : List Cond := Cond.code yX0_idAt cX0_idAt 4 (some .int)  :: tw_G
abbrev wzX0_isInTree : List Cond := Cond.code yX0_isInTree cX0_isInTree 5 (some .boolean)  :: tw_G
abbrev wzX1_holds : List Cond := Cond.code yX1_holds cX1_holds 2 (some .boolean)  :: tw_G
abbrev wzX1_parentToldBy : List Cond := Cond.code yX1_parentToldBy cX1_parentToldBy 2 (some .int)  :: tw_G
abbrev wzX0_learn : List Cond := Cond.code yX0_learn cX0_learn 2 none  :: tw_G
abbrev wzX1_grandparentToldBy : List Cond := Cond.code yX1_grandparentToldBy cX1_grandparentToldBy 2 (some .int)  :: tw_G
abbrev wzX1_handOf : List Cond := Cond.code yX1_handOf cX1_handOf 2 (some .int)  :: tw_G
abbrev wzX0_findKnown : List Cond := Cond.code yX0_findKnown cX0_findKnown 2 none  :: tw_G
abbrev wzX1_guessedParentOf : List Cond := Cond.code yX1_guessedParentOf cX1_guessedParentOf 3 (some .int)  :: tw_G
abbrev wzX1_toldParentOf : List Cond := Cond.code yX1_toldParentOf cX1_toldParentOf 3 (some .int)  :: tw_G
abbrev wzX0_linksLead : List Cond := Cond.code yX0_linksLead cX0_linksLead 5 (some .boolean)  :: tw_G
abbrev wzX0_linkKnown : List Cond := Cond.code yX0_linkKnown cX0_linkKnown 3 none  :: tw_G
abbrev wzX0_parentByLinks : List Cond := Cond.code yX0_parentByLinks cX0_parentByLinks 4 (some .int)  :: tw_G
abbrev wzX0_hangByLinks : List Cond := Cond.code yX0_hangByLinks cX0_hangByLinks 2 none  :: tw_G
abbrev wzX0_freeChildren : List Cond := Cond.code yX0_freeChildren cX0_freeChildren 3 none  :: tw_G
abbrev wzX0_keepMissing : List Cond := Cond.code yX0_keepMissing cX0_keepMissing 2 none  :: tw_G
abbrev wzX1_isReply : List Cond := Cond.code yX1_isReply cX1_isReply 2 (some .boolean)  :: tw_G
abbrev wzX1_isAnsweredBy : List Cond := Cond.code yX1_isAnsweredBy cX1_isAnsweredBy 4 (some .boolean)  :: tw_G
abbrev wzX1_dayOf : List Cond := Cond.code yX1_dayOf cX1_dayOf 2 (some .int)  :: tw_G
abbrev wzX0_letterAnsweredBy : List Cond := Cond.code yX0_letterAnsweredBy cX0_letterAnsweredBy 5 (some .int)  :: tw_G
abbrev wzX0_hangReplies : List Cond := Cond.code yX0_hangReplies cX0_hangReplies 2 none  :: tw_G
abbrev wzX0_countUpwards : List Cond := Cond.code yX0_countUpwards cX0_countUpwards 5 none  :: tw_G
abbrev wzX0_measureTrees : List Cond := Cond.code yX0_measureTrees cX0_measureTrees 2 none  :: tw_G
abbrev wzX0_comesBefore : List Cond := Cond.code yX0_comesBefore cX0_comesBefore 3 (some .boolean)  :: tw_G
abbrev wzX0_placeRoot : List Cond := Cond.code yX0_placeRoot cX0_placeRoot 4 none  :: tw_G
abbrev wzX0_placeRoots : List Cond := Cond.code yX0_placeRoots cX0_placeRoots 2 none  :: tw_G
abbrev wzX0_offsetBehindParent : List Cond := Cond.code yX0_offsetBehindParent cX0_offsetBehindParent 4 (some .int)  :: tw_G
abbrev wzX0_startInOrder : List Cond := Cond.code yX0_startInOrder cX0_startInOrder 5 (some .int)  :: tw_G
abbrev wzX0_placeTrees : List Cond := Cond.code yX0_placeTrees cX0_placeTrees 2 none  :: tw_G
abbrev wzX0_grow : List Cond := Cond.code yX0_grow cX0_grow 1 none  :: tw_G
abbrev wzX1_init : List Cond := Cond.code yX1_init cX1_init 1 none  :: tw_G
abbrev wzX1_put : List Cond := Cond.code yX1_put cX1_put 7 none  :: tw_G
abbrev wzX1_drop : List Cond := Cond.code yX1_drop cX1_drop 2 none  :: tw_G
abbrev wzX1_setHand : List Cond := Cond.code yX1_setHand cX1_setHand 3 none  :: tw_G
abbrev wzX1_writerBit : List Cond := Cond.code yX1_writerBit cX1_writerBit 2 (some .int)  :: tw_G
abbrev wzX2_init : List Cond := Cond.code yX2_init cX2_init 1 none  :: tw_G
abbrev wzX2_requireId : List Cond := Cond.code yX2_requireId cX2_requireId 1 none  :: tw_G
abbrev wzX2_requireTold : List Cond := Cond.code yX2_requireTold cX2_requireTold 2 none  :: tw_G
abbrev wzX2_requireBelow : List Cond := Cond.code yX2_requireBelow cX2_requireBelow 2 none  :: tw_G
abbrev wzX2_letter : List Cond := Cond.code yX2_letter cX2_letter 7 (some .int)  :: tw_G
abbrev wzX2_requireLetter : List Cond := Cond.code yX2_requireLetter cX2_requireLetter 2 none  :: tw_G
abbrev wzX2_delete : List Cond := Cond.code yX2_delete cX2_delete 2 (some .int)  :: tw_G
abbrev wzX2_split : List Cond := Cond.code yX2_split cX2_split 3 (some .int)  :: tw_G
abbrev wzX2_join : List Cond := Cond.code yX2_join cX2_join 3 (some .int)  :: tw_G
abbrev wzX2_release : List Cond := Cond.code yX2_release cX2_release 3 (some .boolean)  :: tw_G
abbrev wzX2_state : List Cond := Cond.code yX2_state cX2_state 2 (some .int)  :: tw_G
abbrev wzX2_requireInForest : List Cond := Cond.code yX2_requireInForest cX2_requireInForest 2 none  :: tw_G
abbrev wzX2_parent : List Cond := Cond.code yX2_parent cX2_parent 2 (some .int)  :: tw_G
abbrev wzX2_roots : List Cond := Cond.code yX2_roots cX2_roots 1 (some .int)  :: tw_G
abbrev wzX2_root : List Cond := Cond.code yX2_root cX2_root 3 (some .int)  :: tw_G
abbrev wzX2_inTree : List Cond := Cond.code yX2_inTree cX2_inTree 4 (some .int)  :: tw_G
abbrev wzX2_letters : List Cond := Cond.code yX2_letters cX2_letters 4 (some .int)  :: tw_G
abbrev wzX2_people : List Cond := Cond.code yX2_people cX2_people 4 (some .int)  :: tw_G
abbrev wzX2_latest : List Cond := Cond.code yX2_latest cX2_latest 5 (some .int)  :: tw_G
abbrev wzL_drawn : List Cond := Cond.code yL_drawn cL_drawn 3 (some .int)  :: tw_G
abbrev wzL_come : List Cond := Cond.codeWith yL_come cL_come 6 (some .int) [(45, 86, 87, 14), (45, 86, 92, 16)] :: tw_G
abbrev wzL_does : List Cond := Cond.codeWith yL_does cL_does 4 (some .int) [(0, 54, 55, 14), (0, 54, 59, 16)] :: tw_G
abbrev wzL_of : List Cond := Cond.codeWith yL_of cL_of 4 (some .int) [(0, 69, 70, 14), (0, 69, 74, 51)] :: tw_G
abbrev wzL_inTree : List Cond := Cond.codeWith yL_inTree cL_inTree 4 (some .int) [(0, 6, 7, 14), (0, 6, 11, 51)] :: tw_G
abbrev wzL_areAlike : List Cond := Cond.code yL_areAlike cL_areAlike 8 (some .boolean)  :: tw_G
