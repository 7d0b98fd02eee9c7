/-! derivations -/
theorem dL_box_23 : decode cL_box 23 = .ok (.astore 9, 2) := by decide +kernel
theorem dL_box_25 : decode cL_box 25 = .ok (.iconst 1, 1) := by decide +kernel
theorem dL_box_26 : decode cL_box 26 = .ok (.ireturn, 1) := by decide +kernel
theorem dL_set_13 : decode cL_set 13 = .ok (.astore 4, 2) := by decide +kernel
theorem dL_set_15 : decode cL_set 15 = .ok (.iconst 1, 1) := by decide +kernel
theorem dL_set_16 : decode cL_set 16 = .ok (.ireturn, 1) := by decide +kernel
theorem dL_setPattern_12 : decode cL_setPattern 12 = .ok (.astore_n 3, 1) := by decide +kernel
theorem dL_setPattern_13 : decode cL_setPattern 13 = .ok (.iconst 1, 1) := by decide +kernel
theorem dL_setPattern_14 : decode cL_setPattern 14 = .ok (.ireturn, 1) := by decide +kernel
theorem dL_setThickness_13 : decode cL_setThickness 13 = .ok (.astore 4, 2) := by decide +kernel
theorem dL_setThickness_15 : decode cL_setThickness 15 = .ok (.iconst 1, 1) := by decide +kernel
theorem dL_setThickness_16 : decode cL_setThickness 16 = .ok (.ireturn, 1) := by decide +kernel
theorem dL_setThickness_17 : decode cL_setThickness 17 = .ok (.astore 4, 2) := by decide +kernel
theorem dL_setThickness_19 : decode cL_setThickness 19 = .ok (.iconst 2, 1) := by decide +kernel
theorem dL_setThickness_20 : decode cL_setThickness 20 = .ok (.ireturn, 1) := by decide +kernel
theorem dL_setPause_20 : decode cL_setPause 20 = .ok (.astore 4, 2) := by decide +kernel
theorem dL_setPause_22 : decode cL_setPause 22 = .ok (.iconst 1, 1) := by decide +kernel
theorem dL_setPause_23 : decode cL_setPause 23 = .ok (.ireturn, 1) := by decide +kernel
theorem dL_kindAt_15 : decode cL_kindAt 15 = .ok (.astore 5, 2) := by decide +kernel
theorem dL_kindAt_17 : decode cL_kindAt 17 = .ok (.iconst 1, 1) := by decide +kernel
theorem dL_kindAt_18 : decode cL_kindAt 18 = .ok (.ireturn, 1) := by decide +kernel
theorem dL_hanging_12 : decode cL_hanging 12 = .ok (.astore_n 3, 1) := by decide +kernel
theorem dL_hanging_13 : decode cL_hanging 13 = .ok (.iconst 1, 1) := by decide +kernel
theorem dL_hanging_14 : decode cL_hanging 14 = .ok (.ireturn, 1) := by decide +kernel
theorem dL_outer_12 : decode cL_outer 12 = .ok (.astore_n 3, 1) := by decide +kernel
theorem dL_outer_13 : decode cL_outer 13 = .ok (.iconst 1, 1) := by decide +kernel
theorem dL_outer_14 : decode cL_outer 14 = .ok (.ireturn, 1) := by decide +kernel
theorem dL_inner_12 : decode cL_inner 12 = .ok (.astore_n 3, 1) := by decide +kernel
theorem dL_inner_13 : decode cL_inner 13 = .ok (.iconst 1, 1) := by decide +kernel
theorem dL_inner_14 : decode cL_inner 14 = .ok (.ireturn, 1) := by decide +kernel
theorem dL_outlinesByEdges_12 : decode cL_outlinesByEdges 12 = .ok (.astore_n 3, 1) := by decide +kernel
theorem dL_outlinesByEdges_13 : decode cL_outlinesByEdges 13 = .ok (.iconst 1, 1) := by decide +kernel
theorem dL_outlinesByEdges_14 : decode cL_outlinesByEdges 14 = .ok (.ireturn, 1) := by decide +kernel
theorem dL_edges_12 : decode cL_edges 12 = .ok (.astore_n 3, 1) := by decide +kernel
theorem dL_edges_13 : decode cL_edges 13 = .ok (.iconst 1, 1) := by decide +kernel
theorem dL_edges_14 : decode cL_edges 14 = .ok (.ireturn, 1) := by decide +kernel
theorem dL_strokes_12 : decode cL_strokes 12 = .ok (.astore_n 3, 1) := by decide +kernel
theorem dL_strokes_13 : decode cL_strokes 13 = .ok (.iconst 1, 1) := by decide +kernel
theorem dL_strokes_14 : decode cL_strokes 14 = .ok (.ireturn, 1) := by decide +kernel
theorem dL_plan_11 : decode cL_plan 11 = .ok (.astore_n 2, 1) := by decide +kernel
theorem dL_plan_12 : decode cL_plan 12 = .ok (.iconst 1, 1) := by decide +kernel
theorem dL_plan_13 : decode cL_plan 13 = .ok (.ireturn, 1) := by decide +kernel
theorem dL_commandAt_12 : decode cL_commandAt 12 = .ok (.astore_n 3, 1) := by decide +kernel
theorem dL_commandAt_13 : decode cL_commandAt 13 = .ok (.iconst 1, 1) := by decide +kernel
theorem dL_commandAt_14 : decode cL_commandAt 14 = .ok (.ireturn, 1) := by decide +kernel
theorem dL_numberAt_13 : decode cL_numberAt 13 = .ok (.astore 4, 2) := by decide +kernel
theorem dL_numberAt_15 : decode cL_numberAt 15 = .ok (.iconst 1, 1) := by decide +kernel
theorem dL_numberAt_16 : decode cL_numberAt 16 = .ok (.ireturn, 1) := by decide +kernel
theorem dL_numberAt_17 : decode cL_numberAt 17 = .ok (.astore 4, 2) := by decide +kernel
theorem dL_numberAt_19 : decode cL_numberAt 19 = .ok (.iconst 2, 1) := by decide +kernel
theorem dL_numberAt_20 : decode cL_numberAt 20 = .ok (.ireturn, 1) := by decide +kernel
theorem dL_numberAt_21 : decode cL_numberAt 21 = .ok (.astore 4, 2) := by decide +kernel
theorem dL_numberAt_23 : decode cL_numberAt 23 = .ok (.iconst 3, 1) := by decide +kernel
theorem dL_numberAt_24 : decode cL_numberAt 24 = .ok (.ireturn, 1) := by decide +kernel
theorem dL_setTarget_12 : decode cL_setTarget 12 = .ok (.astore_n 3, 1) := by decide +kernel
theorem dL_setTarget_13 : decode cL_setTarget 13 = .ok (.iconst 1, 1) := by decide +kernel
theorem dL_setTarget_14 : decode cL_setTarget 14 = .ok (.ireturn, 1) := by decide +kernel
theorem dL_setTarget_15 : decode cL_setTarget 15 = .ok (.astore_n 3, 1) := by decide +kernel
theorem dL_setTarget_16 : decode cL_setTarget 16 = .ok (.iconst 2, 1) := by decide +kernel
theorem dL_setTarget_17 : decode cL_setTarget 17 = .ok (.ireturn, 1) := by decide +kernel
theorem dL_print_11 : decode cL_print 11 = .ok (.astore_n 2, 1) := by decide +kernel
theorem dL_print_12 : decode cL_print 12 = .ok (.iconst 1, 1) := by decide +kernel
theorem dL_print_13 : decode cL_print 13 = .ok (.ireturn, 1) := by decide +kernel
theorem dL_pass_12 : decode cL_pass 12 = .ok (.astore_n 3, 1) := by decide +kernel
theorem dL_pass_13 : decode cL_pass 13 = .ok (.iconst 1, 1) := by decide +kernel
theorem dL_pass_14 : decode cL_pass 14 = .ok (.ireturn, 1) := by decide +kernel
theorem dL_goOn_11 : decode cL_goOn 11 = .ok (.astore_n 2, 1) := by decide +kernel
theorem dL_goOn_12 : decode cL_goOn 12 = .ok (.iconst 1, 1) := by decide +kernel
theorem dL_goOn_13 : decode cL_goOn 13 = .ok (.ireturn, 1) := by decide +kernel
theorem dL_fail_11 : decode cL_fail 11 = .ok (.astore_n 2, 1) := by decide +kernel
theorem dL_fail_12 : decode cL_fail 12 = .ok (.iconst 1, 1) := by decide +kernel
theorem dL_fail_13 : decode cL_fail 13 = .ok (.ireturn, 1) := by decide +kernel
theorem dL_mend_11 : decode cL_mend 11 = .ok (.astore_n 2, 1) := by decide +kernel
theorem dL_mend_12 : decode cL_mend 12 = .ok (.iconst 1, 1) := by decide +kernel
theorem dL_mend_13 : decode cL_mend 13 = .ok (.ireturn, 1) := by decide +kernel
theorem dL_resume_11 : decode cL_resume 11 = .ok (.astore_n 2, 1) := by decide +kernel
theorem dL_resume_12 : decode cL_resume 12 = .ok (.iconst 1, 1) := by decide +kernel
theorem dL_resume_13 : decode cL_resume 13 = .ok (.ireturn, 1) := by decide +kernel
theorem dL_laid_15 : decode cL_laid 15 = .ok (.astore 5, 2) := by decide +kernel
theorem dL_laid_17 : decode cL_laid 17 = .ok (.iconst 1, 1) := by decide +kernel
theorem dL_laid_18 : decode cL_laid 18 = .ok (.ireturn, 1) := by decide +kernel
theorem dL_emptyShare_11 : decode cL_emptyShare 11 = .ok (.astore_n 2, 1) := by decide +kernel
theorem dL_emptyShare_12 : decode cL_emptyShare 12 = .ok (.iconst 1, 1) := by decide +kernel
theorem dL_emptyShare_13 : decode cL_emptyShare 13 = .ok (.ireturn, 1) := by decide +kernel
theorem dL_meanStroke_10 : decode cL_meanStroke 10 = .ok (.astore_n 2, 1) := by decide +kernel
theorem dL_meanStroke_11 : decode cL_meanStroke 11 = .ok (.iconst 1, 1) := by decide +kernel
theorem dL_meanStroke_12 : decode cL_meanStroke 12 = .ok (.ireturn, 1) := by decide +kernel
theorem qh_box {X : qX} {rot : qRO} (hX : q_OK X cL_box RL 10 (some .int) 7) : ∀ x r, q_hnd [(0, 1)] x = some r → ∃ pre ent suf name, tableOf [(0, 20, 23, 13)] = pre ++ ent :: suf ∧ (∀ z ∈ pre, covers z 15 = false ∨ (z.catchType ≠ 0 ∧ ∃ nm : String, Cond.classLink RL z.catchType nm ∈ q_WS ∧ (q_xn x, nm) ∈ q_NC)) ∧ covers ent 15 = true ∧ ent.catchType ≠ 0 ∧ Cond.classLink RL ent.catchType name ∈ q_WS ∧ name = q_xn x ∧ q_xn x ∈ q_EX ∧ q_HC X ent.handlerPc r := by
  intro x r h
  by_cases h0 : x = 0
  · subst h0
    have h : some (1 : Int32) = some r := h
    cases h
    exact ⟨[], ⟨0, 20, 23, 13⟩, [], "java/lang/IllegalArgumentException", rfl, (fun z hz => by cases hz), by decide, by decide, qk_456, rfl, by decide, (q_hc hX (r := 1) dL_box_23 (by decide) dL_box_25 (by decide) dL_box_26)⟩
  unfold q_hnd at h
  rw [if_neg h0] at h
  cases h
set_option maxRecDepth 100000 in
theorem ok_L_box {rot : qRO} (hrs : q_sub q_rs rot) : q_Met rot yL_box (Cond.codeWith yL_box cL_box 10 (some .int) [(0, 20, 23, 13)] :: q_WS) (some .int) 7 f_L_box := by
  refine q_methH (by decide) rfl ?_
  intro X hX hrot hnm htab
  exact (q_seq (p1 := 27) (q_try hX (htab _ rfl) (tc := 15) (q_jS (q_goto hX dL_box_20 (tgt := 27) (by decide)) (q_sh3 (p1 := 2) (p2 := 3) (p3 := 19) (q_aload hX dL_box_0 (Nat.le_refl _)) (q_iconst hX (v := 0) dL_box_2 (by decide) (Nat.le_refl _)) (q_h1 (p1 := 18) (q_call (p1 := 15) (q_acons (p1 := 4) (q_aload_n hX dL_box_3 (Nat.le_refl _)) (q_acons (p1 := 5) (q_iload_n hX dL_box_4 (Nat.le_refl _)) (q_acons (p1 := 6) (q_iload_n hX dL_box_5 (Nat.le_refl _)) (q_acons (p1 := 7) (q_iload_n hX dL_box_6 (Nat.le_refl _)) (q_acons (p1 := 9) (q_iload hX dL_box_7 (Nat.le_refl _)) (q_acons (p1 := 11) (q_iload hX dL_box_9 (Nat.le_refl _)) (q_acons (p1 := 13) (q_iload hX dL_box_11 (Nat.le_refl _)) (q_acons (p1 := 15) (q_iload hX dL_box_13 (Nat.le_refl _)) q_anil)))))))) (by decide) (q_caV hX hrot (ok_X9_box hrs) rfl qw_L_7 qc_X9 (by decide) (by decide) (by decide) dL_box_15 (q_te _)) (Nat.le_refl _)) (q_i2l_o hX dL_box_18 (Nat.le_refl _))) (q_pL_o hX dL_box_19))) (qh_box (rot := rot) hX))
  (q_ret (p1 := 28) hX (q_iconst hX (v := 0) dL_box_27 (by decide) (Nat.le_refl _)) dL_box_28))
theorem qh_set {X : qX} {rot : qRO} (hX : q_OK X cL_set RL 5 (some .int) 7) : ∀ x r, q_hnd [(0, 1)] x = some r → ∃ pre ent suf name, tableOf [(0, 10, 13, 13)] = pre ++ ent :: suf ∧ (∀ z ∈ pre, covers z 5 = false ∨ (z.catchType ≠ 0 ∧ ∃ nm : String, Cond.classLink RL z.catchType nm ∈ q_WS ∧ (q_xn x, nm) ∈ q_NC)) ∧ covers ent 5 = true ∧ ent.catchType ≠ 0 ∧ Cond.classLink RL ent.catchType name ∈ q_WS ∧ name = q_xn x ∧ q_xn x ∈ q_EX ∧ q_HC X ent.handlerPc r := by
  intro x r h
  by_cases h0 : x = 0
  · subst h0
    have h : some (1 : Int32) = some r := h
    cases h
    exact ⟨[], ⟨0, 10, 13, 13⟩, [], "java/lang/IllegalArgumentException", rfl, (fun z hz => by cases hz), by decide, by decide, qk_456, rfl, by decide, (q_hc hX (r := 1) dL_set_13 (by decide) dL_set_15 (by decide) dL_set_16)⟩
  unfold q_hnd at h
  rw [if_neg h0] at h
  cases h
set_option maxRecDepth 100000 in
theorem ok_L_set {rot : qRO} (hrs : q_sub q_rs rot) : q_Met rot yL_set (Cond.codeWith yL_set cL_set 5 (some .int) [(0, 10, 13, 13)] :: q_WS) (some .int) 7 f_L_set := by
  refine q_methH (by decide) rfl ?_
  intro X hX hrot hnm htab
  exact (q_seq (p1 := 17) (q_try hX (htab _ rfl) (tc := 5) (q_jS (q_goto hX dL_set_10 (tgt := 17) (by decide)) (q_sh3 (p1 := 1) (p2 := 2) (p3 := 9) (q_aload_n hX dL_set_0 (Nat.le_refl _)) (q_iconst hX (v := 0) dL_set_1 (by decide) (Nat.le_refl _)) (q_h1 (p1 := 8) (q_call (p1 := 5) (q_acons (p1 := 3) (q_aload_n hX dL_set_2 (Nat.le_refl _)) (q_acons (p1 := 4) (q_iload_n hX dL_set_3 (Nat.le_refl _)) (q_acons (p1 := 5) (q_iload_n hX dL_set_4 (Nat.le_refl _)) q_anil))) (by decide) (q_caV hX hrot (ok_X9_set hrs) rfl qw_L_15 qc_X9 (by decide) (by decide) (by decide) dL_set_5 (q_te _)) (Nat.le_refl _)) (q_i2l_o hX dL_set_8 (Nat.le_refl _))) (q_pL_o hX dL_set_9))) (qh_set (rot := rot) hX))
  (q_ret (p1 := 18) hX (q_iconst hX (v := 0) dL_set_17 (by decide) (Nat.le_refl _)) dL_set_18))
theorem qh_setPattern {X : qX} {rot : qRO} (hX : q_OK X cL_setPattern RL 4 (some .int) 7) : ∀ x r, q_hnd [(0, 1)] x = some r → ∃ pre ent suf name, tableOf [(0, 9, 12, 13)] = pre ++ ent :: suf ∧ (∀ z ∈ pre, covers z 4 = false ∨ (z.catchType ≠ 0 ∧ ∃ nm : String, Cond.classLink RL z.catchType nm ∈ q_WS ∧ (q_xn x, nm) ∈ q_NC)) ∧ covers ent 4 = true ∧ ent.catchType ≠ 0 ∧ Cond.classLink RL ent.catchType name ∈ q_WS ∧ name = q_xn x ∧ q_xn x ∈ q_EX ∧ q_HC X ent.handlerPc r := by
  intro x r h
  by_cases h0 : x = 0
  · subst h0
    have h : some (1 : Int32) = some r := h
    cases h
    exact ⟨[], ⟨0, 9, 12, 13⟩, [], "java/lang/IllegalArgumentException", rfl, (fun z hz => by cases hz), by decide, by decide, qk_456, rfl, by decide, (q_hc_n hX (r := 1) dL_setPattern_12 (by decide) dL_setPattern_13 (by decide) dL_setPattern_14)⟩
  unfold q_hnd at h
  rw [if_neg h0] at h
  cases h
set_option maxRecDepth 100000 in
theorem ok_L_setPattern {rot : qRO} (hrs : q_sub q_rs rot) : q_Met rot yL_setPattern (Cond.codeWith yL_setPattern cL_setPattern 4 (some .int) [(0, 9, 12, 13)] :: q_WS) (some .int) 7 f_L_setPattern := by
  refine q_methH (by decide) rfl ?_
  intro X hX hrot hnm htab
  exact (q_seq (p1 := 15) (q_try hX (htab _ rfl) (tc := 4) (q_jS (q_goto hX dL_setPattern_9 (tgt := 15) (by decide)) (q_sh3 (p1 := 1) (p2 := 2) (p3 := 8) (q_aload_n hX dL_setPattern_0 (Nat.le_refl _)) (q_iconst hX (v := 0) dL_setPattern_1 (by decide) (Nat.le_refl _)) (q_h1 (p1 := 7) (q_call (p1 := 4) (q_acons (p1 := 3) (q_aload_n hX dL_setPattern_2 (Nat.le_refl _)) (q_acons (p1 := 4) (q_iload_n hX dL_setPattern_3 (Nat.le_refl _)) q_anil)) (by decide) (q_caV hX hrot (ok_X9_setPattern hrs) rfl qw_L_19 qc_X9 (by decide) (by decide) (by decide) dL_setPattern_4 (q_te _)) (Nat.le_refl _)) (q_i2l_o hX dL_setPattern_7 (Nat.le_refl _))) (q_pL_o hX dL_setPattern_8))) (qh_setPattern (rot := rot) hX))
  (q_ret (p1 := 16) hX (q_iconst hX (v := 0) dL_setPattern_15 (by decide) (Nat.le_refl _)) dL_setPattern_16))
theorem qh_setThickness {X : qX} {rot : qRO} (hX : q_OK X cL_setThickness RL 5 (some .int) 8) : ∀ x r, q_hnd [(1, 1), (0, 2)] x = some r → ∃ pre ent suf name, tableOf [(0, 10, 13, 27), (0, 10, 17, 13)] = pre ++ ent :: suf ∧ (∀ z ∈ pre, covers z 5 = false ∨ (z.catchType ≠ 0 ∧ ∃ nm : String, Cond.classLink RL z.catchType nm ∈ q_WS ∧ (q_xn x, nm) ∈ q_NC)) ∧ covers ent 5 = true ∧ ent.catchType ≠ 0 ∧ Cond.classLink RL ent.catchType name ∈ q_WS ∧ name = q_xn x ∧ q_xn x ∈ q_EX ∧ q_HC X ent.handlerPc r := by
  intro x r h
  by_cases h0 : x = 1
  · subst h0
    have h : some (1 : Int32) = some r := h
    cases h
    exact ⟨[], ⟨0, 10, 13, 27⟩, [⟨0, 10, 17, 13⟩], "java/lang/IndexOutOfBoundsException", rfl, (fun z hz => by cases hz), by decide, by decide, qk_593, rfl, by decide, (q_hc hX (r := 1) dL_setThickness_13 (by decide) dL_setThickness_15 (by decide) dL_setThickness_16)⟩
  by_cases h1 : x = 0
  · subst h1
    have h : some (2 : Int32) = some r := h
    cases h
    exact ⟨[⟨0, 10, 13, 27⟩], ⟨0, 10, 17, 13⟩, [], "java/lang/IllegalArgumentException", rfl, (fun z hz => by
      simp only [List.mem_cons, List.not_mem_nil, or_false] at hz
      rcases hz with rfl
      · exact Or.inr ⟨by decide, "java/lang/IndexOutOfBoundsException", qk_593, by decide⟩), by decide, by decide, qk_456, rfl, by decide, (q_hc hX (r := 2) dL_setThickness_17 (by decide) dL_setThickness_19 (by decide) dL_setThickness_20)⟩
  unfold q_hnd at h
  rw [if_neg h0] at h
  unfold q_hnd at h
  rw [if_neg h1] at h
  cases h
set_option maxRecDepth 100000 in
theorem ok_L_setThickness {rot : qRO} (hrs : q_sub q_rs rot) : q_Met rot yL_setThickness (Cond.codeWith yL_setThickness cL_setThickness 5 (some .int) [(0, 10, 13, 27), (0, 10, 17, 13)] :: q_WS) (some .int) 8 f_L_setThickness := by
  refine q_methH (by decide) rfl ?_
  intro X hX hrot hnm htab
  exact (q_seq (p1 := 21) (q_try hX (htab _ rfl) (tc := 5) (q_jS (q_goto hX dL_setThickness_10 (tgt := 21) (by decide)) (q_sh3 (p1 := 1) (p2 := 2) (p3 := 9) (q_aload_n hX dL_setThickness_0 (Nat.le_refl _)) (q_iconst hX (v := 0) dL_setThickness_1 (by decide) (Nat.le_refl _)) (q_h1 (p1 := 8) (q_call (p1 := 5) (q_acons (p1 := 3) (q_aload_n hX dL_setThickness_2 (Nat.le_refl _)) (q_acons (p1 := 4) (q_iload_n hX dL_setThickness_3 (Nat.le_refl _)) (q_acons (p1 := 5) (q_iload_n hX dL_setThickness_4 (Nat.le_refl _)) q_anil))) (by decide) (q_caV hX hrot (ok_X9_setThickness hrs) rfl qw_L_23 qc_X9 (by decide) (by decide) (by decide) dL_setThickness_5 (q_te _)) (Nat.le_refl _)) (q_i2l_o hX dL_setThickness_8 (Nat.le_refl _))) (q_pL_o hX dL_setThickness_9))) (qh_setThickness (rot := rot) hX))
  (q_ret (p1 := 22) hX (q_iconst hX (v := 0) dL_setThickness_21 (by decide) (Nat.le_refl _)) dL_setThickness_22))
theorem qh_setPause {X : qX} {rot : qRO} (hX : q_OK X cL_setPause RL 5 (some .int) 8) : ∀ x r, q_hnd [(1, 1)] x = some r → ∃ pre ent suf name, tableOf [(0, 17, 20, 27)] = pre ++ ent :: suf ∧ (∀ z ∈ pre, covers z 5 = false ∨ (z.catchType ≠ 0 ∧ ∃ nm : String, Cond.classLink RL z.catchType nm ∈ q_WS ∧ (q_xn x, nm) ∈ q_NC)) ∧ covers ent 5 = true ∧ ent.catchType ≠ 0 ∧ Cond.classLink RL ent.catchType name ∈ q_WS ∧ name = q_xn x ∧ q_xn x ∈ q_EX ∧ q_HC X ent.handlerPc r := by
  intro x r h
  by_cases h0 : x = 1
  · subst h0
    have h : some (1 : Int32) = some r := h
    cases h
    exact ⟨[], ⟨0, 17, 20, 27⟩, [], "java/lang/IndexOutOfBoundsException", rfl, (fun z hz => by cases hz), by decide, by decide, qk_593, rfl, by decide, (q_hc hX (r := 1) dL_setPause_20 (by decide) dL_setPause_22 (by decide) dL_setPause_23)⟩
  unfold q_hnd at h
  rw [if_neg h0] at h
  cases h
set_option maxRecDepth 100000 in
theorem ok_L_setPause {rot : qRO} (hrs : q_sub q_rs rot) : q_Met rot yL_setPause (Cond.codeWith yL_setPause cL_setPause 5 (some .int) [(0, 17, 20, 27)] :: q_WS) (some .int) 8 f_L_setPause := by
  refine q_methH (by decide) rfl ?_
  intro X hX hrot hnm htab
  exact (q_seq (p1 := 24) (q_try hX (htab _ rfl) (tc := 5) (q_jS (q_goto hX dL_setPause_17 (tgt := 24) (by decide)) (q_sh3 (p1 := 1) (p2 := 2) (p3 := 16) (q_aload_n hX dL_setPause_0 (Nat.le_refl _)) (q_iconst hX (v := 0) dL_setPause_1 (by decide) (Nat.le_refl _)) (q_if (p1 := 11) (p2 := 15) (q_cmp0 (p1 := 8) (q_call (p1 := 5) (q_acons (p1 := 3) (q_aload_n hX dL_setPause_2 (Nat.le_refl _)) (q_acons (p1 := 4) (q_iload_n hX dL_setPause_3 (Nat.le_refl _)) (q_acons (p1 := 5) (q_iload_n hX dL_setPause_4 (Nat.le_refl _)) q_anil))) (by decide) (q_caV hX hrot (ok_X9_setPause hrs) rfl qw_L_29 qc_X9 (by decide) (by decide) (by decide) dL_setPause_5 (q_te _)) (Nat.le_refl _)) (q_zne_f hX dL_setPause_8 (tgt := 15) (by decide))) (q_jE (q_goto hX dL_setPause_12 (tgt := 16) (by decide)) (q_lconst hX (v := 1) dL_setPause_11 (by decide) (Nat.le_refl _))) (q_lconst hX (v := 0) dL_setPause_15 (by decide) (Nat.le_refl _))) (q_pL_o hX dL_setPause_16))) (qh_setPause (rot := rot) hX))
  (q_ret (p1 := 25) hX (q_iconst hX (v := 0) dL_setPause_24 (by decide) (Nat.le_refl _)) dL_setPause_25))
theorem qh_kindAt {X : qX} {rot : qRO} (hX : q_OK X cL_kindAt RL 6 (some .int) 8) : ∀ x r, q_hnd [(1, 1)] x = some r → ∃ pre ent suf name, tableOf [(0, 12, 15, 27)] = pre ++ ent :: suf ∧ (∀ z ∈ pre, covers z 7 = false ∨ (z.catchType ≠ 0 ∧ ∃ nm : String, Cond.classLink RL z.catchType nm ∈ q_WS ∧ (q_xn x, nm) ∈ q_NC)) ∧ covers ent 7 = true ∧ ent.catchType ≠ 0 ∧ Cond.classLink RL ent.catchType name ∈ q_WS ∧ name = q_xn x ∧ q_xn x ∈ q_EX ∧ q_HC X ent.handlerPc r := by
  intro x r h
  by_cases h0 : x = 1
  · subst h0
    have h : some (1 : Int32) = some r := h
    cases h
    exact ⟨[], ⟨0, 12, 15, 27⟩, [], "java/lang/IndexOutOfBoundsException", rfl, (fun z hz => by cases hz), by decide, by decide, qk_593, rfl, by decide, (q_hc hX (r := 1) dL_kindAt_15 (by decide) dL_kindAt_17 (by decide) dL_kindAt_18)⟩
  unfold q_hnd at h
  rw [if_neg h0] at h
  cases h
set_option maxRecDepth 100000 in
theorem ok_L_kindAt {rot : qRO} (hrs : q_sub q_rs rot) : q_Met rot yL_kindAt (Cond.codeWith yL_kindAt cL_kindAt 6 (some .int) [(0, 12, 15, 27)] :: q_WS) (some .int) 8 f_L_kindAt := by
  refine q_methH (by decide) rfl ?_
  intro X hX hrot hnm htab
  exact (q_seq (p1 := 19) (q_try hX (htab _ rfl) (tc := 7) (q_jS (q_goto hX dL_kindAt_12 (tgt := 19) (by decide)) (q_sh3 (p1 := 2) (p2 := 3) (p3 := 11) (q_aload hX dL_kindAt_0 (Nat.le_refl _)) (q_iconst hX (v := 0) dL_kindAt_2 (by decide) (Nat.le_refl _)) (q_h1 (p1 := 10) (q_call (p1 := 7) (q_acons (p1 := 4) (q_aload_n hX dL_kindAt_3 (Nat.le_refl _)) (q_acons (p1 := 5) (q_iload_n hX dL_kindAt_4 (Nat.le_refl _)) (q_acons (p1 := 6) (q_iload_n hX dL_kindAt_5 (Nat.le_refl _)) (q_acons (p1 := 7) (q_iload_n hX dL_kindAt_6 (Nat.le_refl _)) q_anil)))) (by decide) (q_caV hX hrot (ok_X9_kindAt hrs) rfl qw_L_33 qc_X9 (by decide) (by decide) (by decide) dL_kindAt_7 (q_te _)) (Nat.le_refl _)) (q_i2l_o hX dL_kindAt_10 (Nat.le_refl _))) (q_pL_o hX dL_kindAt_11))) (qh_kindAt (rot := rot) hX))
  (q_ret (p1 := 20) hX (q_iconst hX (v := 0) dL_kindAt_19 (by decide) (Nat.le_refl _)) dL_kindAt_20))
theorem qh_hanging {X : qX} {rot : qRO} (hX : q_OK X cL_hanging RL 4 (some .int) 8) : ∀ x r, q_hnd [(1, 1)] x = some r → ∃ pre ent suf name, tableOf [(0, 9, 12, 27)] = pre ++ ent :: suf ∧ (∀ z ∈ pre, covers z 4 = false ∨ (z.catchType ≠ 0 ∧ ∃ nm : String, Cond.classLink RL z.catchType nm ∈ q_WS ∧ (q_xn x, nm) ∈ q_NC)) ∧ covers ent 4 = true ∧ ent.catchType ≠ 0 ∧ Cond.classLink RL ent.catchType name ∈ q_WS ∧ name = q_xn x ∧ q_xn x ∈ q_EX ∧ q_HC X ent.handlerPc r := by
  intro x r h
  by_cases h0 : x = 1
  · subst h0
    have h : some (1 : Int32) = some r := h
    cases h
    exact ⟨[], ⟨0, 9, 12, 27⟩, [], "java/lang/IndexOutOfBoundsException", rfl, (fun z hz => by cases hz), by decide, by decide, qk_593, rfl, by decide, (q_hc_n hX (r := 1) dL_hanging_12 (by decide) dL_hanging_13 (by decide) dL_hanging_14)⟩
  unfold q_hnd at h
  rw [if_neg h0] at h
  cases h
set_option maxRecDepth 100000 in
theorem ok_L_hanging {rot : qRO} (hrs : q_sub q_rs rot) : q_Met rot yL_hanging (Cond.codeWith yL_hanging cL_hanging 4 (some .int) [(0, 9, 12, 27)] :: q_WS) (some .int) 8 f_L_hanging := by
  refine q_methH (by decide) rfl ?_
  intro X hX hrot hnm htab
  exact (q_seq (p1 := 15) (q_try hX (htab _ rfl) (tc := 4) (q_jS (q_goto hX dL_hanging_9 (tgt := 15) (by decide)) (q_sh3 (p1 := 1) (p2 := 2) (p3 := 8) (q_aload_n hX dL_hanging_0 (Nat.le_refl _)) (q_iconst hX (v := 0) dL_hanging_1 (by decide) (Nat.le_refl _)) (q_h1 (p1 := 7) (q_call (p1 := 4) (q_acons (p1 := 3) (q_aload_n hX dL_hanging_2 (Nat.le_refl _)) (q_acons (p1 := 4) (q_iload_n hX dL_hanging_3 (Nat.le_refl _)) q_anil)) (by decide) (q_caV hX hrot (ok_X9_hanging hrs) rfl qw_L_37 qc_X9 (by decide) (by decide) (by decide) dL_hanging_4 (q_te _)) (Nat.le_refl _)) (q_i2l_o hX dL_hanging_7 (Nat.le_refl _))) (q_pL_o hX dL_hanging_8))) (qh_hanging (rot := rot) hX))
  (q_ret (p1 := 16) hX (q_iconst hX (v := 0) dL_hanging_15 (by decide) (Nat.le_refl _)) dL_hanging_16))
theorem qh_outer {X : qX} {rot : qRO} (hX : q_OK X cL_outer RL 4 (some .int) 8) : ∀ x r, q_hnd [(1, 1)] x = some r → ∃ pre ent suf name, tableOf [(0, 9, 12, 27)] = pre ++ ent :: suf ∧ (∀ z ∈ pre, covers z 4 = false ∨ (z.catchType ≠ 0 ∧ ∃ nm : String, Cond.classLink RL z.catchType nm ∈ q_WS ∧ (q_xn x, nm) ∈ q_NC)) ∧ covers ent 4 = true ∧ ent.catchType ≠ 0 ∧ Cond.classLink RL ent.catchType name ∈ q_WS ∧ name = q_xn x ∧ q_xn x ∈ q_EX ∧ q_HC X ent.handlerPc r := by
  intro x r h
  by_cases h0 : x = 1
  · subst h0
    have h : some (1 : Int32) = some r := h
    cases h
    exact ⟨[], ⟨0, 9, 12, 27⟩, [], "java/lang/IndexOutOfBoundsException", rfl, (fun z hz => by cases hz), by decide, by decide, qk_593, rfl, by decide, (q_hc_n hX (r := 1) dL_outer_12 (by decide) dL_outer_13 (by decide) dL_outer_14)⟩
  unfold q_hnd at h
  rw [if_neg h0] at h
  cases h
set_option maxRecDepth 100000 in
theorem ok_L_outer {rot : qRO} (hrs : q_sub q_rs rot) : q_Met rot yL_outer (Cond.codeWith yL_outer cL_outer 4 (some .int) [(0, 9, 12, 27)] :: q_WS) (some .int) 8 f_L_outer := by
  refine q_methH (by decide) rfl ?_
  intro X hX hrot hnm htab
  exact (q_seq (p1 := 15) (q_try hX (htab _ rfl) (tc := 4) (q_jS (q_goto hX dL_outer_9 (tgt := 15) (by decide)) (q_sh3 (p1 := 1) (p2 := 2) (p3 := 8) (q_aload_n hX dL_outer_0 (Nat.le_refl _)) (q_iconst hX (v := 0) dL_outer_1 (by decide) (Nat.le_refl _)) (q_h1 (p1 := 7) (q_call (p1 := 4) (q_acons (p1 := 3) (q_aload_n hX dL_outer_2 (Nat.le_refl _)) (q_acons (p1 := 4) (q_iload_n hX dL_outer_3 (Nat.le_refl _)) q_anil)) (by decide) (q_caV hX hrot (ok_X9_outer hrs) rfl qw_L_41 qc_X9 (by decide) (by decide) (by decide) dL_outer_4 (q_te _)) (Nat.le_refl _)) (q_i2l_o hX dL_outer_7 (Nat.le_refl _))) (q_pL_o hX dL_outer_8))) (qh_outer (rot := rot) hX))
  (q_ret (p1 := 16) hX (q_iconst hX (v := 0) dL_outer_15 (by decide) (Nat.le_refl _)) dL_outer_16))
theorem qh_inner {X : qX} {rot : qRO} (hX : q_OK X cL_inner RL 4 (some .int) 8) : ∀ x r, q_hnd [(1, 1)] x = some r → ∃ pre ent suf name, tableOf [(0, 9, 12, 27)] = pre ++ ent :: suf ∧ (∀ z ∈ pre, covers z 4 = false ∨ (z.catchType ≠ 0 ∧ ∃ nm : String, Cond.classLink RL z.catchType nm ∈ q_WS ∧ (q_xn x, nm) ∈ q_NC)) ∧ covers ent 4 = true ∧ ent.catchType ≠ 0 ∧ Cond.classLink RL ent.catchType name ∈ q_WS ∧ name = q_xn x ∧ q_xn x ∈ q_EX ∧ q_HC X ent.handlerPc r := by
  intro x r h
  by_cases h0 : x = 1
  · subst h0
    have h : some (1 : Int32) = some r := h
    cases h
    exact ⟨[], ⟨0, 9, 12, 27⟩, [], "java/lang/IndexOutOfBoundsException", rfl, (fun z hz => by cases hz), by decide, by decide, qk_593, rfl, by decide, (q_hc_n hX (r := 1) dL_inner_12 (by decide) dL_inner_13 (by decide) dL_inner_14)⟩
  unfold q_hnd at h
  rw [if_neg h0] at h
  cases h
set_option maxRecDepth 100000 in
theorem ok_L_inner {rot : qRO} (hrs : q_sub q_rs rot) : q_Met rot yL_inner (Cond.codeWith yL_inner cL_inner 4 (some .int) [(0, 9, 12, 27)] :: q_WS) (some .int) 8 f_L_inner := by
  refine q_methH (by decide) rfl ?_
  intro X hX hrot hnm htab
  exact (q_seq (p1 := 15) (q_try hX (htab _ rfl) (tc := 4) (q_jS (q_goto hX dL_inner_9 (tgt := 15) (by decide)) (q_sh3 (p1 := 1) (p2 := 2) (p3 := 8) (q_aload_n hX dL_inner_0 (Nat.le_refl _)) (q_iconst hX (v := 0) dL_inner_1 (by decide) (Nat.le_refl _)) (q_h1 (p1 := 7) (q_call (p1 := 4) (q_acons (p1 := 3) (q_aload_n hX dL_inner_2 (Nat.le_refl _)) (q_acons (p1 := 4) (q_iload_n hX dL_inner_3 (Nat.le_refl _)) q_anil)) (by decide) (q_caV hX hrot (ok_X9_inner hrs) rfl qw_L_44 qc_X9 (by decide) (by decide) (by decide) dL_inner_4 (q_te _)) (Nat.le_refl _)) (q_i2l_o hX dL_inner_7 (Nat.le_refl _))) (q_pL_o hX dL_inner_8))) (qh_inner (rot := rot) hX))
  (q_ret (p1 := 16) hX (q_iconst hX (v := 0) dL_inner_15 (by decide) (Nat.le_refl _)) dL_inner_16))
theorem qh_outlinesByEdges {X : qX} {rot : qRO} (hX : q_OK X cL_outlinesByEdges RL 4 (some .int) 8) : ∀ x r, q_hnd [(1, 1)] x = some r → ∃ pre ent suf name, tableOf [(0, 9, 12, 27)] = pre ++ ent :: suf ∧ (∀ z ∈ pre, covers z 4 = false ∨ (z.catchType ≠ 0 ∧ ∃ nm : String, Cond.classLink RL z.catchType nm ∈ q_WS ∧ (q_xn x, nm) ∈ q_NC)) ∧ covers ent 4 = true ∧ ent.catchType ≠ 0 ∧ Cond.classLink RL ent.catchType name ∈ q_WS ∧ name = q_xn x ∧ q_xn x ∈ q_EX ∧ q_HC X ent.handlerPc r := by
  intro x r h
  by_cases h0 : x = 1
  · subst h0
    have h : some (1 : Int32) = some r := h
    cases h
    exact ⟨[], ⟨0, 9, 12, 27⟩, [], "java/lang/IndexOutOfBoundsException", rfl, (fun z hz => by cases hz), by decide, by decide, qk_593, rfl, by decide, (q_hc_n hX (r := 1) dL_outlinesByEdges_12 (by decide) dL_outlinesByEdges_13 (by decide) dL_outlinesByEdges_14)⟩
  unfold q_hnd at h
  rw [if_neg h0] at h
  cases h
set_option maxRecDepth 100000 in
theorem ok_L_outlinesByEdges {rot : qRO} (hrs : q_sub q_rs rot) : q_Met rot yL_outlinesByEdges (Cond.codeWith yL_outlinesByEdges cL_outlinesByEdges 4 (some .int) [(0, 9, 12, 27)] :: q_WS) (some .int) 8 f_L_outlinesByEdges := by
  refine q_methH (by decide) rfl ?_
  intro X hX hrot hnm htab
  exact (q_seq (p1 := 15) (q_try hX (htab _ rfl) (tc := 4) (q_jS (q_goto hX dL_outlinesByEdges_9 (tgt := 15) (by decide)) (q_sh3 (p1 := 1) (p2 := 2) (p3 := 8) (q_aload_n hX dL_outlinesByEdges_0 (Nat.le_refl _)) (q_iconst hX (v := 0) dL_outlinesByEdges_1 (by decide) (Nat.le_refl _)) (q_h1 (p1 := 7) (q_call (p1 := 4) (q_acons (p1 := 3) (q_aload_n hX dL_outlinesByEdges_2 (Nat.le_refl _)) (q_acons (p1 := 4) (q_iload_n hX dL_outlinesByEdges_3 (Nat.le_refl _)) q_anil)) (by decide) (q_caV hX hrot (ok_X9_outlinesByEdges hrs) rfl qw_L_47 qc_X9 (by decide) (by decide) (by decide) dL_outlinesByEdges_4 (q_te _)) (Nat.le_refl _)) (q_i2l_o hX dL_outlinesByEdges_7 (Nat.le_refl _))) (q_pL_o hX dL_outlinesByEdges_8))) (qh_outlinesByEdges (rot := rot) hX))
  (q_ret (p1 := 16) hX (q_iconst hX (v := 0) dL_outlinesByEdges_15 (by decide) (Nat.le_refl _)) dL_outlinesByEdges_16))
theorem qh_edges {X : qX} {rot : qRO} (hX : q_OK X cL_edges RL 4 (some .int) 8) : ∀ x r, q_hnd [(1, 1)] x = some r → ∃ pre ent suf name, tableOf [(0, 9, 12, 27)] = pre ++ ent :: suf ∧ (∀ z ∈ pre, covers z 4 = false ∨ (z.catchType ≠ 0 ∧ ∃ nm : String, Cond.classLink RL z.catchType nm ∈ q_WS ∧ (q_xn x, nm) ∈ q_NC)) ∧ covers ent 4 = true ∧ ent.catchType ≠ 0 ∧ Cond.classLink RL ent.catchType name ∈ q_WS ∧ name = q_xn x ∧ q_xn x ∈ q_EX ∧ q_HC X ent.handlerPc r := by
  intro x r h
  by_cases h0 : x = 1
  · subst h0
    have h : some (1 : Int32) = some r := h
    cases h
    exact ⟨[], ⟨0, 9, 12, 27⟩, [], "java/lang/IndexOutOfBoundsException", rfl, (fun z hz => by cases hz), by decide, by decide, qk_593, rfl, by decide, (q_hc_n hX (r := 1) dL_edges_12 (by decide) dL_edges_13 (by decide) dL_edges_14)⟩
  unfold q_hnd at h
  rw [if_neg h0] at h
  cases h
set_option maxRecDepth 100000 in
theorem ok_L_edges {rot : qRO} (hrs : q_sub q_rs rot) : q_Met rot yL_edges (Cond.codeWith yL_edges cL_edges 4 (some .int) [(0, 9, 12, 27)] :: q_WS) (some .int) 8 f_L_edges := by
  refine q_methH (by decide) rfl ?_
  intro X hX hrot hnm htab
  exact (q_seq (p1 := 15) (q_try hX (htab _ rfl) (tc := 4) (q_jS (q_goto hX dL_edges_9 (tgt := 15) (by decide)) (q_sh3 (p1 := 1) (p2 := 2) (p3 := 8) (q_aload_n hX dL_edges_0 (Nat.le_refl _)) (q_iconst hX (v := 0) dL_edges_1 (by decide) (Nat.le_refl _)) (q_h1 (p1 := 7) (q_call (p1 := 4) (q_acons (p1 := 3) (q_aload_n hX dL_edges_2 (Nat.le_refl _)) (q_acons (p1 := 4) (q_iload_n hX dL_edges_3 (Nat.le_refl _)) q_anil)) (by decide) (q_caV hX hrot (ok_X9_edges hrs) rfl qw_L_50 qc_X9 (by decide) (by decide) (by decide) dL_edges_4 (q_te _)) (Nat.le_refl _)) (q_i2l_o hX dL_edges_7 (Nat.le_refl _))) (q_pL_o hX dL_edges_8))) (qh_edges (rot := rot) hX))
  (q_ret (p1 := 16) hX (q_iconst hX (v := 0) dL_edges_15 (by decide) (Nat.le_refl _)) dL_edges_16))
theorem qh_strokes {X : qX} {rot : qRO} (hX : q_OK X cL_strokes RL 4 (some .int) 8) : ∀ x r, q_hnd [(1, 1)] x = some r → ∃ pre ent suf name, tableOf [(0, 9, 12, 27)] = pre ++ ent :: suf ∧ (∀ z ∈ pre, covers z 4 = false ∨ (z.catchType ≠ 0 ∧ ∃ nm : String, Cond.classLink RL z.catchType nm ∈ q_WS ∧ (q_xn x, nm) ∈ q_NC)) ∧ covers ent 4 = true ∧ ent.catchType ≠ 0 ∧ Cond.classLink RL ent.catchType name ∈ q_WS ∧ name = q_xn x ∧ q_xn x ∈ q_EX ∧ q_HC X ent.handlerPc r := by
  intro x r h
  by_cases h0 : x = 1
  · subst h0
    have h : some (1 : Int32) = some r := h
    cases h
    exact ⟨[], ⟨0, 9, 12, 27⟩, [], "java/lang/IndexOutOfBoundsException", rfl, (fun z hz => by cases hz), by decide, by decide, qk_593, rfl, by decide, (q_hc_n hX (r := 1) dL_strokes_12 (by decide) dL_strokes_13 (by decide) dL_strokes_14)⟩
  unfold q_hnd at h
  rw [if_neg h0] at h
  cases h
set_option maxRecDepth 100000 in
theorem ok_L_strokes {rot : qRO} (hrs : q_sub q_rs rot) : q_Met rot yL_strokes (Cond.codeWith yL_strokes cL_strokes 4 (some .int) [(0, 9, 12, 27)] :: q_WS) (some .int) 8 f_L_strokes := by
  refine q_methH (by decide) rfl ?_
  intro X hX hrot hnm htab
  exact (q_seq (p1 := 15) (q_try hX (htab _ rfl) (tc := 4) (q_jS (q_goto hX dL_strokes_9 (tgt := 15) (by decide)) (q_sh3 (p1 := 1) (p2 := 2) (p3 := 8) (q_aload_n hX dL_strokes_0 (Nat.le_refl _)) (q_iconst hX (v := 0) dL_strokes_1 (by decide) (Nat.le_refl _)) (q_h1 (p1 := 7) (q_call (p1 := 4) (q_acons (p1 := 3) (q_aload_n hX dL_strokes_2 (Nat.le_refl _)) (q_acons (p1 := 4) (q_iload_n hX dL_strokes_3 (Nat.le_refl _)) q_anil)) (by decide) (q_caV hX hrot (ok_X9_strokes hrs) rfl qw_L_53 qc_X9 (by decide) (by decide) (by decide) dL_strokes_4 (q_te _)) (Nat.le_refl _)) (q_i2l_o hX dL_strokes_7 (Nat.le_refl _))) (q_pL_o hX dL_strokes_8))) (qh_strokes (rot := rot) hX))
  (q_ret (p1 := 16) hX (q_iconst hX (v := 0) dL_strokes_15 (by decide) (Nat.le_refl _)) dL_strokes_16))
theorem qh_plan {X : qX} {rot : qRO} (hX : q_OK X cL_plan RL 3 (some .int) 9) : ∀ x r, q_hnd [(2, 1)] x = some r → ∃ pre ent suf name, tableOf [(0, 8, 11, 60)] = pre ++ ent :: suf ∧ (∀ z ∈ pre, covers z 3 = false ∨ (z.catchType ≠ 0 ∧ ∃ nm : String, Cond.classLink RL z.catchType nm ∈ q_WS ∧ (q_xn x, nm) ∈ q_NC)) ∧ covers ent 3 = true ∧ ent.catchType ≠ 0 ∧ Cond.classLink RL ent.catchType name ∈ q_WS ∧ name = q_xn x ∧ q_xn x ∈ q_EX ∧ q_HC X ent.handlerPc r := by
  intro x r h
  by_cases h0 : x = 2
  · subst h0
    have h : some (1 : Int32) = some r := h
    cases h
    exact ⟨[], ⟨0, 8, 11, 60⟩, [], "java/lang/IllegalStateException", rfl, (fun z hz => by cases hz), by decide, by decide, qk_907, rfl, by decide, (q_hc_n hX (r := 1) dL_plan_11 (by decide) dL_plan_12 (by decide) dL_plan_13)⟩
  unfold q_hnd at h
  rw [if_neg h0] at h
  cases h
set_option maxRecDepth 100000 in
theorem ok_L_plan {rot : qRO} (hrs : q_sub q_rs rot) : q_Met rot yL_plan (Cond.codeWith yL_plan cL_plan 3 (some .int) [(0, 8, 11, 60)] :: q_WS) (some .int) 9 f_L_plan := by
  refine q_methH (by decide) rfl ?_
  intro X hX hrot hnm htab
  exact (q_seq (p1 := 14) (q_try hX (htab _ rfl) (tc := 3) (q_jS (q_goto hX dL_plan_8 (tgt := 14) (by decide)) (q_sh3 (p1 := 1) (p2 := 2) (p3 := 7) (q_aload_n hX dL_plan_0 (Nat.le_refl _)) (q_iconst hX (v := 0) dL_plan_1 (by decide) (Nat.le_refl _)) (q_h1 (p1 := 6) (q_call (p1 := 3) (q_acons (p1 := 3) (q_aload_n hX dL_plan_2 (Nat.le_refl _)) q_anil) (by decide) (q_caV hX hrot (ok_X9_plan hrs) rfl qw_L_56 qc_X9 (by decide) (by decide) (by decide) dL_plan_3 (q_te _)) (Nat.le_refl _)) (q_i2l_o hX dL_plan_6 (Nat.le_refl _))) (q_pL_o hX dL_plan_7))) (qh_plan (rot := rot) hX))
  (q_ret (p1 := 15) hX (q_iconst hX (v := 0) dL_plan_14 (by decide) (Nat.le_refl _)) dL_plan_15))
theorem qh_commandAt {X : qX} {rot : qRO} (hX : q_OK X cL_commandAt RL 4 (some .int) 8) : ∀ x r, q_hnd [(1, 1)] x = some r → ∃ pre ent suf name, tableOf [(0, 9, 12, 27)] = pre ++ ent :: suf ∧ (∀ z ∈ pre, covers z 4 = false ∨ (z.catchType ≠ 0 ∧ ∃ nm : String, Cond.classLink RL z.catchType nm ∈ q_WS ∧ (q_xn x, nm) ∈ q_NC)) ∧ covers ent 4 = true ∧ ent.catchType ≠ 0 ∧ Cond.classLink RL ent.catchType name ∈ q_WS ∧ name = q_xn x ∧ q_xn x ∈ q_EX ∧ q_HC X ent.handlerPc r := by
  intro x r h
  by_cases h0 : x = 1
  · subst h0
    have h : some (1 : Int32) = some r := h
    cases h
    exact ⟨[], ⟨0, 9, 12, 27⟩, [], "java/lang/IndexOutOfBoundsException", rfl, (fun z hz => by cases hz), by decide, by decide, qk_593, rfl, by decide, (q_hc_n hX (r := 1) dL_commandAt_12 (by decide) dL_commandAt_13 (by decide) dL_commandAt_14)⟩
  unfold q_hnd at h
  rw [if_neg h0] at h
  cases h
set_option maxRecDepth 100000 in
theorem ok_L_commandAt {rot : qRO} (hrs : q_sub q_rs rot) : q_Met rot yL_commandAt (Cond.codeWith yL_commandAt cL_commandAt 4 (some .int) [(0, 9, 12, 27)] :: q_WS) (some .int) 8 f_L_commandAt := by
  refine q_methH (by decide) rfl ?_
  intro X hX hrot hnm htab
  exact (q_seq (p1 := 15) (q_try hX (htab _ rfl) (tc := 4) (q_jS (q_goto hX dL_commandAt_9 (tgt := 15) (by decide)) (q_sh3 (p1 := 1) (p2 := 2) (p3 := 8) (q_aload_n hX dL_commandAt_0 (Nat.le_refl _)) (q_iconst hX (v := 0) dL_commandAt_1 (by decide) (Nat.le_refl _)) (q_h1 (p1 := 7) (q_call (p1 := 4) (q_acons (p1 := 3) (q_aload_n hX dL_commandAt_2 (Nat.le_refl _)) (q_acons (p1 := 4) (q_iload_n hX dL_commandAt_3 (Nat.le_refl _)) q_anil)) (by decide) (q_caV hX hrot (ok_X9_commandAt hrs) rfl qw_L_62 qc_X9 (by decide) (by decide) (by decide) dL_commandAt_4 (q_te _)) (Nat.le_refl _)) (q_i2l_o hX dL_commandAt_7 (Nat.le_refl _))) (q_pL_o hX dL_commandAt_8))) (qh_commandAt (rot := rot) hX))
  (q_ret (p1 := 16) hX (q_iconst hX (v := 0) dL_commandAt_15 (by decide) (Nat.le_refl _)) dL_commandAt_16))
theorem qh_numberAt {X : qX} {rot : qRO} (hX : q_OK X cL_numberAt RL 5 (some .int) 8) : ∀ x r, q_hnd [(1, 1), (0, 2), (3, 3)] x = some r → ∃ pre ent suf name, tableOf [(0, 10, 13, 27), (0, 10, 17, 13), (0, 10, 21, 70)] = pre ++ ent :: suf ∧ (∀ z ∈ pre, covers z 5 = false ∨ (z.catchType ≠ 0 ∧ ∃ nm : String, Cond.classLink RL z.catchType nm ∈ q_WS ∧ (q_xn x, nm) ∈ q_NC)) ∧ covers ent 5 = true ∧ ent.catchType ≠ 0 ∧ Cond.classLink RL ent.catchType name ∈ q_WS ∧ name = q_xn x ∧ q_xn x ∈ q_EX ∧ q_HC X ent.handlerPc r := by
  intro x r h
  by_cases h0 : x = 1
  · subst h0
    have h : some (1 : Int32) = some r := h
    cases h
    exact ⟨[], ⟨0, 10, 13, 27⟩, [⟨0, 10, 17, 13⟩, ⟨0, 10, 21, 70⟩], "java/lang/IndexOutOfBoundsException", rfl, (fun z hz => by cases hz), by decide, by decide, qk_593, rfl, by decide, (q_hc hX (r := 1) dL_numberAt_13 (by decide) dL_numberAt_15 (by decide) dL_numberAt_16)⟩
  by_cases h1 : x = 0
  · subst h1
    have h : some (2 : Int32) = some r := h
    cases h
    exact ⟨[⟨0, 10, 13, 27⟩], ⟨0, 10, 17, 13⟩, [⟨0, 10, 21, 70⟩], "java/lang/IllegalArgumentException", rfl, (fun z hz => by
      simp only [List.mem_cons, List.not_mem_nil, or_false] at hz
      rcases hz with rfl
      · exact Or.inr ⟨by decide, "java/lang/IndexOutOfBoundsException", qk_593, by decide⟩), by decide, by decide, qk_456, rfl, by decide, (q_hc hX (r := 2) dL_numberAt_17 (by decide) dL_numberAt_19 (by decide) dL_numberAt_20)⟩
  by_cases h2 : x = 3
  · subst h2
    have h : some (3 : Int32) = some r := h
    cases h
    exact ⟨[⟨0, 10, 13, 27⟩, ⟨0, 10, 17, 13⟩], ⟨0, 10, 21, 70⟩, [], "java/util/NoSuchElementException", rfl, (fun z hz => by
      simp only [List.mem_cons, List.not_mem_nil, or_false] at hz
      rcases hz with rfl | rfl
      · exact Or.inr ⟨by decide, "java/lang/IndexOutOfBoundsException", qk_593, by decide⟩
      · exact Or.inr ⟨by decide, "java/lang/IllegalArgumentException", qk_456, by decide⟩), by decide, by decide, qk_1045, rfl, by decide, (q_hc hX (r := 3) dL_numberAt_21 (by decide) dL_numberAt_23 (by decide) dL_numberAt_24)⟩
  unfold q_hnd at h
  rw [if_neg h0] at h
  unfold q_hnd at h
  rw [if_neg h1] at h
  unfold q_hnd at h
  rw [if_neg h2] at h
  cases h
set_option maxRecDepth 100000 in
theorem ok_L_numberAt {rot : qRO} (hrs : q_sub q_rs rot) : q_Met rot yL_numberAt (Cond.codeWith yL_numberAt cL_numberAt 5 (some .int) [(0, 10, 13, 27), (0, 10, 17, 13), (0, 10, 21, 70)] :: q_WS) (some .int) 8 f_L_numberAt := by
  refine q_methH (by decide) rfl ?_
  intro X hX hrot hnm htab
  exact (q_seq (p1 := 25) (q_try hX (htab _ rfl) (tc := 5) (q_jS (q_goto hX dL_numberAt_10 (tgt := 25) (by decide)) (q_sh3 (p1 := 1) (p2 := 2) (p3 := 9) (q_aload_n hX dL_numberAt_0 (Nat.le_refl _)) (q_iconst hX (v := 0) dL_numberAt_1 (by decide) (Nat.le_refl _)) (q_h1 (p1 := 8) (q_call (p1 := 5) (q_acons (p1 := 3) (q_aload_n hX dL_numberAt_2 (Nat.le_refl _)) (q_acons (p1 := 4) (q_iload_n hX dL_numberAt_3 (Nat.le_refl _)) (q_acons (p1 := 5) (q_iload_n hX dL_numberAt_4 (Nat.le_refl _)) q_anil))) (by decide) (q_caV hX hrot (ok_X9_numberAt hrs) rfl qw_L_66 qc_X9 (by decide) (by decide) (by decide) dL_numberAt_5 (q_te _)) (Nat.le_refl _)) (q_i2l_o hX dL_numberAt_8 (Nat.le_refl _))) (q_pL_o hX dL_numberAt_9))) (qh_numberAt (rot := rot) hX))
  (q_ret (p1 := 26) hX (q_iconst hX (v := 0) dL_numberAt_25 (by decide) (Nat.le_refl _)) dL_numberAt_26))
theorem qh_setTarget {X : qX} {rot : qRO} (hX : q_OK X cL_setTarget RL 4 (some .int) 7) : ∀ x r, q_hnd [(0, 1), (2, 2)] x = some r → ∃ pre ent suf name, tableOf [(0, 9, 12, 13), (0, 9, 15, 60)] = pre ++ ent :: suf ∧ (∀ z ∈ pre, covers z 4 = false ∨ (z.catchType ≠ 0 ∧ ∃ nm : String, Cond.classLink RL z.catchType nm ∈ q_WS ∧ (q_xn x, nm) ∈ q_NC)) ∧ covers ent 4 = true ∧ ent.catchType ≠ 0 ∧ Cond.classLink RL ent.catchType name ∈ q_WS ∧ name = q_xn x ∧ q_xn x ∈ q_EX ∧ q_HC X ent.handlerPc r := by
  intro x r h
  by_cases h0 : x = 0
  · subst h0
    have h : some (1 : Int32) = some r := h
    cases h
    exact ⟨[], ⟨0, 9, 12, 13⟩, [⟨0, 9, 15, 60⟩], "java/lang/IllegalArgumentException", rfl, (fun z hz => by cases hz), by decide, by decide, qk_456, rfl, by decide, (q_hc_n hX (r := 1) dL_setTarget_12 (by decide) dL_setTarget_13 (by decide) dL_setTarget_14)⟩
  by_cases h1 : x = 2
  · subst h1
    have h : some (2 : Int32) = some r := h
    cases h
    exact ⟨[⟨0, 9, 12, 13⟩], ⟨0, 9, 15, 60⟩, [], "java/lang/IllegalStateException", rfl, (fun z hz => by
      simp only [List.mem_cons, List.not_mem_nil, or_false] at hz
      rcases hz with rfl
      · exact Or.inr ⟨by decide, "java/lang/IllegalArgumentException", qk_456, by decide⟩), by decide, by decide, qk_907, rfl, by decide, (q_hc_n hX (r := 2) dL_setTarget_15 (by decide) dL_setTarget_16 (by decide) dL_setTarget_17)⟩
  unfold q_hnd at h
  rw [if_neg h0] at h
  unfold q_hnd at h
  rw [if_neg h1] at h
  cases h
set_option maxRecDepth 100000 in
theorem ok_L_setTarget {rot : qRO} (hrs : q_sub q_rs rot) : q_Met rot yL_setTarget (Cond.codeWith yL_setTarget cL_setTarget 4 (some .int) [(0, 9, 12, 13), (0, 9, 15, 60)] :: q_WS) (some .int) 7 f_L_setTarget := by
  refine q_methH (by decide) rfl ?_
  intro X hX hrot hnm htab
  exact (q_seq (p1 := 18) (q_try hX (htab _ rfl) (tc := 4) (q_jS (q_goto hX dL_setTarget_9 (tgt := 18) (by decide)) (q_sh3 (p1 := 1) (p2 := 2) (p3 := 8) (q_aload_n hX dL_setTarget_0 (Nat.le_refl _)) (q_iconst hX (v := 0) dL_setTarget_1 (by decide) (Nat.le_refl _)) (q_h1 (p1 := 7) (q_call (p1 := 4) (q_acons (p1 := 3) (q_aload_n hX dL_setTarget_2 (Nat.le_refl _)) (q_acons (p1 := 4) (q_iload_n hX dL_setTarget_3 (Nat.le_refl _)) q_anil)) (by decide) (q_caV hX hrot (ok_X9_setTarget hrs) rfl qw_L_72 qc_X9 (by decide) (by decide) (by decide) dL_setTarget_4 (q_te _)) (Nat.le_refl _)) (q_i2l_o hX dL_setTarget_7 (Nat.le_refl _))) (q_pL_o hX dL_setTarget_8))) (qh_setTarget (rot := rot) hX))
  (q_ret (p1 := 19) hX (q_iconst hX (v := 0) dL_setTarget_18 (by decide) (Nat.le_refl _)) dL_setTarget_19))
theorem qh_print {X : qX} {rot : qRO} (hX : q_OK X cL_print RL 3 (some .int) 7) : ∀ x r, q_hnd [(2, 1)] x = some r → ∃ pre ent suf name, tableOf [(0, 8, 11, 60)] = pre ++ ent :: suf ∧ (∀ z ∈ pre, covers z 3 = false ∨ (z.catchType ≠ 0 ∧ ∃ nm : String, Cond.classLink RL z.catchType nm ∈ q_WS ∧ (q_xn x, nm) ∈ q_NC)) ∧ covers ent 3 = true ∧ ent.catchType ≠ 0 ∧ Cond.classLink RL ent.catchType name ∈ q_WS ∧ name = q_xn x ∧ q_xn x ∈ q_EX ∧ q_HC X ent.handlerPc r := by
  intro x r h
  by_cases h0 : x = 2
  · subst h0
    have h : some (1 : Int32) = some r := h
    cases h
    exact ⟨[], ⟨0, 8, 11, 60⟩, [], "java/lang/IllegalStateException", rfl, (fun z hz => by cases hz), by decide, by decide, qk_907, rfl, by decide, (q_hc_n hX (r := 1) dL_print_11 (by decide) dL_print_12 (by decide) dL_print_13)⟩
  unfold q_hnd at h
  rw [if_neg h0] at h
  cases h
set_option maxRecDepth 100000 in
theorem ok_L_print {rot : qRO} (hrs : q_sub q_rs rot) : q_Met rot yL_print (Cond.codeWith yL_print cL_print 3 (some .int) [(0, 8, 11, 60)] :: q_WS) (some .int) 7 f_L_print := by
  refine q_methH (by decide) rfl ?_
  intro X hX hrot hnm htab
  exact (q_seq (p1 := 14) (q_try hX (htab _ rfl) (tc := 3) (q_jS (q_goto hX dL_print_8 (tgt := 14) (by decide)) (q_sh3 (p1 := 1) (p2 := 2) (p3 := 7) (q_aload_n hX dL_print_0 (Nat.le_refl _)) (q_iconst hX (v := 0) dL_print_1 (by decide) (Nat.le_refl _)) (q_h1 (p1 := 6) (q_call (p1 := 3) (q_acons (p1 := 3) (q_aload_n hX dL_print_2 (Nat.le_refl _)) q_anil) (by decide) (q_caV hX hrot (ok_X9_print hrs) rfl qw_L_75 qc_X9 (by decide) (by decide) (by decide) dL_print_3 (q_te _)) (Nat.le_refl _)) (q_i2l_o hX dL_print_6 (Nat.le_refl _))) (q_pL_o hX dL_print_7))) (qh_print (rot := rot) hX))
  (q_ret (p1 := 15) hX (q_iconst hX (v := 0) dL_print_14 (by decide) (Nat.le_refl _)) dL_print_15))
theorem qh_pass {X : qX} {rot : qRO} (hX : q_OK X cL_pass RL 4 (some .int) 9) : ∀ x r, q_hnd [(0, 1)] x = some r → ∃ pre ent suf name, tableOf [(0, 9, 12, 13)] = pre ++ ent :: suf ∧ (∀ z ∈ pre, covers z 4 = false ∨ (z.catchType ≠ 0 ∧ ∃ nm : String, Cond.classLink RL z.catchType nm ∈ q_WS ∧ (q_xn x, nm) ∈ q_NC)) ∧ covers ent 4 = true ∧ ent.catchType ≠ 0 ∧ Cond.classLink RL ent.catchType name ∈ q_WS ∧ name = q_xn x ∧ q_xn x ∈ q_EX ∧ q_HC X ent.handlerPc r := by
  intro x r h
  by_cases h0 : x = 0
  · subst h0
    have h : some (1 : Int32) = some r := h
    cases h
    exact ⟨[], ⟨0, 9, 12, 13⟩, [], "java/lang/IllegalArgumentException", rfl, (fun z hz => by cases hz), by decide, by decide, qk_456, rfl, by decide, (q_hc_n hX (r := 1) dL_pass_12 (by decide) dL_pass_13 (by decide) dL_pass_14)⟩
  unfold q_hnd at h
  rw [if_neg h0] at h
  cases h
set_option maxRecDepth 100000 in
theorem ok_L_pass {rot : qRO} (hrs : q_sub q_rs rot) : q_Met rot yL_pass (Cond.codeWith yL_pass cL_pass 4 (some .int) [(0, 9, 12, 13)] :: q_WS) (some .int) 9 f_L_pass := by
  refine q_methH (by decide) rfl ?_
  intro X hX hrot hnm htab
  exact (q_seq (p1 := 15) (q_try hX (htab _ rfl) (tc := 4) (q_jS (q_goto hX dL_pass_9 (tgt := 15) (by decide)) (q_sh3 (p1 := 1) (p2 := 2) (p3 := 8) (q_aload_n hX dL_pass_0 (Nat.le_refl _)) (q_iconst hX (v := 0) dL_pass_1 (by decide) (Nat.le_refl _)) (q_h1 (p1 := 7) (q_call (p1 := 4) (q_acons (p1 := 3) (q_aload_n hX dL_pass_2 (Nat.le_refl _)) (q_acons (p1 := 4) (q_iload_n hX dL_pass_3 (Nat.le_refl _)) q_anil)) (by decide) (q_caV hX hrot (ok_X9_pass hrs) rfl qw_L_78 qc_X9 (by decide) (by decide) (by decide) dL_pass_4 (q_te _)) (Nat.le_refl _)) (q_i2l_o hX dL_pass_7 (Nat.le_refl _))) (q_pL_o hX dL_pass_8))) (qh_pass (rot := rot) hX))
  (q_ret (p1 := 16) hX (q_iconst hX (v := 0) dL_pass_15 (by decide) (Nat.le_refl _)) dL_pass_16))
theorem qh_goOn {X : qX} {rot : qRO} (hX : q_OK X cL_goOn RL 3 (some .int) 7) : ∀ x r, q_hnd [(2, 1)] x = some r → ∃ pre ent suf name, tableOf [(0, 8, 11, 60)] = pre ++ ent :: suf ∧ (∀ z ∈ pre, covers z 3 = false ∨ (z.catchType ≠ 0 ∧ ∃ nm : String, Cond.classLink RL z.catchType nm ∈ q_WS ∧ (q_xn x, nm) ∈ q_NC)) ∧ covers ent 3 = true ∧ ent.catchType ≠ 0 ∧ Cond.classLink RL ent.catchType name ∈ q_WS ∧ name = q_xn x ∧ q_xn x ∈ q_EX ∧ q_HC X ent.handlerPc r := by
  intro x r h
  by_cases h0 : x = 2
  · subst h0
    have h : some (1 : Int32) = some r := h
    cases h
    exact ⟨[], ⟨0, 8, 11, 60⟩, [], "java/lang/IllegalStateException", rfl, (fun z hz => by cases hz), by decide, by decide, qk_907, rfl, by decide, (q_hc_n hX (r := 1) dL_goOn_11 (by decide) dL_goOn_12 (by decide) dL_goOn_13)⟩
  unfold q_hnd at h
  rw [if_neg h0] at h
  cases h
set_option maxRecDepth 100000 in
theorem ok_L_goOn {rot : qRO} (hrs : q_sub q_rs rot) : q_Met rot yL_goOn (Cond.codeWith yL_goOn cL_goOn 3 (some .int) [(0, 8, 11, 60)] :: q_WS) (some .int) 7 f_L_goOn := by
  refine q_methH (by decide) rfl ?_
  intro X hX hrot hnm htab
  exact (q_seq (p1 := 14) (q_try hX (htab _ rfl) (tc := 3) (q_jS (q_goto hX dL_goOn_8 (tgt := 14) (by decide)) (q_sh3 (p1 := 1) (p2 := 2) (p3 := 7) (q_aload_n hX dL_goOn_0 (Nat.le_refl _)) (q_iconst hX (v := 0) dL_goOn_1 (by decide) (Nat.le_refl _)) (q_h1 (p1 := 6) (q_call (p1 := 3) (q_acons (p1 := 3) (q_aload_n hX dL_goOn_2 (Nat.le_refl _)) q_anil) (by decide) (q_caV hX hrot (ok_X9_goOn hrs) rfl qw_L_81 qc_X9 (by decide) (by decide) (by decide) dL_goOn_3 (q_te _)) (Nat.le_refl _)) (q_i2l_o hX dL_goOn_6 (Nat.le_refl _))) (q_pL_o hX dL_goOn_7))) (qh_goOn (rot := rot) hX))
  (q_ret (p1 := 15) hX (q_iconst hX (v := 0) dL_goOn_14 (by decide) (Nat.le_refl _)) dL_goOn_15))
theorem qh_fail {X : qX} {rot : qRO} (hX : q_OK X cL_fail RL 3 (some .int) 7) : ∀ x r, q_hnd [(2, 1)] x = some r → ∃ pre ent suf name, tableOf [(0, 8, 11, 60)] = pre ++ ent :: suf ∧ (∀ z ∈ pre, covers z 3 = false ∨ (z.catchType ≠ 0 ∧ ∃ nm : String, Cond.classLink RL z.catchType nm ∈ q_WS ∧ (q_xn x, nm) ∈ q_NC)) ∧ covers ent 3 = true ∧ ent.catchType ≠ 0 ∧ Cond.classLink RL ent.catchType name ∈ q_WS ∧ name = q_xn x ∧ q_xn x ∈ q_EX ∧ q_HC X ent.handlerPc r := by
  intro x r h
  by_cases h0 : x = 2
  · subst h0
    have h : some (1 : Int32) = some r := h
    cases h
    exact ⟨[], ⟨0, 8, 11, 60⟩, [], "java/lang/IllegalStateException", rfl, (fun z hz => by cases hz), by decide, by decide, qk_907, rfl, by decide, (q_hc_n hX (r := 1) dL_fail_11 (by decide) dL_fail_12 (by decide) dL_fail_13)⟩
  unfold q_hnd at h
  rw [if_neg h0] at h
  cases h
set_option maxRecDepth 100000 in
theorem ok_L_fail {rot : qRO} (hrs : q_sub q_rs rot) : q_Met rot yL_fail (Cond.codeWith yL_fail cL_fail 3 (some .int) [(0, 8, 11, 60)] :: q_WS) (some .int) 7 f_L_fail := by
  refine q_methH (by decide) rfl ?_
  intro X hX hrot hnm htab
  exact (q_seq (p1 := 14) (q_try hX (htab _ rfl) (tc := 3) (q_jS (q_goto hX dL_fail_8 (tgt := 14) (by decide)) (q_sh3 (p1 := 1) (p2 := 2) (p3 := 7) (q_aload_n hX dL_fail_0 (Nat.le_refl _)) (q_iconst hX (v := 0) dL_fail_1 (by decide) (Nat.le_refl _)) (q_h1 (p1 := 6) (q_call (p1 := 3) (q_acons (p1 := 3) (q_aload_n hX dL_fail_2 (Nat.le_refl _)) q_anil) (by decide) (q_caV hX hrot (ok_X9_fail hrs) rfl qw_L_84 qc_X9 (by decide) (by decide) (by decide) dL_fail_3 (q_te _)) (Nat.le_refl _)) (q_i2l_o hX dL_fail_6 (Nat.le_refl _))) (q_pL_o hX dL_fail_7))) (qh_fail (rot := rot) hX))
  (q_ret (p1 := 15) hX (q_iconst hX (v := 0) dL_fail_14 (by decide) (Nat.le_refl _)) dL_fail_15))
theorem qh_mend {X : qX} {rot : qRO} (hX : q_OK X cL_mend RL 3 (some .int) 7) : ∀ x r, q_hnd [(2, 1)] x = some r → ∃ pre ent suf name, tableOf [(0, 8, 11, 60)] = pre ++ ent :: suf ∧ (∀ z ∈ pre, covers z 3 = false ∨ (z.catchType ≠ 0 ∧ ∃ nm : String, Cond.classLink RL z.catchType nm ∈ q_WS ∧ (q_xn x, nm) ∈ q_NC)) ∧ covers ent 3 = true ∧ ent.catchType ≠ 0 ∧ Cond.classLink RL ent.catchType name ∈ q_WS ∧ name = q_xn x ∧ q_xn x ∈ q_EX ∧ q_HC X ent.handlerPc r := by
  intro x r h
  by_cases h0 : x = 2
  · subst h0
    have h : some (1 : Int32) = some r := h
    cases h
    exact ⟨[], ⟨0, 8, 11, 60⟩, [], "java/lang/IllegalStateException", rfl, (fun z hz => by cases hz), by decide, by decide, qk_907, rfl, by decide, (q_hc_n hX (r := 1) dL_mend_11 (by decide) dL_mend_12 (by decide) dL_mend_13)⟩
  unfold q_hnd at h
  rw [if_neg h0] at h
  cases h
set_option maxRecDepth 100000 in
theorem ok_L_mend {rot : qRO} (hrs : q_sub q_rs rot) : q_Met rot yL_mend (Cond.codeWith yL_mend cL_mend 3 (some .int) [(0, 8, 11, 60)] :: q_WS) (some .int) 7 f_L_mend := by
  refine q_methH (by decide) rfl ?_
  intro X hX hrot hnm htab
  exact (q_seq (p1 := 14) (q_try hX (htab _ rfl) (tc := 3) (q_jS (q_goto hX dL_mend_8 (tgt := 14) (by decide)) (q_sh3 (p1 := 1) (p2 := 2) (p3 := 7) (q_aload_n hX dL_mend_0 (Nat.le_refl _)) (q_iconst hX (v := 0) dL_mend_1 (by decide) (Nat.le_refl _)) (q_h1 (p1 := 6) (q_call (p1 := 3) (q_acons (p1 := 3) (q_aload_n hX dL_mend_2 (Nat.le_refl _)) q_anil) (by decide) (q_caV hX hrot (ok_X9_mend hrs) rfl qw_L_88 qc_X9 (by decide) (by decide) (by decide) dL_mend_3 (q_te _)) (Nat.le_refl _)) (q_i2l_o hX dL_mend_6 (Nat.le_refl _))) (q_pL_o hX dL_mend_7))) (qh_mend (rot := rot) hX))
  (q_ret (p1 := 15) hX (q_iconst hX (v := 0) dL_mend_14 (by decide) (Nat.le_refl _)) dL_mend_15))
theorem qh_resume {X : qX} {rot : qRO} (hX : q_OK X cL_resume RL 3 (some .int) 7) : ∀ x r, q_hnd [(2, 1)] x = some r → ∃ pre ent suf name, tableOf [(0, 8, 11, 60)] = pre ++ ent :: suf ∧ (∀ z ∈ pre, covers z 3 = false ∨ (z.catchType ≠ 0 ∧ ∃ nm : String, Cond.classLink RL z.catchType nm ∈ q_WS ∧ (q_xn x, nm) ∈ q_NC)) ∧ covers ent 3 = true ∧ ent.catchType ≠ 0 ∧ Cond.classLink RL ent.catchType name ∈ q_WS ∧ name = q_xn x ∧ q_xn x ∈ q_EX ∧ q_HC X ent.handlerPc r := by
  intro x r h
  by_cases h0 : x = 2
  · subst h0
    have h : some (1 : Int32) = some r := h
    cases h
    exact ⟨[], ⟨0, 8, 11, 60⟩, [], "java/lang/IllegalStateException", rfl, (fun z hz => by cases hz), by decide, by decide, qk_907, rfl, by decide, (q_hc_n hX (r := 1) dL_resume_11 (by decide) dL_resume_12 (by decide) dL_resume_13)⟩
  unfold q_hnd at h
  rw [if_neg h0] at h
  cases h
set_option maxRecDepth 100000 in
theorem ok_L_resume {rot : qRO} (hrs : q_sub q_rs rot) : q_Met rot yL_resume (Cond.codeWith yL_resume cL_resume 3 (some .int) [(0, 8, 11, 60)] :: q_WS) (some .int) 7 f_L_resume := by
  refine q_methH (by decide) rfl ?_
  intro X hX hrot hnm htab
  exact (q_seq (p1 := 14) (q_try hX (htab _ rfl) (tc := 3) (q_jS (q_goto hX dL_resume_8 (tgt := 14) (by decide)) (q_sh3 (p1 := 1) (p2 := 2) (p3 := 7) (q_aload_n hX dL_resume_0 (Nat.le_refl _)) (q_iconst hX (v := 0) dL_resume_1 (by decide) (Nat.le_refl _)) (q_h1 (p1 := 6) (q_call (p1 := 3) (q_acons (p1 := 3) (q_aload_n hX dL_resume_2 (Nat.le_refl _)) q_anil) (by decide) (q_caV hX hrot (ok_X9_resume hrs) rfl qw_L_91 qc_X9 (by decide) (by decide) (by decide) dL_resume_3 (q_te _)) (Nat.le_refl _)) (q_i2l_o hX dL_resume_6 (Nat.le_refl _))) (q_pL_o hX dL_resume_7))) (qh_resume (rot := rot) hX))
  (q_ret (p1 := 15) hX (q_iconst hX (v := 0) dL_resume_14 (by decide) (Nat.le_refl _)) dL_resume_15))
theorem qh_laid {X : qX} {rot : qRO} (hX : q_OK X cL_laid RL 6 (some .int) 8) : ∀ x r, q_hnd [(1, 1)] x = some r → ∃ pre ent suf name, tableOf [(0, 12, 15, 27)] = pre ++ ent :: suf ∧ (∀ z ∈ pre, covers z 7 = false ∨ (z.catchType ≠ 0 ∧ ∃ nm : String, Cond.classLink RL z.catchType nm ∈ q_WS ∧ (q_xn x, nm) ∈ q_NC)) ∧ covers ent 7 = true ∧ ent.catchType ≠ 0 ∧ Cond.classLink RL ent.catchType name ∈ q_WS ∧ name = q_xn x ∧ q_xn x ∈ q_EX ∧ q_HC X ent.handlerPc r := by
  intro x r h
  by_cases h0 : x = 1
  · subst h0
    have h : some (1 : Int32) = some r := h
    cases h
    exact ⟨[], ⟨0, 12, 15, 27⟩, [], "java/lang/IndexOutOfBoundsException", rfl, (fun z hz => by cases hz), by decide, by decide, qk_593, rfl, by decide, (q_hc hX (r := 1) dL_laid_15 (by decide) dL_laid_17 (by decide) dL_laid_18)⟩
  unfold q_hnd at h
  rw [if_neg h0] at h
  cases h
set_option maxRecDepth 100000 in
theorem ok_L_laid {rot : qRO} (hrs : q_sub q_rs rot) : q_Met rot yL_laid (Cond.codeWith yL_laid cL_laid 6 (some .int) [(0, 12, 15, 27)] :: q_WS) (some .int) 8 f_L_laid := by
  refine q_methH (by decide) rfl ?_
  intro X hX hrot hnm htab
  exact (q_seq (p1 := 19) (q_try hX (htab _ rfl) (tc := 7) (q_jS (q_goto hX dL_laid_12 (tgt := 19) (by decide)) (q_sh3 (p1 := 2) (p2 := 3) (p3 := 11) (q_aload hX dL_laid_0 (Nat.le_refl _)) (q_iconst hX (v := 0) dL_laid_2 (by decide) (Nat.le_refl _)) (q_h1 (p1 := 10) (q_call (p1 := 7) (q_acons (p1 := 4) (q_aload_n hX dL_laid_3 (Nat.le_refl _)) (q_acons (p1 := 5) (q_iload_n hX dL_laid_4 (Nat.le_refl _)) (q_acons (p1 := 6) (q_iload_n hX dL_laid_5 (Nat.le_refl _)) (q_acons (p1 := 7) (q_iload_n hX dL_laid_6 (Nat.le_refl _)) q_anil)))) (by decide) (q_caV hX hrot (ok_X9_laid hrs) rfl qw_L_94 qc_X9 (by decide) (by decide) (by decide) dL_laid_7 (q_te _)) (Nat.le_refl _)) (q_i2l_o hX dL_laid_10 (Nat.le_refl _))) (q_pL_o hX dL_laid_11))) (qh_laid (rot := rot) hX))
  (q_ret (p1 := 20) hX (q_iconst hX (v := 0) dL_laid_19 (by decide) (Nat.le_refl _)) dL_laid_20))
theorem qh_emptyShare {X : qX} {rot : qRO} (hX : q_OK X cL_emptyShare RL 3 (some .int) 9) : ∀ x r, q_hnd [(4, 1)] x = some r → ∃ pre ent suf name, tableOf [(0, 8, 11, 102)] = pre ++ ent :: suf ∧ (∀ z ∈ pre, covers z 3 = false ∨ (z.catchType ≠ 0 ∧ ∃ nm : String, Cond.classLink RL z.catchType nm ∈ q_WS ∧ (q_xn x, nm) ∈ q_NC)) ∧ covers ent 3 = true ∧ ent.catchType ≠ 0 ∧ Cond.classLink RL ent.catchType name ∈ q_WS ∧ name = q_xn x ∧ q_xn x ∈ q_EX ∧ q_HC X ent.handlerPc r := by
  intro x r h
  by_cases h0 : x = 4
  · subst h0
    have h : some (1 : Int32) = some r := h
    cases h
    exact ⟨[], ⟨0, 8, 11, 102⟩, [], "java/lang/ArithmeticException", rfl, (fun z hz => by cases hz), by decide, by decide, qk_1272, rfl, by decide, (q_hc_n hX (r := 1) dL_emptyShare_11 (by decide) dL_emptyShare_12 (by decide) dL_emptyShare_13)⟩
  unfold q_hnd at h
  rw [if_neg h0] at h
  cases h
set_option maxRecDepth 100000 in
theorem ok_L_emptyShare {rot : qRO} (hrs : q_sub q_rs rot) : q_Met rot yL_emptyShare (Cond.codeWith yL_emptyShare cL_emptyShare 3 (some .int) [(0, 8, 11, 102)] :: q_WS) (some .int) 9 f_L_emptyShare := by
  refine q_methH (by decide) rfl ?_
  intro X hX hrot hnm htab
  exact (q_seq (p1 := 14) (q_try hX (htab _ rfl) (tc := 3) (q_jS (q_goto hX dL_emptyShare_8 (tgt := 14) (by decide)) (q_sh3 (p1 := 1) (p2 := 2) (p3 := 7) (q_aload_n hX dL_emptyShare_0 (Nat.le_refl _)) (q_iconst hX (v := 0) dL_emptyShare_1 (by decide) (Nat.le_refl _)) (q_h1 (p1 := 6) (q_call (p1 := 3) (q_acons (p1 := 3) (q_aload_n hX dL_emptyShare_2 (Nat.le_refl _)) q_anil) (by decide) (q_caV hX hrot (ok_X9_emptyShare hrs) rfl qw_L_98 qc_X9 (by decide) (by decide) (by decide) dL_emptyShare_3 (q_te _)) (Nat.le_refl _)) (q_f2d_o hX dL_emptyShare_6 (Nat.le_refl _))) (q_pD_o hX dL_emptyShare_7))) (qh_emptyShare (rot := rot) hX))
  (q_ret (p1 := 15) hX (q_iconst hX (v := 0) dL_emptyShare_14 (by decide) (Nat.le_refl _)) dL_emptyShare_15))
theorem qh_meanStroke {X : qX} {rot : qRO} (hX : q_OK X cL_meanStroke RL 3 (some .int) 9) : ∀ x r, q_hnd [(4, 1)] x = some r → ∃ pre ent suf name, tableOf [(0, 7, 10, 102)] = pre ++ ent :: suf ∧ (∀ z ∈ pre, covers z 3 = false ∨ (z.catchType ≠ 0 ∧ ∃ nm : String, Cond.classLink RL z.catchType nm ∈ q_WS ∧ (q_xn x, nm) ∈ q_NC)) ∧ covers ent 3 = true ∧ ent.catchType ≠ 0 ∧ Cond.classLink RL ent.catchType name ∈ q_WS ∧ name = q_xn x ∧ q_xn x ∈ q_EX ∧ q_HC X ent.handlerPc r := by
  intro x r h
  by_cases h0 : x = 4
  · subst h0
    have h : some (1 : Int32) = some r := h
    cases h
    exact ⟨[], ⟨0, 7, 10, 102⟩, [], "java/lang/ArithmeticException", rfl, (fun z hz => by cases hz), by decide, by decide, qk_1272, rfl, by decide, (q_hc_n hX (r := 1) dL_meanStroke_10 (by decide) dL_meanStroke_11 (by decide) dL_meanStroke_12)⟩
  unfold q_hnd at h
  rw [if_neg h0] at h
  cases h
set_option maxRecDepth 100000 in
theorem ok_L_meanStroke {rot : qRO} (hrs : q_sub q_rs rot) : q_Met rot yL_meanStroke (Cond.codeWith yL_meanStroke cL_meanStroke 3 (some .int) [(0, 7, 10, 102)] :: q_WS) (some .int) 9 f_L_meanStroke := by
  refine q_methH (by decide) rfl ?_
  intro X hX hrot hnm htab
  exact (q_seq (p1 := 13) (q_try hX (htab _ rfl) (tc := 3) (q_jS (q_goto hX dL_meanStroke_7 (tgt := 13) (by decide)) (q_sh3 (p1 := 1) (p2 := 2) (p3 := 6) (q_aload_n hX dL_meanStroke_0 (Nat.le_refl _)) (q_iconst hX (v := 0) dL_meanStroke_1 (by decide) (Nat.le_refl _)) (q_call (p1 := 3) (q_acons (p1 := 3) (q_aload_n hX dL_meanStroke_2 (Nat.le_refl _)) q_anil) (by decide) (q_caV hX hrot (ok_X9_meanStroke hrs) rfl qw_L_104 qc_X9 (by decide) (by decide) (by decide) dL_meanStroke_3 (q_te _)) (Nat.le_refl _)) (q_pD_o hX dL_meanStroke_6))) (qh_meanStroke (rot := rot) hX))
  (q_ret (p1 := 14) hX (q_iconst hX (v := 0) dL_meanStroke_13 (by decide) (Nat.le_refl _)) dL_meanStroke_14))
