theorem sp_X1_clear {S : q_Sg} {c w : Nat}  : r_G f_X1_clear [.ref 36] (q_en S, c, w) .null (q_en (q_sJ (q_sI (q_sI S 9 0) 10 0) 0 0), c, w) := by
  refine r_Gof (r_run (L := [_]) ⟨rfl, Nat.le_of_ble_eq_true rfl⟩ rfl ?_)
  unfold b_X1_clear
  refine r_seq ?_
  refine r_sput (r_loc rfl rfl) (r_lit ql_0) gp_Commands_count ?_
  refine r_k0 ?_
  refine r_seq ?_
  refine r_sput (r_loc rfl rfl) (r_lit ql_0) gp_Commands_travel ?_
  refine r_k0 ?_
  refine r_seq ?_
  refine r_sput (r_loc rfl rfl) r_litl0 gp_Commands_amount ?_
  refine r_k0 ?_
  refine wS_retv ?_
  refine r_pretv r_le0 ?_
  exact ⟨rfl, rfl⟩
theorem sp_X1_keepAmount {S : q_Sg} {c w : Nat} (hS : r_ok S) {z v : Int} (hz : 0 ≤ z ∧ z < 12) (hv : rg v) : r_G f_X1_keepAmount [.ref 36, iv z, iv v] (q_en S, c, w) .null (q_en (q_sA S 18 (q_up (S.2.1 18) z v)), c, w) := by
  refine r_Gof (r_run (L := [_, _, _]) ⟨rfl, Nat.le_of_ble_eq_true rfl⟩ rfl ?_)
  unfold b_X1_keepAmount
  refine r_seq ?_
  refine r_sif (r_bz (r_call (r_cons (r_loc rfl rfl) r_nil) rfl (sp_X9_isPlace (by first | omega | assumption | exact r_zrg _ | exact hS.1 _ | exact hS.2 _ _ | exact stg_b hS _ _ | exact r_irg (by first | assumption | omega | exact hS.1 _ | exact hS.2 _ _ | exact stg_b hS _ _) (by first | assumption | omega | exact hS.1 _ | exact hS.2 _ _))) rfl)) (fun hp1 => ?_) (fun hp2 => ?_)
  ·
    refine r_sput3 (r_fld (r_loc rfl rfl) gg_Commands_amountOfCell) (r_loc rfl rfl) (r_loc rfl rfl) (r_putI ga_Commands_amountOfCell gs_Commands_amountOfCell (by first | omega | assumption | exact r_zrg _ | exact hS.1 _ | exact hS.2 _ _ | exact stg_b hS _ _ | exact r_irg (by first | assumption | omega | exact hS.1 _ | exact hS.2 _ _ | exact stg_b hS _ _) (by first | assumption | omega | exact hS.1 _ | exact hS.2 _ _)) (by first | omega | assumption | exact r_zrg _ | exact hS.1 _ | exact hS.2 _ _ | exact stg_b hS _ _ | exact r_irg (by first | assumption | omega | exact hS.1 _ | exact hS.2 _ _ | exact stg_b hS _ _) (by first | assumption | omega | exact hS.1 _ | exact hS.2 _ _)) (by decide) q_narI) ?_
    refine r_k0 ?_
    refine wS_retv ?_
    refine r_pretv r_le0 ?_
    exact ⟨rfl, rfl⟩
  ·
    refine wS_skip ?_
    refine r_k0 ?_
    refine wS_retv ?_
    refine r_pretv r_le0 ?_
    omega
theorem sp_X6_makeCommands {S : q_Sg} {c w : Nat} (hS : r_ok S) (hK : SOK S.1 0) (hI : KCI S) (hkn : ∀ z, (0 ≤ z ∧ z < 12) → ¬ S.2.1 4 z = 0) (hth : ∀ z, (0 ≤ z ∧ z < 12) → 1 ≤ S.2.1 1 z ∧ S.2.1 1 z ≤ 3) : r_X f_X6_makeCommands [.ref 42] (q_en S, c, w) (fun _ h2 => ∃ T, h2 = (q_en T, c, w) ∧ r_ok T ∧ r_fr [12, 11, 10, 9, 8] [19, 18, 17, 16, 15, 14, 13, 12, 11, 10, 9] [0] S T ∧ CREP T (PLN (S.2.1 0) S.1 0 (S.2.1 2) 12) (S.2.1 1) ∧ COK (PLN (S.2.1 0) S.1 0 (S.2.1 2) 12) ∧ ∀ j, 0 ≤ j → j < 12 → T.2.1 18 j = 10 * S.2.1 1 j) := by
  refine r_Xof (r_run (L := [_, _]) ⟨rfl, Nat.le_of_ble_eq_true rfl⟩ rfl ?_)
  unfold b_X6_makeCommands
  obtain ⟨k0, k1, k2, k3, k4, k5⟩ := hK
  simp only [Nat.reduceAdd] at k1 k2 k3 k4 k5
  refine r_seq ?_
  refine r_scallG (r_cons (r_fld (r_loc rfl rfl) gg_Planner_commands) r_nil) rfl sp_X1_clear ?_
  refine r_k0 ?_
  refine r_seq ?_
  refine r_sput (r_loc rfl rfl) (r_lit ql_0) gp_Planner_headX ?_
  refine r_k0 ?_
  refine r_seq ?_
  refine r_sput (r_loc rfl rfl) (r_lit ql_0) gp_Planner_headY ?_
  refine r_k0 ?_
  refine r_seq ?_
  refine r_seq ?_
  refine r_sloc (L2 := [_, _]) (r_lit ql_0) rfl rfl ?_
  refine r_k0 ?_
  refine r_loop (T := Nat × q_Sg) (fun (σ : Nat × q_Sg) => match σ with | (z, T) => z ≤ 12 ∧ r_ok T ∧ r_fr [12, 11, 10, 9, 8] [19, 18, 17, 16, 15, 14, 13, 12, 11, 10, 9] [0] S T ∧ CREP T (PLN (S.2.1 0) S.1 0 (S.2.1 2) z) (S.2.1 1) ∧ COK (PLN (S.2.1 0) S.1 0 (S.2.1 2) z) ∧ T.1 11 = hX (PLN (S.2.1 0) S.1 0 (S.2.1 2) z) ∧ T.1 12 = hY (PLN (S.2.1 0) S.1 0 (S.2.1 2) z) ∧ ∀ j, 0 ≤ j → j < (z : Int) → T.2.1 18 j = 10 * S.2.1 1 j) (fun (σ : Nat × q_Sg) => match σ with | (z, T) => 12 - z) (fun (σ : Nat × q_Sg) => match σ with | (z, T) => [some (.ref 42), some (iv z)]) (fun (σ : Nat × q_Sg) => match σ with | (z, T) => (q_en T, c, w)) (0, q_sI (q_sI (q_sJ (q_sI (q_sI S 9 0) 10 0) 0 0) 11 0) 12 0) rfl rfl ?_ ?_ ?_
  · exact ⟨Nat.zero_le _, r_okI (r_okI (r_okJ (r_okI (r_okI hS (by omega)) (by omega))) (by omega)) (by omega), r_frm (r_frI (k := 12) (r_frI (k := 11) (r_frJ (k := 0) (r_frI (k := 10) (r_frI (k := 9) r_fr0))))) (by decide) (by decide) (by decide), ⟨rfl, fun i i0 i1 => absurd i1 (by show ¬ i < ((0 : Nat) : Int); omega), rfl, rfl⟩, COK_0, rfl, rfl, fun j j0 j1 => by omega⟩
  · (show _ < 1000000); first | omega | (dsimp only; omega)
  · rintro ⟨z, T⟩ hP
    try dsimp only at hP ⊢
    obtain ⟨hz, hT, hfT, hcT, hOT, hxT, hyT, hA⟩ := hP
    refine ⟨_, (r_lt (r_loc rfl rfl) (r_lit ql_12) (by first | omega | assumption | exact hT1.1 _ | exact hS.1 _ | exact hS.2 _ _ | exact r_okA hT (r_oku (hT.2 18) (by rw [hfT.2.1 1 (by decide)]; have := hth z (by omega); omega)) | exact KCI_f (r_frA (k := 18) r_fr0) (by decide) (by decide) hIT | (show ¬ T.2.1 4 _ = 0; rw [hfT.2.1 4 (by decide)]; exact hkn _ (by omega)) | exact hth _ (by omega) | (rw [hfT.2.1 1 (by decide)]; have := hth z (by omega); omega) | (rw [e5]; omega)) (by first | omega | assumption | exact hT1.1 _ | exact hS.1 _ | exact hS.2 _ _ | exact r_okA hT (r_oku (hT.2 18) (by rw [hfT.2.1 1 (by decide)]; have := hth z (by omega); omega)) | exact KCI_f (r_frA (k := 18) r_fr0) (by decide) (by decide) hIT | (show ¬ T.2.1 4 _ = 0; rw [hfT.2.1 4 (by decide)]; exact hkn _ (by omega)) | exact hth _ (by omega) | (rw [hfT.2.1 1 (by decide)]; have := hth z (by omega); omega) | (rw [e5]; omega))), fun hp1 => ?_, fun hp2 => ?_⟩
    ·
      refine r_k0 ?_
      refine wS_retv ?_
      refine r_pretv r_le0 ?_
      have hz12 : z = 12 := by omega
      subst hz12
      exact ⟨_, rfl, T, rfl, hT, hfT, hcT, hOT, fun j j0 j1 => hA j j0 (by omega)⟩
    ·
      have hz1 : (z : Int) < 12 := hp2
      have hIT : KCI T := KCI_f hfT (fun k hk => by simp; omega) (by decide) hI
      refine r_seq ?_
      refine r_scallG (r_cons (r_fld (r_loc rfl rfl) gg_Planner_commands) (r_cons (r_loc rfl rfl) (r_cons (r_mul (r_lit ql_10) (r_call (r_cons (r_fld (r_loc rfl rfl) gg_Planner_settings) (r_cons (r_loc rfl rfl) r_nil)) rfl (sp_X7_thicknessOf (by first | omega | assumption | exact hT1.1 _ | exact hS.1 _ | exact hS.2 _ _ | exact r_okA hT (r_oku (hT.2 18) (by rw [hfT.2.1 1 (by decide)]; have := hth z (by omega); omega)) | exact KCI_f (r_frA (k := 18) r_fr0) (by decide) (by decide) hIT | (show ¬ T.2.1 4 _ = 0; rw [hfT.2.1 4 (by decide)]; exact hkn _ (by omega)) | exact hth _ (by omega) | (rw [hfT.2.1 1 (by decide)]; have := hth z (by omega); omega) | (rw [e5]; omega)) (by first | omega | assumption | exact hT1.1 _ | exact hS.1 _ | exact hS.2 _ _ | exact r_okA hT (r_oku (hT.2 18) (by rw [hfT.2.1 1 (by decide)]; have := hth z (by omega); omega)) | exact KCI_f (r_frA (k := 18) r_fr0) (by decide) (by decide) hIT | (show ¬ T.2.1 4 _ = 0; rw [hfT.2.1 4 (by decide)]; exact hkn _ (by omega)) | exact hth _ (by omega) | (rw [hfT.2.1 1 (by decide)]; have := hth z (by omega); omega) | (rw [e5]; omega))) rfl)) r_nil))) rfl (sp_X1_keepAmount (by first | omega | assumption | exact hT1.1 _ | exact hS.1 _ | exact hS.2 _ _ | exact r_okA hT (r_oku (hT.2 18) (by rw [hfT.2.1 1 (by decide)]; have := hth z (by omega); omega)) | exact KCI_f (r_frA (k := 18) r_fr0) (by decide) (by decide) hIT | (show ¬ T.2.1 4 _ = 0; rw [hfT.2.1 4 (by decide)]; exact hkn _ (by omega)) | exact hth _ (by omega) | (rw [hfT.2.1 1 (by decide)]; have := hth z (by omega); omega) | (rw [e5]; omega)) (by first | omega | assumption | exact hT1.1 _ | exact hS.1 _ | exact hS.2 _ _ | exact r_okA hT (r_oku (hT.2 18) (by rw [hfT.2.1 1 (by decide)]; have := hth z (by omega); omega)) | exact KCI_f (r_frA (k := 18) r_fr0) (by decide) (by decide) hIT | (show ¬ T.2.1 4 _ = 0; rw [hfT.2.1 4 (by decide)]; exact hkn _ (by omega)) | exact hth _ (by omega) | (rw [hfT.2.1 1 (by decide)]; have := hth z (by omega); omega) | (rw [e5]; omega)) (by first | omega | assumption | exact hT1.1 _ | exact hS.1 _ | exact hS.2 _ _ | exact r_okA hT (r_oku (hT.2 18) (by rw [hfT.2.1 1 (by decide)]; have := hth z (by omega); omega)) | exact KCI_f (r_frA (k := 18) r_fr0) (by decide) (by decide) hIT | (show ¬ T.2.1 4 _ = 0; rw [hfT.2.1 4 (by decide)]; exact hkn _ (by omega)) | exact hth _ (by omega) | (rw [hfT.2.1 1 (by decide)]; have := hth z (by omega); omega) | (rw [e5]; omega))) ?_
      refine r_k0 ?_
      refine r_seq ?_
      refine r_call0 (r_cons (r_fld (r_loc rfl rfl) gg_Planner_strokes) (r_cons (r_loc rfl rfl) r_nil)) rfl (sp_X8_collect (by first | omega | assumption | exact hT1.1 _ | exact hS.1 _ | exact hS.2 _ _ | exact r_okA hT (r_oku (hT.2 18) (by rw [hfT.2.1 1 (by decide)]; have := hth z (by omega); omega)) | exact KCI_f (r_frA (k := 18) r_fr0) (by decide) (by decide) hIT | (show ¬ T.2.1 4 _ = 0; rw [hfT.2.1 4 (by decide)]; exact hkn _ (by omega)) | exact hth _ (by omega) | (rw [hfT.2.1 1 (by decide)]; have := hth z (by omega); omega) | (rw [e5]; omega)) (by first | omega | assumption | exact hT1.1 _ | exact hS.1 _ | exact hS.2 _ _ | exact r_okA hT (r_oku (hT.2 18) (by rw [hfT.2.1 1 (by decide)]; have := hth z (by omega); omega)) | exact KCI_f (r_frA (k := 18) r_fr0) (by decide) (by decide) hIT | (show ¬ T.2.1 4 _ = 0; rw [hfT.2.1 4 (by decide)]; exact hkn _ (by omega)) | exact hth _ (by omega) | (rw [hfT.2.1 1 (by decide)]; have := hth z (by omega); omega) | (rw [e5]; omega)) (by first | omega | assumption | exact hT1.1 _ | exact hS.1 _ | exact hS.2 _ _ | exact r_okA hT (r_oku (hT.2 18) (by rw [hfT.2.1 1 (by decide)]; have := hth z (by omega); omega)) | exact KCI_f (r_frA (k := 18) r_fr0) (by decide) (by decide) hIT | (show ¬ T.2.1 4 _ = 0; rw [hfT.2.1 4 (by decide)]; exact hkn _ (by omega)) | exact hth _ (by omega) | (rw [hfT.2.1 1 (by decide)]; have := hth z (by omega); omega) | (rw [e5]; omega)) (by first | omega | assumption | exact hT1.1 _ | exact hS.1 _ | exact hS.2 _ _ | exact r_okA hT (r_oku (hT.2 18) (by rw [hfT.2.1 1 (by decide)]; have := hth z (by omega); omega)) | exact KCI_f (r_frA (k := 18) r_fr0) (by decide) (by decide) hIT | (show ¬ T.2.1 4 _ = 0; rw [hfT.2.1 4 (by decide)]; exact hkn _ (by omega)) | exact hth _ (by omega) | (rw [hfT.2.1 1 (by decide)]; have := hth z (by omega); omega) | (rw [e5]; omega))) ?_
      rintro _ _ ⟨T1, rfl, hT1, hf1, hn1, hR1⟩
      have hKT : KL (T.2.1 0) T.1 0 z = KL (S.2.1 0) S.1 0 z := KL_fr hfT (fun k hk => by simp; omega) (by decide) z
      rw [show KL ((q_sA T 18 (q_up (T.2.1 18) z (10 * T.2.1 1 z))).2.1 0) (q_sA T 18 (q_up (T.2.1 18) z (10 * T.2.1 1 z))).1 0 z = KL (S.2.1 0) S.1 0 z from hKT] at hn1 hR1
      have hg1 : r_fr [8] [18, 13, 12, 11, 10, 9] [] T T1 := r_frm (r_frt (r_frA (k := 18) r_fr0) hf1) (by decide) (by decide) (by decide)
      have hG : r_fr [12, 11, 10, 9, 8] [19, 18, 17, 16, 15, 14, 13, 12, 11, 10, 9] [0] S T1 := r_frm (r_frt hfT hg1) (by decide) (by decide) (by decide)
      have hc1 := CREP_f hg1 (by decide) (by decide) (by decide) (by decide) hcT
      have a11 := (hg1.1 11 (by decide)).trans hxT
      have a12 := (hg1.1 12 (by decide)).trans hyT
      have hlen := PLN_len (a := S.2.1 0) (f := S.1) (b := 0) (pz := S.2.1 2) z
      have hKo : ∀ al ac kk, ¬ (0 ≤ al ∧ al < 12) → ¬ KL (S.2.1 0) S.1 0 z al ac = r_t5 kk := fun al ac kk h => KL_o h
      have e2 := hG.2.1 2 (by decide); have e5 := hG.1 5 (by decide)
      have e18 : ∀ j, T1.2.1 18 j = q_up (T.2.1 18) z (10 * T.2.1 1 z) j := fun j => by rw [hf1.2.1 18 (by decide)]; rfl
      have e1 : T.2.1 1 = S.2.1 1 := hfT.2.1 1 (by decide)
      have e18z : T1.2.1 18 z = 10 * S.2.1 1 z := by rw [e18, e1]; unfold q_up; rw [if_pos rfl]
      have hAA : ∀ j, 0 ≤ j → j < (z : Int) + 1 → T1.2.1 18 j = 10 * S.2.1 1 j := fun j j0 j1 => by
        by_cases d : j = z
        · rw [d]; exact e18z
        · rw [e18]; unfold q_up; rw [if_neg d]; exact hA j j0 (by omega)
      refine r_k0 ?_
      refine r_sif (r_z_gt (r_call (r_cons (r_fld (r_loc rfl rfl) gg_Planner_strokes) r_nil) rfl sp_X8_size rfl) (by first | omega | assumption | exact hT1.1 _ | exact hS.1 _ | exact hS.2 _ _ | exact r_okA hT (r_oku (hT.2 18) (by rw [hfT.2.1 1 (by decide)]; have := hth z (by omega); omega)) | exact KCI_f (r_frA (k := 18) r_fr0) (by decide) (by decide) hIT | (show ¬ T.2.1 4 _ = 0; rw [hfT.2.1 4 (by decide)]; exact hkn _ (by omega)) | exact hth _ (by omega) | (rw [hfT.2.1 1 (by decide)]; have := hth z (by omega); omega) | (rw [e5]; omega))) (fun hp3 => ?_) (fun hp4 => ?_)
      ·
        refine r_call0 (r_cons (r_loc rfl rfl) (r_cons (r_loc rfl rfl) r_nil)) rfl (sp_X6_planLayer (by first | omega | assumption | exact hT1.1 _ | exact hS.1 _ | exact hS.2 _ _ | exact r_okA hT (r_oku (hT.2 18) (by rw [hfT.2.1 1 (by decide)]; have := hth z (by omega); omega)) | exact KCI_f (r_frA (k := 18) r_fr0) (by decide) (by decide) hIT | (show ¬ T.2.1 4 _ = 0; rw [hfT.2.1 4 (by decide)]; exact hkn _ (by omega)) | exact hth _ (by omega) | (rw [hfT.2.1 1 (by decide)]; have := hth z (by omega); omega) | (rw [e5]; omega)) (by first | omega | assumption | exact hT1.1 _ | exact hS.1 _ | exact hS.2 _ _ | exact r_okA hT (r_oku (hT.2 18) (by rw [hfT.2.1 1 (by decide)]; have := hth z (by omega); omega)) | exact KCI_f (r_frA (k := 18) r_fr0) (by decide) (by decide) hIT | (show ¬ T.2.1 4 _ = 0; rw [hfT.2.1 4 (by decide)]; exact hkn _ (by omega)) | exact hth _ (by omega) | (rw [hfT.2.1 1 (by decide)]; have := hth z (by omega); omega) | (rw [e5]; omega)) (by first | omega | assumption | exact hT1.1 _ | exact hS.1 _ | exact hS.2 _ _ | exact r_okA hT (r_oku (hT.2 18) (by rw [hfT.2.1 1 (by decide)]; have := hth z (by omega); omega)) | exact KCI_f (r_frA (k := 18) r_fr0) (by decide) (by decide) hIT | (show ¬ T.2.1 4 _ = 0; rw [hfT.2.1 4 (by decide)]; exact hkn _ (by omega)) | exact hth _ (by omega) | (rw [hfT.2.1 1 (by decide)]; have := hth z (by omega); omega) | (rw [e5]; omega)) (by first | omega | assumption | exact hT1.1 _ | exact hS.1 _ | exact hS.2 _ _ | exact r_okA hT (r_oku (hT.2 18) (by rw [hfT.2.1 1 (by decide)]; have := hth z (by omega); omega)) | exact KCI_f (r_frA (k := 18) r_fr0) (by decide) (by decide) hIT | (show ¬ T.2.1 4 _ = 0; rw [hfT.2.1 4 (by decide)]; exact hkn _ (by omega)) | exact hth _ (by omega) | (rw [hfT.2.1 1 (by decide)]; have := hth z (by omega); omega) | (rw [e5]; omega)) (by first | omega | assumption | exact hT1.1 _ | exact hS.1 _ | exact hS.2 _ _ | exact r_okA hT (r_oku (hT.2 18) (by rw [hfT.2.1 1 (by decide)]; have := hth z (by omega); omega)) | exact KCI_f (r_frA (k := 18) r_fr0) (by decide) (by decide) hIT | (show ¬ T.2.1 4 _ = 0; rw [hfT.2.1 4 (by decide)]; exact hkn _ (by omega)) | exact hth _ (by omega) | (rw [hfT.2.1 1 (by decide)]; have := hth z (by omega); omega) | (rw [e5]; omega)) (by first | omega | assumption | exact hT1.1 _ | exact hS.1 _ | exact hS.2 _ _ | exact r_okA hT (r_oku (hT.2 18) (by rw [hfT.2.1 1 (by decide)]; have := hth z (by omega); omega)) | exact KCI_f (r_frA (k := 18) r_fr0) (by decide) (by decide) hIT | (show ¬ T.2.1 4 _ = 0; rw [hfT.2.1 4 (by decide)]; exact hkn _ (by omega)) | exact hth _ (by omega) | (rw [hfT.2.1 1 (by decide)]; have := hth z (by omega); omega) | (rw [e5]; omega)) (by first | omega | assumption | exact hT1.1 _ | exact hS.1 _ | exact hS.2 _ _ | exact r_okA hT (r_oku (hT.2 18) (by rw [hfT.2.1 1 (by decide)]; have := hth z (by omega); omega)) | exact KCI_f (r_frA (k := 18) r_fr0) (by decide) (by decide) hIT | (show ¬ T.2.1 4 _ = 0; rw [hfT.2.1 4 (by decide)]; exact hkn _ (by omega)) | exact hth _ (by omega) | (rw [hfT.2.1 1 (by decide)]; have := hth z (by omega); omega) | (rw [e5]; omega)) (by first | omega | assumption | exact hT1.1 _ | exact hS.1 _ | exact hS.2 _ _ | exact r_okA hT (r_oku (hT.2 18) (by rw [hfT.2.1 1 (by decide)]; have := hth z (by omega); omega)) | exact KCI_f (r_frA (k := 18) r_fr0) (by decide) (by decide) hIT | (show ¬ T.2.1 4 _ = 0; rw [hfT.2.1 4 (by decide)]; exact hkn _ (by omega)) | exact hth _ (by omega) | (rw [hfT.2.1 1 (by decide)]; have := hth z (by omega); omega) | (rw [e5]; omega)) (by first | omega | assumption | exact hT1.1 _ | exact hS.1 _ | exact hS.2 _ _ | exact r_okA hT (r_oku (hT.2 18) (by rw [hfT.2.1 1 (by decide)]; have := hth z (by omega); omega)) | exact KCI_f (r_frA (k := 18) r_fr0) (by decide) (by decide) hIT | (show ¬ T.2.1 4 _ = 0; rw [hfT.2.1 4 (by decide)]; exact hkn _ (by omega)) | exact hth _ (by omega) | (rw [hfT.2.1 1 (by decide)]; have := hth z (by omega); omega) | (rw [e5]; omega)) (by first | omega | assumption | exact hT1.1 _ | exact hS.1 _ | exact hS.2 _ _ | exact r_okA hT (r_oku (hT.2 18) (by rw [hfT.2.1 1 (by decide)]; have := hth z (by omega); omega)) | exact KCI_f (r_frA (k := 18) r_fr0) (by decide) (by decide) hIT | (show ¬ T.2.1 4 _ = 0; rw [hfT.2.1 4 (by decide)]; exact hkn _ (by omega)) | exact hth _ (by omega) | (rw [hfT.2.1 1 (by decide)]; have := hth z (by omega); omega) | (rw [e5]; omega)) (by first | omega | assumption | exact hT1.1 _ | exact hS.1 _ | exact hS.2 _ _ | exact r_okA hT (r_oku (hT.2 18) (by rw [hfT.2.1 1 (by decide)]; have := hth z (by omega); omega)) | exact KCI_f (r_frA (k := 18) r_fr0) (by decide) (by decide) hIT | (show ¬ T.2.1 4 _ = 0; rw [hfT.2.1 4 (by decide)]; exact hkn _ (by omega)) | exact hth _ (by omega) | (rw [hfT.2.1 1 (by decide)]; have := hth z (by omega); omega) | (rw [e5]; omega)) (by first | omega | assumption | exact hT1.1 _ | exact hS.1 _ | exact hS.2 _ _ | exact r_okA hT (r_oku (hT.2 18) (by rw [hfT.2.1 1 (by decide)]; have := hth z (by omega); omega)) | exact KCI_f (r_frA (k := 18) r_fr0) (by decide) (by decide) hIT | (show ¬ T.2.1 4 _ = 0; rw [hfT.2.1 4 (by decide)]; exact hkn _ (by omega)) | exact hth _ (by omega) | (rw [hfT.2.1 1 (by decide)]; have := hth z (by omega); omega) | (rw [e5]; omega)) (by first | omega | assumption | exact hT1.1 _ | exact hS.1 _ | exact hS.2 _ _ | exact r_okA hT (r_oku (hT.2 18) (by rw [hfT.2.1 1 (by decide)]; have := hth z (by omega); omega)) | exact KCI_f (r_frA (k := 18) r_fr0) (by decide) (by decide) hIT | (show ¬ T.2.1 4 _ = 0; rw [hfT.2.1 4 (by decide)]; exact hkn _ (by omega)) | exact hth _ (by omega) | (rw [hfT.2.1 1 (by decide)]; have := hth z (by omega); omega) | (rw [e5]; omega)) (by first | omega | assumption | exact hT1.1 _ | exact hS.1 _ | exact hS.2 _ _ | exact r_okA hT (r_oku (hT.2 18) (by rw [hfT.2.1 1 (by decide)]; have := hth z (by omega); omega)) | exact KCI_f (r_frA (k := 18) r_fr0) (by decide) (by decide) hIT | (show ¬ T.2.1 4 _ = 0; rw [hfT.2.1 4 (by decide)]; exact hkn _ (by omega)) | exact hth _ (by omega) | (rw [hfT.2.1 1 (by decide)]; have := hth z (by omega); omega) | (rw [e5]; omega))) ?_
        rintro _ _ ⟨T2, rfl, hT2, hf2, hc2, hO2, hx2, hy2⟩
        refine r_l0 ?_
        refine r_sinc (L2 := [_, _]) rfl rfl ?_
        refine r_lend (z + 1, T2) rfl rfl ?_ (by first | omega | (dsimp only; omega))
        try dsimp only
        have hL : (PLN (S.2.1 0) S.1 0 (S.2.1 2) (z + 1)) = lay1 (KL (S.2.1 0) S.1 0 z) (¬ T1.2.1 2 z = 0) (T1.1 5) z (PLN (S.2.1 0) S.1 0 (S.2.1 2) z) := by rw [e2, e5]; rfl
        rw [← hL] at hc2 hO2 hx2 hy2
        exact ⟨by omega, hT2, r_frm (r_frt hG hf2) (by decide) (by decide) (by decide), hc2, hO2, hx2, hy2, fun j j0 j1 => by rw [hf2.2.1 18 (by decide)]; exact hAA j j0 (by omega)⟩
      ·
        refine wS_skip ?_
        refine r_l0 ?_
        refine r_sinc (L2 := [_, _]) rfl rfl ?_
        refine r_lend (z + 1, T1) rfl rfl ?_ (by first | omega | (dsimp only; omega))
        try dsimp only
        have hL : (PLN (S.2.1 0) S.1 0 (S.2.1 2) (z + 1)) = (PLN (S.2.1 0) S.1 0 (S.2.1 2) z) := by
          show lay1 _ _ _ _ _ = _
          unfold lay1; rw [if_pos]
          have k : ¬ 0 < T1.1 8 := by assumption
          have := (cnt_b (p := STT (KL (S.2.1 0) S.1 0 z)) 720).1
          have h3 : 0 ≤ sI (KL (S.2.1 0) S.1 0 z) 720 := this
          omega
        exact ⟨by omega, hT1, hG, by rw [hL]; exact hc1, by rw [hL]; exact hOT, by rw [hL]; exact a11, by rw [hL]; exact a12, fun j j0 j1 => hAA j j0 (by omega)⟩
