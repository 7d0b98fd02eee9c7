theorem sp_X5_goRound {S : q_Sg} {c w : Nat} (hS : r_ok S) {e z : Int} (hz : 0 ≤ z ∧ z < 12) (he : EGE (S.2.1 0) z e) (ho : ∀ f, 0 ≤ f → f < 676 → ¬ S.2.1 8 f = 0 → EGE (S.2.1 0) z f ∧ ¬ S.2.1 8 (scE (S.2.1 0) z f) = 0) : r_X f_X5_goRound [.ref 26, iv e, iv z] (q_en S, c, w) (fun _ h2 => ∃ g, h2 = (q_en (q_sA S 8 g), c, w) ∧ (∀ j, rg (g j)) ∧ ∀ f, 0 ≤ f → f < 676 → (¬ g f = 0 ↔ ¬ S.2.1 8 f = 0 ∨ RO (S.2.1 0) z e f)) := by
  refine r_Xof (r_run (L := [_, _, _, _, _, _, _, _]) ⟨rfl, Nat.le_of_ble_eq_true rfl⟩ rfl ?_)
  unfold b_X5_goRound
  have he0 := he.1
  refine r_seq ?_
  refine r_sloc (L2 := [_, _, _, _, _, _, _, _]) (r_call (r_cons (r_loc rfl rfl) r_nil) rfl (sp_X5_cornerX (by first | omega | assumption | exact r_zrg _ | exact hS.1 _ | exact hS.2 _ _ | exact stg_b hS _ _ | exact r_irg (by first | assumption | omega | exact hS.1 _ | exact hS.2 _ _ | exact stg_b hS _ _) (by first | assumption | omega | exact hS.1 _ | exact hS.2 _ _) | exact hr _ | exact hSg2)) rfl) rfl rfl ?_
  refine r_k0 ?_
  refine r_seq ?_
  refine r_sloc (L2 := [_, _, _, _, _, _, _, _]) (r_call (r_cons (r_loc rfl rfl) r_nil) rfl (sp_X5_cornerY (by first | omega | assumption | exact r_zrg _ | exact hS.1 _ | exact hS.2 _ _ | exact stg_b hS _ _ | exact r_irg (by first | assumption | omega | exact hS.1 _ | exact hS.2 _ _ | exact stg_b hS _ _) (by first | assumption | omega | exact hS.1 _ | exact hS.2 _ _) | exact hr _ | exact hSg2)) rfl) rfl rfl ?_
  refine r_k0 ?_
  refine r_seq ?_
  refine r_sloc (L2 := [_, _, _, _, _, _, _, _]) (r_call (r_cons (r_loc rfl rfl) r_nil) rfl (sp_X5_wayOf (by first | omega | assumption | exact r_zrg _ | exact hS.1 _ | exact hS.2 _ _ | exact stg_b hS _ _ | exact r_irg (by first | assumption | omega | exact hS.1 _ | exact hS.2 _ _ | exact stg_b hS _ _) (by first | assumption | omega | exact hS.1 _ | exact hS.2 _ _) | exact hr _ | exact hSg2)) rfl) rfl rfl ?_
  refine r_k0 ?_
  refine r_seq ?_
  refine r_seq ?_
  refine r_sloc (L2 := [_, _, _, _, _, _, _, _]) (r_lit ql_0) rfl rfl ?_
  refine r_k0 ?_
  refine r_loop (T := Int × Int × (Int → Int) × Option Value) (fun (σ : Int × Int × (Int → Int) × Option Value) => match σ with | (i, f, g, o) => (0 ≤ i ∧ i ≤ 676) ∧ EGE (S.2.1 0) z f ∧ RO (S.2.1 0) z e f ∧ (∀ j, rg (g j)) ∧ (∀ j, 0 ≤ j → j < 676 → ¬ g j = 0 → (¬ S.2.1 8 j = 0 ∨ RO (S.2.1 0) z e j) ∧ EGE (S.2.1 0) z j ∧ (scE (S.2.1 0) z j = f ∨ ¬ g (scE (S.2.1 0) z j) = 0)) ∧ (∀ j, ¬ S.2.1 8 j = 0 → ¬ g j = 0) ∧ i ≤ cnt (fun j => ¬ g j = 0) 676 ∧ (i = 0 → f = e) ∧ (¬ i = 0 → ¬ g e = 0)) (fun (σ : Int × Int × (Int → Int) × Option Value) => match σ with | (i, f, g, o) => (676 - i).toNat) (fun (σ : Int × Int × (Int → Int) × Option Value) => match σ with | (i, f, g, o) => [some (.ref 26), some (iv e), some (iv z), some (iv (f / 4 % 13)), some (iv (f / 52)), some (iv (f % 4)), some (iv i), o]) (fun (σ : Int × Int × (Int → Int) × Option Value) => match σ with | (i, f, g, o) => (q_en (q_sA S 8 g), c, w)) (0, e, S.2.1 8, _) rfl (by dsimp only; rw [q_sAs]) ?_ ?_ ?_
  · exact ⟨by omega, he, RO_r, hS.2 8, fun j j0 j1 q => ⟨Or.inl q, (ho j j0 j1 q).1, Or.inr (ho j j0 j1 q).2⟩, fun _ q => q, (cnt_b 676).1, fun _ => rfl, fun q => absurd rfl q⟩
  · (show _ < 1000000); first | omega | (dsimp only; omega)
  · rintro ⟨i, f, g, o⟩ hP
    try dsimp only at hP ⊢
    obtain ⟨hi, hf, hro, hr, hg, hold, hcn, hi0, hi1⟩ := hP
    refine ⟨_, (r_lt (r_loc rfl rfl) (r_lit ql_676) (by first | omega | assumption | exact r_zrg _ | exact hS.1 _ | exact hS.2 _ _ | exact stg_b hS _ _ | exact r_irg (by first | assumption | omega | exact hS.1 _ | exact hS.2 _ _ | exact stg_b hS _ _) (by first | assumption | omega | exact hS.1 _ | exact hS.2 _ _) | exact hr _ | exact hSg2) (by first | omega | assumption | exact r_zrg _ | exact hS.1 _ | exact hS.2 _ _ | exact stg_b hS _ _ | exact r_irg (by first | assumption | omega | exact hS.1 _ | exact hS.2 _ _ | exact stg_b hS _ _) (by first | assumption | omega | exact hS.1 _ | exact hS.2 _ _) | exact hr _ | exact hSg2)), fun hp1 => ?_, fun hp2 => ?_⟩
    ·
      have hall := cnt_al2 (p := fun j => ¬ g j = 0) 676 (by omega)
      refine r_k0 ?_
      refine wS_retv ?_
      refine r_pretv r_le0 ?_
      refine ⟨_, rfl, g, rfl, hr, fun j j0 j1 => ⟨fun q => (hg j j0 j1 q).1, fun q => q.elim (hold j) (fun d => hall j j0 (by omega))⟩⟩
    ·
      have hfb := hf.1
      have hfe : (f / 52 * 13 + f / 4 % 13) * 4 + f % 4 = f := by omega
      have hnb := EDG_b (by omega) hf.2
      have hSg : r_ok (q_sA S 8 (q_up g ((f / 52 * 13 + f / 4 % 13) * 4 + f % 4) 1)) := r_okA hS (r_oku hr (by omega))
      have hSg2 : r_ok (q_sA (q_sA S 8 g) 8 (q_up g ((f / 52 * 13 + f / 4 % 13) * 4 + f % 4) 1)) := by rw [q_sAA]; exact hSg
      have hsc := scE_e hf
      refine r_seq ?_
      refine r_sloc (L2 := [_, _, _, _, _, _, _, _]) (r_call (r_cons (r_loc rfl rfl) (r_cons (r_loc rfl rfl) (r_cons (r_loc rfl rfl) r_nil))) rfl (sp_X5_edgeOf (by first | omega | assumption | exact r_zrg _ | exact hS.1 _ | exact hS.2 _ _ | exact stg_b hS _ _ | exact r_irg (by first | assumption | omega | exact hS.1 _ | exact hS.2 _ _ | exact stg_b hS _ _) (by first | assumption | omega | exact hS.1 _ | exact hS.2 _ _) | exact hr _ | exact hSg2) (by first | omega | assumption | exact r_zrg _ | exact hS.1 _ | exact hS.2 _ _ | exact stg_b hS _ _ | exact r_irg (by first | assumption | omega | exact hS.1 _ | exact hS.2 _ _ | exact stg_b hS _ _) (by first | assumption | omega | exact hS.1 _ | exact hS.2 _ _) | exact hr _ | exact hSg2) (by first | omega | assumption | exact r_zrg _ | exact hS.1 _ | exact hS.2 _ _ | exact stg_b hS _ _ | exact r_irg (by first | assumption | omega | exact hS.1 _ | exact hS.2 _ _ | exact stg_b hS _ _) (by first | assumption | omega | exact hS.1 _ | exact hS.2 _ _) | exact hr _ | exact hSg2)) rfl) rfl rfl ?_
      refine r_k0 ?_
      refine r_seq ?_
      refine r_sif (r_or (r_or (r_z_lt (r_loc rfl rfl) (by first | omega | assumption | exact r_zrg _ | exact hS.1 _ | exact hS.2 _ _ | exact stg_b hS _ _ | exact r_irg (by first | assumption | omega | exact hS.1 _ | exact hS.2 _ _ | exact stg_b hS _ _) (by first | assumption | omega | exact hS.1 _ | exact hS.2 _ _) | exact hr _ | exact hSg2)) (fun hp3 => (r_ge (r_loc rfl rfl) (r_len (r_fld (r_loc rfl rfl) gg_Outlines_isGone) ga_Outlines_isGone) (by first | omega | assumption | exact r_zrg _ | exact hS.1 _ | exact hS.2 _ _ | exact stg_b hS _ _ | exact r_irg (by first | assumption | omega | exact hS.1 _ | exact hS.2 _ _ | exact stg_b hS _ _) (by first | assumption | omega | exact hS.1 _ | exact hS.2 _ _) | exact hr _ | exact hSg2) (by first | omega | assumption | exact r_zrg _ | exact hS.1 _ | exact hS.2 _ _ | exact stg_b hS _ _ | exact r_irg (by first | assumption | omega | exact hS.1 _ | exact hS.2 _ _ | exact stg_b hS _ _) (by first | assumption | omega | exact hS.1 _ | exact hS.2 _ _) | exact hr _ | exact hSg2)))) (fun hp4 => (r_z_ne (r_aget ga_Outlines_isGone (r_fld (r_loc rfl rfl) gg_Outlines_isGone) (r_loc rfl rfl) (by first | omega | assumption | exact r_zrg _ | exact hS.1 _ | exact hS.2 _ _ | exact stg_b hS _ _ | exact r_irg (by first | assumption | omega | exact hS.1 _ | exact hS.2 _ _ | exact stg_b hS _ _) (by first | assumption | omega | exact hS.1 _ | exact hS.2 _ _) | exact hr _ | exact hSg2) (by first | omega | assumption | exact r_zrg _ | exact hS.1 _ | exact hS.2 _ _ | exact stg_b hS _ _ | exact r_irg (by first | assumption | omega | exact hS.1 _ | exact hS.2 _ _ | exact stg_b hS _ _) (by first | assumption | omega | exact hS.1 _ | exact hS.2 _ _) | exact hr _ | exact hSg2) (by decide)) (by first | omega | assumption | exact r_zrg _ | exact hS.1 _ | exact hS.2 _ _ | exact stg_b hS _ _ | exact r_irg (by first | assumption | omega | exact hS.1 _ | exact hS.2 _ _ | exact stg_b hS _ _) (by first | assumption | omega | exact hS.1 _ | exact hS.2 _ _) | exact hr _ | exact hSg2)))) (fun hp5 => ?_) (fun hp6 => ?_)
      ·
        have hpT := hp5
        have hpT0 := hp5
        refine wS_retv ?_
        refine r_ks (j := 2) ?_
        refine r_l3 (j := 0) ?_
        refine r_ks (j := 2) ?_
        refine r_pretv r_le0 ?_
        have hgf : ¬ g f = 0 := by
          rcases hpT0 with d | d
          · omega
          · rw [hfe] at d; exact d
        refine ⟨_, rfl, g, rfl, hr, fun j j0 j1 => ⟨fun q => (hg j j0 j1 q).1, fun q => q.elim (hold j) (fun d => ?_)⟩⟩
        have hd := d (fun s => EGE (S.2.1 0) z s ∧ ¬ g s = 0) ⟨he, by
          by_cases c0 : i = 0
          · rw [← hi0 c0]; exact hgf
          · exact hi1 c0⟩ (fun s ⟨q1, q2⟩ => ⟨(scE_e q1).1, by
            have qb := q1.1
            rcases (hg s qb.1 qb.2 q2).2.2 with c1 | c1
            · rw [c1]; exact hgf
            · exact c1⟩)
        exact hd.2
      ·
        have hpF := hp6
        have hpF0 := hp6
        refine wS_skip ?_
        refine r_k0 ?_
        refine r_seq ?_
        refine r_sput3 (r_fld (r_loc rfl rfl) gg_Outlines_isGone) (r_loc rfl rfl) (r_lit ql_1) (r_putI ga_Outlines_isGone gs_Outlines_isGone (by first | omega | assumption | exact r_zrg _ | exact hS.1 _ | exact hS.2 _ _ | exact stg_b hS _ _ | exact r_irg (by first | assumption | omega | exact hS.1 _ | exact hS.2 _ _ | exact stg_b hS _ _) (by first | assumption | omega | exact hS.1 _ | exact hS.2 _ _) | exact hr _ | exact hSg2) (by first | omega | assumption | exact r_zrg _ | exact hS.1 _ | exact hS.2 _ _ | exact stg_b hS _ _ | exact r_irg (by first | assumption | omega | exact hS.1 _ | exact hS.2 _ _ | exact stg_b hS _ _) (by first | assumption | omega | exact hS.1 _ | exact hS.2 _ _) | exact hr _ | exact hSg2) (by decide) (q_narZ (by first | omega | assumption | exact r_zrg _ | exact hS.1 _ | exact hS.2 _ _ | exact stg_b hS _ _ | exact r_irg (by first | assumption | omega | exact hS.1 _ | exact hS.2 _ _ | exact stg_b hS _ _) (by first | assumption | omega | exact hS.1 _ | exact hS.2 _ _) | exact hr _ | exact hSg2) (by first | omega | assumption | exact r_zrg _ | exact hS.1 _ | exact hS.2 _ _ | exact stg_b hS _ _ | exact r_irg (by first | assumption | omega | exact hS.1 _ | exact hS.2 _ _ | exact stg_b hS _ _) (by first | assumption | omega | exact hS.1 _ | exact hS.2 _ _) | exact hr _ | exact hSg2))) ?_
        refine r_k0 ?_
        refine r_seq ?_
        refine r_sloc (L2 := [_, _, _, _, _, _, _, _]) (r_add (r_loc rfl rfl) (r_ro1 r_litr (r_loc rfl rfl) (by first | omega | assumption | exact r_zrg _ | exact hS.1 _ | exact hS.2 _ _ | exact stg_b hS _ _ | exact r_irg (by first | assumption | omega | exact hS.1 _ | exact hS.2 _ _ | exact stg_b hS _ _) (by first | assumption | omega | exact hS.1 _ | exact hS.2 _ _) | exact hr _ | exact hSg2) (by first | omega | assumption | exact r_zrg _ | exact hS.1 _ | exact hS.2 _ _ | exact stg_b hS _ _ | exact r_irg (by first | assumption | omega | exact hS.1 _ | exact hS.2 _ _ | exact stg_b hS _ _) (by first | assumption | omega | exact hS.1 _ | exact hS.2 _ _) | exact hr _ | exact hSg2))) rfl rfl ?_
        refine r_k0 ?_
        refine r_seq ?_
        refine r_sloc (L2 := [_, _, _, _, _, _, _, _]) (r_add (r_loc rfl rfl) (r_ro2 r_litr (r_loc rfl rfl) (by first | omega | assumption | exact r_zrg _ | exact hS.1 _ | exact hS.2 _ _ | exact stg_b hS _ _ | exact r_irg (by first | assumption | omega | exact hS.1 _ | exact hS.2 _ _ | exact stg_b hS _ _) (by first | assumption | omega | exact hS.1 _ | exact hS.2 _ _) | exact hr _ | exact hSg2) (by first | omega | assumption | exact r_zrg _ | exact hS.1 _ | exact hS.2 _ _ | exact stg_b hS _ _ | exact r_irg (by first | assumption | omega | exact hS.1 _ | exact hS.2 _ _ | exact stg_b hS _ _) (by first | assumption | omega | exact hS.1 _ | exact hS.2 _ _) | exact hr _ | exact hSg2))) rfl rfl ?_
        refine r_k0 ?_
        refine r_sloc (L2 := [_, _, _, _, _, _, _, _]) (r_call (r_cons (r_loc rfl rfl) (r_cons (r_loc rfl rfl) (r_cons (r_loc rfl rfl) (r_cons (r_loc rfl rfl) (r_cons (r_loc rfl rfl) r_nil))))) rfl (sp_X5_wayOn (by first | omega | assumption | exact r_zrg _ | exact hS.1 _ | exact hS.2 _ _ | exact stg_b hS _ _ | exact r_irg (by first | assumption | omega | exact hS.1 _ | exact hS.2 _ _ | exact stg_b hS _ _) (by first | assumption | omega | exact hS.1 _ | exact hS.2 _ _) | exact hr _ | exact hSg2) (by first | omega | assumption | exact r_zrg _ | exact hS.1 _ | exact hS.2 _ _ | exact stg_b hS _ _ | exact r_irg (by first | assumption | omega | exact hS.1 _ | exact hS.2 _ _ | exact stg_b hS _ _) (by first | assumption | omega | exact hS.1 _ | exact hS.2 _ _) | exact hr _ | exact hSg2) (by first | omega | assumption | exact r_zrg _ | exact hS.1 _ | exact hS.2 _ _ | exact stg_b hS _ _ | exact r_irg (by first | assumption | omega | exact hS.1 _ | exact hS.2 _ _ | exact stg_b hS _ _) (by first | assumption | omega | exact hS.1 _ | exact hS.2 _ _) | exact hr _ | exact hSg2) (by first | omega | assumption | exact r_zrg _ | exact hS.1 _ | exact hS.2 _ _ | exact stg_b hS _ _ | exact r_irg (by first | assumption | omega | exact hS.1 _ | exact hS.2 _ _ | exact stg_b hS _ _) (by first | assumption | omega | exact hS.1 _ | exact hS.2 _ _) | exact hr _ | exact hSg2) (by first | omega | assumption | exact r_zrg _ | exact hS.1 _ | exact hS.2 _ _ | exact stg_b hS _ _ | exact r_irg (by first | assumption | omega | exact hS.1 _ | exact hS.2 _ _ | exact stg_b hS _ _) (by first | assumption | omega | exact hS.1 _ | exact hS.2 _ _) | exact hr _ | exact hSg2)) rfl) rfl rfl ?_
        refine r_l0 ?_
        refine r_sinc (L2 := [_, _, _, _, _, _, _, _]) rfl rfl ?_
        refine r_lend (i + 1, scE (S.2.1 0) z f, q_up g f 1, _) (by rw [hsc.2.1, hsc.2.2.1, hsc.2.2.2]; rfl) (by rw [q_sAA, hfe]; rfl) ?_ (by first | omega | (dsimp only; omega))
        try dsimp only
        have hng : g f = 0 := by
          rw [← hfe]; exact Classical.byContradiction (fun q => hpF0 (Or.inr q))
        have hup : ∀ j, ¬ q_up g f 1 j = 0 ↔ j = f ∨ ¬ g j = 0 := fun j => by
          unfold q_up
          by_cases d : j = f
          · rw [if_pos d]; exact ⟨fun _ => Or.inl d, fun _ => by omega⟩
          · rw [if_neg d]; exact ⟨Or.inr, fun q => q.elim (fun q => absurd q d) id⟩
        refine ⟨by omega, hsc.1, RO_n hro, r_oku hr (by omega), fun j j0 j1 hj => ?_, fun j hj => (hup j).mpr (Or.inr (hold j hj)), ?_, fun q => by omega, fun _ => (hup e).mpr ?_⟩
        · rcases (hup j).mp hj with d | d
          · rw [d]; exact ⟨Or.inr hro, hf, Or.inl rfl⟩
          · obtain ⟨q1, q2, q3⟩ := hg j j0 j1 d
            exact ⟨q1, q2, Or.inr ((hup _).mpr q3)⟩
        · have hx := cnt_new (p := fun j => ¬ g j = 0) (q := fun j => ¬ q_up g f 1 j = 0) (n := 676) (j := f) hfb ((hup f).mpr (Or.inl rfl)) (fun q => q hng) (fun j hj => (hup j).trans ⟨fun q => q.elim (fun q => absurd q hj) id, Or.inr⟩)
          exact Int.le_trans (Int.add_le_add_right hcn 1) (Int.le_of_eq hx.symm)
        · by_cases d : i = 0
          · exact Or.inl (hi0 d).symm
          · exact Or.inr (hi1 d)
theorem sp_X5_countRounds {S : q_Sg} {c w : Nat} (hS : r_ok S) {z : Int} (hz : 0 ≤ z ∧ z < 12) : r_X f_X5_countRounds [.ref 26, iv z] (q_en S, c, w) (fun r h2 => ∃ g, r = iv (cnt (ROL (S.2.1 0) z) 676) ∧ h2 = (q_en (q_sA S 8 g), c, w) ∧ ∀ j, rg (g j)) := by
  refine r_Xof (r_run (L := [_, _, _, _]) ⟨rfl, Nat.le_of_ble_eq_true rfl⟩ rfl ?_)
  unfold b_X5_countRounds
  refine r_seq ?_
  refine r_seq ?_
  refine r_sloc (L2 := [_, _, _, _]) (r_lit ql_0) rfl rfl ?_
  refine r_k0 ?_
  refine r_loop (T := Int × (Int → Int) × Option Value) (fun (σ : Int × (Int → Int) × Option Value) => match σ with | (k, g, o) => (0 ≤ k ∧ k ≤ 676) ∧ (∀ j, 0 ≤ j → j < k → g j = 0) ∧ ∀ j, rg (g j)) (fun (σ : Int × (Int → Int) × Option Value) => match σ with | (k, g, o) => (676 - k).toNat) (fun (σ : Int × (Int → Int) × Option Value) => match σ with | (k, g, o) => [some (.ref 26), some (iv z), some (iv k), o]) (fun (σ : Int × (Int → Int) × Option Value) => match σ with | (k, g, o) => (q_en (q_sA S 8 g), c, w)) (0, S.2.1 8, _) rfl (by dsimp only; rw [q_sAs]) ?_ ?_ ?_
  · exact ⟨by omega, fun j h0 h1 => by omega, hS.2 8⟩
  · (show _ < 1000000); first | omega | (dsimp only; omega)
  · rintro ⟨k, g, o⟩ hP
    try dsimp only at hP ⊢
    obtain ⟨hk, hz0, hr⟩ := hP
    refine ⟨_, (r_lt (r_loc rfl rfl) (r_len (r_fld (r_loc rfl rfl) gg_Outlines_isGone) ga_Outlines_isGone) (by first | omega | assumption | exact r_zrg _ | exact hS.1 _ | exact hS.2 _ _ | exact stg_b hS _ _ | exact r_irg (by first | assumption | omega | exact hS.1 _ | exact hS.2 _ _ | exact stg_b hS _ _) (by first | assumption | omega | exact hS.1 _ | exact hS.2 _ _) | exact hr _ | exact hSg | exact ⟨by omega, by assumption⟩ | exact hclo | exact hEk) (by first | omega | assumption | exact r_zrg _ | exact hS.1 _ | exact hS.2 _ _ | exact stg_b hS _ _ | exact r_irg (by first | assumption | omega | exact hS.1 _ | exact hS.2 _ _ | exact stg_b hS _ _) (by first | assumption | omega | exact hS.1 _ | exact hS.2 _ _) | exact hr _ | exact hSg | exact ⟨by omega, by assumption⟩ | exact hclo | exact hEk)), fun hp1 => ?_, fun hp2 => ?_⟩
    ·
      have hk676 : k = 676 := by omega
      refine r_k0 ?_
      refine r_seq ?_
      refine r_sloc (L2 := [_, _, _, _]) (r_lit ql_0) rfl rfl ?_
      refine r_k0 ?_
      refine r_seq ?_
      refine r_seq ?_
      refine r_sloc (L2 := [_, _, _, _]) (r_lit ql_0) rfl rfl ?_
      refine r_k0 ?_
      refine r_loop (T := Int × Int × (Int → Int)) (fun (σ : Int × Int × (Int → Int)) => match σ with | (e, m, g) => (0 ≤ e ∧ e ≤ 676) ∧ m = cnt (ROL (S.2.1 0) z) e.toNat ∧ (∀ j, rg (g j)) ∧ ∀ f, 0 ≤ f → f < 676 → (¬ g f = 0 ↔ ∃ v, (0 ≤ v ∧ v < e) ∧ EGE (S.2.1 0) z v ∧ RO (S.2.1 0) z v f)) (fun (σ : Int × Int × (Int → Int)) => match σ with | (e, m, g) => (676 - e).toNat) (fun (σ : Int × Int × (Int → Int)) => match σ with | (e, m, g) => [some (.ref 26), some (iv z), some (iv m), some (iv e)]) (fun (σ : Int × Int × (Int → Int)) => match σ with | (e, m, g) => (q_en (q_sA S 8 g), c, w)) (0, 0, g) rfl rfl ?_ ?_ ?_
      · exact ⟨by omega, rfl, hr, fun f f0 f1 => ⟨fun q => absurd (hz0 f f0 (by omega)) q, fun ⟨v, v1, _⟩ => by omega⟩⟩
      · (show _ < 1000000); first | omega | (dsimp only; omega)
      · rintro ⟨e, m, g⟩ hP
        try dsimp only at hP ⊢
        obtain ⟨he, hm, hr, hg⟩ := hP
        refine ⟨_, (r_lt (r_loc rfl rfl) (r_len (r_fld (r_loc rfl rfl) gg_Outlines_isGone) ga_Outlines_isGone) (by first | omega | assumption | exact r_zrg _ | exact hS.1 _ | exact hS.2 _ _ | exact stg_b hS _ _ | exact r_irg (by first | assumption | omega | exact hS.1 _ | exact hS.2 _ _ | exact stg_b hS _ _) (by first | assumption | omega | exact hS.1 _ | exact hS.2 _ _) | exact hr _ | exact hSg | exact ⟨by omega, by assumption⟩ | exact hclo | exact hEk) (by first | omega | assumption | exact r_zrg _ | exact hS.1 _ | exact hS.2 _ _ | exact stg_b hS _ _ | exact r_irg (by first | assumption | omega | exact hS.1 _ | exact hS.2 _ _ | exact stg_b hS _ _) (by first | assumption | omega | exact hS.1 _ | exact hS.2 _ _) | exact hr _ | exact hSg | exact ⟨by omega, by assumption⟩ | exact hclo | exact hEk)), fun hp3 => ?_, fun hp4 => ?_⟩
        ·
          have he676 : e = 676 := by omega
          refine r_k0 ?_
          refine r_sret (r_loc rfl rfl) ?_
          refine r_pret (q_fit_int _) r_le0 ?_
          exact ⟨_, rfl, g, congrArg iv (by rw [hm, he676]; rfl), rfl, hr⟩
        ·
          have hSg : r_ok (q_sA S 8 g) := r_okA hS hr
          have hclo : ∀ f, 0 ≤ f → f < 676 → ¬ g f = 0 → EGE (S.2.1 0) z f ∧ ¬ g (scE (S.2.1 0) z f) = 0 := fun f f0 f1 q => by
            obtain ⟨v, v1, v2, v3⟩ := (hg f f0 f1).mp q
            have hf := RO_E v2 v3
            have hs := (scE_e hf).1
            exact ⟨hf, (hg _ hs.1.1 hs.1.2).mpr ⟨v, v1, v2, RO_n v3⟩⟩
          refine r_sif (r_and (r_not (r_z_ne (r_aget ga_Outlines_isGone (r_fld (r_loc rfl rfl) gg_Outlines_isGone) (r_loc rfl rfl) (by first | omega | assumption | exact r_zrg _ | exact hS.1 _ | exact hS.2 _ _ | exact stg_b hS _ _ | exact r_irg (by first | assumption | omega | exact hS.1 _ | exact hS.2 _ _ | exact stg_b hS _ _) (by first | assumption | omega | exact hS.1 _ | exact hS.2 _ _) | exact hr _ | exact hSg | exact ⟨by omega, by assumption⟩ | exact hclo | exact hEk) (by first | omega | assumption | exact r_zrg _ | exact hS.1 _ | exact hS.2 _ _ | exact stg_b hS _ _ | exact r_irg (by first | assumption | omega | exact hS.1 _ | exact hS.2 _ _ | exact stg_b hS _ _) (by first | assumption | omega | exact hS.1 _ | exact hS.2 _ _) | exact hr _ | exact hSg | exact ⟨by omega, by assumption⟩ | exact hclo | exact hEk) (by decide)) (by first | omega | assumption | exact r_zrg _ | exact hS.1 _ | exact hS.2 _ _ | exact stg_b hS _ _ | exact r_irg (by first | assumption | omega | exact hS.1 _ | exact hS.2 _ _ | exact stg_b hS _ _) (by first | assumption | omega | exact hS.1 _ | exact hS.2 _ _) | exact hr _ | exact hSg | exact ⟨by omega, by assumption⟩ | exact hclo | exact hEk))) (fun hp5 => (r_bz (r_call (r_cons (r_loc rfl rfl) (r_cons (r_call (r_cons (r_loc rfl rfl) r_nil) rfl (sp_X5_cornerX (by first | omega | assumption | exact r_zrg _ | exact hS.1 _ | exact hS.2 _ _ | exact stg_b hS _ _ | exact r_irg (by first | assumption | omega | exact hS.1 _ | exact hS.2 _ _ | exact stg_b hS _ _) (by first | assumption | omega | exact hS.1 _ | exact hS.2 _ _) | exact hr _ | exact hSg | exact ⟨by omega, by assumption⟩ | exact hclo | exact hEk)) rfl) (r_cons (r_call (r_cons (r_loc rfl rfl) r_nil) rfl (sp_X5_cornerY (by first | omega | assumption | exact r_zrg _ | exact hS.1 _ | exact hS.2 _ _ | exact stg_b hS _ _ | exact r_irg (by first | assumption | omega | exact hS.1 _ | exact hS.2 _ _ | exact stg_b hS _ _) (by first | assumption | omega | exact hS.1 _ | exact hS.2 _ _) | exact hr _ | exact hSg | exact ⟨by omega, by assumption⟩ | exact hclo | exact hEk)) rfl) (r_cons (r_call (r_cons (r_loc rfl rfl) r_nil) rfl (sp_X5_wayOf (by first | omega | assumption | exact r_zrg _ | exact hS.1 _ | exact hS.2 _ _ | exact stg_b hS _ _ | exact r_irg (by first | assumption | omega | exact hS.1 _ | exact hS.2 _ _ | exact stg_b hS _ _) (by first | assumption | omega | exact hS.1 _ | exact hS.2 _ _) | exact hr _ | exact hSg | exact ⟨by omega, by assumption⟩ | exact hclo | exact hEk)) rfl) (r_cons (r_loc rfl rfl) r_nil))))) rfl (sp_X5_isEdge (by first | omega | assumption | exact r_zrg _ | exact hS.1 _ | exact hS.2 _ _ | exact stg_b hS _ _ | exact r_irg (by first | assumption | omega | exact hS.1 _ | exact hS.2 _ _ | exact stg_b hS _ _) (by first | assumption | omega | exact hS.1 _ | exact hS.2 _ _) | exact hr _ | exact hSg | exact ⟨by omega, by assumption⟩ | exact hclo | exact hEk) (by first | omega | assumption | exact r_zrg _ | exact hS.1 _ | exact hS.2 _ _ | exact stg_b hS _ _ | exact r_irg (by first | assumption | omega | exact hS.1 _ | exact hS.2 _ _ | exact stg_b hS _ _) (by first | assumption | omega | exact hS.1 _ | exact hS.2 _ _) | exact hr _ | exact hSg | exact ⟨by omega, by assumption⟩ | exact hclo | exact hEk) (by first | omega | assumption | exact r_zrg _ | exact hS.1 _ | exact hS.2 _ _ | exact stg_b hS _ _ | exact r_irg (by first | assumption | omega | exact hS.1 _ | exact hS.2 _ _ | exact stg_b hS _ _) (by first | assumption | omega | exact hS.1 _ | exact hS.2 _ _) | exact hr _ | exact hSg | exact ⟨by omega, by assumption⟩ | exact hclo | exact hEk) (by first | omega | assumption | exact r_zrg _ | exact hS.1 _ | exact hS.2 _ _ | exact stg_b hS _ _ | exact r_irg (by first | assumption | omega | exact hS.1 _ | exact hS.2 _ _ | exact stg_b hS _ _) (by first | assumption | omega | exact hS.1 _ | exact hS.2 _ _) | exact hr _ | exact hSg | exact ⟨by omega, by assumption⟩ | exact hclo | exact hEk) (by first | omega | assumption | exact r_zrg _ | exact hS.1 _ | exact hS.2 _ _ | exact stg_b hS _ _ | exact r_irg (by first | assumption | omega | exact hS.1 _ | exact hS.2 _ _ | exact stg_b hS _ _) (by first | assumption | omega | exact hS.1 _ | exact hS.2 _ _) | exact hr _ | exact hSg | exact ⟨by omega, by assumption⟩ | exact hclo | exact hEk)) rfl)))) (fun hp6 => ?_) (fun hp7 => ?_)
          ·
            have hpT := hp6
            have hpT0 := hp6
            have hEk : EGE (S.2.1 0) z e := ⟨by omega, hpT0.2⟩
            refine r_seq ?_
            refine r_call0 (r_cons (r_loc rfl rfl) (r_cons (r_loc rfl rfl) (r_cons (r_loc rfl rfl) r_nil))) rfl (sp_X5_goRound (by first | omega | assumption | exact r_zrg _ | exact hS.1 _ | exact hS.2 _ _ | exact stg_b hS _ _ | exact r_irg (by first | assumption | omega | exact hS.1 _ | exact hS.2 _ _ | exact stg_b hS _ _) (by first | assumption | omega | exact hS.1 _ | exact hS.2 _ _) | exact hr _ | exact hSg | exact ⟨by omega, by assumption⟩ | exact hclo | exact hEk) (by first | omega | assumption | exact r_zrg _ | exact hS.1 _ | exact hS.2 _ _ | exact stg_b hS _ _ | exact r_irg (by first | assumption | omega | exact hS.1 _ | exact hS.2 _ _ | exact stg_b hS _ _) (by first | assumption | omega | exact hS.1 _ | exact hS.2 _ _) | exact hr _ | exact hSg | exact ⟨by omega, by assumption⟩ | exact hclo | exact hEk) (by first | omega | assumption | exact r_zrg _ | exact hS.1 _ | exact hS.2 _ _ | exact stg_b hS _ _ | exact r_irg (by first | assumption | omega | exact hS.1 _ | exact hS.2 _ _ | exact stg_b hS _ _) (by first | assumption | omega | exact hS.1 _ | exact hS.2 _ _) | exact hr _ | exact hSg | exact ⟨by omega, by assumption⟩ | exact hclo | exact hEk) (by first | omega | assumption | exact r_zrg _ | exact hS.1 _ | exact hS.2 _ _ | exact stg_b hS _ _ | exact r_irg (by first | assumption | omega | exact hS.1 _ | exact hS.2 _ _ | exact stg_b hS _ _) (by first | assumption | omega | exact hS.1 _ | exact hS.2 _ _) | exact hr _ | exact hSg | exact ⟨by omega, by assumption⟩ | exact hclo | exact hEk)) ?_
            rintro _ _ ⟨g1, rfl, hr1, hg1⟩
            refine r_k0 ?_
            refine r_sinc (L2 := [_, _, _, _]) rfl rfl ?_
            refine r_l0 ?_
            refine r_sinc (L2 := [_, _, _, _]) rfl rfl ?_
            refine r_lend (e + 1, m + 1, g1) rfl (by first | rfl | (rw [q_sAA])) ?_ (by first | omega | (dsimp only; omega))
            try dsimp only
            have hE : EGE (S.2.1 0) z e := ⟨by omega, hpT0.2⟩
            have hgn : g e = 0 := Classical.byContradiction (fun q => hpT0.1 q)
            refine ⟨by omega, by rw [hm, cnt_t he.1 ⟨hE, fun f f0 f1 hf hr => ((hg e he.1 (by omega)).mpr ⟨f, by omega, hf, hr⟩) hgn⟩], hr1, fun f f0 f1 => (hg1 f f0 f1).trans ⟨fun q => q.elim (fun q => ?_) (fun q => ⟨e, by omega, hE, q⟩), fun ⟨v, v1, v2, v3⟩ => ?_⟩⟩
            · obtain ⟨v, v1, v2⟩ := (hg f f0 f1).mp q
              exact ⟨v, by omega, v2⟩
            · by_cases d : v = e
              · rw [d] at v3; exact Or.inr v3
              · exact Or.inl ((hg f f0 f1).mpr ⟨v, by omega, v2, v3⟩)
          ·
            have hpF := hp7
            have hpF0 := hp7
            refine wS_skip ?_
            refine r_l0 ?_
            refine r_sinc (L2 := [_, _, _, _]) rfl rfl ?_
            refine r_lend (e + 1, m, g) rfl (by first | rfl | (rw [q_sAA])) ?_ (by first | omega | (dsimp only; omega))
            try dsimp only
            have hd : EGE (S.2.1 0) z e → ∃ v, (0 ≤ v ∧ v < e) ∧ EGE (S.2.1 0) z v ∧ RO (S.2.1 0) z v e := fun q => (hg e he.1 (by omega)).mp (fun q2 => hpF0 ⟨fun q3 => q3 q2, q.2⟩)
            refine ⟨by omega, by rw [hm, cnt_f he.1 (fun q => by
              obtain ⟨v, v1, v2, v3⟩ := hd q.1
              exact q.2 v v1.1 v1.2 v2 v3)], hr, fun f f0 f1 => (hg f f0 f1).trans ⟨fun ⟨v, v1, v2⟩ => ⟨v, by omega, v2⟩, fun ⟨v, v1, v2, v3⟩ => ?_⟩⟩
            by_cases d : v = e
            · rw [d] at v2 v3
              obtain ⟨u, u1, u2, u3⟩ := hd v2
              exact ⟨u, u1, u2, RO_t u3 v3⟩
            · exact ⟨v, by omega, v2, v3⟩
    ·
      refine r_sput3 (r_fld (r_loc rfl rfl) gg_Outlines_isGone) (r_loc rfl rfl) (r_lit ql_0) (r_putI ga_Outlines_isGone gs_Outlines_isGone (by first | omega | assumption | exact r_zrg _ | exact hS.1 _ | exact hS.2 _ _ | exact stg_b hS _ _ | exact r_irg (by first | assumption | omega | exact hS.1 _ | exact hS.2 _ _ | exact stg_b hS _ _) (by first | assumption | omega | exact hS.1 _ | exact hS.2 _ _) | exact hr _ | exact hSg | exact ⟨by omega, by assumption⟩ | exact hclo | exact hEk) (by first | omega | assumption | exact r_zrg _ | exact hS.1 _ | exact hS.2 _ _ | exact stg_b hS _ _ | exact r_irg (by first | assumption | omega | exact hS.1 _ | exact hS.2 _ _ | exact stg_b hS _ _) (by first | assumption | omega | exact hS.1 _ | exact hS.2 _ _) | exact hr _ | exact hSg | exact ⟨by omega, by assumption⟩ | exact hclo | exact hEk) (by decide) (q_narZ (by first | omega | assumption | exact r_zrg _ | exact hS.1 _ | exact hS.2 _ _ | exact stg_b hS _ _ | exact r_irg (by first | assumption | omega | exact hS.1 _ | exact hS.2 _ _ | exact stg_b hS _ _) (by first | assumption | omega | exact hS.1 _ | exact hS.2 _ _) | exact hr _ | exact hSg | exact ⟨by omega, by assumption⟩ | exact hclo | exact hEk) (by first | omega | assumption | exact r_zrg _ | exact hS.1 _ | exact hS.2 _ _ | exact stg_b hS _ _ | exact r_irg (by first | assumption | omega | exact hS.1 _ | exact hS.2 _ _ | exact stg_b hS _ _) (by first | assumption | omega | exact hS.1 _ | exact hS.2 _ _) | exact hr _ | exact hSg | exact ⟨by omega, by assumption⟩ | exact hclo | exact hEk))) ?_
      refine r_l0 ?_
      refine r_sinc (L2 := [_, _, _, _]) rfl rfl ?_
      refine r_lend (k + 1, q_up g k 0, _) rfl (by rw [q_sAA]; rfl) ?_ (by first | omega | (dsimp only; omega))
      try dsimp only
      refine ⟨by omega, fun j j0 j1 => ?_, r_oku hr (by omega)⟩
      unfold q_up
      by_cases e : j = k
      · rw [if_pos e]
      · rw [if_neg e]; exact hz0 j j0 (by omega)
