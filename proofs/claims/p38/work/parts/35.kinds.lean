theorem sp_X3_wallAt {S : q_Sg} {c w : Nat} (hS : r_ok S) {x y : Int} (hx : rg x) (hy : rg y) : r_F f_X3_wallAt [.ref 22, iv x, iv y] (q_en S, c, w) (iv (wat (S.2.1 5) x y)) := by
  refine r_Fof (r_run (L := [_, _, _]) ⟨rfl, Nat.le_of_ble_eq_true rfl⟩ rfl ?_)
  unfold b_X3_wallAt
  refine r_sret (r_if (r_bz (r_call (r_cons (r_loc rfl rfl) (r_cons (r_loc rfl rfl) (r_cons (r_lit ql_0) r_nil))) rfl (sp_X9_isCell (by first | omega | assumption | exact r_zrg _ | exact hS.1 _ | exact hS.2 _ _ | exact stg_b hS _ _ | exact r_irg (by first | assumption | omega | exact hS.1 _ | exact hS.2 _ _ | exact stg_b hS _ _) (by first | assumption | omega | exact hS.1 _ | exact hS.2 _ _)) (by first | omega | assumption | exact r_zrg _ | exact hS.1 _ | exact hS.2 _ _ | exact stg_b hS _ _ | exact r_irg (by first | assumption | omega | exact hS.1 _ | exact hS.2 _ _ | exact stg_b hS _ _) (by first | assumption | omega | exact hS.1 _ | exact hS.2 _ _)) (by first | omega | assumption | exact r_zrg _ | exact hS.1 _ | exact hS.2 _ _ | exact stg_b hS _ _ | exact r_irg (by first | assumption | omega | exact hS.1 _ | exact hS.2 _ _ | exact stg_b hS _ _) (by first | assumption | omega | exact hS.1 _ | exact hS.2 _ _))) rfl)) (fun hp1 => (r_aget ga_Kinds_wall (r_fld (r_loc rfl rfl) gg_Kinds_wall) (r_call (r_cons (r_loc rfl rfl) (r_cons (r_loc rfl rfl) (r_cons (r_lit ql_0) r_nil))) rfl sp_X9_indexOf rfl) (by first | omega | assumption | exact r_zrg _ | exact hS.1 _ | exact hS.2 _ _ | exact stg_b hS _ _ | exact r_irg (by first | assumption | omega | exact hS.1 _ | exact hS.2 _ _ | exact stg_b hS _ _) (by first | assumption | omega | exact hS.1 _ | exact hS.2 _ _)) (by first | omega | assumption | exact r_zrg _ | exact hS.1 _ | exact hS.2 _ _ | exact stg_b hS _ _ | exact r_irg (by first | assumption | omega | exact hS.1 _ | exact hS.2 _ _ | exact stg_b hS _ _) (by first | assumption | omega | exact hS.1 _ | exact hS.2 _ _)) (by decide))) (fun hp2 => (r_lit ql_0))) ?_
  refine r_pret (q_fit_int _) r_le0 ⟨congrArg Sum.inl ?_, rfl⟩
  refine congrArg iv ?_
  unfold wat; rcases r_id (inc x y 0) (S.2.1 5 (144 * 0 + 12 * y + x)) 0 with ⟨e, k⟩ | ⟨e, k⟩ <;> rw [e]
  · rw [r_i1 k, show 144 * 0 + 12 * y + x = 12 * y + x by omega]
  · rw [r_i0 k]
theorem wat_b {S : q_Sg} (hS : r_ok S) (x y : Int) : rg (wat (S.2.1 5) x y) := by unfold wat r_i; split; exact hS.2 _ _; omega
theorem sp_X3_touches {S : q_Sg} {c w : Nat} (hS : r_ok S) {x y z m : Int} (hx : 0 ≤ x ∧ x < 12) (hy : 0 ≤ y ∧ y < 12) (hz : 0 ≤ z ∧ z < 12) (hm : 0 ≤ m ∧ m ≤ 3) : r_F f_X3_touches [.ref 22, iv x, iv y, iv z, iv m] (q_en S, c, w) (r_b (TCH (S.2.1 0) (S.2.1 5) x y z m)) := by
  refine r_Fof (r_run (L := [_, _, _, _, _, _, _, _]) ⟨rfl, Nat.le_of_ble_eq_true rfl⟩ rfl ?_)
  unfold b_X3_touches
  refine r_seq ?_
  refine r_seq ?_
  refine r_sloc (L2 := [_, _, _, _, _, _, _, _]) (r_lit ql_0) rfl rfl ?_
  refine r_k0 ?_
  refine r_loop (T := Int × Option Value × Option Value) (fun (σ : Int × Option Value × Option Value) => match σ with | (k, o, o2) => (0 ≤ k ∧ k ≤ 4) ∧ ∀ j, 0 ≤ j → j < k → ¬ ((m = 0 → ¬ SOL (S.2.1 0) (x + r_t1 j) (y + r_t2 j) z) ∧ (¬ m = 0 → wat (S.2.1 5) (x + r_t1 j) (y + r_t2 j) = m))) (fun (σ : Int × Option Value × Option Value) => match σ with | (k, o, o2) => (4 - k).toNat) (fun (σ : Int × Option Value × Option Value) => match σ with | (k, o, o2) => [some (.ref 22), some (iv x), some (iv y), some (iv z), some (iv m), some (iv k), o, o2]) (fun (σ : Int × Option Value × Option Value) => match σ with | (k, o, o2) => (q_en S, c, w)) (0, _, _) rfl rfl ?_ ?_ ?_
  · exact ⟨by omega, fun j h0 h1 => by omega⟩
  · (show _ < 1000000); first | omega | (dsimp only; omega)
  · rintro ⟨k, o, o2⟩ hP
    try dsimp only at hP ⊢
    obtain ⟨hk, hP⟩ := hP
    refine ⟨_, (r_lt (r_loc rfl rfl) (r_lit ql_4) (by first | omega | assumption | exact r_zrg _ | exact hS.1 _ | exact hS.2 _ _ | exact stg_b hS _ _ | exact r_irg (by first | assumption | omega | exact hS.1 _ | exact hS.2 _ _ | exact stg_b hS _ _) (by first | assumption | omega | exact hS.1 _ | exact hS.2 _ _) | exact wat_b hS _ _) (by first | omega | assumption | exact r_zrg _ | exact hS.1 _ | exact hS.2 _ _ | exact stg_b hS _ _ | exact r_irg (by first | assumption | omega | exact hS.1 _ | exact hS.2 _ _ | exact stg_b hS _ _) (by first | assumption | omega | exact hS.1 _ | exact hS.2 _ _) | exact wat_b hS _ _)), fun hp1 => ?_, fun hp2 => ?_⟩
    ·
      refine r_k0 ?_
      refine r_sret (r_lit ql_0) ?_
      refine r_pret r_fit0 r_le0 ⟨congrArg Sum.inl ?_, rfl⟩
      refine r_b0 ?_
      rintro ⟨j, hj, k1, k2⟩; exact hP j hj.1 (by omega) ⟨k1, k2⟩
    ·
      have ht1 := r_t1b k; have ht2 := r_t2b k
      refine r_seq ?_
      refine r_sloc (L2 := [_, _, _, _, _, _, _, _]) (r_add (r_loc rfl rfl) (r_ro1 r_litr (r_loc rfl rfl) (by first | omega | assumption | exact r_zrg _ | exact hS.1 _ | exact hS.2 _ _ | exact stg_b hS _ _ | exact r_irg (by first | assumption | omega | exact hS.1 _ | exact hS.2 _ _ | exact stg_b hS _ _) (by first | assumption | omega | exact hS.1 _ | exact hS.2 _ _) | exact wat_b hS _ _) (by first | omega | assumption | exact r_zrg _ | exact hS.1 _ | exact hS.2 _ _ | exact stg_b hS _ _ | exact r_irg (by first | assumption | omega | exact hS.1 _ | exact hS.2 _ _ | exact stg_b hS _ _) (by first | assumption | omega | exact hS.1 _ | exact hS.2 _ _) | exact wat_b hS _ _))) rfl rfl ?_
      refine r_k0 ?_
      refine r_seq ?_
      refine r_sloc (L2 := [_, _, _, _, _, _, _, _]) (r_add (r_loc rfl rfl) (r_ro2 r_litr (r_loc rfl rfl) (by first | omega | assumption | exact r_zrg _ | exact hS.1 _ | exact hS.2 _ _ | exact stg_b hS _ _ | exact r_irg (by first | assumption | omega | exact hS.1 _ | exact hS.2 _ _ | exact stg_b hS _ _) (by first | assumption | omega | exact hS.1 _ | exact hS.2 _ _) | exact wat_b hS _ _) (by first | omega | assumption | exact r_zrg _ | exact hS.1 _ | exact hS.2 _ _ | exact stg_b hS _ _ | exact r_irg (by first | assumption | omega | exact hS.1 _ | exact hS.2 _ _ | exact stg_b hS _ _) (by first | assumption | omega | exact hS.1 _ | exact hS.2 _ _) | exact wat_b hS _ _))) rfl rfl ?_
      refine r_k0 ?_
      refine r_sif (r_cif (r_z_eq (r_loc rfl rfl) (by first | omega | assumption | exact r_zrg _ | exact hS.1 _ | exact hS.2 _ _ | exact stg_b hS _ _ | exact r_irg (by first | assumption | omega | exact hS.1 _ | exact hS.2 _ _ | exact stg_b hS _ _) (by first | assumption | omega | exact hS.1 _ | exact hS.2 _ _) | exact wat_b hS _ _)) (fun hp3 => (r_not (r_bz (r_call (r_cons (r_fld (r_loc rfl rfl) gg_Kinds_body) (r_cons (r_loc rfl rfl) (r_cons (r_loc rfl rfl) (r_cons (r_loc rfl rfl) r_nil)))) rfl (sp_X0_isSolid (by first | omega | assumption | exact r_zrg _ | exact hS.1 _ | exact hS.2 _ _ | exact stg_b hS _ _ | exact r_irg (by first | assumption | omega | exact hS.1 _ | exact hS.2 _ _ | exact stg_b hS _ _) (by first | assumption | omega | exact hS.1 _ | exact hS.2 _ _) | exact wat_b hS _ _) (by first | omega | assumption | exact r_zrg _ | exact hS.1 _ | exact hS.2 _ _ | exact stg_b hS _ _ | exact r_irg (by first | assumption | omega | exact hS.1 _ | exact hS.2 _ _ | exact stg_b hS _ _) (by first | assumption | omega | exact hS.1 _ | exact hS.2 _ _) | exact wat_b hS _ _) (by first | omega | assumption | exact r_zrg _ | exact hS.1 _ | exact hS.2 _ _ | exact stg_b hS _ _ | exact r_irg (by first | assumption | omega | exact hS.1 _ | exact hS.2 _ _ | exact stg_b hS _ _) (by first | assumption | omega | exact hS.1 _ | exact hS.2 _ _) | exact wat_b hS _ _) (by first | omega | assumption | exact r_zrg _ | exact hS.1 _ | exact hS.2 _ _ | exact stg_b hS _ _ | exact r_irg (by first | assumption | omega | exact hS.1 _ | exact hS.2 _ _ | exact stg_b hS _ _) (by first | assumption | omega | exact hS.1 _ | exact hS.2 _ _) | exact wat_b hS _ _)) rfl)))) (fun hp4 => (r_eq (r_call (r_cons (r_loc rfl rfl) (r_cons (r_loc rfl rfl) (r_cons (r_loc rfl rfl) r_nil))) rfl (sp_X3_wallAt (by first | omega | assumption | exact r_zrg _ | exact hS.1 _ | exact hS.2 _ _ | exact stg_b hS _ _ | exact r_irg (by first | assumption | omega | exact hS.1 _ | exact hS.2 _ _ | exact stg_b hS _ _) (by first | assumption | omega | exact hS.1 _ | exact hS.2 _ _) | exact wat_b hS _ _) (by first | omega | assumption | exact r_zrg _ | exact hS.1 _ | exact hS.2 _ _ | exact stg_b hS _ _ | exact r_irg (by first | assumption | omega | exact hS.1 _ | exact hS.2 _ _ | exact stg_b hS _ _) (by first | assumption | omega | exact hS.1 _ | exact hS.2 _ _) | exact wat_b hS _ _) (by first | omega | assumption | exact r_zrg _ | exact hS.1 _ | exact hS.2 _ _ | exact stg_b hS _ _ | exact r_irg (by first | assumption | omega | exact hS.1 _ | exact hS.2 _ _ | exact stg_b hS _ _) (by first | assumption | omega | exact hS.1 _ | exact hS.2 _ _) | exact wat_b hS _ _)) rfl) (r_loc rfl rfl) (by first | omega | assumption | exact r_zrg _ | exact hS.1 _ | exact hS.2 _ _ | exact stg_b hS _ _ | exact r_irg (by first | assumption | omega | exact hS.1 _ | exact hS.2 _ _ | exact stg_b hS _ _) (by first | assumption | omega | exact hS.1 _ | exact hS.2 _ _) | exact wat_b hS _ _) (by first | omega | assumption | exact r_zrg _ | exact hS.1 _ | exact hS.2 _ _ | exact stg_b hS _ _ | exact r_irg (by first | assumption | omega | exact hS.1 _ | exact hS.2 _ _ | exact stg_b hS _ _) (by first | assumption | omega | exact hS.1 _ | exact hS.2 _ _) | exact wat_b hS _ _)))) (fun hp5 => ?_) (fun hp6 => ?_)
      ·
        refine r_sret (r_lit ql_1) ?_
        refine r_l3 (j := 1) ?_
        refine r_ks (j := 3) ?_
        refine r_pret r_fit1 r_le0 ⟨congrArg Sum.inl ?_, rfl⟩
        refine r_b1 ?_
        exact ⟨k, by omega, by assumption⟩
      ·
        refine wS_skip ?_
        refine r_l0 ?_
        refine r_sinc (L2 := [_, _, _, _, _, _, _, _]) rfl rfl ?_
        refine r_lend (k + 1, _, _) rfl rfl ?_ (by first | omega | (dsimp only; omega))
        try dsimp only
        refine ⟨by omega, fun j h0 h1 => ?_⟩
        by_cases hj : j = k
        · rw [hj]; assumption
        · exact hP j h0 (by omega)
theorem sp_X3_solidKind {S : q_Sg} {c w : Nat} (hS : r_ok S) (hK : SOK S.1 0) {x y z : Int} (hx : 0 ≤ x ∧ x < 12) (hy : 0 ≤ y ∧ y < 12) (hz : 0 ≤ z ∧ z < 12) (hw : isW (S.2.1 0) x y z (S.1 0) (S.2.1 5 (12 * y + x))) (hs : SOL (S.2.1 0) x y z) : r_F f_X3_solidKind [.ref 22, iv x, iv y, iv z] (q_en S, c, w) (iv (KSO (S.2.1 0) S.1 0 x y z)) := by
  refine r_Fof (r_run (L := [_, _, _, _]) ⟨rfl, Nat.le_of_ble_eq_true rfl⟩ rfl ?_)
  unfold b_X3_solidKind
  obtain ⟨k0, k1, k2, k3, k4, k5⟩ := hK
  simp only [Nat.reduceAdd] at k1 k2 k3 k4 k5
  have hv : wat (S.2.1 5) x y = S.2.1 5 (12 * y + x) := r_i1 (by omega)
  have hd : 0 < wat (S.2.1 5) x y ↔ DST (S.2.1 0) x y z (S.1 0) := by
    rw [hv]
    rcases hw with ⟨e, c | c⟩ | ⟨e, _, c, _⟩
    · exact absurd hs c
    · exact ⟨fun d => by omega, fun d => absurd d c⟩
    · exact ⟨fun _ => DST_m e.2 c, fun _ => by omega⟩
  refine r_seq ?_
  refine r_sif (r_z_gt (r_call (r_cons (r_loc rfl rfl) (r_cons (r_loc rfl rfl) (r_cons (r_loc rfl rfl) r_nil))) rfl (sp_X3_wallAt (by first | omega | assumption | exact r_zrg _ | exact hS.1 _ | exact hS.2 _ _ | exact stg_b hS _ _ | exact r_irg (by first | assumption | omega | exact hS.1 _ | exact hS.2 _ _ | exact stg_b hS _ _) (by first | assumption | omega | exact hS.1 _ | exact hS.2 _ _) | exact wat_b hS _ _ | (unfold r_i; (repeat' split) <;> omega)) (by first | omega | assumption | exact r_zrg _ | exact hS.1 _ | exact hS.2 _ _ | exact stg_b hS _ _ | exact r_irg (by first | assumption | omega | exact hS.1 _ | exact hS.2 _ _ | exact stg_b hS _ _) (by first | assumption | omega | exact hS.1 _ | exact hS.2 _ _) | exact wat_b hS _ _ | (unfold r_i; (repeat' split) <;> omega)) (by first | omega | assumption | exact r_zrg _ | exact hS.1 _ | exact hS.2 _ _ | exact stg_b hS _ _ | exact r_irg (by first | assumption | omega | exact hS.1 _ | exact hS.2 _ _ | exact stg_b hS _ _) (by first | assumption | omega | exact hS.1 _ | exact hS.2 _ _) | exact wat_b hS _ _ | (unfold r_i; (repeat' split) <;> omega))) rfl) (by first | omega | assumption | exact r_zrg _ | exact hS.1 _ | exact hS.2 _ _ | exact stg_b hS _ _ | exact r_irg (by first | assumption | omega | exact hS.1 _ | exact hS.2 _ _ | exact stg_b hS _ _) (by first | assumption | omega | exact hS.1 _ | exact hS.2 _ _) | exact wat_b hS _ _ | (unfold r_i; (repeat' split) <;> omega))) (fun hp1 => ?_) (fun hp2 => ?_)
  ·
    refine r_sret (r_lit ql_119) ?_
    refine r_ks (j := 3) ?_
    refine r_pret (q_fit_char (by first | omega | assumption | exact r_zrg _ | exact hS.1 _ | exact hS.2 _ _ | exact stg_b hS _ _ | exact r_irg (by first | assumption | omega | exact hS.1 _ | exact hS.2 _ _ | exact stg_b hS _ _) (by first | assumption | omega | exact hS.1 _ | exact hS.2 _ _) | exact wat_b hS _ _ | (unfold r_i; (repeat' split) <;> omega)) (by first | omega | assumption | exact r_zrg _ | exact hS.1 _ | exact hS.2 _ _ | exact stg_b hS _ _ | exact r_irg (by first | assumption | omega | exact hS.1 _ | exact hS.2 _ _ | exact stg_b hS _ _) (by first | assumption | omega | exact hS.1 _ | exact hS.2 _ _) | exact wat_b hS _ _ | (unfold r_i; (repeat' split) <;> omega))) r_le0 ⟨congrArg Sum.inl ?_, rfl⟩
    refine congrArg iv ?_
    exact (r_i1 (hd.mp (by assumption))).symm
  ·
    refine wS_skip ?_
    refine r_k0 ?_
    refine r_seq ?_
    refine r_sif (r_bz (r_call (r_cons (r_fld (r_loc rfl rfl) gg_Kinds_body) (r_cons (r_loc rfl rfl) (r_cons (r_loc rfl rfl) (r_cons (r_loc rfl rfl) (r_cons (r_lit ql_m1) (r_cons (r_call (r_cons (r_fld (r_loc rfl rfl) gg_Kinds_settings) r_nil) rfl sp_X7_skinCount rfl) r_nil)))))) rfl (sp_X0_isOpen (by first | omega | assumption | exact r_zrg _ | exact hS.1 _ | exact hS.2 _ _ | exact stg_b hS _ _ | exact r_irg (by first | assumption | omega | exact hS.1 _ | exact hS.2 _ _ | exact stg_b hS _ _) (by first | assumption | omega | exact hS.1 _ | exact hS.2 _ _) | exact wat_b hS _ _ | (unfold r_i; (repeat' split) <;> omega)) (by first | omega | assumption | exact r_zrg _ | exact hS.1 _ | exact hS.2 _ _ | exact stg_b hS _ _ | exact r_irg (by first | assumption | omega | exact hS.1 _ | exact hS.2 _ _ | exact stg_b hS _ _) (by first | assumption | omega | exact hS.1 _ | exact hS.2 _ _) | exact wat_b hS _ _ | (unfold r_i; (repeat' split) <;> omega)) (by first | omega | assumption | exact r_zrg _ | exact hS.1 _ | exact hS.2 _ _ | exact stg_b hS _ _ | exact r_irg (by first | assumption | omega | exact hS.1 _ | exact hS.2 _ _ | exact stg_b hS _ _) (by first | assumption | omega | exact hS.1 _ | exact hS.2 _ _) | exact wat_b hS _ _ | (unfold r_i; (repeat' split) <;> omega)) (by first | omega | assumption | exact r_zrg _ | exact hS.1 _ | exact hS.2 _ _ | exact stg_b hS _ _ | exact r_irg (by first | assumption | omega | exact hS.1 _ | exact hS.2 _ _ | exact stg_b hS _ _) (by first | assumption | omega | exact hS.1 _ | exact hS.2 _ _) | exact wat_b hS _ _ | (unfold r_i; (repeat' split) <;> omega)) (by first | omega | assumption | exact r_zrg _ | exact hS.1 _ | exact hS.2 _ _ | exact stg_b hS _ _ | exact r_irg (by first | assumption | omega | exact hS.1 _ | exact hS.2 _ _ | exact stg_b hS _ _) (by first | assumption | omega | exact hS.1 _ | exact hS.2 _ _) | exact wat_b hS _ _ | (unfold r_i; (repeat' split) <;> omega)) (by first | omega | assumption | exact r_zrg _ | exact hS.1 _ | exact hS.2 _ _ | exact stg_b hS _ _ | exact r_irg (by first | assumption | omega | exact hS.1 _ | exact hS.2 _ _ | exact stg_b hS _ _) (by first | assumption | omega | exact hS.1 _ | exact hS.2 _ _) | exact wat_b hS _ _ | (unfold r_i; (repeat' split) <;> omega))) rfl)) (fun hp3 => ?_) (fun hp4 => ?_)
    ·
      refine r_sret (r_lit ql_98) ?_
      refine r_ks (j := 3) ?_
      refine r_pret (q_fit_char (by first | omega | assumption | exact r_zrg _ | exact hS.1 _ | exact hS.2 _ _ | exact stg_b hS _ _ | exact r_irg (by first | assumption | omega | exact hS.1 _ | exact hS.2 _ _ | exact stg_b hS _ _) (by first | assumption | omega | exact hS.1 _ | exact hS.2 _ _) | exact wat_b hS _ _ | (unfold r_i; (repeat' split) <;> omega)) (by first | omega | assumption | exact r_zrg _ | exact hS.1 _ | exact hS.2 _ _ | exact stg_b hS _ _ | exact r_irg (by first | assumption | omega | exact hS.1 _ | exact hS.2 _ _ | exact stg_b hS _ _) (by first | assumption | omega | exact hS.1 _ | exact hS.2 _ _) | exact wat_b hS _ _ | (unfold r_i; (repeat' split) <;> omega))) r_le0 ⟨congrArg Sum.inl ?_, rfl⟩
      refine congrArg iv ?_
      exact ((r_i0 (fun d => (by assumption : ¬ 0 < wat (S.2.1 5) x y) (hd.mpr d))).trans (r_i1 (by assumption))).symm
    ·
      refine wS_skip ?_
      refine r_k0 ?_
      refine r_seq ?_
      refine r_sif (r_bz (r_call (r_cons (r_fld (r_loc rfl rfl) gg_Kinds_body) (r_cons (r_loc rfl rfl) (r_cons (r_loc rfl rfl) (r_cons (r_loc rfl rfl) (r_cons (r_lit ql_1) (r_cons (r_call (r_cons (r_fld (r_loc rfl rfl) gg_Kinds_settings) r_nil) rfl sp_X7_skinCount rfl) r_nil)))))) rfl (sp_X0_isOpen (by first | omega | assumption | exact r_zrg _ | exact hS.1 _ | exact hS.2 _ _ | exact stg_b hS _ _ | exact r_irg (by first | assumption | omega | exact hS.1 _ | exact hS.2 _ _ | exact stg_b hS _ _) (by first | assumption | omega | exact hS.1 _ | exact hS.2 _ _) | exact wat_b hS _ _ | (unfold r_i; (repeat' split) <;> omega)) (by first | omega | assumption | exact r_zrg _ | exact hS.1 _ | exact hS.2 _ _ | exact stg_b hS _ _ | exact r_irg (by first | assumption | omega | exact hS.1 _ | exact hS.2 _ _ | exact stg_b hS _ _) (by first | assumption | omega | exact hS.1 _ | exact hS.2 _ _) | exact wat_b hS _ _ | (unfold r_i; (repeat' split) <;> omega)) (by first | omega | assumption | exact r_zrg _ | exact hS.1 _ | exact hS.2 _ _ | exact stg_b hS _ _ | exact r_irg (by first | assumption | omega | exact hS.1 _ | exact hS.2 _ _ | exact stg_b hS _ _) (by first | assumption | omega | exact hS.1 _ | exact hS.2 _ _) | exact wat_b hS _ _ | (unfold r_i; (repeat' split) <;> omega)) (by first | omega | assumption | exact r_zrg _ | exact hS.1 _ | exact hS.2 _ _ | exact stg_b hS _ _ | exact r_irg (by first | assumption | omega | exact hS.1 _ | exact hS.2 _ _ | exact stg_b hS _ _) (by first | assumption | omega | exact hS.1 _ | exact hS.2 _ _) | exact wat_b hS _ _ | (unfold r_i; (repeat' split) <;> omega)) (by first | omega | assumption | exact r_zrg _ | exact hS.1 _ | exact hS.2 _ _ | exact stg_b hS _ _ | exact r_irg (by first | assumption | omega | exact hS.1 _ | exact hS.2 _ _ | exact stg_b hS _ _) (by first | assumption | omega | exact hS.1 _ | exact hS.2 _ _) | exact wat_b hS _ _ | (unfold r_i; (repeat' split) <;> omega)) (by first | omega | assumption | exact r_zrg _ | exact hS.1 _ | exact hS.2 _ _ | exact stg_b hS _ _ | exact r_irg (by first | assumption | omega | exact hS.1 _ | exact hS.2 _ _ | exact stg_b hS _ _) (by first | assumption | omega | exact hS.1 _ | exact hS.2 _ _) | exact wat_b hS _ _ | (unfold r_i; (repeat' split) <;> omega))) rfl)) (fun hp5 => ?_) (fun hp6 => ?_)
      ·
        refine r_sret (r_lit ql_116) ?_
        refine r_ks (j := 3) ?_
        refine r_pret (q_fit_char (by first | omega | assumption | exact r_zrg _ | exact hS.1 _ | exact hS.2 _ _ | exact stg_b hS _ _ | exact r_irg (by first | assumption | omega | exact hS.1 _ | exact hS.2 _ _ | exact stg_b hS _ _) (by first | assumption | omega | exact hS.1 _ | exact hS.2 _ _) | exact wat_b hS _ _ | (unfold r_i; (repeat' split) <;> omega)) (by first | omega | assumption | exact r_zrg _ | exact hS.1 _ | exact hS.2 _ _ | exact stg_b hS _ _ | exact r_irg (by first | assumption | omega | exact hS.1 _ | exact hS.2 _ _ | exact stg_b hS _ _) (by first | assumption | omega | exact hS.1 _ | exact hS.2 _ _) | exact wat_b hS _ _ | (unfold r_i; (repeat' split) <;> omega))) r_le0 ⟨congrArg Sum.inl ?_, rfl⟩
        refine congrArg iv ?_
        exact ((r_i0 (fun d => (by assumption : ¬ 0 < wat (S.2.1 5) x y) (hd.mpr d))).trans ((r_i0 (by assumption)).trans (r_i1 (by assumption)))).symm
      ·
        refine wS_skip ?_
        refine r_k0 ?_
        refine r_sret (r_if (r_bz (r_call (r_cons (r_fld (r_loc rfl rfl) gg_Kinds_settings) (r_cons (r_loc rfl rfl) (r_cons (r_loc rfl rfl) (r_cons (r_loc rfl rfl) r_nil)))) rfl (sp_X7_fills (by first | omega | assumption | exact r_zrg _ | exact hS.1 _ | exact hS.2 _ _ | exact stg_b hS _ _ | exact r_irg (by first | assumption | omega | exact hS.1 _ | exact hS.2 _ _ | exact stg_b hS _ _) (by first | assumption | omega | exact hS.1 _ | exact hS.2 _ _) | exact wat_b hS _ _ | (unfold r_i; (repeat' split) <;> omega)) (by first | omega | assumption | exact r_zrg _ | exact hS.1 _ | exact hS.2 _ _ | exact stg_b hS _ _ | exact r_irg (by first | assumption | omega | exact hS.1 _ | exact hS.2 _ _ | exact stg_b hS _ _) (by first | assumption | omega | exact hS.1 _ | exact hS.2 _ _) | exact wat_b hS _ _ | (unfold r_i; (repeat' split) <;> omega)) (by first | omega | assumption | exact r_zrg _ | exact hS.1 _ | exact hS.2 _ _ | exact stg_b hS _ _ | exact r_irg (by first | assumption | omega | exact hS.1 _ | exact hS.2 _ _ | exact stg_b hS _ _) (by first | assumption | omega | exact hS.1 _ | exact hS.2 _ _) | exact wat_b hS _ _ | (unfold r_i; (repeat' split) <;> omega)) (by first | omega | assumption | exact r_zrg _ | exact hS.1 _ | exact hS.2 _ _ | exact stg_b hS _ _ | exact r_irg (by first | assumption | omega | exact hS.1 _ | exact hS.2 _ _ | exact stg_b hS _ _) (by first | assumption | omega | exact hS.1 _ | exact hS.2 _ _) | exact wat_b hS _ _ | (unfold r_i; (repeat' split) <;> omega)) (by first | omega | assumption | exact r_zrg _ | exact hS.1 _ | exact hS.2 _ _ | exact stg_b hS _ _ | exact r_irg (by first | assumption | omega | exact hS.1 _ | exact hS.2 _ _ | exact stg_b hS _ _) (by first | assumption | omega | exact hS.1 _ | exact hS.2 _ _) | exact wat_b hS _ _ | (unfold r_i; (repeat' split) <;> omega))) rfl)) (fun hp7 => (r_lit ql_105)) (fun hp8 => (r_lit ql_101))) ?_
        refine r_pret (q_fit_char (by first | omega | assumption | exact r_zrg _ | exact hS.1 _ | exact hS.2 _ _ | exact stg_b hS _ _ | exact r_irg (by first | assumption | omega | exact hS.1 _ | exact hS.2 _ _ | exact stg_b hS _ _) (by first | assumption | omega | exact hS.1 _ | exact hS.2 _ _) | exact wat_b hS _ _ | (unfold r_i; (repeat' split) <;> omega)) (by first | omega | assumption | exact r_zrg _ | exact hS.1 _ | exact hS.2 _ _ | exact stg_b hS _ _ | exact r_irg (by first | assumption | omega | exact hS.1 _ | exact hS.2 _ _ | exact stg_b hS _ _) (by first | assumption | omega | exact hS.1 _ | exact hS.2 _ _) | exact wat_b hS _ _ | (unfold r_i; (repeat' split) <;> omega))) r_le0 ⟨congrArg Sum.inl ?_, rfl⟩
        refine congrArg iv ?_
        exact ((r_i0 (fun d => (by assumption : ¬ 0 < wat (S.2.1 5) x y) (hd.mpr d))).trans ((r_i0 (by assumption)).trans (r_i0 (by assumption)))).symm
theorem sp_X3_isSupport {S : q_Sg} {c w : Nat} (hS : r_ok S) {x y z : Int} (hx : 0 ≤ x ∧ x < 12) (hy : 0 ≤ y ∧ y < 12) (hz : 0 ≤ z ∧ z < 12)  : r_F f_X3_isSupport [.ref 22, iv x, iv y, iv z] (q_en S, c, w) (r_b (HNG (S.2.1 0) x y (fst (fun k => SOL (S.2.1 0) x y k) (z + 1) 12) ∧ S.1 4 < fst (fun k => SOL (S.2.1 0) x y k) (z + 1) 12 - z)) := by
  refine r_Fof (r_run (L := [_, _, _, _, _]) ⟨rfl, Nat.le_of_ble_eq_true rfl⟩ rfl ?_)
  unfold b_X3_isSupport
  have hf := (fst_F (p := fun k => SOL (S.2.1 0) x y k) (s := z + 1) (e := 12) (by omega)).1
  refine r_seq ?_
  refine r_sloc (L2 := [_, _, _, _, _]) (r_call (r_cons (r_fld (r_loc rfl rfl) gg_Kinds_body) (r_cons (r_loc rfl rfl) (r_cons (r_loc rfl rfl) (r_cons (r_loc rfl rfl) r_nil)))) rfl (sp_X0_firstSolidAbove (by first | omega | assumption | exact r_zrg _ | exact hS.1 _ | exact hS.2 _ _ | exact stg_b hS _ _ | exact r_irg (by first | assumption | omega | exact hS.1 _ | exact hS.2 _ _ | exact stg_b hS _ _) (by first | assumption | omega | exact hS.1 _ | exact hS.2 _ _)) (by first | omega | assumption | exact r_zrg _ | exact hS.1 _ | exact hS.2 _ _ | exact stg_b hS _ _ | exact r_irg (by first | assumption | omega | exact hS.1 _ | exact hS.2 _ _ | exact stg_b hS _ _) (by first | assumption | omega | exact hS.1 _ | exact hS.2 _ _)) (by first | omega | assumption | exact r_zrg _ | exact hS.1 _ | exact hS.2 _ _ | exact stg_b hS _ _ | exact r_irg (by first | assumption | omega | exact hS.1 _ | exact hS.2 _ _ | exact stg_b hS _ _) (by first | assumption | omega | exact hS.1 _ | exact hS.2 _ _)) (by first | omega | assumption | exact r_zrg _ | exact hS.1 _ | exact hS.2 _ _ | exact stg_b hS _ _ | exact r_irg (by first | assumption | omega | exact hS.1 _ | exact hS.2 _ _ | exact stg_b hS _ _) (by first | assumption | omega | exact hS.1 _ | exact hS.2 _ _))) rfl) rfl rfl ?_
  refine r_k0 ?_
  refine r_sret (r_if10 (r_and (r_gt (r_sub (r_loc rfl rfl) (r_loc rfl rfl)) (r_call (r_cons (r_fld (r_loc rfl rfl) gg_Kinds_settings) r_nil) rfl sp_X7_gapSize rfl) (by first | omega | assumption | exact r_zrg _ | exact hS.1 _ | exact hS.2 _ _ | exact stg_b hS _ _ | exact r_irg (by first | assumption | omega | exact hS.1 _ | exact hS.2 _ _ | exact stg_b hS _ _) (by first | assumption | omega | exact hS.1 _ | exact hS.2 _ _)) (by first | omega | assumption | exact r_zrg _ | exact hS.1 _ | exact hS.2 _ _ | exact stg_b hS _ _ | exact r_irg (by first | assumption | omega | exact hS.1 _ | exact hS.2 _ _ | exact stg_b hS _ _) (by first | assumption | omega | exact hS.1 _ | exact hS.2 _ _))) (fun hp1 => (r_bz (r_call (r_cons (r_fld (r_loc rfl rfl) gg_Kinds_body) (r_cons (r_loc rfl rfl) (r_cons (r_loc rfl rfl) (r_cons (r_loc rfl rfl) r_nil)))) rfl (sp_X0_hangs (by first | omega | assumption | exact r_zrg _ | exact hS.1 _ | exact hS.2 _ _ | exact stg_b hS _ _ | exact r_irg (by first | assumption | omega | exact hS.1 _ | exact hS.2 _ _ | exact stg_b hS _ _) (by first | assumption | omega | exact hS.1 _ | exact hS.2 _ _)) (by first | omega | assumption | exact r_zrg _ | exact hS.1 _ | exact hS.2 _ _ | exact stg_b hS _ _ | exact r_irg (by first | assumption | omega | exact hS.1 _ | exact hS.2 _ _ | exact stg_b hS _ _) (by first | assumption | omega | exact hS.1 _ | exact hS.2 _ _)) (by first | omega | assumption | exact r_zrg _ | exact hS.1 _ | exact hS.2 _ _ | exact stg_b hS _ _ | exact r_irg (by first | assumption | omega | exact hS.1 _ | exact hS.2 _ _ | exact stg_b hS _ _) (by first | assumption | omega | exact hS.1 _ | exact hS.2 _ _)) (by first | omega | assumption | exact r_zrg _ | exact hS.1 _ | exact hS.2 _ _ | exact stg_b hS _ _ | exact r_irg (by first | assumption | omega | exact hS.1 _ | exact hS.2 _ _ | exact stg_b hS _ _) (by first | assumption | omega | exact hS.1 _ | exact hS.2 _ _))) rfl))))) ?_
  refine r_pret (r_fitb _) r_le0 ⟨congrArg Sum.inl ?_, rfl⟩
  refine r_bc ?_
  exact ⟨fun c => ⟨c.2, c.1⟩, fun c => ⟨c.2, c.1⟩⟩
theorem sp_X3_kindOf {S : q_Sg} {c w : Nat} (hS : r_ok S) {x y z : Int} (hx : rg x) (hy : rg y) (hz : rg z) (hk : ∀ j, 0 ≤ S.2.1 3 j ∧ S.2.1 3 j < 65536) : r_F f_X3_kindOf [.ref 22, iv x, iv y, iv z] (q_en S, c, w) (iv (r_i (inc x y z) (S.2.1 3 (144 * z + 12 * y + x)) 46)) := by
  refine r_Fof (r_run (L := [_, _, _, _]) ⟨rfl, Nat.le_of_ble_eq_true rfl⟩ rfl ?_)
  unfold b_X3_kindOf
  refine r_sret (r_if (r_bz (r_call (r_cons (r_loc rfl rfl) (r_cons (r_loc rfl rfl) (r_cons (r_loc rfl rfl) r_nil))) rfl (sp_X9_isCell (by first | omega | assumption | exact r_zrg _ | exact hS.1 _ | exact hS.2 _ _ | exact stg_b hS _ _ | exact r_irg (by first | assumption | omega | exact hS.1 _ | exact hS.2 _ _ | exact stg_b hS _ _) (by first | assumption | omega | exact hS.1 _ | exact hS.2 _ _) | (unfold r_i; split; exact (hk _).1; omega) | (unfold r_i; split; exact (hk _).2; omega)) (by first | omega | assumption | exact r_zrg _ | exact hS.1 _ | exact hS.2 _ _ | exact stg_b hS _ _ | exact r_irg (by first | assumption | omega | exact hS.1 _ | exact hS.2 _ _ | exact stg_b hS _ _) (by first | assumption | omega | exact hS.1 _ | exact hS.2 _ _) | (unfold r_i; split; exact (hk _).1; omega) | (unfold r_i; split; exact (hk _).2; omega)) (by first | omega | assumption | exact r_zrg _ | exact hS.1 _ | exact hS.2 _ _ | exact stg_b hS _ _ | exact r_irg (by first | assumption | omega | exact hS.1 _ | exact hS.2 _ _ | exact stg_b hS _ _) (by first | assumption | omega | exact hS.1 _ | exact hS.2 _ _) | (unfold r_i; split; exact (hk _).1; omega) | (unfold r_i; split; exact (hk _).2; omega))) rfl)) (fun hp1 => (r_aget ga_Kinds_kind (r_fld (r_loc rfl rfl) gg_Kinds_kind) (r_call (r_cons (r_loc rfl rfl) (r_cons (r_loc rfl rfl) (r_cons (r_loc rfl rfl) r_nil))) rfl sp_X9_indexOf rfl) (by first | omega | assumption | exact r_zrg _ | exact hS.1 _ | exact hS.2 _ _ | exact stg_b hS _ _ | exact r_irg (by first | assumption | omega | exact hS.1 _ | exact hS.2 _ _ | exact stg_b hS _ _) (by first | assumption | omega | exact hS.1 _ | exact hS.2 _ _) | (unfold r_i; split; exact (hk _).1; omega) | (unfold r_i; split; exact (hk _).2; omega)) (by first | omega | assumption | exact r_zrg _ | exact hS.1 _ | exact hS.2 _ _ | exact stg_b hS _ _ | exact r_irg (by first | assumption | omega | exact hS.1 _ | exact hS.2 _ _ | exact stg_b hS _ _) (by first | assumption | omega | exact hS.1 _ | exact hS.2 _ _) | (unfold r_i; split; exact (hk _).1; omega) | (unfold r_i; split; exact (hk _).2; omega)) (by decide))) (fun hp2 => (r_lit ql_46))) ?_
  refine r_pret (q_fit_char (by first | omega | assumption | exact r_zrg _ | exact hS.1 _ | exact hS.2 _ _ | exact stg_b hS _ _ | exact r_irg (by first | assumption | omega | exact hS.1 _ | exact hS.2 _ _ | exact stg_b hS _ _) (by first | assumption | omega | exact hS.1 _ | exact hS.2 _ _) | (unfold r_i; split; exact (hk _).1; omega) | (unfold r_i; split; exact (hk _).2; omega)) (by first | omega | assumption | exact r_zrg _ | exact hS.1 _ | exact hS.2 _ _ | exact stg_b hS _ _ | exact r_irg (by first | assumption | omega | exact hS.1 _ | exact hS.2 _ _ | exact stg_b hS _ _) (by first | assumption | omega | exact hS.1 _ | exact hS.2 _ _) | (unfold r_i; split; exact (hk _).1; omega) | (unfold r_i; split; exact (hk _).2; omega))) r_le0 ⟨congrArg Sum.inl ?_, rfl⟩
  refine congrArg iv ?_
  rfl
theorem sp_J7_fill_Kinds_wall {S : q_Sg} {c w : Nat} (hS : r_ok S) {v : Int} (hv : rg v) : r_X f_J7_fill [.ref 25, iv v] (q_en S, c, w) (fun _ h2 => ∃ g, h2 = (q_en (q_sA S 5 g), c, w) ∧ (∀ j, g j = r_i (0 ≤ j ∧ j < 144) v (S.2.1 5 j)) ∧ ∀ j, rg (g j)) := by
  refine r_Xof (r_run (L := [_, _, _, _]) ⟨rfl, Nat.le_of_ble_eq_true rfl⟩ rfl ?_)
  unfold b_J7_fill
  refine r_seq ?_
  refine r_seq ?_
  refine r_seq ?_
  refine r_sloc (L2 := [_, _, _, _]) (r_lit ql_0) rfl rfl ?_
  refine r_k0 ?_
  refine r_sloc (L2 := [_, _, _, _]) (r_len (r_loc rfl rfl) ga_Kinds_wall) rfl rfl ?_
  refine r_k0 ?_
  refine r_loop (T := Int × (Int → Int)) (fun (σ : Int × (Int → Int)) => match σ with | (k, g) => (0 ≤ k ∧ k ≤ 144) ∧ (∀ j, g j = r_i (0 ≤ j ∧ j < k) v (S.2.1 5 j)) ∧ ∀ j, rg (g j)) (fun (σ : Int × (Int → Int)) => match σ with | (k, g) => (144 - k).toNat) (fun (σ : Int × (Int → Int)) => match σ with | (k, g) => [some (.ref 25), some (iv v), some (iv k), some (iv (144 : Nat))]) (fun (σ : Int × (Int → Int)) => match σ with | (k, g) => (q_en (q_sA S 5 g), c, w)) (0, S.2.1 5) rfl (by dsimp only; rw [q_sAs]) ?_ ?_ ?_
  · exact ⟨by omega, fun j => (r_i0 (by omega)).symm, hS.2 5⟩
  · (show _ < 1000000); first | omega | (dsimp only; omega)
  · rintro ⟨k, g⟩ hP
    try dsimp only at hP ⊢
    obtain ⟨hk, hg, hr⟩ := hP
    refine ⟨_, (r_lt (r_loc rfl rfl) (r_loc rfl rfl) (by first | omega | assumption | exact r_zrg _ | exact hS.1 _ | exact hS.2 _ _ | exact stg_b hS _ _ | exact r_irg (by first | assumption | omega | exact hS.1 _ | exact hS.2 _ _ | exact stg_b hS _ _) (by first | assumption | omega | exact hS.1 _ | exact hS.2 _ _)) (by first | omega | assumption | exact r_zrg _ | exact hS.1 _ | exact hS.2 _ _ | exact stg_b hS _ _ | exact r_irg (by first | assumption | omega | exact hS.1 _ | exact hS.2 _ _ | exact stg_b hS _ _) (by first | assumption | omega | exact hS.1 _ | exact hS.2 _ _))), fun hp1 => ?_, fun hp2 => ?_⟩
    ·
      refine r_k0 ?_
      refine wS_retv ?_
      refine r_pretv r_le0 ?_
      exact ⟨_, rfl, g, rfl, fun j => by rw [hg j]; exact r_ieqv (by omega), hr⟩
    ·
      refine r_sput3 (r_loc rfl rfl) (r_loc rfl rfl) (r_loc rfl rfl) (r_putI ga_Kinds_wall gs_Kinds_wall (by first | omega | assumption | exact r_zrg _ | exact hS.1 _ | exact hS.2 _ _ | exact stg_b hS _ _ | exact r_irg (by first | assumption | omega | exact hS.1 _ | exact hS.2 _ _ | exact stg_b hS _ _) (by first | assumption | omega | exact hS.1 _ | exact hS.2 _ _)) (by first | omega | assumption | exact r_zrg _ | exact hS.1 _ | exact hS.2 _ _ | exact stg_b hS _ _ | exact r_irg (by first | assumption | omega | exact hS.1 _ | exact hS.2 _ _ | exact stg_b hS _ _) (by first | assumption | omega | exact hS.1 _ | exact hS.2 _ _)) (by decide) q_narI) ?_
      refine r_l0 ?_
      refine r_sinc (L2 := [_, _, _, _]) rfl rfl ?_
      refine r_lend (k + 1, q_up g k v) rfl (by rw [q_sAA]; rfl) ?_ (by first | omega | (dsimp only; omega))
      try dsimp only
      refine ⟨by omega, fun j => ?_, r_oku hr (by omega)⟩
      unfold q_up
      by_cases e : j = k
      · rw [if_pos e, r_i1 (by omega)]
      · rw [if_neg e, hg j]; exact r_ieqv (by omega)
theorem sp_J7_fill_Machine_laid {S : q_Sg} {c w : Nat} (hS : r_ok S) {v : Int} (hv : rg v) : r_X f_J7_fill [.ref 46, iv v] (q_en S, c, w) (fun _ h2 => ∃ g, h2 = (q_en (q_sA S 20 g), c, w) ∧ (∀ j, g j = r_i (0 ≤ j ∧ j < 1728) v (S.2.1 20 j)) ∧ ∀ j, rg (g j)) := by
  refine r_Xof (r_run (L := [_, _, _, _]) ⟨rfl, Nat.le_of_ble_eq_true rfl⟩ rfl ?_)
  unfold b_J7_fill
  refine r_seq ?_
  refine r_seq ?_
  refine r_seq ?_
  refine r_sloc (L2 := [_, _, _, _]) (r_lit ql_0) rfl rfl ?_
  refine r_k0 ?_
  refine r_sloc (L2 := [_, _, _, _]) (r_len (r_loc rfl rfl) ga_Machine_laid) rfl rfl ?_
  refine r_k0 ?_
  refine r_loop (T := Int × (Int → Int)) (fun (σ : Int × (Int → Int)) => match σ with | (k, g) => (0 ≤ k ∧ k ≤ 1728) ∧ (∀ j, g j = r_i (0 ≤ j ∧ j < k) v (S.2.1 20 j)) ∧ ∀ j, rg (g j)) (fun (σ : Int × (Int → Int)) => match σ with | (k, g) => (1728 - k).toNat) (fun (σ : Int × (Int → Int)) => match σ with | (k, g) => [some (.ref 46), some (iv v), some (iv k), some (iv (1728 : Nat))]) (fun (σ : Int × (Int → Int)) => match σ with | (k, g) => (q_en (q_sA S 20 g), c, w)) (0, S.2.1 20) rfl (by dsimp only; rw [q_sAs]) ?_ ?_ ?_
  · exact ⟨by omega, fun j => (r_i0 (by omega)).symm, hS.2 20⟩
  · (show _ < 1000000); first | omega | (dsimp only; omega)
  · rintro ⟨k, g⟩ hP
    try dsimp only at hP ⊢
    obtain ⟨hk, hg, hr⟩ := hP
    refine ⟨_, (r_lt (r_loc rfl rfl) (r_loc rfl rfl) (by first | omega | assumption | exact r_zrg _ | exact hS.1 _ | exact hS.2 _ _ | exact stg_b hS _ _ | exact r_irg (by first | assumption | omega | exact hS.1 _ | exact hS.2 _ _ | exact stg_b hS _ _) (by first | assumption | omega | exact hS.1 _ | exact hS.2 _ _)) (by first | omega | assumption | exact r_zrg _ | exact hS.1 _ | exact hS.2 _ _ | exact stg_b hS _ _ | exact r_irg (by first | assumption | omega | exact hS.1 _ | exact hS.2 _ _ | exact stg_b hS _ _) (by first | assumption | omega | exact hS.1 _ | exact hS.2 _ _))), fun hp1 => ?_, fun hp2 => ?_⟩
    ·
      refine r_k0 ?_
      refine wS_retv ?_
      refine r_pretv r_le0 ?_
      exact ⟨_, rfl, g, rfl, fun j => by rw [hg j]; exact r_ieqv (by omega), hr⟩
    ·
      refine r_sput3 (r_loc rfl rfl) (r_loc rfl rfl) (r_loc rfl rfl) (r_putI ga_Machine_laid gs_Machine_laid (by first | omega | assumption | exact r_zrg _ | exact hS.1 _ | exact hS.2 _ _ | exact stg_b hS _ _ | exact r_irg (by first | assumption | omega | exact hS.1 _ | exact hS.2 _ _ | exact stg_b hS _ _) (by first | assumption | omega | exact hS.1 _ | exact hS.2 _ _)) (by first | omega | assumption | exact r_zrg _ | exact hS.1 _ | exact hS.2 _ _ | exact stg_b hS _ _ | exact r_irg (by first | assumption | omega | exact hS.1 _ | exact hS.2 _ _ | exact stg_b hS _ _) (by first | assumption | omega | exact hS.1 _ | exact hS.2 _ _)) (by decide) q_narI) ?_
      refine r_l0 ?_
      refine r_sinc (L2 := [_, _, _, _]) rfl rfl ?_
      refine r_lend (k + 1, q_up g k v) rfl (by rw [q_sAA]; rfl) ?_ (by first | omega | (dsimp only; omega))
      try dsimp only
      refine ⟨by omega, fun j => ?_, r_oku hr (by omega)⟩
      unfold q_up
      by_cases e : j = k
      · rw [if_pos e, r_i1 (by omega)]
      · rw [if_neg e, hg j]; exact r_ieqv (by omega)
theorem sp_X3_findWalls {S : q_Sg} {c w : Nat} (hS : r_ok S) (hK : SOK S.1 0) {z : Int} (hz : 0 ≤ z ∧ z < 12) : r_X f_X3_findWalls [.ref 22, iv z] (q_en S, c, w) (fun _ h2 => ∃ g, h2 = (q_en (q_sA S 5 g), c, w) ∧ (∀ u v, (0 ≤ u ∧ u < 12) → (0 ≤ v ∧ v < 12) → isW (S.2.1 0) u v z (S.1 0) (g (12 * v + u))) ∧ ∀ j, rg (g j)) := by
  refine r_Xof (r_run (L := [_, _, _, _, _]) ⟨rfl, Nat.le_of_ble_eq_true rfl⟩ rfl ?_)
  unfold b_X3_findWalls
  obtain ⟨k0, k1, k2, k3, k4, k5⟩ := hK
  simp only [Nat.reduceAdd] at k1 k2 k3 k4 k5
  refine r_seq ?_
  refine r_call0 (r_cons (r_fld (r_loc rfl rfl) gg_Kinds_wall) (r_cons (r_lit ql_0) r_nil)) rfl (sp_J7_fill_Kinds_wall (by first | omega | assumption | exact hS.1 _ | exact r_okA hS (by assumption) | exact hr _ | exact (r_okA hS (by assumption)).2 _ _ | exact wat_b (r_okA hS (by assumption)) _ _) (by first | omega | assumption | exact hS.1 _ | exact r_okA hS (by assumption) | exact hr _ | exact (r_okA hS (by assumption)).2 _ _ | exact wat_b (r_okA hS (by assumption)) _ _)) ?_
  rintro _ _ ⟨g1, rfl, hg1, hr1⟩
  refine r_k0 ?_
  refine r_seq ?_
  refine r_seq ?_
  refine r_sloc (L2 := [_, _, _, _, _]) (r_lit ql_1) rfl rfl ?_
  refine r_k0 ?_
  refine r_loop (T := Int × (Int → Int) × Option Value × Option Value) (fun (σ : Int × (Int → Int) × Option Value × Option Value) => match σ with | (m, g, o, o2) => (1 ≤ m ∧ m ≤ S.1 0 + 1) ∧ (∀ j, rg (g j)) ∧ ∀ u v, (0 ≤ u ∧ u < 12) → (0 ≤ v ∧ v < 12) → isW (S.2.1 0) u v z (m - 1) (g (12 * v + u))) (fun (σ : Int × (Int → Int) × Option Value × Option Value) => match σ with | (m, g, o, o2) => (4 - m).toNat) (fun (σ : Int × (Int → Int) × Option Value × Option Value) => match σ with | (m, g, o, o2) => [some (.ref 22), some (iv z), some (iv m), o, o2]) (fun (σ : Int × (Int → Int) × Option Value × Option Value) => match σ with | (m, g, o, o2) => (q_en (q_sA S 5 g), c, w)) (1, g1, _, _) rfl rfl ?_ ?_ ?_
  · exact ⟨by omega, hr1, fun u v h0 h1 => by rw [hg1, r_i1 (by omega)]; exact isW_0⟩
  · (show _ < 1000000); first | omega | (dsimp only; omega)
  · rintro ⟨m, g, o, o2⟩ hP
    try dsimp only at hP ⊢
    obtain ⟨hm, hr, hW⟩ := hP
    refine ⟨_, (r_le (r_loc rfl rfl) (r_call (r_cons (r_fld (r_loc rfl rfl) gg_Kinds_settings) r_nil) rfl sp_X7_wallCount rfl) (by first | omega | assumption | exact hS.1 _ | exact r_okA hS (by assumption) | exact hr _ | exact (r_okA hS (by assumption)).2 _ _ | exact wat_b (r_okA hS (by assumption)) _ _) (by first | omega | assumption | exact hS.1 _ | exact r_okA hS (by assumption) | exact hr _ | exact (r_okA hS (by assumption)).2 _ _ | exact wat_b (r_okA hS (by assumption)) _ _)), fun hp1 => ?_, fun hp2 => ?_⟩
    ·
      have hx1 : ¬ m ≤ S.1 0 := hp1
      refine r_k0 ?_
      refine wS_retv ?_
      refine r_pretv r_le0 ?_
      exact ⟨_, rfl, g, rfl, fun u v u0 v0 => by rw [show S.1 0 = m - 1 by omega]; exact hW u v u0 v0, hr⟩
    ·
      have hx2 : m ≤ S.1 0 := hp2
      refine r_seq ?_
      refine r_sloc (L2 := [_, _, _, _, _]) (r_lit ql_0) rfl rfl ?_
      refine r_k0 ?_
      refine r_loop (T := Int × (Int → Int) × Option Value) (fun (σ : Int × (Int → Int) × Option Value) => match σ with | (y, g, o) => (0 ≤ y ∧ y ≤ 12) ∧ (∀ j, rg (g j)) ∧ ∀ u v, (0 ≤ u ∧ u < 12) → (0 ≤ v ∧ v < 12) → (12 * v + u < 12 * y → isW (S.2.1 0) u v z m (g (12 * v + u))) ∧ (¬ 12 * v + u < 12 * y → isW (S.2.1 0) u v z (m - 1) (g (12 * v + u)))) (fun (σ : Int × (Int → Int) × Option Value) => match σ with | (y, g, o) => (12 - y).toNat) (fun (σ : Int × (Int → Int) × Option Value) => match σ with | (y, g, o) => [some (.ref 22), some (iv z), some (iv m), some (iv y), o]) (fun (σ : Int × (Int → Int) × Option Value) => match σ with | (y, g, o) => (q_en (q_sA S 5 g), c, w)) (0, g, _) rfl rfl ?_ ?_ ?_
      · exact ⟨by omega, hr, fun u v h0 h1 => ⟨fun d => by omega, fun _ => hW u v h0 h1⟩⟩
      · (show _ < 1000000); first | omega | (dsimp only; omega)
      · rintro ⟨y, g, o⟩ hP
        try dsimp only at hP ⊢
        obtain ⟨hy, hr, hW⟩ := hP
        refine ⟨_, (r_lt (r_loc rfl rfl) (r_lit ql_12) (by first | omega | assumption | exact hS.1 _ | exact r_okA hS (by assumption) | exact hr _ | exact (r_okA hS (by assumption)).2 _ _ | exact wat_b (r_okA hS (by assumption)) _ _) (by first | omega | assumption | exact hS.1 _ | exact r_okA hS (by assumption) | exact hr _ | exact (r_okA hS (by assumption)).2 _ _ | exact wat_b (r_okA hS (by assumption)) _ _)), fun hp3 => ?_, fun hp4 => ?_⟩
        ·
          refine r_l0 ?_
          refine r_sinc (L2 := [_, _, _, _, _]) rfl rfl ?_
          refine r_lend (m + 1, g, _, _) rfl rfl ?_ (by first | omega | (dsimp only; omega))
          try dsimp only
          exact ⟨by omega, hr, fun u v h0 h1 => by rw [show m + 1 - 1 = m by omega]; exact (hW u v h0 h1).1 (by omega)⟩
        ·
          refine r_seq ?_
          refine r_sloc (L2 := [_, _, _, _, _]) (r_lit ql_0) rfl rfl ?_
          refine r_k0 ?_
          refine r_loop (T := Int × (Int → Int)) (fun (σ : Int × (Int → Int)) => match σ with | (x, g) => (0 ≤ x ∧ x ≤ 12) ∧ (∀ j, rg (g j)) ∧ ∀ u v, (0 ≤ u ∧ u < 12) → (0 ≤ v ∧ v < 12) → (12 * v + u < 12 * y + x → isW (S.2.1 0) u v z m (g (12 * v + u))) ∧ (¬ 12 * v + u < 12 * y + x → isW (S.2.1 0) u v z (m - 1) (g (12 * v + u)))) (fun (σ : Int × (Int → Int)) => match σ with | (x, g) => (12 - x).toNat) (fun (σ : Int × (Int → Int)) => match σ with | (x, g) => [some (.ref 22), some (iv z), some (iv m), some (iv y), some (iv x)]) (fun (σ : Int × (Int → Int)) => match σ with | (x, g) => (q_en (q_sA S 5 g), c, w)) (0, g) rfl rfl ?_ ?_ ?_
          · exact ⟨by omega, hr, fun u v h0 h1 => by rw [Int.add_zero]; exact hW u v h0 h1⟩
          · (show _ < 1000000); first | omega | (dsimp only; omega)
          · rintro ⟨x, g⟩ hP
            try dsimp only at hP ⊢
            obtain ⟨hx, hr, hW⟩ := hP
            refine ⟨_, (r_lt (r_loc rfl rfl) (r_lit ql_12) (by first | omega | assumption | exact hS.1 _ | exact r_okA hS (by assumption) | exact hr _ | exact (r_okA hS (by assumption)).2 _ _ | exact wat_b (r_okA hS (by assumption)) _ _) (by first | omega | assumption | exact hS.1 _ | exact r_okA hS (by assumption) | exact hr _ | exact (r_okA hS (by assumption)).2 _ _ | exact wat_b (r_okA hS (by assumption)) _ _)), fun hp5 => ?_, fun hp6 => ?_⟩
            ·
              refine r_l0 ?_
              refine r_sinc (L2 := [_, _, _, _, _]) rfl rfl ?_
              refine r_lend (y + 1, g, _) rfl rfl ?_ (by first | omega | (dsimp only; omega))
              try dsimp only
              exact ⟨by omega, hr, fun u v h0 h1 => ⟨fun d => (hW u v h0 h1).1 (by omega), fun d => (hW u v h0 h1).2 (by omega)⟩⟩
            ·
              have hself := (hW x y (by omega) (by omega)).2 (by omega)
              have htc : SOL (S.2.1 0) x y z → g (12 * y + x) = 0 → (TCH (S.2.1 0) g x y z (m - 1) ↔ DST (S.2.1 0) x y z (m - 1 + 1)) := fun h1 h2 => isW_t (by omega) hz (fun u v u0 v0 => by
                by_cases d : 12 * v + u < 12 * y + x
                · exact Or.inr (by rw [show m - 1 + 1 = m by omega]; exact (hW u v u0 v0).1 d)
                · exact Or.inl ((hW u v u0 v0).2 d)) h1 (by rw [h2] at hself; exact hself)
              have hwt : wat g x y = g (12 * y + x) := r_i1 (by omega)
              have hm1 : m - 1 + 1 = m := by omega
              refine r_sif (r_and (r_and (r_bz (r_call (r_cons (r_fld (r_loc rfl rfl) gg_Kinds_body) (r_cons (r_loc rfl rfl) (r_cons (r_loc rfl rfl) (r_cons (r_loc rfl rfl) r_nil)))) rfl (sp_X0_isSolid (by first | omega | assumption | exact hS.1 _ | exact r_okA hS (by assumption) | exact hr _ | exact (r_okA hS (by assumption)).2 _ _ | exact wat_b (r_okA hS (by assumption)) _ _) (by first | omega | assumption | exact hS.1 _ | exact r_okA hS (by assumption) | exact hr _ | exact (r_okA hS (by assumption)).2 _ _ | exact wat_b (r_okA hS (by assumption)) _ _) (by first | omega | assumption | exact hS.1 _ | exact r_okA hS (by assumption) | exact hr _ | exact (r_okA hS (by assumption)).2 _ _ | exact wat_b (r_okA hS (by assumption)) _ _) (by first | omega | assumption | exact hS.1 _ | exact r_okA hS (by assumption) | exact hr _ | exact (r_okA hS (by assumption)).2 _ _ | exact wat_b (r_okA hS (by assumption)) _ _)) rfl)) (fun hp7 => (r_z_eq (r_call (r_cons (r_loc rfl rfl) (r_cons (r_loc rfl rfl) (r_cons (r_loc rfl rfl) r_nil))) rfl (sp_X3_wallAt (by first | omega | assumption | exact hS.1 _ | exact r_okA hS (by assumption) | exact hr _ | exact (r_okA hS (by assumption)).2 _ _ | exact wat_b (r_okA hS (by assumption)) _ _) (by first | omega | assumption | exact hS.1 _ | exact r_okA hS (by assumption) | exact hr _ | exact (r_okA hS (by assumption)).2 _ _ | exact wat_b (r_okA hS (by assumption)) _ _) (by first | omega | assumption | exact hS.1 _ | exact r_okA hS (by assumption) | exact hr _ | exact (r_okA hS (by assumption)).2 _ _ | exact wat_b (r_okA hS (by assumption)) _ _)) rfl) (by first | omega | assumption | exact hS.1 _ | exact r_okA hS (by assumption) | exact hr _ | exact (r_okA hS (by assumption)).2 _ _ | exact wat_b (r_okA hS (by assumption)) _ _)))) (fun hp8 => (r_bz (r_call (r_cons (r_loc rfl rfl) (r_cons (r_loc rfl rfl) (r_cons (r_loc rfl rfl) (r_cons (r_loc rfl rfl) (r_cons (r_sub (r_loc rfl rfl) (r_lit ql_1)) r_nil))))) rfl (sp_X3_touches (by first | omega | assumption | exact hS.1 _ | exact r_okA hS (by assumption) | exact hr _ | exact (r_okA hS (by assumption)).2 _ _ | exact wat_b (r_okA hS (by assumption)) _ _) (by first | omega | assumption | exact hS.1 _ | exact r_okA hS (by assumption) | exact hr _ | exact (r_okA hS (by assumption)).2 _ _ | exact wat_b (r_okA hS (by assumption)) _ _) (by first | omega | assumption | exact hS.1 _ | exact r_okA hS (by assumption) | exact hr _ | exact (r_okA hS (by assumption)).2 _ _ | exact wat_b (r_okA hS (by assumption)) _ _) (by first | omega | assumption | exact hS.1 _ | exact r_okA hS (by assumption) | exact hr _ | exact (r_okA hS (by assumption)).2 _ _ | exact wat_b (r_okA hS (by assumption)) _ _) (by first | omega | assumption | exact hS.1 _ | exact r_okA hS (by assumption) | exact hr _ | exact (r_okA hS (by assumption)).2 _ _ | exact wat_b (r_okA hS (by assumption)) _ _)) rfl)))) (fun hp9 => ?_) (fun hp10 => ?_)
              ·
                have hpT := hp9
                have hpT0 := hp9
                refine r_sput3 (r_fld (r_loc rfl rfl) gg_Kinds_wall) (r_call (r_cons (r_loc rfl rfl) (r_cons (r_loc rfl rfl) (r_cons (r_lit ql_0) r_nil))) rfl sp_X9_indexOf rfl) (r_loc rfl rfl) (r_putI ga_Kinds_wall gs_Kinds_wall (by first | omega | assumption | exact hS.1 _ | exact r_okA hS (by assumption) | exact hr _ | exact (r_okA hS (by assumption)).2 _ _ | exact wat_b (r_okA hS (by assumption)) _ _) (by first | omega | assumption | exact hS.1 _ | exact r_okA hS (by assumption) | exact hr _ | exact (r_okA hS (by assumption)).2 _ _ | exact wat_b (r_okA hS (by assumption)) _ _) (by decide) q_narI) ?_
                refine r_l0 ?_
                refine r_sinc (L2 := [_, _, _, _, _]) rfl rfl ?_
                refine r_lend (x + 1, q_up g (144 * 0 + 12 * y + x) m) rfl (by first | rfl | (rw [q_sAA]; rfl)) ?_ (by first | omega | (dsimp only; omega))
                try dsimp only
                refine ⟨by omega, r_oku hr (by omega), fun u v u0 v0 => ?_⟩
                obtain ⟨⟨c1, c2⟩, c3⟩ := hpT
                have c2 : g (12 * y + x) = 0 := by rw [← hwt]; exact c2
                unfold q_up
                by_cases e : 12 * v + u = 12 * y + x
                · rw [if_pos (by omega)]
                  obtain ⟨rfl, rfl⟩ : u = x ∧ v = y := by omega
                  refine ⟨fun _ => ?_, fun d => by omega⟩
                  have k := isW_y (by omega) c1 (by rw [c2] at hself; exact hself) ((htc c1 c2).mp c3)
                  rw [hm1] at k; exact k
                · rw [if_neg (by omega)]
                  exact ⟨fun d => (hW u v u0 v0).1 (by omega), fun d => (hW u v u0 v0).2 (by omega)⟩
              ·
                have hpF := hp10
                have hpF0 := hp10
                refine wS_skip ?_
                refine r_l0 ?_
                refine r_sinc (L2 := [_, _, _, _, _]) rfl rfl ?_
                refine r_lend (x + 1, g) rfl (by first | rfl | (rw [q_sAA]; rfl)) ?_ (by first | omega | (dsimp only; omega))
                try dsimp only
                refine ⟨by omega, hr, fun u v u0 v0 => ?_⟩
                by_cases e : 12 * v + u = 12 * y + x
                · obtain ⟨rfl, rfl⟩ : u = x ∧ v = y := by omega
                  refine ⟨fun _ => ?_, fun d => by omega⟩
                  have k := isW_n hself (by
                    by_cases c1 : SOL (S.2.1 0) u v z
                    · by_cases c2 : g (12 * v + u) = 0
                      · exact Or.inr (Or.inr (fun d => hpF ⟨⟨c1, hwt.trans c2⟩, (htc c1 c2).mpr d⟩))
                      · exact Or.inr (Or.inl c2)
                    · exact Or.inl c1)
                  rw [hm1] at k; exact k
                · exact ⟨fun d => (hW u v u0 v0).1 (by omega), fun d => (hW u v u0 v0).2 (by omega)⟩
