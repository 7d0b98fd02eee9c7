theorem sp_X5_turned {a b : Int} {h : qH} (ha : 0 ≤ a ∧ a < 4) (hb : -1 ≤ b ∧ b ≤ 1) : r_F f_X5_turned [iv a, iv b] h (iv ((a + b) % 4)) := by
  refine r_Fof (r_run (L := [_, _]) ⟨rfl, Nat.le_of_ble_eq_true rfl⟩ rfl ?_)
  unfold b_X5_turned
  refine r_sret (r_iand3 (r_add (r_loc rfl rfl) (r_loc rfl rfl)) (by first | omega | assumption | exact r_zrg _ | exact hS.1 _ | exact hS.2 _ _ | exact stg_b hS _ _ | exact r_irg (by first | assumption | omega | exact hS.1 _ | exact hS.2 _ _ | exact stg_b hS _ _) (by first | assumption | omega | exact hS.1 _ | exact hS.2 _ _))) ?_
  refine r_pret (q_fit_int _) r_le0 ⟨congrArg Sum.inl ?_, rfl⟩
  refine congrArg iv ?_
  rfl
theorem sp_X5_cornerX {e : Int} {h : qH} (he : 0 ≤ e ∧ e < 676) : r_F f_X5_cornerX [iv e] h (iv (e / 4 % 13)) := by
  refine r_Fof (r_run (L := [_]) ⟨rfl, Nat.le_of_ble_eq_true rfl⟩ rfl ?_)
  unfold b_X5_cornerX
  refine r_sret (r_rem (r_div (r_loc rfl rfl) (r_lit ql_4) (by first | omega | assumption | exact r_zrg _ | exact hS.1 _ | exact hS.2 _ _ | exact stg_b hS _ _ | exact r_irg (by first | assumption | omega | exact hS.1 _ | exact hS.2 _ _ | exact stg_b hS _ _) (by first | assumption | omega | exact hS.1 _ | exact hS.2 _ _)) (by first | omega | assumption | exact r_zrg _ | exact hS.1 _ | exact hS.2 _ _ | exact stg_b hS _ _ | exact r_irg (by first | assumption | omega | exact hS.1 _ | exact hS.2 _ _ | exact stg_b hS _ _) (by first | assumption | omega | exact hS.1 _ | exact hS.2 _ _)) (by first | omega | assumption | exact r_zrg _ | exact hS.1 _ | exact hS.2 _ _ | exact stg_b hS _ _ | exact r_irg (by first | assumption | omega | exact hS.1 _ | exact hS.2 _ _ | exact stg_b hS _ _) (by first | assumption | omega | exact hS.1 _ | exact hS.2 _ _)) (by first | omega | assumption | exact r_zrg _ | exact hS.1 _ | exact hS.2 _ _ | exact stg_b hS _ _ | exact r_irg (by first | assumption | omega | exact hS.1 _ | exact hS.2 _ _ | exact stg_b hS _ _) (by first | assumption | omega | exact hS.1 _ | exact hS.2 _ _))) (r_lit ql_13) (by first | omega | assumption | exact r_zrg _ | exact hS.1 _ | exact hS.2 _ _ | exact stg_b hS _ _ | exact r_irg (by first | assumption | omega | exact hS.1 _ | exact hS.2 _ _ | exact stg_b hS _ _) (by first | assumption | omega | exact hS.1 _ | exact hS.2 _ _)) (by first | omega | assumption | exact r_zrg _ | exact hS.1 _ | exact hS.2 _ _ | exact stg_b hS _ _ | exact r_irg (by first | assumption | omega | exact hS.1 _ | exact hS.2 _ _ | exact stg_b hS _ _) (by first | assumption | omega | exact hS.1 _ | exact hS.2 _ _)) (by first | omega | assumption | exact r_zrg _ | exact hS.1 _ | exact hS.2 _ _ | exact stg_b hS _ _ | exact r_irg (by first | assumption | omega | exact hS.1 _ | exact hS.2 _ _ | exact stg_b hS _ _) (by first | assumption | omega | exact hS.1 _ | exact hS.2 _ _)) (by first | omega | assumption | exact r_zrg _ | exact hS.1 _ | exact hS.2 _ _ | exact stg_b hS _ _ | exact r_irg (by first | assumption | omega | exact hS.1 _ | exact hS.2 _ _ | exact stg_b hS _ _) (by first | assumption | omega | exact hS.1 _ | exact hS.2 _ _))) ?_
  refine r_pret (q_fit_int _) r_le0 ⟨congrArg Sum.inl ?_, rfl⟩
  refine congrArg iv ?_
  rfl
theorem sp_X5_cornerY {e : Int} {h : qH} (he : 0 ≤ e ∧ e < 676) : r_F f_X5_cornerY [iv e] h (iv (e / 52)) := by
  refine r_Fof (r_run (L := [_]) ⟨rfl, Nat.le_of_ble_eq_true rfl⟩ rfl ?_)
  unfold b_X5_cornerY
  refine r_sret (r_div (r_div (r_loc rfl rfl) (r_lit ql_4) (by first | omega | assumption | exact r_zrg _ | exact hS.1 _ | exact hS.2 _ _ | exact stg_b hS _ _ | exact r_irg (by first | assumption | omega | exact hS.1 _ | exact hS.2 _ _ | exact stg_b hS _ _) (by first | assumption | omega | exact hS.1 _ | exact hS.2 _ _)) (by first | omega | assumption | exact r_zrg _ | exact hS.1 _ | exact hS.2 _ _ | exact stg_b hS _ _ | exact r_irg (by first | assumption | omega | exact hS.1 _ | exact hS.2 _ _ | exact stg_b hS _ _) (by first | assumption | omega | exact hS.1 _ | exact hS.2 _ _)) (by first | omega | assumption | exact r_zrg _ | exact hS.1 _ | exact hS.2 _ _ | exact stg_b hS _ _ | exact r_irg (by first | assumption | omega | exact hS.1 _ | exact hS.2 _ _ | exact stg_b hS _ _) (by first | assumption | omega | exact hS.1 _ | exact hS.2 _ _)) (by first | omega | assumption | exact r_zrg _ | exact hS.1 _ | exact hS.2 _ _ | exact stg_b hS _ _ | exact r_irg (by first | assumption | omega | exact hS.1 _ | exact hS.2 _ _ | exact stg_b hS _ _) (by first | assumption | omega | exact hS.1 _ | exact hS.2 _ _))) (r_lit ql_13) (by first | omega | assumption | exact r_zrg _ | exact hS.1 _ | exact hS.2 _ _ | exact stg_b hS _ _ | exact r_irg (by first | assumption | omega | exact hS.1 _ | exact hS.2 _ _ | exact stg_b hS _ _) (by first | assumption | omega | exact hS.1 _ | exact hS.2 _ _)) (by first | omega | assumption | exact r_zrg _ | exact hS.1 _ | exact hS.2 _ _ | exact stg_b hS _ _ | exact r_irg (by first | assumption | omega | exact hS.1 _ | exact hS.2 _ _ | exact stg_b hS _ _) (by first | assumption | omega | exact hS.1 _ | exact hS.2 _ _)) (by first | omega | assumption | exact r_zrg _ | exact hS.1 _ | exact hS.2 _ _ | exact stg_b hS _ _ | exact r_irg (by first | assumption | omega | exact hS.1 _ | exact hS.2 _ _ | exact stg_b hS _ _) (by first | assumption | omega | exact hS.1 _ | exact hS.2 _ _)) (by first | omega | assumption | exact r_zrg _ | exact hS.1 _ | exact hS.2 _ _ | exact stg_b hS _ _ | exact r_irg (by first | assumption | omega | exact hS.1 _ | exact hS.2 _ _ | exact stg_b hS _ _) (by first | assumption | omega | exact hS.1 _ | exact hS.2 _ _))) ?_
  refine r_pret (q_fit_int _) r_le0 ⟨congrArg Sum.inl ?_, rfl⟩
  refine congrArg iv ?_
  omega
theorem sp_X5_wayOf {e : Int} {h : qH} (he : 0 ≤ e ∧ e < 676) : r_F f_X5_wayOf [iv e] h (iv (e % 4)) := by
  refine r_Fof (r_run (L := [_]) ⟨rfl, Nat.le_of_ble_eq_true rfl⟩ rfl ?_)
  unfold b_X5_wayOf
  refine r_sret (r_iand3 (r_loc rfl rfl) (by first | omega | assumption | exact r_zrg _ | exact hS.1 _ | exact hS.2 _ _ | exact stg_b hS _ _ | exact r_irg (by first | assumption | omega | exact hS.1 _ | exact hS.2 _ _ | exact stg_b hS _ _) (by first | assumption | omega | exact hS.1 _ | exact hS.2 _ _))) ?_
  refine r_pret (q_fit_int _) r_le0 ⟨congrArg Sum.inl ?_, rfl⟩
  refine congrArg iv ?_
  rfl
theorem sp_X5_isWay {k : Int} {h : qH} (hk : rg k) : r_F f_X5_isWay [iv k] h (r_b (0 ≤ k ∧ k < 4)) := by
  refine r_Fof (r_run (L := [_]) ⟨rfl, Nat.le_of_ble_eq_true rfl⟩ rfl ?_)
  unfold b_X5_isWay
  refine r_sret (r_if10 (r_and (r_z_ge (r_loc rfl rfl) (by first | omega | assumption | exact r_zrg _ | exact hS.1 _ | exact hS.2 _ _ | exact stg_b hS _ _ | exact r_irg (by first | assumption | omega | exact hS.1 _ | exact hS.2 _ _ | exact stg_b hS _ _) (by first | assumption | omega | exact hS.1 _ | exact hS.2 _ _))) (fun hp1 => (r_lt (r_loc rfl rfl) (r_lit ql_4) (by first | omega | assumption | exact r_zrg _ | exact hS.1 _ | exact hS.2 _ _ | exact stg_b hS _ _ | exact r_irg (by first | assumption | omega | exact hS.1 _ | exact hS.2 _ _ | exact stg_b hS _ _) (by first | assumption | omega | exact hS.1 _ | exact hS.2 _ _)) (by first | omega | assumption | exact r_zrg _ | exact hS.1 _ | exact hS.2 _ _ | exact stg_b hS _ _ | exact r_irg (by first | assumption | omega | exact hS.1 _ | exact hS.2 _ _ | exact stg_b hS _ _) (by first | assumption | omega | exact hS.1 _ | exact hS.2 _ _)))))) ?_
  refine r_pret (r_fitb _) r_le0 ⟨congrArg Sum.inl ?_, rfl⟩
  refine r_bc ?_
  omega
theorem sp_X5_isEdge {S : q_Sg} {c w : Nat} (hS : r_ok S) {x y k z : Int} (hx : -1 ≤ x ∧ x ≤ 13) (hy : -1 ≤ y ∧ y ≤ 13) (hk : 0 ≤ k ∧ k < 4) (hz : 0 ≤ z ∧ z < 12)  : r_F f_X5_isEdge [.ref 26, iv x, iv y, iv k, iv z] (q_en S, c, w) (r_b (EDG (S.2.1 0) z x y k)) := by
  refine r_Fof (r_run (L := [_, _, _, _, _, _]) ⟨rfl, Nat.le_of_ble_eq_true rfl⟩ rfl ?_)
  unfold b_X5_isEdge
  have t3 := r_t3b k; have t4 := r_t4b k; have t5 := r_t3b ((k + -1) % 4); have t6 := r_t4b ((k + -1) % 4)
  refine r_seq ?_
  refine r_sif (r_not (r_bz (r_call (r_cons (r_loc rfl rfl) r_nil) rfl (sp_X5_isWay (by first | omega | assumption | exact r_zrg _ | exact hS.1 _ | exact hS.2 _ _ | exact stg_b hS _ _ | exact r_irg (by first | assumption | omega | exact hS.1 _ | exact hS.2 _ _ | exact stg_b hS _ _) (by first | assumption | omega | exact hS.1 _ | exact hS.2 _ _))) rfl))) (fun hp1 => ?_) (fun hp2 => ?_)
  ·
    have hpT := hp1
    have hpT0 := hp1
    omega
  ·
    have hpF := hp2
    have hpF0 := hp2
    refine wS_skip ?_
    refine r_k0 ?_
    refine r_seq ?_
    refine r_sloc (L2 := [_, _, _, _, _, _]) (r_call (r_cons (r_loc rfl rfl) (r_cons (r_lit ql_m1) r_nil)) rfl (sp_X5_turned (by first | omega | assumption | exact r_zrg _ | exact hS.1 _ | exact hS.2 _ _ | exact stg_b hS _ _ | exact r_irg (by first | assumption | omega | exact hS.1 _ | exact hS.2 _ _ | exact stg_b hS _ _) (by first | assumption | omega | exact hS.1 _ | exact hS.2 _ _)) (by first | omega | assumption | exact r_zrg _ | exact hS.1 _ | exact hS.2 _ _ | exact stg_b hS _ _ | exact r_irg (by first | assumption | omega | exact hS.1 _ | exact hS.2 _ _ | exact stg_b hS _ _) (by first | assumption | omega | exact hS.1 _ | exact hS.2 _ _))) rfl) rfl rfl ?_
    refine r_k0 ?_
    refine r_sret (r_if10 (r_and (r_bz (r_call (r_cons (r_fld (r_loc rfl rfl) gg_Outlines_body) (r_cons (r_add (r_loc rfl rfl) (r_ro3 r_litr (r_loc rfl rfl) (by first | omega | assumption | exact r_zrg _ | exact hS.1 _ | exact hS.2 _ _ | exact stg_b hS _ _ | exact r_irg (by first | assumption | omega | exact hS.1 _ | exact hS.2 _ _ | exact stg_b hS _ _) (by first | assumption | omega | exact hS.1 _ | exact hS.2 _ _)) (by first | omega | assumption | exact r_zrg _ | exact hS.1 _ | exact hS.2 _ _ | exact stg_b hS _ _ | exact r_irg (by first | assumption | omega | exact hS.1 _ | exact hS.2 _ _ | exact stg_b hS _ _) (by first | assumption | omega | exact hS.1 _ | exact hS.2 _ _)))) (r_cons (r_add (r_loc rfl rfl) (r_ro4 r_litr (r_loc rfl rfl) (by first | omega | assumption | exact r_zrg _ | exact hS.1 _ | exact hS.2 _ _ | exact stg_b hS _ _ | exact r_irg (by first | assumption | omega | exact hS.1 _ | exact hS.2 _ _ | exact stg_b hS _ _) (by first | assumption | omega | exact hS.1 _ | exact hS.2 _ _)) (by first | omega | assumption | exact r_zrg _ | exact hS.1 _ | exact hS.2 _ _ | exact stg_b hS _ _ | exact r_irg (by first | assumption | omega | exact hS.1 _ | exact hS.2 _ _ | exact stg_b hS _ _) (by first | assumption | omega | exact hS.1 _ | exact hS.2 _ _)))) (r_cons (r_loc rfl rfl) r_nil)))) rfl (sp_X0_isSolid (by first | omega | assumption | exact r_zrg _ | exact hS.1 _ | exact hS.2 _ _ | exact stg_b hS _ _ | exact r_irg (by first | assumption | omega | exact hS.1 _ | exact hS.2 _ _ | exact stg_b hS _ _) (by first | assumption | omega | exact hS.1 _ | exact hS.2 _ _)) (by first | omega | assumption | exact r_zrg _ | exact hS.1 _ | exact hS.2 _ _ | exact stg_b hS _ _ | exact r_irg (by first | assumption | omega | exact hS.1 _ | exact hS.2 _ _ | exact stg_b hS _ _) (by first | assumption | omega | exact hS.1 _ | exact hS.2 _ _)) (by first | omega | assumption | exact r_zrg _ | exact hS.1 _ | exact hS.2 _ _ | exact stg_b hS _ _ | exact r_irg (by first | assumption | omega | exact hS.1 _ | exact hS.2 _ _ | exact stg_b hS _ _) (by first | assumption | omega | exact hS.1 _ | exact hS.2 _ _)) (by first | omega | assumption | exact r_zrg _ | exact hS.1 _ | exact hS.2 _ _ | exact stg_b hS _ _ | exact r_irg (by first | assumption | omega | exact hS.1 _ | exact hS.2 _ _ | exact stg_b hS _ _) (by first | assumption | omega | exact hS.1 _ | exact hS.2 _ _))) rfl)) (fun hp3 => (r_not (r_bz (r_call (r_cons (r_fld (r_loc rfl rfl) gg_Outlines_body) (r_cons (r_add (r_loc rfl rfl) (r_ro3 r_litr (r_loc rfl rfl) (by first | omega | assumption | exact r_zrg _ | exact hS.1 _ | exact hS.2 _ _ | exact stg_b hS _ _ | exact r_irg (by first | assumption | omega | exact hS.1 _ | exact hS.2 _ _ | exact stg_b hS _ _) (by first | assumption | omega | exact hS.1 _ | exact hS.2 _ _)) (by first | omega | assumption | exact r_zrg _ | exact hS.1 _ | exact hS.2 _ _ | exact stg_b hS _ _ | exact r_irg (by first | assumption | omega | exact hS.1 _ | exact hS.2 _ _ | exact stg_b hS _ _) (by first | assumption | omega | exact hS.1 _ | exact hS.2 _ _)))) (r_cons (r_add (r_loc rfl rfl) (r_ro4 r_litr (r_loc rfl rfl) (by first | omega | assumption | exact r_zrg _ | exact hS.1 _ | exact hS.2 _ _ | exact stg_b hS _ _ | exact r_irg (by first | assumption | omega | exact hS.1 _ | exact hS.2 _ _ | exact stg_b hS _ _) (by first | assumption | omega | exact hS.1 _ | exact hS.2 _ _)) (by first | omega | assumption | exact r_zrg _ | exact hS.1 _ | exact hS.2 _ _ | exact stg_b hS _ _ | exact r_irg (by first | assumption | omega | exact hS.1 _ | exact hS.2 _ _ | exact stg_b hS _ _) (by first | assumption | omega | exact hS.1 _ | exact hS.2 _ _)))) (r_cons (r_loc rfl rfl) r_nil)))) rfl (sp_X0_isSolid (by first | omega | assumption | exact r_zrg _ | exact hS.1 _ | exact hS.2 _ _ | exact stg_b hS _ _ | exact r_irg (by first | assumption | omega | exact hS.1 _ | exact hS.2 _ _ | exact stg_b hS _ _) (by first | assumption | omega | exact hS.1 _ | exact hS.2 _ _)) (by first | omega | assumption | exact r_zrg _ | exact hS.1 _ | exact hS.2 _ _ | exact stg_b hS _ _ | exact r_irg (by first | assumption | omega | exact hS.1 _ | exact hS.2 _ _ | exact stg_b hS _ _) (by first | assumption | omega | exact hS.1 _ | exact hS.2 _ _)) (by first | omega | assumption | exact r_zrg _ | exact hS.1 _ | exact hS.2 _ _ | exact stg_b hS _ _ | exact r_irg (by first | assumption | omega | exact hS.1 _ | exact hS.2 _ _ | exact stg_b hS _ _) (by first | assumption | omega | exact hS.1 _ | exact hS.2 _ _)) (by first | omega | assumption | exact r_zrg _ | exact hS.1 _ | exact hS.2 _ _ | exact stg_b hS _ _ | exact r_irg (by first | assumption | omega | exact hS.1 _ | exact hS.2 _ _ | exact stg_b hS _ _) (by first | assumption | omega | exact hS.1 _ | exact hS.2 _ _))) rfl)))))) ?_
    refine r_pret (r_fitb _) r_le0 ⟨congrArg Sum.inl ?_, rfl⟩
    refine r_bc ?_
    exact Iff.rfl
theorem sp_X5_wayOn {S : q_Sg} {c w : Nat} (hS : r_ok S) {x y k z : Int} (hx : -1 ≤ x ∧ x ≤ 13) (hy : -1 ≤ y ∧ y ≤ 13) (hk : 0 ≤ k ∧ k < 4) (hz : 0 ≤ z ∧ z < 12)  : r_F f_X5_wayOn [.ref 26, iv x, iv y, iv k, iv z] (q_en S, c, w) (iv (nxw (S.2.1 0) z x y k)) := by
  refine r_Fof (r_run (L := [_, _, _, _, _, _, _]) ⟨rfl, Nat.le_of_ble_eq_true rfl⟩ rfl ?_)
  unfold b_X5_wayOn
  refine r_seq ?_
  refine r_seq ?_
  refine r_sloc (L2 := [_, _, _, _, _, _, _]) (r_lit ql_1) rfl rfl ?_
  refine r_k0 ?_
  refine r_loop (T := Int × Option Value) (fun (σ : Int × Option Value) => match σ with | (t, o) => (-2 ≤ t ∧ t ≤ 1) ∧ ∀ u, t < u → u ≤ 1 → ¬ EDG (S.2.1 0) z x y ((k + u) % 4)) (fun (σ : Int × Option Value) => match σ with | (t, o) => (t + 2).toNat) (fun (σ : Int × Option Value) => match σ with | (t, o) => [some (.ref 26), some (iv x), some (iv y), some (iv k), some (iv z), some (iv t), o]) (fun (σ : Int × Option Value) => match σ with | (t, o) => (q_en S, c, w)) (1, _) rfl rfl ?_ ?_ ?_
  · exact ⟨by omega, fun u u0 u1 => by omega⟩
  · (show _ < 1000000); first | omega | (dsimp only; omega)
  · rintro ⟨t, o⟩ hP
    try dsimp only at hP ⊢
    obtain ⟨ht, hP⟩ := hP
    refine ⟨_, (r_ge (r_loc rfl rfl) (r_lit ql_m1) (by first | omega | assumption | exact r_zrg _ | exact hS.1 _ | exact hS.2 _ _ | exact stg_b hS _ _ | exact r_irg (by first | assumption | omega | exact hS.1 _ | exact hS.2 _ _ | exact stg_b hS _ _) (by first | assumption | omega | exact hS.1 _ | exact hS.2 _ _)) (by first | omega | assumption | exact r_zrg _ | exact hS.1 _ | exact hS.2 _ _ | exact stg_b hS _ _ | exact r_irg (by first | assumption | omega | exact hS.1 _ | exact hS.2 _ _ | exact stg_b hS _ _) (by first | assumption | omega | exact hS.1 _ | exact hS.2 _ _))), fun hp1 => ?_, fun hp2 => ?_⟩
    ·
      refine r_k0 ?_
      refine r_sret (r_loc rfl rfl) ?_
      refine r_pret (q_fit_int _) r_le0 ⟨congrArg Sum.inl ?_, rfl⟩
      refine congrArg iv ?_
      have h1 := hP 1 (by omega) (by omega); have h0 := hP 0 (by omega) (by omega); have hm := hP (-1) (by omega) (by omega)
      unfold nxw
      rw [Int.add_zero, show k % 4 = k by omega] at h0
      rw [r_i0 h1, r_i0 h0, r_i0 hm]
    ·
      refine r_seq ?_
      refine r_sloc (L2 := [_, _, _, _, _, _, _]) (r_call (r_cons (r_loc rfl rfl) (r_cons (r_loc rfl rfl) r_nil)) rfl (sp_X5_turned (by first | omega | assumption | exact r_zrg _ | exact hS.1 _ | exact hS.2 _ _ | exact stg_b hS _ _ | exact r_irg (by first | assumption | omega | exact hS.1 _ | exact hS.2 _ _ | exact stg_b hS _ _) (by first | assumption | omega | exact hS.1 _ | exact hS.2 _ _)) (by first | omega | assumption | exact r_zrg _ | exact hS.1 _ | exact hS.2 _ _ | exact stg_b hS _ _ | exact r_irg (by first | assumption | omega | exact hS.1 _ | exact hS.2 _ _ | exact stg_b hS _ _) (by first | assumption | omega | exact hS.1 _ | exact hS.2 _ _))) rfl) rfl rfl ?_
      refine r_k0 ?_
      refine r_sif (r_bz (r_call (r_cons (r_loc rfl rfl) (r_cons (r_loc rfl rfl) (r_cons (r_loc rfl rfl) (r_cons (r_loc rfl rfl) (r_cons (r_loc rfl rfl) r_nil))))) rfl (sp_X5_isEdge (by first | omega | assumption | exact r_zrg _ | exact hS.1 _ | exact hS.2 _ _ | exact stg_b hS _ _ | exact r_irg (by first | assumption | omega | exact hS.1 _ | exact hS.2 _ _ | exact stg_b hS _ _) (by first | assumption | omega | exact hS.1 _ | exact hS.2 _ _)) (by first | omega | assumption | exact r_zrg _ | exact hS.1 _ | exact hS.2 _ _ | exact stg_b hS _ _ | exact r_irg (by first | assumption | omega | exact hS.1 _ | exact hS.2 _ _ | exact stg_b hS _ _) (by first | assumption | omega | exact hS.1 _ | exact hS.2 _ _)) (by first | omega | assumption | exact r_zrg _ | exact hS.1 _ | exact hS.2 _ _ | exact stg_b hS _ _ | exact r_irg (by first | assumption | omega | exact hS.1 _ | exact hS.2 _ _ | exact stg_b hS _ _) (by first | assumption | omega | exact hS.1 _ | exact hS.2 _ _)) (by first | omega | assumption | exact r_zrg _ | exact hS.1 _ | exact hS.2 _ _ | exact stg_b hS _ _ | exact r_irg (by first | assumption | omega | exact hS.1 _ | exact hS.2 _ _ | exact stg_b hS _ _) (by first | assumption | omega | exact hS.1 _ | exact hS.2 _ _)) (by first | omega | assumption | exact r_zrg _ | exact hS.1 _ | exact hS.2 _ _ | exact stg_b hS _ _ | exact r_irg (by first | assumption | omega | exact hS.1 _ | exact hS.2 _ _ | exact stg_b hS _ _) (by first | assumption | omega | exact hS.1 _ | exact hS.2 _ _))) rfl)) (fun hp3 => ?_) (fun hp4 => ?_)
      ·
        refine r_sret (r_loc rfl rfl) ?_
        refine r_l3 (j := 1) ?_
        refine r_ks (j := 3) ?_
        refine r_pret (q_fit_int _) r_le0 ⟨congrArg Sum.inl ?_, rfl⟩
        refine congrArg iv ?_
        unfold nxw
        have hE : EDG (S.2.1 0) z x y ((k + t) % 4) := by assumption
        rcases (show t = 1 ∨ t = 0 ∨ t = -1 by omega) with e | e | e
        · rw [e] at hE ⊢; rw [r_i1 hE]
        · have h1 := hP 1 (by omega) (by omega)
          rw [e, Int.add_zero, show k % 4 = k by omega] at hE ⊢
          rw [r_i0 h1, r_i1 hE]
        · have h1 := hP 1 (by omega) (by omega); have h0 := hP 0 (by omega) (by omega)
          rw [Int.add_zero, show k % 4 = k by omega] at h0
          rw [e] at hE ⊢
          rw [r_i0 h1, r_i0 h0, r_i1 hE]
      ·
        refine wS_skip ?_
        refine r_l0 ?_
        refine r_sinc (L2 := [_, _, _, _, _, _, _]) rfl rfl ?_
        refine r_lend (t + -1, _) rfl rfl ?_ (by first | omega | (dsimp only; omega))
        try dsimp only
        refine ⟨by omega, fun u u0 u1 => ?_⟩
        by_cases d : u = t
        · rw [d]; assumption
        · exact hP u (by omega) u1
theorem sp_X5_edgeOf {x y k : Int} {h : qH} (hx : 0 ≤ x ∧ x < 13) (hy : 0 ≤ y ∧ y < 13) (hk : 0 ≤ k ∧ k < 4) : r_F f_X5_edgeOf [iv x, iv y, iv k] h (iv ((y * 13 + x) * 4 + k)) := by
  refine r_Fof (r_run (L := [_, _, _]) ⟨rfl, Nat.le_of_ble_eq_true rfl⟩ rfl ?_)
  unfold b_X5_edgeOf
  refine r_seq ?_
  refine r_sif (r_or (r_or (r_or (r_or (r_z_lt (r_loc rfl rfl) (by first | omega | assumption | exact r_zrg _ | exact hS.1 _ | exact hS.2 _ _ | exact stg_b hS _ _ | exact r_irg (by first | assumption | omega | exact hS.1 _ | exact hS.2 _ _ | exact stg_b hS _ _) (by first | assumption | omega | exact hS.1 _ | exact hS.2 _ _))) (fun hp1 => (r_ge (r_loc rfl rfl) (r_lit ql_13) (by first | omega | assumption | exact r_zrg _ | exact hS.1 _ | exact hS.2 _ _ | exact stg_b hS _ _ | exact r_irg (by first | assumption | omega | exact hS.1 _ | exact hS.2 _ _ | exact stg_b hS _ _) (by first | assumption | omega | exact hS.1 _ | exact hS.2 _ _)) (by first | omega | assumption | exact r_zrg _ | exact hS.1 _ | exact hS.2 _ _ | exact stg_b hS _ _ | exact r_irg (by first | assumption | omega | exact hS.1 _ | exact hS.2 _ _ | exact stg_b hS _ _) (by first | assumption | omega | exact hS.1 _ | exact hS.2 _ _))))) (fun hp2 => (r_z_lt (r_loc rfl rfl) (by first | omega | assumption | exact r_zrg _ | exact hS.1 _ | exact hS.2 _ _ | exact stg_b hS _ _ | exact r_irg (by first | assumption | omega | exact hS.1 _ | exact hS.2 _ _ | exact stg_b hS _ _) (by first | assumption | omega | exact hS.1 _ | exact hS.2 _ _))))) (fun hp3 => (r_ge (r_loc rfl rfl) (r_lit ql_13) (by first | omega | assumption | exact r_zrg _ | exact hS.1 _ | exact hS.2 _ _ | exact stg_b hS _ _ | exact r_irg (by first | assumption | omega | exact hS.1 _ | exact hS.2 _ _ | exact stg_b hS _ _) (by first | assumption | omega | exact hS.1 _ | exact hS.2 _ _)) (by first | omega | assumption | exact r_zrg _ | exact hS.1 _ | exact hS.2 _ _ | exact stg_b hS _ _ | exact r_irg (by first | assumption | omega | exact hS.1 _ | exact hS.2 _ _ | exact stg_b hS _ _) (by first | assumption | omega | exact hS.1 _ | exact hS.2 _ _))))) (fun hp4 => (r_not (r_bz (r_call (r_cons (r_loc rfl rfl) r_nil) rfl (sp_X5_isWay (by first | omega | assumption | exact r_zrg _ | exact hS.1 _ | exact hS.2 _ _ | exact stg_b hS _ _ | exact r_irg (by first | assumption | omega | exact hS.1 _ | exact hS.2 _ _ | exact stg_b hS _ _) (by first | assumption | omega | exact hS.1 _ | exact hS.2 _ _))) rfl))))) (fun hp5 => ?_) (fun hp6 => ?_)
  ·
    have hpT := hp5
    have hpT0 := hp5
    omega
  ·
    have hpF := hp6
    have hpF0 := hp6
    refine wS_skip ?_
    refine r_k0 ?_
    refine r_sret (r_add (r_mul (r_add (r_mul (r_loc rfl rfl) (r_lit ql_13)) (r_loc rfl rfl)) (r_lit ql_4)) (r_loc rfl rfl)) ?_
    refine r_pret (q_fit_int _) r_le0 ⟨congrArg Sum.inl ?_, rfl⟩
    refine congrArg iv ?_
    rfl
theorem sp_X5_countEdges {S : q_Sg} {c w : Nat} (hS : r_ok S) {z : Int} (hz : 0 ≤ z ∧ z < 12) : r_F f_X5_countEdges [.ref 26, iv z] (q_en S, c, w) (iv (cnt (fun e => EDG (S.2.1 0) z (e / 4 % 13) (e / 52) (e % 4)) 676)) := by
  refine r_Fof (r_run (L := [_, _, _, _]) ⟨rfl, Nat.le_of_ble_eq_true rfl⟩ rfl ?_)
  unfold b_X5_countEdges
  refine r_seq ?_
  refine r_sloc (L2 := [_, _, _, _]) (r_lit ql_0) rfl rfl ?_
  refine r_k0 ?_
  refine r_seq ?_
  refine r_seq ?_
  refine r_sloc (L2 := [_, _, _, _]) (r_lit ql_0) rfl rfl ?_
  refine r_k0 ?_
  refine r_loop (T := Int × Int) (fun (σ : Int × Int) => match σ with | (k, m) => (0 ≤ k ∧ k ≤ 676) ∧ m = cnt (fun e => EDG (S.2.1 0) z (e / 4 % 13) (e / 52) (e % 4)) k.toNat) (fun (σ : Int × Int) => match σ with | (k, m) => (676 - k).toNat) (fun (σ : Int × Int) => match σ with | (k, m) => [some (.ref 26), some (iv z), some (iv m), some (iv k)]) (fun (σ : Int × Int) => match σ with | (k, m) => (q_en S, c, w)) (0, 0) rfl rfl ?_ ?_ ?_
  · exact ⟨by omega, rfl⟩
  · (show _ < 1000000); first | omega | (dsimp only; omega)
  · rintro ⟨k, m⟩ hP
    try dsimp only at hP ⊢
    obtain ⟨hk, hm⟩ := hP
    refine ⟨_, (r_lt (r_loc rfl rfl) (r_lit ql_676) (by first | omega | assumption | exact r_zrg _ | exact hS.1 _ | exact hS.2 _ _ | exact stg_b hS _ _ | exact r_irg (by first | assumption | omega | exact hS.1 _ | exact hS.2 _ _ | exact stg_b hS _ _) (by first | assumption | omega | exact hS.1 _ | exact hS.2 _ _)) (by first | omega | assumption | exact r_zrg _ | exact hS.1 _ | exact hS.2 _ _ | exact stg_b hS _ _ | exact r_irg (by first | assumption | omega | exact hS.1 _ | exact hS.2 _ _ | exact stg_b hS _ _) (by first | assumption | omega | exact hS.1 _ | exact hS.2 _ _))), fun hp1 => ?_, fun hp2 => ?_⟩
    ·
      refine r_k0 ?_
      refine r_sret (r_loc rfl rfl) ?_
      refine r_pret (q_fit_int _) r_le0 ⟨congrArg Sum.inl ?_, rfl⟩
      refine congrArg iv ?_
      rw [hm, show k = 676 by omega]; rfl
    ·
      refine r_sif (r_bz (r_call (r_cons (r_loc rfl rfl) (r_cons (r_call (r_cons (r_loc rfl rfl) r_nil) rfl (sp_X5_cornerX (by first | omega | assumption | exact r_zrg _ | exact hS.1 _ | exact hS.2 _ _ | exact stg_b hS _ _ | exact r_irg (by first | assumption | omega | exact hS.1 _ | exact hS.2 _ _ | exact stg_b hS _ _) (by first | assumption | omega | exact hS.1 _ | exact hS.2 _ _))) rfl) (r_cons (r_call (r_cons (r_loc rfl rfl) r_nil) rfl (sp_X5_cornerY (by first | omega | assumption | exact r_zrg _ | exact hS.1 _ | exact hS.2 _ _ | exact stg_b hS _ _ | exact r_irg (by first | assumption | omega | exact hS.1 _ | exact hS.2 _ _ | exact stg_b hS _ _) (by first | assumption | omega | exact hS.1 _ | exact hS.2 _ _))) rfl) (r_cons (r_call (r_cons (r_loc rfl rfl) r_nil) rfl (sp_X5_wayOf (by first | omega | assumption | exact r_zrg _ | exact hS.1 _ | exact hS.2 _ _ | exact stg_b hS _ _ | exact r_irg (by first | assumption | omega | exact hS.1 _ | exact hS.2 _ _ | exact stg_b hS _ _) (by first | assumption | omega | exact hS.1 _ | exact hS.2 _ _))) rfl) (r_cons (r_loc rfl rfl) r_nil))))) rfl (sp_X5_isEdge (by first | omega | assumption | exact r_zrg _ | exact hS.1 _ | exact hS.2 _ _ | exact stg_b hS _ _ | exact r_irg (by first | assumption | omega | exact hS.1 _ | exact hS.2 _ _ | exact stg_b hS _ _) (by first | assumption | omega | exact hS.1 _ | exact hS.2 _ _)) (by first | omega | assumption | exact r_zrg _ | exact hS.1 _ | exact hS.2 _ _ | exact stg_b hS _ _ | exact r_irg (by first | assumption | omega | exact hS.1 _ | exact hS.2 _ _ | exact stg_b hS _ _) (by first | assumption | omega | exact hS.1 _ | exact hS.2 _ _)) (by first | omega | assumption | exact r_zrg _ | exact hS.1 _ | exact hS.2 _ _ | exact stg_b hS _ _ | exact r_irg (by first | assumption | omega | exact hS.1 _ | exact hS.2 _ _ | exact stg_b hS _ _) (by first | assumption | omega | exact hS.1 _ | exact hS.2 _ _)) (by first | omega | assumption | exact r_zrg _ | exact hS.1 _ | exact hS.2 _ _ | exact stg_b hS _ _ | exact r_irg (by first | assumption | omega | exact hS.1 _ | exact hS.2 _ _ | exact stg_b hS _ _) (by first | assumption | omega | exact hS.1 _ | exact hS.2 _ _)) (by first | omega | assumption | exact r_zrg _ | exact hS.1 _ | exact hS.2 _ _ | exact stg_b hS _ _ | exact r_irg (by first | assumption | omega | exact hS.1 _ | exact hS.2 _ _ | exact stg_b hS _ _) (by first | assumption | omega | exact hS.1 _ | exact hS.2 _ _))) rfl)) (fun hp3 => ?_) (fun hp4 => ?_)
      ·
        refine r_sinc (L2 := [_, _, _, _]) rfl rfl ?_
        refine r_l0 ?_
        refine r_sinc (L2 := [_, _, _, _]) rfl rfl ?_
        refine r_lend (k + 1, m + 1) rfl rfl ?_ (by first | omega | (dsimp only; omega))
        try dsimp only
        exact ⟨by omega, by rw [hm, cnt_t (by omega)]; assumption⟩
      ·
        refine wS_skip ?_
        refine r_l0 ?_
        refine r_sinc (L2 := [_, _, _, _]) rfl rfl ?_
        refine r_lend (k + 1, m) rfl rfl ?_ (by first | omega | (dsimp only; omega))
        try dsimp only
        exact ⟨by omega, by rw [hm, cnt_f (by omega)]; assumption⟩
theorem sp_X10_edges {S : q_Sg} {c w : Nat} (hS : r_ok S) {z : Int} (hz : rg z) : r_X f_X10_edges [.ref 47, iv z] (q_en S, c, w) (fun r h2 => h2 = (q_en (q_sI S 23 (r_i (0 ≤ z ∧ z < 12) 0 1)), c, w) ∧ (((r_i (0 ≤ z ∧ z < 12) 0 1) = 0 ∧ r = iv (cnt (fun k => SOL (S.2.1 21) (k / 4 % 12) (k / 48) z ∧ ¬ SOL (S.2.1 21) (k / 4 % 12 + r_s1 (k % 4)) (k / 48 + r_s2 (k % 4)) z) 576)) ∨ (¬ (r_i (0 ≤ z ∧ z < 12) 0 1) = 0 ∧ r = iv 0))) := by
  refine r_Xof (r_run (L := [_, _, _, _, _, _]) ⟨rfl, Nat.le_of_ble_eq_true rfl⟩ rfl ?_)
  unfold b_X10_edges
  have hzr : (r_i (0 ≤ z ∧ z < 12) 0 1) = 0 → 0 ≤ z ∧ z < 12 := by unfold r_i; (repeat' split) <;> omega
  refine r_seq ?_
  refine r_sloc (L2 := [_, _, _, _, _, _]) (r_lit ql_0) rfl rfl ?_
  refine r_k0 ?_
  refine r_seq ?_
  refine r_seq ?_
  refine r_sloc (L2 := [_, _, _, _, _, _]) (r_lit ql_0) rfl rfl ?_
  refine r_k0 ?_
  refine r_loop (T := Int × Int × Option Value × Option Value) (fun (σ : Int × Int × Option Value × Option Value) => match σ with | (k, n, o, o2) => (0 ≤ k ∧ k ≤ 576) ∧ n = cnt (fun k => SOL (S.2.1 21) (k / 4 % 12) (k / 48) z ∧ ¬ SOL (S.2.1 21) (k / 4 % 12 + r_s1 (k % 4)) (k / 48 + r_s2 (k % 4)) z) k.toNat) (fun (σ : Int × Int × Option Value × Option Value) => match σ with | (k, n, o, o2) => (576 - k).toNat) (fun (σ : Int × Int × Option Value × Option Value) => match σ with | (k, n, o, o2) => [some (.ref 47), some (iv z), some (iv n), some (iv k), o, o2]) (fun (σ : Int × Int × Option Value × Option Value) => match σ with | (k, n, o, o2) => (q_en S, c, w)) (0, 0, _, _) rfl rfl ?_ ?_ ?_
  · exact ⟨by omega, rfl⟩
  · (show _ < 1000000); first | omega | (dsimp only; omega)
  · rintro ⟨k, n, o, o2⟩ hP
    try dsimp only at hP ⊢
    obtain ⟨hk, hn⟩ := hP
    refine ⟨_, (r_and (r_bz (r_call (r_cons (r_loc rfl rfl) r_nil) rfl (sp_X10_isLayer (by first | omega | assumption | exact hS.1 _ | exact hS.2 _ _ | (unfold r_i; (repeat' split) <;> omega) | exact r_zrg _)) rfl)) (fun hp3 => (r_lt (r_loc rfl rfl) (r_lit ql_576) (by first | omega | assumption | exact hS.1 _ | exact hS.2 _ _ | (unfold r_i; (repeat' split) <;> omega) | exact r_zrg _) (by first | omega | assumption | exact hS.1 _ | exact hS.2 _ _ | (unfold r_i; (repeat' split) <;> omega) | exact r_zrg _)))), fun hp1 => ?_, fun hp2 => ?_⟩
    ·
      have hx := hp1
      refine r_k0 ?_
      refine r_sretD (r_Dz (r_callG (r_cons (r_loc rfl rfl) (r_cons (r_if (r_bz (r_call (r_cons (r_loc rfl rfl) r_nil) rfl (sp_X10_isLayer (by first | omega | assumption | exact hS.1 _ | exact hS.2 _ _ | (unfold r_i; (repeat' split) <;> omega) | exact r_zrg _)) rfl)) (fun hp4 => (r_lit ql_0)) (fun hp5 => (r_lit ql_1))) r_nil)) rfl (sp_X10_goesOn (by first | omega | assumption | exact hS.1 _ | exact hS.2 _ _ | (unfold r_i; (repeat' split) <;> omega) | exact r_zrg _)) rfl)) (fun hp6 => ?_) (fun hp7 => ?_)
      ·
        refine r_sret (r_loc rfl rfl) ?_
        refine r_pret (q_fit_int _) r_le0 ?_
        have hz0 : 0 ≤ z ∧ z < 12 := hzr (by assumption)
        have hk4 : k = 576 := by omega
        exact ⟨_, rfl, rfl, Or.inl ⟨by assumption, by rw [hn, hk4]; rfl⟩⟩
      ·
        refine r_sret (r_lit ql_0) ?_
        refine r_pret (q_fit_int _) r_le0 ?_
        exact ⟨_, rfl, rfl, Or.inr ⟨by assumption, rfl⟩⟩
    ·
      have s1 := r_s1b (k % 4); have s2 := r_s2b (k % 4)
      have e48 : k / 4 / 12 = k / 48 := by omega
      refine r_seq ?_
      refine r_sloc (L2 := [_, _, _, _, _, _]) (r_rem (r_div (r_loc rfl rfl) (r_lit ql_4) (by first | omega | assumption | exact hS.1 _ | exact hS.2 _ _ | (unfold r_i; (repeat' split) <;> omega) | exact r_zrg _) (by first | omega | assumption | exact hS.1 _ | exact hS.2 _ _ | (unfold r_i; (repeat' split) <;> omega) | exact r_zrg _) (by first | omega | assumption | exact hS.1 _ | exact hS.2 _ _ | (unfold r_i; (repeat' split) <;> omega) | exact r_zrg _) (by first | omega | assumption | exact hS.1 _ | exact hS.2 _ _ | (unfold r_i; (repeat' split) <;> omega) | exact r_zrg _)) (r_lit ql_12) (by first | omega | assumption | exact hS.1 _ | exact hS.2 _ _ | (unfold r_i; (repeat' split) <;> omega) | exact r_zrg _) (by first | omega | assumption | exact hS.1 _ | exact hS.2 _ _ | (unfold r_i; (repeat' split) <;> omega) | exact r_zrg _) (by first | omega | assumption | exact hS.1 _ | exact hS.2 _ _ | (unfold r_i; (repeat' split) <;> omega) | exact r_zrg _) (by first | omega | assumption | exact hS.1 _ | exact hS.2 _ _ | (unfold r_i; (repeat' split) <;> omega) | exact r_zrg _)) rfl rfl ?_
      refine r_k0 ?_
      refine r_seq ?_
      refine r_sloc (L2 := [_, _, _, _, _, _]) (r_div (r_div (r_loc rfl rfl) (r_lit ql_4) (by first | omega | assumption | exact hS.1 _ | exact hS.2 _ _ | (unfold r_i; (repeat' split) <;> omega) | exact r_zrg _) (by first | omega | assumption | exact hS.1 _ | exact hS.2 _ _ | (unfold r_i; (repeat' split) <;> omega) | exact r_zrg _) (by first | omega | assumption | exact hS.1 _ | exact hS.2 _ _ | (unfold r_i; (repeat' split) <;> omega) | exact r_zrg _) (by first | omega | assumption | exact hS.1 _ | exact hS.2 _ _ | (unfold r_i; (repeat' split) <;> omega) | exact r_zrg _)) (r_lit ql_12) (by first | omega | assumption | exact hS.1 _ | exact hS.2 _ _ | (unfold r_i; (repeat' split) <;> omega) | exact r_zrg _) (by first | omega | assumption | exact hS.1 _ | exact hS.2 _ _ | (unfold r_i; (repeat' split) <;> omega) | exact r_zrg _) (by first | omega | assumption | exact hS.1 _ | exact hS.2 _ _ | (unfold r_i; (repeat' split) <;> omega) | exact r_zrg _) (by first | omega | assumption | exact hS.1 _ | exact hS.2 _ _ | (unfold r_i; (repeat' split) <;> omega) | exact r_zrg _)) rfl rfl ?_
      refine r_k0 ?_
      refine r_sloc (L2 := [_, _, _, _, _, _]) (r_add (r_loc rfl rfl) (r_if10 (r_and (r_bz (r_call (r_cons (r_loc rfl rfl) (r_cons (r_loc rfl rfl) (r_cons (r_loc rfl rfl) (r_cons (r_loc rfl rfl) r_nil)))) rfl (sp_X10_isSolid (by first | omega | assumption | exact hS.1 _ | exact hS.2 _ _ | (unfold r_i; (repeat' split) <;> omega) | exact r_zrg _) (by first | omega | assumption | exact hS.1 _ | exact hS.2 _ _ | (unfold r_i; (repeat' split) <;> omega) | exact r_zrg _) (by first | omega | assumption | exact hS.1 _ | exact hS.2 _ _ | (unfold r_i; (repeat' split) <;> omega) | exact r_zrg _) (by first | omega | assumption | exact hS.1 _ | exact hS.2 _ _ | (unfold r_i; (repeat' split) <;> omega) | exact r_zrg _)) rfl)) (fun hp8 => (r_not (r_bz (r_call (r_cons (r_loc rfl rfl) (r_cons (r_add (r_loc rfl rfl) (r_call (r_cons (r_rem (r_loc rfl rfl) (r_lit ql_4) (by first | omega | assumption | exact hS.1 _ | exact hS.2 _ _ | (unfold r_i; (repeat' split) <;> omega) | exact r_zrg _) (by first | omega | assumption | exact hS.1 _ | exact hS.2 _ _ | (unfold r_i; (repeat' split) <;> omega) | exact r_zrg _) (by first | omega | assumption | exact hS.1 _ | exact hS.2 _ _ | (unfold r_i; (repeat' split) <;> omega) | exact r_zrg _) (by first | omega | assumption | exact hS.1 _ | exact hS.2 _ _ | (unfold r_i; (repeat' split) <;> omega) | exact r_zrg _)) r_nil) rfl (sp_X10_stepX (by first | omega | assumption | exact hS.1 _ | exact hS.2 _ _ | (unfold r_i; (repeat' split) <;> omega) | exact r_zrg _)) rfl)) (r_cons (r_add (r_loc rfl rfl) (r_call (r_cons (r_rem (r_loc rfl rfl) (r_lit ql_4) (by first | omega | assumption | exact hS.1 _ | exact hS.2 _ _ | (unfold r_i; (repeat' split) <;> omega) | exact r_zrg _) (by first | omega | assumption | exact hS.1 _ | exact hS.2 _ _ | (unfold r_i; (repeat' split) <;> omega) | exact r_zrg _) (by first | omega | assumption | exact hS.1 _ | exact hS.2 _ _ | (unfold r_i; (repeat' split) <;> omega) | exact r_zrg _) (by first | omega | assumption | exact hS.1 _ | exact hS.2 _ _ | (unfold r_i; (repeat' split) <;> omega) | exact r_zrg _)) r_nil) rfl (sp_X10_stepY (by first | omega | assumption | exact hS.1 _ | exact hS.2 _ _ | (unfold r_i; (repeat' split) <;> omega) | exact r_zrg _)) rfl)) (r_cons (r_loc rfl rfl) r_nil)))) rfl (sp_X10_isSolid (by first | omega | assumption | exact hS.1 _ | exact hS.2 _ _ | (unfold r_i; (repeat' split) <;> omega) | exact r_zrg _) (by first | omega | assumption | exact hS.1 _ | exact hS.2 _ _ | (unfold r_i; (repeat' split) <;> omega) | exact r_zrg _) (by first | omega | assumption | exact hS.1 _ | exact hS.2 _ _ | (unfold r_i; (repeat' split) <;> omega) | exact r_zrg _) (by first | omega | assumption | exact hS.1 _ | exact hS.2 _ _ | (unfold r_i; (repeat' split) <;> omega) | exact r_zrg _)) rfl))))))) rfl rfl ?_
      refine r_l0 ?_
      refine r_sinc (L2 := [_, _, _, _, _, _]) rfl rfl ?_
      refine r_lend (k + 1, n + r_z (SOL (S.2.1 21) (k / 4 % 12) (k / 48) z ∧ ¬ SOL (S.2.1 21) (k / 4 % 12 + r_s1 (k % 4)) (k / 48 + r_s2 (k % 4)) z), _, _) (by rw [e48]) rfl ?_ (by first | omega | (dsimp only; omega))
      try dsimp only
      exact ⟨by omega, by rw [hn, cnt_s hk.1]⟩
