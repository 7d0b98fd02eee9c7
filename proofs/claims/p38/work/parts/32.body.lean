theorem sp_J9_abs {x : Int} {h : qH} (hx : rg x) : r_F f_J9_abs [iv x] h (iv (r_i (x < 0) (-x) x)) := by
  refine r_Fof (r_run (L := [_]) ⟨rfl, Nat.le_of_ble_eq_true rfl⟩ rfl ?_)
  unfold b_J9_abs
  refine r_sret (r_if (r_z_lt (r_loc rfl rfl) (by first | omega | assumption | exact r_zrg _ | exact hS.1 _ | exact hS.2 _ _)) (fun hp1 => (r_neg (r_loc rfl rfl))) (fun hp2 => (r_loc rfl rfl))) ?_
  refine r_pret (q_fit_int _) r_le0 ⟨congrArg Sum.inl ?_, rfl⟩
  refine congrArg iv ?_
  rfl
theorem sp_J9_min {x y : Int} {h : qH} (hx : rg x) (hy : rg y) : r_F f_J9_min [iv x, iv y] h (iv (r_i (x ≤ y) x y)) := by
  refine r_Fof (r_run (L := [_, _]) ⟨rfl, Nat.le_of_ble_eq_true rfl⟩ rfl ?_)
  unfold b_J9_min
  refine r_sret (r_if (r_le (r_loc rfl rfl) (r_loc rfl rfl) (by first | omega | assumption | exact r_zrg _ | exact hS.1 _ | exact hS.2 _ _) (by first | omega | assumption | exact r_zrg _ | exact hS.1 _ | exact hS.2 _ _)) (fun hp1 => (r_loc rfl rfl)) (fun hp2 => (r_loc rfl rfl))) ?_
  refine r_pret (q_fit_int _) r_le0 ⟨congrArg Sum.inl ?_, rfl⟩
  refine congrArg iv ?_
  rfl
theorem sp_J9_max {x y : Int} {h : qH} (hx : rg x) (hy : rg y) : r_F f_J9_max [iv x, iv y] h (iv (r_i (y ≤ x) x y)) := by
  refine r_Fof (r_run (L := [_, _]) ⟨rfl, Nat.le_of_ble_eq_true rfl⟩ rfl ?_)
  unfold b_J9_max
  refine r_sret (r_if (r_ge (r_loc rfl rfl) (r_loc rfl rfl) (by first | omega | assumption | exact r_zrg _ | exact hS.1 _ | exact hS.2 _ _) (by first | omega | assumption | exact r_zrg _ | exact hS.1 _ | exact hS.2 _ _)) (fun hp1 => (r_loc rfl rfl)) (fun hp2 => (r_loc rfl rfl))) ?_
  refine r_pret (q_fit_int _) r_le0 ⟨congrArg Sum.inl ?_, rfl⟩
  refine congrArg iv ?_
  rfl
theorem sp_X9_isCell {x y z : Int} {h : qH} (hx : rg x) (hy : rg y) (hz : rg z) : r_F f_X9_isCell [iv x, iv y, iv z] h (r_b (inc x y z)) := by
  refine r_Fof (r_run (L := [_, _, _]) ⟨rfl, Nat.le_of_ble_eq_true rfl⟩ rfl ?_)
  unfold b_X9_isCell
  refine r_sret (r_if10 (r_and (r_and (r_and (r_and (r_and (r_z_ge (r_loc rfl rfl) (by first | omega | assumption | exact r_zrg _ | exact hS.1 _ | exact hS.2 _ _)) (fun hp1 => (r_lt (r_loc rfl rfl) (r_lit ql_12) (by first | omega | assumption | exact r_zrg _ | exact hS.1 _ | exact hS.2 _ _) (by first | omega | assumption | exact r_zrg _ | exact hS.1 _ | exact hS.2 _ _)))) (fun hp2 => (r_z_ge (r_loc rfl rfl) (by first | omega | assumption | exact r_zrg _ | exact hS.1 _ | exact hS.2 _ _)))) (fun hp3 => (r_lt (r_loc rfl rfl) (r_lit ql_12) (by first | omega | assumption | exact r_zrg _ | exact hS.1 _ | exact hS.2 _ _) (by first | omega | assumption | exact r_zrg _ | exact hS.1 _ | exact hS.2 _ _)))) (fun hp4 => (r_z_ge (r_loc rfl rfl) (by first | omega | assumption | exact r_zrg _ | exact hS.1 _ | exact hS.2 _ _)))) (fun hp5 => (r_lt (r_loc rfl rfl) (r_lit ql_12) (by first | omega | assumption | exact r_zrg _ | exact hS.1 _ | exact hS.2 _ _) (by first | omega | assumption | exact r_zrg _ | exact hS.1 _ | exact hS.2 _ _))))) ?_
  refine r_pret (r_fitb _) r_le0 ⟨congrArg Sum.inl ?_, rfl⟩
  refine r_bc ?_
  omega
theorem sp_X9_isPlace {x : Int} {h : qH} (hx : rg x) : r_F f_X9_isPlace [iv x] h (r_b (0 ≤ x ∧ x < 12)) := by
  refine r_Fof (r_run (L := [_]) ⟨rfl, Nat.le_of_ble_eq_true rfl⟩ rfl ?_)
  unfold b_X9_isPlace
  refine r_sret (r_if10 (r_and (r_z_ge (r_loc rfl rfl) (by first | omega | assumption | exact r_zrg _ | exact hS.1 _ | exact hS.2 _ _)) (fun hp1 => (r_lt (r_loc rfl rfl) (r_lit ql_12) (by first | omega | assumption | exact r_zrg _ | exact hS.1 _ | exact hS.2 _ _) (by first | omega | assumption | exact r_zrg _ | exact hS.1 _ | exact hS.2 _ _))))) ?_
  refine r_pret (r_fitb _) r_le0 ⟨congrArg Sum.inl ?_, rfl⟩
  refine r_bc ?_
  omega
theorem sp_X9_indexOf {x y z : Int} {h : qH} : r_F f_X9_indexOf [iv x, iv y, iv z] h (iv (144 * z + 12 * y + x)) := by
  refine r_Fof (r_run (L := [_, _, _]) ⟨rfl, Nat.le_of_ble_eq_true rfl⟩ rfl ?_)
  unfold b_X9_indexOf
  refine r_sret (r_add (r_add (r_mul (r_loc rfl rfl) (r_lit ql_144)) (r_mul (r_loc rfl rfl) (r_lit ql_12))) (r_loc rfl rfl)) ?_
  refine r_pret (q_fit_int _) r_le0 ⟨congrArg Sum.inl ?_, rfl⟩
  refine congrArg iv ?_
  omega
theorem sp_X9_canBeHalved {z : Int} {h : qH} (hz : 0 ≤ z ∧ z < 12) : r_F f_X9_canBeHalved [iv z] h (r_b (z % 2 = 0)) := by
  refine r_Fof (r_run (L := [_]) ⟨rfl, Nat.le_of_ble_eq_true rfl⟩ rfl ?_)
  unfold b_X9_canBeHalved
  refine r_sret (r_if10 (r_z_eq (r_rem (r_loc rfl rfl) (r_lit ql_2) (by first | omega | assumption | exact r_zrg _ | exact hS.1 _ | exact hS.2 _ _) (by first | omega | assumption | exact r_zrg _ | exact hS.1 _ | exact hS.2 _ _) (by first | omega | assumption | exact r_zrg _ | exact hS.1 _ | exact hS.2 _ _) (by first | omega | assumption | exact r_zrg _ | exact hS.1 _ | exact hS.2 _ _)) (by first | omega | assumption | exact r_zrg _ | exact hS.1 _ | exact hS.2 _ _))) ?_
  refine r_pret (r_fitb _) r_le0 ⟨congrArg Sum.inl ?_, rfl⟩
  refine r_bc ?_
  omega
theorem sp_X9_signOf {x : Int} {h : qH} (hx : rg x) : r_F f_X9_signOf [iv x] h (iv (r_i (0 < x) 1 (r_i (x < 0) (-1) 0))) := by
  refine r_Fof (r_run (L := [_]) ⟨rfl, Nat.le_of_ble_eq_true rfl⟩ rfl ?_)
  unfold b_X9_signOf
  refine r_sret (r_if (r_z_gt (r_loc rfl rfl) (by first | omega | assumption | exact r_zrg _ | exact hS.1 _ | exact hS.2 _ _)) (fun hp1 => (r_lit ql_1)) (fun hp2 => (r_if (r_z_lt (r_loc rfl rfl) (by first | omega | assumption | exact r_zrg _ | exact hS.1 _ | exact hS.2 _ _)) (fun hp3 => (r_lit ql_m1)) (fun hp4 => (r_lit ql_0))))) ?_
  refine r_pret (q_fit_int _) r_le0 ⟨congrArg Sum.inl ?_, rfl⟩
  refine congrArg iv ?_
  rfl
theorem sp_X9_requireLayer {x : Int} {h : qH} (hx : rg x) : ((0 ≤ x ∧ x < 12) → r_F f_X9_requireLayer [iv x] h .null) ∧ (¬ (0 ≤ x ∧ x < 12) → f_X9_requireLayer [iv x] h = some (.inr 1, (h.1, h.2.1 + 1, h.2.2 + 6))) := by
  refine r_Tof (r_run (L := [_]) ⟨rfl, Nat.le_of_ble_eq_true rfl⟩ rfl ?_)
  unfold b_X9_requireLayer
  refine r_seq ?_
  refine r_sif (r_not (r_bz (r_call (r_cons (r_loc rfl rfl) r_nil) rfl (sp_X9_isPlace (by first | omega | assumption | exact r_zrg _ | exact hS.1 _ | exact hS.2 _ _)) rfl))) (fun hp1 => ?_) (fun hp2 => ?_)
  ·
    refine wS_throw (x := 1) ?_
    refine r_ks (j := 5) ?_
    exact r_pthr (n := 1) ⟨Nat.le_succ _, Nat.le_add_right _ _⟩ (Or.inr ⟨(by first | omega | assumption | exact r_zrg _ | exact hS.1 _ | exact hS.2 _ _), rfl, rfl⟩)
  ·
    refine wS_skip ?_
    refine r_k0 ?_
    refine wS_retv ?_
    exact r_pretv r_le0 (Or.inl ⟨(by first | omega | assumption | exact r_zrg _ | exact hS.1 _ | exact hS.2 _ _), rfl, rfl⟩)
theorem sp_X9_requireCell {x y z : Int} {h : qH} (hx : rg x) (hy : rg y) (hz : rg z) : ((inc x y z) → r_F f_X9_requireCell [iv x, iv y, iv z] h .null) ∧ (¬ (inc x y z) → f_X9_requireCell [iv x, iv y, iv z] h = some (.inr 1, (h.1, h.2.1 + 1, h.2.2 + 6))) := by
  refine r_Tof (r_run (L := [_, _, _]) ⟨rfl, Nat.le_of_ble_eq_true rfl⟩ rfl ?_)
  unfold b_X9_requireCell
  refine r_seq ?_
  refine r_sif (r_not (r_bz (r_call (r_cons (r_loc rfl rfl) (r_cons (r_loc rfl rfl) (r_cons (r_loc rfl rfl) r_nil))) rfl (sp_X9_isCell (by first | omega | assumption | exact r_zrg _ | exact hS.1 _ | exact hS.2 _ _) (by first | omega | assumption | exact r_zrg _ | exact hS.1 _ | exact hS.2 _ _) (by first | omega | assumption | exact r_zrg _ | exact hS.1 _ | exact hS.2 _ _)) rfl))) (fun hp1 => ?_) (fun hp2 => ?_)
  ·
    refine wS_throw (x := 1) ?_
    refine r_ks (j := 5) ?_
    exact r_pthr (n := 1) ⟨Nat.le_succ _, Nat.le_add_right _ _⟩ (Or.inr ⟨(by first | omega | assumption | exact r_zrg _ | exact hS.1 _ | exact hS.2 _ _), rfl, rfl⟩)
  ·
    refine wS_skip ?_
    refine r_k0 ?_
    refine wS_retv ?_
    exact r_pretv r_le0 (Or.inl ⟨(by first | omega | assumption | exact r_zrg _ | exact hS.1 _ | exact hS.2 _ _), rfl, rfl⟩)
theorem sp_X9_isSpan {x y : Int} {h : qH} (hx : rg x) (hy : rg y) : r_F f_X9_isSpan [iv x, iv y] h (r_b ((0 ≤ x ∧ x < 12) ∧ 1 ≤ y ∧ y ≤ 12 - x)) := by
  refine r_Fof (r_run (L := [_, _]) ⟨rfl, Nat.le_of_ble_eq_true rfl⟩ rfl ?_)
  unfold b_X9_isSpan
  refine r_sret (r_if10 (r_and (r_and (r_bz (r_call (r_cons (r_loc rfl rfl) r_nil) rfl (sp_X9_isPlace (by first | omega | assumption | exact r_zrg _ | exact hS.1 _ | exact hS.2 _ _)) rfl)) (fun hp1 => (r_ge (r_loc rfl rfl) (r_lit ql_1) (by first | omega | assumption | exact r_zrg _ | exact hS.1 _ | exact hS.2 _ _) (by first | omega | assumption | exact r_zrg _ | exact hS.1 _ | exact hS.2 _ _)))) (fun hp2 => (r_le (r_loc rfl rfl) (r_sub (r_lit ql_12) (r_loc rfl rfl)) (by first | omega | assumption | exact r_zrg _ | exact hS.1 _ | exact hS.2 _ _) (by first | omega | assumption | exact r_zrg _ | exact hS.1 _ | exact hS.2 _ _))))) ?_
  refine r_pret (r_fitb _) r_le0 ⟨congrArg Sum.inl ?_, rfl⟩
  refine r_bc ?_
  omega
theorem sp_X0_isSolid {S : q_Sg} {c w : Nat} (hS : r_ok S) {x y z : Int} (hx : rg x) (hy : rg y) (hz : rg z) : r_F f_X0_isSolid [.ref 17, iv x, iv y, iv z] (q_en S, c, w) (r_b (SOL (S.2.1 0) x y z)) := by
  refine r_Fof (r_run (L := [_, _, _, _]) ⟨rfl, Nat.le_of_ble_eq_true rfl⟩ rfl ?_)
  unfold b_X0_isSolid
  refine r_sret (r_if10 (r_and (r_bz (r_call (r_cons (r_loc rfl rfl) (r_cons (r_loc rfl rfl) (r_cons (r_loc rfl rfl) r_nil))) rfl (sp_X9_isCell (by first | omega | assumption | exact r_zrg _ | exact hS.1 _ | exact hS.2 _ _) (by first | omega | assumption | exact r_zrg _ | exact hS.1 _ | exact hS.2 _ _) (by first | omega | assumption | exact r_zrg _ | exact hS.1 _ | exact hS.2 _ _)) rfl)) (fun hp1 => (r_z_ne (r_aget ga_Body_solid (r_fld (r_loc rfl rfl) gg_Body_solid) (r_call (r_cons (r_loc rfl rfl) (r_cons (r_loc rfl rfl) (r_cons (r_loc rfl rfl) r_nil))) rfl sp_X9_indexOf rfl) (by first | omega | assumption | exact r_zrg _ | exact hS.1 _ | exact hS.2 _ _) (by first | omega | assumption | exact r_zrg _ | exact hS.1 _ | exact hS.2 _ _) (by decide)) (by first | omega | assumption | exact r_zrg _ | exact hS.1 _ | exact hS.2 _ _))))) ?_
  refine r_pret (r_fitb _) r_le0 ⟨congrArg Sum.inl ?_, rfl⟩
  refine r_bc ?_
  exact Iff.rfl
theorem sp_X0_hangs {S : q_Sg} {c w : Nat} (hS : r_ok S) {x y z : Int} (hx : 0 ≤ x ∧ x < 12) (hy : 0 ≤ y ∧ y < 12) (hz : 0 ≤ z ∧ z ≤ 12) : r_F f_X0_hangs [.ref 17, iv x, iv y, iv z] (q_en S, c, w) (r_b (HNG (S.2.1 0) x y z)) := by
  refine r_Fof (r_run (L := [_, _, _, _, _]) ⟨rfl, Nat.le_of_ble_eq_true rfl⟩ rfl ?_)
  unfold b_X0_hangs
  refine r_seq ?_
  refine r_sif (r_or (r_or (r_z_eq (r_loc rfl rfl) (by first | omega | assumption | exact r_zrg _ | exact hS.1 _ | exact hS.2 _ _)) (fun hp1 => (r_not (r_bz (r_call (r_cons (r_loc rfl rfl) (r_cons (r_loc rfl rfl) (r_cons (r_loc rfl rfl) (r_cons (r_loc rfl rfl) r_nil)))) rfl (sp_X0_isSolid (by first | omega | assumption | exact r_zrg _ | exact hS.1 _ | exact hS.2 _ _) (by first | omega | assumption | exact r_zrg _ | exact hS.1 _ | exact hS.2 _ _) (by first | omega | assumption | exact r_zrg _ | exact hS.1 _ | exact hS.2 _ _) (by first | omega | assumption | exact r_zrg _ | exact hS.1 _ | exact hS.2 _ _)) rfl))))) (fun hp2 => (r_bz (r_call (r_cons (r_loc rfl rfl) (r_cons (r_loc rfl rfl) (r_cons (r_loc rfl rfl) (r_cons (r_sub (r_loc rfl rfl) (r_lit ql_1)) r_nil)))) rfl (sp_X0_isSolid (by first | omega | assumption | exact r_zrg _ | exact hS.1 _ | exact hS.2 _ _) (by first | omega | assumption | exact r_zrg _ | exact hS.1 _ | exact hS.2 _ _) (by first | omega | assumption | exact r_zrg _ | exact hS.1 _ | exact hS.2 _ _) (by first | omega | assumption | exact r_zrg _ | exact hS.1 _ | exact hS.2 _ _)) rfl)))) (fun hp3 => ?_) (fun hp4 => ?_)
  ·
    refine r_sret (r_lit ql_0) ?_
    refine r_ks (j := 3) ?_
    refine r_pret r_fit0 r_le0 ⟨congrArg Sum.inl ?_, rfl⟩
    refine r_b0 ?_
    rintro ⟨h1, h2, h3, _⟩; rcases hp3 with (c | c) | c <;> contradiction
  ·
    refine wS_skip ?_
    refine r_k0 ?_
    refine r_seq ?_
    refine r_seq ?_
    refine r_sloc (L2 := [_, _, _, _, _]) (r_lit ql_0) rfl rfl ?_
    refine r_k0 ?_
    refine r_loop (T := Int) (fun (k : Int) => (0 ≤ k ∧ k ≤ 4) ∧ ∀ j, 0 ≤ j → j < k → ¬ SOL (S.2.1 0) (x + r_t1 j) (y + r_t2 j) (z - 1)) (fun (k : Int) => (4 - k).toNat) (fun (k : Int) => [some (.ref 17), some (iv x), some (iv y), some (iv z), some (iv k)]) (fun (k : Int) => (q_en S, c, w)) 0 rfl rfl ?_ ?_ ?_
    · exact ⟨by omega, fun j h0 h1 => by omega⟩
    · (show _ < 1000000); first | omega | (dsimp only; omega)
    · intro k hP
      try dsimp only at hP ⊢
      obtain ⟨hk, hP⟩ := hP
      refine ⟨_, (r_lt (r_loc rfl rfl) (r_lit ql_4) (by first | omega | assumption | exact r_zrg _ | exact hS.1 _ | exact hS.2 _ _) (by first | omega | assumption | exact r_zrg _ | exact hS.1 _ | exact hS.2 _ _)), fun hp5 => ?_, fun hp6 => ?_⟩
      ·
        refine r_k0 ?_
        refine r_sret (r_lit ql_1) ?_
        refine r_pret r_fit1 r_le0 ⟨congrArg Sum.inl ?_, rfl⟩
        refine r_b1 ?_
        rw [not_or, not_or] at hp4; exact ⟨hp4.1.1, Classical.not_not.mp hp4.1.2, hp4.2, (nb4 (P := fun u v => ¬ SOL (S.2.1 0) u v (z - 1))).mp (fun j h0 h1 => hP j h0 (by omega))⟩
      ·
        have ht1 := r_t1b k; have ht2 := r_t2b k
        refine r_sif (r_bz (r_call (r_cons (r_loc rfl rfl) (r_cons (r_add (r_loc rfl rfl) (r_ro1 r_litr (r_loc rfl rfl) (by first | omega | assumption | exact r_zrg _ | exact hS.1 _ | exact hS.2 _ _) (by first | omega | assumption | exact r_zrg _ | exact hS.1 _ | exact hS.2 _ _))) (r_cons (r_add (r_loc rfl rfl) (r_ro2 r_litr (r_loc rfl rfl) (by first | omega | assumption | exact r_zrg _ | exact hS.1 _ | exact hS.2 _ _) (by first | omega | assumption | exact r_zrg _ | exact hS.1 _ | exact hS.2 _ _))) (r_cons (r_sub (r_loc rfl rfl) (r_lit ql_1)) r_nil)))) rfl (sp_X0_isSolid (by first | omega | assumption | exact r_zrg _ | exact hS.1 _ | exact hS.2 _ _) (by first | omega | assumption | exact r_zrg _ | exact hS.1 _ | exact hS.2 _ _) (by first | omega | assumption | exact r_zrg _ | exact hS.1 _ | exact hS.2 _ _) (by first | omega | assumption | exact r_zrg _ | exact hS.1 _ | exact hS.2 _ _)) rfl)) (fun hp7 => ?_) (fun hp8 => ?_)
        ·
          refine r_sret (r_lit ql_0) ?_
          refine r_l3 (j := 1) ?_
          refine r_ks (j := 3) ?_
          refine r_pret r_fit0 r_le0 ⟨congrArg Sum.inl ?_, rfl⟩
          refine r_b0 ?_
          rintro ⟨_, _, _, g⟩; exact (nb4 (P := fun u v => ¬ SOL (S.2.1 0) u v (z - 1))).mpr g k hk.1 hp6 hp7
        ·
          refine wS_skip ?_
          refine r_l0 ?_
          refine r_sinc (L2 := [_, _, _, _, _]) rfl rfl ?_
          refine r_lend (k + 1) rfl rfl ?_ (by first | omega | (dsimp only; omega))
          try dsimp only
          refine ⟨by omega, fun j h0 h1 => ?_⟩
          by_cases hj : j = k
          · rw [hj]; assumption
          · exact hP j h0 (by omega)
theorem sp_X0_isOpen {S : q_Sg} {c w : Nat} (hS : r_ok S) {x y z d n : Int} (hx : 0 ≤ x ∧ x < 12) (hy : 0 ≤ y ∧ y < 12) (hz : 0 ≤ z ∧ z < 12) (hd : d = 1 ∨ d = -1) (hn : 0 ≤ n ∧ n ≤ 3) : r_F f_X0_isOpen [.ref 17, iv x, iv y, iv z, iv d, iv n] (q_en S, c, w) (r_b (OPN (S.2.1 0) x y z d n)) := by
  refine r_Fof (r_run (L := [_, _, _, _, _, _, _]) ⟨rfl, Nat.le_of_ble_eq_true rfl⟩ rfl ?_)
  unfold b_X0_isOpen
  refine r_seq ?_
  refine r_seq ?_
  refine r_sloc (L2 := [_, _, _, _, _, _, _]) (r_lit ql_1) rfl rfl ?_
  refine r_k0 ?_
  refine r_loop (T := Int) (fun (k : Int) => (1 ≤ k ∧ k ≤ n + 1) ∧ ∀ j, 1 ≤ j → j < k → SOL (S.2.1 0) x y (z + j * d)) (fun (k : Int) => (4 - k).toNat) (fun (k : Int) => [some (.ref 17), some (iv x), some (iv y), some (iv z), some (iv d), some (iv n), some (iv k)]) (fun (k : Int) => (q_en S, c, w)) 1 rfl rfl ?_ ?_ ?_
  · exact ⟨by omega, fun j h0 h1 => by omega⟩
  · (show _ < 1000000); first | omega | (dsimp only; omega)
  · intro k hP
    try dsimp only at hP ⊢
    obtain ⟨hk, hP⟩ := hP
    refine ⟨_, (r_le (r_loc rfl rfl) (r_loc rfl rfl) (by first | omega | assumption | exact r_zrg _ | exact hS.1 _ | exact hS.2 _ _) (by first | omega | assumption | exact r_zrg _ | exact hS.1 _ | exact hS.2 _ _)), fun hp1 => ?_, fun hp2 => ?_⟩
    ·
      refine r_k0 ?_
      refine r_sret (r_lit ql_0) ?_
      refine r_pret r_fit0 r_le0 ⟨congrArg Sum.inl ?_, rfl⟩
      refine r_b0 ?_
      rintro ⟨i, hi, h⟩; exact h (hP i hi.1 (by omega))
    ·
      have hb : -3 ≤ k * d ∧ k * d ≤ 3 := by rcases hd with rfl | rfl <;> omega
      refine r_sif (r_not (r_bz (r_call (r_cons (r_loc rfl rfl) (r_cons (r_loc rfl rfl) (r_cons (r_loc rfl rfl) (r_cons (r_add (r_loc rfl rfl) (r_mul (r_loc rfl rfl) (r_loc rfl rfl))) r_nil)))) rfl (sp_X0_isSolid (by first | omega | assumption | exact r_zrg _ | exact hS.1 _ | exact hS.2 _ _) (by first | omega | assumption | exact r_zrg _ | exact hS.1 _ | exact hS.2 _ _) (by first | omega | assumption | exact r_zrg _ | exact hS.1 _ | exact hS.2 _ _) (by first | omega | assumption | exact r_zrg _ | exact hS.1 _ | exact hS.2 _ _)) rfl))) (fun hp3 => ?_) (fun hp4 => ?_)
      ·
        refine r_sret (r_lit ql_1) ?_
        refine r_l3 (j := 1) ?_
        refine r_ks (j := 3) ?_
        refine r_pret r_fit1 r_le0 ⟨congrArg Sum.inl ?_, rfl⟩
        refine r_b1 ?_
        exact ⟨k, by omega, by assumption⟩
      ·
        refine wS_skip ?_
        refine r_l0 ?_
        refine r_sinc (L2 := [_, _, _, _, _, _, _]) rfl rfl ?_
        refine r_lend (k + 1) rfl rfl ?_ (by first | omega | (dsimp only; omega))
        try dsimp only
        refine ⟨by omega, fun j h0 h1 => ?_⟩
        by_cases hj : j = k
        · rw [hj]; exact Classical.not_not.mp (by assumption)
        · exact hP j h0 (by omega)
theorem sp_X0_firstSolidAbove {S : q_Sg} {c w : Nat} (hS : r_ok S) {x y z : Int} (hx : 0 ≤ x ∧ x < 12) (hy : 0 ≤ y ∧ y < 12) (hz : 0 ≤ z ∧ z < 12) : r_F f_X0_firstSolidAbove [.ref 17, iv x, iv y, iv z] (q_en S, c, w) (iv (fst (fun k => SOL (S.2.1 0) x y k) (z + 1) 12)) := by
  refine r_Fof (r_run (L := [_, _, _, _, _]) ⟨rfl, Nat.le_of_ble_eq_true rfl⟩ rfl ?_)
  unfold b_X0_firstSolidAbove
  refine r_seq ?_
  refine r_seq ?_
  refine r_sloc (L2 := [_, _, _, _, _]) (r_add (r_loc rfl rfl) (r_lit ql_1)) rfl rfl ?_
  refine r_k0 ?_
  refine r_loop (T := Int) (fun (k : Int) => (z + 1 ≤ k ∧ k ≤ 12) ∧ ∀ j, z + 1 ≤ j → j < k → ¬ SOL (S.2.1 0) x y j) (fun (k : Int) => (12 - k).toNat) (fun (k : Int) => [some (.ref 17), some (iv x), some (iv y), some (iv z), some (iv k)]) (fun (k : Int) => (q_en S, c, w)) (z + 1) rfl rfl ?_ ?_ ?_
  · exact ⟨by omega, fun j h0 h1 => by omega⟩
  · (show _ < 1000000); first | omega | (dsimp only; omega)
  · intro k hP
    try dsimp only at hP ⊢
    obtain ⟨hk, hP⟩ := hP
    refine ⟨_, (r_lt (r_loc rfl rfl) (r_lit ql_12) (by first | omega | assumption | exact r_zrg _ | exact hS.1 _ | exact hS.2 _ _) (by first | omega | assumption | exact r_zrg _ | exact hS.1 _ | exact hS.2 _ _)), fun hp1 => ?_, fun hp2 => ?_⟩
    ·
      refine r_k0 ?_
      refine r_sret (r_lit ql_12) ?_
      refine r_pret (q_fit_int _) r_le0 ⟨congrArg Sum.inl ?_, rfl⟩
      refine congrArg iv ?_
      exact fst_e ⟨by omega, fun j h0 h1 => hP j h0 (by omega), fun h => by omega⟩
    ·
      refine r_sif (r_bz (r_call (r_cons (r_loc rfl rfl) (r_cons (r_loc rfl rfl) (r_cons (r_loc rfl rfl) (r_cons (r_loc rfl rfl) r_nil)))) rfl (sp_X0_isSolid (by first | omega | assumption | exact r_zrg _ | exact hS.1 _ | exact hS.2 _ _) (by first | omega | assumption | exact r_zrg _ | exact hS.1 _ | exact hS.2 _ _) (by first | omega | assumption | exact r_zrg _ | exact hS.1 _ | exact hS.2 _ _) (by first | omega | assumption | exact r_zrg _ | exact hS.1 _ | exact hS.2 _ _)) rfl)) (fun hp3 => ?_) (fun hp4 => ?_)
      ·
        refine r_sret (r_loc rfl rfl) ?_
        refine r_l3 (j := 1) ?_
        refine r_ks (j := 3) ?_
        refine r_pret (q_fit_int _) r_le0 ⟨congrArg Sum.inl ?_, rfl⟩
        refine congrArg iv ?_
        exact fst_e ⟨by omega, hP, fun _ => by assumption⟩
      ·
        refine wS_skip ?_
        refine r_l0 ?_
        refine r_sinc (L2 := [_, _, _, _, _]) rfl rfl ?_
        refine r_lend (k + 1) rfl rfl ?_ (by first | omega | (dsimp only; omega))
        try dsimp only
        refine ⟨by omega, fun j h0 h1 => ?_⟩
        by_cases hj : j = k
        · rw [hj]; assumption
        · exact hP j h0 (by omega)
