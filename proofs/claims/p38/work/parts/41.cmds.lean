theorem sp_X9_distance {x y u v : Int} {h : qH} (hx : 0 ≤ x ∧ x < 12) (hy : 0 ≤ y ∧ y < 12) (hu : 0 ≤ u ∧ u < 12) (hv : 0 ≤ v ∧ v < 12) : r_F f_X9_distance [iv x, iv y, iv u, iv v] h (iv (dst x y u v)) := by
  refine r_Fof (r_run (L := [_, _, _, _]) ⟨rfl, Nat.le_of_ble_eq_true rfl⟩ rfl ?_)
  unfold b_X9_distance
  refine r_sret (r_add (r_call (r_cons (r_sub (r_loc rfl rfl) (r_loc rfl rfl)) r_nil) rfl (sp_J9_abs (by first | omega | assumption | exact r_zrg _ | exact hS.1 _ | exact hS.2 _ _ | exact stg_b hS _ _ | exact r_irg (by first | assumption | omega | exact hS.1 _ | exact hS.2 _ _ | exact stg_b hS _ _) (by first | assumption | omega | exact hS.1 _ | exact hS.2 _ _))) rfl) (r_call (r_cons (r_sub (r_loc rfl rfl) (r_loc rfl rfl)) r_nil) rfl (sp_J9_abs (by first | omega | assumption | exact r_zrg _ | exact hS.1 _ | exact hS.2 _ _ | exact stg_b hS _ _ | exact r_irg (by first | assumption | omega | exact hS.1 _ | exact hS.2 _ _ | exact stg_b hS _ _) (by first | assumption | omega | exact hS.1 _ | exact hS.2 _ _))) rfl)) ?_
  refine r_pret (q_fit_int _) r_le0 ⟨congrArg Sum.inl ?_, rfl⟩
  refine congrArg iv ?_
  unfold dst; rw [iab_r, iab_r]
theorem sp_X1_size {S : q_Sg} {c w : Nat}  : r_F f_X1_size [.ref 36] (q_en S, c, w) (iv (S.1 9)) := by
  refine r_Fof (r_run (L := [_]) ⟨rfl, Nat.le_of_ble_eq_true rfl⟩ rfl ?_)
  unfold b_X1_size
  refine r_sret (r_fld (r_loc rfl rfl) gg_Commands_count) ?_
  refine r_pret (q_fit_int _) r_le0 ⟨congrArg Sum.inl ?_, rfl⟩
  refine congrArg iv ?_
  rfl
theorem sp_X1_behindX {S : q_Sg} {c w : Nat} (hS : r_ok S) {l : List qCmd} {th : Int → Int} (hc : CREP S l th) (hO : COK l) {i : Int} (hi : rg i) (hn : l.length ≤ 6936) : r_F f_X1_behindX [.ref 36, iv i] (q_en S, c, w) (iv (cg l i).2.1) := by
  refine r_Fof (r_run (L := [_, _]) ⟨rfl, Nat.le_of_ble_eq_true rfl⟩ rfl ?_)
  unfold b_X1_behindX
  refine r_sret (r_if (r_and (r_z_ge (r_loc rfl rfl) (by first | omega | assumption | exact hS.1 _ | exact hS.2 _ _ | (have := hc.1; omega))) (fun hp1 => (r_lt (r_loc rfl rfl) (r_fld (r_loc rfl rfl) gg_Commands_count) (by first | omega | assumption | exact hS.1 _ | exact hS.2 _ _ | (have := hc.1; omega)) (by first | omega | assumption | exact hS.1 _ | exact hS.2 _ _ | (have := hc.1; omega))))) (fun hp2 => (r_aget ga_Commands_headX (r_fld (r_loc rfl rfl) gg_Commands_headX) (r_loc rfl rfl) (by first | omega | assumption | exact hS.1 _ | exact hS.2 _ _ | (have := hc.1; omega)) (by first | omega | assumption | exact hS.1 _ | exact hS.2 _ _ | (have := hc.1; omega)) (by decide))) (fun hp3 => (r_lit ql_0))) ?_
  refine r_pret (q_fit_int _) r_le0 ⟨congrArg Sum.inl ?_, rfl⟩
  refine congrArg iv ?_
  by_cases d : 0 ≤ i ∧ i < S.1 9
  · have := hc.1
    rw [r_i1 d]; exact (hc.2.1 i d.1 (by omega)).2.1
  · have := hc.1
    rw [r_i0 d]
    by_cases d2 : i < 0
    · rw [cg_neg d2]
    · rw [cg_out (by omega)]
theorem sp_X1_behindY {S : q_Sg} {c w : Nat} (hS : r_ok S) {l : List qCmd} {th : Int → Int} (hc : CREP S l th) (hO : COK l) {i : Int} (hi : rg i) (hn : l.length ≤ 6936) : r_F f_X1_behindY [.ref 36, iv i] (q_en S, c, w) (iv (cg l i).2.2.1) := by
  refine r_Fof (r_run (L := [_, _]) ⟨rfl, Nat.le_of_ble_eq_true rfl⟩ rfl ?_)
  unfold b_X1_behindY
  refine r_sret (r_if (r_and (r_z_ge (r_loc rfl rfl) (by first | omega | assumption | exact hS.1 _ | exact hS.2 _ _ | (have := hc.1; omega))) (fun hp1 => (r_lt (r_loc rfl rfl) (r_fld (r_loc rfl rfl) gg_Commands_count) (by first | omega | assumption | exact hS.1 _ | exact hS.2 _ _ | (have := hc.1; omega)) (by first | omega | assumption | exact hS.1 _ | exact hS.2 _ _ | (have := hc.1; omega))))) (fun hp2 => (r_aget ga_Commands_headY (r_fld (r_loc rfl rfl) gg_Commands_headY) (r_loc rfl rfl) (by first | omega | assumption | exact hS.1 _ | exact hS.2 _ _ | (have := hc.1; omega)) (by first | omega | assumption | exact hS.1 _ | exact hS.2 _ _ | (have := hc.1; omega)) (by decide))) (fun hp3 => (r_lit ql_0))) ?_
  refine r_pret (q_fit_int _) r_le0 ⟨congrArg Sum.inl ?_, rfl⟩
  refine congrArg iv ?_
  by_cases d : 0 ≤ i ∧ i < S.1 9
  · have := hc.1
    rw [r_i1 d]; exact (hc.2.1 i d.1 (by omega)).2.2.1
  · have := hc.1
    rw [r_i0 d]
    by_cases d2 : i < 0
    · rw [cg_neg d2]
    · rw [cg_out (by omega)]
theorem sp_X1_layerOf {S : q_Sg} {c w : Nat} (hS : r_ok S) {l : List qCmd} {th : Int → Int} (hc : CREP S l th) (hO : COK l) {i : Int} (hi : rg i) (hn : l.length ≤ 6936) : r_F f_X1_layerOf [.ref 36, iv i] (q_en S, c, w) (iv (cg l i).2.2.2) := by
  refine r_Fof (r_run (L := [_, _]) ⟨rfl, Nat.le_of_ble_eq_true rfl⟩ rfl ?_)
  unfold b_X1_layerOf
  refine r_sret (r_if (r_and (r_z_ge (r_loc rfl rfl) (by first | omega | assumption | exact hS.1 _ | exact hS.2 _ _ | (have := hc.1; omega))) (fun hp1 => (r_lt (r_loc rfl rfl) (r_fld (r_loc rfl rfl) gg_Commands_count) (by first | omega | assumption | exact hS.1 _ | exact hS.2 _ _ | (have := hc.1; omega)) (by first | omega | assumption | exact hS.1 _ | exact hS.2 _ _ | (have := hc.1; omega))))) (fun hp2 => (r_aget ga_Commands_layer (r_fld (r_loc rfl rfl) gg_Commands_layer) (r_loc rfl rfl) (by first | omega | assumption | exact hS.1 _ | exact hS.2 _ _ | (have := hc.1; omega)) (by first | omega | assumption | exact hS.1 _ | exact hS.2 _ _ | (have := hc.1; omega)) (by decide))) (fun hp3 => (r_lit ql_0))) ?_
  refine r_pret (q_fit_int _) r_le0 ⟨congrArg Sum.inl ?_, rfl⟩
  refine congrArg iv ?_
  by_cases d : 0 ≤ i ∧ i < S.1 9
  · have := hc.1
    rw [r_i1 d]; exact (hc.2.1 i d.1 (by omega)).2.2.2
  · have := hc.1
    rw [r_i0 d]
    by_cases d2 : i < 0
    · rw [cg_neg d2]
    · rw [cg_out (by omega)]

theorem sp_X8_has {S : q_Sg} {c w : Nat} (hS : r_ok S) {i : Int} (hi : rg i) : r_F f_X8_has [.ref 30, iv i] (q_en S, c, w) (r_b (0 ≤ i ∧ i < S.1 8 ∧ i < 144)) := by
  refine r_Fof (r_run (L := [_, _]) ⟨rfl, Nat.le_of_ble_eq_true rfl⟩ rfl ?_)
  unfold b_X8_has
  refine r_sret (r_if10 (r_and (r_and (r_z_ge (r_loc rfl rfl) (by first | omega | assumption | exact r_zrg _ | exact hS.1 _ | exact hS.2 _ _ | exact stg_b hS _ _ | exact r_irg (by first | assumption | omega | exact hS.1 _ | exact hS.2 _ _ | exact stg_b hS _ _) (by first | assumption | omega | exact hS.1 _ | exact hS.2 _ _))) (fun hp1 => (r_lt (r_loc rfl rfl) (r_fld (r_loc rfl rfl) gg_Strokes_count) (by first | omega | assumption | exact r_zrg _ | exact hS.1 _ | exact hS.2 _ _ | exact stg_b hS _ _ | exact r_irg (by first | assumption | omega | exact hS.1 _ | exact hS.2 _ _ | exact stg_b hS _ _) (by first | assumption | omega | exact hS.1 _ | exact hS.2 _ _)) (by first | omega | assumption | exact r_zrg _ | exact hS.1 _ | exact hS.2 _ _ | exact stg_b hS _ _ | exact r_irg (by first | assumption | omega | exact hS.1 _ | exact hS.2 _ _ | exact stg_b hS _ _) (by first | assumption | omega | exact hS.1 _ | exact hS.2 _ _))))) (fun hp2 => (r_lt (r_loc rfl rfl) (r_lit ql_144) (by first | omega | assumption | exact r_zrg _ | exact hS.1 _ | exact hS.2 _ _ | exact stg_b hS _ _ | exact r_irg (by first | assumption | omega | exact hS.1 _ | exact hS.2 _ _ | exact stg_b hS _ _) (by first | assumption | omega | exact hS.1 _ | exact hS.2 _ _)) (by first | omega | assumption | exact r_zrg _ | exact hS.1 _ | exact hS.2 _ _ | exact stg_b hS _ _ | exact r_irg (by first | assumption | omega | exact hS.1 _ | exact hS.2 _ _ | exact stg_b hS _ _) (by first | assumption | omega | exact hS.1 _ | exact hS.2 _ _)))))) ?_
  refine r_pret (r_fitb _) r_le0 ⟨congrArg Sum.inl ?_, rfl⟩
  refine r_bc ?_
  omega
theorem sp_X8_endX_1 {S : q_Sg} {c w : Nat} (hS : r_ok S) {i : Int} (hi : 0 ≤ i ∧ i < S.1 8) (hn : S.1 8 ≤ 144) : r_F f_X8_endX [.ref 30, iv i, iv 1] (q_en S, c, w) (iv (S.2.1 10 i)) := by
  refine r_Fof (r_run (L := [_, _, _]) ⟨rfl, Nat.le_of_ble_eq_true rfl⟩ rfl ?_)
  unfold b_X8_endX
  refine r_seq ?_
  refine r_sif (r_not (r_bz (r_call (r_cons (r_loc rfl rfl) (r_cons (r_loc rfl rfl) r_nil)) rfl (sp_X8_has (by first | omega | assumption | exact hS.1 _ | exact hS.2 _ _) (by first | omega | assumption | exact hS.1 _ | exact hS.2 _ _)) rfl))) (fun hp1 => ?_) (fun hp2 => ?_)
  ·
    refine r_sret (r_lit ql_0) ?_
    refine r_ks (j := 3) ?_
    refine r_pret (q_fit_int _) r_le0 ⟨congrArg Sum.inl ?_, rfl⟩
    refine congrArg iv ?_
    exact absurd (show 0 ≤ i ∧ i < S.1 8 ∧ i < 144 by omega) (by assumption)
  ·
    refine wS_skip ?_
    refine r_k0 ?_
    refine r_sret (r_if (r_z_ne (r_loc rfl rfl) (by first | omega | assumption | exact hS.1 _ | exact hS.2 _ _)) (fun hp3 => (r_aget ga_Strokes_firstX (r_fld (r_loc rfl rfl) gg_Strokes_firstX) (r_loc rfl rfl) (by first | omega | assumption | exact hS.1 _ | exact hS.2 _ _) (by first | omega | assumption | exact hS.1 _ | exact hS.2 _ _) (by decide))) (fun hp4 => (r_aget ga_Strokes_lastX (r_fld (r_loc rfl rfl) gg_Strokes_lastX) (r_loc rfl rfl) (by first | omega | assumption | exact hS.1 _ | exact hS.2 _ _) (by first | omega | assumption | exact hS.1 _ | exact hS.2 _ _) (by decide)))) ?_
    refine r_pret (q_fit_int _) r_le0 ⟨congrArg Sum.inl ?_, rfl⟩
    refine congrArg iv ?_
    exact r_i1 (by decide)
theorem sp_X8_endX_0 {S : q_Sg} {c w : Nat} (hS : r_ok S) {i : Int} (hi : 0 ≤ i ∧ i < S.1 8) (hn : S.1 8 ≤ 144) : r_F f_X8_endX [.ref 30, iv i, iv 0] (q_en S, c, w) (iv (S.2.1 12 i)) := by
  refine r_Fof (r_run (L := [_, _, _]) ⟨rfl, Nat.le_of_ble_eq_true rfl⟩ rfl ?_)
  unfold b_X8_endX
  refine r_seq ?_
  refine r_sif (r_not (r_bz (r_call (r_cons (r_loc rfl rfl) (r_cons (r_loc rfl rfl) r_nil)) rfl (sp_X8_has (by first | omega | assumption | exact hS.1 _ | exact hS.2 _ _) (by first | omega | assumption | exact hS.1 _ | exact hS.2 _ _)) rfl))) (fun hp1 => ?_) (fun hp2 => ?_)
  ·
    refine r_sret (r_lit ql_0) ?_
    refine r_ks (j := 3) ?_
    refine r_pret (q_fit_int _) r_le0 ⟨congrArg Sum.inl ?_, rfl⟩
    refine congrArg iv ?_
    exact absurd (show 0 ≤ i ∧ i < S.1 8 ∧ i < 144 by omega) (by assumption)
  ·
    refine wS_skip ?_
    refine r_k0 ?_
    refine r_sret (r_if (r_z_ne (r_loc rfl rfl) (by first | omega | assumption | exact hS.1 _ | exact hS.2 _ _)) (fun hp3 => (r_aget ga_Strokes_firstX (r_fld (r_loc rfl rfl) gg_Strokes_firstX) (r_loc rfl rfl) (by first | omega | assumption | exact hS.1 _ | exact hS.2 _ _) (by first | omega | assumption | exact hS.1 _ | exact hS.2 _ _) (by decide))) (fun hp4 => (r_aget ga_Strokes_lastX (r_fld (r_loc rfl rfl) gg_Strokes_lastX) (r_loc rfl rfl) (by first | omega | assumption | exact hS.1 _ | exact hS.2 _ _) (by first | omega | assumption | exact hS.1 _ | exact hS.2 _ _) (by decide)))) ?_
    refine r_pret (q_fit_int _) r_le0 ⟨congrArg Sum.inl ?_, rfl⟩
    refine congrArg iv ?_
    exact r_i0 (by decide)
theorem sp_X8_endX_p {S : q_Sg} {c w : Nat} (hS : r_ok S) {p : Prop} {i : Int} (hi : 0 ≤ i ∧ i < S.1 8) (hn : S.1 8 ≤ 144) : r_F f_X8_endX [.ref 30, iv i, r_b p] (q_en S, c, w) (iv (r_i p (S.2.1 10 i) (S.2.1 12 i))) := by
  refine r_Fof (r_run (L := [_, _, _]) ⟨rfl, Nat.le_of_ble_eq_true rfl⟩ rfl ?_)
  unfold b_X8_endX
  refine r_seq ?_
  refine r_sif (r_not (r_bz (r_call (r_cons (r_loc rfl rfl) (r_cons (r_loc rfl rfl) r_nil)) rfl (sp_X8_has (by first | omega | assumption | exact hS.1 _ | exact hS.2 _ _) (by first | omega | assumption | exact hS.1 _ | exact hS.2 _ _)) rfl))) (fun hp1 => ?_) (fun hp2 => ?_)
  ·
    refine r_sret (r_lit ql_0) ?_
    refine r_ks (j := 3) ?_
    refine r_pret (q_fit_int _) r_le0 ⟨congrArg Sum.inl ?_, rfl⟩
    refine congrArg iv ?_
    exact absurd (show 0 ≤ i ∧ i < S.1 8 ∧ i < 144 by omega) (by assumption)
  ·
    refine wS_skip ?_
    refine r_k0 ?_
    refine r_sret (r_if (r_bz (r_loc rfl rfl)) (fun hp3 => (r_aget ga_Strokes_firstX (r_fld (r_loc rfl rfl) gg_Strokes_firstX) (r_loc rfl rfl) (by first | omega | assumption | exact hS.1 _ | exact hS.2 _ _) (by first | omega | assumption | exact hS.1 _ | exact hS.2 _ _) (by decide))) (fun hp4 => (r_aget ga_Strokes_lastX (r_fld (r_loc rfl rfl) gg_Strokes_lastX) (r_loc rfl rfl) (by first | omega | assumption | exact hS.1 _ | exact hS.2 _ _) (by first | omega | assumption | exact hS.1 _ | exact hS.2 _ _) (by decide)))) ?_
    refine r_pret (q_fit_int _) r_le0 ⟨congrArg Sum.inl ?_, rfl⟩
    refine congrArg iv ?_
    rfl
theorem sp_X8_endY_1 {S : q_Sg} {c w : Nat} (hS : r_ok S) {i : Int} (hi : 0 ≤ i ∧ i < S.1 8) (hn : S.1 8 ≤ 144) : r_F f_X8_endY [.ref 30, iv i, iv 1] (q_en S, c, w) (iv (S.2.1 11 i)) := by
  refine r_Fof (r_run (L := [_, _, _]) ⟨rfl, Nat.le_of_ble_eq_true rfl⟩ rfl ?_)
  unfold b_X8_endY
  refine r_seq ?_
  refine r_sif (r_not (r_bz (r_call (r_cons (r_loc rfl rfl) (r_cons (r_loc rfl rfl) r_nil)) rfl (sp_X8_has (by first | omega | assumption | exact hS.1 _ | exact hS.2 _ _) (by first | omega | assumption | exact hS.1 _ | exact hS.2 _ _)) rfl))) (fun hp1 => ?_) (fun hp2 => ?_)
  ·
    refine r_sret (r_lit ql_0) ?_
    refine r_ks (j := 3) ?_
    refine r_pret (q_fit_int _) r_le0 ⟨congrArg Sum.inl ?_, rfl⟩
    refine congrArg iv ?_
    exact absurd (show 0 ≤ i ∧ i < S.1 8 ∧ i < 144 by omega) (by assumption)
  ·
    refine wS_skip ?_
    refine r_k0 ?_
    refine r_sret (r_if (r_z_ne (r_loc rfl rfl) (by first | omega | assumption | exact hS.1 _ | exact hS.2 _ _)) (fun hp3 => (r_aget ga_Strokes_firstY (r_fld (r_loc rfl rfl) gg_Strokes_firstY) (r_loc rfl rfl) (by first | omega | assumption | exact hS.1 _ | exact hS.2 _ _) (by first | omega | assumption | exact hS.1 _ | exact hS.2 _ _) (by decide))) (fun hp4 => (r_aget ga_Strokes_lastY (r_fld (r_loc rfl rfl) gg_Strokes_lastY) (r_loc rfl rfl) (by first | omega | assumption | exact hS.1 _ | exact hS.2 _ _) (by first | omega | assumption | exact hS.1 _ | exact hS.2 _ _) (by decide)))) ?_
    refine r_pret (q_fit_int _) r_le0 ⟨congrArg Sum.inl ?_, rfl⟩
    refine congrArg iv ?_
    exact r_i1 (by decide)
theorem sp_X8_endY_0 {S : q_Sg} {c w : Nat} (hS : r_ok S) {i : Int} (hi : 0 ≤ i ∧ i < S.1 8) (hn : S.1 8 ≤ 144) : r_F f_X8_endY [.ref 30, iv i, iv 0] (q_en S, c, w) (iv (S.2.1 13 i)) := by
  refine r_Fof (r_run (L := [_, _, _]) ⟨rfl, Nat.le_of_ble_eq_true rfl⟩ rfl ?_)
  unfold b_X8_endY
  refine r_seq ?_
  refine r_sif (r_not (r_bz (r_call (r_cons (r_loc rfl rfl) (r_cons (r_loc rfl rfl) r_nil)) rfl (sp_X8_has (by first | omega | assumption | exact hS.1 _ | exact hS.2 _ _) (by first | omega | assumption | exact hS.1 _ | exact hS.2 _ _)) rfl))) (fun hp1 => ?_) (fun hp2 => ?_)
  ·
    refine r_sret (r_lit ql_0) ?_
    refine r_ks (j := 3) ?_
    refine r_pret (q_fit_int _) r_le0 ⟨congrArg Sum.inl ?_, rfl⟩
    refine congrArg iv ?_
    exact absurd (show 0 ≤ i ∧ i < S.1 8 ∧ i < 144 by omega) (by assumption)
  ·
    refine wS_skip ?_
    refine r_k0 ?_
    refine r_sret (r_if (r_z_ne (r_loc rfl rfl) (by first | omega | assumption | exact hS.1 _ | exact hS.2 _ _)) (fun hp3 => (r_aget ga_Strokes_firstY (r_fld (r_loc rfl rfl) gg_Strokes_firstY) (r_loc rfl rfl) (by first | omega | assumption | exact hS.1 _ | exact hS.2 _ _) (by first | omega | assumption | exact hS.1 _ | exact hS.2 _ _) (by decide))) (fun hp4 => (r_aget ga_Strokes_lastY (r_fld (r_loc rfl rfl) gg_Strokes_lastY) (r_loc rfl rfl) (by first | omega | assumption | exact hS.1 _ | exact hS.2 _ _) (by first | omega | assumption | exact hS.1 _ | exact hS.2 _ _) (by decide)))) ?_
    refine r_pret (q_fit_int _) r_le0 ⟨congrArg Sum.inl ?_, rfl⟩
    refine congrArg iv ?_
    exact r_i0 (by decide)
theorem sp_X8_endY_p {S : q_Sg} {c w : Nat} (hS : r_ok S) {p : Prop} {i : Int} (hi : 0 ≤ i ∧ i < S.1 8) (hn : S.1 8 ≤ 144) : r_F f_X8_endY [.ref 30, iv i, r_b p] (q_en S, c, w) (iv (r_i p (S.2.1 11 i) (S.2.1 13 i))) := by
  refine r_Fof (r_run (L := [_, _, _]) ⟨rfl, Nat.le_of_ble_eq_true rfl⟩ rfl ?_)
  unfold b_X8_endY
  refine r_seq ?_
  refine r_sif (r_not (r_bz (r_call (r_cons (r_loc rfl rfl) (r_cons (r_loc rfl rfl) r_nil)) rfl (sp_X8_has (by first | omega | assumption | exact hS.1 _ | exact hS.2 _ _) (by first | omega | assumption | exact hS.1 _ | exact hS.2 _ _)) rfl))) (fun hp1 => ?_) (fun hp2 => ?_)
  ·
    refine r_sret (r_lit ql_0) ?_
    refine r_ks (j := 3) ?_
    refine r_pret (q_fit_int _) r_le0 ⟨congrArg Sum.inl ?_, rfl⟩
    refine congrArg iv ?_
    exact absurd (show 0 ≤ i ∧ i < S.1 8 ∧ i < 144 by omega) (by assumption)
  ·
    refine wS_skip ?_
    refine r_k0 ?_
    refine r_sret (r_if (r_bz (r_loc rfl rfl)) (fun hp3 => (r_aget ga_Strokes_firstY (r_fld (r_loc rfl rfl) gg_Strokes_firstY) (r_loc rfl rfl) (by first | omega | assumption | exact hS.1 _ | exact hS.2 _ _) (by first | omega | assumption | exact hS.1 _ | exact hS.2 _ _) (by decide))) (fun hp4 => (r_aget ga_Strokes_lastY (r_fld (r_loc rfl rfl) gg_Strokes_lastY) (r_loc rfl rfl) (by first | omega | assumption | exact hS.1 _ | exact hS.2 _ _) (by first | omega | assumption | exact hS.1 _ | exact hS.2 _ _) (by decide)))) ?_
    refine r_pret (q_fit_int _) r_le0 ⟨congrArg Sum.inl ?_, rfl⟩
    refine congrArg iv ?_
    rfl
theorem sp_X8_kindOf {S : q_Sg} {c w : Nat} (hS : r_ok S) {i : Int} (hi : 0 ≤ i ∧ i < S.1 8) (hn : S.1 8 ≤ 144) (hk : 0 ≤ S.2.1 9 i ∧ S.2.1 9 i < 65536) : r_F f_X8_kindOf [.ref 30, iv i] (q_en S, c, w) (iv (S.2.1 9 i)) := by
  refine r_Fof (r_run (L := [_, _]) ⟨rfl, Nat.le_of_ble_eq_true rfl⟩ rfl ?_)
  unfold b_X8_kindOf
  have hr : r_i (0 ≤ i ∧ i < S.1 8 ∧ i < 144) (S.2.1 9 i) 46 = S.2.1 9 i := r_i1 (by omega)
  refine r_sret (r_if (r_bz (r_call (r_cons (r_loc rfl rfl) (r_cons (r_loc rfl rfl) r_nil)) rfl (sp_X8_has (by first | omega | assumption | exact hS.1 _ | exact hS.2 _ _ | (rw [hr]; omega)) (by first | omega | assumption | exact hS.1 _ | exact hS.2 _ _ | (rw [hr]; omega))) rfl)) (fun hp1 => (r_aget ga_Strokes_kind (r_fld (r_loc rfl rfl) gg_Strokes_kind) (r_loc rfl rfl) (by first | omega | assumption | exact hS.1 _ | exact hS.2 _ _ | (rw [hr]; omega)) (by first | omega | assumption | exact hS.1 _ | exact hS.2 _ _ | (rw [hr]; omega)) (by decide))) (fun hp2 => (r_lit ql_46))) ?_
  refine r_pret (q_fit_char (by first | omega | assumption | exact hS.1 _ | exact hS.2 _ _ | (rw [hr]; omega)) (by first | omega | assumption | exact hS.1 _ | exact hS.2 _ _ | (rw [hr]; omega))) r_le0 ⟨congrArg Sum.inl ?_, rfl⟩
  refine congrArg iv ?_
  exact hr
theorem sp_X6_distanceOfEnd_1 {S : q_Sg} {c w : Nat} (hS : r_ok S) {i : Int} (hi : 0 ≤ i ∧ i < S.1 8) (hn : S.1 8 ≤ 144) (hq : sG (S.2.1 10 i, S.2.1 11 i, S.2.1 12 i, S.2.1 13 i)) (h1 : 0 ≤ S.1 11 ∧ S.1 11 < 12) (h2 : 0 ≤ S.1 12 ∧ S.1 12 < 12)  : r_F f_X6_distanceOfEnd [.ref 42, iv i, iv 1] (q_en S, c, w) (iv (dst (S.1 11) (S.1 12) (S.2.1 10 i) (S.2.1 11 i))) := by
  refine r_Fof (r_run (L := [_, _, _]) ⟨rfl, Nat.le_of_ble_eq_true rfl⟩ rfl ?_)
  unfold b_X6_distanceOfEnd
  refine r_sret (r_call (r_cons (r_fld (r_loc rfl rfl) gg_Planner_headX) (r_cons (r_fld (r_loc rfl rfl) gg_Planner_headY) (r_cons (r_call (r_cons (r_fld (r_loc rfl rfl) gg_Planner_strokes) (r_cons (r_loc rfl rfl) (r_cons (r_loc rfl rfl) r_nil))) rfl (sp_X8_endX_1 (by first | omega | assumption | exact hS.1 _ | exact hS.2 _ _ | exact hq.1 | exact hq.2.1 | exact hq.2.2.1 | exact hq.2.2.2.1) (by first | omega | assumption | exact hS.1 _ | exact hS.2 _ _ | exact hq.1 | exact hq.2.1 | exact hq.2.2.1 | exact hq.2.2.2.1) (by first | omega | assumption | exact hS.1 _ | exact hS.2 _ _ | exact hq.1 | exact hq.2.1 | exact hq.2.2.1 | exact hq.2.2.2.1)) rfl) (r_cons (r_call (r_cons (r_fld (r_loc rfl rfl) gg_Planner_strokes) (r_cons (r_loc rfl rfl) (r_cons (r_loc rfl rfl) r_nil))) rfl (sp_X8_endY_1 (by first | omega | assumption | exact hS.1 _ | exact hS.2 _ _ | exact hq.1 | exact hq.2.1 | exact hq.2.2.1 | exact hq.2.2.2.1) (by first | omega | assumption | exact hS.1 _ | exact hS.2 _ _ | exact hq.1 | exact hq.2.1 | exact hq.2.2.1 | exact hq.2.2.2.1) (by first | omega | assumption | exact hS.1 _ | exact hS.2 _ _ | exact hq.1 | exact hq.2.1 | exact hq.2.2.1 | exact hq.2.2.2.1)) rfl) r_nil)))) rfl (sp_X9_distance (by first | omega | assumption | exact hS.1 _ | exact hS.2 _ _ | exact hq.1 | exact hq.2.1 | exact hq.2.2.1 | exact hq.2.2.2.1) (by first | omega | assumption | exact hS.1 _ | exact hS.2 _ _ | exact hq.1 | exact hq.2.1 | exact hq.2.2.1 | exact hq.2.2.2.1) (by first | omega | assumption | exact hS.1 _ | exact hS.2 _ _ | exact hq.1 | exact hq.2.1 | exact hq.2.2.1 | exact hq.2.2.2.1) (by first | omega | assumption | exact hS.1 _ | exact hS.2 _ _ | exact hq.1 | exact hq.2.1 | exact hq.2.2.1 | exact hq.2.2.2.1)) rfl) ?_
  refine r_pret (q_fit_int _) r_le0 ⟨congrArg Sum.inl ?_, rfl⟩
  refine congrArg iv ?_
  rfl
theorem sp_X6_distanceOfEnd_0 {S : q_Sg} {c w : Nat} (hS : r_ok S) {i : Int} (hi : 0 ≤ i ∧ i < S.1 8) (hn : S.1 8 ≤ 144) (hq : sG (S.2.1 10 i, S.2.1 11 i, S.2.1 12 i, S.2.1 13 i)) (h1 : 0 ≤ S.1 11 ∧ S.1 11 < 12) (h2 : 0 ≤ S.1 12 ∧ S.1 12 < 12)  : r_F f_X6_distanceOfEnd [.ref 42, iv i, iv 0] (q_en S, c, w) (iv (dst (S.1 11) (S.1 12) (S.2.1 12 i) (S.2.1 13 i))) := by
  refine r_Fof (r_run (L := [_, _, _]) ⟨rfl, Nat.le_of_ble_eq_true rfl⟩ rfl ?_)
  unfold b_X6_distanceOfEnd
  refine r_sret (r_call (r_cons (r_fld (r_loc rfl rfl) gg_Planner_headX) (r_cons (r_fld (r_loc rfl rfl) gg_Planner_headY) (r_cons (r_call (r_cons (r_fld (r_loc rfl rfl) gg_Planner_strokes) (r_cons (r_loc rfl rfl) (r_cons (r_loc rfl rfl) r_nil))) rfl (sp_X8_endX_0 (by first | omega | assumption | exact hS.1 _ | exact hS.2 _ _ | exact hq.1 | exact hq.2.1 | exact hq.2.2.1 | exact hq.2.2.2.1) (by first | omega | assumption | exact hS.1 _ | exact hS.2 _ _ | exact hq.1 | exact hq.2.1 | exact hq.2.2.1 | exact hq.2.2.2.1) (by first | omega | assumption | exact hS.1 _ | exact hS.2 _ _ | exact hq.1 | exact hq.2.1 | exact hq.2.2.1 | exact hq.2.2.2.1)) rfl) (r_cons (r_call (r_cons (r_fld (r_loc rfl rfl) gg_Planner_strokes) (r_cons (r_loc rfl rfl) (r_cons (r_loc rfl rfl) r_nil))) rfl (sp_X8_endY_0 (by first | omega | assumption | exact hS.1 _ | exact hS.2 _ _ | exact hq.1 | exact hq.2.1 | exact hq.2.2.1 | exact hq.2.2.2.1) (by first | omega | assumption | exact hS.1 _ | exact hS.2 _ _ | exact hq.1 | exact hq.2.1 | exact hq.2.2.1 | exact hq.2.2.2.1) (by first | omega | assumption | exact hS.1 _ | exact hS.2 _ _ | exact hq.1 | exact hq.2.1 | exact hq.2.2.1 | exact hq.2.2.2.1)) rfl) r_nil)))) rfl (sp_X9_distance (by first | omega | assumption | exact hS.1 _ | exact hS.2 _ _ | exact hq.1 | exact hq.2.1 | exact hq.2.2.1 | exact hq.2.2.2.1) (by first | omega | assumption | exact hS.1 _ | exact hS.2 _ _ | exact hq.1 | exact hq.2.1 | exact hq.2.2.1 | exact hq.2.2.2.1) (by first | omega | assumption | exact hS.1 _ | exact hS.2 _ _ | exact hq.1 | exact hq.2.1 | exact hq.2.2.1 | exact hq.2.2.2.1) (by first | omega | assumption | exact hS.1 _ | exact hS.2 _ _ | exact hq.1 | exact hq.2.1 | exact hq.2.2.1 | exact hq.2.2.2.1)) rfl) ?_
  refine r_pret (q_fit_int _) r_le0 ⟨congrArg Sum.inl ?_, rfl⟩
  refine congrArg iv ?_
  rfl
theorem sp_X6_distanceOf {S : q_Sg} {c w : Nat} (hS : r_ok S) {i : Int} (hi : 0 ≤ i ∧ i < S.1 8) (hn : S.1 8 ≤ 144) (hq : sG (S.2.1 10 i, S.2.1 11 i, S.2.1 12 i, S.2.1 13 i)) (h1 : 0 ≤ S.1 11 ∧ S.1 11 < 12) (h2 : 0 ≤ S.1 12 ∧ S.1 12 < 12)  : r_F f_X6_distanceOf [.ref 42, iv i] (q_en S, c, w) (iv (nrr (S.1 11) (S.1 12) (S.2.1 10 i, S.2.1 11 i, S.2.1 12 i, S.2.1 13 i))) := by
  refine r_Fof (r_run (L := [_, _]) ⟨rfl, Nat.le_of_ble_eq_true rfl⟩ rfl ?_)
  unfold b_X6_distanceOf
  have hd1 := dst_g1 h1 h2 hq; have hd2 := dst_g2 h1 h2 hq; dsimp only at hd1 hd2
  refine r_sret (r_call (r_cons (r_call (r_cons (r_loc rfl rfl) (r_cons (r_loc rfl rfl) (r_cons (r_lit ql_1) r_nil))) rfl (sp_X6_distanceOfEnd_1 (by first | omega | assumption | exact hS.1 _ | exact hS.2 _ _ | exact hq.1 | exact hq.2.1 | exact hq.2.2.1 | exact hq.2.2.2.1) (by first | omega | assumption | exact hS.1 _ | exact hS.2 _ _ | exact hq.1 | exact hq.2.1 | exact hq.2.2.1 | exact hq.2.2.2.1) (by first | omega | assumption | exact hS.1 _ | exact hS.2 _ _ | exact hq.1 | exact hq.2.1 | exact hq.2.2.1 | exact hq.2.2.2.1) (by first | omega | assumption | exact hS.1 _ | exact hS.2 _ _ | exact hq.1 | exact hq.2.1 | exact hq.2.2.1 | exact hq.2.2.2.1) (by first | omega | assumption | exact hS.1 _ | exact hS.2 _ _ | exact hq.1 | exact hq.2.1 | exact hq.2.2.1 | exact hq.2.2.2.1) (by first | omega | assumption | exact hS.1 _ | exact hS.2 _ _ | exact hq.1 | exact hq.2.1 | exact hq.2.2.1 | exact hq.2.2.2.1)) rfl) (r_cons (r_call (r_cons (r_loc rfl rfl) (r_cons (r_loc rfl rfl) (r_cons (r_lit ql_0) r_nil))) rfl (sp_X6_distanceOfEnd_0 (by first | omega | assumption | exact hS.1 _ | exact hS.2 _ _ | exact hq.1 | exact hq.2.1 | exact hq.2.2.1 | exact hq.2.2.2.1) (by first | omega | assumption | exact hS.1 _ | exact hS.2 _ _ | exact hq.1 | exact hq.2.1 | exact hq.2.2.1 | exact hq.2.2.2.1) (by first | omega | assumption | exact hS.1 _ | exact hS.2 _ _ | exact hq.1 | exact hq.2.1 | exact hq.2.2.1 | exact hq.2.2.2.1) (by first | omega | assumption | exact hS.1 _ | exact hS.2 _ _ | exact hq.1 | exact hq.2.1 | exact hq.2.2.1 | exact hq.2.2.2.1) (by first | omega | assumption | exact hS.1 _ | exact hS.2 _ _ | exact hq.1 | exact hq.2.1 | exact hq.2.2.1 | exact hq.2.2.2.1) (by first | omega | assumption | exact hS.1 _ | exact hS.2 _ _ | exact hq.1 | exact hq.2.1 | exact hq.2.2.1 | exact hq.2.2.2.1)) rfl) r_nil)) rfl (sp_J9_min (by first | omega | assumption | exact hS.1 _ | exact hS.2 _ _ | exact hq.1 | exact hq.2.1 | exact hq.2.2.1 | exact hq.2.2.2.1) (by first | omega | assumption | exact hS.1 _ | exact hS.2 _ _ | exact hq.1 | exact hq.2.1 | exact hq.2.2.1 | exact hq.2.2.2.1)) rfl) ?_
  refine r_pret (q_fit_int _) r_le0 ⟨congrArg Sum.inl ?_, rfl⟩
  refine congrArg iv ?_
  unfold nrr r_i; dsimp only; split <;> rfl
theorem sp_X1_add {S : q_Sg} {c w : Nat} (hS : r_ok S) {l : List qCmd} {th : Int → Int} (hc : CREP S l th) (hO : COK l) {k x y z : Int} (hk : 0 ≤ k ∧ k < 65536) (hx : 0 ≤ x ∧ x < 12) (hy : 0 ≤ y ∧ y < 12) (hz : 0 ≤ z ∧ z < 12) (hl : l.length < 6936) (hA : S.2.1 18 z = 10 * th z) (ht : 1 ≤ th z ∧ th z ≤ 3) : r_X f_X1_add [.ref 36, iv k, iv x, iv y, iv z] (q_en S, c, w) (fun _ h2 => ∃ T, h2 = (q_en T, c, w) ∧ r_ok T ∧ r_fr [10, 9] [17, 16, 15, 14] [0] S T ∧ CREP T (l ++ [(k, x, y, z)]) th ∧ COK (l ++ [(k, x, y, z)])) := by
  refine r_Xof (r_run (L := [_, _, _, _, _, _]) ⟨rfl, Nat.le_of_ble_eq_true rfl⟩ rfl ?_)
  unfold b_X1_add
  have h9 := hc.1
  have hH := CREP_h hc
  have hb := COK_h hO
  have hd := dst_b (hx := (cg l (S.1 9 - 1)).2.1) (hy := (cg l (S.1 9 - 1)).2.2.1) (x := x) (y := y) (by rw [hH.1]; exact hb.1) (by rw [hH.2]; exact hb.2) hx hy
  have htr := trn_b hO l.length
  have h10 := hc.2.2.1
  have ham := amt_r (a := dst (cg l (S.1 9 - 1)).2.1 (cg l (S.1 9 - 1)).2.2.1 x y + 1) (by omega) ht
  have hC := COK_a hO hk hx hy hz
  refine r_seq ?_
  refine r_sif (r_or (r_ge (r_fld (r_loc rfl rfl) gg_Commands_count) (r_lit ql_6936) (by first | omega | assumption | exact hS.1 _ | exact hS.2 _ _ | (rw [hH.1]; exact hb.1) | (rw [hH.2]; exact hb.2) | (rw [hA]; assumption) | (show 0 ≤ S.1 9; omega) | (show S.1 9 < ((6936 : Nat) : Int); omega)) (by first | omega | assumption | exact hS.1 _ | exact hS.2 _ _ | (rw [hH.1]; exact hb.1) | (rw [hH.2]; exact hb.2) | (rw [hA]; assumption) | (show 0 ≤ S.1 9; omega) | (show S.1 9 < ((6936 : Nat) : Int); omega))) (fun hp1 => (r_not (r_bz (r_call (r_cons (r_loc rfl rfl) r_nil) rfl (sp_X9_isPlace (by first | omega | assumption | exact hS.1 _ | exact hS.2 _ _ | (rw [hH.1]; exact hb.1) | (rw [hH.2]; exact hb.2) | (rw [hA]; assumption) | (show 0 ≤ S.1 9; omega) | (show S.1 9 < ((6936 : Nat) : Int); omega))) rfl))))) (fun hp2 => ?_) (fun hp3 => ?_)
  ·
    have hpT := hp2
    have hpT0 := hp2
    refine wS_retv ?_
    refine r_ks (j := 2) ?_
    refine r_pretv r_le0 ?_
    exact absurd hpT0 (by omega)
  ·
    have hpF := hp3
    have hpF0 := hp3
    refine wS_skip ?_
    refine r_k0 ?_
    refine r_seq ?_
    refine r_sloc (L2 := [_, _, _, _, _, _]) (r_call (r_cons (r_call (r_cons (r_loc rfl rfl) (r_cons (r_sub (r_fld (r_loc rfl rfl) gg_Commands_count) (r_lit ql_1)) r_nil)) rfl (sp_X1_behindX (by first | omega | assumption | exact hS.1 _ | exact hS.2 _ _ | (rw [hH.1]; exact hb.1) | (rw [hH.2]; exact hb.2) | (rw [hA]; assumption) | (show 0 ≤ S.1 9; omega) | (show S.1 9 < ((6936 : Nat) : Int); omega)) (by first | omega | assumption | exact hS.1 _ | exact hS.2 _ _ | (rw [hH.1]; exact hb.1) | (rw [hH.2]; exact hb.2) | (rw [hA]; assumption) | (show 0 ≤ S.1 9; omega) | (show S.1 9 < ((6936 : Nat) : Int); omega)) (by first | omega | assumption | exact hS.1 _ | exact hS.2 _ _ | (rw [hH.1]; exact hb.1) | (rw [hH.2]; exact hb.2) | (rw [hA]; assumption) | (show 0 ≤ S.1 9; omega) | (show S.1 9 < ((6936 : Nat) : Int); omega)) (by first | omega | assumption | exact hS.1 _ | exact hS.2 _ _ | (rw [hH.1]; exact hb.1) | (rw [hH.2]; exact hb.2) | (rw [hA]; assumption) | (show 0 ≤ S.1 9; omega) | (show S.1 9 < ((6936 : Nat) : Int); omega)) (by first | omega | assumption | exact hS.1 _ | exact hS.2 _ _ | (rw [hH.1]; exact hb.1) | (rw [hH.2]; exact hb.2) | (rw [hA]; assumption) | (show 0 ≤ S.1 9; omega) | (show S.1 9 < ((6936 : Nat) : Int); omega))) rfl) (r_cons (r_call (r_cons (r_loc rfl rfl) (r_cons (r_sub (r_fld (r_loc rfl rfl) gg_Commands_count) (r_lit ql_1)) r_nil)) rfl (sp_X1_behindY (by first | omega | assumption | exact hS.1 _ | exact hS.2 _ _ | (rw [hH.1]; exact hb.1) | (rw [hH.2]; exact hb.2) | (rw [hA]; assumption) | (show 0 ≤ S.1 9; omega) | (show S.1 9 < ((6936 : Nat) : Int); omega)) (by first | omega | assumption | exact hS.1 _ | exact hS.2 _ _ | (rw [hH.1]; exact hb.1) | (rw [hH.2]; exact hb.2) | (rw [hA]; assumption) | (show 0 ≤ S.1 9; omega) | (show S.1 9 < ((6936 : Nat) : Int); omega)) (by first | omega | assumption | exact hS.1 _ | exact hS.2 _ _ | (rw [hH.1]; exact hb.1) | (rw [hH.2]; exact hb.2) | (rw [hA]; assumption) | (show 0 ≤ S.1 9; omega) | (show S.1 9 < ((6936 : Nat) : Int); omega)) (by first | omega | assumption | exact hS.1 _ | exact hS.2 _ _ | (rw [hH.1]; exact hb.1) | (rw [hH.2]; exact hb.2) | (rw [hA]; assumption) | (show 0 ≤ S.1 9; omega) | (show S.1 9 < ((6936 : Nat) : Int); omega)) (by first | omega | assumption | exact hS.1 _ | exact hS.2 _ _ | (rw [hH.1]; exact hb.1) | (rw [hH.2]; exact hb.2) | (rw [hA]; assumption) | (show 0 ≤ S.1 9; omega) | (show S.1 9 < ((6936 : Nat) : Int); omega))) rfl) (r_cons (r_loc rfl rfl) (r_cons (r_loc rfl rfl) r_nil)))) rfl (sp_X9_distance (by first | omega | assumption | exact hS.1 _ | exact hS.2 _ _ | (rw [hH.1]; exact hb.1) | (rw [hH.2]; exact hb.2) | (rw [hA]; assumption) | (show 0 ≤ S.1 9; omega) | (show S.1 9 < ((6936 : Nat) : Int); omega)) (by first | omega | assumption | exact hS.1 _ | exact hS.2 _ _ | (rw [hH.1]; exact hb.1) | (rw [hH.2]; exact hb.2) | (rw [hA]; assumption) | (show 0 ≤ S.1 9; omega) | (show S.1 9 < ((6936 : Nat) : Int); omega)) (by first | omega | assumption | exact hS.1 _ | exact hS.2 _ _ | (rw [hH.1]; exact hb.1) | (rw [hH.2]; exact hb.2) | (rw [hA]; assumption) | (show 0 ≤ S.1 9; omega) | (show S.1 9 < ((6936 : Nat) : Int); omega)) (by first | omega | assumption | exact hS.1 _ | exact hS.2 _ _ | (rw [hH.1]; exact hb.1) | (rw [hH.2]; exact hb.2) | (rw [hA]; assumption) | (show 0 ≤ S.1 9; omega) | (show S.1 9 < ((6936 : Nat) : Int); omega))) rfl) rfl rfl ?_
    refine r_k0 ?_
    refine r_seq ?_
    refine r_sif (r_eq (r_loc rfl rfl) (r_lit ql_103) (by first | omega | assumption | exact hS.1 _ | exact hS.2 _ _ | (rw [hH.1]; exact hb.1) | (rw [hH.2]; exact hb.2) | (rw [hA]; assumption) | (show 0 ≤ S.1 9; omega) | (show S.1 9 < ((6936 : Nat) : Int); omega)) (by first | omega | assumption | exact hS.1 _ | exact hS.2 _ _ | (rw [hH.1]; exact hb.1) | (rw [hH.2]; exact hb.2) | (rw [hA]; assumption) | (show 0 ≤ S.1 9; omega) | (show S.1 9 < ((6936 : Nat) : Int); omega))) (fun hp4 => ?_) (fun hp5 => ?_)
    ·
      have hpT := hp4
      have hpT1 := hp4
      refine r_sA1 (r_loc rfl rfl) gg_Commands_travel (r_loc rfl rfl) r_iadd gp_Commands_travel ?_
      refine r_k0 ?_
      refine r_seq ?_
      refine r_sput3 (r_fld (r_loc rfl rfl) gg_Commands_kind) (r_fld (r_loc rfl rfl) gg_Commands_count) (r_loc rfl rfl) (r_putI ga_Commands_kind gs_Commands_kind (by first | omega | assumption | exact hS.1 _ | exact hS.2 _ _ | (rw [hH.1]; exact hb.1) | (rw [hH.2]; exact hb.2) | (rw [hA]; assumption) | (show 0 ≤ S.1 9; omega) | (show S.1 9 < ((6936 : Nat) : Int); omega)) (by first | omega | assumption | exact hS.1 _ | exact hS.2 _ _ | (rw [hH.1]; exact hb.1) | (rw [hH.2]; exact hb.2) | (rw [hA]; assumption) | (show 0 ≤ S.1 9; omega) | (show S.1 9 < ((6936 : Nat) : Int); omega)) (by decide) (q_narC (by first | omega | assumption | exact hS.1 _ | exact hS.2 _ _ | (rw [hH.1]; exact hb.1) | (rw [hH.2]; exact hb.2) | (rw [hA]; assumption) | (show 0 ≤ S.1 9; omega) | (show S.1 9 < ((6936 : Nat) : Int); omega)) (by first | omega | assumption | exact hS.1 _ | exact hS.2 _ _ | (rw [hH.1]; exact hb.1) | (rw [hH.2]; exact hb.2) | (rw [hA]; assumption) | (show 0 ≤ S.1 9; omega) | (show S.1 9 < ((6936 : Nat) : Int); omega)))) ?_
      refine r_k0 ?_
      refine r_seq ?_
      refine r_sput3 (r_fld (r_loc rfl rfl) gg_Commands_headX) (r_fld (r_loc rfl rfl) gg_Commands_count) (r_loc rfl rfl) (r_putI ga_Commands_headX gs_Commands_headX (by first | omega | assumption | exact hS.1 _ | exact hS.2 _ _ | (rw [hH.1]; exact hb.1) | (rw [hH.2]; exact hb.2) | (rw [hA]; assumption) | (show 0 ≤ S.1 9; omega) | (show S.1 9 < ((6936 : Nat) : Int); omega)) (by first | omega | assumption | exact hS.1 _ | exact hS.2 _ _ | (rw [hH.1]; exact hb.1) | (rw [hH.2]; exact hb.2) | (rw [hA]; assumption) | (show 0 ≤ S.1 9; omega) | (show S.1 9 < ((6936 : Nat) : Int); omega)) (by decide) q_narI) ?_
      refine r_k0 ?_
      refine r_seq ?_
      refine r_sput3 (r_fld (r_loc rfl rfl) gg_Commands_headY) (r_fld (r_loc rfl rfl) gg_Commands_count) (r_loc rfl rfl) (r_putI ga_Commands_headY gs_Commands_headY (by first | omega | assumption | exact hS.1 _ | exact hS.2 _ _ | (rw [hH.1]; exact hb.1) | (rw [hH.2]; exact hb.2) | (rw [hA]; assumption) | (show 0 ≤ S.1 9; omega) | (show S.1 9 < ((6936 : Nat) : Int); omega)) (by first | omega | assumption | exact hS.1 _ | exact hS.2 _ _ | (rw [hH.1]; exact hb.1) | (rw [hH.2]; exact hb.2) | (rw [hA]; assumption) | (show 0 ≤ S.1 9; omega) | (show S.1 9 < ((6936 : Nat) : Int); omega)) (by decide) q_narI) ?_
      refine r_k0 ?_
      refine r_seq ?_
      refine r_sput3 (r_fld (r_loc rfl rfl) gg_Commands_layer) (r_fld (r_loc rfl rfl) gg_Commands_count) (r_loc rfl rfl) (r_putI ga_Commands_layer gs_Commands_layer (by first | omega | assumption | exact hS.1 _ | exact hS.2 _ _ | (rw [hH.1]; exact hb.1) | (rw [hH.2]; exact hb.2) | (rw [hA]; assumption) | (show 0 ≤ S.1 9; omega) | (show S.1 9 < ((6936 : Nat) : Int); omega)) (by first | omega | assumption | exact hS.1 _ | exact hS.2 _ _ | (rw [hH.1]; exact hb.1) | (rw [hH.2]; exact hb.2) | (rw [hA]; assumption) | (show 0 ≤ S.1 9; omega) | (show S.1 9 < ((6936 : Nat) : Int); omega)) (by decide) q_narI) ?_
      refine r_k0 ?_
      refine r_seq ?_
      refine r_sA1 (r_loc rfl rfl) gg_Commands_count (r_lit ql_1) r_iadd gp_Commands_count ?_
      refine r_k0 ?_
      refine wS_retv ?_
      refine r_pretv r_le0 ?_
      have hp5 := hpT1
      refine ⟨_, rfl, _, rfl, ?_, r_frm (r_frI (r_frA (r_frA (r_frA (r_frA (r_frI r_fr0)))))) (by decide) (by decide) (by decide), CREP_w hc rfl rfl rfl rfl rfl ?_ ?_, hC⟩
      · exact r_okI (r_okA (r_okA (r_okA (r_okA (r_okI hS (by omega)) (r_oku (hS.2 _) (by omega))) (r_oku (hS.2 _) (by omega))) (r_oku (hS.2 _) (by omega))) (r_oku (hS.2 _) (by omega))) (by show rg (S.1 9 + 1); omega)
      · rw [if_pos hp5, ← hH.1, ← hH.2]; rfl
      · rw [if_neg (by omega), Int.add_zero]; rfl
    ·
      have hpF := hp5
      have hpF1 := hp5
      refine r_sif (r_eq (r_loc rfl rfl) (r_lit ql_100) (by first | omega | assumption | exact hS.1 _ | exact hS.2 _ _ | (rw [hH.1]; exact hb.1) | (rw [hH.2]; exact hb.2) | (rw [hA]; assumption) | (show 0 ≤ S.1 9; omega) | (show S.1 9 < ((6936 : Nat) : Int); omega)) (by first | omega | assumption | exact hS.1 _ | exact hS.2 _ _ | (rw [hH.1]; exact hb.1) | (rw [hH.2]; exact hb.2) | (rw [hA]; assumption) | (show 0 ≤ S.1 9; omega) | (show S.1 9 < ((6936 : Nat) : Int); omega))) (fun hp6 => ?_) (fun hp7 => ?_)
      ·
        have hpT := hp6
        have hpT2 := hp6
        refine r_sA1 (r_loc rfl rfl) gg_Commands_amount (r_i2l (r_mul (r_add (r_loc rfl rfl) (r_lit ql_1)) (r_aget ga_Commands_amountOfCell (r_fld (r_loc rfl rfl) gg_Commands_amountOfCell) (r_loc rfl rfl) (by first | omega | assumption | exact hS.1 _ | exact hS.2 _ _ | (rw [hH.1]; exact hb.1) | (rw [hH.2]; exact hb.2) | (rw [hA]; assumption) | (show 0 ≤ S.1 9; omega) | (show S.1 9 < ((6936 : Nat) : Int); omega)) (by first | omega | assumption | exact hS.1 _ | exact hS.2 _ _ | (rw [hH.1]; exact hb.1) | (rw [hH.2]; exact hb.2) | (rw [hA]; assumption) | (show 0 ≤ S.1 9; omega) | (show S.1 9 < ((6936 : Nat) : Int); omega)) (by decide))) (by first | omega | assumption | exact hS.1 _ | exact hS.2 _ _ | (rw [hH.1]; exact hb.1) | (rw [hH.2]; exact hb.2) | (rw [hA]; assumption) | (show 0 ≤ S.1 9; omega) | (show S.1 9 < ((6936 : Nat) : Int); omega))) r_ladd2 gp_Commands_amount ?_
        refine r_k0 ?_
        refine r_seq ?_
        refine r_sput3 (r_fld (r_loc rfl rfl) gg_Commands_kind) (r_fld (r_loc rfl rfl) gg_Commands_count) (r_loc rfl rfl) (r_putI ga_Commands_kind gs_Commands_kind (by first | omega | assumption | exact hS.1 _ | exact hS.2 _ _ | (rw [hH.1]; exact hb.1) | (rw [hH.2]; exact hb.2) | (rw [hA]; assumption) | (show 0 ≤ S.1 9; omega) | (show S.1 9 < ((6936 : Nat) : Int); omega)) (by first | omega | assumption | exact hS.1 _ | exact hS.2 _ _ | (rw [hH.1]; exact hb.1) | (rw [hH.2]; exact hb.2) | (rw [hA]; assumption) | (show 0 ≤ S.1 9; omega) | (show S.1 9 < ((6936 : Nat) : Int); omega)) (by decide) (q_narC (by first | omega | assumption | exact hS.1 _ | exact hS.2 _ _ | (rw [hH.1]; exact hb.1) | (rw [hH.2]; exact hb.2) | (rw [hA]; assumption) | (show 0 ≤ S.1 9; omega) | (show S.1 9 < ((6936 : Nat) : Int); omega)) (by first | omega | assumption | exact hS.1 _ | exact hS.2 _ _ | (rw [hH.1]; exact hb.1) | (rw [hH.2]; exact hb.2) | (rw [hA]; assumption) | (show 0 ≤ S.1 9; omega) | (show S.1 9 < ((6936 : Nat) : Int); omega)))) ?_
        refine r_k0 ?_
        refine r_seq ?_
        refine r_sput3 (r_fld (r_loc rfl rfl) gg_Commands_headX) (r_fld (r_loc rfl rfl) gg_Commands_count) (r_loc rfl rfl) (r_putI ga_Commands_headX gs_Commands_headX (by first | omega | assumption | exact hS.1 _ | exact hS.2 _ _ | (rw [hH.1]; exact hb.1) | (rw [hH.2]; exact hb.2) | (rw [hA]; assumption) | (show 0 ≤ S.1 9; omega) | (show S.1 9 < ((6936 : Nat) : Int); omega)) (by first | omega | assumption | exact hS.1 _ | exact hS.2 _ _ | (rw [hH.1]; exact hb.1) | (rw [hH.2]; exact hb.2) | (rw [hA]; assumption) | (show 0 ≤ S.1 9; omega) | (show S.1 9 < ((6936 : Nat) : Int); omega)) (by decide) q_narI) ?_
        refine r_k0 ?_
        refine r_seq ?_
        refine r_sput3 (r_fld (r_loc rfl rfl) gg_Commands_headY) (r_fld (r_loc rfl rfl) gg_Commands_count) (r_loc rfl rfl) (r_putI ga_Commands_headY gs_Commands_headY (by first | omega | assumption | exact hS.1 _ | exact hS.2 _ _ | (rw [hH.1]; exact hb.1) | (rw [hH.2]; exact hb.2) | (rw [hA]; assumption) | (show 0 ≤ S.1 9; omega) | (show S.1 9 < ((6936 : Nat) : Int); omega)) (by first | omega | assumption | exact hS.1 _ | exact hS.2 _ _ | (rw [hH.1]; exact hb.1) | (rw [hH.2]; exact hb.2) | (rw [hA]; assumption) | (show 0 ≤ S.1 9; omega) | (show S.1 9 < ((6936 : Nat) : Int); omega)) (by decide) q_narI) ?_
        refine r_k0 ?_
        refine r_seq ?_
        refine r_sput3 (r_fld (r_loc rfl rfl) gg_Commands_layer) (r_fld (r_loc rfl rfl) gg_Commands_count) (r_loc rfl rfl) (r_putI ga_Commands_layer gs_Commands_layer (by first | omega | assumption | exact hS.1 _ | exact hS.2 _ _ | (rw [hH.1]; exact hb.1) | (rw [hH.2]; exact hb.2) | (rw [hA]; assumption) | (show 0 ≤ S.1 9; omega) | (show S.1 9 < ((6936 : Nat) : Int); omega)) (by first | omega | assumption | exact hS.1 _ | exact hS.2 _ _ | (rw [hH.1]; exact hb.1) | (rw [hH.2]; exact hb.2) | (rw [hA]; assumption) | (show 0 ≤ S.1 9; omega) | (show S.1 9 < ((6936 : Nat) : Int); omega)) (by decide) q_narI) ?_
        refine r_k0 ?_
        refine r_seq ?_
        refine r_sA1 (r_loc rfl rfl) gg_Commands_count (r_lit ql_1) r_iadd gp_Commands_count ?_
        refine r_k0 ?_
        refine wS_retv ?_
        refine r_pretv r_le0 ?_
        have hp7 := hpT2
        refine ⟨_, rfl, _, rfl, ?_, r_frm (r_frI (r_frA (r_frA (r_frA (r_frA (r_frJ r_fr0)))))) (by decide) (by decide) (by decide), CREP_w hc rfl rfl rfl rfl rfl ?_ ?_, hC⟩
        · exact r_okI (r_okA (r_okA (r_okA (r_okA (r_okJ hS) (r_oku (hS.2 _) (by omega))) (r_oku (hS.2 _) (by omega))) (r_oku (hS.2 _) (by omega))) (r_oku (hS.2 _) (by omega))) (by show rg (S.1 9 + 1); omega)
        · rw [if_neg (by omega), Int.add_zero]; rfl
        · rw [if_pos hp7, ← hH.1, ← hH.2, ← hA]; rfl
      ·
        have hpF := hp7
        have hpF2 := hp7
        refine wS_skip ?_
        refine r_k0 ?_
        refine r_seq ?_
        refine r_sput3 (r_fld (r_loc rfl rfl) gg_Commands_kind) (r_fld (r_loc rfl rfl) gg_Commands_count) (r_loc rfl rfl) (r_putI ga_Commands_kind gs_Commands_kind (by first | omega | assumption | exact hS.1 _ | exact hS.2 _ _ | (rw [hH.1]; exact hb.1) | (rw [hH.2]; exact hb.2) | (rw [hA]; assumption) | (show 0 ≤ S.1 9; omega) | (show S.1 9 < ((6936 : Nat) : Int); omega)) (by first | omega | assumption | exact hS.1 _ | exact hS.2 _ _ | (rw [hH.1]; exact hb.1) | (rw [hH.2]; exact hb.2) | (rw [hA]; assumption) | (show 0 ≤ S.1 9; omega) | (show S.1 9 < ((6936 : Nat) : Int); omega)) (by decide) (q_narC (by first | omega | assumption | exact hS.1 _ | exact hS.2 _ _ | (rw [hH.1]; exact hb.1) | (rw [hH.2]; exact hb.2) | (rw [hA]; assumption) | (show 0 ≤ S.1 9; omega) | (show S.1 9 < ((6936 : Nat) : Int); omega)) (by first | omega | assumption | exact hS.1 _ | exact hS.2 _ _ | (rw [hH.1]; exact hb.1) | (rw [hH.2]; exact hb.2) | (rw [hA]; assumption) | (show 0 ≤ S.1 9; omega) | (show S.1 9 < ((6936 : Nat) : Int); omega)))) ?_
        refine r_k0 ?_
        refine r_seq ?_
        refine r_sput3 (r_fld (r_loc rfl rfl) gg_Commands_headX) (r_fld (r_loc rfl rfl) gg_Commands_count) (r_loc rfl rfl) (r_putI ga_Commands_headX gs_Commands_headX (by first | omega | assumption | exact hS.1 _ | exact hS.2 _ _ | (rw [hH.1]; exact hb.1) | (rw [hH.2]; exact hb.2) | (rw [hA]; assumption) | (show 0 ≤ S.1 9; omega) | (show S.1 9 < ((6936 : Nat) : Int); omega)) (by first | omega | assumption | exact hS.1 _ | exact hS.2 _ _ | (rw [hH.1]; exact hb.1) | (rw [hH.2]; exact hb.2) | (rw [hA]; assumption) | (show 0 ≤ S.1 9; omega) | (show S.1 9 < ((6936 : Nat) : Int); omega)) (by decide) q_narI) ?_
        refine r_k0 ?_
        refine r_seq ?_
        refine r_sput3 (r_fld (r_loc rfl rfl) gg_Commands_headY) (r_fld (r_loc rfl rfl) gg_Commands_count) (r_loc rfl rfl) (r_putI ga_Commands_headY gs_Commands_headY (by first | omega | assumption | exact hS.1 _ | exact hS.2 _ _ | (rw [hH.1]; exact hb.1) | (rw [hH.2]; exact hb.2) | (rw [hA]; assumption) | (show 0 ≤ S.1 9; omega) | (show S.1 9 < ((6936 : Nat) : Int); omega)) (by first | omega | assumption | exact hS.1 _ | exact hS.2 _ _ | (rw [hH.1]; exact hb.1) | (rw [hH.2]; exact hb.2) | (rw [hA]; assumption) | (show 0 ≤ S.1 9; omega) | (show S.1 9 < ((6936 : Nat) : Int); omega)) (by decide) q_narI) ?_
        refine r_k0 ?_
        refine r_seq ?_
        refine r_sput3 (r_fld (r_loc rfl rfl) gg_Commands_layer) (r_fld (r_loc rfl rfl) gg_Commands_count) (r_loc rfl rfl) (r_putI ga_Commands_layer gs_Commands_layer (by first | omega | assumption | exact hS.1 _ | exact hS.2 _ _ | (rw [hH.1]; exact hb.1) | (rw [hH.2]; exact hb.2) | (rw [hA]; assumption) | (show 0 ≤ S.1 9; omega) | (show S.1 9 < ((6936 : Nat) : Int); omega)) (by first | omega | assumption | exact hS.1 _ | exact hS.2 _ _ | (rw [hH.1]; exact hb.1) | (rw [hH.2]; exact hb.2) | (rw [hA]; assumption) | (show 0 ≤ S.1 9; omega) | (show S.1 9 < ((6936 : Nat) : Int); omega)) (by decide) q_narI) ?_
        refine r_k0 ?_
        refine r_seq ?_
        refine r_sA1 (r_loc rfl rfl) gg_Commands_count (r_lit ql_1) r_iadd gp_Commands_count ?_
        refine r_k0 ?_
        refine wS_retv ?_
        refine r_pretv r_le0 ?_
        refine ⟨_, rfl, _, rfl, ?_, r_frm (r_frI (r_frA (r_frA (r_frA (r_frA r_fr0))))) (by decide) (by decide) (by decide), CREP_w hc rfl rfl rfl rfl rfl ?_ ?_, hC⟩
        · exact r_okI (r_okA (r_okA (r_okA (r_okA hS (r_oku (hS.2 _) (by omega))) (r_oku (hS.2 _) (by omega))) (r_oku (hS.2 _) (by omega))) (r_oku (hS.2 _) (by omega))) (by show rg (S.1 9 + 1); omega)
        · rw [if_neg (by omega), Int.add_zero]; rfl
        · rw [if_neg (by omega), Int.add_zero]; rfl
