theorem sp_X10_setPattern {S : q_Sg} {c w : Nat} (hS : r_ok S) {p : Int} (hp : 0 ≤ p ∧ p < 65536) (h30 : 0 ≤ S.1 30 ∧ S.1 30 < 65536) : r_X f_X10_setPattern [.ref 47, iv p] (q_en S, c, w) (fun r h2 => (¬ (r_i ((p = 108 ∨ p = 103) ∨ p = 119) 0 1) = 0 ∧ r = iv 0 ∧ h2 = (q_en (q_sI S 23 (r_i ((p = 108 ∨ p = 103) ∨ p = 119) 0 1)), c, w)) ∨ ((r_i ((p = 108 ∨ p = 103) ∨ p = 119) 0 1) = 0 ∧ r = iv (S.1 30) ∧ h2 = (q_en (q_sI (q_sI S 23 (r_i ((p = 108 ∨ p = 103) ∨ p = 119) 0 1)) 30 p), c, w))) := by
  refine r_Xof (r_run (L := [_, _, _]) ⟨rfl, Nat.le_of_ble_eq_true rfl⟩ rfl ?_)
  unfold b_X10_setPattern
  refine r_seq ?_
  refine r_sifD (r_Dn (r_Dz (r_callG (r_cons (r_loc rfl rfl) (r_cons (r_if (r_or (r_or (r_eq (r_loc rfl rfl) (r_lit ql_108) (by first | omega | assumption | exact hS.1 _ | exact hS.2 _ _ | (unfold r_i; (repeat' split) <;> omega) | exact r_zrg _ | (show 0 ≤ S.1 30; omega) | (show S.1 30 < 65536; omega) | exact h30.1 | exact h30.2) (by first | omega | assumption | exact hS.1 _ | exact hS.2 _ _ | (unfold r_i; (repeat' split) <;> omega) | exact r_zrg _ | (show 0 ≤ S.1 30; omega) | (show S.1 30 < 65536; omega) | exact h30.1 | exact h30.2)) (fun hp1 => (r_eq (r_loc rfl rfl) (r_lit ql_103) (by first | omega | assumption | exact hS.1 _ | exact hS.2 _ _ | (unfold r_i; (repeat' split) <;> omega) | exact r_zrg _ | (show 0 ≤ S.1 30; omega) | (show S.1 30 < 65536; omega) | exact h30.1 | exact h30.2) (by first | omega | assumption | exact hS.1 _ | exact hS.2 _ _ | (unfold r_i; (repeat' split) <;> omega) | exact r_zrg _ | (show 0 ≤ S.1 30; omega) | (show S.1 30 < 65536; omega) | exact h30.1 | exact h30.2)))) (fun hp2 => (r_eq (r_loc rfl rfl) (r_lit ql_119) (by first | omega | assumption | exact hS.1 _ | exact hS.2 _ _ | (unfold r_i; (repeat' split) <;> omega) | exact r_zrg _ | (show 0 ≤ S.1 30; omega) | (show S.1 30 < 65536; omega) | exact h30.1 | exact h30.2) (by first | omega | assumption | exact hS.1 _ | exact hS.2 _ _ | (unfold r_i; (repeat' split) <;> omega) | exact r_zrg _ | (show 0 ≤ S.1 30; omega) | (show S.1 30 < 65536; omega) | exact h30.1 | exact h30.2)))) (fun hp3 => (r_lit ql_0)) (fun hp4 => (r_lit ql_1))) r_nil)) rfl (sp_X10_goesOn (by first | omega | assumption | exact hS.1 _ | exact hS.2 _ _ | (unfold r_i; (repeat' split) <;> omega) | exact r_zrg _ | (show 0 ≤ S.1 30; omega) | (show S.1 30 < 65536; omega) | exact h30.1 | exact h30.2)) rfl))) (fun hp5 => ?_) (fun hp6 => ?_)
  ·
    have hpT := hp5
    have hpT0 := hp5
    refine r_sret (r_lit ql_0) ?_
    refine r_ks (j := 3) ?_
    refine r_pret (q_fit_char (by first | omega | assumption | exact hS.1 _ | exact hS.2 _ _ | (unfold r_i; (repeat' split) <;> omega) | exact r_zrg _ | (show 0 ≤ S.1 30; omega) | (show S.1 30 < 65536; omega) | exact h30.1 | exact h30.2) (by first | omega | assumption | exact hS.1 _ | exact hS.2 _ _ | (unfold r_i; (repeat' split) <;> omega) | exact r_zrg _ | (show 0 ≤ S.1 30; omega) | (show S.1 30 < 65536; omega) | exact h30.1 | exact h30.2)) r_le0 ?_
    exact ⟨_, rfl, Or.inl ⟨hpT0, rfl, rfl⟩⟩
  ·
    have hpF := hp6
    have hpF0 := hp6
    refine wS_skip ?_
    refine r_k0 ?_
    refine r_seq ?_
    refine r_sloc (L2 := [_, _, _]) (r_fld (r_loc rfl rfl) gg_Md_pattern) rfl rfl ?_
    refine r_k0 ?_
    refine r_seq ?_
    refine r_sput (r_loc rfl rfl) (r_loc rfl rfl) (gp_Md_pattern (by first | omega | assumption | exact hS.1 _ | exact hS.2 _ _ | (unfold r_i; (repeat' split) <;> omega) | exact r_zrg _ | (show 0 ≤ S.1 30; omega) | (show S.1 30 < 65536; omega) | exact h30.1 | exact h30.2) (by first | omega | assumption | exact hS.1 _ | exact hS.2 _ _ | (unfold r_i; (repeat' split) <;> omega) | exact r_zrg _ | (show 0 ≤ S.1 30; omega) | (show S.1 30 < 65536; omega) | exact h30.1 | exact h30.2)) ?_
    refine r_k0 ?_
    refine r_sret (r_loc rfl rfl) ?_
    refine r_pret (q_fit_char (by first | omega | assumption | exact hS.1 _ | exact hS.2 _ _ | (unfold r_i; (repeat' split) <;> omega) | exact r_zrg _ | (show 0 ≤ S.1 30; omega) | (show S.1 30 < 65536; omega) | exact h30.1 | exact h30.2) (by first | omega | assumption | exact hS.1 _ | exact hS.2 _ _ | (unfold r_i; (repeat' split) <;> omega) | exact r_zrg _ | (show 0 ≤ S.1 30; omega) | (show S.1 30 < 65536; omega) | exact h30.1 | exact h30.2)) r_le0 ?_
    exact ⟨_, rfl, Or.inr ⟨Classical.not_not.mp hpF0, rfl, rfl⟩⟩
theorem sp_X10_setThickness {S : q_Sg} {c w : Nat} (hS : r_ok S) {z v : Int} (hz : rg z) (hv : rg v) : r_X f_X10_setThickness [.ref 47, iv z, iv v] (q_en S, c, w) (fun r h2 => (¬ (r_i (¬ (0 ≤ z ∧ z < 12)) 1 (r_i (¬ (1 ≤ v ∧ v ≤ 3)) 2 0)) = 0 ∧ r = iv 0 ∧ h2 = (q_en (q_sI S 23 (r_i (¬ (0 ≤ z ∧ z < 12)) 1 (r_i (¬ (1 ≤ v ∧ v ≤ 3)) 2 0))), c, w)) ∨ ((r_i (¬ (0 ≤ z ∧ z < 12)) 1 (r_i (¬ (1 ≤ v ∧ v ≤ 3)) 2 0)) = 0 ∧ r = iv (S.2.1 22 z) ∧ h2 = (q_en (q_sA (q_sI S 23 (r_i (¬ (0 ≤ z ∧ z < 12)) 1 (r_i (¬ (1 ≤ v ∧ v ≤ 3)) 2 0))) 22 (q_up (S.2.1 22) z v)), c, w))) := by
  refine r_Xof (r_run (L := [_, _, _, _]) ⟨rfl, Nat.le_of_ble_eq_true rfl⟩ rfl ?_)
  unfold b_X10_setThickness
  have hzr : (r_i (¬ (0 ≤ z ∧ z < 12)) 1 (r_i (¬ (1 ≤ v ∧ v ≤ 3)) 2 0)) = 0 → 0 ≤ z ∧ z < 12 := by unfold r_i; (repeat' split) <;> omega
  refine r_seq ?_
  refine r_sifD (r_Dn (r_Dz (r_callG (r_cons (r_loc rfl rfl) (r_cons (r_if (r_not (r_bz (r_call (r_cons (r_loc rfl rfl) r_nil) rfl (sp_X10_isLayer (by first | omega | assumption | exact hS.1 _ | exact hS.2 _ _ | (unfold r_i; (repeat' split) <;> omega) | exact r_zrg _)) rfl))) (fun hp1 => (r_lit ql_1)) (fun hp2 => (r_if (r_not (r_bz (r_call (r_cons (r_loc rfl rfl) (r_cons (r_lit ql_1) (r_cons (r_lit ql_3) r_nil))) rfl (sp_X10_in (by first | omega | assumption | exact hS.1 _ | exact hS.2 _ _ | (unfold r_i; (repeat' split) <;> omega) | exact r_zrg _) (by first | omega | assumption | exact hS.1 _ | exact hS.2 _ _ | (unfold r_i; (repeat' split) <;> omega) | exact r_zrg _) (by first | omega | assumption | exact hS.1 _ | exact hS.2 _ _ | (unfold r_i; (repeat' split) <;> omega) | exact r_zrg _)) rfl))) (fun hp3 => (r_lit ql_2)) (fun hp4 => (r_lit ql_0))))) r_nil)) rfl (sp_X10_goesOn (by first | omega | assumption | exact hS.1 _ | exact hS.2 _ _ | (unfold r_i; (repeat' split) <;> omega) | exact r_zrg _)) rfl))) (fun hp5 => ?_) (fun hp6 => ?_)
  ·
    have hpT := hp5
    have hpT0 := hp5
    refine r_sret (r_lit ql_0) ?_
    refine r_ks (j := 3) ?_
    refine r_pret (q_fit_int _) r_le0 ?_
    exact ⟨_, rfl, Or.inl ⟨hpT0, rfl, rfl⟩⟩
  ·
    have hpF := hp6
    have hpF0 := hp6
    have hzz := hzr (Classical.not_not.mp hpF0)
    refine wS_skip ?_
    refine r_k0 ?_
    refine r_seq ?_
    refine r_sloc (L2 := [_, _, _, _]) (r_aget ga_Md_thickness (r_fld (r_loc rfl rfl) gg_Md_thickness) (r_loc rfl rfl) (by first | omega | assumption | exact hS.1 _ | exact hS.2 _ _ | (unfold r_i; (repeat' split) <;> omega) | exact r_zrg _) (by first | omega | assumption | exact hS.1 _ | exact hS.2 _ _ | (unfold r_i; (repeat' split) <;> omega) | exact r_zrg _) (by decide)) rfl rfl ?_
    refine r_k0 ?_
    refine r_seq ?_
    refine r_sput3 (r_fld (r_loc rfl rfl) gg_Md_thickness) (r_loc rfl rfl) (r_loc rfl rfl) (r_putI ga_Md_thickness gs_Md_thickness (by first | omega | assumption | exact hS.1 _ | exact hS.2 _ _ | (unfold r_i; (repeat' split) <;> omega) | exact r_zrg _) (by first | omega | assumption | exact hS.1 _ | exact hS.2 _ _ | (unfold r_i; (repeat' split) <;> omega) | exact r_zrg _) (by decide) q_narI) ?_
    refine r_k0 ?_
    refine r_sret (r_loc rfl rfl) ?_
    refine r_pret (q_fit_int _) r_le0 ?_
    exact ⟨_, rfl, Or.inr ⟨Classical.not_not.mp hpF0, rfl, rfl⟩⟩
theorem sp_X10_kindAt {S : q_Sg} {c w : Nat} (hS : r_ok S) (hK : SOK S.1 24) {x y z : Int} (hx : rg x) (hy : rg y) (hz : rg z)  : r_X f_X10_kindAt [.ref 47, iv x, iv y, iv z] (q_en S, c, w) (fun r h2 => h2 = (q_en (q_sI S 23 (r_i (inc x y z) 0 1)), c, w) ∧ (((r_i (inc x y z) 0 1) = 0 ∧ r = iv (KND (S.2.1 21) S.1 24 x y z)) ∨ (¬ (r_i (inc x y z) 0 1) = 0 ∧ r = iv 0))) := by
  refine r_Xof (r_run (L := [_, _, _, _]) ⟨rfl, Nat.le_of_ble_eq_true rfl⟩ rfl ?_)
  unfold b_X10_kindAt
  have hin : (r_i (inc x y z) 0 1) = 0 → inc x y z := by unfold r_i; split <;> omega
  refine r_sretD (r_Dz (r_callG (r_cons (r_loc rfl rfl) (r_cons (r_if (r_bz (r_call (r_cons (r_loc rfl rfl) (r_cons (r_loc rfl rfl) (r_cons (r_loc rfl rfl) r_nil))) rfl (sp_X10_isPlace (by first | omega | assumption | exact hS.1 _ | exact hS.2 _ _ | (unfold r_i; (repeat' split) <;> omega) | exact r_zrg _ | exact r_okI hS (by unfold r_i; split <;> omega) | (have := hin (by assumption); omega) | exact (KND_c _ _ _ _ _ _).1 | exact (KND_c _ _ _ _ _ _).2) (by first | omega | assumption | exact hS.1 _ | exact hS.2 _ _ | (unfold r_i; (repeat' split) <;> omega) | exact r_zrg _ | exact r_okI hS (by unfold r_i; split <;> omega) | (have := hin (by assumption); omega) | exact (KND_c _ _ _ _ _ _).1 | exact (KND_c _ _ _ _ _ _).2) (by first | omega | assumption | exact hS.1 _ | exact hS.2 _ _ | (unfold r_i; (repeat' split) <;> omega) | exact r_zrg _ | exact r_okI hS (by unfold r_i; split <;> omega) | (have := hin (by assumption); omega) | exact (KND_c _ _ _ _ _ _).1 | exact (KND_c _ _ _ _ _ _).2)) rfl)) (fun hp1 => (r_lit ql_0)) (fun hp2 => (r_lit ql_1))) r_nil)) rfl (sp_X10_goesOn (by first | omega | assumption | exact hS.1 _ | exact hS.2 _ _ | (unfold r_i; (repeat' split) <;> omega) | exact r_zrg _ | exact r_okI hS (by unfold r_i; split <;> omega) | (have := hin (by assumption); omega) | exact (KND_c _ _ _ _ _ _).1 | exact (KND_c _ _ _ _ _ _).2)) rfl)) (fun hp3 => ?_) (fun hp4 => ?_)
  ·
    refine r_sret (r_call (r_cons (r_loc rfl rfl) (r_cons (r_loc rfl rfl) (r_cons (r_loc rfl rfl) (r_cons (r_loc rfl rfl) r_nil)))) rfl (sp_X10_kindOf (by first | omega | assumption | exact hS.1 _ | exact hS.2 _ _ | (unfold r_i; (repeat' split) <;> omega) | exact r_zrg _ | exact r_okI hS (by unfold r_i; split <;> omega) | (have := hin (by assumption); omega) | exact (KND_c _ _ _ _ _ _).1 | exact (KND_c _ _ _ _ _ _).2) (by first | omega | assumption | exact hS.1 _ | exact hS.2 _ _ | (unfold r_i; (repeat' split) <;> omega) | exact r_zrg _ | exact r_okI hS (by unfold r_i; split <;> omega) | (have := hin (by assumption); omega) | exact (KND_c _ _ _ _ _ _).1 | exact (KND_c _ _ _ _ _ _).2) (by first | omega | assumption | exact hS.1 _ | exact hS.2 _ _ | (unfold r_i; (repeat' split) <;> omega) | exact r_zrg _ | exact r_okI hS (by unfold r_i; split <;> omega) | (have := hin (by assumption); omega) | exact (KND_c _ _ _ _ _ _).1 | exact (KND_c _ _ _ _ _ _).2) (by first | omega | assumption | exact hS.1 _ | exact hS.2 _ _ | (unfold r_i; (repeat' split) <;> omega) | exact r_zrg _ | exact r_okI hS (by unfold r_i; split <;> omega) | (have := hin (by assumption); omega) | exact (KND_c _ _ _ _ _ _).1 | exact (KND_c _ _ _ _ _ _).2) (by first | omega | assumption | exact hS.1 _ | exact hS.2 _ _ | (unfold r_i; (repeat' split) <;> omega) | exact r_zrg _ | exact r_okI hS (by unfold r_i; split <;> omega) | (have := hin (by assumption); omega) | exact (KND_c _ _ _ _ _ _).1 | exact (KND_c _ _ _ _ _ _).2)) rfl) ?_
    refine r_pret (q_fit_char (by first | omega | assumption | exact hS.1 _ | exact hS.2 _ _ | (unfold r_i; (repeat' split) <;> omega) | exact r_zrg _ | exact r_okI hS (by unfold r_i; split <;> omega) | (have := hin (by assumption); omega) | exact (KND_c _ _ _ _ _ _).1 | exact (KND_c _ _ _ _ _ _).2) (by first | omega | assumption | exact hS.1 _ | exact hS.2 _ _ | (unfold r_i; (repeat' split) <;> omega) | exact r_zrg _ | exact r_okI hS (by unfold r_i; split <;> omega) | (have := hin (by assumption); omega) | exact (KND_c _ _ _ _ _ _).1 | exact (KND_c _ _ _ _ _ _).2)) r_le0 ?_
    exact ⟨_, rfl, rfl, Or.inl ⟨by assumption, rfl⟩⟩
  ·
    refine r_sret (r_lit ql_0) ?_
    refine r_pret (q_fit_char (by first | omega | assumption | exact hS.1 _ | exact hS.2 _ _ | (unfold r_i; (repeat' split) <;> omega) | exact r_zrg _ | exact r_okI hS (by unfold r_i; split <;> omega) | (have := hin (by assumption); omega) | exact (KND_c _ _ _ _ _ _).1 | exact (KND_c _ _ _ _ _ _).2) (by first | omega | assumption | exact hS.1 _ | exact hS.2 _ _ | (unfold r_i; (repeat' split) <;> omega) | exact r_zrg _ | exact r_okI hS (by unfold r_i; split <;> omega) | (have := hin (by assumption); omega) | exact (KND_c _ _ _ _ _ _).1 | exact (KND_c _ _ _ _ _ _).2)) r_le0 ?_
    exact ⟨_, rfl, rfl, Or.inr ⟨by assumption, rfl⟩⟩
theorem sp_X10_laid {S : q_Sg} {c w : Nat} (hS : r_ok S) {x y z : Int} (hx : rg x) (hy : rg y) (hz : rg z)  : r_X f_X10_laid [.ref 47, iv x, iv y, iv z] (q_en S, c, w) (fun r h2 => h2 = (q_en (q_sI S 23 (r_i (inc x y z) 0 1)), c, w) ∧ (((r_i (inc x y z) 0 1) = 0 ∧ r = iv (S.2.1 32 (144 * z + 12 * y + x))) ∨ (¬ (r_i (inc x y z) 0 1) = 0 ∧ r = iv 0))) := by
  refine r_Xof (r_run (L := [_, _, _, _]) ⟨rfl, Nat.le_of_ble_eq_true rfl⟩ rfl ?_)
  unfold b_X10_laid
  have hin : (r_i (inc x y z) 0 1) = 0 → inc x y z := by unfold r_i; split <;> omega
  refine r_sretD (r_Dz (r_callG (r_cons (r_loc rfl rfl) (r_cons (r_if (r_bz (r_call (r_cons (r_loc rfl rfl) (r_cons (r_loc rfl rfl) (r_cons (r_loc rfl rfl) r_nil))) rfl (sp_X10_isPlace (by first | omega | assumption | exact hS.1 _ | exact hS.2 _ _ | (unfold r_i; (repeat' split) <;> omega) | exact r_zrg _ | (have := hin (by assumption); omega)) (by first | omega | assumption | exact hS.1 _ | exact hS.2 _ _ | (unfold r_i; (repeat' split) <;> omega) | exact r_zrg _ | (have := hin (by assumption); omega)) (by first | omega | assumption | exact hS.1 _ | exact hS.2 _ _ | (unfold r_i; (repeat' split) <;> omega) | exact r_zrg _ | (have := hin (by assumption); omega))) rfl)) (fun hp1 => (r_lit ql_0)) (fun hp2 => (r_lit ql_1))) r_nil)) rfl (sp_X10_goesOn (by first | omega | assumption | exact hS.1 _ | exact hS.2 _ _ | (unfold r_i; (repeat' split) <;> omega) | exact r_zrg _ | (have := hin (by assumption); omega))) rfl)) (fun hp3 => ?_) (fun hp4 => ?_)
  ·
    refine r_sret (r_aget ga_Md_laid (r_fld (r_loc rfl rfl) gg_Md_laid) (r_call (r_cons (r_loc rfl rfl) (r_cons (r_loc rfl rfl) (r_cons (r_loc rfl rfl) r_nil))) rfl sp_X10_cell rfl) (by first | omega | assumption | exact hS.1 _ | exact hS.2 _ _ | (unfold r_i; (repeat' split) <;> omega) | exact r_zrg _ | (have := hin (by assumption); omega)) (by first | omega | assumption | exact hS.1 _ | exact hS.2 _ _ | (unfold r_i; (repeat' split) <;> omega) | exact r_zrg _ | (have := hin (by assumption); omega)) (by decide)) ?_
    refine r_pret (q_fit_int _) r_le0 ?_
    exact ⟨_, rfl, rfl, Or.inl ⟨by assumption, rfl⟩⟩
  ·
    refine r_sret (r_lit ql_0) ?_
    refine r_pret (q_fit_int _) r_le0 ?_
    exact ⟨_, rfl, rfl, Or.inr ⟨by assumption, rfl⟩⟩
theorem sp_X10_hanging {S : q_Sg} {c w : Nat} (hS : r_ok S) {z : Int} (hz : rg z) : r_X f_X10_hanging [.ref 47, iv z] (q_en S, c, w) (fun r h2 => h2 = (q_en (q_sI S 23 (r_i (0 ≤ z ∧ z < 12) 0 1)), c, w) ∧ (((r_i (0 ≤ z ∧ z < 12) 0 1) = 0 ∧ r = iv (cnt (fun k => HNG (S.2.1 21) (k % 12) (k / 12) z) 144)) ∨ (¬ (r_i (0 ≤ z ∧ z < 12) 0 1) = 0 ∧ r = iv 0))) := by
  refine r_Xof (r_run (L := [_, _, _, _]) ⟨rfl, Nat.le_of_ble_eq_true rfl⟩ rfl ?_)
  unfold b_X10_hanging
  have hzr : (r_i (0 ≤ z ∧ z < 12) 0 1) = 0 → 0 ≤ z ∧ z < 12 := by unfold r_i; (repeat' split) <;> omega
  refine r_seq ?_
  refine r_sloc (L2 := [_, _, _, _]) (r_lit ql_0) rfl rfl ?_
  refine r_k0 ?_
  refine r_seq ?_
  refine r_seq ?_
  refine r_sloc (L2 := [_, _, _, _]) (r_lit ql_0) rfl rfl ?_
  refine r_k0 ?_
  refine r_loop (T := Int × Int) (fun (σ : Int × Int) => match σ with | (k, n) => (0 ≤ k ∧ k ≤ 144) ∧ n = cnt (fun k => HNG (S.2.1 21) (k % 12) (k / 12) z) k.toNat) (fun (σ : Int × Int) => match σ with | (k, n) => (144 - k).toNat) (fun (σ : Int × Int) => match σ with | (k, n) => [some (.ref 47), some (iv z), some (iv n), some (iv k)]) (fun (σ : Int × Int) => match σ with | (k, n) => (q_en S, c, w)) (0, 0) rfl rfl ?_ ?_ ?_
  · exact ⟨by omega, rfl⟩
  · (show _ < 1000000); first | omega | (dsimp only; omega)
  · rintro ⟨k, n⟩ hP
    try dsimp only at hP ⊢
    obtain ⟨hk, hn⟩ := hP
    refine ⟨_, (r_and (r_bz (r_call (r_cons (r_loc rfl rfl) r_nil) rfl (sp_X10_isLayer (by first | omega | assumption | exact hS.1 _ | exact hS.2 _ _ | (unfold r_i; (repeat' split) <;> omega) | exact r_zrg _)) rfl)) (fun hp3 => (r_lt (r_loc rfl rfl) (r_lit ql_144) (by first | omega | assumption | exact hS.1 _ | exact hS.2 _ _ | (unfold r_i; (repeat' split) <;> omega) | exact r_zrg _) (by first | omega | assumption | exact hS.1 _ | exact hS.2 _ _ | (unfold r_i; (repeat' split) <;> omega) | exact r_zrg _)))), fun hp1 => ?_, fun hp2 => ?_⟩
    ·
      have hx := hp1
      refine r_k0 ?_
      refine r_sretD (r_Dz (r_callG (r_cons (r_loc rfl rfl) (r_cons (r_if (r_bz (r_call (r_cons (r_loc rfl rfl) r_nil) rfl (sp_X10_isLayer (by first | omega | assumption | exact hS.1 _ | exact hS.2 _ _ | (unfold r_i; (repeat' split) <;> omega) | exact r_zrg _)) rfl)) (fun hp4 => (r_lit ql_0)) (fun hp5 => (r_lit ql_1))) r_nil)) rfl (sp_X10_goesOn (by first | omega | assumption | exact hS.1 _ | exact hS.2 _ _ | (unfold r_i; (repeat' split) <;> omega) | exact r_zrg _)) rfl)) (fun hp6 => ?_) (fun hp7 => ?_)
      ·
        refine r_sret (r_loc rfl rfl) ?_
        refine r_pret (q_fit_int _) r_le0 ?_
        have hz0 : 0 ≤ z ∧ z < 12 := hzr (by assumption)
        have hk4 : k = 144 := by omega
        exact ⟨_, rfl, rfl, Or.inl ⟨by assumption, by rw [hn, hk4]; rfl⟩⟩
      ·
        refine r_sret (r_lit ql_0) ?_
        refine r_pret (q_fit_int _) r_le0 ?_
        exact ⟨_, rfl, rfl, Or.inr ⟨by assumption, rfl⟩⟩
    ·
      refine r_sloc (L2 := [_, _, _, _]) (r_add (r_loc rfl rfl) (r_if10 (r_bz (r_call (r_cons (r_loc rfl rfl) (r_cons (r_rem (r_loc rfl rfl) (r_lit ql_12) (by first | omega | assumption | exact hS.1 _ | exact hS.2 _ _ | (unfold r_i; (repeat' split) <;> omega) | exact r_zrg _) (by first | omega | assumption | exact hS.1 _ | exact hS.2 _ _ | (unfold r_i; (repeat' split) <;> omega) | exact r_zrg _) (by first | omega | assumption | exact hS.1 _ | exact hS.2 _ _ | (unfold r_i; (repeat' split) <;> omega) | exact r_zrg _) (by first | omega | assumption | exact hS.1 _ | exact hS.2 _ _ | (unfold r_i; (repeat' split) <;> omega) | exact r_zrg _)) (r_cons (r_div (r_loc rfl rfl) (r_lit ql_12) (by first | omega | assumption | exact hS.1 _ | exact hS.2 _ _ | (unfold r_i; (repeat' split) <;> omega) | exact r_zrg _) (by first | omega | assumption | exact hS.1 _ | exact hS.2 _ _ | (unfold r_i; (repeat' split) <;> omega) | exact r_zrg _) (by first | omega | assumption | exact hS.1 _ | exact hS.2 _ _ | (unfold r_i; (repeat' split) <;> omega) | exact r_zrg _) (by first | omega | assumption | exact hS.1 _ | exact hS.2 _ _ | (unfold r_i; (repeat' split) <;> omega) | exact r_zrg _)) (r_cons (r_loc rfl rfl) r_nil)))) rfl (sp_X10_hangs (by first | omega | assumption | exact hS.1 _ | exact hS.2 _ _ | (unfold r_i; (repeat' split) <;> omega) | exact r_zrg _) (by first | omega | assumption | exact hS.1 _ | exact hS.2 _ _ | (unfold r_i; (repeat' split) <;> omega) | exact r_zrg _) (by first | omega | assumption | exact hS.1 _ | exact hS.2 _ _ | (unfold r_i; (repeat' split) <;> omega) | exact r_zrg _) (by first | omega | assumption | exact hS.1 _ | exact hS.2 _ _ | (unfold r_i; (repeat' split) <;> omega) | exact r_zrg _)) rfl)))) rfl rfl ?_
      refine r_l0 ?_
      refine r_sinc (L2 := [_, _, _, _]) rfl rfl ?_
      refine r_lend (k + 1, n + r_z (HNG (S.2.1 21) (k % 12) (k / 12) z)) rfl rfl ?_ (by first | omega | (dsimp only; omega))
      try dsimp only
      exact ⟨by omega, by rw [hn, cnt_s hk.1]⟩
theorem sp_X10_isBusy {S : q_Sg} {c w : Nat} (hS : r_ok S)  : r_F f_X10_isBusy [.ref 47] (q_en S, c, w) (r_b (((S.1 32 = 114 ∨ S.1 32 = 119) ∨ S.1 32 = 112) ∨ S.1 32 = 102)) := by
  refine r_Fof (r_run (L := [_]) ⟨rfl, Nat.le_of_ble_eq_true rfl⟩ rfl ?_)
  unfold b_X10_isBusy
  refine r_sret (r_if10 (r_or (r_or (r_or (r_eq (r_fld (r_loc rfl rfl) gg_Md_state) (r_lit ql_114) (by first | omega | assumption | exact r_zrg _ | exact hS.1 _ | exact hS.2 _ _ | exact stg_b hS _ _ | exact r_irg (by first | assumption | omega | exact hS.1 _ | exact hS.2 _ _ | exact stg_b hS _ _) (by first | assumption | omega | exact hS.1 _ | exact hS.2 _ _)) (by first | omega | assumption | exact r_zrg _ | exact hS.1 _ | exact hS.2 _ _ | exact stg_b hS _ _ | exact r_irg (by first | assumption | omega | exact hS.1 _ | exact hS.2 _ _ | exact stg_b hS _ _) (by first | assumption | omega | exact hS.1 _ | exact hS.2 _ _))) (fun hp1 => (r_eq (r_fld (r_loc rfl rfl) gg_Md_state) (r_lit ql_119) (by first | omega | assumption | exact r_zrg _ | exact hS.1 _ | exact hS.2 _ _ | exact stg_b hS _ _ | exact r_irg (by first | assumption | omega | exact hS.1 _ | exact hS.2 _ _ | exact stg_b hS _ _) (by first | assumption | omega | exact hS.1 _ | exact hS.2 _ _)) (by first | omega | assumption | exact r_zrg _ | exact hS.1 _ | exact hS.2 _ _ | exact stg_b hS _ _ | exact r_irg (by first | assumption | omega | exact hS.1 _ | exact hS.2 _ _ | exact stg_b hS _ _) (by first | assumption | omega | exact hS.1 _ | exact hS.2 _ _))))) (fun hp2 => (r_eq (r_fld (r_loc rfl rfl) gg_Md_state) (r_lit ql_112) (by first | omega | assumption | exact r_zrg _ | exact hS.1 _ | exact hS.2 _ _ | exact stg_b hS _ _ | exact r_irg (by first | assumption | omega | exact hS.1 _ | exact hS.2 _ _ | exact stg_b hS _ _) (by first | assumption | omega | exact hS.1 _ | exact hS.2 _ _)) (by first | omega | assumption | exact r_zrg _ | exact hS.1 _ | exact hS.2 _ _ | exact stg_b hS _ _ | exact r_irg (by first | assumption | omega | exact hS.1 _ | exact hS.2 _ _ | exact stg_b hS _ _) (by first | assumption | omega | exact hS.1 _ | exact hS.2 _ _))))) (fun hp3 => (r_eq (r_fld (r_loc rfl rfl) gg_Md_state) (r_lit ql_102) (by first | omega | assumption | exact r_zrg _ | exact hS.1 _ | exact hS.2 _ _ | exact stg_b hS _ _ | exact r_irg (by first | assumption | omega | exact hS.1 _ | exact hS.2 _ _ | exact stg_b hS _ _) (by first | assumption | omega | exact hS.1 _ | exact hS.2 _ _)) (by first | omega | assumption | exact r_zrg _ | exact hS.1 _ | exact hS.2 _ _ | exact stg_b hS _ _ | exact r_irg (by first | assumption | omega | exact hS.1 _ | exact hS.2 _ _ | exact stg_b hS _ _) (by first | assumption | omega | exact hS.1 _ | exact hS.2 _ _)))))) ?_
  refine r_pret (r_fitb _) r_le0 ⟨congrArg Sum.inl ?_, rfl⟩
  refine r_bc ?_
  exact Iff.rfl
theorem sp_X10_commands {S : q_Sg} {c w : Nat} (hS : r_ok S)  : r_G f_X10_commands [.ref 47] (q_en S, c, w) (iv (S.1 31)) (q_en (q_sI S 23 0), c, w) := by
  refine r_Gof (r_run (L := [_]) ⟨rfl, Nat.le_of_ble_eq_true rfl⟩ rfl ?_)
  unfold b_X10_commands
  refine r_seq ?_
  refine r_sput (r_loc rfl rfl) (r_lit ql_0) gp_Md_thrown ?_
  refine r_k0 ?_
  refine r_sret (r_fld (r_loc rfl rfl) gg_Md_commands) ?_
  refine r_pret (q_fit_int _) r_le0 ?_
  exact ⟨rfl, rfl⟩
theorem sp_X10_next {S : q_Sg} {c w : Nat} (hS : r_ok S)  : r_G f_X10_next [.ref 47] (q_en S, c, w) (iv (S.1 35)) (q_en (q_sI S 23 0), c, w) := by
  refine r_Gof (r_run (L := [_]) ⟨rfl, Nat.le_of_ble_eq_true rfl⟩ rfl ?_)
  unfold b_X10_next
  refine r_seq ?_
  refine r_sput (r_loc rfl rfl) (r_lit ql_0) gp_Md_thrown ?_
  refine r_k0 ?_
  refine r_sret (r_fld (r_loc rfl rfl) gg_Md_next) ?_
  refine r_pret (q_fit_int _) r_le0 ?_
  exact ⟨rfl, rfl⟩
theorem sp_X10_speed {S : q_Sg} {c w : Nat} (hS : r_ok S)  : r_G f_X10_speed [.ref 47] (q_en S, c, w) (iv (S.1 38)) (q_en (q_sI S 23 0), c, w) := by
  refine r_Gof (r_run (L := [_]) ⟨rfl, Nat.le_of_ble_eq_true rfl⟩ rfl ?_)
  unfold b_X10_speed
  refine r_seq ?_
  refine r_sput (r_loc rfl rfl) (r_lit ql_0) gp_Md_thrown ?_
  refine r_k0 ?_
  refine r_sret (r_fld (r_loc rfl rfl) gg_Md_speed) ?_
  refine r_pret (q_fit_int _) r_le0 ?_
  exact ⟨rfl, rfl⟩
theorem sp_X10_temperature {S : q_Sg} {c w : Nat} (hS : r_ok S)  : r_G f_X10_temperature [.ref 47] (q_en S, c, w) (iv (S.1 40)) (q_en (q_sI S 23 0), c, w) := by
  refine r_Gof (r_run (L := [_]) ⟨rfl, Nat.le_of_ble_eq_true rfl⟩ rfl ?_)
  unfold b_X10_temperature
  refine r_seq ?_
  refine r_sput (r_loc rfl rfl) (r_lit ql_0) gp_Md_thrown ?_
  refine r_k0 ?_
  refine r_sret (r_fld (r_loc rfl rfl) gg_Md_temperature) ?_
  refine r_pret (q_fit_int _) r_le0 ?_
  exact ⟨rfl, rfl⟩
theorem sp_X10_state {S : q_Sg} {c w : Nat} (hS : r_ok S) (h32 : 0 ≤ S.1 32 ∧ S.1 32 < 65536) : r_G f_X10_state [.ref 47] (q_en S, c, w) (iv (S.1 32)) (q_en (q_sI S 23 0), c, w) := by
  refine r_Gof (r_run (L := [_]) ⟨rfl, Nat.le_of_ble_eq_true rfl⟩ rfl ?_)
  unfold b_X10_state
  refine r_seq ?_
  refine r_sput (r_loc rfl rfl) (r_lit ql_0) gp_Md_thrown ?_
  refine r_k0 ?_
  refine r_sret (r_fld (r_loc rfl rfl) gg_Md_state) ?_
  refine r_pret (q_fit_char (by first | omega | assumption | exact hS.1 _ | exact hS.2 _ _ | (unfold r_i; (repeat' split) <;> omega) | exact r_zrg _ | exact h32.1 | exact h32.2) (by first | omega | assumption | exact hS.1 _ | exact hS.2 _ _ | (unfold r_i; (repeat' split) <;> omega) | exact r_zrg _ | exact h32.1 | exact h32.2)) r_le0 ?_
  exact ⟨rfl, rfl⟩
theorem sp_X10_time {S : q_Sg} {c w : Nat} (hS : r_ok S)  : r_G f_X10_time [.ref 47] (q_en S, c, w) (.long (Int64.ofInt (S.2.2.1 3))) (q_en (q_sI S 23 0), c, w) := by
  refine r_Gof (r_run (L := [_]) ⟨rfl, Nat.le_of_ble_eq_true rfl⟩ rfl ?_)
  unfold b_X10_time
  refine r_seq ?_
  refine r_sput (r_loc rfl rfl) (r_lit ql_0) gp_Md_thrown ?_
  refine r_k0 ?_
  refine r_sret (r_fld (r_loc rfl rfl) gg_Md_time) ?_
  refine r_pret (q_fit_long _) r_le0 ?_
  exact ⟨rfl, rfl⟩
theorem sp_X10_commandAt {S : q_Sg} {c w : Nat} (hS : r_ok S) {k : Int} (hk : rg k) (h31 : 0 ≤ S.1 31 ∧ S.1 31 ≤ 6936) (hch : ∀ j, 0 ≤ j → j < S.1 31 → 0 ≤ S.2.1 24 j ∧ S.2.1 24 j < 65536) : r_X f_X10_commandAt [.ref 47, iv k] (q_en S, c, w) (fun r h2 => h2 = (q_en (q_sI S 23 (r_i (0 ≤ k ∧ k ≤ S.1 31 - 1) 0 1)), c, w) ∧ (((r_i (0 ≤ k ∧ k ≤ S.1 31 - 1) 0 1) = 0 ∧ r = iv (S.2.1 24 k)) ∨ (¬ (r_i (0 ≤ k ∧ k ≤ S.1 31 - 1) 0 1) = 0 ∧ r = iv 0))) := by
  refine r_Xof (r_run (L := [_, _]) ⟨rfl, Nat.le_of_ble_eq_true rfl⟩ rfl ?_)
  unfold b_X10_commandAt
  have hin : (r_i (0 ≤ k ∧ k ≤ S.1 31 - 1) 0 1) = 0 → 0 ≤ k ∧ k ≤ S.1 31 - 1 := by unfold r_i; split <;> omega
  refine r_sretD (r_Dz (r_callG (r_cons (r_loc rfl rfl) (r_cons (r_if (r_bz (r_call (r_cons (r_loc rfl rfl) (r_cons (r_lit ql_0) (r_cons (r_sub (r_fld (r_loc rfl rfl) gg_Md_commands) (r_lit ql_1)) r_nil))) rfl (sp_X10_in (by first | omega | assumption | exact hS.1 _ | exact hS.2 _ _ | (unfold r_i; (repeat' split) <;> omega) | exact r_zrg _ | (have := hin (by assumption); omega) | (have := hin (by assumption); exact (hch k (by omega) (by omega)).1) | (have := hin (by assumption); exact (hch k (by omega) (by omega)).2)) (by first | omega | assumption | exact hS.1 _ | exact hS.2 _ _ | (unfold r_i; (repeat' split) <;> omega) | exact r_zrg _ | (have := hin (by assumption); omega) | (have := hin (by assumption); exact (hch k (by omega) (by omega)).1) | (have := hin (by assumption); exact (hch k (by omega) (by omega)).2)) (by first | omega | assumption | exact hS.1 _ | exact hS.2 _ _ | (unfold r_i; (repeat' split) <;> omega) | exact r_zrg _ | (have := hin (by assumption); omega) | (have := hin (by assumption); exact (hch k (by omega) (by omega)).1) | (have := hin (by assumption); exact (hch k (by omega) (by omega)).2))) rfl)) (fun hp1 => (r_lit ql_0)) (fun hp2 => (r_lit ql_1))) r_nil)) rfl (sp_X10_goesOn (by first | omega | assumption | exact hS.1 _ | exact hS.2 _ _ | (unfold r_i; (repeat' split) <;> omega) | exact r_zrg _ | (have := hin (by assumption); omega) | (have := hin (by assumption); exact (hch k (by omega) (by omega)).1) | (have := hin (by assumption); exact (hch k (by omega) (by omega)).2))) rfl)) (fun hp3 => ?_) (fun hp4 => ?_)
  ·
    refine r_sret (r_aget ga_Md_kind (r_fld (r_loc rfl rfl) gg_Md_kind) (r_loc rfl rfl) (by first | omega | assumption | exact hS.1 _ | exact hS.2 _ _ | (unfold r_i; (repeat' split) <;> omega) | exact r_zrg _ | (have := hin (by assumption); omega) | (have := hin (by assumption); exact (hch k (by omega) (by omega)).1) | (have := hin (by assumption); exact (hch k (by omega) (by omega)).2)) (by first | omega | assumption | exact hS.1 _ | exact hS.2 _ _ | (unfold r_i; (repeat' split) <;> omega) | exact r_zrg _ | (have := hin (by assumption); omega) | (have := hin (by assumption); exact (hch k (by omega) (by omega)).1) | (have := hin (by assumption); exact (hch k (by omega) (by omega)).2)) (by decide)) ?_
    refine r_pret (q_fit_char (by first | omega | assumption | exact hS.1 _ | exact hS.2 _ _ | (unfold r_i; (repeat' split) <;> omega) | exact r_zrg _ | (have := hin (by assumption); omega) | (have := hin (by assumption); exact (hch k (by omega) (by omega)).1) | (have := hin (by assumption); exact (hch k (by omega) (by omega)).2)) (by first | omega | assumption | exact hS.1 _ | exact hS.2 _ _ | (unfold r_i; (repeat' split) <;> omega) | exact r_zrg _ | (have := hin (by assumption); omega) | (have := hin (by assumption); exact (hch k (by omega) (by omega)).1) | (have := hin (by assumption); exact (hch k (by omega) (by omega)).2))) r_le0 ?_
    exact ⟨_, rfl, rfl, Or.inl ⟨by assumption, rfl⟩⟩
  ·
    refine r_sret (r_lit ql_0) ?_
    refine r_pret (q_fit_char (by first | omega | assumption | exact hS.1 _ | exact hS.2 _ _ | (unfold r_i; (repeat' split) <;> omega) | exact r_zrg _ | (have := hin (by assumption); omega) | (have := hin (by assumption); exact (hch k (by omega) (by omega)).1) | (have := hin (by assumption); exact (hch k (by omega) (by omega)).2)) (by first | omega | assumption | exact hS.1 _ | exact hS.2 _ _ | (unfold r_i; (repeat' split) <;> omega) | exact r_zrg _ | (have := hin (by assumption); omega) | (have := hin (by assumption); exact (hch k (by omega) (by omega)).1) | (have := hin (by assumption); exact (hch k (by omega) (by omega)).2))) r_le0 ?_
    exact ⟨_, rfl, rfl, Or.inr ⟨by assumption, rfl⟩⟩
theorem sp_X10_setTarget {S : q_Sg} {c w : Nat} (hS : r_ok S) {v : Int} (hv : rg v) : r_X f_X10_setTarget [.ref 47, iv v] (q_en S, c, w) (fun r h2 => (¬ (r_i (¬ (0 ≤ v ∧ v ≤ 300)) 1 (r_i (S.1 32 = 102) 2 0)) = 0 ∧ r = iv 0 ∧ h2 = (q_en (q_sI S 23 (r_i (¬ (0 ≤ v ∧ v ≤ 300)) 1 (r_i (S.1 32 = 102) 2 0))), c, w)) ∨ ((r_i (¬ (0 ≤ v ∧ v ≤ 300)) 1 (r_i (S.1 32 = 102) 2 0)) = 0 ∧ r = iv (S.1 39) ∧ h2 = (q_en (q_sI (q_sI S 23 (r_i (¬ (0 ≤ v ∧ v ≤ 300)) 1 (r_i (S.1 32 = 102) 2 0))) 39 v), c, w))) := by
  refine r_Xof (r_run (L := [_, _, _]) ⟨rfl, Nat.le_of_ble_eq_true rfl⟩ rfl ?_)
  unfold b_X10_setTarget
  refine r_seq ?_
  refine r_sifD (r_Dn (r_Dz (r_callG (r_cons (r_loc rfl rfl) (r_cons (r_if (r_not (r_bz (r_call (r_cons (r_loc rfl rfl) (r_cons (r_lit ql_0) (r_cons (r_lit ql_300) r_nil))) rfl (sp_X10_in (by first | omega | assumption | exact hS.1 _ | exact hS.2 _ _ | (unfold r_i; (repeat' split) <;> omega) | exact r_zrg _) (by first | omega | assumption | exact hS.1 _ | exact hS.2 _ _ | (unfold r_i; (repeat' split) <;> omega) | exact r_zrg _) (by first | omega | assumption | exact hS.1 _ | exact hS.2 _ _ | (unfold r_i; (repeat' split) <;> omega) | exact r_zrg _)) rfl))) (fun hp1 => (r_lit ql_1)) (fun hp2 => (r_if (r_eq (r_fld (r_loc rfl rfl) gg_Md_state) (r_lit ql_102) (by first | omega | assumption | exact hS.1 _ | exact hS.2 _ _ | (unfold r_i; (repeat' split) <;> omega) | exact r_zrg _) (by first | omega | assumption | exact hS.1 _ | exact hS.2 _ _ | (unfold r_i; (repeat' split) <;> omega) | exact r_zrg _)) (fun hp3 => (r_lit ql_2)) (fun hp4 => (r_lit ql_0))))) r_nil)) rfl (sp_X10_goesOn (by first | omega | assumption | exact hS.1 _ | exact hS.2 _ _ | (unfold r_i; (repeat' split) <;> omega) | exact r_zrg _)) rfl))) (fun hp5 => ?_) (fun hp6 => ?_)
  ·
    have hpT := hp5
    have hpT0 := hp5
    refine r_sret (r_lit ql_0) ?_
    refine r_ks (j := 3) ?_
    refine r_pret (q_fit_int _) r_le0 ?_
    exact ⟨_, rfl, Or.inl ⟨hpT0, rfl, rfl⟩⟩
  ·
    have hpF := hp6
    have hpF0 := hp6
    refine wS_skip ?_
    refine r_k0 ?_
    refine r_seq ?_
    refine r_sloc (L2 := [_, _, _]) (r_fld (r_loc rfl rfl) gg_Md_target) rfl rfl ?_
    refine r_k0 ?_
    refine r_seq ?_
    refine r_sput (r_loc rfl rfl) (r_loc rfl rfl) gp_Md_target ?_
    refine r_k0 ?_
    refine r_sret (r_loc rfl rfl) ?_
    refine r_pret (q_fit_int _) r_le0 ?_
    exact ⟨_, rfl, Or.inr ⟨Classical.not_not.mp hpF0, rfl, rfl⟩⟩
theorem sp_X10_goOn {S : q_Sg} {c w : Nat} (hS : r_ok S)  : r_X f_X10_goOn [.ref 47] (q_en S, c, w) (fun r h2 => (¬ (r_i (S.1 32 = 112) 0 1) = 0 ∧ r = iv 0 ∧ h2 = (q_en (q_sI S 23 (r_i (S.1 32 = 112) 0 1)), c, w)) ∨ ((r_i (S.1 32 = 112) 0 1) = 0 ∧ r = iv (S.1 31 - S.1 35) ∧ h2 = (q_en (q_sI (q_sI S 23 (r_i (S.1 32 = 112) 0 1)) 32 114), c, w))) := by
  refine r_Xof (r_run (L := [_]) ⟨rfl, Nat.le_of_ble_eq_true rfl⟩ rfl ?_)
  unfold b_X10_goOn
  refine r_seq ?_
  refine r_sifD (r_Dn (r_Dz (r_callG (r_cons (r_loc rfl rfl) (r_cons (r_if (r_eq (r_fld (r_loc rfl rfl) gg_Md_state) (r_lit ql_112) (by first | omega | assumption | exact hS.1 _ | exact hS.2 _ _ | (unfold r_i; (repeat' split) <;> omega) | exact r_zrg _) (by first | omega | assumption | exact hS.1 _ | exact hS.2 _ _ | (unfold r_i; (repeat' split) <;> omega) | exact r_zrg _)) (fun hp1 => (r_lit ql_0)) (fun hp2 => (r_lit ql_1))) r_nil)) rfl (sp_X10_goesOn (by first | omega | assumption | exact hS.1 _ | exact hS.2 _ _ | (unfold r_i; (repeat' split) <;> omega) | exact r_zrg _)) rfl))) (fun hp3 => ?_) (fun hp4 => ?_)
  ·
    have hpT := hp3
    have hpT0 := hp3
    refine r_sret (r_lit ql_0) ?_
    refine r_ks (j := 3) ?_
    refine r_pret (q_fit_int _) r_le0 ?_
    exact ⟨_, rfl, Or.inl ⟨hpT0, rfl, rfl⟩⟩
  ·
    have hpF := hp4
    have hpF0 := hp4
    refine wS_skip ?_
    refine r_k0 ?_
    refine r_seq ?_
    refine r_sput (r_loc rfl rfl) (r_lit ql_114) (gp_Md_state (by first | omega | assumption | exact hS.1 _ | exact hS.2 _ _ | (unfold r_i; (repeat' split) <;> omega) | exact r_zrg _) (by first | omega | assumption | exact hS.1 _ | exact hS.2 _ _ | (unfold r_i; (repeat' split) <;> omega) | exact r_zrg _)) ?_
    refine r_k0 ?_
    refine r_sret (r_sub (r_fld (r_loc rfl rfl) gg_Md_commands) (r_fld (r_loc rfl rfl) gg_Md_next)) ?_
    refine r_pret (q_fit_int _) r_le0 ?_
    exact ⟨_, rfl, Or.inr ⟨Classical.not_not.mp hpF0, rfl, rfl⟩⟩
theorem sp_X10_fail {S : q_Sg} {c w : Nat} (hS : r_ok S) (h32 : 0 ≤ S.1 32 ∧ S.1 32 < 65536) (h33 : 0 ≤ S.1 33 ∧ S.1 33 < 65536) : r_X f_X10_fail [.ref 47] (q_en S, c, w) (fun r h2 => (¬ (r_z (S.1 32 = 102)) = 0 ∧ r = iv 0 ∧ h2 = (q_en (q_sI S 23 (r_z (S.1 32 = 102))), c, w)) ∨ ((r_z (S.1 32 = 102)) = 0 ∧ r = iv (S.1 32) ∧ h2 = (q_en (q_sI (q_sI (q_sI (q_sI (q_sI S 23 (r_z (S.1 32 = 102))) 33 (S.1 32)) 32 102) 39 0) 38 0), c, w))) := by
  refine r_Xof (r_run (L := [_]) ⟨rfl, Nat.le_of_ble_eq_true rfl⟩ rfl ?_)
  unfold b_X10_fail
  refine r_seq ?_
  refine r_sifD (r_Dn (r_Dz (r_callG (r_cons (r_loc rfl rfl) (r_cons (r_if10 (r_eq (r_fld (r_loc rfl rfl) gg_Md_state) (r_lit ql_102) (by first | omega | assumption | exact hS.1 _ | exact hS.2 _ _ | (unfold r_i; (repeat' split) <;> omega) | exact r_zrg _ | exact (r_z01 _).1 | exact (r_z01 _).2 | exact h32.1 | exact h32.2 | exact h33.1 | exact h33.2) (by first | omega | assumption | exact hS.1 _ | exact hS.2 _ _ | (unfold r_i; (repeat' split) <;> omega) | exact r_zrg _ | exact (r_z01 _).1 | exact (r_z01 _).2 | exact h32.1 | exact h32.2 | exact h33.1 | exact h33.2))) r_nil)) rfl (sp_X10_goesOn (by first | omega | assumption | exact hS.1 _ | exact hS.2 _ _ | (unfold r_i; (repeat' split) <;> omega) | exact r_zrg _ | exact (r_z01 _).1 | exact (r_z01 _).2 | exact h32.1 | exact h32.2 | exact h33.1 | exact h33.2)) rfl))) (fun hp1 => ?_) (fun hp2 => ?_)
  ·
    have hpT := hp1
    have hpT0 := hp1
    refine r_sret (r_lit ql_0) ?_
    refine r_ks (j := 3) ?_
    refine r_pret (q_fit_char (by first | omega | assumption | exact hS.1 _ | exact hS.2 _ _ | (unfold r_i; (repeat' split) <;> omega) | exact r_zrg _ | exact (r_z01 _).1 | exact (r_z01 _).2 | exact h32.1 | exact h32.2 | exact h33.1 | exact h33.2) (by first | omega | assumption | exact hS.1 _ | exact hS.2 _ _ | (unfold r_i; (repeat' split) <;> omega) | exact r_zrg _ | exact (r_z01 _).1 | exact (r_z01 _).2 | exact h32.1 | exact h32.2 | exact h33.1 | exact h33.2)) r_le0 ?_
    exact ⟨_, rfl, Or.inl ⟨hpT0, rfl, rfl⟩⟩
  ·
    have hpF := hp2
    have hpF0 := hp2
    refine wS_skip ?_
    refine r_k0 ?_
    refine r_seq ?_
    refine r_sput (r_loc rfl rfl) (r_fld (r_loc rfl rfl) gg_Md_state) (gp_Md_failedIn (by first | omega | assumption | exact hS.1 _ | exact hS.2 _ _ | (unfold r_i; (repeat' split) <;> omega) | exact r_zrg _ | exact (r_z01 _).1 | exact (r_z01 _).2 | exact h32.1 | exact h32.2 | exact h33.1 | exact h33.2) (by first | omega | assumption | exact hS.1 _ | exact hS.2 _ _ | (unfold r_i; (repeat' split) <;> omega) | exact r_zrg _ | exact (r_z01 _).1 | exact (r_z01 _).2 | exact h32.1 | exact h32.2 | exact h33.1 | exact h33.2)) ?_
    refine r_k0 ?_
    refine r_seq ?_
    refine r_sput (r_loc rfl rfl) (r_lit ql_102) (gp_Md_state (by first | omega | assumption | exact hS.1 _ | exact hS.2 _ _ | (unfold r_i; (repeat' split) <;> omega) | exact r_zrg _ | exact (r_z01 _).1 | exact (r_z01 _).2 | exact h32.1 | exact h32.2 | exact h33.1 | exact h33.2) (by first | omega | assumption | exact hS.1 _ | exact hS.2 _ _ | (unfold r_i; (repeat' split) <;> omega) | exact r_zrg _ | exact (r_z01 _).1 | exact (r_z01 _).2 | exact h32.1 | exact h32.2 | exact h33.1 | exact h33.2)) ?_
    refine r_k0 ?_
    refine r_seq ?_
    refine r_sput (r_loc rfl rfl) (r_lit ql_0) gp_Md_target ?_
    refine r_k0 ?_
    refine r_seq ?_
    refine r_sput (r_loc rfl rfl) (r_lit ql_0) gp_Md_speed ?_
    refine r_k0 ?_
    refine r_sret (r_fld (r_loc rfl rfl) gg_Md_failedIn) ?_
    refine r_pret (q_fit_char (by first | omega | assumption | exact hS.1 _ | exact hS.2 _ _ | (unfold r_i; (repeat' split) <;> omega) | exact r_zrg _ | exact (r_z01 _).1 | exact (r_z01 _).2 | exact h32.1 | exact h32.2 | exact h33.1 | exact h33.2) (by first | omega | assumption | exact hS.1 _ | exact hS.2 _ _ | (unfold r_i; (repeat' split) <;> omega) | exact r_zrg _ | exact (r_z01 _).1 | exact (r_z01 _).2 | exact h32.1 | exact h32.2 | exact h33.1 | exact h33.2)) r_le0 ?_
    exact ⟨_, rfl, Or.inr ⟨Classical.not_not.mp hpF0, rfl, rfl⟩⟩
theorem sp_X10_mend {S : q_Sg} {c w : Nat} (hS : r_ok S) (h32 : 0 ≤ S.1 32 ∧ S.1 32 < 65536) (h33 : 0 ≤ S.1 33 ∧ S.1 33 < 65536) : r_X f_X10_mend [.ref 47] (q_en S, c, w) (fun r h2 => (¬ (r_i (S.1 32 = 102) 0 1) = 0 ∧ r = iv 0 ∧ h2 = (q_en (q_sI S 23 (r_i (S.1 32 = 102) 0 1)), c, w)) ∨ ((r_i (S.1 32 = 102) 0 1) = 0 ∧ r = iv (S.1 33) ∧ h2 = (q_en (q_sI (q_sI S 23 (r_i (S.1 32 = 102) 0 1)) 32 (S.1 33)), c, w))) := by
  refine r_Xof (r_run (L := [_]) ⟨rfl, Nat.le_of_ble_eq_true rfl⟩ rfl ?_)
  unfold b_X10_mend
  refine r_seq ?_
  refine r_sifD (r_Dn (r_Dz (r_callG (r_cons (r_loc rfl rfl) (r_cons (r_if (r_eq (r_fld (r_loc rfl rfl) gg_Md_state) (r_lit ql_102) (by first | omega | assumption | exact hS.1 _ | exact hS.2 _ _ | (unfold r_i; (repeat' split) <;> omega) | exact r_zrg _ | exact (r_z01 _).1 | exact (r_z01 _).2 | exact h32.1 | exact h32.2 | exact h33.1 | exact h33.2) (by first | omega | assumption | exact hS.1 _ | exact hS.2 _ _ | (unfold r_i; (repeat' split) <;> omega) | exact r_zrg _ | exact (r_z01 _).1 | exact (r_z01 _).2 | exact h32.1 | exact h32.2 | exact h33.1 | exact h33.2)) (fun hp1 => (r_lit ql_0)) (fun hp2 => (r_lit ql_1))) r_nil)) rfl (sp_X10_goesOn (by first | omega | assumption | exact hS.1 _ | exact hS.2 _ _ | (unfold r_i; (repeat' split) <;> omega) | exact r_zrg _ | exact (r_z01 _).1 | exact (r_z01 _).2 | exact h32.1 | exact h32.2 | exact h33.1 | exact h33.2)) rfl))) (fun hp3 => ?_) (fun hp4 => ?_)
  ·
    have hpT := hp3
    have hpT0 := hp3
    refine r_sret (r_lit ql_0) ?_
    refine r_ks (j := 3) ?_
    refine r_pret (q_fit_char (by first | omega | assumption | exact hS.1 _ | exact hS.2 _ _ | (unfold r_i; (repeat' split) <;> omega) | exact r_zrg _ | exact (r_z01 _).1 | exact (r_z01 _).2 | exact h32.1 | exact h32.2 | exact h33.1 | exact h33.2) (by first | omega | assumption | exact hS.1 _ | exact hS.2 _ _ | (unfold r_i; (repeat' split) <;> omega) | exact r_zrg _ | exact (r_z01 _).1 | exact (r_z01 _).2 | exact h32.1 | exact h32.2 | exact h33.1 | exact h33.2)) r_le0 ?_
    exact ⟨_, rfl, Or.inl ⟨hpT0, rfl, rfl⟩⟩
  ·
    have hpF := hp4
    have hpF0 := hp4
    refine wS_skip ?_
    refine r_k0 ?_
    refine r_seq ?_
    refine r_sput (r_loc rfl rfl) (r_fld (r_loc rfl rfl) gg_Md_failedIn) (gp_Md_state (by first | omega | assumption | exact hS.1 _ | exact hS.2 _ _ | (unfold r_i; (repeat' split) <;> omega) | exact r_zrg _ | exact (r_z01 _).1 | exact (r_z01 _).2 | exact h32.1 | exact h32.2 | exact h33.1 | exact h33.2) (by first | omega | assumption | exact hS.1 _ | exact hS.2 _ _ | (unfold r_i; (repeat' split) <;> omega) | exact r_zrg _ | exact (r_z01 _).1 | exact (r_z01 _).2 | exact h32.1 | exact h32.2 | exact h33.1 | exact h33.2)) ?_
    refine r_k0 ?_
    refine r_sret (r_fld (r_loc rfl rfl) gg_Md_state) ?_
    refine r_pret (q_fit_char (by first | omega | assumption | exact hS.1 _ | exact hS.2 _ _ | (unfold r_i; (repeat' split) <;> omega) | exact r_zrg _ | exact (r_z01 _).1 | exact (r_z01 _).2 | exact h32.1 | exact h32.2 | exact h33.1 | exact h33.2) (by first | omega | assumption | exact hS.1 _ | exact hS.2 _ _ | (unfold r_i; (repeat' split) <;> omega) | exact r_zrg _ | exact (r_z01 _).1 | exact (r_z01 _).2 | exact h32.1 | exact h32.2 | exact h33.1 | exact h33.2)) r_le0 ?_
    exact ⟨_, rfl, Or.inr ⟨Classical.not_not.mp hpF0, rfl, rfl⟩⟩
theorem sp_X10_cut {S : q_Sg} {c w : Nat} (hS : r_ok S) (h32 : 0 ≤ S.1 32 ∧ S.1 32 < 65536) (h33 : 0 ≤ S.1 33 ∧ S.1 33 < 65536) : r_G f_X10_cut [.ref 47] (q_en S, c, w) (iv (S.1 32)) (q_en (q_sI (q_sI (q_sI (q_sI (q_sI (q_sI S 23 0) 34 (r_z (((¬ S.1 34 = 0 ∨ r_i (S.1 32 = 102) (S.1 33) (S.1 32) = 114) ∨ r_i (S.1 32 = 102) (S.1 33) (S.1 32) = 119) ∨ r_i (S.1 32 = 102) (S.1 33) (S.1 32) = 112))) 32 105) 39 0) 41 0) 38 0), c, w) := by
  refine r_Gof (r_run (L := [_, _, _]) ⟨rfl, Nat.le_of_ble_eq_true rfl⟩ rfl ?_)
  unfold b_X10_cut
  refine r_seq ?_
  refine r_sput (r_loc rfl rfl) (r_lit ql_0) gp_Md_thrown ?_
  refine r_k0 ?_
  refine r_seq ?_
  refine r_sloc (L2 := [_, _, _]) (r_fld (r_loc rfl rfl) gg_Md_state) rfl rfl ?_
  refine r_k0 ?_
  refine r_seq ?_
  refine r_sloc (L2 := [_, _, _]) (r_if (r_eq (r_fld (r_loc rfl rfl) gg_Md_state) (r_lit ql_102) (by first | omega | assumption | exact hS.1 _ | exact hS.2 _ _ | (unfold r_i; (repeat' split) <;> omega) | exact r_zrg _ | exact (r_z01 _).1 | exact (r_z01 _).2 | exact h32.1 | exact h32.2 | exact h33.1 | exact h33.2 | (show rg (r_i (S.1 32 = 102) (S.1 33) (S.1 32)); exact r_irg2 (hS.1 _) (hS.1 _))) (by first | omega | assumption | exact hS.1 _ | exact hS.2 _ _ | (unfold r_i; (repeat' split) <;> omega) | exact r_zrg _ | exact (r_z01 _).1 | exact (r_z01 _).2 | exact h32.1 | exact h32.2 | exact h33.1 | exact h33.2 | (show rg (r_i (S.1 32 = 102) (S.1 33) (S.1 32)); exact r_irg2 (hS.1 _) (hS.1 _)))) (fun hp1 => (r_fld (r_loc rfl rfl) gg_Md_failedIn)) (fun hp2 => (r_fld (r_loc rfl rfl) gg_Md_state))) rfl rfl ?_
  refine r_k0 ?_
  refine r_seq ?_
  refine r_sput (r_loc rfl rfl) (r_if10 (r_or (r_or (r_or (r_z_ne (r_fld (r_loc rfl rfl) gg_Md_isCut) (by first | omega | assumption | exact hS.1 _ | exact hS.2 _ _ | (unfold r_i; (repeat' split) <;> omega) | exact r_zrg _ | exact (r_z01 _).1 | exact (r_z01 _).2 | exact h32.1 | exact h32.2 | exact h33.1 | exact h33.2 | (show rg (r_i (S.1 32 = 102) (S.1 33) (S.1 32)); exact r_irg2 (hS.1 _) (hS.1 _)))) (fun hp3 => (r_eq (r_loc rfl rfl) (r_lit ql_114) (by first | omega | assumption | exact hS.1 _ | exact hS.2 _ _ | (unfold r_i; (repeat' split) <;> omega) | exact r_zrg _ | exact (r_z01 _).1 | exact (r_z01 _).2 | exact h32.1 | exact h32.2 | exact h33.1 | exact h33.2 | (show rg (r_i (S.1 32 = 102) (S.1 33) (S.1 32)); exact r_irg2 (hS.1 _) (hS.1 _))) (by first | omega | assumption | exact hS.1 _ | exact hS.2 _ _ | (unfold r_i; (repeat' split) <;> omega) | exact r_zrg _ | exact (r_z01 _).1 | exact (r_z01 _).2 | exact h32.1 | exact h32.2 | exact h33.1 | exact h33.2 | (show rg (r_i (S.1 32 = 102) (S.1 33) (S.1 32)); exact r_irg2 (hS.1 _) (hS.1 _)))))) (fun hp4 => (r_eq (r_loc rfl rfl) (r_lit ql_119) (by first | omega | assumption | exact hS.1 _ | exact hS.2 _ _ | (unfold r_i; (repeat' split) <;> omega) | exact r_zrg _ | exact (r_z01 _).1 | exact (r_z01 _).2 | exact h32.1 | exact h32.2 | exact h33.1 | exact h33.2 | (show rg (r_i (S.1 32 = 102) (S.1 33) (S.1 32)); exact r_irg2 (hS.1 _) (hS.1 _))) (by first | omega | assumption | exact hS.1 _ | exact hS.2 _ _ | (unfold r_i; (repeat' split) <;> omega) | exact r_zrg _ | exact (r_z01 _).1 | exact (r_z01 _).2 | exact h32.1 | exact h32.2 | exact h33.1 | exact h33.2 | (show rg (r_i (S.1 32 = 102) (S.1 33) (S.1 32)); exact r_irg2 (hS.1 _) (hS.1 _)))))) (fun hp5 => (r_eq (r_loc rfl rfl) (r_lit ql_112) (by first | omega | assumption | exact hS.1 _ | exact hS.2 _ _ | (unfold r_i; (repeat' split) <;> omega) | exact r_zrg _ | exact (r_z01 _).1 | exact (r_z01 _).2 | exact h32.1 | exact h32.2 | exact h33.1 | exact h33.2 | (show rg (r_i (S.1 32 = 102) (S.1 33) (S.1 32)); exact r_irg2 (hS.1 _) (hS.1 _))) (by first | omega | assumption | exact hS.1 _ | exact hS.2 _ _ | (unfold r_i; (repeat' split) <;> omega) | exact r_zrg _ | exact (r_z01 _).1 | exact (r_z01 _).2 | exact h32.1 | exact h32.2 | exact h33.1 | exact h33.2 | (show rg (r_i (S.1 32 = 102) (S.1 33) (S.1 32)); exact r_irg2 (hS.1 _) (hS.1 _))))))) (gp_Md_isCut (by first | omega | assumption | exact hS.1 _ | exact hS.2 _ _ | (unfold r_i; (repeat' split) <;> omega) | exact r_zrg _ | exact (r_z01 _).1 | exact (r_z01 _).2 | exact h32.1 | exact h32.2 | exact h33.1 | exact h33.2 | (show rg (r_i (S.1 32 = 102) (S.1 33) (S.1 32)); exact r_irg2 (hS.1 _) (hS.1 _))) (by first | omega | assumption | exact hS.1 _ | exact hS.2 _ _ | (unfold r_i; (repeat' split) <;> omega) | exact r_zrg _ | exact (r_z01 _).1 | exact (r_z01 _).2 | exact h32.1 | exact h32.2 | exact h33.1 | exact h33.2 | (show rg (r_i (S.1 32 = 102) (S.1 33) (S.1 32)); exact r_irg2 (hS.1 _) (hS.1 _)))) ?_
  refine r_k0 ?_
  refine r_seq ?_
  refine r_sput (r_loc rfl rfl) (r_lit ql_105) (gp_Md_state (by first | omega | assumption | exact hS.1 _ | exact hS.2 _ _ | (unfold r_i; (repeat' split) <;> omega) | exact r_zrg _ | exact (r_z01 _).1 | exact (r_z01 _).2 | exact h32.1 | exact h32.2 | exact h33.1 | exact h33.2 | (show rg (r_i (S.1 32 = 102) (S.1 33) (S.1 32)); exact r_irg2 (hS.1 _) (hS.1 _))) (by first | omega | assumption | exact hS.1 _ | exact hS.2 _ _ | (unfold r_i; (repeat' split) <;> omega) | exact r_zrg _ | exact (r_z01 _).1 | exact (r_z01 _).2 | exact h32.1 | exact h32.2 | exact h33.1 | exact h33.2 | (show rg (r_i (S.1 32 = 102) (S.1 33) (S.1 32)); exact r_irg2 (hS.1 _) (hS.1 _)))) ?_
  refine r_k0 ?_
  refine r_seq ?_
  refine r_sput (r_loc rfl rfl) (r_lit ql_0) gp_Md_target ?_
  refine r_k0 ?_
  refine r_seq ?_
  refine r_sput (r_loc rfl rfl) (r_lit ql_0) (gp_Md_isHeating (by first | omega | assumption | exact hS.1 _ | exact hS.2 _ _ | (unfold r_i; (repeat' split) <;> omega) | exact r_zrg _ | exact (r_z01 _).1 | exact (r_z01 _).2 | exact h32.1 | exact h32.2 | exact h33.1 | exact h33.2 | (show rg (r_i (S.1 32 = 102) (S.1 33) (S.1 32)); exact r_irg2 (hS.1 _) (hS.1 _))) (by first | omega | assumption | exact hS.1 _ | exact hS.2 _ _ | (unfold r_i; (repeat' split) <;> omega) | exact r_zrg _ | exact (r_z01 _).1 | exact (r_z01 _).2 | exact h32.1 | exact h32.2 | exact h33.1 | exact h33.2 | (show rg (r_i (S.1 32 = 102) (S.1 33) (S.1 32)); exact r_irg2 (hS.1 _) (hS.1 _)))) ?_
  refine r_k0 ?_
  refine r_seq ?_
  refine r_sput (r_loc rfl rfl) (r_lit ql_0) gp_Md_speed ?_
  refine r_k0 ?_
  refine r_sret (r_loc rfl rfl) ?_
  refine r_pret (q_fit_char (by first | omega | assumption | exact hS.1 _ | exact hS.2 _ _ | (unfold r_i; (repeat' split) <;> omega) | exact r_zrg _ | exact (r_z01 _).1 | exact (r_z01 _).2 | exact h32.1 | exact h32.2 | exact h33.1 | exact h33.2 | (show rg (r_i (S.1 32 = 102) (S.1 33) (S.1 32)); exact r_irg2 (hS.1 _) (hS.1 _))) (by first | omega | assumption | exact hS.1 _ | exact hS.2 _ _ | (unfold r_i; (repeat' split) <;> omega) | exact r_zrg _ | exact (r_z01 _).1 | exact (r_z01 _).2 | exact h32.1 | exact h32.2 | exact h33.1 | exact h33.2 | (show rg (r_i (S.1 32 = 102) (S.1 33) (S.1 32)); exact r_irg2 (hS.1 _) (hS.1 _)))) r_le0 ?_
  exact ⟨rfl, rfl⟩
theorem sp_X10_begins {S : q_Sg} {c w : Nat} (hS : r_ok S) {k : Int} : r_G f_X10_begins [.ref 47, iv k] (q_en S, c, w) .null (q_en (q_sI (q_sI (q_sI (q_sI S 32 114) 35 k) 38 0) 37 0), c, w) := by
  refine r_Gof (r_run (L := [_, _]) ⟨rfl, Nat.le_of_ble_eq_true rfl⟩ rfl ?_)
  unfold b_X10_begins
  refine r_seq ?_
  refine r_sput (r_loc rfl rfl) (r_lit ql_114) (gp_Md_state (by first | omega | assumption | exact r_zrg _ | exact hS.1 _ | exact hS.2 _ _ | exact stg_b hS _ _ | exact r_irg (by first | assumption | omega | exact hS.1 _ | exact hS.2 _ _ | exact stg_b hS _ _) (by first | assumption | omega | exact hS.1 _ | exact hS.2 _ _)) (by first | omega | assumption | exact r_zrg _ | exact hS.1 _ | exact hS.2 _ _ | exact stg_b hS _ _ | exact r_irg (by first | assumption | omega | exact hS.1 _ | exact hS.2 _ _ | exact stg_b hS _ _) (by first | assumption | omega | exact hS.1 _ | exact hS.2 _ _))) ?_
  refine r_k0 ?_
  refine r_seq ?_
  refine r_sput (r_loc rfl rfl) (r_loc rfl rfl) gp_Md_next ?_
  refine r_k0 ?_
  refine r_seq ?_
  refine r_sput (r_loc rfl rfl) (r_lit ql_0) gp_Md_speed ?_
  refine r_k0 ?_
  refine r_seq ?_
  refine r_sput (r_loc rfl rfl) (r_lit ql_0) gp_Md_went ?_
  refine r_k0 ?_
  refine wS_retv ?_
  refine r_pretv r_le0 ?_
  exact ⟨rfl, rfl⟩
theorem sp_X10_resume {S : q_Sg} {c w : Nat} (hS : r_ok S)  : r_X f_X10_resume [.ref 47] (q_en S, c, w) (fun r h2 => (¬ (r_z (¬ S.1 32 = 105 ∨ ¬ ¬ S.1 34 = 0)) = 0 ∧ r = iv 0 ∧ h2 = (q_en (q_sI S 23 (r_z (¬ S.1 32 = 105 ∨ ¬ ¬ S.1 34 = 0))), c, w)) ∨ ((r_z (¬ S.1 32 = 105 ∨ ¬ ¬ S.1 34 = 0)) = 0 ∧ r = iv (r_i (S.1 36 = -1) 0 (S.1 36)) ∧ h2 = (q_en (q_sI (q_sI (q_sI (q_sI (q_sI S 23 (r_z (¬ S.1 32 = 105 ∨ ¬ ¬ S.1 34 = 0))) 32 114) 35 (r_i (S.1 36 = -1) 0 (S.1 36))) 38 0) 37 0), c, w))) := by
  refine r_Xof (r_run (L := [_]) ⟨rfl, Nat.le_of_ble_eq_true rfl⟩ rfl ?_)
  unfold b_X10_resume
  refine r_seq ?_
  refine r_sifD (r_Dn (r_Dz (r_callG (r_cons (r_loc rfl rfl) (r_cons (r_if10 (r_or (r_ne (r_fld (r_loc rfl rfl) gg_Md_state) (r_lit ql_105) (by first | omega | assumption | exact hS.1 _ | exact hS.2 _ _ | (unfold r_i; (repeat' split) <;> omega) | exact r_zrg _ | exact r_okI hS (r_zrg _)) (by first | omega | assumption | exact hS.1 _ | exact hS.2 _ _ | (unfold r_i; (repeat' split) <;> omega) | exact r_zrg _ | exact r_okI hS (r_zrg _))) (fun hp1 => (r_not (r_z_ne (r_fld (r_loc rfl rfl) gg_Md_isCut) (by first | omega | assumption | exact hS.1 _ | exact hS.2 _ _ | (unfold r_i; (repeat' split) <;> omega) | exact r_zrg _ | exact r_okI hS (r_zrg _))))))) r_nil)) rfl (sp_X10_goesOn (by first | omega | assumption | exact hS.1 _ | exact hS.2 _ _ | (unfold r_i; (repeat' split) <;> omega) | exact r_zrg _ | exact r_okI hS (r_zrg _))) rfl))) (fun hp2 => ?_) (fun hp3 => ?_)
  ·
    have hpT := hp2
    have hpT0 := hp2
    refine r_sret (r_lit ql_0) ?_
    refine r_ks (j := 3) ?_
    refine r_pret (q_fit_int _) r_le0 ?_
    exact ⟨_, rfl, Or.inl ⟨hpT0, rfl, rfl⟩⟩
  ·
    have hpF := hp3
    have hpF0 := hp3
    refine wS_skip ?_
    refine r_k0 ?_
    refine r_seq ?_
    refine r_scallG (r_cons (r_loc rfl rfl) (r_cons (r_if (r_eq (r_fld (r_loc rfl rfl) gg_Md_kept) (r_lit ql_m1) (by first | omega | assumption | exact hS.1 _ | exact hS.2 _ _ | (unfold r_i; (repeat' split) <;> omega) | exact r_zrg _ | exact r_okI hS (r_zrg _)) (by first | omega | assumption | exact hS.1 _ | exact hS.2 _ _ | (unfold r_i; (repeat' split) <;> omega) | exact r_zrg _ | exact r_okI hS (r_zrg _))) (fun hp4 => (r_lit ql_0)) (fun hp5 => (r_fld (r_loc rfl rfl) gg_Md_kept))) r_nil)) rfl (sp_X10_begins (by first | omega | assumption | exact hS.1 _ | exact hS.2 _ _ | (unfold r_i; (repeat' split) <;> omega) | exact r_zrg _ | exact r_okI hS (r_zrg _))) ?_
    refine r_k0 ?_
    refine r_sret (r_fld (r_loc rfl rfl) gg_Md_next) ?_
    refine r_pret (q_fit_int _) r_le0 ?_
    exact ⟨_, rfl, Or.inr ⟨Classical.not_not.mp hpF0, rfl, rfl⟩⟩
theorem sp_X10_print {S : q_Sg} {c w : Nat} (hS : r_ok S)  : r_X f_X10_print [.ref 47] (q_en S, c, w) (fun r h2 => (¬ (r_z ((((S.1 32 = 114 ∨ S.1 32 = 119) ∨ S.1 32 = 112) ∨ S.1 32 = 102) ∨ S.1 31 = 0)) = 0 ∧ r = iv 0 ∧ h2 = (q_en (q_sI S 23 (r_z ((((S.1 32 = 114 ∨ S.1 32 = 119) ∨ S.1 32 = 112) ∨ S.1 32 = 102) ∨ S.1 31 = 0))), c, w)) ∨ ((r_z ((((S.1 32 = 114 ∨ S.1 32 = 119) ∨ S.1 32 = 112) ∨ S.1 32 = 102) ∨ S.1 31 = 0)) = 0 ∧ ∃ g, r = iv (S.1 31) ∧ h2 = (q_en (q_sA (q_sI (q_sI (q_sI (q_sI (q_sI (q_sI (q_sI S 23 (r_z ((((S.1 32 = 114 ∨ S.1 32 = 119) ∨ S.1 32 = 112) ∨ S.1 32 = 102) ∨ S.1 31 = 0))) 32 114) 35 0) 38 0) 37 0) 36 (-1)) 34 0) 32 g), c, w) ∧ (∀ j, g j = r_i (0 ≤ j ∧ j < 1728) 0 (S.2.1 32 j)) ∧ ∀ j, rg (g j))) := by
  refine r_Xof (r_run (L := [_, _]) ⟨rfl, Nat.le_of_ble_eq_true rfl⟩ rfl ?_)
  unfold b_X10_print
  refine r_seq ?_
  refine r_sifD (r_Dn (r_Dz (r_callG (r_cons (r_loc rfl rfl) (r_cons (r_if10 (r_or (r_bz (r_call (r_cons (r_loc rfl rfl) r_nil) rfl (sp_X10_isBusy (by first | omega | assumption | exact hS.1 _ | exact hS.2 _ _ | (unfold r_i; (repeat' split) <;> omega) | exact r_zrg _ | exact r_okI hS (r_zrg _))) rfl)) (fun hp1 => (r_z_eq (r_fld (r_loc rfl rfl) gg_Md_commands) (by first | omega | assumption | exact hS.1 _ | exact hS.2 _ _ | (unfold r_i; (repeat' split) <;> omega) | exact r_zrg _ | exact r_okI hS (r_zrg _)))))) r_nil)) rfl (sp_X10_goesOn (by first | omega | assumption | exact hS.1 _ | exact hS.2 _ _ | (unfold r_i; (repeat' split) <;> omega) | exact r_zrg _ | exact r_okI hS (r_zrg _))) rfl))) (fun hp2 => ?_) (fun hp3 => ?_)
  ·
    have hpT := hp2
    have hpT0 := hp2
    refine r_sret (r_lit ql_0) ?_
    refine r_ks (j := 3) ?_
    refine r_pret (q_fit_int _) r_le0 ?_
    exact ⟨_, rfl, Or.inl ⟨hpT0, rfl, rfl⟩⟩
  ·
    have hpF := hp3
    have hpF0 := hp3
    refine wS_skip ?_
    refine r_k0 ?_
    refine r_seq ?_
    refine r_scallG (r_cons (r_loc rfl rfl) (r_cons (r_lit ql_0) r_nil)) rfl (sp_X10_begins (by first | omega | assumption | exact hS.1 _ | exact hS.2 _ _ | (unfold r_i; (repeat' split) <;> omega) | exact r_zrg _ | exact r_okI hS (r_zrg _))) ?_
    refine r_k0 ?_
    refine r_seq ?_
    refine r_sput (r_loc rfl rfl) (r_lit ql_m1) gp_Md_kept ?_
    refine r_k0 ?_
    refine r_seq ?_
    refine r_sput (r_loc rfl rfl) (r_lit ql_0) (gp_Md_isCut (by first | omega | assumption | exact hS.1 _ | exact hS.2 _ _ | (unfold r_i; (repeat' split) <;> omega) | exact r_zrg _ | exact r_okI hS (r_zrg _)) (by first | omega | assumption | exact hS.1 _ | exact hS.2 _ _ | (unfold r_i; (repeat' split) <;> omega) | exact r_zrg _ | exact r_okI hS (r_zrg _))) ?_
    refine r_k0 ?_
    refine r_seq ?_
    refine r_seq ?_
    refine r_sloc (L2 := [_, _]) (r_lit ql_0) rfl rfl ?_
    refine r_k0 ?_
    refine r_loop (T := Int × (Int → Int)) (fun (σ : Int × (Int → Int)) => match σ with | (k, g) => (0 ≤ k ∧ k ≤ 1728) ∧ (∀ j, g j = r_i (0 ≤ j ∧ j < k) 0 (S.2.1 32 j)) ∧ ∀ j, rg (g j)) (fun (σ : Int × (Int → Int)) => match σ with | (k, g) => (1728 - k).toNat) (fun (σ : Int × (Int → Int)) => match σ with | (k, g) => [some (.ref 47), some (iv k)]) (fun (σ : Int × (Int → Int)) => match σ with | (k, g) => (q_en (q_sA (q_sI (q_sI (q_sI (q_sI (q_sI (q_sI (q_sI S 23 (r_z ((((S.1 32 = 114 ∨ S.1 32 = 119) ∨ S.1 32 = 112) ∨ S.1 32 = 102) ∨ S.1 31 = 0))) 32 114) 35 0) 38 0) 37 0) 36 (-1)) 34 0) 32 g), c, w)) (0, S.2.1 32) rfl (congrArg (fun X => (q_en X, c, w)) (q_sAz rfl).symm) ?_ ?_ ?_
    · exact ⟨by omega, fun j => (r_i0 (by omega)).symm, hS.2 32⟩
    · (show _ < 1000000); first | omega | (dsimp only; omega)
    · rintro ⟨k, g⟩ hP
      try dsimp only at hP ⊢
      obtain ⟨hk, hg, hr⟩ := hP
      refine ⟨_, (r_lt (r_loc rfl rfl) (r_lit ql_1728) (by first | omega | assumption | exact hS.1 _ | exact hS.2 _ _ | (unfold r_i; (repeat' split) <;> omega) | exact r_zrg _ | exact r_okI hS (r_zrg _)) (by first | omega | assumption | exact hS.1 _ | exact hS.2 _ _ | (unfold r_i; (repeat' split) <;> omega) | exact r_zrg _ | exact r_okI hS (r_zrg _))), fun hp4 => ?_, fun hp5 => ?_⟩
      ·
        refine r_k0 ?_
        refine r_sret (r_fld (r_loc rfl rfl) gg_Md_commands) ?_
        refine r_pret (q_fit_int _) r_le0 ?_
        exact ⟨_, rfl, Or.inr ⟨Classical.not_not.mp hpF0, g, rfl, rfl, fun j => by rw [hg j]; exact r_ieqv (by omega), hr⟩⟩
      ·
        refine r_sput3 (r_fld (r_loc rfl rfl) gg_Md_laid) (r_loc rfl rfl) (r_lit ql_0) (r_putI ga_Md_laid gs_Md_laid (by first | omega | assumption | exact hS.1 _ | exact hS.2 _ _ | (unfold r_i; (repeat' split) <;> omega) | exact r_zrg _ | exact r_okI hS (r_zrg _)) (by first | omega | assumption | exact hS.1 _ | exact hS.2 _ _ | (unfold r_i; (repeat' split) <;> omega) | exact r_zrg _ | exact r_okI hS (r_zrg _)) (by decide) q_narI) ?_
        refine r_l0 ?_
        refine r_sinc (L2 := [_, _]) rfl rfl ?_
        refine r_lend (k + 1, q_up g k 0) rfl (by rw [q_sAA]; rfl) ?_ (by first | omega | (dsimp only; omega))
        try dsimp only
        refine ⟨by omega, fun j => ?_, r_oku hr (by omega)⟩
        unfold q_up
        by_cases e : j = k
        · rw [if_pos e, r_i1 (by omega)]
        · rw [if_neg e, hg j]; exact r_ieqv (by omega)
