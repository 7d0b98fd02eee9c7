theorem sp_X10_setPause {S : q_Sg} {c w : Nat} (hS : r_ok S) {z : Int} {p : Prop} (hz : rg z) (h01 : ∀ j, 0 ≤ S.2.1 23 j ∧ S.2.1 23 j < 2) : r_X f_X10_setPause [.ref 47, iv z, r_b p] (q_en S, c, w) (fun r h2 => (¬ (r_i (0 ≤ z ∧ z < 12) 0 1) = 0 ∧ r = iv 0 ∧ h2 = (q_en (q_sI S 23 (r_i (0 ≤ z ∧ z < 12) 0 1)), c, w)) ∨ ((r_i (0 ≤ z ∧ z < 12) 0 1) = 0 ∧ r = iv (S.2.1 23 z) ∧ h2 = (q_en (q_sA (q_sI S 23 (r_i (0 ≤ z ∧ z < 12) 0 1)) 23 (q_up (S.2.1 23) z (r_z p))), c, w))) := by
  refine r_Xof (r_run (L := [_, _, _, _]) ⟨rfl, Nat.le_of_ble_eq_true rfl⟩ rfl ?_)
  unfold b_X10_setPause
  have hzr : (r_i (0 ≤ z ∧ z < 12) 0 1) = 0 → 0 ≤ z ∧ z < 12 := by unfold r_i; (repeat' split) <;> omega
  refine r_seq ?_
  refine r_sifD (r_Dn (r_Dz (r_callG (r_cons (r_loc rfl rfl) (r_cons (r_if (r_bz (r_call (r_cons (r_loc rfl rfl) r_nil) rfl (sp_X10_isLayer (by first | omega | assumption | exact hS.1 _ | exact hS.2 _ _ | (unfold r_i; (repeat' split) <;> omega) | exact r_zrg _ | exact (r_z01 _).1 | exact (r_z01 _).2 | exact (h01 _).1 | exact (h01 _).2)) rfl)) (fun hp1 => (r_lit ql_0)) (fun hp2 => (r_lit ql_1))) r_nil)) rfl (sp_X10_goesOn (by first | omega | assumption | exact hS.1 _ | exact hS.2 _ _ | (unfold r_i; (repeat' split) <;> omega) | exact r_zrg _ | exact (r_z01 _).1 | exact (r_z01 _).2 | exact (h01 _).1 | exact (h01 _).2)) rfl))) (fun hp3 => ?_) (fun hp4 => ?_)
  ·
    have hpT := hp3
    have hpT0 := hp3
    refine r_sret (r_lit ql_0) ?_
    refine r_ks (j := 3) ?_
    refine r_pret r_fit0 r_le0 ?_
    exact ⟨_, rfl, Or.inl ⟨hpT0, rfl, rfl⟩⟩
  ·
    have hpF := hp4
    have hpF0 := hp4
    have hzz := hzr (Classical.not_not.mp hpF0)
    refine wS_skip ?_
    refine r_k0 ?_
    refine r_seq ?_
    refine r_sloc (L2 := [_, _, _, _]) (r_aget ga_Md_pause (r_fld (r_loc rfl rfl) gg_Md_pause) (r_loc rfl rfl) (by first | omega | assumption | exact hS.1 _ | exact hS.2 _ _ | (unfold r_i; (repeat' split) <;> omega) | exact r_zrg _ | exact (r_z01 _).1 | exact (r_z01 _).2 | exact (h01 _).1 | exact (h01 _).2) (by first | omega | assumption | exact hS.1 _ | exact hS.2 _ _ | (unfold r_i; (repeat' split) <;> omega) | exact r_zrg _ | exact (r_z01 _).1 | exact (r_z01 _).2 | exact (h01 _).1 | exact (h01 _).2) (by decide)) rfl rfl ?_
    refine r_k0 ?_
    refine r_seq ?_
    refine r_sput3 (r_fld (r_loc rfl rfl) gg_Md_pause) (r_loc rfl rfl) (r_loc rfl rfl) (r_putI ga_Md_pause gs_Md_pause (by first | omega | assumption | exact hS.1 _ | exact hS.2 _ _ | (unfold r_i; (repeat' split) <;> omega) | exact r_zrg _ | exact (r_z01 _).1 | exact (r_z01 _).2 | exact (h01 _).1 | exact (h01 _).2) (by first | omega | assumption | exact hS.1 _ | exact hS.2 _ _ | (unfold r_i; (repeat' split) <;> omega) | exact r_zrg _ | exact (r_z01 _).1 | exact (r_z01 _).2 | exact (h01 _).1 | exact (h01 _).2) (by decide) (q_narZ (by first | omega | assumption | exact hS.1 _ | exact hS.2 _ _ | (unfold r_i; (repeat' split) <;> omega) | exact r_zrg _ | exact (r_z01 _).1 | exact (r_z01 _).2 | exact (h01 _).1 | exact (h01 _).2) (by first | omega | assumption | exact hS.1 _ | exact hS.2 _ _ | (unfold r_i; (repeat' split) <;> omega) | exact r_zrg _ | exact (r_z01 _).1 | exact (r_z01 _).2 | exact (h01 _).1 | exact (h01 _).2))) ?_
    refine r_k0 ?_
    refine r_sret (r_loc rfl rfl) ?_
    refine r_pret (q_fit_bool (by first | omega | assumption | exact hS.1 _ | exact hS.2 _ _ | (unfold r_i; (repeat' split) <;> omega) | exact r_zrg _ | exact (r_z01 _).1 | exact (r_z01 _).2 | exact (h01 _).1 | exact (h01 _).2) (by first | omega | assumption | exact hS.1 _ | exact hS.2 _ _ | (unfold r_i; (repeat' split) <;> omega) | exact r_zrg _ | exact (r_z01 _).1 | exact (r_z01 _).2 | exact (h01 _).1 | exact (h01 _).2)) r_le0 ?_
    exact ⟨_, rfl, Or.inr ⟨Classical.not_not.mp hpF0, rfl, rfl⟩⟩
theorem sp_X10_travel {S : q_Sg} {c w : Nat} (hS : r_ok S) {l : List qCmd} {th : Int → Int} (hc : RREP S l th) (hO : COK l) (hn : l.length ≤ 6936)  : r_G f_X10_travel [.ref 47] (q_en S, c, w) (iv (trn l l.length)) (q_en (q_sI S 23 0), c, w) := by
  refine r_Gof (r_run (L := [_, _, _]) ⟨rfl, Nat.le_of_ble_eq_true rfl⟩ rfl ?_)
  unfold b_X10_travel
  refine r_seq ?_
  refine r_sput (r_loc rfl rfl) (r_lit ql_0) gp_Md_thrown ?_
  refine r_k0 ?_
  refine r_seq ?_
  refine r_sloc (L2 := [_, _, _]) (r_lit ql_0) rfl rfl ?_
  refine r_k0 ?_
  refine r_seq ?_
  refine r_seq ?_
  refine r_sloc (L2 := [_, _, _]) (r_lit ql_0) rfl rfl ?_
  refine r_k0 ?_
  refine r_loop (T := Nat × Int) (fun (σ : Nat × Int) => match σ with | (k, s) => k ≤ l.length ∧ s = trn l k) (fun (σ : Nat × Int) => match σ with | (k, s) => l.length - k) (fun (σ : Nat × Int) => match σ with | (k, s) => [some (.ref 47), some (iv s), some (iv k)]) (fun (σ : Nat × Int) => match σ with | (k, s) => (q_en (q_sI S 23 0), c, w)) (0, 0) rfl rfl ?_ ?_ ?_
  · exact ⟨Nat.zero_le _, rfl⟩
  · (show _ < 1000000); first | omega | (dsimp only; omega)
  · rintro ⟨k, s⟩ hP
    try dsimp only at hP ⊢
    obtain ⟨hk, hs⟩ := hP
    have h31 := hc.1
    have h31b : (q_sI S 23 0).1 31 = l.length := h31
    refine ⟨_, (r_lt (r_loc rfl rfl) (r_fld (r_loc rfl rfl) gg_Md_commands) (by first | omega | assumption | exact hS.1 _ | exact hS.2 _ _ | (unfold r_i; (repeat' split) <;> omega) | exact r_zrg _ | (show rg (S.2.1 25 k - S.2.1 30 k); rw [ex]; omega) | (show rg (S.2.1 26 k - S.2.1 31 k); rw [ey]; omega)) (by first | omega | assumption | exact hS.1 _ | exact hS.2 _ _ | (unfold r_i; (repeat' split) <;> omega) | exact r_zrg _ | (show rg (S.2.1 25 k - S.2.1 30 k); rw [ex]; omega) | (show rg (S.2.1 26 k - S.2.1 31 k); rw [ey]; omega))), fun hp1 => ?_, fun hp2 => ?_⟩
    ·
      refine r_k0 ?_
      refine r_sret (r_loc rfl rfl) ?_
      refine r_pret (q_fit_int _) r_le0 ?_
      have hk2 : k = l.length := by omega
      exact ⟨by rw [hs, hk2], rfl⟩
    ·
      have hk1 : (k : Int) < S.1 31 := hp2
      have hr := hc.2 k (by omega) (by omega)
      have hd := dX_b hO k
      have ex : S.2.1 25 k - S.2.1 30 k = dX l k := by rw [hr.2.1, hr.2.2.2.2.2.2.1]; rfl
      have ey : S.2.1 26 k - S.2.1 31 k = dY l k := by rw [hr.2.2.1, hr.2.2.2.2.2.2.2]; rfl
      refine r_sloc (L2 := [_, _, _]) (r_add (r_loc rfl rfl) (r_if (r_eq (r_aget ga_Md_kind (r_fld (r_loc rfl rfl) gg_Md_kind) (r_loc rfl rfl) (by first | omega | assumption | exact hS.1 _ | exact hS.2 _ _ | (unfold r_i; (repeat' split) <;> omega) | exact r_zrg _ | (show rg (S.2.1 25 k - S.2.1 30 k); rw [ex]; omega) | (show rg (S.2.1 26 k - S.2.1 31 k); rw [ey]; omega)) (by first | omega | assumption | exact hS.1 _ | exact hS.2 _ _ | (unfold r_i; (repeat' split) <;> omega) | exact r_zrg _ | (show rg (S.2.1 25 k - S.2.1 30 k); rw [ex]; omega) | (show rg (S.2.1 26 k - S.2.1 31 k); rw [ey]; omega)) (by decide)) (r_lit ql_103) (by first | omega | assumption | exact hS.1 _ | exact hS.2 _ _ | (unfold r_i; (repeat' split) <;> omega) | exact r_zrg _ | (show rg (S.2.1 25 k - S.2.1 30 k); rw [ex]; omega) | (show rg (S.2.1 26 k - S.2.1 31 k); rw [ey]; omega)) (by first | omega | assumption | exact hS.1 _ | exact hS.2 _ _ | (unfold r_i; (repeat' split) <;> omega) | exact r_zrg _ | (show rg (S.2.1 25 k - S.2.1 30 k); rw [ex]; omega) | (show rg (S.2.1 26 k - S.2.1 31 k); rw [ey]; omega))) (fun hp3 => (r_add (r_call (r_cons (r_sub (r_aget ga_Md_toX (r_fld (r_loc rfl rfl) gg_Md_toX) (r_loc rfl rfl) (by first | omega | assumption | exact hS.1 _ | exact hS.2 _ _ | (unfold r_i; (repeat' split) <;> omega) | exact r_zrg _ | (show rg (S.2.1 25 k - S.2.1 30 k); rw [ex]; omega) | (show rg (S.2.1 26 k - S.2.1 31 k); rw [ey]; omega)) (by first | omega | assumption | exact hS.1 _ | exact hS.2 _ _ | (unfold r_i; (repeat' split) <;> omega) | exact r_zrg _ | (show rg (S.2.1 25 k - S.2.1 30 k); rw [ex]; omega) | (show rg (S.2.1 26 k - S.2.1 31 k); rw [ey]; omega)) (by decide)) (r_aget ga_Md_fromX (r_fld (r_loc rfl rfl) gg_Md_fromX) (r_loc rfl rfl) (by first | omega | assumption | exact hS.1 _ | exact hS.2 _ _ | (unfold r_i; (repeat' split) <;> omega) | exact r_zrg _ | (show rg (S.2.1 25 k - S.2.1 30 k); rw [ex]; omega) | (show rg (S.2.1 26 k - S.2.1 31 k); rw [ey]; omega)) (by first | omega | assumption | exact hS.1 _ | exact hS.2 _ _ | (unfold r_i; (repeat' split) <;> omega) | exact r_zrg _ | (show rg (S.2.1 25 k - S.2.1 30 k); rw [ex]; omega) | (show rg (S.2.1 26 k - S.2.1 31 k); rw [ey]; omega)) (by decide))) r_nil) rfl (sp_X10_far (by first | omega | assumption | exact hS.1 _ | exact hS.2 _ _ | (unfold r_i; (repeat' split) <;> omega) | exact r_zrg _ | (show rg (S.2.1 25 k - S.2.1 30 k); rw [ex]; omega) | (show rg (S.2.1 26 k - S.2.1 31 k); rw [ey]; omega))) rfl) (r_call (r_cons (r_sub (r_aget ga_Md_toY (r_fld (r_loc rfl rfl) gg_Md_toY) (r_loc rfl rfl) (by first | omega | assumption | exact hS.1 _ | exact hS.2 _ _ | (unfold r_i; (repeat' split) <;> omega) | exact r_zrg _ | (show rg (S.2.1 25 k - S.2.1 30 k); rw [ex]; omega) | (show rg (S.2.1 26 k - S.2.1 31 k); rw [ey]; omega)) (by first | omega | assumption | exact hS.1 _ | exact hS.2 _ _ | (unfold r_i; (repeat' split) <;> omega) | exact r_zrg _ | (show rg (S.2.1 25 k - S.2.1 30 k); rw [ex]; omega) | (show rg (S.2.1 26 k - S.2.1 31 k); rw [ey]; omega)) (by decide)) (r_aget ga_Md_fromY (r_fld (r_loc rfl rfl) gg_Md_fromY) (r_loc rfl rfl) (by first | omega | assumption | exact hS.1 _ | exact hS.2 _ _ | (unfold r_i; (repeat' split) <;> omega) | exact r_zrg _ | (show rg (S.2.1 25 k - S.2.1 30 k); rw [ex]; omega) | (show rg (S.2.1 26 k - S.2.1 31 k); rw [ey]; omega)) (by first | omega | assumption | exact hS.1 _ | exact hS.2 _ _ | (unfold r_i; (repeat' split) <;> omega) | exact r_zrg _ | (show rg (S.2.1 25 k - S.2.1 30 k); rw [ex]; omega) | (show rg (S.2.1 26 k - S.2.1 31 k); rw [ey]; omega)) (by decide))) r_nil) rfl (sp_X10_far (by first | omega | assumption | exact hS.1 _ | exact hS.2 _ _ | (unfold r_i; (repeat' split) <;> omega) | exact r_zrg _ | (show rg (S.2.1 25 k - S.2.1 30 k); rw [ex]; omega) | (show rg (S.2.1 26 k - S.2.1 31 k); rw [ey]; omega))) rfl))) (fun hp4 => (r_lit ql_0)))) rfl rfl ?_
      refine r_l0 ?_
      refine r_sinc (L2 := [_, _, _]) rfl rfl ?_
      refine r_lend (k + 1, s + r_i (S.2.1 24 k = 103) (r_i (S.2.1 25 k - S.2.1 30 k < 0) (-(S.2.1 25 k - S.2.1 30 k)) (S.2.1 25 k - S.2.1 30 k) + r_i (S.2.1 26 k - S.2.1 31 k < 0) (-(S.2.1 26 k - S.2.1 31 k)) (S.2.1 26 k - S.2.1 31 k)) 0) rfl rfl ?_ (by first | omega | (dsimp only; omega))
      try dsimp only
      refine ⟨by omega, ?_⟩
      rw [ex, ey, iab_r, iab_r, hr.1, hs]
      show _ = trn l k + _
      congr 1
      unfold r_i; split <;> rfl
theorem sp_X10_planned {S : q_Sg} {c w : Nat} (hS : r_ok S) {l : List qCmd} {th : Int → Int} (hc : RREP S l th) (hO : COK l) (hn : l.length ≤ 6936)  : r_G f_X10_planned [.ref 47] (q_en S, c, w) (.long (Int64.ofInt (amn l th l.length))) (q_en (q_sI S 23 0), c, w) := by
  refine r_Gof (r_run (L := [_, _, _, _]) ⟨rfl, Nat.le_of_ble_eq_true rfl⟩ rfl ?_)
  unfold b_X10_planned
  refine r_seq ?_
  refine r_sput (r_loc rfl rfl) (r_lit ql_0) gp_Md_thrown ?_
  refine r_k0 ?_
  refine r_seq ?_
  refine r_sloc (L2 := [_, _, _, _]) r_litl0 rfl rfl ?_
  refine r_k0 ?_
  refine r_seq ?_
  refine r_seq ?_
  refine r_sloc (L2 := [_, _, _, _]) (r_lit ql_0) rfl rfl ?_
  refine r_k0 ?_
  refine r_loop (T := Nat × Int × Option Value) (fun (σ : Nat × Int × Option Value) => match σ with | (k, s, o) => k ≤ l.length ∧ s = amn l th k) (fun (σ : Nat × Int × Option Value) => match σ with | (k, s, o) => l.length - k) (fun (σ : Nat × Int × Option Value) => match σ with | (k, s, o) => [some (.ref 47), some (.long (Int64.ofInt s)), o, some (iv k)]) (fun (σ : Nat × Int × Option Value) => match σ with | (k, s, o) => (q_en (q_sI S 23 0), c, w)) (0, 0, _) rfl rfl ?_ ?_ ?_
  · exact ⟨Nat.zero_le _, rfl⟩
  · (show _ < 1000000); first | omega | (dsimp only; omega)
  · rintro ⟨k, s, o⟩ hP
    try dsimp only at hP ⊢
    obtain ⟨hk, hs⟩ := hP
    have h31 := hc.1
    have h31b : (q_sI S 23 0).1 31 = l.length := h31
    refine ⟨_, (r_lt (r_loc rfl rfl) (r_fld (r_loc rfl rfl) gg_Md_commands) (by first | omega | assumption | exact hS.1 _ | exact hS.2 _ _ | (unfold r_i; (repeat' split) <;> omega) | exact r_zrg _) (by first | omega | assumption | exact hS.1 _ | exact hS.2 _ _ | (unfold r_i; (repeat' split) <;> omega) | exact r_zrg _)), fun hp1 => ?_, fun hp2 => ?_⟩
    ·
      refine r_k0 ?_
      refine r_sret (r_loc rfl rfl) ?_
      refine r_pret (q_fit_long _) r_le0 ?_
      have hk2 : k = l.length := by omega
      exact ⟨by rw [hs, hk2], rfl⟩
    ·
      have hk1 := hp2
      refine r_sloc (L2 := [_, _, _, _]) (r_ladd (r_loc rfl rfl) (r_i2l (r_aget ga_Md_amount (r_fld (r_loc rfl rfl) gg_Md_amount) (r_loc rfl rfl) (by first | omega | assumption | exact hS.1 _ | exact hS.2 _ _ | (unfold r_i; (repeat' split) <;> omega) | exact r_zrg _) (by first | omega | assumption | exact hS.1 _ | exact hS.2 _ _ | (unfold r_i; (repeat' split) <;> omega) | exact r_zrg _) (by decide)) (by first | omega | assumption | exact hS.1 _ | exact hS.2 _ _ | (unfold r_i; (repeat' split) <;> omega) | exact r_zrg _))) rfl rfl ?_
      refine r_l0 ?_
      refine r_sinc (L2 := [_, _, _, _]) rfl rfl ?_
      refine r_lend (k + 1, s + S.2.1 27 k, _) rfl rfl ?_ (by first | omega | (dsimp only; omega))
      try dsimp only
      have hr := hc.2 k (by omega) (by have k1 : (k : Int) < S.1 31 := hk1; omega)
      refine ⟨by have k1 : (k : Int) < S.1 31 := hk1; omega, ?_⟩
      rw [hs, hr.2.2.2.1]; rfl
theorem sp_X10_laidInAll {S : q_Sg} {c w : Nat} (hS : r_ok S)  : r_G f_X10_laidInAll [.ref 47] (q_en S, c, w) (.long (Int64.ofInt (suml (S.2.1 32) 1728))) (q_en (q_sI S 23 0), c, w) := by
  refine r_Gof (r_run (L := [_, _, _, _]) ⟨rfl, Nat.le_of_ble_eq_true rfl⟩ rfl ?_)
  unfold b_X10_laidInAll
  refine r_seq ?_
  refine r_sput (r_loc rfl rfl) (r_lit ql_0) gp_Md_thrown ?_
  refine r_k0 ?_
  refine r_seq ?_
  refine r_sloc (L2 := [_, _, _, _]) r_litl0 rfl rfl ?_
  refine r_k0 ?_
  refine r_seq ?_
  refine r_seq ?_
  refine r_sloc (L2 := [_, _, _, _]) (r_lit ql_0) rfl rfl ?_
  refine r_k0 ?_
  refine r_loop (T := Nat × Int × Option Value) (fun (σ : Nat × Int × Option Value) => match σ with | (k, s, o) => k ≤ 1728 ∧ s = suml (S.2.1 32) k) (fun (σ : Nat × Int × Option Value) => match σ with | (k, s, o) => 1728 - k) (fun (σ : Nat × Int × Option Value) => match σ with | (k, s, o) => [some (.ref 47), some (.long (Int64.ofInt s)), o, some (iv k)]) (fun (σ : Nat × Int × Option Value) => match σ with | (k, s, o) => (q_en (q_sI S 23 0), c, w)) (0, 0, _) rfl rfl ?_ ?_ ?_
  · exact ⟨Nat.zero_le _, rfl⟩
  · (show _ < 1000000); first | omega | (dsimp only; omega)
  · rintro ⟨k, s, o⟩ hP
    try dsimp only at hP ⊢
    obtain ⟨hk, hs⟩ := hP
    refine ⟨_, (r_lt (r_loc rfl rfl) (r_lit ql_1728) (by first | omega | assumption | exact hS.1 _ | exact hS.2 _ _ | (unfold r_i; (repeat' split) <;> omega) | exact r_zrg _) (by first | omega | assumption | exact hS.1 _ | exact hS.2 _ _ | (unfold r_i; (repeat' split) <;> omega) | exact r_zrg _)), fun hp1 => ?_, fun hp2 => ?_⟩
    ·
      refine r_k0 ?_
      refine r_sret (r_loc rfl rfl) ?_
      refine r_pret (q_fit_long _) r_le0 ?_
      have hk2 : k = 1728 := by omega
      exact ⟨by rw [hs, hk2], rfl⟩
    ·
      have hk1 := hp2
      refine r_sloc (L2 := [_, _, _, _]) (r_ladd (r_loc rfl rfl) (r_i2l (r_aget ga_Md_laid (r_fld (r_loc rfl rfl) gg_Md_laid) (r_loc rfl rfl) (by first | omega | assumption | exact hS.1 _ | exact hS.2 _ _ | (unfold r_i; (repeat' split) <;> omega) | exact r_zrg _) (by first | omega | assumption | exact hS.1 _ | exact hS.2 _ _ | (unfold r_i; (repeat' split) <;> omega) | exact r_zrg _) (by decide)) (by first | omega | assumption | exact hS.1 _ | exact hS.2 _ _ | (unfold r_i; (repeat' split) <;> omega) | exact r_zrg _))) rfl rfl ?_
      refine r_l0 ?_
      refine r_sinc (L2 := [_, _, _, _]) rfl rfl ?_
      refine r_lend (k + 1, s + S.2.1 32 k, _) rfl rfl ?_ (by first | omega | (dsimp only; omega))
      try dsimp only
      exact ⟨by omega, by rw [hs]; rfl⟩
theorem sp_X10_numberAt {S : q_Sg} {c w : Nat} (hS : r_ok S) {l : List qCmd} {th : Int → Int} (hc : RREP S l th) (hO : COK l) (hn : l.length ≤ 6936) {k q : Int} (hk : rg k) (hq : rg q) : r_X f_X10_numberAt [.ref 47, iv k, iv q] (q_en S, c, w) (fun r h2 => (¬ (r_i (¬ (0 ≤ k ∧ k ≤ S.1 31 - 1)) 1 (r_i (¬ (((q = 120 ∨ q = 121) ∨ q = 97) ∨ q = 122)) 2 (r_i (¬ ((0 ≤ k ∧ k ≤ S.1 31 - 1) ∧ (q = 97 → S.2.1 24 k = 100) ∧ (¬ q = 97 → (q = 122 → S.2.1 24 k = 122) ∧ (¬ q = 122 → MV l k)))) 3 0))) = 0 ∧ r = iv 0 ∧ h2 = (q_en (q_sI S 23 (r_i (¬ (0 ≤ k ∧ k ≤ S.1 31 - 1)) 1 (r_i (¬ (((q = 120 ∨ q = 121) ∨ q = 97) ∨ q = 122)) 2 (r_i (¬ ((0 ≤ k ∧ k ≤ S.1 31 - 1) ∧ (q = 97 → S.2.1 24 k = 100) ∧ (¬ q = 97 → (q = 122 → S.2.1 24 k = 122) ∧ (¬ q = 122 → MV l k)))) 3 0)))), c, w)) ∨ ((r_i (¬ (0 ≤ k ∧ k ≤ S.1 31 - 1)) 1 (r_i (¬ (((q = 120 ∨ q = 121) ∨ q = 97) ∨ q = 122)) 2 (r_i (¬ ((0 ≤ k ∧ k ≤ S.1 31 - 1) ∧ (q = 97 → S.2.1 24 k = 100) ∧ (¬ q = 97 → (q = 122 → S.2.1 24 k = 122) ∧ (¬ q = 122 → MV l k)))) 3 0))) = 0 ∧ r = iv (r_i (q = 120) (S.2.1 25 k) (r_i (q = 121) (S.2.1 26 k) (r_i (q = 97) (S.2.1 27 k) (S.2.1 28 k)))) ∧ h2 = (q_en ((q_sI S 23 (r_i (¬ (0 ≤ k ∧ k ≤ S.1 31 - 1)) 1 (r_i (¬ (((q = 120 ∨ q = 121) ∨ q = 97) ∨ q = 122)) 2 (r_i (¬ ((0 ≤ k ∧ k ≤ S.1 31 - 1) ∧ (q = 97 → S.2.1 24 k = 100) ∧ (¬ q = 97 → (q = 122 → S.2.1 24 k = 122) ∧ (¬ q = 122 → MV l k)))) 3 0))))), c, w))) := by
  refine r_Xof (r_run (L := [_, _, _, _, _, _]) ⟨rfl, Nat.le_of_ble_eq_true rfl⟩ rfl ?_)
  unfold b_X10_numberAt
  have h31 := hc.1
  have hin : (r_i (¬ (0 ≤ k ∧ k ≤ S.1 31 - 1)) 1 (r_i (¬ (((q = 120 ∨ q = 121) ∨ q = 97) ∨ q = 122)) 2 (r_i (¬ ((0 ≤ k ∧ k ≤ S.1 31 - 1) ∧ (q = 97 → S.2.1 24 k = 100) ∧ (¬ q = 97 → (q = 122 → S.2.1 24 k = 122) ∧ (¬ q = 122 → MV l k)))) 3 0))) = 0 → (0 ≤ k ∧ k ≤ S.1 31 - 1) := by unfold r_i; (repeat' split) <;> omega
  refine r_seq ?_
  refine r_sloc (L2 := [_, _, _, _, _, _]) (r_call (r_cons (r_loc rfl rfl) (r_cons (r_lit ql_0) (r_cons (r_sub (r_fld (r_loc rfl rfl) gg_Md_commands) (r_lit ql_1)) r_nil))) rfl (sp_X10_in (by first | omega | assumption | exact hS.1 _ | exact hS.2 _ _ | (unfold r_i; (repeat' split) <;> omega) | exact r_zrg _) (by first | omega | assumption | exact hS.1 _ | exact hS.2 _ _ | (unfold r_i; (repeat' split) <;> omega) | exact r_zrg _) (by first | omega | assumption | exact hS.1 _ | exact hS.2 _ _ | (unfold r_i; (repeat' split) <;> omega) | exact r_zrg _)) rfl) rfl rfl ?_
  refine r_k0 ?_
  refine r_seq ?_
  refine r_sloc (L2 := [_, _, _, _, _, _]) (r_if10 (r_or (r_or (r_or (r_eq (r_loc rfl rfl) (r_lit ql_120) (by first | omega | assumption | exact hS.1 _ | exact hS.2 _ _ | (unfold r_i; (repeat' split) <;> omega) | exact r_zrg _) (by first | omega | assumption | exact hS.1 _ | exact hS.2 _ _ | (unfold r_i; (repeat' split) <;> omega) | exact r_zrg _)) (fun hp1 => (r_eq (r_loc rfl rfl) (r_lit ql_121) (by first | omega | assumption | exact hS.1 _ | exact hS.2 _ _ | (unfold r_i; (repeat' split) <;> omega) | exact r_zrg _) (by first | omega | assumption | exact hS.1 _ | exact hS.2 _ _ | (unfold r_i; (repeat' split) <;> omega) | exact r_zrg _)))) (fun hp2 => (r_eq (r_loc rfl rfl) (r_lit ql_97) (by first | omega | assumption | exact hS.1 _ | exact hS.2 _ _ | (unfold r_i; (repeat' split) <;> omega) | exact r_zrg _) (by first | omega | assumption | exact hS.1 _ | exact hS.2 _ _ | (unfold r_i; (repeat' split) <;> omega) | exact r_zrg _)))) (fun hp3 => (r_eq (r_loc rfl rfl) (r_lit ql_122) (by first | omega | assumption | exact hS.1 _ | exact hS.2 _ _ | (unfold r_i; (repeat' split) <;> omega) | exact r_zrg _) (by first | omega | assumption | exact hS.1 _ | exact hS.2 _ _ | (unfold r_i; (repeat' split) <;> omega) | exact r_zrg _))))) rfl rfl ?_
  refine r_k0 ?_
  refine r_seq ?_
  refine r_sloc (L2 := [_, _, _, _, _, _]) (r_if10 (r_and (r_bz (r_loc rfl rfl)) (fun hp4 => (r_cif (r_eq (r_loc rfl rfl) (r_lit ql_97) (by first | omega | assumption | exact hS.1 _ | exact hS.2 _ _ | (unfold r_i; (repeat' split) <;> omega) | exact r_zrg _) (by first | omega | assumption | exact hS.1 _ | exact hS.2 _ _ | (unfold r_i; (repeat' split) <;> omega) | exact r_zrg _)) (fun hp5 => (r_eq (r_aget ga_Md_kind (r_fld (r_loc rfl rfl) gg_Md_kind) (r_loc rfl rfl) (by first | omega | assumption | exact hS.1 _ | exact hS.2 _ _ | (unfold r_i; (repeat' split) <;> omega) | exact r_zrg _) (by first | omega | assumption | exact hS.1 _ | exact hS.2 _ _ | (unfold r_i; (repeat' split) <;> omega) | exact r_zrg _) (by decide)) (r_lit ql_100) (by first | omega | assumption | exact hS.1 _ | exact hS.2 _ _ | (unfold r_i; (repeat' split) <;> omega) | exact r_zrg _) (by first | omega | assumption | exact hS.1 _ | exact hS.2 _ _ | (unfold r_i; (repeat' split) <;> omega) | exact r_zrg _))) (fun hp6 => (r_cif (r_eq (r_loc rfl rfl) (r_lit ql_122) (by first | omega | assumption | exact hS.1 _ | exact hS.2 _ _ | (unfold r_i; (repeat' split) <;> omega) | exact r_zrg _) (by first | omega | assumption | exact hS.1 _ | exact hS.2 _ _ | (unfold r_i; (repeat' split) <;> omega) | exact r_zrg _)) (fun hp7 => (r_eq (r_aget ga_Md_kind (r_fld (r_loc rfl rfl) gg_Md_kind) (r_loc rfl rfl) (by first | omega | assumption | exact hS.1 _ | exact hS.2 _ _ | (unfold r_i; (repeat' split) <;> omega) | exact r_zrg _) (by first | omega | assumption | exact hS.1 _ | exact hS.2 _ _ | (unfold r_i; (repeat' split) <;> omega) | exact r_zrg _) (by decide)) (r_lit ql_122) (by first | omega | assumption | exact hS.1 _ | exact hS.2 _ _ | (unfold r_i; (repeat' split) <;> omega) | exact r_zrg _) (by first | omega | assumption | exact hS.1 _ | exact hS.2 _ _ | (unfold r_i; (repeat' split) <;> omega) | exact r_zrg _))) (fun hp8 => (r_bz (r_call (r_cons (r_loc rfl rfl) (r_cons (r_loc rfl rfl) r_nil)) rfl (sp_X10_isMove (by first | omega | assumption | exact hS.1 _ | exact hS.2 _ _ | (unfold r_i; (repeat' split) <;> omega) | exact r_zrg _) (by first | omega | assumption | exact hS.1 _ | exact hS.2 _ _ | (unfold r_i; (repeat' split) <;> omega) | exact r_zrg _) (by first | omega | assumption | exact hS.1 _ | exact hS.2 _ _ | (unfold r_i; (repeat' split) <;> omega) | exact r_zrg _) (by first | omega | assumption | exact hS.1 _ | exact hS.2 _ _ | (unfold r_i; (repeat' split) <;> omega) | exact r_zrg _) (by first | omega | assumption | exact hS.1 _ | exact hS.2 _ _ | (unfold r_i; (repeat' split) <;> omega) | exact r_zrg _)) rfl))))))))) rfl rfl ?_
  refine r_k0 ?_
  refine r_seq ?_
  refine r_sifD (r_Dn (r_Dz (r_callG (r_cons (r_loc rfl rfl) (r_cons (r_if (r_not (r_bz (r_loc rfl rfl))) (fun hp9 => (r_lit ql_1)) (fun hp10 => (r_if (r_not (r_bz (r_loc rfl rfl))) (fun hp11 => (r_lit ql_2)) (fun hp12 => (r_if (r_not (r_bz (r_loc rfl rfl))) (fun hp13 => (r_lit ql_3)) (fun hp14 => (r_lit ql_0))))))) r_nil)) rfl (sp_X10_goesOn (by first | omega | assumption | exact hS.1 _ | exact hS.2 _ _ | (unfold r_i; (repeat' split) <;> omega) | exact r_zrg _)) rfl))) (fun hp15 => ?_) (fun hp16 => ?_)
  ·
    have hpT := hp15
    have hpT0 := hp15
    refine r_sret (r_lit ql_0) ?_
    refine r_ks (j := 3) ?_
    refine r_pret (q_fit_int _) r_le0 ?_
    exact ⟨_, rfl, Or.inl ⟨hpT0, rfl, rfl⟩⟩
  ·
    have hpF := hp16
    have hpF0 := hp16
    have hzz := hin (Classical.not_not.mp hpF0)
    refine wS_skip ?_
    refine r_k0 ?_
    refine r_sret (r_if (r_eq (r_loc rfl rfl) (r_lit ql_120) (by first | omega | assumption | exact hS.1 _ | exact hS.2 _ _ | (unfold r_i; (repeat' split) <;> omega) | exact r_zrg _) (by first | omega | assumption | exact hS.1 _ | exact hS.2 _ _ | (unfold r_i; (repeat' split) <;> omega) | exact r_zrg _)) (fun hp17 => (r_aget ga_Md_toX (r_fld (r_loc rfl rfl) gg_Md_toX) (r_loc rfl rfl) (by first | omega | assumption | exact hS.1 _ | exact hS.2 _ _ | (unfold r_i; (repeat' split) <;> omega) | exact r_zrg _) (by first | omega | assumption | exact hS.1 _ | exact hS.2 _ _ | (unfold r_i; (repeat' split) <;> omega) | exact r_zrg _) (by decide))) (fun hp18 => (r_if (r_eq (r_loc rfl rfl) (r_lit ql_121) (by first | omega | assumption | exact hS.1 _ | exact hS.2 _ _ | (unfold r_i; (repeat' split) <;> omega) | exact r_zrg _) (by first | omega | assumption | exact hS.1 _ | exact hS.2 _ _ | (unfold r_i; (repeat' split) <;> omega) | exact r_zrg _)) (fun hp19 => (r_aget ga_Md_toY (r_fld (r_loc rfl rfl) gg_Md_toY) (r_loc rfl rfl) (by first | omega | assumption | exact hS.1 _ | exact hS.2 _ _ | (unfold r_i; (repeat' split) <;> omega) | exact r_zrg _) (by first | omega | assumption | exact hS.1 _ | exact hS.2 _ _ | (unfold r_i; (repeat' split) <;> omega) | exact r_zrg _) (by decide))) (fun hp20 => (r_if (r_eq (r_loc rfl rfl) (r_lit ql_97) (by first | omega | assumption | exact hS.1 _ | exact hS.2 _ _ | (unfold r_i; (repeat' split) <;> omega) | exact r_zrg _) (by first | omega | assumption | exact hS.1 _ | exact hS.2 _ _ | (unfold r_i; (repeat' split) <;> omega) | exact r_zrg _)) (fun hp21 => (r_aget ga_Md_amount (r_fld (r_loc rfl rfl) gg_Md_amount) (r_loc rfl rfl) (by first | omega | assumption | exact hS.1 _ | exact hS.2 _ _ | (unfold r_i; (repeat' split) <;> omega) | exact r_zrg _) (by first | omega | assumption | exact hS.1 _ | exact hS.2 _ _ | (unfold r_i; (repeat' split) <;> omega) | exact r_zrg _) (by decide))) (fun hp22 => (r_aget ga_Md_layer (r_fld (r_loc rfl rfl) gg_Md_layer) (r_loc rfl rfl) (by first | omega | assumption | exact hS.1 _ | exact hS.2 _ _ | (unfold r_i; (repeat' split) <;> omega) | exact r_zrg _) (by first | omega | assumption | exact hS.1 _ | exact hS.2 _ _ | (unfold r_i; (repeat' split) <;> omega) | exact r_zrg _) (by decide)))))))) ?_
    refine r_pret (q_fit_int _) r_le0 ?_
    exact ⟨_, rfl, Or.inr ⟨Classical.not_not.mp hpF0, rfl, rfl⟩⟩
theorem sp_X10_strokes {S : q_Sg} {c w : Nat} (hS : r_ok S) (hK : SOK S.1 24) {z : Int} (hz : rg z) : r_X f_X10_strokes [.ref 47, iv z] (q_en S, c, w) (fun r h2 => ∃ T, h2 = (q_en T, c, w) ∧ r_ok T ∧ r_fr [42, 23] [39, 38, 37, 36, 35, 34] [] S T ∧ T.1 23 = (r_i (0 ≤ z ∧ z < 12) 0 1) ∧ ((r_i (0 ≤ z ∧ z < 12) 0 1) = 0 → r = iv (sI (KL (S.2.1 21) S.1 24 z) 720)) ∧ (¬ (r_i (0 ≤ z ∧ z < 12) 0 1) = 0 → r = iv 0)) := by
  refine r_Xof (r_run (L := [_, _]) ⟨rfl, Nat.le_of_ble_eq_true rfl⟩ rfl ?_)
  unfold b_X10_strokes
  have hzr : (r_i (0 ≤ z ∧ z < 12) 0 1) = 0 → 0 ≤ z ∧ z < 12 := by unfold r_i; (repeat' split) <;> omega
  refine r_seq ?_
  refine r_sifD (r_Dn (r_Dz (r_callG (r_cons (r_loc rfl rfl) (r_cons (r_if (r_bz (r_call (r_cons (r_loc rfl rfl) r_nil) rfl (sp_X10_isLayer (by first | omega | assumption | exact hS.1 _ | exact hS.2 _ _ | (unfold r_i; (repeat' split) <;> omega) | exact r_zrg _ | exact r_okI hS (by unfold r_i; split <;> omega))) rfl)) (fun hp1 => (r_lit ql_0)) (fun hp2 => (r_lit ql_1))) r_nil)) rfl (sp_X10_goesOn (by first | omega | assumption | exact hS.1 _ | exact hS.2 _ _ | (unfold r_i; (repeat' split) <;> omega) | exact r_zrg _ | exact r_okI hS (by unfold r_i; split <;> omega))) rfl))) (fun hp3 => ?_) (fun hp4 => ?_)
  ·
    have hpT := hp3
    have hpT0 := hp3
    refine r_sret (r_lit ql_0) ?_
    refine r_ks (j := 3) ?_
    refine r_pret (q_fit_int _) r_le0 ?_
    exact ⟨_, rfl, _, rfl, r_okI hS (by unfold r_i; split <;> omega), r_frm (r_frI r_fr0) (by decide) (by decide) (by decide), rfl, fun d => absurd d hpT0, fun _ => rfl⟩
  ·
    have hpF := hp4
    have hpF0 := hp4
    have hzz := hzr (Classical.not_not.mp hpF0)
    refine wS_skip ?_
    refine r_k0 ?_
    refine r_seq ?_
    refine r_call0 (r_cons (r_loc rfl rfl) (r_cons (r_loc rfl rfl) r_nil)) rfl (sp_X10_findsStrokes (by first | omega | assumption | exact hS.1 _ | exact hS.2 _ _ | (unfold r_i; (repeat' split) <;> omega) | exact r_zrg _ | exact r_okI hS (by unfold r_i; split <;> omega)) (by first | omega | assumption | exact hS.1 _ | exact hS.2 _ _ | (unfold r_i; (repeat' split) <;> omega) | exact r_zrg _ | exact r_okI hS (by unfold r_i; split <;> omega)) (by first | omega | assumption | exact hS.1 _ | exact hS.2 _ _ | (unfold r_i; (repeat' split) <;> omega) | exact r_zrg _ | exact r_okI hS (by unfold r_i; split <;> omega))) ?_
    rintro _ _ ⟨T1, rfl, hT1, hf1, hn1, hR1⟩
    refine r_k0 ?_
    refine r_sret (r_fld (r_loc rfl rfl) gg_Md_strokes) ?_
    refine r_pret (q_fit_int _) r_le0 ?_
    exact ⟨_, rfl, T1, rfl, hT1, r_frm (r_frt (r_frI (k := 23) r_fr0) hf1) (by decide) (by decide) (by decide), hf1.1 23 (by decide), fun _ => congrArg iv hn1, fun d => absurd (Classical.not_not.mp hpF0) d⟩
theorem sp_X10_plan {S : q_Sg} {c w : Nat} (hS : r_ok S) (hK : SOK S.1 24) (hth : ∀ z, (0 ≤ z ∧ z < 12) → 1 ≤ S.2.1 22 z ∧ S.2.1 22 z ≤ 3) : r_X f_X10_plan [.ref 47] (q_en S, c, w) (fun r h2 => (¬ r_z (((S.1 32 = 114 ∨ S.1 32 = 119) ∨ S.1 32 = 112) ∨ S.1 32 = 102) = 0 ∧ r = iv 0 ∧ h2 = (q_en (q_sI S 23 (r_z (((S.1 32 = 114 ∨ S.1 32 = 119) ∨ S.1 32 = 112) ∨ S.1 32 = 102))), c, w)) ∨ (r_z (((S.1 32 = 114 ∨ S.1 32 = 119) ∨ S.1 32 = 112) ∨ S.1 32 = 102) = 0 ∧ ∃ T, r = iv ((PLN (S.2.1 21) S.1 24 (S.2.1 23) 12).length) ∧ h2 = (q_en T, c, w) ∧ r_ok T ∧ r_fr [44, 43, 42, 38, 37, 35, 34, 32, 31, 23] [40, 39, 38, 37, 36, 35, 34, 31, 30, 29, 28, 27, 26, 25, 24] [] S T ∧ RREP T (PLN (S.2.1 21) S.1 24 (S.2.1 23) 12) (S.2.1 22) ∧ T.1 23 = 0 ∧ T.1 32 = 105 ∧ T.1 35 = 0 ∧ T.1 34 = 0 ∧ T.1 38 = 0 ∧ T.1 37 = 0)) := by
  refine r_Xof (r_run (L := [_, _]) ⟨rfl, Nat.le_of_ble_eq_true rfl⟩ rfl ?_)
  unfold b_X10_plan
  obtain ⟨b, hb⟩ : ∃ b, b = r_z (((S.1 32 = 114 ∨ S.1 32 = 119) ∨ S.1 32 = 112) ∨ S.1 32 = 102) := ⟨_, rfl⟩
  have hbr : rg b := by rw [hb]; exact r_zrg _
  rw [← hb]
  refine r_seq ?_
  refine r_sifD (r_Dn (r_Dz (r_callG (r_cons (r_loc rfl rfl) (r_cons (r_if10 (r_bz (r_call (r_cons (r_loc rfl rfl) r_nil) rfl (sp_X10_isBusy (by first | omega | assumption | exact hS.1 _ | exact hS.2 _ _ | (unfold r_i; (repeat' split) <;> omega) | exact r_zrg _ | exact hbr | exact hT.1 _ | (rw [e22]) | exact hth _ (by omega) | (rw [← hb]; exact hbr))) rfl))) r_nil)) rfl (sp_X10_goesOn (by first | omega | assumption | exact hS.1 _ | exact hS.2 _ _ | (unfold r_i; (repeat' split) <;> omega) | exact r_zrg _ | exact hbr | exact hT.1 _ | (rw [e22]) | exact hth _ (by omega) | (rw [← hb]; exact hbr))) rfl))) (fun hp1 => ?_) (fun hp2 => ?_)
  ·
    have hpT := hp1
    have hpT0 := hp1
    refine r_sret (r_lit ql_0) ?_
    refine r_ks (j := 3) ?_
    refine r_pret (q_fit_int _) r_le0 ?_
    exact ⟨_, rfl, Or.inl ⟨by rw [hb]; exact hpT0, rfl, by rw [hb]⟩⟩
  ·
    have hpF := hp2
    have hpF0 := hp2
    refine wS_skip ?_
    refine r_k0 ?_
    refine r_seq ?_
    refine r_sput (r_loc rfl rfl) (r_lit ql_0) gp_Md_commands ?_
    refine r_k0 ?_
    refine r_seq ?_
    refine r_sput (r_loc rfl rfl) (r_lit ql_0) gp_Md_headX ?_
    refine r_k0 ?_
    refine r_seq ?_
    refine r_sput (r_loc rfl rfl) (r_lit ql_0) gp_Md_headY ?_
    refine r_k0 ?_
    refine r_seq ?_
    refine r_seq ?_
    refine r_sloc (L2 := [_, _]) (r_lit ql_0) rfl rfl ?_
    refine r_k0 ?_
    have hb0 : b = 0 := by have k := Classical.not_not.mp hpF0; rw [← hb] at k; exact k
    refine r_loop (T := Nat × q_Sg) (fun (σ : Nat × q_Sg) => match σ with | (z, T) => z ≤ 12 ∧ r_ok T ∧ r_fr [44, 43, 42, 31, 23] [40, 39, 38, 37, 36, 35, 34, 31, 30, 29, 28, 27, 26, 25, 24] [] S T ∧ RREP T (PLN (S.2.1 21) S.1 24 (S.2.1 23) z) (S.2.1 22) ∧ COK (PLN (S.2.1 21) S.1 24 (S.2.1 23) z) ∧ T.1 43 = hX (PLN (S.2.1 21) S.1 24 (S.2.1 23) z) ∧ T.1 44 = hY (PLN (S.2.1 21) S.1 24 (S.2.1 23) z) ∧ T.1 23 = 0) (fun (σ : Nat × q_Sg) => match σ with | (z, T) => 12 - z) (fun (σ : Nat × q_Sg) => match σ with | (z, T) => [some (.ref 47), some (iv z)]) (fun (σ : Nat × q_Sg) => match σ with | (z, T) => (q_en T, c, w)) (0, q_sI (q_sI (q_sI (q_sI S 23 b) 31 0) 43 0) 44 0) rfl (by rw [hb]) ?_ ?_ ?_
    · exact ⟨Nat.zero_le _, r_okI (r_okI (r_okI (r_okI hS hbr) (by omega)) (by omega)) (by omega), r_frm (r_frI (r_frI (r_frI (r_frI r_fr0)))) (by decide) (by decide) (by decide), ⟨rfl, fun i i0 i1 => absurd i1 (by show ¬ i < ((0 : Nat) : Int); omega)⟩, COK_0, rfl, rfl, hb0⟩
    · (show _ < 1000000); first | omega | (dsimp only; omega)
    · rintro ⟨z, T⟩ hP
      try dsimp only at hP ⊢
      obtain ⟨hz, hT, hf, hcT, hOT, hxT, hyT, h23⟩ := hP
      refine ⟨_, (r_lt (r_loc rfl rfl) (r_lit ql_12) (by first | omega | assumption | exact hS.1 _ | exact hS.2 _ _ | (unfold r_i; (repeat' split) <;> omega) | exact r_zrg _ | exact hbr | exact hT.1 _ | (rw [e22]) | exact hth _ (by omega) | (rw [← hb]; exact hbr)) (by first | omega | assumption | exact hS.1 _ | exact hS.2 _ _ | (unfold r_i; (repeat' split) <;> omega) | exact r_zrg _ | exact hbr | exact hT.1 _ | (rw [e22]) | exact hth _ (by omega) | (rw [← hb]; exact hbr))), fun hp3 => ?_, fun hp4 => ?_⟩
      ·
        refine r_k0 ?_
        refine r_seq ?_
        refine r_sput (r_loc rfl rfl) (r_lit ql_105) (gp_Md_state (by first | omega | assumption | exact hS.1 _ | exact hS.2 _ _ | (unfold r_i; (repeat' split) <;> omega) | exact r_zrg _ | exact hbr | exact hT.1 _ | (rw [e22]) | exact hth _ (by omega) | (rw [← hb]; exact hbr)) (by first | omega | assumption | exact hS.1 _ | exact hS.2 _ _ | (unfold r_i; (repeat' split) <;> omega) | exact r_zrg _ | exact hbr | exact hT.1 _ | (rw [e22]) | exact hth _ (by omega) | (rw [← hb]; exact hbr))) ?_
        refine r_k0 ?_
        refine r_seq ?_
        refine r_sput (r_loc rfl rfl) (r_lit ql_0) gp_Md_next ?_
        refine r_k0 ?_
        refine r_seq ?_
        refine r_sput (r_loc rfl rfl) (r_lit ql_0) (gp_Md_isCut (by first | omega | assumption | exact hS.1 _ | exact hS.2 _ _ | (unfold r_i; (repeat' split) <;> omega) | exact r_zrg _ | exact hbr | exact hT.1 _ | (rw [e22]) | exact hth _ (by omega) | (rw [← hb]; exact hbr)) (by first | omega | assumption | exact hS.1 _ | exact hS.2 _ _ | (unfold r_i; (repeat' split) <;> omega) | exact r_zrg _ | exact hbr | exact hT.1 _ | (rw [e22]) | exact hth _ (by omega) | (rw [← hb]; exact hbr))) ?_
        refine r_k0 ?_
        refine r_seq ?_
        refine r_sput (r_loc rfl rfl) (r_lit ql_0) gp_Md_speed ?_
        refine r_k0 ?_
        refine r_seq ?_
        refine r_sput (r_loc rfl rfl) (r_lit ql_0) gp_Md_went ?_
        refine r_k0 ?_
        refine r_sret (r_fld (r_loc rfl rfl) gg_Md_commands) ?_
        refine r_pret (q_fit_int _) r_le0 ?_
        have hz12 : z = 12 := by omega
        subst hz12
        have hn := hcT.1
        refine ⟨_, rfl, Or.inr ⟨hb0, _, congrArg iv hn, rfl, r_okI (r_okI (r_okI (r_okI (r_okI hT (by omega)) (by omega)) (by omega)) (by omega)) (by omega), r_frm (r_frI (r_frI (r_frI (r_frI (r_frI hf))))) (by decide) (by decide) (by decide), RREP_f (r_frI (k := 37) (r_frI (k := 38) (r_frI (k := 34) (r_frI (k := 35) (r_frI (k := 32) r_fr0))))) (by decide) (by decide) hcT, h23, rfl, rfl, rfl, rfl, rfl⟩⟩
      ·
        have hz1 : (z : Int) < 12 := hp4
        have e21 := hf.2.1 21 (by decide); have e23 := hf.2.1 23 (by decide); have e22 := hf.2.1 22 (by decide)
        have eI : ∀ i, i ≤ 6 → T.1 (24 + i) = S.1 (24 + i) := fun i hi => hf.1 (24 + i) (by simp; omega)
        have hKT : SOK T.1 24 := by
          have k0 := eI 0 (by decide); have k1 := eI 1 (by decide); have k2 := eI 2 (by decide); have k3 := eI 3 (by decide); have k4 := eI 4 (by decide); have k5 := eI 5 (by decide)
          unfold SOK at *
          simp only [Nat.reduceAdd, Nat.add_zero] at *
          rw [k0, k1, k2, k3, k4, k5]; exact hK
        have hlen := PLN_len (a := S.2.1 21) (f := S.1) (b := 24) (pz := S.2.1 23) z
        refine r_call0 (r_cons (r_loc rfl rfl) (r_cons (r_loc rfl rfl) r_nil)) rfl (sp_X10_plansLayer (by first | omega | assumption | exact hS.1 _ | exact hS.2 _ _ | (unfold r_i; (repeat' split) <;> omega) | exact r_zrg _ | exact hbr | exact hT.1 _ | (rw [e22]) | exact hth _ (by omega) | (rw [← hb]; exact hbr)) (by first | omega | assumption | exact hS.1 _ | exact hS.2 _ _ | (unfold r_i; (repeat' split) <;> omega) | exact r_zrg _ | exact hbr | exact hT.1 _ | (rw [e22]) | exact hth _ (by omega) | (rw [← hb]; exact hbr)) (by first | omega | assumption | exact hS.1 _ | exact hS.2 _ _ | (unfold r_i; (repeat' split) <;> omega) | exact r_zrg _ | exact hbr | exact hT.1 _ | (rw [e22]) | exact hth _ (by omega) | (rw [← hb]; exact hbr)) (by first | omega | assumption | exact hS.1 _ | exact hS.2 _ _ | (unfold r_i; (repeat' split) <;> omega) | exact r_zrg _ | exact hbr | exact hT.1 _ | (rw [e22]) | exact hth _ (by omega) | (rw [← hb]; exact hbr)) (by first | omega | assumption | exact hS.1 _ | exact hS.2 _ _ | (unfold r_i; (repeat' split) <;> omega) | exact r_zrg _ | exact hbr | exact hT.1 _ | (rw [e22]) | exact hth _ (by omega) | (rw [← hb]; exact hbr)) (by first | omega | assumption | exact hS.1 _ | exact hS.2 _ _ | (unfold r_i; (repeat' split) <;> omega) | exact r_zrg _ | exact hbr | exact hT.1 _ | (rw [e22]) | exact hth _ (by omega) | (rw [← hb]; exact hbr)) (by first | omega | assumption | exact hS.1 _ | exact hS.2 _ _ | (unfold r_i; (repeat' split) <;> omega) | exact r_zrg _ | exact hbr | exact hT.1 _ | (rw [e22]) | exact hth _ (by omega) | (rw [← hb]; exact hbr)) (by first | omega | assumption | exact hS.1 _ | exact hS.2 _ _ | (unfold r_i; (repeat' split) <;> omega) | exact r_zrg _ | exact hbr | exact hT.1 _ | (rw [e22]) | exact hth _ (by omega) | (rw [← hb]; exact hbr)) (by first | omega | assumption | exact hS.1 _ | exact hS.2 _ _ | (unfold r_i; (repeat' split) <;> omega) | exact r_zrg _ | exact hbr | exact hT.1 _ | (rw [e22]) | exact hth _ (by omega) | (rw [← hb]; exact hbr)) (by first | omega | assumption | exact hS.1 _ | exact hS.2 _ _ | (unfold r_i; (repeat' split) <;> omega) | exact r_zrg _ | exact hbr | exact hT.1 _ | (rw [e22]) | exact hth _ (by omega) | (rw [← hb]; exact hbr))) ?_
        rintro _ _ ⟨T2, rfl, hT2, hf2, hc2, hO2, hx2, hy2⟩
        refine r_l0 ?_
        refine r_sinc (L2 := [_, _]) rfl rfl ?_
        refine r_lend (z + 1, T2) rfl rfl ?_ (by first | omega | (dsimp only; omega))
        try dsimp only
        have hL : (PLN (S.2.1 21) S.1 24 (S.2.1 23) (z + 1)) = lay1 (KL (T.2.1 21) T.1 24 z) (¬ T.2.1 23 z = 0) (T.1 29) z (PLN (S.2.1 21) S.1 24 (S.2.1 23) z) := by
          rw [e21, e23, KL_f (f := T.1) (g := S.1) eI, show T.1 29 = S.1 29 from eI 5 (by decide)]; rfl
        rw [← hL] at hc2 hO2 hx2 hy2
        exact ⟨by omega, hT2, r_frm (r_frt hf hf2) (by decide) (by decide) (by decide), hc2, hO2, hx2, hy2, (hf2.1 23 (by decide)).trans h23⟩
