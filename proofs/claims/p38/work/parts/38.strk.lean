theorem sp_X8_kindOn {S : q_Sg} {c w : Nat} (hS : r_ok S) (hI : KCI S) {al ac z : Int} (ha : 0 ≤ al ∧ al ≤ 12) (hc : 0 ≤ ac ∧ ac < 12) (hz : 0 ≤ z ∧ z < 12) (hk : ¬ S.2.1 4 z = 0)  : r_F f_X8_kindOn [.ref 30, iv al, iv ac, iv z] (q_en S, c, w) (iv ((KL (S.2.1 0) S.1 0 z) al ac)) := by
  refine r_Fof (r_run (L := [_, _, _, _]) ⟨rfl, Nat.le_of_ble_eq_true rfl⟩ rfl ?_)
  unfold b_X8_kindOn
  refine r_sret (r_if (r_bz (r_call (r_cons (r_loc rfl rfl) r_nil) rfl (sp_X9_canBeHalved (by first | omega | assumption | exact hI.1 | exact (r_irg2 (r_irg2 (hS.2 _ _) (by omega)) (r_irg2 (hS.2 _ _) (by omega))) | (unfold r_i; (repeat' split) <;> first | omega | exact (hI.1 _).1 | exact (hI.1 _).2))) rfl)) (fun hp1 => (r_call (r_cons (r_fld (r_loc rfl rfl) gg_Strokes_kinds) (r_cons (r_loc rfl rfl) (r_cons (r_loc rfl rfl) (r_cons (r_loc rfl rfl) r_nil)))) rfl (sp_X3_kindOf (by first | omega | assumption | exact hI.1 | exact (r_irg2 (r_irg2 (hS.2 _ _) (by omega)) (r_irg2 (hS.2 _ _) (by omega))) | (unfold r_i; (repeat' split) <;> first | omega | exact (hI.1 _).1 | exact (hI.1 _).2)) (by first | omega | assumption | exact hI.1 | exact (r_irg2 (r_irg2 (hS.2 _ _) (by omega)) (r_irg2 (hS.2 _ _) (by omega))) | (unfold r_i; (repeat' split) <;> first | omega | exact (hI.1 _).1 | exact (hI.1 _).2)) (by first | omega | assumption | exact hI.1 | exact (r_irg2 (r_irg2 (hS.2 _ _) (by omega)) (r_irg2 (hS.2 _ _) (by omega))) | (unfold r_i; (repeat' split) <;> first | omega | exact (hI.1 _).1 | exact (hI.1 _).2)) (by first | omega | assumption | exact hI.1 | exact (r_irg2 (r_irg2 (hS.2 _ _) (by omega)) (r_irg2 (hS.2 _ _) (by omega))) | (unfold r_i; (repeat' split) <;> first | omega | exact (hI.1 _).1 | exact (hI.1 _).2)) (by first | omega | assumption | exact hI.1 | exact (r_irg2 (r_irg2 (hS.2 _ _) (by omega)) (r_irg2 (hS.2 _ _) (by omega))) | (unfold r_i; (repeat' split) <;> first | omega | exact (hI.1 _).1 | exact (hI.1 _).2))) rfl)) (fun hp2 => (r_call (r_cons (r_fld (r_loc rfl rfl) gg_Strokes_kinds) (r_cons (r_loc rfl rfl) (r_cons (r_loc rfl rfl) (r_cons (r_loc rfl rfl) r_nil)))) rfl (sp_X3_kindOf (by first | omega | assumption | exact hI.1 | exact (r_irg2 (r_irg2 (hS.2 _ _) (by omega)) (r_irg2 (hS.2 _ _) (by omega))) | (unfold r_i; (repeat' split) <;> first | omega | exact (hI.1 _).1 | exact (hI.1 _).2)) (by first | omega | assumption | exact hI.1 | exact (r_irg2 (r_irg2 (hS.2 _ _) (by omega)) (r_irg2 (hS.2 _ _) (by omega))) | (unfold r_i; (repeat' split) <;> first | omega | exact (hI.1 _).1 | exact (hI.1 _).2)) (by first | omega | assumption | exact hI.1 | exact (r_irg2 (r_irg2 (hS.2 _ _) (by omega)) (r_irg2 (hS.2 _ _) (by omega))) | (unfold r_i; (repeat' split) <;> first | omega | exact (hI.1 _).1 | exact (hI.1 _).2)) (by first | omega | assumption | exact hI.1 | exact (r_irg2 (r_irg2 (hS.2 _ _) (by omega)) (r_irg2 (hS.2 _ _) (by omega))) | (unfold r_i; (repeat' split) <;> first | omega | exact (hI.1 _).1 | exact (hI.1 _).2)) (by first | omega | assumption | exact hI.1 | exact (r_irg2 (r_irg2 (hS.2 _ _) (by omega)) (r_irg2 (hS.2 _ _) (by omega))) | (unfold r_i; (repeat' split) <;> first | omega | exact (hI.1 _).1 | exact (hI.1 _).2))) rfl))) ?_
  refine r_pret (q_fit_char (by first | omega | assumption | exact hI.1 | exact (r_irg2 (r_irg2 (hS.2 _ _) (by omega)) (r_irg2 (hS.2 _ _) (by omega))) | (unfold r_i; (repeat' split) <;> first | omega | exact (hI.1 _).1 | exact (hI.1 _).2)) (by first | omega | assumption | exact hI.1 | exact (r_irg2 (r_irg2 (hS.2 _ _) (by omega)) (r_irg2 (hS.2 _ _) (by omega))) | (unfold r_i; (repeat' split) <;> first | omega | exact (hI.1 _).1 | exact (hI.1 _).2))) r_le0 ⟨congrArg Sum.inl ?_, rfl⟩
  refine congrArg iv ?_
  unfold KL
  by_cases h : 0 ≤ al ∧ al < 12
  · rw [r_i1 (show inc al ac z from ⟨h, hc, hz⟩), r_i1 (show inc ac al z from ⟨hc, h, hz⟩), r_i1 h, hI.2 z hz hk al ac h hc, hI.2 z hz hk ac al hc h]
  · rw [r_i0 (show ¬ inc al ac z from fun d => h d.1), r_i0 (show ¬ inc ac al z from fun d => h d.2.1), r_i0 h]
    exact r_ii _ _
theorem sp_X8_add {S : q_Sg} {c w : Nat} (hS : r_ok S) {k f l ac z : Int} (hk : 0 ≤ k ∧ k < 65536) (hf : rg f) (hl : rg l) (ha : rg ac) (hz : 0 ≤ z ∧ z < 12) (hn : 0 ≤ S.1 8 ∧ S.1 8 < 144) : r_G f_X8_add [.ref 30, iv k, iv f, iv l, iv ac, iv z] (q_en S, c, w) .null (q_en (ADDS S 9 8 k f l ac z), c, w) := by
  refine r_Gof (r_run (L := [_, _, _, _, _, _, _]) ⟨rfl, Nat.le_of_ble_eq_true rfl⟩ rfl ?_)
  unfold b_X8_add
  have hn2 : ¬ 144 ≤ S.1 8 := by omega
  refine r_seq ?_
  refine r_sif (r_ge (r_fld (r_loc rfl rfl) gg_Strokes_count) (r_lit ql_144) (by first | omega | assumption | exact hS.1 _ | exact hS.2 _ _ | (show 0 ≤ S.1 8; omega) | (show S.1 8 < ((144 : Nat) : Int); omega)) (by first | omega | assumption | exact hS.1 _ | exact hS.2 _ _ | (show 0 ≤ S.1 8; omega) | (show S.1 8 < ((144 : Nat) : Int); omega))) (fun hp1 => ?_) (fun hp2 => ?_)
  ·
    refine wS_retv ?_
    refine r_ks (j := 2) ?_
    refine r_pretv r_le0 ?_
    exact absurd (by assumption) hn2
  ·
    refine wS_skip ?_
    refine r_k0 ?_
    refine r_seq ?_
    refine r_sloc (L2 := [_, _, _, _, _, _, _]) (r_call (r_cons (r_loc rfl rfl) r_nil) rfl (sp_X9_canBeHalved (by first | omega | assumption | exact hS.1 _ | exact hS.2 _ _ | (show 0 ≤ S.1 8; omega) | (show S.1 8 < ((144 : Nat) : Int); omega))) rfl) rfl rfl ?_
    refine r_k0 ?_
    refine r_seq ?_
    refine r_sput3 (r_fld (r_loc rfl rfl) gg_Strokes_kind) (r_fld (r_loc rfl rfl) gg_Strokes_count) (r_loc rfl rfl) (r_putI ga_Strokes_kind gs_Strokes_kind (by first | omega | assumption | exact hS.1 _ | exact hS.2 _ _ | (show 0 ≤ S.1 8; omega) | (show S.1 8 < ((144 : Nat) : Int); omega)) (by first | omega | assumption | exact hS.1 _ | exact hS.2 _ _ | (show 0 ≤ S.1 8; omega) | (show S.1 8 < ((144 : Nat) : Int); omega)) (by decide) (q_narC (by first | omega | assumption | exact hS.1 _ | exact hS.2 _ _ | (show 0 ≤ S.1 8; omega) | (show S.1 8 < ((144 : Nat) : Int); omega)) (by first | omega | assumption | exact hS.1 _ | exact hS.2 _ _ | (show 0 ≤ S.1 8; omega) | (show S.1 8 < ((144 : Nat) : Int); omega)))) ?_
    refine r_k0 ?_
    refine r_seq ?_
    refine r_sput3 (r_fld (r_loc rfl rfl) gg_Strokes_firstX) (r_fld (r_loc rfl rfl) gg_Strokes_count) (r_if (r_bz (r_loc rfl rfl)) (fun hp3 => (r_loc rfl rfl)) (fun hp4 => (r_loc rfl rfl))) (r_putI ga_Strokes_firstX gs_Strokes_firstX (by first | omega | assumption | exact hS.1 _ | exact hS.2 _ _ | (show 0 ≤ S.1 8; omega) | (show S.1 8 < ((144 : Nat) : Int); omega)) (by first | omega | assumption | exact hS.1 _ | exact hS.2 _ _ | (show 0 ≤ S.1 8; omega) | (show S.1 8 < ((144 : Nat) : Int); omega)) (by decide) q_narI) ?_
    refine r_k0 ?_
    refine r_seq ?_
    refine r_sput3 (r_fld (r_loc rfl rfl) gg_Strokes_firstY) (r_fld (r_loc rfl rfl) gg_Strokes_count) (r_if (r_bz (r_loc rfl rfl)) (fun hp5 => (r_loc rfl rfl)) (fun hp6 => (r_loc rfl rfl))) (r_putI ga_Strokes_firstY gs_Strokes_firstY (by first | omega | assumption | exact hS.1 _ | exact hS.2 _ _ | (show 0 ≤ S.1 8; omega) | (show S.1 8 < ((144 : Nat) : Int); omega)) (by first | omega | assumption | exact hS.1 _ | exact hS.2 _ _ | (show 0 ≤ S.1 8; omega) | (show S.1 8 < ((144 : Nat) : Int); omega)) (by decide) q_narI) ?_
    refine r_k0 ?_
    refine r_seq ?_
    refine r_sput3 (r_fld (r_loc rfl rfl) gg_Strokes_lastX) (r_fld (r_loc rfl rfl) gg_Strokes_count) (r_if (r_bz (r_loc rfl rfl)) (fun hp7 => (r_loc rfl rfl)) (fun hp8 => (r_loc rfl rfl))) (r_putI ga_Strokes_lastX gs_Strokes_lastX (by first | omega | assumption | exact hS.1 _ | exact hS.2 _ _ | (show 0 ≤ S.1 8; omega) | (show S.1 8 < ((144 : Nat) : Int); omega)) (by first | omega | assumption | exact hS.1 _ | exact hS.2 _ _ | (show 0 ≤ S.1 8; omega) | (show S.1 8 < ((144 : Nat) : Int); omega)) (by decide) q_narI) ?_
    refine r_k0 ?_
    refine r_seq ?_
    refine r_sput3 (r_fld (r_loc rfl rfl) gg_Strokes_lastY) (r_fld (r_loc rfl rfl) gg_Strokes_count) (r_if (r_bz (r_loc rfl rfl)) (fun hp9 => (r_loc rfl rfl)) (fun hp10 => (r_loc rfl rfl))) (r_putI ga_Strokes_lastY gs_Strokes_lastY (by first | omega | assumption | exact hS.1 _ | exact hS.2 _ _ | (show 0 ≤ S.1 8; omega) | (show S.1 8 < ((144 : Nat) : Int); omega)) (by first | omega | assumption | exact hS.1 _ | exact hS.2 _ _ | (show 0 ≤ S.1 8; omega) | (show S.1 8 < ((144 : Nat) : Int); omega)) (by decide) q_narI) ?_
    refine r_k0 ?_
    refine r_seq ?_
    refine r_sA1 (r_loc rfl rfl) gg_Strokes_count (r_lit ql_1) r_iadd gp_Strokes_count ?_
    refine r_k0 ?_
    refine wS_retv ?_
    refine r_pretv r_le0 ?_
    exact ⟨rfl, rfl⟩
theorem sp_X8_size {S : q_Sg} {c w : Nat}  : r_F f_X8_size [.ref 30] (q_en S, c, w) (iv (S.1 8)) := by
  refine r_Fof (r_run (L := [_]) ⟨rfl, Nat.le_of_ble_eq_true rfl⟩ rfl ?_)
  unfold b_X8_size
  refine r_sret (r_fld (r_loc rfl rfl) gg_Strokes_count) ?_
  refine r_pret (q_fit_int _) r_le0 ⟨congrArg Sum.inl ?_, rfl⟩
  refine congrArg iv ?_
  rfl
theorem sp_X8_collectRow {S : q_Sg} {c w : Nat} (hS : r_ok S) (hI : KCI S) {kk ac z : Int} (hkk : 0 ≤ kk ∧ kk < 5) (hc : 0 ≤ ac ∧ ac < 12) (hz : 0 ≤ z ∧ z < 12) (hk : ¬ S.2.1 4 z = 0) (h0 : S.1 8 = sI (KL (S.2.1 0) S.1 0 z) (144 * kk + 12 * ac)) (hR : SREC S.2.1 9 z (KL (S.2.1 0) S.1 0 z) (144 * kk + 12 * ac)) : r_X f_X8_collectRow [.ref 30, iv (r_t5 kk), iv ac, iv z] (q_en S, c, w) (fun _ h2 => ∃ T, h2 = (q_en T, c, w) ∧ r_ok T ∧ r_fr [8] [13, 12, 11, 10, 9] [] S T ∧ T.1 8 = sI (KL (S.2.1 0) S.1 0 z) (144 * kk + 12 * ac + 12) ∧ SREC T.2.1 9 z (KL (S.2.1 0) S.1 0 z) (144 * kk + 12 * ac + 12)) := by
  refine r_Xof (r_run (L := [_, _, _, _, _, _, _]) ⟨rfl, Nat.le_of_ble_eq_true rfl⟩ rfl ?_)
  unfold b_X8_collectRow
  refine r_seq ?_
  refine r_sloc (L2 := [_, _, _, _, _, _, _]) (r_lit ql_m1) rfl rfl ?_
  refine r_k0 ?_
  refine r_seq ?_
  refine r_seq ?_
  refine r_sloc (L2 := [_, _, _, _, _, _, _]) (r_lit ql_0) rfl rfl ?_
  refine r_k0 ?_
  refine r_loop (T := Int × Int × q_Sg × Option Value) (fun (σ : Int × Int × q_Sg × Option Value) => match σ with | (t, b, T, o) => (0 ≤ t ∧ t ≤ 13) ∧ r_ok T ∧ r_fr [8] [13, 12, 11, 10, 9] [] S T ∧ ((b = -1 ∧ ∃ m, (m = t ∧ t ≤ 12 ∨ m = 12 ∧ t = 13) ∧ T.1 8 = sI (KL (S.2.1 0) S.1 0 z) (144 * kk + 12 * ac + m) ∧ SREC T.2.1 9 z (KL (S.2.1 0) S.1 0 z) (144 * kk + 12 * ac + m) ∧ (t = 0 ∨ ¬ (KL (S.2.1 0) S.1 0 z) (t - 1) ac = r_t5 kk)) ∨ ((0 ≤ b ∧ b < t ∧ t ≤ 12) ∧ T.1 8 = sI (KL (S.2.1 0) S.1 0 z) (144 * kk + 12 * ac + b) ∧ SREC T.2.1 9 z (KL (S.2.1 0) S.1 0 z) (144 * kk + 12 * ac + b) ∧ STT (KL (S.2.1 0) S.1 0 z) (144 * kk + 12 * ac + b) ∧ ∀ u, b ≤ u → u < t → (KL (S.2.1 0) S.1 0 z) u ac = r_t5 kk))) (fun (σ : Int × Int × q_Sg × Option Value) => match σ with | (t, b, T, o) => (13 - t).toNat) (fun (σ : Int × Int × q_Sg × Option Value) => match σ with | (t, b, T, o) => [some (.ref 30), some (iv (r_t5 kk)), some (iv ac), some (iv z), some (iv b), some (iv t), o]) (fun (σ : Int × Int × q_Sg × Option Value) => match σ with | (t, b, T, o) => (q_en T, c, w)) (0, -1, S, _) rfl rfl ?_ ?_ ?_
  · exact ⟨by omega, hS, r_frm r_fr0 (by decide) (by decide) (by decide), Or.inl ⟨rfl, 0, by omega, by rw [Int.add_zero]; exact h0, by rw [Int.add_zero]; exact hR, Or.inl rfl⟩⟩
  · (show _ < 1000000); first | omega | (dsimp only; omega)
  · rintro ⟨t, b, T, o⟩ hP
    try dsimp only at hP ⊢
    obtain ⟨ht, hT, hf, hP⟩ := hP
    refine ⟨_, (r_le (r_loc rfl rfl) (r_lit ql_12) (by first | omega | assumption | exact r_t5_r _ | exact KL_r _ _ _ _ _ _ | exact r_t5_c _ | exact hbc (by assumption)) (by first | omega | assumption | exact r_t5_r _ | exact KL_r _ _ _ _ _ _ | exact r_t5_c _ | exact hbc (by assumption))), fun hp1 => ?_, fun hp2 => ?_⟩
    ·
      refine r_k0 ?_
      refine wS_retv ?_
      refine r_pretv r_le0 ?_
      rcases hP with ⟨_, m, h1, h2, h3, _⟩ | ⟨h, _⟩
      · have hm : m = 12 := by omega
        subst hm
        exact ⟨_, rfl, T, rfl, hT, hf, h2, h3⟩
      · omega
    ·
      have hIT : KCI T := KCI_f hf (fun k hk => by simp; omega) (by decide) hI
      have hKT : KL (T.2.1 0) T.1 0 z = (KL (S.2.1 0) S.1 0 z) := KL_fr hf (fun k hk => by simp; omega) (by decide) z
      have hkT : ¬ T.2.1 4 z = 0 := by rw [hf.2.1 4 (by decide)]; exact hk
      have hbr : rg b := by rcases hP with ⟨h, _⟩ | ⟨h, _⟩ <;> omega
      have hbc : 0 ≤ b → 0 ≤ T.1 8 ∧ T.1 8 < 144 := fun d => by
        rcases hP with ⟨h, _⟩ | ⟨h, h1, _, h3, _⟩
        · omega
        · have k1 := sI_lt (K := (KL (S.2.1 0) S.1 0 z)) (P := 720) (by omega) (by omega) h3
          have k2 := sI_144 (K := (KL (S.2.1 0) S.1 0 z)) (p := 720) (by omega)
          have k3 := (cnt_b (p := STT (KL (S.2.1 0) S.1 0 z)) (144 * kk + 12 * ac + b).toNat).1
          have k3 : 0 ≤ sI (KL (S.2.1 0) S.1 0 z) (144 * kk + 12 * ac + b) := k3
          omega
      refine r_seq ?_
      refine r_sloc (L2 := [_, _, _, _, _, _, _]) (r_if10 (r_eq (r_call (r_cons (r_loc rfl rfl) (r_cons (r_loc rfl rfl) (r_cons (r_loc rfl rfl) (r_cons (r_loc rfl rfl) r_nil)))) rfl (sp_X8_kindOn (by first | omega | assumption | exact r_t5_r _ | exact KL_r _ _ _ _ _ _ | exact r_t5_c _ | exact hbc (by assumption)) (by first | omega | assumption | exact r_t5_r _ | exact KL_r _ _ _ _ _ _ | exact r_t5_c _ | exact hbc (by assumption)) (by first | omega | assumption | exact r_t5_r _ | exact KL_r _ _ _ _ _ _ | exact r_t5_c _ | exact hbc (by assumption)) (by first | omega | assumption | exact r_t5_r _ | exact KL_r _ _ _ _ _ _ | exact r_t5_c _ | exact hbc (by assumption)) (by first | omega | assumption | exact r_t5_r _ | exact KL_r _ _ _ _ _ _ | exact r_t5_c _ | exact hbc (by assumption)) (by first | omega | assumption | exact r_t5_r _ | exact KL_r _ _ _ _ _ _ | exact r_t5_c _ | exact hbc (by assumption))) rfl) (r_loc rfl rfl) (by first | omega | assumption | exact r_t5_r _ | exact KL_r _ _ _ _ _ _ | exact r_t5_c _ | exact hbc (by assumption)) (by first | omega | assumption | exact r_t5_r _ | exact KL_r _ _ _ _ _ _ | exact r_t5_c _ | exact hbc (by assumption)))) rfl rfl ?_
      refine r_k0 ?_
      refine r_sif (r_and (r_bz (r_loc rfl rfl)) (fun hp3 => (r_z_lt (r_loc rfl rfl) (by first | omega | assumption | exact r_t5_r _ | exact KL_r _ _ _ _ _ _ | exact r_t5_c _ | exact hbc (by assumption))))) (fun hp4 => ?_) (fun hp5 => ?_)
      ·
        have hpT := hp4
        have hpT0 := hp4
        refine r_sloc (L2 := [_, _, _, _, _, _, _]) (r_loc rfl rfl) rfl rfl ?_
        refine r_l0 ?_
        refine r_sinc (L2 := [_, _, _, _, _, _, _]) rfl rfl ?_
        refine r_lend (t + 1, t, T, _) rfl rfl ?_ (by first | omega | (dsimp only; omega))
        try dsimp only
        obtain ⟨c1, c2⟩ := hpT0
        rw [hKT] at c1
        have ht12 : t < 12 := by
          by_cases d : t < 12
          · exact d
          · exact absurd c1 (KL_o (by omega))
        rcases hP with ⟨hb, m, h1, h2, h3, h4⟩ | ⟨h, _⟩
        · have hm : m = t := by omega
          rw [hm] at h2 h3
          refine ⟨by omega, hT, hf, Or.inr ⟨by omega, h2, h3, (STT_at (by omega) hc (by omega)).mpr ⟨c1, ?_⟩, fun u u0 u1 => by rw [show u = t by omega]; exact c1⟩⟩
          rcases h4 with h4 | h4
          · exact KL_o (by omega)
          · exact h4
        · omega
      ·
        have hpF := hp5
        have hpF0 := hp5
        refine r_sif (r_and (r_not (r_bz (r_loc rfl rfl))) (fun hp6 => (r_z_ge (r_loc rfl rfl) (by first | omega | assumption | exact r_t5_r _ | exact KL_r _ _ _ _ _ _ | exact r_t5_c _ | exact hbc (by assumption))))) (fun hp7 => ?_) (fun hp8 => ?_)
        ·
          have hpT := hp7
          have hpT1 := hp7
          refine r_seq ?_
          refine r_scallG (r_cons (r_loc rfl rfl) (r_cons (r_loc rfl rfl) (r_cons (r_loc rfl rfl) (r_cons (r_sub (r_loc rfl rfl) (r_lit ql_1)) (r_cons (r_loc rfl rfl) (r_cons (r_loc rfl rfl) r_nil)))))) rfl (sp_X8_add (by first | omega | assumption | exact r_t5_r _ | exact KL_r _ _ _ _ _ _ | exact r_t5_c _ | exact hbc (by assumption)) (by first | omega | assumption | exact r_t5_r _ | exact KL_r _ _ _ _ _ _ | exact r_t5_c _ | exact hbc (by assumption)) (by first | omega | assumption | exact r_t5_r _ | exact KL_r _ _ _ _ _ _ | exact r_t5_c _ | exact hbc (by assumption)) (by first | omega | assumption | exact r_t5_r _ | exact KL_r _ _ _ _ _ _ | exact r_t5_c _ | exact hbc (by assumption)) (by first | omega | assumption | exact r_t5_r _ | exact KL_r _ _ _ _ _ _ | exact r_t5_c _ | exact hbc (by assumption)) (by first | omega | assumption | exact r_t5_r _ | exact KL_r _ _ _ _ _ _ | exact r_t5_c _ | exact hbc (by assumption)) (by first | omega | assumption | exact r_t5_r _ | exact KL_r _ _ _ _ _ _ | exact r_t5_c _ | exact hbc (by assumption))) ?_
          refine r_k0 ?_
          refine r_sloc (L2 := [_, _, _, _, _, _, _]) (r_lit ql_m1) rfl rfl ?_
          refine r_l0 ?_
          refine r_sinc (L2 := [_, _, _, _, _, _, _]) rfl rfl ?_
          refine r_lend (t + 1, -1, ADDS T 9 8 (r_t5 kk) b (t - 1) ac z, _) rfl rfl ?_ (by first | omega | (dsimp only; omega))
          try dsimp only
          obtain ⟨c1, c2⟩ := hpT1
          rw [hKT] at c1
          rcases hP with ⟨h, _⟩ | ⟨hb, h2, h3, h4, h5⟩
          · omega
          · have hse : t - 1 = sE (KL (S.2.1 0) S.1 0 z) (144 * kk + 12 * ac + b) := (sE_e (by omega) hc (by omega) (by omega) (fun u u0 u1 => h5 u u0 (by omega)) (by rw [show t - 1 + 1 = t by omega]; exact c1)).symm
            have hw := SREC_w (S := T) (n := 8) (k := r_t5 kk) (f := b) (l := t - 1) (by omega) hc (by omega) h3 h2 rfl rfl hse
            have hw2 := SREC_run (by omega) hc (e := t) (by omega) hw h5
            have hi := sI_run (by omega) hc (by omega) h4 (t - 1 - b).toNat (by omega) (fun u u0 u1 => h5 u u0 (by omega))
            rw [show 144 * kk + 12 * ac + (b + ((t - 1 - b).toNat : Int)) + 1 = 144 * kk + 12 * ac + t by omega] at hi
            have hn' : (ADDS T 9 8 (r_t5 kk) b (t - 1) ac z).1 8 = sI (KL (S.2.1 0) S.1 0 z) (144 * kk + 12 * ac + t) := by rw [ADDS_n, h2, hi]
            have hq := hbc (by omega)
            refine ⟨by omega, ADDS_ok hT (r_t5_r _) (by omega) (by omega) (by omega) (by omega), r_frm (r_frt hf ADDS_fr) (by decide) (by decide) (by decide), Or.inl ⟨rfl, ?_⟩⟩
            by_cases d : t = 12
            · exact ⟨12, by omega, by rw [hn', d], by rw [show 144 * kk + 12 * ac + 12 = 144 * kk + 12 * ac + t by omega]; exact hw2, Or.inr (by rw [show t + 1 - 1 = t by omega]; exact c1)⟩
            · have hns : ¬ STT (KL (S.2.1 0) S.1 0 z) (144 * kk + 12 * ac + t) := fun s => c1 ((STT_at (by omega) hc (by omega)).mp s).1
              exact ⟨t + 1, by omega, by rw [hn', ← Int.add_assoc, sI_f (by omega) hns], by rw [← Int.add_assoc]; exact SREC_n hw2 hns, Or.inr (by rw [show t + 1 - 1 = t by omega]; exact c1)⟩
        ·
          have hpF := hp8
          have hpF1 := hp8
          refine wS_skip ?_
          refine r_l0 ?_
          refine r_sinc (L2 := [_, _, _, _, _, _, _]) rfl rfl ?_
          refine r_lend (t + 1, b, T, _) rfl rfl ?_ (by first | omega | (dsimp only; omega))
          try dsimp only
          rw [hKT] at hpF0 hpF1
          by_cases c1 : (KL (S.2.1 0) S.1 0 z) t ac = r_t5 kk
          · have ht12 : t < 12 := by
              by_cases d : t < 12
              · exact d
              · exact absurd c1 (KL_o (by omega))
            rcases hP with ⟨hb, _⟩ | ⟨hb, h2, h3, h4, h5⟩
            · exact absurd ⟨c1, by omega⟩ hpF0
            · refine ⟨by omega, hT, hf, Or.inr ⟨by omega, h2, h3, h4, fun u u0 u1 => ?_⟩⟩
              by_cases d : u = t
              · rw [d]; exact c1
              · exact h5 u u0 (by omega)
          · rcases hP with ⟨hb, m, h1, h2, h3, h4⟩ | ⟨hb, _⟩
            · refine ⟨by omega, hT, hf, Or.inl ⟨hb, ?_⟩⟩
              by_cases d : t = 12
              · exact ⟨12, by omega, by rw [h2, show m = 12 by omega], by rw [show 144 * kk + 12 * ac + 12 = 144 * kk + 12 * ac + m by omega]; exact h3, Or.inr (by rw [show t + 1 - 1 = t by omega]; exact c1)⟩
              · have hm : m = t := by omega
                rw [hm] at h2 h3
                have hns : ¬ STT (KL (S.2.1 0) S.1 0 z) (144 * kk + 12 * ac + t) := fun s => c1 ((STT_at (by omega) hc (by omega)).mp s).1
                exact ⟨t + 1, by omega, by rw [h2, ← Int.add_assoc, sI_f (by omega) hns], by rw [← Int.add_assoc]; exact SREC_n h3 hns, Or.inr (by rw [show t + 1 - 1 = t by omega]; exact c1)⟩
            · exact absurd ⟨c1, hb.1⟩ hpF1
theorem sp_X8_collect {S : q_Sg} {c w : Nat} (hS : r_ok S) (hI : KCI S) {z : Int} (hz : 0 ≤ z ∧ z < 12) (hk : ¬ S.2.1 4 z = 0)  : r_X f_X8_collect [.ref 30, iv z] (q_en S, c, w) (fun _ h2 => ∃ T, h2 = (q_en T, c, w) ∧ r_ok T ∧ r_fr [8] [13, 12, 11, 10, 9] [] S T ∧ T.1 8 = sI (KL (S.2.1 0) S.1 0 z) 720 ∧ SREC T.2.1 9 z (KL (S.2.1 0) S.1 0 z) 720) := by
  refine r_Xof (r_run (L := [_, _, _, _]) ⟨rfl, Nat.le_of_ble_eq_true rfl⟩ rfl ?_)
  unfold b_X8_collect
  refine r_seq ?_
  refine r_sput (r_loc rfl rfl) (r_lit ql_0) gp_Strokes_count ?_
  refine r_k0 ?_
  refine r_seq ?_
  refine r_seq ?_
  refine r_sloc (L2 := [_, _, _, _]) (r_lit ql_0) rfl rfl ?_
  refine r_k0 ?_
  refine r_loop (T := Int × q_Sg × Option Value) (fun (σ : Int × q_Sg × Option Value) => match σ with | (kk, T, o) => (0 ≤ kk ∧ kk ≤ 5) ∧ r_ok T ∧ r_fr [8] [13, 12, 11, 10, 9] [] S T ∧ T.1 8 = sI (KL (S.2.1 0) S.1 0 z) (144 * kk) ∧ SREC T.2.1 9 z (KL (S.2.1 0) S.1 0 z) (144 * kk)) (fun (σ : Int × q_Sg × Option Value) => match σ with | (kk, T, o) => (5 - kk).toNat) (fun (σ : Int × q_Sg × Option Value) => match σ with | (kk, T, o) => [some (.ref 30), some (iv z), some (iv kk), o]) (fun (σ : Int × q_Sg × Option Value) => match σ with | (kk, T, o) => (q_en T, c, w)) (0, q_sI S 8 0, _) rfl rfl ?_ ?_ ?_
  · exact ⟨by omega, r_okI hS (by omega), r_frm (r_frI r_fr0) (by decide) (by decide) (by decide), rfl, fun p h0 h1 => by omega⟩
  · (show _ < 1000000); first | omega | (dsimp only; omega)
  · rintro ⟨kk, T, o⟩ hP
    try dsimp only at hP ⊢
    obtain ⟨hkk, hT, hf, hn, hR⟩ := hP
    refine ⟨_, (r_lt (r_loc rfl rfl) (r_lenR5 r_litr) (by first | omega | assumption | (rw [hKT]; assumption)) (by first | omega | assumption | (rw [hKT]; assumption))), fun hp1 => ?_, fun hp2 => ?_⟩
    ·
      refine r_k0 ?_
      refine wS_retv ?_
      refine r_pretv r_le0 ?_
      have hm : kk = 5 := by omega
      subst hm
      exact ⟨_, rfl, T, rfl, hT, hf, hn, hR⟩
    ·
      refine r_seq ?_
      refine r_sloc (L2 := [_, _, _, _]) (r_lit ql_0) rfl rfl ?_
      refine r_k0 ?_
      refine r_loop (T := Int × q_Sg) (fun (σ : Int × q_Sg) => match σ with | (ac, T) => (0 ≤ ac ∧ ac ≤ 12) ∧ r_ok T ∧ r_fr [8] [13, 12, 11, 10, 9] [] S T ∧ T.1 8 = sI (KL (S.2.1 0) S.1 0 z) (144 * kk + 12 * ac) ∧ SREC T.2.1 9 z (KL (S.2.1 0) S.1 0 z) (144 * kk + 12 * ac)) (fun (σ : Int × q_Sg) => match σ with | (ac, T) => (12 - ac).toNat) (fun (σ : Int × q_Sg) => match σ with | (ac, T) => [some (.ref 30), some (iv z), some (iv kk), some (iv ac)]) (fun (σ : Int × q_Sg) => match σ with | (ac, T) => (q_en T, c, w)) (0, T) rfl rfl ?_ ?_ ?_
      · exact ⟨by omega, hT, hf, by rw [hn]; congr 1; omega, by rw [show 144 * kk + 12 * 0 = 144 * kk by omega]; exact hR⟩
      · (show _ < 1000000); first | omega | (dsimp only; omega)
      · rintro ⟨ac, T⟩ hP
        try dsimp only at hP ⊢
        obtain ⟨hac, hT, hf, hn, hR⟩ := hP
        refine ⟨_, (r_lt (r_loc rfl rfl) (r_lit ql_12) (by first | omega | assumption | (rw [hKT]; assumption)) (by first | omega | assumption | (rw [hKT]; assumption))), fun hp3 => ?_, fun hp4 => ?_⟩
        ·
          refine r_l0 ?_
          refine r_sinc (L2 := [_, _, _, _]) rfl rfl ?_
          refine r_lend (kk + 1, T, _) rfl rfl ?_ (by first | omega | (dsimp only; omega))
          try dsimp only
          exact ⟨by omega, hT, hf, by rw [show 144 * (kk + 1) = 144 * kk + 12 * ac by omega]; exact hn, by rw [show 144 * (kk + 1) = 144 * kk + 12 * ac by omega]; exact hR⟩
        ·
          have hIT : KCI T := KCI_f hf (fun k hk => by simp; omega) (by decide) hI
          have hKT : KL (T.2.1 0) T.1 0 z = (KL (S.2.1 0) S.1 0 z) := KL_fr hf (fun k hk => by simp; omega) (by decide) z
          have hkT : ¬ T.2.1 4 z = 0 := by rw [hf.2.1 4 (by decide)]; exact hk
          refine r_call0 (r_cons (r_loc rfl rfl) (r_cons (r_ro5 r_litr (r_loc rfl rfl) (by first | omega | assumption | (rw [hKT]; assumption)) (by first | omega | assumption | (rw [hKT]; assumption))) (r_cons (r_loc rfl rfl) (r_cons (r_loc rfl rfl) r_nil)))) rfl (sp_X8_collectRow (by first | omega | assumption | (rw [hKT]; assumption)) (by first | omega | assumption | (rw [hKT]; assumption)) (by first | omega | assumption | (rw [hKT]; assumption)) (by first | omega | assumption | (rw [hKT]; assumption)) (by first | omega | assumption | (rw [hKT]; assumption)) (by first | omega | assumption | (rw [hKT]; assumption)) (by first | omega | assumption | (rw [hKT]; assumption)) (by first | omega | assumption | (rw [hKT]; assumption))) ?_
          rintro _ _ ⟨T1, rfl, hT1, hf1, hn1, hR1⟩
          refine r_l0 ?_
          refine r_sinc (L2 := [_, _, _, _]) rfl rfl ?_
          refine r_lend (ac + 1, T1) rfl rfl ?_ (by first | omega | (dsimp only; omega))
          try dsimp only
          rw [hKT] at hn1 hR1
          exact ⟨by omega, hT1, r_frm (r_frt hf hf1) (by decide) (by decide) (by decide), by rw [show 144 * kk + 12 * (ac + 1) = 144 * kk + 12 * ac + 12 by omega]; exact hn1, by rw [show 144 * kk + 12 * (ac + 1) = 144 * kk + 12 * ac + 12 by omega]; exact hR1⟩
