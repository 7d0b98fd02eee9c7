theorem sp_X10_kindAlong {S : q_Sg} {c w : Nat} (hS : r_ok S) {al ac z : Int} (ha : -1 ≤ al ∧ al ≤ 12) (hc : 0 ≤ ac ∧ ac < 12) (hz : 0 ≤ z ∧ z < 12) (hA : ∀ u v, (0 ≤ u ∧ u < 12) → (0 ≤ v ∧ v < 12) → S.2.1 39 (12 * v + u) = KND (S.2.1 21) S.1 24 u v z)  : r_F f_X10_kindAlong [.ref 47, iv z, iv al, iv ac] (q_en S, c, w) (iv ((KL (S.2.1 21) S.1 24 z) al ac)) := by
  refine r_Fof (r_run (L := [_, _, _, _]) ⟨rfl, Nat.le_of_ble_eq_true rfl⟩ rfl ?_)
  unfold b_X10_kindAlong
  have hq : r_i (0 ≤ al ∧ al ≤ 11) (r_i (z % 2 = 0) (S.2.1 39 (12 * ac + al)) (S.2.1 39 (12 * al + ac))) 46 = KL (S.2.1 21) S.1 24 z al ac := by
    unfold KL
    by_cases h : 0 ≤ al ∧ al < 12
    · rw [r_i1 (show 0 ≤ al ∧ al ≤ 11 by omega), r_i1 h, hA al ac h hc, hA ac al hc h]
    · rw [r_i0 (show ¬ (0 ≤ al ∧ al ≤ 11) by omega), r_i0 h]
  refine r_sret (r_if (r_bz (r_call (r_cons (r_loc rfl rfl) (r_cons (r_lit ql_0) (r_cons (r_lit ql_11) r_nil))) rfl (sp_X10_in (by first | omega | assumption | exact hS.2 _ _ | (rw [hq]; exact (KL_r2 _ _ _ _ _ _).1) | (rw [hq]; exact (KL_r2 _ _ _ _ _ _).2)) (by first | omega | assumption | exact hS.2 _ _ | (rw [hq]; exact (KL_r2 _ _ _ _ _ _).1) | (rw [hq]; exact (KL_r2 _ _ _ _ _ _).2)) (by first | omega | assumption | exact hS.2 _ _ | (rw [hq]; exact (KL_r2 _ _ _ _ _ _).1) | (rw [hq]; exact (KL_r2 _ _ _ _ _ _).2))) rfl)) (fun hp1 => (r_if (r_z_eq (r_rem (r_loc rfl rfl) (r_lit ql_2) (by first | omega | assumption | exact hS.2 _ _ | (rw [hq]; exact (KL_r2 _ _ _ _ _ _).1) | (rw [hq]; exact (KL_r2 _ _ _ _ _ _).2)) (by first | omega | assumption | exact hS.2 _ _ | (rw [hq]; exact (KL_r2 _ _ _ _ _ _).1) | (rw [hq]; exact (KL_r2 _ _ _ _ _ _).2)) (by first | omega | assumption | exact hS.2 _ _ | (rw [hq]; exact (KL_r2 _ _ _ _ _ _).1) | (rw [hq]; exact (KL_r2 _ _ _ _ _ _).2)) (by first | omega | assumption | exact hS.2 _ _ | (rw [hq]; exact (KL_r2 _ _ _ _ _ _).1) | (rw [hq]; exact (KL_r2 _ _ _ _ _ _).2))) (by first | omega | assumption | exact hS.2 _ _ | (rw [hq]; exact (KL_r2 _ _ _ _ _ _).1) | (rw [hq]; exact (KL_r2 _ _ _ _ _ _).2))) (fun hp2 => (r_aget ga_Md_kinds (r_fld (r_loc rfl rfl) gg_Md_kinds) (r_add (r_mul (r_lit ql_12) (r_loc rfl rfl)) (r_loc rfl rfl)) (by first | omega | assumption | exact hS.2 _ _ | (rw [hq]; exact (KL_r2 _ _ _ _ _ _).1) | (rw [hq]; exact (KL_r2 _ _ _ _ _ _).2)) (by first | omega | assumption | exact hS.2 _ _ | (rw [hq]; exact (KL_r2 _ _ _ _ _ _).1) | (rw [hq]; exact (KL_r2 _ _ _ _ _ _).2)) (by decide))) (fun hp3 => (r_aget ga_Md_kinds (r_fld (r_loc rfl rfl) gg_Md_kinds) (r_add (r_mul (r_lit ql_12) (r_loc rfl rfl)) (r_loc rfl rfl)) (by first | omega | assumption | exact hS.2 _ _ | (rw [hq]; exact (KL_r2 _ _ _ _ _ _).1) | (rw [hq]; exact (KL_r2 _ _ _ _ _ _).2)) (by first | omega | assumption | exact hS.2 _ _ | (rw [hq]; exact (KL_r2 _ _ _ _ _ _).1) | (rw [hq]; exact (KL_r2 _ _ _ _ _ _).2)) (by decide))))) (fun hp4 => (r_lit ql_46))) ?_
  refine r_pret (q_fit_char (by first | omega | assumption | exact hS.2 _ _ | (rw [hq]; exact (KL_r2 _ _ _ _ _ _).1) | (rw [hq]; exact (KL_r2 _ _ _ _ _ _).2)) (by first | omega | assumption | exact hS.2 _ _ | (rw [hq]; exact (KL_r2 _ _ _ _ _ _).1) | (rw [hq]; exact (KL_r2 _ _ _ _ _ _).2))) r_le0 ⟨congrArg Sum.inl ?_, rfl⟩
  refine congrArg iv ?_
  exact hq
theorem sp_X10_cellsOf {S : q_Sg} {c w : Nat} (hS : r_ok S) {i : Int} (hi : 0 ≤ i ∧ i < 144) : r_F f_X10_cellsOf [.ref 47, iv i] (q_en S, c, w) (iv (S.2.1 37 i - S.2.1 35 i + S.2.1 38 i - S.2.1 36 i + 1)) := by
  refine r_Fof (r_run (L := [_, _]) ⟨rfl, Nat.le_of_ble_eq_true rfl⟩ rfl ?_)
  unfold b_X10_cellsOf
  refine r_sret (r_add (r_sub (r_add (r_sub (r_aget ga_Md_endX (r_fld (r_loc rfl rfl) gg_Md_endX) (r_loc rfl rfl) (by first | omega | assumption | exact r_zrg _ | exact hS.1 _ | exact hS.2 _ _ | exact stg_b hS _ _ | exact r_irg (by first | assumption | omega | exact hS.1 _ | exact hS.2 _ _ | exact stg_b hS _ _) (by first | assumption | omega | exact hS.1 _ | exact hS.2 _ _)) (by first | omega | assumption | exact r_zrg _ | exact hS.1 _ | exact hS.2 _ _ | exact stg_b hS _ _ | exact r_irg (by first | assumption | omega | exact hS.1 _ | exact hS.2 _ _ | exact stg_b hS _ _) (by first | assumption | omega | exact hS.1 _ | exact hS.2 _ _)) (by decide)) (r_aget ga_Md_beginX (r_fld (r_loc rfl rfl) gg_Md_beginX) (r_loc rfl rfl) (by first | omega | assumption | exact r_zrg _ | exact hS.1 _ | exact hS.2 _ _ | exact stg_b hS _ _ | exact r_irg (by first | assumption | omega | exact hS.1 _ | exact hS.2 _ _ | exact stg_b hS _ _) (by first | assumption | omega | exact hS.1 _ | exact hS.2 _ _)) (by first | omega | assumption | exact r_zrg _ | exact hS.1 _ | exact hS.2 _ _ | exact stg_b hS _ _ | exact r_irg (by first | assumption | omega | exact hS.1 _ | exact hS.2 _ _ | exact stg_b hS _ _) (by first | assumption | omega | exact hS.1 _ | exact hS.2 _ _)) (by decide))) (r_aget ga_Md_endY (r_fld (r_loc rfl rfl) gg_Md_endY) (r_loc rfl rfl) (by first | omega | assumption | exact r_zrg _ | exact hS.1 _ | exact hS.2 _ _ | exact stg_b hS _ _ | exact r_irg (by first | assumption | omega | exact hS.1 _ | exact hS.2 _ _ | exact stg_b hS _ _) (by first | assumption | omega | exact hS.1 _ | exact hS.2 _ _)) (by first | omega | assumption | exact r_zrg _ | exact hS.1 _ | exact hS.2 _ _ | exact stg_b hS _ _ | exact r_irg (by first | assumption | omega | exact hS.1 _ | exact hS.2 _ _ | exact stg_b hS _ _) (by first | assumption | omega | exact hS.1 _ | exact hS.2 _ _)) (by decide))) (r_aget ga_Md_beginY (r_fld (r_loc rfl rfl) gg_Md_beginY) (r_loc rfl rfl) (by first | omega | assumption | exact r_zrg _ | exact hS.1 _ | exact hS.2 _ _ | exact stg_b hS _ _ | exact r_irg (by first | assumption | omega | exact hS.1 _ | exact hS.2 _ _ | exact stg_b hS _ _) (by first | assumption | omega | exact hS.1 _ | exact hS.2 _ _)) (by first | omega | assumption | exact r_zrg _ | exact hS.1 _ | exact hS.2 _ _ | exact stg_b hS _ _ | exact r_irg (by first | assumption | omega | exact hS.1 _ | exact hS.2 _ _ | exact stg_b hS _ _) (by first | assumption | omega | exact hS.1 _ | exact hS.2 _ _)) (by decide))) (r_lit ql_1)) ?_
  refine r_pret (q_fit_int _) r_le0 ⟨congrArg Sum.inl ?_, rfl⟩
  refine congrArg iv ?_
  rfl
theorem sp_X10_findsStroke {S : q_Sg} {c w : Nat} (hS : r_ok S) {kk ac al z : Int} (hkk : 0 ≤ kk ∧ kk < 5) (ha : 0 ≤ al ∧ al < 12) (hc : 0 ≤ ac ∧ ac < 12) (hz : 0 ≤ z ∧ z < 12) (hA : ∀ u v, (0 ≤ u ∧ u < 12) → (0 ≤ v ∧ v < 12) → S.2.1 39 (12 * v + u) = KND (S.2.1 21) S.1 24 u v z) (h0 : S.1 42 = sI (KL (S.2.1 21) S.1 24 z) (144 * kk + 12 * ac + al)) (hR : SREC S.2.1 34 z (KL (S.2.1 21) S.1 24 z) (144 * kk + 12 * ac + al)) : r_X f_X10_findsStroke [.ref 47, iv z, iv (r_t5 kk), iv al, iv ac] (q_en S, c, w) (fun _ h2 => ∃ T, h2 = (q_en T, c, w) ∧ r_ok T ∧ r_fr [42] [38, 37, 36, 35, 34] [] S T ∧ T.1 42 = sI (KL (S.2.1 21) S.1 24 z) (144 * kk + 12 * ac + al + 1) ∧ SREC T.2.1 34 z (KL (S.2.1 21) S.1 24 z) (144 * kk + 12 * ac + al + 1)) := by
  refine r_Xof (r_run (L := [_, _, _, _, _, _, _]) ⟨rfl, Nat.le_of_ble_eq_true rfl⟩ rfl ?_)
  unfold b_X10_findsStroke
  have hb : (KL (S.2.1 21) S.1 24 z) al ac = r_t5 kk ∧ ¬ (KL (S.2.1 21) S.1 24 z) (al - 1) ac = r_t5 kk → 0 ≤ S.1 42 ∧ S.1 42 < ((144 : Nat) : Int) := fun s => by
    have s := (STT_at (K := (KL (S.2.1 21) S.1 24 z)) (kk := kk) (by omega) hc ha).mpr s
    have k1 := sI_lt (K := (KL (S.2.1 21) S.1 24 z)) (P := 720) (by omega) (by omega) s
    have k2 := sI_144 (K := (KL (S.2.1 21) S.1 24 z)) (p := 720) (by omega)
    have k3 := (cnt_b (p := STT (KL (S.2.1 21) S.1 24 z)) (144 * kk + 12 * ac + al).toNat).1
    have k3 : 0 ≤ sI (KL (S.2.1 21) S.1 24 z) (144 * kk + 12 * ac + al) := k3
    omega
  refine r_seq ?_
  refine r_sif (r_or (r_ne (r_call (r_cons (r_loc rfl rfl) (r_cons (r_loc rfl rfl) (r_cons (r_loc rfl rfl) (r_cons (r_loc rfl rfl) r_nil)))) rfl (sp_X10_kindAlong (by first | omega | assumption | exact r_t5_r _ | exact KL_r _ _ _ _ _ _ | exact (r_t5_c _).1 | exact (r_t5_c _).2 | exact hS.1 _ | (show 0 ≤ S.1 42; exact hb.1) | (show S.1 42 < ((144 : Nat) : Int); exact hb.2)) (by first | omega | assumption | exact r_t5_r _ | exact KL_r _ _ _ _ _ _ | exact (r_t5_c _).1 | exact (r_t5_c _).2 | exact hS.1 _ | (show 0 ≤ S.1 42; exact hb.1) | (show S.1 42 < ((144 : Nat) : Int); exact hb.2)) (by first | omega | assumption | exact r_t5_r _ | exact KL_r _ _ _ _ _ _ | exact (r_t5_c _).1 | exact (r_t5_c _).2 | exact hS.1 _ | (show 0 ≤ S.1 42; exact hb.1) | (show S.1 42 < ((144 : Nat) : Int); exact hb.2)) (by first | omega | assumption | exact r_t5_r _ | exact KL_r _ _ _ _ _ _ | exact (r_t5_c _).1 | exact (r_t5_c _).2 | exact hS.1 _ | (show 0 ≤ S.1 42; exact hb.1) | (show S.1 42 < ((144 : Nat) : Int); exact hb.2)) (by first | omega | assumption | exact r_t5_r _ | exact KL_r _ _ _ _ _ _ | exact (r_t5_c _).1 | exact (r_t5_c _).2 | exact hS.1 _ | (show 0 ≤ S.1 42; exact hb.1) | (show S.1 42 < ((144 : Nat) : Int); exact hb.2))) rfl) (r_loc rfl rfl) (by first | omega | assumption | exact r_t5_r _ | exact KL_r _ _ _ _ _ _ | exact (r_t5_c _).1 | exact (r_t5_c _).2 | exact hS.1 _ | (show 0 ≤ S.1 42; exact hb.1) | (show S.1 42 < ((144 : Nat) : Int); exact hb.2)) (by first | omega | assumption | exact r_t5_r _ | exact KL_r _ _ _ _ _ _ | exact (r_t5_c _).1 | exact (r_t5_c _).2 | exact hS.1 _ | (show 0 ≤ S.1 42; exact hb.1) | (show S.1 42 < ((144 : Nat) : Int); exact hb.2))) (fun hp1 => (r_eq (r_call (r_cons (r_loc rfl rfl) (r_cons (r_loc rfl rfl) (r_cons (r_sub (r_loc rfl rfl) (r_lit ql_1)) (r_cons (r_loc rfl rfl) r_nil)))) rfl (sp_X10_kindAlong (by first | omega | assumption | exact r_t5_r _ | exact KL_r _ _ _ _ _ _ | exact (r_t5_c _).1 | exact (r_t5_c _).2 | exact hS.1 _ | (show 0 ≤ S.1 42; exact hb.1) | (show S.1 42 < ((144 : Nat) : Int); exact hb.2)) (by first | omega | assumption | exact r_t5_r _ | exact KL_r _ _ _ _ _ _ | exact (r_t5_c _).1 | exact (r_t5_c _).2 | exact hS.1 _ | (show 0 ≤ S.1 42; exact hb.1) | (show S.1 42 < ((144 : Nat) : Int); exact hb.2)) (by first | omega | assumption | exact r_t5_r _ | exact KL_r _ _ _ _ _ _ | exact (r_t5_c _).1 | exact (r_t5_c _).2 | exact hS.1 _ | (show 0 ≤ S.1 42; exact hb.1) | (show S.1 42 < ((144 : Nat) : Int); exact hb.2)) (by first | omega | assumption | exact r_t5_r _ | exact KL_r _ _ _ _ _ _ | exact (r_t5_c _).1 | exact (r_t5_c _).2 | exact hS.1 _ | (show 0 ≤ S.1 42; exact hb.1) | (show S.1 42 < ((144 : Nat) : Int); exact hb.2)) (by first | omega | assumption | exact r_t5_r _ | exact KL_r _ _ _ _ _ _ | exact (r_t5_c _).1 | exact (r_t5_c _).2 | exact hS.1 _ | (show 0 ≤ S.1 42; exact hb.1) | (show S.1 42 < ((144 : Nat) : Int); exact hb.2))) rfl) (r_loc rfl rfl) (by first | omega | assumption | exact r_t5_r _ | exact KL_r _ _ _ _ _ _ | exact (r_t5_c _).1 | exact (r_t5_c _).2 | exact hS.1 _ | (show 0 ≤ S.1 42; exact hb.1) | (show S.1 42 < ((144 : Nat) : Int); exact hb.2)) (by first | omega | assumption | exact r_t5_r _ | exact KL_r _ _ _ _ _ _ | exact (r_t5_c _).1 | exact (r_t5_c _).2 | exact hS.1 _ | (show 0 ≤ S.1 42; exact hb.1) | (show S.1 42 < ((144 : Nat) : Int); exact hb.2))))) (fun hp2 => ?_) (fun hp3 => ?_)
  ·
    have hpT := hp2
    have hpT0 := hp2
    refine wS_retv ?_
    refine r_ks (j := 2) ?_
    refine r_pretv r_le0 ?_
    have hns : ¬ STT (KL (S.2.1 21) S.1 24 z) (144 * kk + 12 * ac + al) := fun s => by
      have s := (STT_at (by omega) hc ha).mp s
      rcases hpT0 with d | d
      · exact d s.1
      · exact s.2 d
    exact ⟨_, rfl, S, rfl, hS, r_frm r_fr0 (by decide) (by decide) (by decide), by rw [sI_f (by omega) hns]; exact h0, SREC_n hR hns⟩
  ·
    have hpF := hp3
    have hpF0 := hp3
    refine wS_skip ?_
    refine r_k0 ?_
    refine r_seq ?_
    refine r_sloc (L2 := [_, _, _, _, _, _, _]) (r_loc rfl rfl) rfl rfl ?_
    refine r_k0 ?_
    refine r_seq ?_
    have hs0 : (KL (S.2.1 21) S.1 24 z) al ac = r_t5 kk ∧ ¬ (KL (S.2.1 21) S.1 24 z) (al - 1) ac = r_t5 kk := by
      rw [not_or] at hpF0; exact ⟨Classical.not_not.mp hpF0.1, hpF0.2⟩
    have hb := hb hs0
    refine r_loop (T := Int) (fun (t : Int) => (al ≤ t ∧ t < 12) ∧ ∀ u, al ≤ u → u ≤ t → (KL (S.2.1 21) S.1 24 z) u ac = r_t5 kk) (fun (t : Int) => (12 - t).toNat) (fun (t : Int) => [some (.ref 47), some (iv z), some (iv (r_t5 kk)), some (iv al), some (iv ac), some (iv t), none]) (fun (t : Int) => (q_en S, c, w)) al rfl rfl ?_ ?_ ?_
    · exact ⟨by omega, fun u u0 u1 => by rw [show u = al by omega]; exact hs0.1⟩
    · (show _ < 1000000); first | omega | (dsimp only; omega)
    · intro t hP
      try dsimp only at hP ⊢
      obtain ⟨ht, hP⟩ := hP
      refine ⟨_, (r_eq (r_call (r_cons (r_loc rfl rfl) (r_cons (r_loc rfl rfl) (r_cons (r_add (r_loc rfl rfl) (r_lit ql_1)) (r_cons (r_loc rfl rfl) r_nil)))) rfl (sp_X10_kindAlong (by first | omega | assumption | exact r_t5_r _ | exact KL_r _ _ _ _ _ _ | exact (r_t5_c _).1 | exact (r_t5_c _).2 | exact hS.1 _ | (show 0 ≤ S.1 42; exact hb.1) | (show S.1 42 < ((144 : Nat) : Int); exact hb.2)) (by first | omega | assumption | exact r_t5_r _ | exact KL_r _ _ _ _ _ _ | exact (r_t5_c _).1 | exact (r_t5_c _).2 | exact hS.1 _ | (show 0 ≤ S.1 42; exact hb.1) | (show S.1 42 < ((144 : Nat) : Int); exact hb.2)) (by first | omega | assumption | exact r_t5_r _ | exact KL_r _ _ _ _ _ _ | exact (r_t5_c _).1 | exact (r_t5_c _).2 | exact hS.1 _ | (show 0 ≤ S.1 42; exact hb.1) | (show S.1 42 < ((144 : Nat) : Int); exact hb.2)) (by first | omega | assumption | exact r_t5_r _ | exact KL_r _ _ _ _ _ _ | exact (r_t5_c _).1 | exact (r_t5_c _).2 | exact hS.1 _ | (show 0 ≤ S.1 42; exact hb.1) | (show S.1 42 < ((144 : Nat) : Int); exact hb.2)) (by first | omega | assumption | exact r_t5_r _ | exact KL_r _ _ _ _ _ _ | exact (r_t5_c _).1 | exact (r_t5_c _).2 | exact hS.1 _ | (show 0 ≤ S.1 42; exact hb.1) | (show S.1 42 < ((144 : Nat) : Int); exact hb.2))) rfl) (r_loc rfl rfl) (by first | omega | assumption | exact r_t5_r _ | exact KL_r _ _ _ _ _ _ | exact (r_t5_c _).1 | exact (r_t5_c _).2 | exact hS.1 _ | (show 0 ≤ S.1 42; exact hb.1) | (show S.1 42 < ((144 : Nat) : Int); exact hb.2)) (by first | omega | assumption | exact r_t5_r _ | exact KL_r _ _ _ _ _ _ | exact (r_t5_c _).1 | exact (r_t5_c _).2 | exact hS.1 _ | (show 0 ≤ S.1 42; exact hb.1) | (show S.1 42 < ((144 : Nat) : Int); exact hb.2))), fun hp4 => ?_, fun hp5 => ?_⟩
      ·
        refine r_k0 ?_
        refine r_seq ?_
        refine r_sloc (L2 := [_, _, _, _, _, _, _]) (r_if10 (r_z_eq (r_rem (r_loc rfl rfl) (r_lit ql_2) (by first | omega | assumption | exact r_t5_r _ | exact KL_r _ _ _ _ _ _ | exact (r_t5_c _).1 | exact (r_t5_c _).2 | exact hS.1 _ | (show 0 ≤ S.1 42; exact hb.1) | (show S.1 42 < ((144 : Nat) : Int); exact hb.2)) (by first | omega | assumption | exact r_t5_r _ | exact KL_r _ _ _ _ _ _ | exact (r_t5_c _).1 | exact (r_t5_c _).2 | exact hS.1 _ | (show 0 ≤ S.1 42; exact hb.1) | (show S.1 42 < ((144 : Nat) : Int); exact hb.2)) (by first | omega | assumption | exact r_t5_r _ | exact KL_r _ _ _ _ _ _ | exact (r_t5_c _).1 | exact (r_t5_c _).2 | exact hS.1 _ | (show 0 ≤ S.1 42; exact hb.1) | (show S.1 42 < ((144 : Nat) : Int); exact hb.2)) (by first | omega | assumption | exact r_t5_r _ | exact KL_r _ _ _ _ _ _ | exact (r_t5_c _).1 | exact (r_t5_c _).2 | exact hS.1 _ | (show 0 ≤ S.1 42; exact hb.1) | (show S.1 42 < ((144 : Nat) : Int); exact hb.2))) (by first | omega | assumption | exact r_t5_r _ | exact KL_r _ _ _ _ _ _ | exact (r_t5_c _).1 | exact (r_t5_c _).2 | exact hS.1 _ | (show 0 ≤ S.1 42; exact hb.1) | (show S.1 42 < ((144 : Nat) : Int); exact hb.2)))) rfl rfl ?_
        refine r_k0 ?_
        refine r_seq ?_
        refine r_sput3 (r_fld (r_loc rfl rfl) gg_Md_strokeKind) (r_fld (r_loc rfl rfl) gg_Md_strokes) (r_loc rfl rfl) (r_putI ga_Md_strokeKind gs_Md_strokeKind (by first | omega | assumption | exact r_t5_r _ | exact KL_r _ _ _ _ _ _ | exact (r_t5_c _).1 | exact (r_t5_c _).2 | exact hS.1 _ | (show 0 ≤ S.1 42; exact hb.1) | (show S.1 42 < ((144 : Nat) : Int); exact hb.2)) (by first | omega | assumption | exact r_t5_r _ | exact KL_r _ _ _ _ _ _ | exact (r_t5_c _).1 | exact (r_t5_c _).2 | exact hS.1 _ | (show 0 ≤ S.1 42; exact hb.1) | (show S.1 42 < ((144 : Nat) : Int); exact hb.2)) (by decide) (q_narC (by first | omega | assumption | exact r_t5_r _ | exact KL_r _ _ _ _ _ _ | exact (r_t5_c _).1 | exact (r_t5_c _).2 | exact hS.1 _ | (show 0 ≤ S.1 42; exact hb.1) | (show S.1 42 < ((144 : Nat) : Int); exact hb.2)) (by first | omega | assumption | exact r_t5_r _ | exact KL_r _ _ _ _ _ _ | exact (r_t5_c _).1 | exact (r_t5_c _).2 | exact hS.1 _ | (show 0 ≤ S.1 42; exact hb.1) | (show S.1 42 < ((144 : Nat) : Int); exact hb.2)))) ?_
        refine r_k0 ?_
        refine r_seq ?_
        refine r_sput3 (r_fld (r_loc rfl rfl) gg_Md_beginX) (r_fld (r_loc rfl rfl) gg_Md_strokes) (r_if (r_bz (r_loc rfl rfl)) (fun hp6 => (r_loc rfl rfl)) (fun hp7 => (r_loc rfl rfl))) (r_putI ga_Md_beginX gs_Md_beginX (by first | omega | assumption | exact r_t5_r _ | exact KL_r _ _ _ _ _ _ | exact (r_t5_c _).1 | exact (r_t5_c _).2 | exact hS.1 _ | (show 0 ≤ S.1 42; exact hb.1) | (show S.1 42 < ((144 : Nat) : Int); exact hb.2)) (by first | omega | assumption | exact r_t5_r _ | exact KL_r _ _ _ _ _ _ | exact (r_t5_c _).1 | exact (r_t5_c _).2 | exact hS.1 _ | (show 0 ≤ S.1 42; exact hb.1) | (show S.1 42 < ((144 : Nat) : Int); exact hb.2)) (by decide) q_narI) ?_
        refine r_k0 ?_
        refine r_seq ?_
        refine r_sput3 (r_fld (r_loc rfl rfl) gg_Md_beginY) (r_fld (r_loc rfl rfl) gg_Md_strokes) (r_if (r_bz (r_loc rfl rfl)) (fun hp8 => (r_loc rfl rfl)) (fun hp9 => (r_loc rfl rfl))) (r_putI ga_Md_beginY gs_Md_beginY (by first | omega | assumption | exact r_t5_r _ | exact KL_r _ _ _ _ _ _ | exact (r_t5_c _).1 | exact (r_t5_c _).2 | exact hS.1 _ | (show 0 ≤ S.1 42; exact hb.1) | (show S.1 42 < ((144 : Nat) : Int); exact hb.2)) (by first | omega | assumption | exact r_t5_r _ | exact KL_r _ _ _ _ _ _ | exact (r_t5_c _).1 | exact (r_t5_c _).2 | exact hS.1 _ | (show 0 ≤ S.1 42; exact hb.1) | (show S.1 42 < ((144 : Nat) : Int); exact hb.2)) (by decide) q_narI) ?_
        refine r_k0 ?_
        refine r_seq ?_
        refine r_sput3 (r_fld (r_loc rfl rfl) gg_Md_endX) (r_fld (r_loc rfl rfl) gg_Md_strokes) (r_if (r_bz (r_loc rfl rfl)) (fun hp10 => (r_loc rfl rfl)) (fun hp11 => (r_loc rfl rfl))) (r_putI ga_Md_endX gs_Md_endX (by first | omega | assumption | exact r_t5_r _ | exact KL_r _ _ _ _ _ _ | exact (r_t5_c _).1 | exact (r_t5_c _).2 | exact hS.1 _ | (show 0 ≤ S.1 42; exact hb.1) | (show S.1 42 < ((144 : Nat) : Int); exact hb.2)) (by first | omega | assumption | exact r_t5_r _ | exact KL_r _ _ _ _ _ _ | exact (r_t5_c _).1 | exact (r_t5_c _).2 | exact hS.1 _ | (show 0 ≤ S.1 42; exact hb.1) | (show S.1 42 < ((144 : Nat) : Int); exact hb.2)) (by decide) q_narI) ?_
        refine r_k0 ?_
        refine r_seq ?_
        refine r_sput3 (r_fld (r_loc rfl rfl) gg_Md_endY) (r_fld (r_loc rfl rfl) gg_Md_strokes) (r_if (r_bz (r_loc rfl rfl)) (fun hp12 => (r_loc rfl rfl)) (fun hp13 => (r_loc rfl rfl))) (r_putI ga_Md_endY gs_Md_endY (by first | omega | assumption | exact r_t5_r _ | exact KL_r _ _ _ _ _ _ | exact (r_t5_c _).1 | exact (r_t5_c _).2 | exact hS.1 _ | (show 0 ≤ S.1 42; exact hb.1) | (show S.1 42 < ((144 : Nat) : Int); exact hb.2)) (by first | omega | assumption | exact r_t5_r _ | exact KL_r _ _ _ _ _ _ | exact (r_t5_c _).1 | exact (r_t5_c _).2 | exact hS.1 _ | (show 0 ≤ S.1 42; exact hb.1) | (show S.1 42 < ((144 : Nat) : Int); exact hb.2)) (by decide) q_narI) ?_
        refine r_k0 ?_
        refine r_seq ?_
        refine r_sA1 (r_loc rfl rfl) gg_Md_strokes (r_lit ql_1) r_iadd gp_Md_strokes ?_
        refine r_k0 ?_
        refine wS_retv ?_
        refine r_pretv r_le0 ?_
        have hs : STT (KL (S.2.1 21) S.1 24 z) (144 * kk + 12 * ac + al) := (STT_at (by omega) hc ha).mpr hs0
        have hse : t = sE (KL (S.2.1 21) S.1 24 z) (144 * kk + 12 * ac + al) := (sE_e (by omega) hc ha (by omega) hP (by assumption)).symm
        exact ⟨_, rfl, ADDS S 34 42 (r_t5 kk) al t ac z, rfl, ADDS_ok hS (r_t5_r _) (by omega) (by omega) (by omega) (by omega), ADDS_fr, by rw [ADDS_n, h0, sI_t (by omega) hs], SREC_w (by omega) hc ha hR h0 rfl rfl hse⟩
      ·
        have hp_ := hp5
        have ht12 : t + 1 < 12 := by
          by_cases d : t + 1 < 12
          · exact d
          · exact absurd hp_ (KL_o (by omega))
        refine r_sinc (L2 := [_, _, _, _, _, _, _]) rfl rfl ?_
        refine r_l0 ?_
        refine wS_skip ?_
        refine r_lend (t + 1) rfl rfl ?_ (by first | omega | (dsimp only; omega))
        try dsimp only
        refine ⟨by omega, fun u u0 u1 => ?_⟩
        by_cases d : u = t + 1
        · rw [d]; assumption
        · exact hP u u0 (by omega)
theorem sp_X10_findsStrokes {S : q_Sg} {c w : Nat} (hS : r_ok S) (hK : SOK S.1 24) {z : Int} (hz : 0 ≤ z ∧ z < 12) : r_X f_X10_findsStrokes [.ref 47, iv z] (q_en S, c, w) (fun _ h2 => ∃ T, h2 = (q_en T, c, w) ∧ r_ok T ∧ r_fr [42] [39, 38, 37, 36, 35, 34] [] S T ∧ T.1 42 = sI (KL (S.2.1 21) S.1 24 z) 720 ∧ SREC T.2.1 34 z (KL (S.2.1 21) S.1 24 z) 720) := by
  refine r_Xof (r_run (L := [_, _, _, _, _]) ⟨rfl, Nat.le_of_ble_eq_true rfl⟩ rfl ?_)
  unfold b_X10_findsStrokes
  refine r_seq ?_
  refine r_sput (r_loc rfl rfl) (r_lit ql_0) gp_Md_strokes ?_
  refine r_k0 ?_
  refine r_seq ?_
  refine r_seq ?_
  refine r_sloc (L2 := [_, _, _, _, _]) (r_lit ql_0) rfl rfl ?_
  refine r_k0 ?_
  refine r_loop (T := Int × (Int → Int)) (fun (σ : Int × (Int → Int)) => match σ with | (k, g) => (0 ≤ k ∧ k ≤ 144) ∧ (∀ j, rg (g j)) ∧ ∀ j, 0 ≤ j → j < k → g j = KND (S.2.1 21) S.1 24 (j % 12) (j / 12) z) (fun (σ : Int × (Int → Int)) => match σ with | (k, g) => (144 - k).toNat) (fun (σ : Int × (Int → Int)) => match σ with | (k, g) => [some (.ref 47), some (iv z), some (iv k), none, none]) (fun (σ : Int × (Int → Int)) => match σ with | (k, g) => (q_en (q_sA (q_sI S 42 0) 39 g), c, w)) (0, S.2.1 39) rfl (by dsimp only; rw [show S.2.1 39 = (q_sI S 42 0).2.1 39 from rfl, q_sAs]) ?_ ?_ ?_
  · exact ⟨by omega, hS.2 39, fun j h0 h1 => by omega⟩
  · (show _ < 1000000); first | omega | (dsimp only; omega)
  · rintro ⟨k, g⟩ hP
    try dsimp only at hP ⊢
    obtain ⟨hk, hr, hg⟩ := hP
    refine ⟨_, (r_lt (r_loc rfl rfl) (r_lit ql_144) (by first | omega | assumption | exact r_okA (r_okI hS (by omega)) (by assumption) | exact (KND_c _ _ _ _ _ _).1 | exact (KND_c _ _ _ _ _ _).2 | (rw [hK21]; assumption) | exact hKT | exact hnT | exact hRT) (by first | omega | assumption | exact r_okA (r_okI hS (by omega)) (by assumption) | exact (KND_c _ _ _ _ _ _).1 | exact (KND_c _ _ _ _ _ _).2 | (rw [hK21]; assumption) | exact hKT | exact hnT | exact hRT)), fun hp1 => ?_, fun hp2 => ?_⟩
    ·
      refine r_k0 ?_
      refine r_seq ?_
      refine r_seq ?_
      refine r_sloc (L2 := [_, _, _, _, _]) (r_lit ql_0) rfl rfl ?_
      refine r_k0 ?_
      refine r_loop (T := Int × q_Sg × Option Value × Option Value) (fun (σ : Int × q_Sg × Option Value × Option Value) => match σ with | (kk, T, o, o2) => (0 ≤ kk ∧ kk ≤ 5) ∧ r_ok T ∧ r_fr [42] [39, 38, 37, 36, 35, 34] [] S T ∧ (∀ u v, (0 ≤ u ∧ u < 12) → (0 ≤ v ∧ v < 12) → T.2.1 39 (12 * v + u) = KND (S.2.1 21) S.1 24 u v z) ∧ T.1 42 = sI (KL (S.2.1 21) S.1 24 z) (144 * kk) ∧ SREC T.2.1 34 z (KL (S.2.1 21) S.1 24 z) (144 * kk)) (fun (σ : Int × q_Sg × Option Value × Option Value) => match σ with | (kk, T, o, o2) => (5 - kk).toNat) (fun (σ : Int × q_Sg × Option Value × Option Value) => match σ with | (kk, T, o, o2) => [some (.ref 47), some (iv z), some (iv kk), o, o2]) (fun (σ : Int × q_Sg × Option Value × Option Value) => match σ with | (kk, T, o, o2) => (q_en T, c, w)) (0, q_sA (q_sI S 42 0) 39 g, _, _) rfl rfl ?_ ?_ ?_
      · exact ⟨by omega, r_okA (r_okI hS (by omega)) hr, r_frm (r_frA (r_frI r_fr0)) (by decide) (by decide) (by decide), fun u v h0 h1 => by show g (12 * v + u) = _; rw [hg _ (by omega) (by omega), show (12 * v + u) % 12 = u by omega, show (12 * v + u) / 12 = v by omega], rfl, fun p h0 h1 => by omega⟩
      · (show _ < 1000000); first | omega | (dsimp only; omega)
      · rintro ⟨kk, T, o, o2⟩ hP
        try dsimp only at hP ⊢
        obtain ⟨hkk, hT, hf, hA, hn, hR⟩ := hP
        refine ⟨_, (r_lt (r_loc rfl rfl) (r_call (r_cons r_litr r_nil) rfl sp_J0_length rfl) (by first | omega | assumption | exact r_okA (r_okI hS (by omega)) (by assumption) | exact (KND_c _ _ _ _ _ _).1 | exact (KND_c _ _ _ _ _ _).2 | (rw [hK21]; assumption) | exact hKT | exact hnT | exact hRT) (by first | omega | assumption | exact r_okA (r_okI hS (by omega)) (by assumption) | exact (KND_c _ _ _ _ _ _).1 | exact (KND_c _ _ _ _ _ _).2 | (rw [hK21]; assumption) | exact hKT | exact hnT | exact hRT)), fun hp3 => ?_, fun hp4 => ?_⟩
        ·
          refine r_k0 ?_
          refine wS_retv ?_
          refine r_pretv r_le0 ?_
          have hm : kk = 5 := by omega
          subst hm
          exact ⟨_, rfl, T, rfl, hT, hf, hn, hR⟩
        ·
          refine r_seq ?_
          refine r_sloc (L2 := [_, _, _, _, _]) (r_lit ql_0) rfl rfl ?_
          refine r_k0 ?_
          refine r_loop (T := Int × q_Sg × Option Value) (fun (σ : Int × q_Sg × Option Value) => match σ with | (ac, T, o) => (0 ≤ ac ∧ ac ≤ 12) ∧ r_ok T ∧ r_fr [42] [39, 38, 37, 36, 35, 34] [] S T ∧ (∀ u v, (0 ≤ u ∧ u < 12) → (0 ≤ v ∧ v < 12) → T.2.1 39 (12 * v + u) = KND (S.2.1 21) S.1 24 u v z) ∧ T.1 42 = sI (KL (S.2.1 21) S.1 24 z) (144 * kk + 12 * ac) ∧ SREC T.2.1 34 z (KL (S.2.1 21) S.1 24 z) (144 * kk + 12 * ac)) (fun (σ : Int × q_Sg × Option Value) => match σ with | (ac, T, o) => (12 - ac).toNat) (fun (σ : Int × q_Sg × Option Value) => match σ with | (ac, T, o) => [some (.ref 47), some (iv z), some (iv kk), some (iv ac), o]) (fun (σ : Int × q_Sg × Option Value) => match σ with | (ac, T, o) => (q_en T, c, w)) (0, T, _) rfl rfl ?_ ?_ ?_
          · exact ⟨by omega, hT, hf, hA, by rw [hn]; congr 1; omega, by rw [show 144 * kk + 12 * 0 = 144 * kk by omega]; exact hR⟩
          · (show _ < 1000000); first | omega | (dsimp only; omega)
          · rintro ⟨ac, T, o⟩ hP
            try dsimp only at hP ⊢
            obtain ⟨hac, hT, hf, hA, hn, hR⟩ := hP
            refine ⟨_, (r_lt (r_loc rfl rfl) (r_lit ql_12) (by first | omega | assumption | exact r_okA (r_okI hS (by omega)) (by assumption) | exact (KND_c _ _ _ _ _ _).1 | exact (KND_c _ _ _ _ _ _).2 | (rw [hK21]; assumption) | exact hKT | exact hnT | exact hRT) (by first | omega | assumption | exact r_okA (r_okI hS (by omega)) (by assumption) | exact (KND_c _ _ _ _ _ _).1 | exact (KND_c _ _ _ _ _ _).2 | (rw [hK21]; assumption) | exact hKT | exact hnT | exact hRT)), fun hp5 => ?_, fun hp6 => ?_⟩
            ·
              refine r_l0 ?_
              refine r_sinc (L2 := [_, _, _, _, _]) rfl rfl ?_
              refine r_lend (kk + 1, T, _, _) rfl rfl ?_ (by first | omega | (dsimp only; omega))
              try dsimp only
              exact ⟨by omega, hT, hf, hA, by rw [show 144 * (kk + 1) = 144 * kk + 12 * ac by omega]; exact hn, by rw [show 144 * (kk + 1) = 144 * kk + 12 * ac by omega]; exact hR⟩
            ·
              refine r_seq ?_
              refine r_sloc (L2 := [_, _, _, _, _]) (r_lit ql_0) rfl rfl ?_
              refine r_k0 ?_
              refine r_loop (T := Int × q_Sg) (fun (σ : Int × q_Sg) => match σ with | (al, T) => (0 ≤ al ∧ al ≤ 12) ∧ r_ok T ∧ r_fr [42] [39, 38, 37, 36, 35, 34] [] S T ∧ (∀ u v, (0 ≤ u ∧ u < 12) → (0 ≤ v ∧ v < 12) → T.2.1 39 (12 * v + u) = KND (S.2.1 21) S.1 24 u v z) ∧ T.1 42 = sI (KL (S.2.1 21) S.1 24 z) (144 * kk + 12 * ac + al) ∧ SREC T.2.1 34 z (KL (S.2.1 21) S.1 24 z) (144 * kk + 12 * ac + al)) (fun (σ : Int × q_Sg) => match σ with | (al, T) => (12 - al).toNat) (fun (σ : Int × q_Sg) => match σ with | (al, T) => [some (.ref 47), some (iv z), some (iv kk), some (iv ac), some (iv al)]) (fun (σ : Int × q_Sg) => match σ with | (al, T) => (q_en T, c, w)) (0, T) rfl rfl ?_ ?_ ?_
              · exact ⟨by omega, hT, hf, hA, by rw [hn, Int.add_zero], by rw [Int.add_zero]; exact hR⟩
              · (show _ < 1000000); first | omega | (dsimp only; omega)
              · rintro ⟨al, T⟩ hP
                try dsimp only at hP ⊢
                obtain ⟨hal, hT, hf, hA, hn, hR⟩ := hP
                refine ⟨_, (r_lt (r_loc rfl rfl) (r_lit ql_12) (by first | omega | assumption | exact r_okA (r_okI hS (by omega)) (by assumption) | exact (KND_c _ _ _ _ _ _).1 | exact (KND_c _ _ _ _ _ _).2 | (rw [hK21]; assumption) | exact hKT | exact hnT | exact hRT) (by first | omega | assumption | exact r_okA (r_okI hS (by omega)) (by assumption) | exact (KND_c _ _ _ _ _ _).1 | exact (KND_c _ _ _ _ _ _).2 | (rw [hK21]; assumption) | exact hKT | exact hnT | exact hRT)), fun hp7 => ?_, fun hp8 => ?_⟩
                ·
                  refine r_l0 ?_
                  refine r_sinc (L2 := [_, _, _, _, _]) rfl rfl ?_
                  refine r_lend (ac + 1, T, _) rfl rfl ?_ (by first | omega | (dsimp only; omega))
                  try dsimp only
                  exact ⟨by omega, hT, hf, hA, by rw [show 144 * kk + 12 * (ac + 1) = 144 * kk + 12 * ac + al by omega]; exact hn, by rw [show 144 * kk + 12 * (ac + 1) = 144 * kk + 12 * ac + al by omega]; exact hR⟩
                ·
                  have e21 : T.2.1 21 = S.2.1 21 := hf.2.1 21 (by decide)
                  have hKK : KL (T.2.1 21) T.1 24 z = (KL (S.2.1 21) S.1 24 z) := by rw [e21]; exact KL_f (fun i hi => hf.1 (24 + i) (by simp; omega))
                  have hKT : ∀ u v, (0 ≤ u ∧ u < 12) → (0 ≤ v ∧ v < 12) → T.2.1 39 (12 * v + u) = KND (T.2.1 21) T.1 24 u v z := by
                    rw [e21, KND_f (f := T.1) (g := S.1) (fun i hi => hf.1 (24 + i) (by simp; omega))]; exact hA
                  have hnT : T.1 42 = sI (KL (T.2.1 21) T.1 24 z) (144 * kk + 12 * ac + al) := by rw [hKK]; exact hn
                  have hRT : SREC T.2.1 34 z (KL (T.2.1 21) T.1 24 z) (144 * kk + 12 * ac + al) := by rw [hKK]; exact hR
                  refine r_call0 (r_cons (r_loc rfl rfl) (r_cons (r_loc rfl rfl) (r_cons (r_call (r_cons r_litr (r_cons (r_loc rfl rfl) r_nil)) rfl (sp_J0_charAt (by first | omega | assumption | exact r_okA (r_okI hS (by omega)) (by assumption) | exact (KND_c _ _ _ _ _ _).1 | exact (KND_c _ _ _ _ _ _).2 | (rw [hK21]; assumption) | exact hKT | exact hnT | exact hRT)) rfl) (r_cons (r_loc rfl rfl) (r_cons (r_loc rfl rfl) r_nil))))) rfl (sp_X10_findsStroke (by first | omega | assumption | exact r_okA (r_okI hS (by omega)) (by assumption) | exact (KND_c _ _ _ _ _ _).1 | exact (KND_c _ _ _ _ _ _).2 | (rw [hK21]; assumption) | exact hKT | exact hnT | exact hRT) (by first | omega | assumption | exact r_okA (r_okI hS (by omega)) (by assumption) | exact (KND_c _ _ _ _ _ _).1 | exact (KND_c _ _ _ _ _ _).2 | (rw [hK21]; assumption) | exact hKT | exact hnT | exact hRT) (by first | omega | assumption | exact r_okA (r_okI hS (by omega)) (by assumption) | exact (KND_c _ _ _ _ _ _).1 | exact (KND_c _ _ _ _ _ _).2 | (rw [hK21]; assumption) | exact hKT | exact hnT | exact hRT) (by first | omega | assumption | exact r_okA (r_okI hS (by omega)) (by assumption) | exact (KND_c _ _ _ _ _ _).1 | exact (KND_c _ _ _ _ _ _).2 | (rw [hK21]; assumption) | exact hKT | exact hnT | exact hRT) (by first | omega | assumption | exact r_okA (r_okI hS (by omega)) (by assumption) | exact (KND_c _ _ _ _ _ _).1 | exact (KND_c _ _ _ _ _ _).2 | (rw [hK21]; assumption) | exact hKT | exact hnT | exact hRT) (by first | omega | assumption | exact r_okA (r_okI hS (by omega)) (by assumption) | exact (KND_c _ _ _ _ _ _).1 | exact (KND_c _ _ _ _ _ _).2 | (rw [hK21]; assumption) | exact hKT | exact hnT | exact hRT) (by first | omega | assumption | exact r_okA (r_okI hS (by omega)) (by assumption) | exact (KND_c _ _ _ _ _ _).1 | exact (KND_c _ _ _ _ _ _).2 | (rw [hK21]; assumption) | exact hKT | exact hnT | exact hRT) (by first | omega | assumption | exact r_okA (r_okI hS (by omega)) (by assumption) | exact (KND_c _ _ _ _ _ _).1 | exact (KND_c _ _ _ _ _ _).2 | (rw [hK21]; assumption) | exact hKT | exact hnT | exact hRT)) ?_
                  rintro _ _ ⟨T1, rfl, hT1, hf1, hn1, hR1⟩
                  refine r_l0 ?_
                  refine r_sinc (L2 := [_, _, _, _, _]) rfl rfl ?_
                  refine r_lend (al + 1, T1) rfl rfl ?_ (by first | omega | (dsimp only; omega))
                  try dsimp only
                  rw [hKK] at hn1 hR1
                  exact ⟨by omega, hT1, r_frm (r_frt hf hf1) (by decide) (by decide) (by decide), by rw [hf1.2.1 39 (by decide)]; exact hA, by rw [← Int.add_assoc]; exact hn1, by rw [← Int.add_assoc]; exact hR1⟩
    ·
      refine r_sput3 (r_fld (r_loc rfl rfl) gg_Md_kinds) (r_loc rfl rfl) (r_call (r_cons (r_loc rfl rfl) (r_cons (r_rem (r_loc rfl rfl) (r_lit ql_12) (by first | omega | assumption | exact r_okA (r_okI hS (by omega)) (by assumption) | exact (KND_c _ _ _ _ _ _).1 | exact (KND_c _ _ _ _ _ _).2 | (rw [hK21]; assumption) | exact hKT | exact hnT | exact hRT) (by first | omega | assumption | exact r_okA (r_okI hS (by omega)) (by assumption) | exact (KND_c _ _ _ _ _ _).1 | exact (KND_c _ _ _ _ _ _).2 | (rw [hK21]; assumption) | exact hKT | exact hnT | exact hRT) (by first | omega | assumption | exact r_okA (r_okI hS (by omega)) (by assumption) | exact (KND_c _ _ _ _ _ _).1 | exact (KND_c _ _ _ _ _ _).2 | (rw [hK21]; assumption) | exact hKT | exact hnT | exact hRT) (by first | omega | assumption | exact r_okA (r_okI hS (by omega)) (by assumption) | exact (KND_c _ _ _ _ _ _).1 | exact (KND_c _ _ _ _ _ _).2 | (rw [hK21]; assumption) | exact hKT | exact hnT | exact hRT)) (r_cons (r_div (r_loc rfl rfl) (r_lit ql_12) (by first | omega | assumption | exact r_okA (r_okI hS (by omega)) (by assumption) | exact (KND_c _ _ _ _ _ _).1 | exact (KND_c _ _ _ _ _ _).2 | (rw [hK21]; assumption) | exact hKT | exact hnT | exact hRT) (by first | omega | assumption | exact r_okA (r_okI hS (by omega)) (by assumption) | exact (KND_c _ _ _ _ _ _).1 | exact (KND_c _ _ _ _ _ _).2 | (rw [hK21]; assumption) | exact hKT | exact hnT | exact hRT) (by first | omega | assumption | exact r_okA (r_okI hS (by omega)) (by assumption) | exact (KND_c _ _ _ _ _ _).1 | exact (KND_c _ _ _ _ _ _).2 | (rw [hK21]; assumption) | exact hKT | exact hnT | exact hRT) (by first | omega | assumption | exact r_okA (r_okI hS (by omega)) (by assumption) | exact (KND_c _ _ _ _ _ _).1 | exact (KND_c _ _ _ _ _ _).2 | (rw [hK21]; assumption) | exact hKT | exact hnT | exact hRT)) (r_cons (r_loc rfl rfl) r_nil)))) rfl (sp_X10_kindOf (by first | omega | assumption | exact r_okA (r_okI hS (by omega)) (by assumption) | exact (KND_c _ _ _ _ _ _).1 | exact (KND_c _ _ _ _ _ _).2 | (rw [hK21]; assumption) | exact hKT | exact hnT | exact hRT) (by first | omega | assumption | exact r_okA (r_okI hS (by omega)) (by assumption) | exact (KND_c _ _ _ _ _ _).1 | exact (KND_c _ _ _ _ _ _).2 | (rw [hK21]; assumption) | exact hKT | exact hnT | exact hRT) (by first | omega | assumption | exact r_okA (r_okI hS (by omega)) (by assumption) | exact (KND_c _ _ _ _ _ _).1 | exact (KND_c _ _ _ _ _ _).2 | (rw [hK21]; assumption) | exact hKT | exact hnT | exact hRT) (by first | omega | assumption | exact r_okA (r_okI hS (by omega)) (by assumption) | exact (KND_c _ _ _ _ _ _).1 | exact (KND_c _ _ _ _ _ _).2 | (rw [hK21]; assumption) | exact hKT | exact hnT | exact hRT) (by first | omega | assumption | exact r_okA (r_okI hS (by omega)) (by assumption) | exact (KND_c _ _ _ _ _ _).1 | exact (KND_c _ _ _ _ _ _).2 | (rw [hK21]; assumption) | exact hKT | exact hnT | exact hRT)) rfl) (r_putI ga_Md_kinds gs_Md_kinds (by first | omega | assumption | exact r_okA (r_okI hS (by omega)) (by assumption) | exact (KND_c _ _ _ _ _ _).1 | exact (KND_c _ _ _ _ _ _).2 | (rw [hK21]; assumption) | exact hKT | exact hnT | exact hRT) (by first | omega | assumption | exact r_okA (r_okI hS (by omega)) (by assumption) | exact (KND_c _ _ _ _ _ _).1 | exact (KND_c _ _ _ _ _ _).2 | (rw [hK21]; assumption) | exact hKT | exact hnT | exact hRT) (by decide) (q_narC (by first | omega | assumption | exact r_okA (r_okI hS (by omega)) (by assumption) | exact (KND_c _ _ _ _ _ _).1 | exact (KND_c _ _ _ _ _ _).2 | (rw [hK21]; assumption) | exact hKT | exact hnT | exact hRT) (by first | omega | assumption | exact r_okA (r_okI hS (by omega)) (by assumption) | exact (KND_c _ _ _ _ _ _).1 | exact (KND_c _ _ _ _ _ _).2 | (rw [hK21]; assumption) | exact hKT | exact hnT | exact hRT))) ?_
      refine r_l0 ?_
      refine r_sinc (L2 := [_, _, _, _, _]) rfl rfl ?_
      refine r_lend (k + 1, q_up g k (KND (S.2.1 21) S.1 24 (k % 12) (k / 12) z)) rfl (by rw [q_sAA]; rfl) ?_ (by first | omega | (dsimp only; omega))
      try dsimp only
      have hb := KND_b (S.2.1 21) S.1 24 (k % 12) (k / 12) z
      refine ⟨by omega, r_oku hr (by omega), fun j h0 h1 => ?_⟩
      unfold q_up
      by_cases e : j = k
      · rw [if_pos e, e]
      · rw [if_neg e]; exact hg j h0 (by omega)
