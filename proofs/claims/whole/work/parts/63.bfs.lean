theorem sp_X5_isAtEnd {x : Int} {h : qH} (hx : rg x) : r_F f_X5_isAtEnd [iv x] h (r_b (x = 0 ∨ x = 11)) := by
  refine r_Fof (r_run (L := [_]) ⟨rfl, Nat.le_of_ble_eq_true rfl⟩ rfl ?_)
  unfold b_X5_isAtEnd
  refine r_sret (r_if10 (r_or (r_z_eq (r_loc rfl rfl) (by first | omega | assumption | exact r_zrg _ | exact hS.1 _ | exact hS.2 _ _ | exact stg_b hS _ _ | exact r_irg (by first | assumption | omega | exact hS.1 _ | exact hS.2 _ _ | exact stg_b hS _ _) (by first | assumption | omega | exact hS.1 _ | exact hS.2 _ _))) (fun hp1 => (r_eq (r_loc rfl rfl) (r_lit ql_11) (by first | omega | assumption | exact r_zrg _ | exact hS.1 _ | exact hS.2 _ _ | exact stg_b hS _ _ | exact r_irg (by first | assumption | omega | exact hS.1 _ | exact hS.2 _ _ | exact stg_b hS _ _) (by first | assumption | omega | exact hS.1 _ | exact hS.2 _ _)) (by first | omega | assumption | exact r_zrg _ | exact hS.1 _ | exact hS.2 _ _ | exact stg_b hS _ _ | exact r_irg (by first | assumption | omega | exact hS.1 _ | exact hS.2 _ _ | exact stg_b hS _ _) (by first | assumption | omega | exact hS.1 _ | exact hS.2 _ _)))))) ?_
  refine r_pret (r_fitb _) r_le0 ⟨congrArg Sum.inl ?_, rfl⟩
  refine r_bc ?_
  exact Iff.rfl
theorem sp_X5_note {S : q_Sg} {c w : Nat} (hS : r_ok S) {x y : Int} (hx : -2 ≤ x ∧ x ≤ 13) (hy : -2 ≤ y ∧ y ≤ 13) {k z : Int} (hk : 0 ≤ k ∧ k ≤ 1) (hz : 0 ≤ z ∧ z < 12) (h7 : 0 ≤ S.1 7) : r_X f_X5_note [.ref 26, iv x, iv y, iv z, iv k] (q_en S, c, w) (fun r h2 => ∃ T, r = r_b (NC S k z x y) ∧ h2 = (q_en T, c, w) ∧ r_ok T ∧ S.1 7 ≤ T.1 7 ∧ NTE S T k z x y) := by
  refine r_Xof (r_run (L := [_, _, _, _, _, _]) ⟨rfl, Nat.le_of_ble_eq_true rfl⟩ rfl ?_)
  unfold b_X5_note
  refine r_seq ?_
  refine r_sif (r_or (r_not (r_bz (r_call (r_cons (r_loc rfl rfl) (r_cons (r_loc rfl rfl) (r_cons (r_loc rfl rfl) r_nil))) rfl (sp_X9_isCell (by first | omega | assumption | exact r_zrg _ | exact hS.1 _ | exact hS.2 _ _ | exact stg_b hS _ _ | exact r_irg (by first | assumption | omega | exact hS.1 _ | exact hS.2 _ _ | exact stg_b hS _ _) (by first | assumption | omega | exact hS.1 _ | exact hS.2 _ _) | (dsimp only [q_sA]; omega) | exact r_oku (hS.2 _) (by omega)) (by first | omega | assumption | exact r_zrg _ | exact hS.1 _ | exact hS.2 _ _ | exact stg_b hS _ _ | exact r_irg (by first | assumption | omega | exact hS.1 _ | exact hS.2 _ _ | exact stg_b hS _ _) (by first | assumption | omega | exact hS.1 _ | exact hS.2 _ _) | (dsimp only [q_sA]; omega) | exact r_oku (hS.2 _) (by omega)) (by first | omega | assumption | exact r_zrg _ | exact hS.1 _ | exact hS.2 _ _ | exact stg_b hS _ _ | exact r_irg (by first | assumption | omega | exact hS.1 _ | exact hS.2 _ _ | exact stg_b hS _ _) (by first | assumption | omega | exact hS.1 _ | exact hS.2 _ _) | (dsimp only [q_sA]; omega) | exact r_oku (hS.2 _) (by omega))) rfl))) (fun hp1 => (r_ne (r_call (r_cons (r_fld (r_loc rfl rfl) gg_Outlines_body) (r_cons (r_loc rfl rfl) (r_cons (r_loc rfl rfl) (r_cons (r_loc rfl rfl) r_nil)))) rfl (sp_X0_isSolid (by first | omega | assumption | exact r_zrg _ | exact hS.1 _ | exact hS.2 _ _ | exact stg_b hS _ _ | exact r_irg (by first | assumption | omega | exact hS.1 _ | exact hS.2 _ _ | exact stg_b hS _ _) (by first | assumption | omega | exact hS.1 _ | exact hS.2 _ _) | (dsimp only [q_sA]; omega) | exact r_oku (hS.2 _) (by omega)) (by first | omega | assumption | exact r_zrg _ | exact hS.1 _ | exact hS.2 _ _ | exact stg_b hS _ _ | exact r_irg (by first | assumption | omega | exact hS.1 _ | exact hS.2 _ _ | exact stg_b hS _ _) (by first | assumption | omega | exact hS.1 _ | exact hS.2 _ _) | (dsimp only [q_sA]; omega) | exact r_oku (hS.2 _) (by omega)) (by first | omega | assumption | exact r_zrg _ | exact hS.1 _ | exact hS.2 _ _ | exact stg_b hS _ _ | exact r_irg (by first | assumption | omega | exact hS.1 _ | exact hS.2 _ _ | exact stg_b hS _ _) (by first | assumption | omega | exact hS.1 _ | exact hS.2 _ _) | (dsimp only [q_sA]; omega) | exact r_oku (hS.2 _) (by omega)) (by first | omega | assumption | exact r_zrg _ | exact hS.1 _ | exact hS.2 _ _ | exact stg_b hS _ _ | exact r_irg (by first | assumption | omega | exact hS.1 _ | exact hS.2 _ _ | exact stg_b hS _ _) (by first | assumption | omega | exact hS.1 _ | exact hS.2 _ _) | (dsimp only [q_sA]; omega) | exact r_oku (hS.2 _) (by omega))) rfl) (r_loc rfl rfl) (by first | omega | assumption | exact r_zrg _ | exact hS.1 _ | exact hS.2 _ _ | exact stg_b hS _ _ | exact r_irg (by first | assumption | omega | exact hS.1 _ | exact hS.2 _ _ | exact stg_b hS _ _) (by first | assumption | omega | exact hS.1 _ | exact hS.2 _ _) | (dsimp only [q_sA]; omega) | exact r_oku (hS.2 _) (by omega)) (by first | omega | assumption | exact r_zrg _ | exact hS.1 _ | exact hS.2 _ _ | exact stg_b hS _ _ | exact r_irg (by first | assumption | omega | exact hS.1 _ | exact hS.2 _ _ | exact stg_b hS _ _) (by first | assumption | omega | exact hS.1 _ | exact hS.2 _ _) | (dsimp only [q_sA]; omega) | exact r_oku (hS.2 _) (by omega))))) (fun hp2 => ?_) (fun hp3 => ?_)
  ·
    have hpT := hp2
    have hpT0 := hp2
    refine r_sret (r_lit ql_0) ?_
    refine r_ks (j := 3) ?_
    refine r_pret r_fit0 r_le0 ?_
    have hno : ¬ NC S k z x y := fun q => by
      obtain ⟨⟨q1, q2⟩, _, _⟩ := q
      rcases hpT0 with d | d
      · exact d ⟨q1.1, q1.2, hz⟩
      · apply d
        by_cases e : SOL (S.2.1 0) x y z
        · rw [r_z1 e]; exact (q2.mp e).symm
        · rw [r_z0 e]; have : ¬ k = 1 := fun d => e (q2.mpr d)
          omega
    exact ⟨_, rfl, S, (congrArg iv (r_z0 hno)).symm, rfl, hS, Int.le_refl _, fun q => absurd q hno, fun _ => rfl⟩
  ·
    have hpF := hp3
    have hpF0 := hp3
    have hin : inc x y z := Classical.byContradiction (fun q => hpF0 (Or.inl q))
    have hsk : r_z (SOL (S.2.1 0) x y z) = k := Classical.byContradiction (fun q => hpF0 (Or.inr q))
    obtain ⟨i1, i2, i3⟩ := id hin
    refine wS_skip ?_
    refine r_k0 ?_
    refine r_seq ?_
    refine r_sloc (L2 := [_, _, _, _, _, _]) (r_call (r_cons (r_loc rfl rfl) (r_cons (r_loc rfl rfl) (r_cons (r_lit ql_0) r_nil))) rfl sp_X9_indexOf rfl) rfl rfl ?_
    refine r_k0 ?_
    refine r_seq ?_
    refine r_sif (r_or (r_z_ne (r_aget ga_Outlines_isSeen (r_fld (r_loc rfl rfl) gg_Outlines_isSeen) (r_loc rfl rfl) (by first | omega | assumption | exact r_zrg _ | exact hS.1 _ | exact hS.2 _ _ | exact stg_b hS _ _ | exact r_irg (by first | assumption | omega | exact hS.1 _ | exact hS.2 _ _ | exact stg_b hS _ _) (by first | assumption | omega | exact hS.1 _ | exact hS.2 _ _) | (dsimp only [q_sA]; omega) | exact r_oku (hS.2 _) (by omega)) (by first | omega | assumption | exact r_zrg _ | exact hS.1 _ | exact hS.2 _ _ | exact stg_b hS _ _ | exact r_irg (by first | assumption | omega | exact hS.1 _ | exact hS.2 _ _ | exact stg_b hS _ _) (by first | assumption | omega | exact hS.1 _ | exact hS.2 _ _) | (dsimp only [q_sA]; omega) | exact r_oku (hS.2 _) (by omega)) (by decide)) (by first | omega | assumption | exact r_zrg _ | exact hS.1 _ | exact hS.2 _ _ | exact stg_b hS _ _ | exact r_irg (by first | assumption | omega | exact hS.1 _ | exact hS.2 _ _ | exact stg_b hS _ _) (by first | assumption | omega | exact hS.1 _ | exact hS.2 _ _) | (dsimp only [q_sA]; omega) | exact r_oku (hS.2 _) (by omega))) (fun hp4 => (r_ge (r_fld (r_loc rfl rfl) gg_Outlines_foundCount) (r_len (r_fld (r_loc rfl rfl) gg_Outlines_found) ga_Outlines_found) (by first | omega | assumption | exact r_zrg _ | exact hS.1 _ | exact hS.2 _ _ | exact stg_b hS _ _ | exact r_irg (by first | assumption | omega | exact hS.1 _ | exact hS.2 _ _ | exact stg_b hS _ _) (by first | assumption | omega | exact hS.1 _ | exact hS.2 _ _) | (dsimp only [q_sA]; omega) | exact r_oku (hS.2 _) (by omega)) (by first | omega | assumption | exact r_zrg _ | exact hS.1 _ | exact hS.2 _ _ | exact stg_b hS _ _ | exact r_irg (by first | assumption | omega | exact hS.1 _ | exact hS.2 _ _ | exact stg_b hS _ _) (by first | assumption | omega | exact hS.1 _ | exact hS.2 _ _) | (dsimp only [q_sA]; omega) | exact r_oku (hS.2 _) (by omega))))) (fun hp5 => ?_) (fun hp6 => ?_)
    ·
      have hpT := hp5
      have hpT1 := hp5
      refine r_sret (r_lit ql_0) ?_
      refine r_ks (j := 3) ?_
      refine r_pret r_fit0 r_le0 ?_
      have hno : ¬ NC S k z x y := fun q => by
        obtain ⟨_, q1, q2⟩ := q
        rw [show 12 * y + x = 144 * 0 + 12 * y + x by omega] at q1
        omega
      exact ⟨_, rfl, S, (congrArg iv (r_z0 hno)).symm, rfl, hS, Int.le_refl _, fun q => absurd q hno, fun _ => rfl⟩
    ·
      have hpF := hp6
      have hpF1 := hp6
      have hg0 : S.2.1 6 (144 * 0 + 12 * y + x) = 0 := Classical.byContradiction (fun q => hpF1 (Or.inl q))
      have hc0 : S.1 7 < 144 := by omega
      refine wS_skip ?_
      refine r_k0 ?_
      refine r_seq ?_
      refine r_sput3 (r_fld (r_loc rfl rfl) gg_Outlines_isSeen) (r_loc rfl rfl) (r_lit ql_1) (r_putI ga_Outlines_isSeen gs_Outlines_isSeen (by first | omega | assumption | exact r_zrg _ | exact hS.1 _ | exact hS.2 _ _ | exact stg_b hS _ _ | exact r_irg (by first | assumption | omega | exact hS.1 _ | exact hS.2 _ _ | exact stg_b hS _ _) (by first | assumption | omega | exact hS.1 _ | exact hS.2 _ _) | (dsimp only [q_sA]; omega) | exact r_oku (hS.2 _) (by omega)) (by first | omega | assumption | exact r_zrg _ | exact hS.1 _ | exact hS.2 _ _ | exact stg_b hS _ _ | exact r_irg (by first | assumption | omega | exact hS.1 _ | exact hS.2 _ _ | exact stg_b hS _ _) (by first | assumption | omega | exact hS.1 _ | exact hS.2 _ _) | (dsimp only [q_sA]; omega) | exact r_oku (hS.2 _) (by omega)) (by decide) (q_narZ (by first | omega | assumption | exact r_zrg _ | exact hS.1 _ | exact hS.2 _ _ | exact stg_b hS _ _ | exact r_irg (by first | assumption | omega | exact hS.1 _ | exact hS.2 _ _ | exact stg_b hS _ _) (by first | assumption | omega | exact hS.1 _ | exact hS.2 _ _) | (dsimp only [q_sA]; omega) | exact r_oku (hS.2 _) (by omega)) (by first | omega | assumption | exact r_zrg _ | exact hS.1 _ | exact hS.2 _ _ | exact stg_b hS _ _ | exact r_irg (by first | assumption | omega | exact hS.1 _ | exact hS.2 _ _ | exact stg_b hS _ _) (by first | assumption | omega | exact hS.1 _ | exact hS.2 _ _) | (dsimp only [q_sA]; omega) | exact r_oku (hS.2 _) (by omega)))) ?_
      refine r_k0 ?_
      refine r_seq ?_
      refine r_sput3 (r_fld (r_loc rfl rfl) gg_Outlines_found) (r_fld (r_loc rfl rfl) gg_Outlines_foundCount) (r_loc rfl rfl) (r_putI ga_Outlines_found gs_Outlines_found (by first | omega | assumption | exact r_zrg _ | exact hS.1 _ | exact hS.2 _ _ | exact stg_b hS _ _ | exact r_irg (by first | assumption | omega | exact hS.1 _ | exact hS.2 _ _ | exact stg_b hS _ _) (by first | assumption | omega | exact hS.1 _ | exact hS.2 _ _) | (dsimp only [q_sA]; omega) | exact r_oku (hS.2 _) (by omega)) (by first | omega | assumption | exact r_zrg _ | exact hS.1 _ | exact hS.2 _ _ | exact stg_b hS _ _ | exact r_irg (by first | assumption | omega | exact hS.1 _ | exact hS.2 _ _ | exact stg_b hS _ _) (by first | assumption | omega | exact hS.1 _ | exact hS.2 _ _) | (dsimp only [q_sA]; omega) | exact r_oku (hS.2 _) (by omega)) (by decide) q_narI) ?_
      refine r_k0 ?_
      refine r_seq ?_
      refine r_sA1 (r_loc rfl rfl) gg_Outlines_foundCount (r_lit ql_1) r_iadd gp_Outlines_foundCount ?_
      refine r_k0 ?_
      refine r_sret (r_lit ql_1) ?_
      refine r_pret r_fit1 r_le0 ?_
      have hye : NC S k z x y := by
        refine ⟨⟨⟨i1, i2⟩, ?_⟩, by rw [show 12 * y + x = 144 * 0 + 12 * y + x by omega]; exact hg0, hc0⟩
        by_cases e : SOL (S.2.1 0) x y z
        · rw [r_z1 e] at hsk; exact ⟨fun _ => hsk.symm, fun _ => e⟩
        · rw [r_z0 e] at hsk; exact ⟨fun q => absurd q e, fun q => by omega⟩
      exact ⟨_, rfl, PUSH S (12 * y + x), (congrArg iv (r_z1 hye)).symm, by unfold PUSH; rw [show 144 * 0 + 12 * y + x = 12 * y + x by omega]; rfl, PUSH_ok hS (by omega) (by omega), (by rw [PUSH_n]; omega), fun _ => rfl, fun q => absurd hye q⟩
theorem sp_X5_noteAround {S : q_Sg} {c w : Nat} (hS : r_ok S) {x y x0 y0 : Int} {old : Int → Prop} {k z : Int} (hk : 0 ≤ k ∧ k ≤ 1) (hz : 0 ≤ z ∧ z < 12) (hp : PC (S.2.1 0) k z x y) (hr : RCH k (PC (S.2.1 0) k z) x0 y0 x y) (hb : BF (S.2.1 0) k z x0 y0 old S) (hg : ¬ S.2.1 6 (12 * y + x) = 0) (hno : ¬ old (12 * y + x)) (ho : ∀ s t s' t', PC (S.2.1 0) k z s t → PC (S.2.1 0) k z s' t' → AJ k s t s' t' → old (12 * t' + s') → old (12 * t + s))  : r_X f_X5_noteAround [.ref 26, iv x, iv y, iv z, iv k] (q_en S, c, w) (fun _ h2 => ∃ T, h2 = (q_en T, c, w) ∧ NA (S.2.1 0) k z x0 y0 old S T ∧ ∀ s t, PC (S.2.1 0) k z s t → AJ k x y s t → ¬ T.2.1 6 (12 * t + s) = 0) := by
  refine r_Xof (r_run (L := [_, _, _, _, _, _, _, _, _]) ⟨rfl, Nat.le_of_ble_eq_true rfl⟩ rfl ?_)
  unfold b_X5_noteAround
  have hxy := hp.1
  obtain ⟨⟨hx0, hx1⟩, hy0, hy1⟩ := id hxy
  refine r_seq ?_
  refine r_seq ?_
  refine r_sloc (L2 := [_, _, _, _, _, _, _, _, _]) (r_lit ql_0) rfl rfl ?_
  refine r_k0 ?_
  refine r_loop (T := Int × q_Sg × Option Value × Option Value × Option Value) (fun (σ : Int × q_Sg × Option Value × Option Value × Option Value) => match σ with | (i, U, o, o2, o3) => (0 ≤ i ∧ i ≤ 4) ∧ NA (S.2.1 0) k z x0 y0 old S U ∧ (∀ j, 0 ≤ j → j < i → PC (S.2.1 0) k z (x + r_t1 j) (y + r_t2 j) → ¬ U.2.1 6 (12 * (y + r_t2 j) + (x + r_t1 j)) = 0) ∧ (k = 0 → ∀ j, 0 ≤ j → j < i → PC (S.2.1 0) k z (x + r_t1 j + r_t1 ((j + 1) % 4)) (y + r_t2 j + r_t2 ((j + 1) % 4)) → ¬ U.2.1 6 (12 * (y + r_t2 j + r_t2 ((j + 1) % 4)) + (x + r_t1 j + r_t1 ((j + 1) % 4))) = 0)) (fun (σ : Int × q_Sg × Option Value × Option Value × Option Value) => match σ with | (i, U, o, o2, o3) => (4 - i).toNat) (fun (σ : Int × q_Sg × Option Value × Option Value × Option Value) => match σ with | (i, U, o, o2, o3) => [some (.ref 26), some (iv x), some (iv y), some (iv z), some (iv k), some (iv i), o, o2, o3]) (fun (σ : Int × q_Sg × Option Value × Option Value × Option Value) => match σ with | (i, U, o, o2, o3) => (q_en U, c, w)) (0, S, _, _, _) rfl rfl ?_ ?_ ?_
  · exact ⟨by omega, ⟨hS, r_frm r_fr0 (by decide) (by decide) (by decide), hb, fun _ _ => rfl, by omega, fun _ q => q⟩, fun j h0 h1 => by omega, fun _ j h0 h1 => by omega⟩
  · (show _ < 1000000); first | omega | (dsimp only; omega)
  · rintro ⟨i, U, o, o2, o3⟩ hP
    try dsimp only at hP ⊢
    obtain ⟨hi, hN, h4, h8⟩ := hP
    refine ⟨_, (r_lt (r_loc rfl rfl) (r_lit ql_4) (by first | omega | assumption | exact r_zrg _ | exact hS.1 _ | exact hS.2 _ _ | exact stg_b hS _ _ | exact r_irg (by first | assumption | omega | exact hS.1 _ | exact hS.2 _ _ | exact stg_b hS _ _) (by first | assumption | omega | exact hS.1 _ | exact hS.2 _ _) | exact hN.1 | exact hN.2.2.1.1.1 | (have hq7 := hN.2.2.1.1.1; omega)) (by first | omega | assumption | exact r_zrg _ | exact hS.1 _ | exact hS.2 _ _ | exact stg_b hS _ _ | exact r_irg (by first | assumption | omega | exact hS.1 _ | exact hS.2 _ _ | exact stg_b hS _ _) (by first | assumption | omega | exact hS.1 _ | exact hS.2 _ _) | exact hN.1 | exact hN.2.2.1.1.1 | (have hq7 := hN.2.2.1.1.1; omega))), fun hp1 => ?_, fun hp2 => ?_⟩
    ·
      refine r_k0 ?_
      refine wS_retv ?_
      refine r_pretv r_le0 ?_
      exact ⟨_, rfl, U, rfl, hN, fun s t q1 q2 => AJ_9 (Q := fun s t => PC (S.2.1 0) k z s t → ¬ U.2.1 6 (12 * t + s) = 0) hk q2 (fun _ => hN.2.2.2.2.2 _ hg) (fun j j0 j1 => h4 j j0 (by omega)) (fun q j j0 j1 => h8 q j j0 (by omega)) q1⟩
    ·
      have t1b := r_t1b i; have t2b := r_t2b i; have t3b := r_t1b ((i + 1) % 4); have t4b := r_t2b ((i + 1) % 4)
      have hU0 : U.2.1 0 = S.2.1 0 := hN.2.1.2.1 0 (by decide)
      have hnear : ∀ s t, PC (S.2.1 0) k z s t → AJ k x y s t → RCH k (PC (S.2.1 0) k z) x0 y0 s t ∧ ¬ old (12 * t + s) := fun s t q1 q2 => ⟨RCH_n hr q1 q2, fun q3 => hno (ho _ _ _ _ hp q1 q2 q3)⟩
      have ha4 : AJ k x y (x + r_t1 i) (y + r_t2 i) := by
        unfold AJ r_t1 r_t2; (repeat' split) <;> omega
      refine r_seq ?_
      refine r_sloc (L2 := [_, _, _, _, _, _, _, _, _]) (r_add (r_loc rfl rfl) (r_ro1 r_litr (r_loc rfl rfl) (by first | omega | assumption | exact r_zrg _ | exact hS.1 _ | exact hS.2 _ _ | exact stg_b hS _ _ | exact r_irg (by first | assumption | omega | exact hS.1 _ | exact hS.2 _ _ | exact stg_b hS _ _) (by first | assumption | omega | exact hS.1 _ | exact hS.2 _ _) | exact hN.1 | exact hN.2.2.1.1.1 | (have hq7 := hN.2.2.1.1.1; omega)) (by first | omega | assumption | exact r_zrg _ | exact hS.1 _ | exact hS.2 _ _ | exact stg_b hS _ _ | exact r_irg (by first | assumption | omega | exact hS.1 _ | exact hS.2 _ _ | exact stg_b hS _ _) (by first | assumption | omega | exact hS.1 _ | exact hS.2 _ _) | exact hN.1 | exact hN.2.2.1.1.1 | (have hq7 := hN.2.2.1.1.1; omega)))) rfl rfl ?_
      refine r_k0 ?_
      refine r_seq ?_
      refine r_sloc (L2 := [_, _, _, _, _, _, _, _, _]) (r_add (r_loc rfl rfl) (r_ro2 r_litr (r_loc rfl rfl) (by first | omega | assumption | exact r_zrg _ | exact hS.1 _ | exact hS.2 _ _ | exact stg_b hS _ _ | exact r_irg (by first | assumption | omega | exact hS.1 _ | exact hS.2 _ _ | exact stg_b hS _ _) (by first | assumption | omega | exact hS.1 _ | exact hS.2 _ _) | exact hN.1 | exact hN.2.2.1.1.1 | (have hq7 := hN.2.2.1.1.1; omega)) (by first | omega | assumption | exact r_zrg _ | exact hS.1 _ | exact hS.2 _ _ | exact stg_b hS _ _ | exact r_irg (by first | assumption | omega | exact hS.1 _ | exact hS.2 _ _ | exact stg_b hS _ _) (by first | assumption | omega | exact hS.1 _ | exact hS.2 _ _) | exact hN.1 | exact hN.2.2.1.1.1 | (have hq7 := hN.2.2.1.1.1; omega)))) rfl rfl ?_
      refine r_k0 ?_
      refine r_seq ?_
      refine r_spopC (r_callC (r_cons (r_loc rfl rfl) (r_cons (r_loc rfl rfl) (r_cons (r_loc rfl rfl) (r_cons (r_loc rfl rfl) (r_cons (r_loc rfl rfl) r_nil))))) rfl (sp_X5_note (by first | omega | assumption | exact r_zrg _ | exact hS.1 _ | exact hS.2 _ _ | exact stg_b hS _ _ | exact r_irg (by first | assumption | omega | exact hS.1 _ | exact hS.2 _ _ | exact stg_b hS _ _) (by first | assumption | omega | exact hS.1 _ | exact hS.2 _ _) | exact hN.1 | exact hN.2.2.1.1.1 | (have hq7 := hN.2.2.1.1.1; omega)) (by first | omega | assumption | exact r_zrg _ | exact hS.1 _ | exact hS.2 _ _ | exact stg_b hS _ _ | exact r_irg (by first | assumption | omega | exact hS.1 _ | exact hS.2 _ _ | exact stg_b hS _ _) (by first | assumption | omega | exact hS.1 _ | exact hS.2 _ _) | exact hN.1 | exact hN.2.2.1.1.1 | (have hq7 := hN.2.2.1.1.1; omega)) (by first | omega | assumption | exact r_zrg _ | exact hS.1 _ | exact hS.2 _ _ | exact stg_b hS _ _ | exact r_irg (by first | assumption | omega | exact hS.1 _ | exact hS.2 _ _ | exact stg_b hS _ _) (by first | assumption | omega | exact hS.1 _ | exact hS.2 _ _) | exact hN.1 | exact hN.2.2.1.1.1 | (have hq7 := hN.2.2.1.1.1; omega)) (by first | omega | assumption | exact r_zrg _ | exact hS.1 _ | exact hS.2 _ _ | exact stg_b hS _ _ | exact r_irg (by first | assumption | omega | exact hS.1 _ | exact hS.2 _ _ | exact stg_b hS _ _) (by first | assumption | omega | exact hS.1 _ | exact hS.2 _ _) | exact hN.1 | exact hN.2.2.1.1.1 | (have hq7 := hN.2.2.1.1.1; omega)) (by first | omega | assumption | exact r_zrg _ | exact hS.1 _ | exact hS.2 _ _ | exact stg_b hS _ _ | exact r_irg (by first | assumption | omega | exact hS.1 _ | exact hS.2 _ _ | exact stg_b hS _ _) (by first | assumption | omega | exact hS.1 _ | exact hS.2 _ _) | exact hN.1 | exact hN.2.2.1.1.1 | (have hq7 := hN.2.2.1.1.1; omega)) (by first | omega | assumption | exact r_zrg _ | exact hS.1 _ | exact hS.2 _ _ | exact stg_b hS _ _ | exact r_irg (by first | assumption | omega | exact hS.1 _ | exact hS.2 _ _ | exact stg_b hS _ _) (by first | assumption | omega | exact hS.1 _ | exact hS.2 _ _) | exact hN.1 | exact hN.2.2.1.1.1 | (have hq7 := hN.2.2.1.1.1; omega))) (by rintro _ _ ⟨Tz, rfl, rfl, hTz, hlz, hnz⟩; rfl)) ?_
      rintro _ _ ⟨T1, rfl, rfl, hT1, hl1, hn1⟩
      refine r_k0 ?_
      refine r_sif (r_not (r_z_ne (r_loc rfl rfl) (by first | omega | assumption | exact r_zrg _ | exact hS.1 _ | exact hS.2 _ _ | exact stg_b hS _ _ | exact r_irg (by first | assumption | omega | exact hS.1 _ | exact hS.2 _ _ | exact stg_b hS _ _) (by first | assumption | omega | exact hS.1 _ | exact hS.2 _ _) | exact hN.1 | exact hN.2.2.1.1.1 | (have hq7 := hN.2.2.1.1.1; omega)))) (fun hp3 => ?_) (fun hp4 => ?_)
      ·
        have hpT := hp3
        have hpT0 := hp3
        refine r_seq ?_
        refine r_sloc (L2 := [_, _, _, _, _, _, _, _, _]) (r_call (r_cons (r_loc rfl rfl) (r_cons (r_lit ql_1) r_nil)) rfl (sp_X5_turned (by first | omega | assumption | exact r_zrg _ | exact hS.1 _ | exact hS.2 _ _ | exact stg_b hS _ _ | exact r_irg (by first | assumption | omega | exact hS.1 _ | exact hS.2 _ _ | exact stg_b hS _ _) (by first | assumption | omega | exact hS.1 _ | exact hS.2 _ _) | exact hN.1 | exact hN.2.2.1.1.1 | (have hq7 := hN.2.2.1.1.1; omega)) (by first | omega | assumption | exact r_zrg _ | exact hS.1 _ | exact hS.2 _ _ | exact stg_b hS _ _ | exact r_irg (by first | assumption | omega | exact hS.1 _ | exact hS.2 _ _ | exact stg_b hS _ _) (by first | assumption | omega | exact hS.1 _ | exact hS.2 _ _) | exact hN.1 | exact hN.2.2.1.1.1 | (have hq7 := hN.2.2.1.1.1; omega))) rfl) rfl rfl ?_
        refine r_k0 ?_
        refine r_spopC (r_callC (r_cons (r_loc rfl rfl) (r_cons (r_add (r_loc rfl rfl) (r_ro1 r_litr (r_loc rfl rfl) (by first | omega | assumption | exact r_zrg _ | exact hS.1 _ | exact hS.2 _ _ | exact stg_b hS _ _ | exact r_irg (by first | assumption | omega | exact hS.1 _ | exact hS.2 _ _ | exact stg_b hS _ _) (by first | assumption | omega | exact hS.1 _ | exact hS.2 _ _) | exact hN.1 | exact hN.2.2.1.1.1 | (have hq7 := hN.2.2.1.1.1; omega)) (by first | omega | assumption | exact r_zrg _ | exact hS.1 _ | exact hS.2 _ _ | exact stg_b hS _ _ | exact r_irg (by first | assumption | omega | exact hS.1 _ | exact hS.2 _ _ | exact stg_b hS _ _) (by first | assumption | omega | exact hS.1 _ | exact hS.2 _ _) | exact hN.1 | exact hN.2.2.1.1.1 | (have hq7 := hN.2.2.1.1.1; omega)))) (r_cons (r_add (r_loc rfl rfl) (r_ro2 r_litr (r_loc rfl rfl) (by first | omega | assumption | exact r_zrg _ | exact hS.1 _ | exact hS.2 _ _ | exact stg_b hS _ _ | exact r_irg (by first | assumption | omega | exact hS.1 _ | exact hS.2 _ _ | exact stg_b hS _ _) (by first | assumption | omega | exact hS.1 _ | exact hS.2 _ _) | exact hN.1 | exact hN.2.2.1.1.1 | (have hq7 := hN.2.2.1.1.1; omega)) (by first | omega | assumption | exact r_zrg _ | exact hS.1 _ | exact hS.2 _ _ | exact stg_b hS _ _ | exact r_irg (by first | assumption | omega | exact hS.1 _ | exact hS.2 _ _ | exact stg_b hS _ _) (by first | assumption | omega | exact hS.1 _ | exact hS.2 _ _) | exact hN.1 | exact hN.2.2.1.1.1 | (have hq7 := hN.2.2.1.1.1; omega)))) (r_cons (r_loc rfl rfl) (r_cons (r_lit ql_0) r_nil))))) rfl (sp_X5_note (by first | omega | assumption | exact r_zrg _ | exact hS.1 _ | exact hS.2 _ _ | exact stg_b hS _ _ | exact r_irg (by first | assumption | omega | exact hS.1 _ | exact hS.2 _ _ | exact stg_b hS _ _) (by first | assumption | omega | exact hS.1 _ | exact hS.2 _ _) | exact hN.1 | exact hN.2.2.1.1.1 | (have hq7 := hN.2.2.1.1.1; omega)) (by first | omega | assumption | exact r_zrg _ | exact hS.1 _ | exact hS.2 _ _ | exact stg_b hS _ _ | exact r_irg (by first | assumption | omega | exact hS.1 _ | exact hS.2 _ _ | exact stg_b hS _ _) (by first | assumption | omega | exact hS.1 _ | exact hS.2 _ _) | exact hN.1 | exact hN.2.2.1.1.1 | (have hq7 := hN.2.2.1.1.1; omega)) (by first | omega | assumption | exact r_zrg _ | exact hS.1 _ | exact hS.2 _ _ | exact stg_b hS _ _ | exact r_irg (by first | assumption | omega | exact hS.1 _ | exact hS.2 _ _ | exact stg_b hS _ _) (by first | assumption | omega | exact hS.1 _ | exact hS.2 _ _) | exact hN.1 | exact hN.2.2.1.1.1 | (have hq7 := hN.2.2.1.1.1; omega)) (by first | omega | assumption | exact r_zrg _ | exact hS.1 _ | exact hS.2 _ _ | exact stg_b hS _ _ | exact r_irg (by first | assumption | omega | exact hS.1 _ | exact hS.2 _ _ | exact stg_b hS _ _) (by first | assumption | omega | exact hS.1 _ | exact hS.2 _ _) | exact hN.1 | exact hN.2.2.1.1.1 | (have hq7 := hN.2.2.1.1.1; omega)) (by first | omega | assumption | exact r_zrg _ | exact hS.1 _ | exact hS.2 _ _ | exact stg_b hS _ _ | exact r_irg (by first | assumption | omega | exact hS.1 _ | exact hS.2 _ _ | exact stg_b hS _ _) (by first | assumption | omega | exact hS.1 _ | exact hS.2 _ _) | exact hN.1 | exact hN.2.2.1.1.1 | (have hq7 := hN.2.2.1.1.1; omega)) (by first | omega | assumption | exact r_zrg _ | exact hS.1 _ | exact hS.2 _ _ | exact stg_b hS _ _ | exact r_irg (by first | assumption | omega | exact hS.1 _ | exact hS.2 _ _ | exact stg_b hS _ _) (by first | assumption | omega | exact hS.1 _ | exact hS.2 _ _) | exact hN.1 | exact hN.2.2.1.1.1 | (have hq7 := hN.2.2.1.1.1; omega))) (by rintro _ _ ⟨Tz, rfl, rfl, hTz, hlz, hnz⟩; rfl)) ?_
        rintro _ _ ⟨T2, rfl, rfl, hT2, hl2, hn2⟩
        refine r_l0 ?_
        refine r_sinc (L2 := [_, _, _, _, _, _, _, _, _]) rfl rfl ?_
        refine r_lend (i + 1, T2, _, _, _) rfl rfl ?_ (by first | omega | (dsimp only; omega))
        try dsimp only
        have hk0 : k = 0 := by omega
        obtain ⟨hN1, hs1, hm1⟩ := NA_n hN hn1 hU0 (fun q => hnear _ _ q ha4)
        have hU1 : T1.2.1 0 = S.2.1 0 := hN1.2.1.2.1 0 (by decide)
        have hn2' : NTE T1 T2 k z (x + r_t1 i + r_t1 ((i + 1) % 4)) (y + r_t2 i + r_t2 ((i + 1) % 4)) := by rw [hk0]; exact hn2
        have ha8 : AJ k x y (x + r_t1 i + r_t1 ((i + 1) % 4)) (y + r_t2 i + r_t2 ((i + 1) % 4)) := by
          have h5 : r_t1 i + r_t1 ((i + 1) % 4) ≤ 1 ∧ -1 ≤ r_t1 i + r_t1 ((i + 1) % 4) ∧ r_t2 i + r_t2 ((i + 1) % 4) ≤ 1 ∧ -1 ≤ r_t2 i + r_t2 ((i + 1) % 4) := by unfold r_t1 r_t2; (repeat' split) <;> omega
          exact ⟨by omega, fun q => by omega⟩
        obtain ⟨hN2, hs2, hm2⟩ := NA_n hN1 hn2' hU1 (fun q => hnear _ _ q ha8)
        refine ⟨by omega, hN2, fun j j0 j1 hq => ?_, fun _ j j0 j1 hq => ?_⟩
        · by_cases e : j = i
          · rw [e] at hq ⊢; exact hm2 _ (hs1 hq)
          · exact hm2 _ (hm1 _ (h4 j j0 (by omega) hq))
        · by_cases e : j = i
          · rw [e] at hq ⊢; exact hs2 hq
          · exact hm2 _ (hm1 _ (h8 hk0 j j0 (by omega) hq))
      ·
        have hpF := hp4
        have hpF0 := hp4
        refine wS_skip ?_
        refine r_l0 ?_
        refine r_sinc (L2 := [_, _, _, _, _, _, _, _, _]) rfl rfl ?_
        refine r_lend (i + 1, T1, _, _, _) rfl rfl ?_ (by first | omega | (dsimp only; omega))
        try dsimp only
        obtain ⟨hN1, hs1, hm1⟩ := NA_n hN hn1 hU0 (fun q => hnear _ _ q ha4)
        refine ⟨by omega, hN1, fun j j0 j1 hq => ?_, fun q => absurd q (by omega)⟩
        by_cases e : j = i
        · rw [e] at hq ⊢; exact hs1 hq
        · exact hm1 _ (h4 j j0 (by omega) hq)
theorem sp_X5_completeSet {S : q_Sg} {c w : Nat} (hS : r_ok S) {x0 y0 : Int} {old : Int → Prop} {k z : Int} (hk : 0 ≤ k ∧ k ≤ 1) (hz : 0 ≤ z ∧ z < 12) (hp : PC (S.2.1 0) k z x0 y0) (hb : BF (S.2.1 0) k z x0 y0 old S) (h1 : S.1 7 = 1 ∧ S.2.1 7 0 = 12 * y0 + x0) (ho : ∀ s t s' t', PC (S.2.1 0) k z s t → PC (S.2.1 0) k z s' t' → AJ k s t s' t' → old (12 * t' + s') → old (12 * t + s))  : r_X f_X5_completeSet [.ref 26, iv z, iv k] (q_en S, c, w) (fun r h2 => ∃ T, r = r_b (∃ s t, PC (S.2.1 0) k z s t ∧ RCH k (PC (S.2.1 0) k z) x0 y0 s t ∧ BRD s t) ∧ h2 = (q_en T, c, w) ∧ r_ok T ∧ r_fr [7] [7, 6] [] S T ∧ ∀ v, 0 ≤ v → v < 144 → (¬ T.2.1 6 v = 0 ↔ old v ∨ (PC (S.2.1 0) k z (v % 12) (v / 12) ∧ RCH k (PC (S.2.1 0) k z) x0 y0 (v % 12) (v / 12)))) := by
  refine r_Xof (r_run (L := [_, _, _, _, _, _, _]) ⟨rfl, Nat.le_of_ble_eq_true rfl⟩ rfl ?_)
  unfold b_X5_completeSet
  have hxy := hp.1
  refine r_seq ?_
  refine r_sloc (L2 := [_, _, _, _, _, _, _]) (r_lit ql_0) rfl rfl ?_
  refine r_k0 ?_
  refine r_seq ?_
  refine r_seq ?_
  refine r_sloc (L2 := [_, _, _, _, _, _, _]) (r_lit ql_0) rfl rfl ?_
  refine r_k0 ?_
  refine r_loop (T := Int × Int × q_Sg × Option Value × Option Value) (fun (σ : Int × Int × q_Sg × Option Value × Option Value) => match σ with | (i, m, U, o, o2) => 0 ≤ i ∧ i ≤ U.1 7 ∧ NA (S.2.1 0) k z x0 y0 old S U ∧ (m = r_z (∃ j, (0 ≤ j ∧ j < i) ∧ BRD (U.2.1 7 j % 12) (U.2.1 7 j / 12))) ∧ ∀ j, 0 ≤ j → j < i → ∀ s t, PC (S.2.1 0) k z s t → AJ k (U.2.1 7 j % 12) (U.2.1 7 j / 12) s t → ¬ U.2.1 6 (12 * t + s) = 0) (fun (σ : Int × Int × q_Sg × Option Value × Option Value) => match σ with | (i, m, U, o, o2) => (145 - i).toNat) (fun (σ : Int × Int × q_Sg × Option Value × Option Value) => match σ with | (i, m, U, o, o2) => [some (.ref 26), some (iv z), some (iv k), some (iv m), some (iv i), o, o2]) (fun (σ : Int × Int × q_Sg × Option Value × Option Value) => match σ with | (i, m, U, o, o2) => (q_en U, c, w)) (0, 0, S, _, _) rfl rfl ?_ ?_ ?_
  · exact ⟨by omega, by omega, ⟨hS, r_frm r_fr0 (by decide) (by decide) (by decide), hb, fun _ _ => rfl, by omega, fun _ q => q⟩, (r_z0 (fun ⟨j, j1, _⟩ => by omega)).symm, fun j h0 h1 => by omega⟩
  · (show _ < 1000000); first | omega | (dsimp only; omega)
  · rintro ⟨i, m, U, o, o2⟩ hP
    try dsimp only at hP ⊢
    obtain ⟨hi0, hi1, hN, hm, hc⟩ := hP
    have hm01 : 0 ≤ m ∧ m ≤ 1 := by rw [hm]; unfold r_z; split <;> omega
    have hn144 := hN.2.2.1.1
    refine ⟨_, (r_and (r_lt (r_loc rfl rfl) (r_fld (r_loc rfl rfl) gg_Outlines_foundCount) (by first | omega | assumption | exact r_zrg _ | exact hS.1 _ | exact hS.2 _ _ | exact stg_b hS _ _ | exact r_irg (by first | assumption | omega | exact hS.1 _ | exact hS.2 _ _ | exact stg_b hS _ _) (by first | assumption | omega | exact hS.1 _ | exact hS.2 _ _) | exact hN.1 | exact hbi.1.1 | exact hbi.1.2 | (have hq7 := hN.2.2.1.1; omega)) (by first | omega | assumption | exact r_zrg _ | exact hS.1 _ | exact hS.2 _ _ | exact stg_b hS _ _ | exact r_irg (by first | assumption | omega | exact hS.1 _ | exact hS.2 _ _ | exact stg_b hS _ _) (by first | assumption | omega | exact hS.1 _ | exact hS.2 _ _) | exact hN.1 | exact hbi.1.1 | exact hbi.1.2 | (have hq7 := hN.2.2.1.1; omega))) (fun hp3 => (r_lt (r_loc rfl rfl) (r_len (r_fld (r_loc rfl rfl) gg_Outlines_found) ga_Outlines_found) (by first | omega | assumption | exact r_zrg _ | exact hS.1 _ | exact hS.2 _ _ | exact stg_b hS _ _ | exact r_irg (by first | assumption | omega | exact hS.1 _ | exact hS.2 _ _ | exact stg_b hS _ _) (by first | assumption | omega | exact hS.1 _ | exact hS.2 _ _) | exact hN.1 | exact hbi.1.1 | exact hbi.1.2 | (have hq7 := hN.2.2.1.1; omega)) (by first | omega | assumption | exact r_zrg _ | exact hS.1 _ | exact hS.2 _ _ | exact stg_b hS _ _ | exact r_irg (by first | assumption | omega | exact hS.1 _ | exact hS.2 _ _ | exact stg_b hS _ _) (by first | assumption | omega | exact hS.1 _ | exact hS.2 _ _) | exact hN.1 | exact hbi.1.1 | exact hbi.1.2 | (have hq7 := hN.2.2.1.1; omega))))), fun hp1 => ?_, fun hp2 => ?_⟩
    ·
      have hn144 := hN.2.2.1.1
      have hie : i = U.1 7 := by omega
      refine r_k0 ?_
      refine r_sret (r_loc rfl rfl) ?_
      refine r_pret (q_fit_bool (by first | omega | assumption | exact r_zrg _ | exact hS.1 _ | exact hS.2 _ _ | exact stg_b hS _ _ | exact r_irg (by first | assumption | omega | exact hS.1 _ | exact hS.2 _ _ | exact stg_b hS _ _) (by first | assumption | omega | exact hS.1 _ | exact hS.2 _ _) | exact hN.1 | exact hbi.1.1 | exact hbi.1.2 | (have hq7 := hN.2.2.1.1; omega)) (by first | omega | assumption | exact r_zrg _ | exact hS.1 _ | exact hS.2 _ _ | exact stg_b hS _ _ | exact r_irg (by first | assumption | omega | exact hS.1 _ | exact hS.2 _ _ | exact stg_b hS _ _) (by first | assumption | omega | exact hS.1 _ | exact hS.2 _ _) | exact hN.1 | exact hbi.1.1 | exact hbi.1.2 | (have hq7 := hN.2.2.1.1; omega))) r_le0 ?_
      obtain ⟨n1, n2, n3, n4, n5, n6⟩ := hN
      have hall := BF_e n3 hp (by rw [n4 0 (by omega)]; exact ⟨by omega, h1.2⟩) ho (fun j j0 j1 => hc j j0 (by omega))
      refine ⟨_, rfl, U, ?_, rfl, n1, n2, fun v v0 v1 => ?_⟩
      · rw [hm]
        refine congrArg iv (r_zc ⟨fun ⟨j, j1, j2⟩ => ?_, fun ⟨s, t, q1, q2, q3⟩ => ?_⟩)
        · have hj := n3.2.1 j j1.1 (by omega)
          exact ⟨_, _, hj.2.2.1, hj.2.1, j2⟩
        · obtain ⟨j, j1, j2⟩ := hall s t q2
          have q0 := q1.1
          exact ⟨j, by omega, by rw [j2, show (12 * t + s) % 12 = s by omega, show (12 * t + s) / 12 = t by omega]; exact q3⟩
      · refine (n3.2.2.2 v v0 v1).trans ⟨fun q => q.imp id (fun ⟨j, j1, j2⟩ => ?_), fun q => q.imp id (fun ⟨q1, q2⟩ => ?_)⟩
        · have hj := n3.2.1 j j1.1 j1.2
          rw [j2] at hj
          exact ⟨hj.2.2.1, hj.2.1⟩
        · obtain ⟨j, j1, j2⟩ := hall _ _ q2
          exact ⟨j, j1, by rw [j2]; omega⟩
    ·
      have hU0 : U.2.1 0 = S.2.1 0 := hN.2.1.2.1 0 (by decide)
      have hn144 := hN.2.2.1.1
      have hbi := hN.2.2.1.2.1 i hi0 (by omega)
      have hb0 := hbi.1
      have hgi : ¬ U.2.1 6 (U.2.1 7 i) = 0 := (hN.2.2.1.2.2.2 _ hbi.1.1 hbi.1.2).mpr (Or.inr ⟨i, by omega, rfl⟩)
      have he12 : 12 * (U.2.1 7 i / 12) + U.2.1 7 i % 12 = U.2.1 7 i := by omega
      have z1 : PC (U.2.1 0) k z (U.2.1 7 i % 12) (U.2.1 7 i / 12) := by rw [hU0]; exact hbi.2.2.1
      have z2 : RCH k (PC (U.2.1 0) k z) x0 y0 (U.2.1 7 i % 12) (U.2.1 7 i / 12) := by rw [hU0]; exact hbi.2.1
      have z3 : BF (U.2.1 0) k z x0 y0 old U := by rw [hU0]; exact hN.2.2.1
      have z4 : ¬ U.2.1 6 (12 * (U.2.1 7 i / 12) + U.2.1 7 i % 12) = 0 := by rw [he12]; exact hgi
      have z5 : ¬ old (12 * (U.2.1 7 i / 12) + U.2.1 7 i % 12) := by rw [he12]; exact hbi.2.2.2
      have z6 : ∀ s t s' t', PC (U.2.1 0) k z s t → PC (U.2.1 0) k z s' t' → AJ k s t s' t' → old (12 * t' + s') → old (12 * t + s) := by rw [hU0]; exact ho
      refine r_seq ?_
      refine r_sloc (L2 := [_, _, _, _, _, _, _]) (r_rem (r_aget ga_Outlines_found (r_fld (r_loc rfl rfl) gg_Outlines_found) (r_loc rfl rfl) (by first | omega | assumption | exact r_zrg _ | exact hS.1 _ | exact hS.2 _ _ | exact stg_b hS _ _ | exact r_irg (by first | assumption | omega | exact hS.1 _ | exact hS.2 _ _ | exact stg_b hS _ _) (by first | assumption | omega | exact hS.1 _ | exact hS.2 _ _) | exact hN.1 | exact hbi.1.1 | exact hbi.1.2 | (have hq7 := hN.2.2.1.1; omega)) (by first | omega | assumption | exact r_zrg _ | exact hS.1 _ | exact hS.2 _ _ | exact stg_b hS _ _ | exact r_irg (by first | assumption | omega | exact hS.1 _ | exact hS.2 _ _ | exact stg_b hS _ _) (by first | assumption | omega | exact hS.1 _ | exact hS.2 _ _) | exact hN.1 | exact hbi.1.1 | exact hbi.1.2 | (have hq7 := hN.2.2.1.1; omega)) (by decide)) (r_lit ql_12) (by first | omega | assumption | exact r_zrg _ | exact hS.1 _ | exact hS.2 _ _ | exact stg_b hS _ _ | exact r_irg (by first | assumption | omega | exact hS.1 _ | exact hS.2 _ _ | exact stg_b hS _ _) (by first | assumption | omega | exact hS.1 _ | exact hS.2 _ _) | exact hN.1 | exact hbi.1.1 | exact hbi.1.2 | (have hq7 := hN.2.2.1.1; omega)) (by first | omega | assumption | exact r_zrg _ | exact hS.1 _ | exact hS.2 _ _ | exact stg_b hS _ _ | exact r_irg (by first | assumption | omega | exact hS.1 _ | exact hS.2 _ _ | exact stg_b hS _ _) (by first | assumption | omega | exact hS.1 _ | exact hS.2 _ _) | exact hN.1 | exact hbi.1.1 | exact hbi.1.2 | (have hq7 := hN.2.2.1.1; omega)) (by first | omega | assumption | exact r_zrg _ | exact hS.1 _ | exact hS.2 _ _ | exact stg_b hS _ _ | exact r_irg (by first | assumption | omega | exact hS.1 _ | exact hS.2 _ _ | exact stg_b hS _ _) (by first | assumption | omega | exact hS.1 _ | exact hS.2 _ _) | exact hN.1 | exact hbi.1.1 | exact hbi.1.2 | (have hq7 := hN.2.2.1.1; omega)) (by first | omega | assumption | exact r_zrg _ | exact hS.1 _ | exact hS.2 _ _ | exact stg_b hS _ _ | exact r_irg (by first | assumption | omega | exact hS.1 _ | exact hS.2 _ _ | exact stg_b hS _ _) (by first | assumption | omega | exact hS.1 _ | exact hS.2 _ _) | exact hN.1 | exact hbi.1.1 | exact hbi.1.2 | (have hq7 := hN.2.2.1.1; omega))) rfl rfl ?_
      refine r_k0 ?_
      refine r_seq ?_
      refine r_sloc (L2 := [_, _, _, _, _, _, _]) (r_div (r_aget ga_Outlines_found (r_fld (r_loc rfl rfl) gg_Outlines_found) (r_loc rfl rfl) (by first | omega | assumption | exact r_zrg _ | exact hS.1 _ | exact hS.2 _ _ | exact stg_b hS _ _ | exact r_irg (by first | assumption | omega | exact hS.1 _ | exact hS.2 _ _ | exact stg_b hS _ _) (by first | assumption | omega | exact hS.1 _ | exact hS.2 _ _) | exact hN.1 | exact hbi.1.1 | exact hbi.1.2 | (have hq7 := hN.2.2.1.1; omega)) (by first | omega | assumption | exact r_zrg _ | exact hS.1 _ | exact hS.2 _ _ | exact stg_b hS _ _ | exact r_irg (by first | assumption | omega | exact hS.1 _ | exact hS.2 _ _ | exact stg_b hS _ _) (by first | assumption | omega | exact hS.1 _ | exact hS.2 _ _) | exact hN.1 | exact hbi.1.1 | exact hbi.1.2 | (have hq7 := hN.2.2.1.1; omega)) (by decide)) (r_lit ql_12) (by first | omega | assumption | exact r_zrg _ | exact hS.1 _ | exact hS.2 _ _ | exact stg_b hS _ _ | exact r_irg (by first | assumption | omega | exact hS.1 _ | exact hS.2 _ _ | exact stg_b hS _ _) (by first | assumption | omega | exact hS.1 _ | exact hS.2 _ _) | exact hN.1 | exact hbi.1.1 | exact hbi.1.2 | (have hq7 := hN.2.2.1.1; omega)) (by first | omega | assumption | exact r_zrg _ | exact hS.1 _ | exact hS.2 _ _ | exact stg_b hS _ _ | exact r_irg (by first | assumption | omega | exact hS.1 _ | exact hS.2 _ _ | exact stg_b hS _ _) (by first | assumption | omega | exact hS.1 _ | exact hS.2 _ _) | exact hN.1 | exact hbi.1.1 | exact hbi.1.2 | (have hq7 := hN.2.2.1.1; omega)) (by first | omega | assumption | exact r_zrg _ | exact hS.1 _ | exact hS.2 _ _ | exact stg_b hS _ _ | exact r_irg (by first | assumption | omega | exact hS.1 _ | exact hS.2 _ _ | exact stg_b hS _ _) (by first | assumption | omega | exact hS.1 _ | exact hS.2 _ _) | exact hN.1 | exact hbi.1.1 | exact hbi.1.2 | (have hq7 := hN.2.2.1.1; omega)) (by first | omega | assumption | exact r_zrg _ | exact hS.1 _ | exact hS.2 _ _ | exact stg_b hS _ _ | exact r_irg (by first | assumption | omega | exact hS.1 _ | exact hS.2 _ _ | exact stg_b hS _ _) (by first | assumption | omega | exact hS.1 _ | exact hS.2 _ _) | exact hN.1 | exact hbi.1.1 | exact hbi.1.2 | (have hq7 := hN.2.2.1.1; omega))) rfl rfl ?_
      refine r_k0 ?_
      refine r_seq ?_
      refine r_sloc (L2 := [_, _, _, _, _, _, _]) (r_if10 (r_or (r_or (r_z_ne (r_loc rfl rfl) (by first | omega | assumption | exact r_zrg _ | exact hS.1 _ | exact hS.2 _ _ | exact stg_b hS _ _ | exact r_irg (by first | assumption | omega | exact hS.1 _ | exact hS.2 _ _ | exact stg_b hS _ _) (by first | assumption | omega | exact hS.1 _ | exact hS.2 _ _) | exact hN.1 | exact hbi.1.1 | exact hbi.1.2 | (have hq7 := hN.2.2.1.1; omega))) (fun hp4 => (r_bz (r_call (r_cons (r_loc rfl rfl) r_nil) rfl (sp_X5_isAtEnd (by first | omega | assumption | exact r_zrg _ | exact hS.1 _ | exact hS.2 _ _ | exact stg_b hS _ _ | exact r_irg (by first | assumption | omega | exact hS.1 _ | exact hS.2 _ _ | exact stg_b hS _ _) (by first | assumption | omega | exact hS.1 _ | exact hS.2 _ _) | exact hN.1 | exact hbi.1.1 | exact hbi.1.2 | (have hq7 := hN.2.2.1.1; omega))) rfl)))) (fun hp5 => (r_bz (r_call (r_cons (r_loc rfl rfl) r_nil) rfl (sp_X5_isAtEnd (by first | omega | assumption | exact r_zrg _ | exact hS.1 _ | exact hS.2 _ _ | exact stg_b hS _ _ | exact r_irg (by first | assumption | omega | exact hS.1 _ | exact hS.2 _ _ | exact stg_b hS _ _) (by first | assumption | omega | exact hS.1 _ | exact hS.2 _ _) | exact hN.1 | exact hbi.1.1 | exact hbi.1.2 | (have hq7 := hN.2.2.1.1; omega))) rfl))))) rfl rfl ?_
      refine r_k0 ?_
      refine r_call0 (r_cons (r_loc rfl rfl) (r_cons (r_loc rfl rfl) (r_cons (r_loc rfl rfl) (r_cons (r_loc rfl rfl) (r_cons (r_loc rfl rfl) r_nil))))) rfl (sp_X5_noteAround (by first | omega | assumption | exact r_zrg _ | exact hS.1 _ | exact hS.2 _ _ | exact stg_b hS _ _ | exact r_irg (by first | assumption | omega | exact hS.1 _ | exact hS.2 _ _ | exact stg_b hS _ _) (by first | assumption | omega | exact hS.1 _ | exact hS.2 _ _) | exact hN.1 | exact hbi.1.1 | exact hbi.1.2 | (have hq7 := hN.2.2.1.1; omega)) (by first | omega | assumption | exact r_zrg _ | exact hS.1 _ | exact hS.2 _ _ | exact stg_b hS _ _ | exact r_irg (by first | assumption | omega | exact hS.1 _ | exact hS.2 _ _ | exact stg_b hS _ _) (by first | assumption | omega | exact hS.1 _ | exact hS.2 _ _) | exact hN.1 | exact hbi.1.1 | exact hbi.1.2 | (have hq7 := hN.2.2.1.1; omega)) (by first | omega | assumption | exact r_zrg _ | exact hS.1 _ | exact hS.2 _ _ | exact stg_b hS _ _ | exact r_irg (by first | assumption | omega | exact hS.1 _ | exact hS.2 _ _ | exact stg_b hS _ _) (by first | assumption | omega | exact hS.1 _ | exact hS.2 _ _) | exact hN.1 | exact hbi.1.1 | exact hbi.1.2 | (have hq7 := hN.2.2.1.1; omega)) (by first | omega | assumption | exact r_zrg _ | exact hS.1 _ | exact hS.2 _ _ | exact stg_b hS _ _ | exact r_irg (by first | assumption | omega | exact hS.1 _ | exact hS.2 _ _ | exact stg_b hS _ _) (by first | assumption | omega | exact hS.1 _ | exact hS.2 _ _) | exact hN.1 | exact hbi.1.1 | exact hbi.1.2 | (have hq7 := hN.2.2.1.1; omega)) (by first | omega | assumption | exact r_zrg _ | exact hS.1 _ | exact hS.2 _ _ | exact stg_b hS _ _ | exact r_irg (by first | assumption | omega | exact hS.1 _ | exact hS.2 _ _ | exact stg_b hS _ _) (by first | assumption | omega | exact hS.1 _ | exact hS.2 _ _) | exact hN.1 | exact hbi.1.1 | exact hbi.1.2 | (have hq7 := hN.2.2.1.1; omega)) (by first | omega | assumption | exact r_zrg _ | exact hS.1 _ | exact hS.2 _ _ | exact stg_b hS _ _ | exact r_irg (by first | assumption | omega | exact hS.1 _ | exact hS.2 _ _ | exact stg_b hS _ _) (by first | assumption | omega | exact hS.1 _ | exact hS.2 _ _) | exact hN.1 | exact hbi.1.1 | exact hbi.1.2 | (have hq7 := hN.2.2.1.1; omega)) (by first | omega | assumption | exact r_zrg _ | exact hS.1 _ | exact hS.2 _ _ | exact stg_b hS _ _ | exact r_irg (by first | assumption | omega | exact hS.1 _ | exact hS.2 _ _ | exact stg_b hS _ _) (by first | assumption | omega | exact hS.1 _ | exact hS.2 _ _) | exact hN.1 | exact hbi.1.1 | exact hbi.1.2 | (have hq7 := hN.2.2.1.1; omega)) (by first | omega | assumption | exact r_zrg _ | exact hS.1 _ | exact hS.2 _ _ | exact stg_b hS _ _ | exact r_irg (by first | assumption | omega | exact hS.1 _ | exact hS.2 _ _ | exact stg_b hS _ _) (by first | assumption | omega | exact hS.1 _ | exact hS.2 _ _) | exact hN.1 | exact hbi.1.1 | exact hbi.1.2 | (have hq7 := hN.2.2.1.1; omega)) (by first | omega | assumption | exact r_zrg _ | exact hS.1 _ | exact hS.2 _ _ | exact stg_b hS _ _ | exact r_irg (by first | assumption | omega | exact hS.1 _ | exact hS.2 _ _ | exact stg_b hS _ _) (by first | assumption | omega | exact hS.1 _ | exact hS.2 _ _) | exact hN.1 | exact hbi.1.1 | exact hbi.1.2 | (have hq7 := hN.2.2.1.1; omega))) ?_
      rintro _ _ ⟨T1, rfl, hN1, hs1⟩
      refine r_l0 ?_
      refine r_sinc (L2 := [_, _, _, _, _, _, _]) rfl rfl ?_
      refine r_lend (i + 1, r_z ((¬ m = 0 ∨ (U.2.1 7 i % 12 = 0 ∨ U.2.1 7 i % 12 = 11)) ∨ (U.2.1 7 i / 12 = 0 ∨ U.2.1 7 i / 12 = 11)), T1, _, _) rfl rfl ?_ (by first | omega | (dsimp only; omega))
      try dsimp only
      rw [hU0] at hN1 hs1
      obtain ⟨g1, g2, g3, g4, g5, g6⟩ := hN1
      obtain ⟨n1, n2, n3, n4, n5, n6⟩ := hN
      have hfj : ∀ j, j < i + 1 → T1.2.1 7 j = U.2.1 7 j := fun j hj => g4 j (by omega)
      refine ⟨by omega, by omega, ⟨g1, r_frm (r_frt n2 g2) (by decide) (by decide) (by decide), g3, fun j hj => (g4 j (by omega)).trans (n4 j hj), by omega, fun v hv => g6 v (n6 v hv)⟩, r_zc ?_, fun j j0 j1 s t q1 q2 => ?_⟩
      · rw [hm]
        constructor
        · intro q
          rcases q with q | q
          · rcases q with q | q
            · have q' : ∃ j, (0 ≤ j ∧ j < i) ∧ BRD (U.2.1 7 j % 12) (U.2.1 7 j / 12) := Classical.byContradiction (fun d => q (r_z0 d))
              obtain ⟨j, j1, j2⟩ := q'
              exact ⟨j, by omega, by rw [hfj j (by omega)]; exact j2⟩
            · exact ⟨i, by omega, by rw [hfj i (by omega)]; exact Or.inl q⟩
          · exact ⟨i, by omega, by rw [hfj i (by omega)]; exact Or.inr q⟩
        · rintro ⟨j, j1, j2⟩
          rw [hfj j (by omega)] at j2
          by_cases e : j = i
          · rw [e] at j2
            rcases j2 with q | q
            · exact Or.inl (Or.inr q)
            · exact Or.inr q
          · exact Or.inl (Or.inl (by rw [r_z1 ⟨j, by omega, j2⟩]; omega))
      · rw [hfj j j1] at q2
        by_cases e : j = i
        · rw [e] at q2; exact hs1 s t q1 q2
        · exact g6 _ (hc j j0 (by omega) s t q1 q2)
theorem sp_X5_forgetSeen {S : q_Sg} {c w : Nat} (hS : r_ok S)  : r_X f_X5_forgetSeen [.ref 26] (q_en S, c, w) (fun _ h2 => ∃ g, h2 = (q_en (q_sA S 6 g), c, w) ∧ (∀ j, 0 ≤ j → j < 144 → g j = 0) ∧ ∀ j, rg (g j)) := by
  refine r_Xof (r_run (L := [_, _]) ⟨rfl, Nat.le_of_ble_eq_true rfl⟩ rfl ?_)
  unfold b_X5_forgetSeen
  refine r_seq ?_
  refine r_seq ?_
  refine r_sloc (L2 := [_, _]) (r_lit ql_0) rfl rfl ?_
  refine r_k0 ?_
  refine r_loop (T := Int × (Int → Int)) (fun (σ : Int × (Int → Int)) => match σ with | (k, g) => (0 ≤ k ∧ k ≤ 144) ∧ (∀ j, 0 ≤ j → j < k → g j = 0) ∧ ∀ j, rg (g j)) (fun (σ : Int × (Int → Int)) => match σ with | (k, g) => (144 - k).toNat) (fun (σ : Int × (Int → Int)) => match σ with | (k, g) => [some (.ref 26), some (iv k)]) (fun (σ : Int × (Int → Int)) => match σ with | (k, g) => (q_en (q_sA S 6 g), c, w)) (0, S.2.1 6) rfl (by dsimp only; rw [q_sAs]) ?_ ?_ ?_
  · exact ⟨by omega, fun j h0 h1 => by omega, hS.2 6⟩
  · (show _ < 1000000); first | omega | (dsimp only; omega)
  · rintro ⟨k, g⟩ hP
    try dsimp only at hP ⊢
    obtain ⟨hk, hg, hr⟩ := hP
    refine ⟨_, (r_lt (r_loc rfl rfl) (r_len (r_fld (r_loc rfl rfl) gg_Outlines_isSeen) ga_Outlines_isSeen) (by first | omega | assumption | exact r_zrg _ | exact hS.1 _ | exact hS.2 _ _ | exact stg_b hS _ _ | exact r_irg (by first | assumption | omega | exact hS.1 _ | exact hS.2 _ _ | exact stg_b hS _ _) (by first | assumption | omega | exact hS.1 _ | exact hS.2 _ _)) (by first | omega | assumption | exact r_zrg _ | exact hS.1 _ | exact hS.2 _ _ | exact stg_b hS _ _ | exact r_irg (by first | assumption | omega | exact hS.1 _ | exact hS.2 _ _ | exact stg_b hS _ _) (by first | assumption | omega | exact hS.1 _ | exact hS.2 _ _))), fun hp1 => ?_, fun hp2 => ?_⟩
    ·
      refine r_k0 ?_
      refine wS_retv ?_
      refine r_pretv r_le0 ?_
      exact ⟨_, rfl, g, rfl, fun j j0 j1 => hg j j0 (by omega), hr⟩
    ·
      refine r_sput3 (r_fld (r_loc rfl rfl) gg_Outlines_isSeen) (r_loc rfl rfl) (r_lit ql_0) (r_putI ga_Outlines_isSeen gs_Outlines_isSeen (by first | omega | assumption | exact r_zrg _ | exact hS.1 _ | exact hS.2 _ _ | exact stg_b hS _ _ | exact r_irg (by first | assumption | omega | exact hS.1 _ | exact hS.2 _ _ | exact stg_b hS _ _) (by first | assumption | omega | exact hS.1 _ | exact hS.2 _ _)) (by first | omega | assumption | exact r_zrg _ | exact hS.1 _ | exact hS.2 _ _ | exact stg_b hS _ _ | exact r_irg (by first | assumption | omega | exact hS.1 _ | exact hS.2 _ _ | exact stg_b hS _ _) (by first | assumption | omega | exact hS.1 _ | exact hS.2 _ _)) (by decide) (q_narZ (by first | omega | assumption | exact r_zrg _ | exact hS.1 _ | exact hS.2 _ _ | exact stg_b hS _ _ | exact r_irg (by first | assumption | omega | exact hS.1 _ | exact hS.2 _ _ | exact stg_b hS _ _) (by first | assumption | omega | exact hS.1 _ | exact hS.2 _ _)) (by first | omega | assumption | exact r_zrg _ | exact hS.1 _ | exact hS.2 _ _ | exact stg_b hS _ _ | exact r_irg (by first | assumption | omega | exact hS.1 _ | exact hS.2 _ _ | exact stg_b hS _ _) (by first | assumption | omega | exact hS.1 _ | exact hS.2 _ _)))) ?_
      refine r_l0 ?_
      refine r_sinc (L2 := [_, _]) rfl rfl ?_
      refine r_lend (k + 1, q_up g k 0) rfl (by rw [q_sAA]; rfl) ?_ (by first | omega | (dsimp only; omega))
      try dsimp only
      refine ⟨by omega, fun j j0 j1 => ?_, r_oku hr (by omega)⟩
      unfold q_up
      by_cases e : j = k
      · rw [if_pos e]
      · rw [if_neg e]; exact hg j j0 (by omega)
theorem sp_X5_countSets {S : q_Sg} {c w : Nat} (hS : r_ok S) {k z : Int} (hk : 0 ≤ k ∧ k ≤ 1) (hz : 0 ≤ z ∧ z < 12)  : r_X f_X5_countSets [.ref 26, iv z, iv k] (q_en S, c, w) (fun r h2 => ∃ T, r = iv (cnt (CLS (S.2.1 0) k z) 144) ∧ h2 = (q_en T, c, w) ∧ r_ok T ∧ r_fr [7] [7, 6] [] S T) := by
  refine r_Xof (r_run (L := [_, _, _, _, _, _]) ⟨rfl, Nat.le_of_ble_eq_true rfl⟩ rfl ?_)
  unfold b_X5_countSets
  refine r_seq ?_
  refine r_call0 (r_cons (r_loc rfl rfl) r_nil) rfl (sp_X5_forgetSeen (by first | omega | assumption | exact r_zrg _ | exact hS.1 _ | exact hS.2 _ _ | exact stg_b hS _ _ | exact r_irg (by first | assumption | omega | exact hS.1 _ | exact hS.2 _ _ | exact stg_b hS _ _) (by first | assumption | omega | exact hS.1 _ | exact hS.2 _ _) | exact okU7 | (show (0 : Int) ≤ 0; omega) | (dsimp only [q_sI]; omega) | (first | exact z1 | exact z2 | exact z3 | exact z4))) ?_
  rintro _ _ ⟨g1, rfl, hg1, hr1⟩
  refine r_k0 ?_
  refine r_seq ?_
  refine r_sloc (L2 := [_, _, _, _, _, _]) (r_lit ql_0) rfl rfl ?_
  refine r_k0 ?_
  refine r_seq ?_
  refine r_seq ?_
  refine r_sloc (L2 := [_, _, _, _, _, _]) (r_lit ql_0) rfl rfl ?_
  refine r_k0 ?_
  refine r_loop (T := Int × Int × q_Sg × Option Value) (fun (σ : Int × Int × q_Sg × Option Value) => match σ with | (u, m, U, o) => (0 ≤ u ∧ u ≤ 144) ∧ r_ok U ∧ r_fr [7] [7, 6] [] S U ∧ m = cnt (CLS (S.2.1 0) k z) u.toNat ∧ ∀ v, 0 ≤ v → v < 144 → (¬ U.2.1 6 v = 0 ↔ OLD (S.2.1 0) k z u v)) (fun (σ : Int × Int × q_Sg × Option Value) => match σ with | (u, m, U, o) => (144 - u).toNat) (fun (σ : Int × Int × q_Sg × Option Value) => match σ with | (u, m, U, o) => [some (.ref 26), some (iv z), some (iv k), some (iv m), some (iv u), o]) (fun (σ : Int × Int × q_Sg × Option Value) => match σ with | (u, m, U, o) => (q_en U, c, w)) (0, 0, q_sA S 6 g1, _) rfl rfl ?_ ?_ ?_
  · exact ⟨by omega, r_okA hS hr1, r_frm (r_frA r_fr0) (by decide) (by decide) (by decide), rfl, fun v v0 v1 => ⟨fun q => absurd (hg1 v v0 v1) q, fun ⟨w, w1, _⟩ => by omega⟩⟩
  · (show _ < 1000000); first | omega | (dsimp only; omega)
  · rintro ⟨u, m, U, o⟩ hP
    try dsimp only at hP ⊢
    obtain ⟨hu, hU, hf, hm, hs⟩ := hP
    refine ⟨_, (r_lt (r_loc rfl rfl) (r_lit ql_144) (by first | omega | assumption | exact r_zrg _ | exact hS.1 _ | exact hS.2 _ _ | exact stg_b hS _ _ | exact r_irg (by first | assumption | omega | exact hS.1 _ | exact hS.2 _ _ | exact stg_b hS _ _) (by first | assumption | omega | exact hS.1 _ | exact hS.2 _ _) | exact okU7 | (show (0 : Int) ≤ 0; omega) | (dsimp only [q_sI]; omega) | (first | exact z1 | exact z2 | exact z3 | exact z4)) (by first | omega | assumption | exact r_zrg _ | exact hS.1 _ | exact hS.2 _ _ | exact stg_b hS _ _ | exact r_irg (by first | assumption | omega | exact hS.1 _ | exact hS.2 _ _ | exact stg_b hS _ _) (by first | assumption | omega | exact hS.1 _ | exact hS.2 _ _) | exact okU7 | (show (0 : Int) ≤ 0; omega) | (dsimp only [q_sI]; omega) | (first | exact z1 | exact z2 | exact z3 | exact z4))), fun hp1 => ?_, fun hp2 => ?_⟩
    ·
      have hu144 : u = 144 := by omega
      refine r_k0 ?_
      refine r_sret (r_loc rfl rfl) ?_
      refine r_pret (q_fit_int _) r_le0 ?_
      exact ⟨_, rfl, U, congrArg iv (by rw [hm, hu144]; rfl), rfl, hU, hf⟩
    ·
      have okU7 : r_ok (q_sI U 7 0) := r_okI hU (by omega)
      have hU0 : U.2.1 0 = S.2.1 0 := hf.2.1 0 (by decide)
      have he12 : 12 * (u / 12) + u % 12 = u := by omega
      refine r_seq ?_
      refine r_sput (r_loc rfl rfl) (r_lit ql_0) gp_Outlines_foundCount ?_
      refine r_k0 ?_
      refine r_sifC (r_callC (r_cons (r_loc rfl rfl) (r_cons (r_rem (r_loc rfl rfl) (r_lit ql_12) (by first | omega | assumption | exact r_zrg _ | exact hS.1 _ | exact hS.2 _ _ | exact stg_b hS _ _ | exact r_irg (by first | assumption | omega | exact hS.1 _ | exact hS.2 _ _ | exact stg_b hS _ _) (by first | assumption | omega | exact hS.1 _ | exact hS.2 _ _) | exact okU7 | (show (0 : Int) ≤ 0; omega) | (dsimp only [q_sI]; omega) | (first | exact z1 | exact z2 | exact z3 | exact z4)) (by first | omega | assumption | exact r_zrg _ | exact hS.1 _ | exact hS.2 _ _ | exact stg_b hS _ _ | exact r_irg (by first | assumption | omega | exact hS.1 _ | exact hS.2 _ _ | exact stg_b hS _ _) (by first | assumption | omega | exact hS.1 _ | exact hS.2 _ _) | exact okU7 | (show (0 : Int) ≤ 0; omega) | (dsimp only [q_sI]; omega) | (first | exact z1 | exact z2 | exact z3 | exact z4)) (by first | omega | assumption | exact r_zrg _ | exact hS.1 _ | exact hS.2 _ _ | exact stg_b hS _ _ | exact r_irg (by first | assumption | omega | exact hS.1 _ | exact hS.2 _ _ | exact stg_b hS _ _) (by first | assumption | omega | exact hS.1 _ | exact hS.2 _ _) | exact okU7 | (show (0 : Int) ≤ 0; omega) | (dsimp only [q_sI]; omega) | (first | exact z1 | exact z2 | exact z3 | exact z4)) (by first | omega | assumption | exact r_zrg _ | exact hS.1 _ | exact hS.2 _ _ | exact stg_b hS _ _ | exact r_irg (by first | assumption | omega | exact hS.1 _ | exact hS.2 _ _ | exact stg_b hS _ _) (by first | assumption | omega | exact hS.1 _ | exact hS.2 _ _) | exact okU7 | (show (0 : Int) ≤ 0; omega) | (dsimp only [q_sI]; omega) | (first | exact z1 | exact z2 | exact z3 | exact z4))) (r_cons (r_div (r_loc rfl rfl) (r_lit ql_12) (by first | omega | assumption | exact r_zrg _ | exact hS.1 _ | exact hS.2 _ _ | exact stg_b hS _ _ | exact r_irg (by first | assumption | omega | exact hS.1 _ | exact hS.2 _ _ | exact stg_b hS _ _) (by first | assumption | omega | exact hS.1 _ | exact hS.2 _ _) | exact okU7 | (show (0 : Int) ≤ 0; omega) | (dsimp only [q_sI]; omega) | (first | exact z1 | exact z2 | exact z3 | exact z4)) (by first | omega | assumption | exact r_zrg _ | exact hS.1 _ | exact hS.2 _ _ | exact stg_b hS _ _ | exact r_irg (by first | assumption | omega | exact hS.1 _ | exact hS.2 _ _ | exact stg_b hS _ _) (by first | assumption | omega | exact hS.1 _ | exact hS.2 _ _) | exact okU7 | (show (0 : Int) ≤ 0; omega) | (dsimp only [q_sI]; omega) | (first | exact z1 | exact z2 | exact z3 | exact z4)) (by first | omega | assumption | exact r_zrg _ | exact hS.1 _ | exact hS.2 _ _ | exact stg_b hS _ _ | exact r_irg (by first | assumption | omega | exact hS.1 _ | exact hS.2 _ _ | exact stg_b hS _ _) (by first | assumption | omega | exact hS.1 _ | exact hS.2 _ _) | exact okU7 | (show (0 : Int) ≤ 0; omega) | (dsimp only [q_sI]; omega) | (first | exact z1 | exact z2 | exact z3 | exact z4)) (by first | omega | assumption | exact r_zrg _ | exact hS.1 _ | exact hS.2 _ _ | exact stg_b hS _ _ | exact r_irg (by first | assumption | omega | exact hS.1 _ | exact hS.2 _ _ | exact stg_b hS _ _) (by first | assumption | omega | exact hS.1 _ | exact hS.2 _ _) | exact okU7 | (show (0 : Int) ≤ 0; omega) | (dsimp only [q_sI]; omega) | (first | exact z1 | exact z2 | exact z3 | exact z4))) (r_cons (r_loc rfl rfl) (r_cons (r_loc rfl rfl) r_nil))))) rfl (sp_X5_note (by first | omega | assumption | exact r_zrg _ | exact hS.1 _ | exact hS.2 _ _ | exact stg_b hS _ _ | exact r_irg (by first | assumption | omega | exact hS.1 _ | exact hS.2 _ _ | exact stg_b hS _ _) (by first | assumption | omega | exact hS.1 _ | exact hS.2 _ _) | exact okU7 | (show (0 : Int) ≤ 0; omega) | (dsimp only [q_sI]; omega) | (first | exact z1 | exact z2 | exact z3 | exact z4)) (by first | omega | assumption | exact r_zrg _ | exact hS.1 _ | exact hS.2 _ _ | exact stg_b hS _ _ | exact r_irg (by first | assumption | omega | exact hS.1 _ | exact hS.2 _ _ | exact stg_b hS _ _) (by first | assumption | omega | exact hS.1 _ | exact hS.2 _ _) | exact okU7 | (show (0 : Int) ≤ 0; omega) | (dsimp only [q_sI]; omega) | (first | exact z1 | exact z2 | exact z3 | exact z4)) (by first | omega | assumption | exact r_zrg _ | exact hS.1 _ | exact hS.2 _ _ | exact stg_b hS _ _ | exact r_irg (by first | assumption | omega | exact hS.1 _ | exact hS.2 _ _ | exact stg_b hS _ _) (by first | assumption | omega | exact hS.1 _ | exact hS.2 _ _) | exact okU7 | (show (0 : Int) ≤ 0; omega) | (dsimp only [q_sI]; omega) | (first | exact z1 | exact z2 | exact z3 | exact z4)) (by first | omega | assumption | exact r_zrg _ | exact hS.1 _ | exact hS.2 _ _ | exact stg_b hS _ _ | exact r_irg (by first | assumption | omega | exact hS.1 _ | exact hS.2 _ _ | exact stg_b hS _ _) (by first | assumption | omega | exact hS.1 _ | exact hS.2 _ _) | exact okU7 | (show (0 : Int) ≤ 0; omega) | (dsimp only [q_sI]; omega) | (first | exact z1 | exact z2 | exact z3 | exact z4)) (by first | omega | assumption | exact r_zrg _ | exact hS.1 _ | exact hS.2 _ _ | exact stg_b hS _ _ | exact r_irg (by first | assumption | omega | exact hS.1 _ | exact hS.2 _ _ | exact stg_b hS _ _) (by first | assumption | omega | exact hS.1 _ | exact hS.2 _ _) | exact okU7 | (show (0 : Int) ≤ 0; omega) | (dsimp only [q_sI]; omega) | (first | exact z1 | exact z2 | exact z3 | exact z4)) (by first | omega | assumption | exact r_zrg _ | exact hS.1 _ | exact hS.2 _ _ | exact stg_b hS _ _ | exact r_irg (by first | assumption | omega | exact hS.1 _ | exact hS.2 _ _ | exact stg_b hS _ _) (by first | assumption | omega | exact hS.1 _ | exact hS.2 _ _) | exact okU7 | (show (0 : Int) ≤ 0; omega) | (dsimp only [q_sI]; omega) | (first | exact z1 | exact z2 | exact z3 | exact z4))) (by rintro _ _ ⟨T1, rfl, rfl, hT1, hl1, hn1⟩; rfl)) ?_
      rintro _ _ ⟨T1, rfl, rfl, hT1, hl1, hn1⟩
      refine ⟨_, rfl, (by first | omega | assumption | exact r_zrg _ | exact hS.1 _ | exact hS.2 _ _ | exact stg_b hS _ _ | exact r_irg (by first | assumption | omega | exact hS.1 _ | exact hS.2 _ _ | exact stg_b hS _ _) (by first | assumption | omega | exact hS.1 _ | exact hS.2 _ _) | exact okU7 | (show (0 : Int) ≤ 0; omega) | (dsimp only [q_sI]; omega) | (first | exact z1 | exact z2 | exact z3 | exact z4)), fun hp3 => ?_, fun hp4 => ?_⟩
      ·
        have hpT0 := hp3
        have hcc0 : NC (q_sI U 7 0) k z (u % 12) (u / 12) := by
          first | exact hpT0 | exact Classical.byContradiction (fun q => hpT0 (r_z0 q))
        have hcc : PC (S.2.1 0) k z (u % 12) (u / 12) ∧ U.2.1 6 u = 0 := by
          have q1 := hcc0.1
          have q2 := hcc0.2.1
          change PC (U.2.1 0) k z _ _ at q1
          change U.2.1 6 (12 * (u / 12) + u % 12) = 0 at q2
          rw [hU0] at q1; rw [he12] at q2; exact ⟨q1, q2⟩
        have hcn : ¬ OLD (S.2.1 0) k z u u := fun q => (hs u hu.1 (by omega)).mpr q hcc.2
        have e1 := hn1.1 hcc0
        rw [he12] at e1
        have h0T : T1.2.1 0 = S.2.1 0 := by rw [e1]; exact hU0
        have hfP : r_fr [7] [7, 6] [] S T1 := by rw [e1]; exact r_frm (r_frt (r_frI hf) PUSH_fr) (by decide) (by decide) (by decide)
        have hcx : 12 * (u / 12) + u % 12 = u := he12
        have z2 : T1.1 7 = 1 ∧ T1.2.1 7 0 = 12 * (u / 12) + u % 12 := by
          rw [e1, PUSH_n, PUSH_f, he12]
          refine ⟨by show (0 : Int) + 1 = 1; omega, ?_⟩
          unfold q_up; exact if_pos rfl
        have z1 : PC (T1.2.1 0) k z (u % 12) (u / 12) := by rw [h0T]; exact hcc.1
        have z4 : ∀ s t s' t', PC (T1.2.1 0) k z s t → PC (T1.2.1 0) k z s' t' → AJ k s t s' t' → OLD (S.2.1 0) k z u (12 * t' + s') → OLD (S.2.1 0) k z u (12 * t + s) := by
          rw [h0T]; exact fun s t s' t' q1 q2 q3 => OLD_c q1 q2 q3
        have z3 : BF (T1.2.1 0) k z (u % 12) (u / 12) (OLD (S.2.1 0) k z u) T1 := by
          rw [h0T]
          have hb0 : BF (S.2.1 0) k z (u % 12) (u / 12) (OLD (S.2.1 0) k z u) (q_sI U 7 0) := ⟨⟨(show (0 : Int) ≤ 0 by omega), (show (0 : Int) ≤ 144 by omega)⟩, fun i i0 i1 => absurd (show i < 0 from i1) (by omega), fun i j i0 i1 => absurd (show i < 0 from i1) (by omega), fun v v0 v1 => (hs v v0 v1).trans ⟨Or.inl, fun q => q.elim id (fun ⟨i, i1, _⟩ => absurd (show i < 0 from i1.2) (by omega))⟩⟩
          have hb1 := BF_p hb0 hcc.1 RCH_r (by rw [he12]; exact hcn) (by show U.2.1 6 _ = 0; rw [he12]; exact hcc.2) (show (0 : Int) < 144 by omega)
          rw [he12] at hb1
          rw [e1]; exact hb1
        refine r_seq ?_
        refine r_slocC (r_callC (r_cons (r_loc rfl rfl) (r_cons (r_loc rfl rfl) (r_cons (r_loc rfl rfl) r_nil))) rfl (sp_X5_completeSet (by first | omega | assumption | exact r_zrg _ | exact hS.1 _ | exact hS.2 _ _ | exact stg_b hS _ _ | exact r_irg (by first | assumption | omega | exact hS.1 _ | exact hS.2 _ _ | exact stg_b hS _ _) (by first | assumption | omega | exact hS.1 _ | exact hS.2 _ _) | exact okU7 | (show (0 : Int) ≤ 0; omega) | (dsimp only [q_sI]; omega) | (first | exact z1 | exact z2 | exact z3 | exact z4)) (by first | omega | assumption | exact r_zrg _ | exact hS.1 _ | exact hS.2 _ _ | exact stg_b hS _ _ | exact r_irg (by first | assumption | omega | exact hS.1 _ | exact hS.2 _ _ | exact stg_b hS _ _) (by first | assumption | omega | exact hS.1 _ | exact hS.2 _ _) | exact okU7 | (show (0 : Int) ≤ 0; omega) | (dsimp only [q_sI]; omega) | (first | exact z1 | exact z2 | exact z3 | exact z4)) (by first | omega | assumption | exact r_zrg _ | exact hS.1 _ | exact hS.2 _ _ | exact stg_b hS _ _ | exact r_irg (by first | assumption | omega | exact hS.1 _ | exact hS.2 _ _ | exact stg_b hS _ _) (by first | assumption | omega | exact hS.1 _ | exact hS.2 _ _) | exact okU7 | (show (0 : Int) ≤ 0; omega) | (dsimp only [q_sI]; omega) | (first | exact z1 | exact z2 | exact z3 | exact z4)) (by first | omega | assumption | exact r_zrg _ | exact hS.1 _ | exact hS.2 _ _ | exact stg_b hS _ _ | exact r_irg (by first | assumption | omega | exact hS.1 _ | exact hS.2 _ _ | exact stg_b hS _ _) (by first | assumption | omega | exact hS.1 _ | exact hS.2 _ _) | exact okU7 | (show (0 : Int) ≤ 0; omega) | (dsimp only [q_sI]; omega) | (first | exact z1 | exact z2 | exact z3 | exact z4)) (by first | omega | assumption | exact r_zrg _ | exact hS.1 _ | exact hS.2 _ _ | exact stg_b hS _ _ | exact r_irg (by first | assumption | omega | exact hS.1 _ | exact hS.2 _ _ | exact stg_b hS _ _) (by first | assumption | omega | exact hS.1 _ | exact hS.2 _ _) | exact okU7 | (show (0 : Int) ≤ 0; omega) | (dsimp only [q_sI]; omega) | (first | exact z1 | exact z2 | exact z3 | exact z4)) (by first | omega | assumption | exact r_zrg _ | exact hS.1 _ | exact hS.2 _ _ | exact stg_b hS _ _ | exact r_irg (by first | assumption | omega | exact hS.1 _ | exact hS.2 _ _ | exact stg_b hS _ _) (by first | assumption | omega | exact hS.1 _ | exact hS.2 _ _) | exact okU7 | (show (0 : Int) ≤ 0; omega) | (dsimp only [q_sI]; omega) | (first | exact z1 | exact z2 | exact z3 | exact z4)) (by first | omega | assumption | exact r_zrg _ | exact hS.1 _ | exact hS.2 _ _ | exact stg_b hS _ _ | exact r_irg (by first | assumption | omega | exact hS.1 _ | exact hS.2 _ _ | exact stg_b hS _ _) (by first | assumption | omega | exact hS.1 _ | exact hS.2 _ _) | exact okU7 | (show (0 : Int) ≤ 0; omega) | (dsimp only [q_sI]; omega) | (first | exact z1 | exact z2 | exact z3 | exact z4))) (by rintro _ _ ⟨T2, rfl, rfl, hT2, hf2, hg2⟩; rfl)) ?_
        rintro _ _ ⟨T2, rfl, rfl, hT2, hf2, hg2⟩
        refine ⟨rfl, ?_⟩
        refine r_k0 ?_
        refine r_sif (r_or (r_z_ne (r_loc rfl rfl) (by first | omega | assumption | exact r_zrg _ | exact hS.1 _ | exact hS.2 _ _ | exact stg_b hS _ _ | exact r_irg (by first | assumption | omega | exact hS.1 _ | exact hS.2 _ _ | exact stg_b hS _ _) (by first | assumption | omega | exact hS.1 _ | exact hS.2 _ _) | exact okU7 | (show (0 : Int) ≤ 0; omega) | (dsimp only [q_sI]; omega) | (first | exact z1 | exact z2 | exact z3 | exact z4))) (fun hp5 => (r_not (r_bz (r_loc rfl rfl))))) (fun hp6 => ?_) (fun hp7 => ?_)
        ·
          have hpT := hp6
          have hpT1 := hp6
          refine r_sinc (L2 := [_, _, _, _, _, _]) rfl rfl ?_
          refine r_l0 ?_
          refine r_sinc (L2 := [_, _, _, _, _, _]) rfl rfl ?_
          refine r_lend (u + 1, m + 1, T2, _) rfl rfl ?_ (by first | omega | (dsimp only; omega))
          try dsimp only
          have hgT : ∀ v, 0 ≤ v → v < 144 → (¬ T2.2.1 6 v = 0 ↔ OLD (S.2.1 0) k z (u + 1) v) := fun v v0 v1 => by
            refine (hg2 v v0 v1).trans (Iff.trans ?_ (OLD_s hu.1).symm)
            rw [h0T]
            exact ⟨fun q => q.imp id (fun d => ⟨hcc.1, d.2⟩), fun q => q.imp id (fun d => ⟨RCH_P hcc.1 d.2, d.2⟩)⟩
          rw [h0T] at hpT1
          refine ⟨by omega, hT2, r_frm (r_frt hfP hf2) (by decide) (by decide) (by decide), by rw [cnt_t hu.1 ⟨hcc.1, hcn, ?_⟩, hm], hgT⟩
          rcases hpT1 with d | d
          · exact Or.inl (by omega)
          · exact Or.inr d
        ·
          have hpF := hp7
          have hpF1 := hp7
          refine wS_skip ?_
          refine r_l0 ?_
          refine r_sinc (L2 := [_, _, _, _, _, _]) rfl rfl ?_
          refine r_lend (u + 1, m, T2, _) rfl rfl ?_ (by first | omega | (dsimp only; omega))
          try dsimp only
          have hgT : ∀ v, 0 ≤ v → v < 144 → (¬ T2.2.1 6 v = 0 ↔ OLD (S.2.1 0) k z (u + 1) v) := fun v v0 v1 => by
            refine (hg2 v v0 v1).trans (Iff.trans ?_ (OLD_s hu.1).symm)
            rw [h0T]
            exact ⟨fun q => q.imp id (fun d => ⟨hcc.1, d.2⟩), fun q => q.imp id (fun d => ⟨RCH_P hcc.1 d.2, d.2⟩)⟩
          rw [h0T] at hpF1
          refine ⟨by omega, hT2, r_frm (r_frt hfP hf2) (by decide) (by decide) (by decide), by rw [cnt_f hu.1 (fun q => hpF1 (q.2.2.imp (fun d => by omega) (fun d => d))), hm], hgT⟩
      ·
        have hpF0 := hp4
        have hpFc := hpF0
        refine wS_skip ?_
        refine r_l0 ?_
        refine r_sinc (L2 := [_, _, _, _, _, _]) rfl rfl ?_
        refine r_lend (u + 1, m, T1, o) rfl rfl ?_ (by first | omega | (dsimp only; omega))
        try dsimp only
        have hcn : ¬ NC (q_sI U 7 0) k z (u % 12) (u / 12) := by
          first | assumption | (intro q; have := r_z1 q; omega)
        have e1 := hn1.2 hcn
        rw [e1]
        have hdo : PC (S.2.1 0) k z (u % 12) (u / 12) → OLD (S.2.1 0) k z u u := fun q => by
          refine (hs u hu.1 (by omega)).mp (fun d => hcn ⟨?_, ?_, ?_⟩)
          · show PC (U.2.1 0) k z _ _
            rw [hU0]; exact q
          · show U.2.1 6 _ = 0
            rw [he12]; exact d
          · show (0 : Int) < 144; omega
        refine ⟨by omega, okU7, r_frm (r_frI hf) (by decide) (by decide) (by decide), by rw [cnt_f hu.1 (fun q => q.2.1 (hdo q.1)), hm], fun v v0 v1 => (hs v v0 v1).trans ((OLD_s hu.1).trans ⟨fun q => q.elim id (fun d => OLD_d (hdo d.1) d.2), fun q => Or.inl q⟩).symm⟩
