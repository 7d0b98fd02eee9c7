theorem sp_X0_changeLayer {S : q_Sg} {c w : Nat} (hS : r_ok S) {a : Int → Int} {p : Prop} {x y z0 dx dy dz z n0 : Int} (h01 : r01 a) (hx : 0 ≤ x ∧ 1 ≤ dx ∧ x + dx ≤ 12) (hy : 0 ≤ y ∧ 1 ≤ dy ∧ y + dy ≤ 12) (hz : 0 ≤ z ∧ z < 12) (hzz : z0 ≤ z ∧ z < z0 + dz) (hB : BINV a (r_z p) (BXP x y z0 dx dy dz) (S.2.1 0) n0 (144 * z)) : r_X f_X0_changeLayer [.ref 17, iv x, iv y, iv z, iv dx, iv dy, r_b p] (q_en S, c, w) (fun v h2 => ∃ g n, v = iv n ∧ h2 = (q_en (q_sA S 0 g), c, w) ∧ BINV a (r_z p) (BXP x y z0 dx dy dz) g (n0 + n) (144 * (z + 1)) ∧ (0 ≤ n ∧ n ≤ 144)) := by
  refine r_Xof (r_run (L := [_, _, _, _, _, _, _, _, _, _]) ⟨rfl, Nat.le_of_ble_eq_true rfl⟩ rfl ?_)
  unfold b_X0_changeLayer
  have hp01 := r_z01 p
  have hpz := r_zd p
  refine r_seq ?_
  refine r_sloc (L2 := [_, _, _, _, _, _, _, _, _, _]) (r_lit ql_0) rfl rfl ?_
  refine r_k0 ?_
  refine r_seq ?_
  refine r_seq ?_
  refine r_sloc (L2 := [_, _, _, _, _, _, _, _, _, _]) (r_loc rfl rfl) rfl rfl ?_
  refine r_k0 ?_
  refine r_loop (T := Int × (Int → Int) × Int × Option Value) (fun (σ : Int × (Int → Int) × Int × Option Value) => match σ with | (v, g, n, o) => (y ≤ v ∧ v ≤ y + dy) ∧ BINV a (r_z p) (BXP x y z0 dx dy dz) g (n0 + n) (144 * z + 12 * v) ∧ (0 ≤ n ∧ n ≤ 12 * (v - y))) (fun (σ : Int × (Int → Int) × Int × Option Value) => match σ with | (v, g, n, o) => (y + dy - v).toNat) (fun (σ : Int × (Int → Int) × Int × Option Value) => match σ with | (v, g, n, o) => [some (.ref 17), some (iv x), some (iv y), some (iv z), some (iv dx), some (iv dy), some (r_b p), some (iv n), some (iv v), o]) (fun (σ : Int × (Int → Int) × Int × Option Value) => match σ with | (v, g, n, o) => (q_en (q_sA S 0 g), c, w)) (y, S.2.1 0, 0, _) rfl (by dsimp only; rw [q_sAs]) ?_ ?_ ?_
  · exact ⟨by omega, by rw [Int.add_zero]; exact BINV_s hB (by omega) (by omega) (fun k k0 k1 c => by obtain ⟨c1, c2, c3⟩ := c; omega), by omega⟩
  · (show _ < 1000000); first | omega | (dsimp only; omega)
  · rintro ⟨v, g, n, o⟩ hP
    try dsimp only at hP ⊢
    obtain ⟨hv, hBI, hnb⟩ := hP
    refine ⟨_, (r_lt (r_loc rfl rfl) (r_add (r_loc rfl rfl) (r_loc rfl rfl)) (by first | omega | assumption | exact hS.1 _ | exact r_okA hS (r01_r (BINV_01 hBI h01 (by omega))) | exact r_zrg _ | exact (r_z01 _).1 | exact (r_z01 _).2) (by first | omega | assumption | exact hS.1 _ | exact r_okA hS (r01_r (BINV_01 hBI h01 (by omega))) | exact r_zrg _ | exact (r_z01 _).1 | exact (r_z01 _).2)), fun hp1 => ?_, fun hp2 => ?_⟩
    ·
      refine r_k0 ?_
      refine r_sret (r_loc rfl rfl) ?_
      refine r_pret (q_fit_int _) r_le0 ?_
      exact ⟨_, rfl, g, n, rfl, rfl, BINV_s hBI (by omega) (by omega) (fun k k0 k1 c => by obtain ⟨c1, c2, c3⟩ := c; omega), by omega⟩
    ·
      refine r_seq ?_
      refine r_sloc (L2 := [_, _, _, _, _, _, _, _, _, _]) (r_loc rfl rfl) rfl rfl ?_
      refine r_k0 ?_
      refine r_loop (T := Int × (Int → Int) × Int) (fun (σ : Int × (Int → Int) × Int) => match σ with | (u, g, n) => (x ≤ u ∧ u ≤ x + dx) ∧ BINV a (r_z p) (BXP x y z0 dx dy dz) g (n0 + n) (144 * z + 12 * v + u) ∧ (0 ≤ n ∧ n ≤ 12 * (v - y) + (u - x))) (fun (σ : Int × (Int → Int) × Int) => match σ with | (u, g, n) => (x + dx - u).toNat) (fun (σ : Int × (Int → Int) × Int) => match σ with | (u, g, n) => [some (.ref 17), some (iv x), some (iv y), some (iv z), some (iv dx), some (iv dy), some (r_b p), some (iv n), some (iv v), some (iv u)]) (fun (σ : Int × (Int → Int) × Int) => match σ with | (u, g, n) => (q_en (q_sA S 0 g), c, w)) (x, g, n) rfl rfl ?_ ?_ ?_
      · exact ⟨by omega, BINV_s hBI (by omega) (by omega) (fun k k0 k1 c => by obtain ⟨c1, c2, c3⟩ := c; omega), by omega⟩
      · (show _ < 1000000); first | omega | (dsimp only; omega)
      · rintro ⟨u, g, n⟩ hP
        try dsimp only at hP ⊢
        obtain ⟨hu, hBI, hnb⟩ := hP
        refine ⟨_, (r_lt (r_loc rfl rfl) (r_add (r_loc rfl rfl) (r_loc rfl rfl)) (by first | omega | assumption | exact hS.1 _ | exact r_okA hS (r01_r (BINV_01 hBI h01 (by omega))) | exact r_zrg _ | exact (r_z01 _).1 | exact (r_z01 _).2) (by first | omega | assumption | exact hS.1 _ | exact r_okA hS (r01_r (BINV_01 hBI h01 (by omega))) | exact r_zrg _ | exact (r_z01 _).1 | exact (r_z01 _).2)), fun hp3 => ?_, fun hp4 => ?_⟩
        ·
          refine r_l0 ?_
          refine r_sinc (L2 := [_, _, _, _, _, _, _, _, _, _]) rfl rfl ?_
          refine r_lend (v + 1, g, n, _) rfl rfl ?_ (by first | omega | (dsimp only; omega))
          try dsimp only
          exact ⟨by omega, BINV_s hBI (by omega) (by omega) (fun k k0 k1 c => by obtain ⟨c1, c2, c3⟩ := c; omega), by omega⟩
        ·
          have hP : BXP x y z0 dx dy dz (144 * z + 12 * v + u) := (BXP_i (by omega) (by omega)).mpr ⟨hzz, by omega, by omega⟩
          have hg01 := BINV_01 hBI h01 (by omega)
          have hgm := hg01 (144 * z + 12 * v + u)
          have hsol : SOL g u v z ↔ ¬ g (144 * z + 12 * v + u) = 0 := ⟨fun c => c.2, fun c => ⟨by omega, c⟩⟩
          have hsz : (r_z (SOL g u v z) = 0 ∧ g (144 * z + 12 * v + u) = 0) ∨ (r_z (SOL g u v z) = 1 ∧ ¬ g (144 * z + 12 * v + u) = 0) := by
            rcases r_zd (SOL g u v z) with ⟨e, f⟩ | ⟨e, f⟩
            · exact Or.inl ⟨e, Classical.byContradiction fun d => f (hsol.mpr d)⟩
            · exact Or.inr ⟨e, hsol.mp f⟩
          refine r_sif (r_and (r_bz (r_call (r_cons (r_loc rfl rfl) (r_cons (r_loc rfl rfl) (r_cons (r_loc rfl rfl) r_nil))) rfl (sp_X9_isCell (by first | omega | assumption | exact hS.1 _ | exact r_okA hS (r01_r (BINV_01 hBI h01 (by omega))) | exact r_zrg _ | exact (r_z01 _).1 | exact (r_z01 _).2) (by first | omega | assumption | exact hS.1 _ | exact r_okA hS (r01_r (BINV_01 hBI h01 (by omega))) | exact r_zrg _ | exact (r_z01 _).1 | exact (r_z01 _).2) (by first | omega | assumption | exact hS.1 _ | exact r_okA hS (r01_r (BINV_01 hBI h01 (by omega))) | exact r_zrg _ | exact (r_z01 _).1 | exact (r_z01 _).2)) rfl)) (fun hp5 => (r_ne (r_call (r_cons (r_loc rfl rfl) (r_cons (r_loc rfl rfl) (r_cons (r_loc rfl rfl) (r_cons (r_loc rfl rfl) r_nil)))) rfl (sp_X0_isSolid (by first | omega | assumption | exact hS.1 _ | exact r_okA hS (r01_r (BINV_01 hBI h01 (by omega))) | exact r_zrg _ | exact (r_z01 _).1 | exact (r_z01 _).2) (by first | omega | assumption | exact hS.1 _ | exact r_okA hS (r01_r (BINV_01 hBI h01 (by omega))) | exact r_zrg _ | exact (r_z01 _).1 | exact (r_z01 _).2) (by first | omega | assumption | exact hS.1 _ | exact r_okA hS (r01_r (BINV_01 hBI h01 (by omega))) | exact r_zrg _ | exact (r_z01 _).1 | exact (r_z01 _).2) (by first | omega | assumption | exact hS.1 _ | exact r_okA hS (r01_r (BINV_01 hBI h01 (by omega))) | exact r_zrg _ | exact (r_z01 _).1 | exact (r_z01 _).2)) rfl) (r_loc rfl rfl) (by first | omega | assumption | exact hS.1 _ | exact r_okA hS (r01_r (BINV_01 hBI h01 (by omega))) | exact r_zrg _ | exact (r_z01 _).1 | exact (r_z01 _).2) (by first | omega | assumption | exact hS.1 _ | exact r_okA hS (r01_r (BINV_01 hBI h01 (by omega))) | exact r_zrg _ | exact (r_z01 _).1 | exact (r_z01 _).2)))) (fun hp6 => ?_) (fun hp7 => ?_)
          ·
            have hpT := hp6
            have hpT0 := hp6
            refine r_seq ?_
            refine r_sput3 (r_fld (r_loc rfl rfl) gg_Body_solid) (r_call (r_cons (r_loc rfl rfl) (r_cons (r_loc rfl rfl) (r_cons (r_loc rfl rfl) r_nil))) rfl sp_X9_indexOf rfl) (r_loc rfl rfl) (r_putI ga_Body_solid gs_Body_solid (by first | omega | assumption | exact hS.1 _ | exact r_okA hS (r01_r (BINV_01 hBI h01 (by omega))) | exact r_zrg _ | exact (r_z01 _).1 | exact (r_z01 _).2) (by first | omega | assumption | exact hS.1 _ | exact r_okA hS (r01_r (BINV_01 hBI h01 (by omega))) | exact r_zrg _ | exact (r_z01 _).1 | exact (r_z01 _).2) (by decide) (q_narZ (by first | omega | assumption | exact hS.1 _ | exact r_okA hS (r01_r (BINV_01 hBI h01 (by omega))) | exact r_zrg _ | exact (r_z01 _).1 | exact (r_z01 _).2) (by first | omega | assumption | exact hS.1 _ | exact r_okA hS (r01_r (BINV_01 hBI h01 (by omega))) | exact r_zrg _ | exact (r_z01 _).1 | exact (r_z01 _).2))) ?_
            refine r_k0 ?_
            refine r_sinc (L2 := [_, _, _, _, _, _, _, _, _, _]) rfl rfl ?_
            refine r_l0 ?_
            refine r_sinc (L2 := [_, _, _, _, _, _, _, _, _, _]) rfl rfl ?_
            refine r_lend (u + 1, q_up g (144 * z + 12 * v + u) (r_z p), n + 1) rfl (by first | rfl | (rw [q_sAA]; rfl)) ?_ (by first | omega | (dsimp only; omega))
            try dsimp only
            have hne : ¬ g (144 * z + 12 * v + u) = r_z p := fun e => by
              have k : ¬ r_z (SOL g u v z) = r_z p := hpT0.2
              omega
            have k := BINV_d hBI (by omega) hP
            rw [r_z1 hne] at k
            exact ⟨by omega, by rw [← Int.add_assoc, ← Int.add_assoc]; exact k, by omega⟩
          ·
            have hpF := hp7
            have hpF0 := hp7
            refine wS_skip ?_
            refine r_l0 ?_
            refine r_sinc (L2 := [_, _, _, _, _, _, _, _, _, _]) rfl rfl ?_
            refine r_lend (u + 1, g, n) rfl (by first | rfl | (rw [q_sAA]; rfl)) ?_ (by first | omega | (dsimp only; omega))
            try dsimp only
            have heq : g (144 * z + 12 * v + u) = r_z p := by
              have k : r_z (SOL g u v z) = r_z p := Classical.byContradiction fun e => hpF0 ⟨by omega, e⟩
              omega
            exact ⟨by omega, by rw [← Int.add_assoc]; exact BINV_n hBI (by omega) hP heq, by omega⟩
