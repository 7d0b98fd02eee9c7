theorem sp_X0_changeLayer {S : q_Sg} {c w : Nat} (hS : r_ok S) {a : Int → Int} {p : Prop} {x y z0 dx dy dz z n0 : Int} (h01 : r01 a) (hx : 0 ≤ x ∧ 1 ≤ dx ∧ x + dx ≤ 12) (hy : 0 ≤ y ∧ 1 ≤ dy ∧ y + dy ≤ 12) (hz : 0 ≤ z ∧ z < 12) (hzz : z0 ≤ z ∧ z < z0 + dz) (hB : BINV a (r_z p) (BXP x y z0 dx dy dz) (S.2.1 0) n0 (144 * z)) : r_X f_X0_changeLayer [.ref 17, iv x, iv y, iv z, iv dx, iv dy, r_b p] (q_en S, c, w) (fun v h2 => ∃ g n, v = iv n ∧ h2 = (q_en (q_sA S 0 g), c, w) ∧ BINV a (r_z p) (BXP x y z0 dx dy dz) g (n0 + n) (144 * (z + 1)) ∧ (0 ≤ n ∧ n ≤ 144)) := by
  refine r_Xof (r_run (L := [_, _, _, _, _, _, _, _, _, _]) ⟨rfl, Nat.le_of_ble_eq_true rfl⟩ rfl ?_)
  unfold b_X0_changeLayer
  have hp01 := r_z01 p
  have hpz := r_zd p
  refine r_seq ?_
  refine r_sloc (L2 := [_, _, _, _, _, _, _, _, _, _]) (r_lit ql_0) rfl rfl ?_
  refine r_k0 ?_
  refine r_seq ?_
  refine r_seq ?_
  refine r_sloc (L2 := [_, _, _, _, _, _, _, _, _, _]) (r_loc rfl rfl) rfl rfl ?_
  refine r_k0 ?_
  refine r_loop (T := Int × (Int → Int) × Int × Option Value) (fun (σ : Int × (Int → Int) × Int × Option Value) => match σ with | (v, g, n, o) => (y ≤ v ∧ v ≤ y + dy) ∧ BINV a (r_z p) (BXP x y z0 dx dy dz) g (n0 + n) (144 * z + 12 * v) ∧ (0 ≤ n ∧ n ≤ 12 * (v - y))) (fun (σ : Int × (Int → Int) × Int × Option Value) => match σ with | (v, g, n, o) => (y + dy - v).toNat) (fun (σ : Int × (Int → Int) × Int × Option Value) => match σ with | (v, g, n, o) => [some (.ref 17), some (iv x), some (iv y), some (iv z), some (iv dx), some (iv dy), some (r_b p), some (iv n), some (iv v), o]) (fun (σ : Int × (Int → Int) × Int × Option Value) => match σ with | (v, g, n, o) => (q_en (q_sA S 0 g), c, w)) (y, S.2.1 0, 0, _) rfl (by dsimp only; rw [q_sAs]) ?_ ?_ ?_
  · exact ⟨by omega, by rw [Int.add_zero]; exact BINV_s hB (by omega) (by omega) (fun k k0 k1 c => by obtain ⟨c1, c2, c3⟩ := c; omega), by omega⟩
  · (show _ < 1000000); first | omega | (dsimp only; omega)
  · rintro ⟨v, g, n, o⟩ hP
    try dsimp only at hP ⊢
    obtain ⟨hv, hBI, hnb⟩ := hP
    refine ⟨_, (r_lt (r_loc rfl rfl) (r_add (r_loc rfl rfl) (r_loc rfl rfl)) (by first | omega | assumption | exact hS.1 _ | exact r_okA hS (r01_r (BINV_01 hBI h01 (by omega))) | exact r_zrg _ | exact (r_z01 _).1 | exact (r_z01 _).2) (by first | omega | assumption | exact hS.1 _ | exact r_okA hS (r01_r (BINV_01 hBI h01 (by omega))) | exact r_zrg _ | exact (r_z01 _).1 | exact (r_z01 _).2)), fun hp1 => ?_, fun hp2 => ?_⟩
    ·
      refine r_k0 ?_
      refine r_sret (r_loc rfl rfl) ?_
      refine r_pret (q_fit_int _) r_le0 ?_
      exact ⟨_, rfl, g, n, rfl, rfl, BINV_s hBI (by omega) (by omega) (fun k k0 k1 c => by obtain ⟨c1, c2, c3⟩ := c; omega), by omega⟩
    ·
      refine r_seq ?_
      refine r_sloc (L2 := [_, _, _, _, _, _, _, _, _, _]) (r_loc rfl rfl) rfl rfl ?_
      refine r_k0 ?_
      refine r_loop (T := Int × (Int → Int) × Int) (fun (σ : Int × (Int → Int) × Int) => match σ with | (u, g, n) => (x ≤ u ∧ u ≤ x + dx) ∧ BINV a (r_z p) (BXP x y z0 dx dy dz) g (n0 + n) (144 * z + 12 * v + u) ∧ (0 ≤ n ∧ n ≤ 12 * (v - y) + (u - x))) (fun (σ : Int × (Int → Int) × Int) => match σ with | (u, g, n) => (x + dx - u).toNat) (fun (σ : Int × (Int → Int) × Int) => match σ with | (u, g, n) => [some (.ref 17), some (iv x), some (iv y), some (iv z), some (iv dx), some (iv dy), some (r_b p), some (iv n), some (iv v), some (iv u)]) (fun (σ : Int × (Int → Int) × Int) => match σ with | (u, g, n) => (q_en (q_sA S 0 g), c, w)) (x, g, n) rfl rfl ?_ ?_ ?_
      · exact ⟨by omega, BINV_s hBI (by omega) (by omega) (fun k k0 k1 c => by obtain ⟨c1, c2, c3⟩ := c; omega), by omega⟩
      · (show _ < 1000000); first | omega | (dsimp only; omega)
      · rintro ⟨u, g, n⟩ hP
        try dsimp only at hP ⊢
        obtain ⟨hu, hBI, hnb⟩ := hP
        refine ⟨_, (r_lt (r_loc rfl rfl) (r_add (r_loc rfl rfl) (r_loc rfl rfl)) (by first | omega | assumption | exact hS.1 _ | exact r_okA hS (r01_r (BINV_01 hBI h01 (by omega))) | exact r_zrg _ | exact (r_z01 _).1 | exact (r_z01 _).2) (by first | omega | assumption | exact hS.1 _ | exact r_okA hS (r01_r (BINV_01 hBI h01 (by omega))) | exact r_zrg _ | exact (r_z01 _).1 | exact (r_z01 _).2)), fun hp3 => ?_, fun hp4 => ?_⟩
        ·
          refine r_l0 ?_
          refine r_sinc (L2 := [_, _, _, _, _, _, _, _, _, _]) rfl rfl ?_
          refine r_lend (v + 1, g, n, _) rfl rfl ?_ (by first | omega | (dsimp only; omega))
          try dsimp only
          exact ⟨by omega, BINV_s hBI (by omega) (by omega) (fun k k0 k1 c => by obtain ⟨c1, c2, c3⟩ := c; omega), by omega⟩
        ·
          have hP : BXP x y z0 dx dy dz (144 * z + 12 * v + u) := (BXP_i (by omega) (by omega)).mpr ⟨hzz, by omega, by omega⟩
          have hg01 := BINV_01 hBI h01 (by omega)
          have hgm := hg01 (144 * z + 12 * v + u)
          have hsol : SOL g u v z ↔ ¬ g (144 * z + 12 * v + u) = 0 := ⟨fun c => c.2, fun c => ⟨by omega, c⟩⟩
          have hsz : (r_z (SOL g u v z) = 0 ∧ g (144 * z + 12 * v + u) = 0) ∨ (r_z (SOL g u v z) = 1 ∧ ¬ g (144 * z + 12 * v + u) = 0) := by
            rcases r_zd (SOL g u v z) with ⟨e, f⟩ | ⟨e, f⟩
            · exact Or.inl ⟨e, Classical.byContradiction fun d => f (hsol.mpr d)⟩
            · exact Or.inr ⟨e, hsol.mp f⟩
          refine r_sif (r_and (r_bz (r_call (r_cons (r_loc rfl rfl) (r_cons (r_loc rfl rfl) (r_cons (r_loc rfl rfl) r_nil))) rfl (sp_X9_isCell (by first | omega | assumption | exact hS.1 _ | exact r_okA hS (r01_r (BINV_01 hBI h01 (by omega))) | exact r_zrg _ | exact (r_z01 _).1 | exact (r_z01 _).2) (by first | omega | assumption | exact hS.1 _ | exact r_okA hS (r01_r (BINV_01 hBI h01 (by omega))) | exact r_zrg _ | exact (r_z01 _).1 | exact (r_z01 _).2) (by first | omega | assumption | exact hS.1 _ | exact r_okA hS (r01_r (BINV_01 hBI h01 (by omega))) | exact r_zrg _ | exact (r_z01 _).1 | exact (r_z01 _).2)) rfl)) (fun hp5 => (r_ne (r_call (r_cons (r_loc rfl rfl) (r_cons (r_loc rfl rfl) (r_cons (r_loc rfl rfl) (r_cons (r_loc rfl rfl) r_nil)))) rfl (sp_X0_isSolid (by first | omega | assumption | exact hS.1 _ | exact r_okA hS (r01_r (BINV_01 hBI h01 (by omega))) | exact r_zrg _ | exact (r_z01 _).1 | exact (r_z01 _).2) (by first | omega | assumption | exact hS.1 _ | exact r_okA hS (r01_r (BINV_01 hBI h01 (by omega))) | exact r_zrg _ | exact (r_z01 _).1 | exact (r_z01 _).2) (by first | omega | assumption | exact hS.1 _ | exact r_okA hS (r01_r (BINV_01 hBI h01 (by omega))) | exact r_zrg _ | exact (r_z01 _).1 | exact (r_z01 _).2) (by first | omega | assumption | exact hS.1 _ | exact r_okA hS (r01_r (BINV_01 hBI h01 (by omega))) | exact r_zrg _ | exact (r_z01 _).1 | exact (r_z01 _).2)) rfl) (r_loc rfl rfl) (by first | omega | assumption | exact hS.1 _ | exact r_okA hS (r01_r (BINV_01 hBI h01 (by omega))) | exact r_zrg _ | exact (r_z01 _).1 | exact (r_z01 _).2) (by first | omega | assumption | exact hS.1 _ | exact r_okA hS (r01_r (BINV_01 hBI h01 (by omega))) | exact r_zrg _ | exact (r_z01 _).1 | exact (r_z01 _).2)))) (fun hp6 => ?_) (fun hp7 => ?_)
          ·
            have hpT := hp6
            have hpT0 := hp6
            refine r_seq ?_
            refine r_sput3 (r_fld (r_loc rfl rfl) gg_Body_solid) (r_call (r_cons (r_loc rfl rfl) (r_cons (r_loc rfl rfl) (r_cons (r_loc rfl rfl) r_nil))) rfl sp_X9_indexOf rfl) (r_loc rfl rfl) (r_putI ga_Body_solid gs_Body_solid (by first | omega | assumption | exact hS.1 _ | exact r_okA hS (r01_r (BINV_01 hBI h01 (by omega))) | exact r_zrg _ | exact (r_z01 _).1 | exact (r_z01 _).2) (by first | omega | assumption | exact hS.1 _ | exact r_okA hS (r01_r (BINV_01 hBI h01 (by omega))) | exact r_zrg _ | exact (r_z01 _).1 | exact (r_z01 _).2) (by decide) (q_narZ (by first | omega | assumption | exact hS.1 _ | exact r_okA hS (r01_r (BINV_01 hBI h01 (by omega))) | exact r_zrg _ | exact (r_z01 _).1 | exact (r_z01 _).2) (by first | omega | assumption | exact hS.1 _ | exact r_okA hS (r01_r (BINV_01 hBI h01 (by omega))) | exact r_zrg _ | exact (r_z01 _).1 | exact (r_z01 _).2))) ?_
            refine r_k0 ?_
            refine r_sinc (L2 := [_, _, _, _, _, _, _, _, _, _]) rfl rfl ?_
            refine r_l0 ?_
            refine r_sinc (L2 := [_, _, _, _, _, _, _, _, _, _]) rfl rfl ?_
            refine r_lend (u + 1, q_up g (144 * z + 12 * v + u) (r_z p), n + 1) rfl (by first | rfl | (rw [q_sAA]; rfl)) ?_ (by first | omega | (dsimp only; omega))
            try dsimp only
            have hne : ¬ g (144 * z + 12 * v + u) = r_z p := fun e => by
              have k : ¬ r_z (SOL g u v z) = r_z p := hpT0.2
              omega
            have k := BINV_d hBI (by omega) hP
            rw [r_z1 hne] at k
            exact ⟨by omega, by rw [← Int.add_assoc, ← Int.add_assoc]; exact k, by omega⟩
          ·
            have hpF := hp7
            have hpF0 := hp7
            refine wS_skip ?_
            refine r_l0 ?_
            refine r_sinc (L2 := [_, _, _, _, _, _, _, _, _, _]) rfl rfl ?_
            refine r_lend (u + 1, g, n) rfl (by first | rfl | (rw [q_sAA]; rfl)) ?_ (by first | omega | (dsimp only; omega))
            try dsimp only
            have heq : g (144 * z + 12 * v + u) = r_z p := by
              have k : r_z (SOL g u v z) = r_z p := Classical.byContradiction fun e => hpF0 ⟨by omega, e⟩
              omega
            exact ⟨by omega, by rw [← Int.add_assoc]; exact BINV_n hBI (by omega) hP heq, by omega⟩
theorem sp_X10_box {S : q_Sg} {c w : Nat} (hS : r_ok S) {p : Prop} {x y z dx dy dz : Int} (h01 : r01 (S.2.1 21)) (hx : rg x) (hy : rg y) (hz : rg z) (hdx : rg dx) (hdy : rg dy) (hdz : rg dz) : r_X f_X10_box [.ref 47, iv x, iv y, iv z, iv dx, iv dy, iv dz, r_b p] (q_en S, c, w) (fun r h2 => (¬ (r_i (((inc x y z ∧ 1 ≤ dx ∧ dx ≤ 12 - x) ∧ 1 ≤ dy ∧ dy ≤ 12 - y) ∧ 1 ≤ dz ∧ dz ≤ 12 - z) 0 1) = 0 ∧ r = iv 0 ∧ h2 = (q_en (q_sI S 23 (r_i (((inc x y z ∧ 1 ≤ dx ∧ dx ≤ 12 - x) ∧ 1 ≤ dy ∧ dy ≤ 12 - y) ∧ 1 ≤ dz ∧ dz ≤ 12 - z) 0 1)), c, w)) ∨ ((r_i (((inc x y z ∧ 1 ≤ dx ∧ dx ≤ 12 - x) ∧ 1 ≤ dy ∧ dy ≤ 12 - y) ∧ 1 ≤ dz ∧ dz ≤ 12 - z) 0 1) = 0 ∧ ∃ g n, r = iv n ∧ h2 = (q_en (q_sA (q_sI S 23 (r_i (((inc x y z ∧ 1 ≤ dx ∧ dx ≤ 12 - x) ∧ 1 ≤ dy ∧ dy ≤ 12 - y) ∧ 1 ≤ dz ∧ dz ≤ 12 - z) 0 1)) 21 g), c, w) ∧ BINV (S.2.1 21) (r_z p) (BXP x y z dx dy dz) g n 1728)) := by
  refine r_Xof (r_run (L := [_, _, _, _, _, _, _, _, _, _, _, _]) ⟨rfl, Nat.le_of_ble_eq_true rfl⟩ rfl ?_)
  unfold b_X10_box
  have hp01 := r_z01 p
  have hpz := r_zd p
  obtain ⟨b, hb⟩ : ∃ b, b = (r_i (((inc x y z ∧ 1 ≤ dx ∧ dx ≤ 12 - x) ∧ 1 ≤ dy ∧ dy ≤ 12 - y) ∧ 1 ≤ dz ∧ dz ≤ 12 - z) 0 1) := ⟨_, rfl⟩
  have hbd := r_id (((inc x y z ∧ 1 ≤ dx ∧ dx ≤ 12 - x) ∧ 1 ≤ dy ∧ dy ≤ 12 - y) ∧ 1 ≤ dz ∧ dz ≤ 12 - z) 0 1
  rw [← hb] at hbd ⊢
  have hs0 : r_ok (q_sI S 23 b) := r_okI hS (by omega)
  refine r_seq ?_
  refine r_sloc (L2 := [_, _, _, _, _, _, _, _, _, _, _, _]) (r_if10 (r_and (r_and (r_and (r_bz (r_call (r_cons (r_loc rfl rfl) (r_cons (r_loc rfl rfl) (r_cons (r_loc rfl rfl) r_nil))) rfl (sp_X10_isPlace (by first | omega | assumption | exact hS.1 _ | exact hs0 | (rw [← hb]; omega) | exact r_okA hs0 (r01_r hg01) | exact r01_r hg01 _ | (have := hpz; omega) | exact (r_z01 _).1 | exact (r_z01 _).2 | (rw [hkd]; omega) | (rw [hbk.1, hbk.2.1, hbk.2.2]; omega)) (by first | omega | assumption | exact hS.1 _ | exact hs0 | (rw [← hb]; omega) | exact r_okA hs0 (r01_r hg01) | exact r01_r hg01 _ | (have := hpz; omega) | exact (r_z01 _).1 | exact (r_z01 _).2 | (rw [hkd]; omega) | (rw [hbk.1, hbk.2.1, hbk.2.2]; omega)) (by first | omega | assumption | exact hS.1 _ | exact hs0 | (rw [← hb]; omega) | exact r_okA hs0 (r01_r hg01) | exact r01_r hg01 _ | (have := hpz; omega) | exact (r_z01 _).1 | exact (r_z01 _).2 | (rw [hkd]; omega) | (rw [hbk.1, hbk.2.1, hbk.2.2]; omega))) rfl)) (fun hp1 => (r_bz (r_call (r_cons (r_loc rfl rfl) (r_cons (r_lit ql_1) (r_cons (r_sub (r_lit ql_12) (r_loc rfl rfl)) r_nil))) rfl (sp_X10_in (by first | omega | assumption | exact hS.1 _ | exact hs0 | (rw [← hb]; omega) | exact r_okA hs0 (r01_r hg01) | exact r01_r hg01 _ | (have := hpz; omega) | exact (r_z01 _).1 | exact (r_z01 _).2 | (rw [hkd]; omega) | (rw [hbk.1, hbk.2.1, hbk.2.2]; omega)) (by first | omega | assumption | exact hS.1 _ | exact hs0 | (rw [← hb]; omega) | exact r_okA hs0 (r01_r hg01) | exact r01_r hg01 _ | (have := hpz; omega) | exact (r_z01 _).1 | exact (r_z01 _).2 | (rw [hkd]; omega) | (rw [hbk.1, hbk.2.1, hbk.2.2]; omega)) (by first | omega | assumption | exact hS.1 _ | exact hs0 | (rw [← hb]; omega) | exact r_okA hs0 (r01_r hg01) | exact r01_r hg01 _ | (have := hpz; omega) | exact (r_z01 _).1 | exact (r_z01 _).2 | (rw [hkd]; omega) | (rw [hbk.1, hbk.2.1, hbk.2.2]; omega))) rfl)))) (fun hp2 => (r_bz (r_call (r_cons (r_loc rfl rfl) (r_cons (r_lit ql_1) (r_cons (r_sub (r_lit ql_12) (r_loc rfl rfl)) r_nil))) rfl (sp_X10_in (by first | omega | assumption | exact hS.1 _ | exact hs0 | (rw [← hb]; omega) | exact r_okA hs0 (r01_r hg01) | exact r01_r hg01 _ | (have := hpz; omega) | exact (r_z01 _).1 | exact (r_z01 _).2 | (rw [hkd]; omega) | (rw [hbk.1, hbk.2.1, hbk.2.2]; omega)) (by first | omega | assumption | exact hS.1 _ | exact hs0 | (rw [← hb]; omega) | exact r_okA hs0 (r01_r hg01) | exact r01_r hg01 _ | (have := hpz; omega) | exact (r_z01 _).1 | exact (r_z01 _).2 | (rw [hkd]; omega) | (rw [hbk.1, hbk.2.1, hbk.2.2]; omega)) (by first | omega | assumption | exact hS.1 _ | exact hs0 | (rw [← hb]; omega) | exact r_okA hs0 (r01_r hg01) | exact r01_r hg01 _ | (have := hpz; omega) | exact (r_z01 _).1 | exact (r_z01 _).2 | (rw [hkd]; omega) | (rw [hbk.1, hbk.2.1, hbk.2.2]; omega))) rfl)))) (fun hp3 => (r_bz (r_call (r_cons (r_loc rfl rfl) (r_cons (r_lit ql_1) (r_cons (r_sub (r_lit ql_12) (r_loc rfl rfl)) r_nil))) rfl (sp_X10_in (by first | omega | assumption | exact hS.1 _ | exact hs0 | (rw [← hb]; omega) | exact r_okA hs0 (r01_r hg01) | exact r01_r hg01 _ | (have := hpz; omega) | exact (r_z01 _).1 | exact (r_z01 _).2 | (rw [hkd]; omega) | (rw [hbk.1, hbk.2.1, hbk.2.2]; omega)) (by first | omega | assumption | exact hS.1 _ | exact hs0 | (rw [← hb]; omega) | exact r_okA hs0 (r01_r hg01) | exact r01_r hg01 _ | (have := hpz; omega) | exact (r_z01 _).1 | exact (r_z01 _).2 | (rw [hkd]; omega) | (rw [hbk.1, hbk.2.1, hbk.2.2]; omega)) (by first | omega | assumption | exact hS.1 _ | exact hs0 | (rw [← hb]; omega) | exact r_okA hs0 (r01_r hg01) | exact r01_r hg01 _ | (have := hpz; omega) | exact (r_z01 _).1 | exact (r_z01 _).2 | (rw [hkd]; omega) | (rw [hbk.1, hbk.2.1, hbk.2.2]; omega))) rfl))))) rfl rfl ?_
  refine r_k0 ?_
  refine r_seq ?_
  refine r_sifD (r_Dn (r_Dz (r_callG (r_cons (r_loc rfl rfl) (r_cons (r_if (r_bz (r_loc rfl rfl)) (fun hp4 => (r_lit ql_0)) (fun hp5 => (r_lit ql_1))) r_nil)) rfl (sp_X10_goesOn (by first | omega | assumption | exact hS.1 _ | exact hs0 | (rw [← hb]; omega) | exact r_okA hs0 (r01_r hg01) | exact r01_r hg01 _ | (have := hpz; omega) | exact (r_z01 _).1 | exact (r_z01 _).2 | (rw [hkd]; omega) | (rw [hbk.1, hbk.2.1, hbk.2.2]; omega))) rfl))) (fun hp6 => ?_) (fun hp7 => ?_)
  ·
    have hpT := hp6
    have hpT0 := hp6
    refine r_sret (r_lit ql_0) ?_
    refine r_ks (j := 3) ?_
    refine r_pret (q_fit_int _) r_le0 ?_
    exact ⟨_, rfl, Or.inl ⟨by rw [hb]; exact hpT0, rfl, by rw [hb]⟩⟩
  ·
    have hpF := hp7
    have hpF0 := hp7
    refine wS_skip ?_
    refine r_k0 ?_
    refine r_seq ?_
    refine r_sloc (L2 := [_, _, _, _, _, _, _, _, _, _, _, _]) (r_lit ql_0) rfl rfl ?_
    refine r_k0 ?_
    refine r_seq ?_
    refine r_seq ?_
    refine r_sloc (L2 := [_, _, _, _, _, _, _, _, _, _, _, _]) (r_lit ql_0) rfl rfl ?_
    refine r_k0 ?_
    have hok : ((inc x y z ∧ 1 ≤ dx ∧ dx ≤ 12 - x) ∧ 1 ≤ dy ∧ dy ≤ 12 - y) ∧ 1 ≤ dz ∧ dz ≤ 12 - z := by
      have k := Classical.not_not.mp hpF0
      rw [← hb] at k
      omega
    obtain ⟨⟨⟨hin, hd1⟩, hd2⟩, hd3⟩ := id hok
    have hD1 : 1 ≤ dx * dy := by have := Int.mul_le_mul hd1.1 hd2.1 (by omega) (by omega); omega
    have hD2 : dx * dy ≤ 144 := by have := Int.mul_le_mul (a := dx) (b := dy) (c := 12) (d := 12) (by omega) (by omega) (by omega) (by omega); omega
    have hD3 : 1 ≤ dx * dy * dz := by have := Int.mul_le_mul hD1 hd3.1 (by omega) (by omega); omega
    have hD4 : dx * dy * dz ≤ 1728 := by have := Int.mul_le_mul (a := dx * dy) (b := dz) (c := 144) (d := 12) (by omega) (by omega) (by omega) (by omega); omega
    refine r_loop (T := Int × Int × Int × Int × (Int → Int) × Int × Option Value) (fun (σ : Int × Int × Int × Int × (Int → Int) × Int × Option Value) => match σ with | (k, i, j, t, g, n, o) => (0 ≤ k ∧ k ≤ dx * dy * dz) ∧ k = (t * dy + j) * dx + i ∧ (0 ≤ i ∧ i < dx) ∧ (0 ≤ j ∧ j < dy) ∧ (0 ≤ t ∧ t ≤ dz) ∧ (t = dz → i = 0 ∧ j = 0) ∧ BINV (S.2.1 21) (r_z p) (BXP x y z dx dy dz) g n (144 * (z + t) + 12 * (y + j) + (x + i))) (fun (σ : Int × Int × Int × Int × (Int → Int) × Int × Option Value) => match σ with | (k, i, j, t, g, n, o) => (dx * dy * dz - k).toNat) (fun (σ : Int × Int × Int × Int × (Int → Int) × Int × Option Value) => match σ with | (k, i, j, t, g, n, o) => [some (.ref 47), some (iv x), some (iv y), some (iv z), some (iv dx), some (iv dy), some (iv dz), some (r_b p), some (r_b (((inc x y z ∧ 1 ≤ dx ∧ dx ≤ 12 - x) ∧ 1 ≤ dy ∧ dy ≤ 12 - y) ∧ 1 ≤ dz ∧ dz ≤ 12 - z)), some (iv n), some (iv k), o]) (fun (σ : Int × Int × Int × Int × (Int → Int) × Int × Option Value) => match σ with | (k, i, j, t, g, n, o) => (q_en (q_sA (q_sI S 23 b) 21 g), c, w)) (0, 0, 0, 0, S.2.1 21, 0, _) rfl (by rw [hb]; exact congrArg (fun X => (q_en X, c, w)) (q_sAz rfl).symm) ?_ ?_ ?_
    · exact ⟨by omega, by rw [Int.zero_mul, Int.zero_add, Int.zero_mul]; rfl, by omega, by omega, by omega, fun _ => ⟨rfl, rfl⟩, BINV_s (BINV_i (fun k hk c => by obtain ⟨c1, c2, c3⟩ := c; omega)) (by omega) (by omega) (fun k k0 k1 c => by obtain ⟨c1, c2, c3⟩ := c; omega)⟩
    · (show _ < 1000000); first | omega | (dsimp only; omega)
    · rintro ⟨k, i, j, t, g, n, o⟩ hP
      try dsimp only at hP ⊢
      obtain ⟨hk, hke, hi, hj, ht, htl, hBI⟩ := hP
      refine ⟨_, (r_lt (r_loc rfl rfl) (r_mul (r_mul (r_loc rfl rfl) (r_loc rfl rfl)) (r_loc rfl rfl)) (by first | omega | assumption | exact hS.1 _ | exact hs0 | (rw [← hb]; omega) | exact r_okA hs0 (r01_r hg01) | exact r01_r hg01 _ | (have := hpz; omega) | exact (r_z01 _).1 | exact (r_z01 _).2 | (rw [hkd]; omega) | (rw [hbk.1, hbk.2.1, hbk.2.2]; omega)) (by first | omega | assumption | exact hS.1 _ | exact hs0 | (rw [← hb]; omega) | exact r_okA hs0 (r01_r hg01) | exact r01_r hg01 _ | (have := hpz; omega) | exact (r_z01 _).1 | exact (r_z01 _).2 | (rw [hkd]; omega) | (rw [hbk.1, hbk.2.1, hbk.2.2]; omega))), fun hp8 => ?_, fun hp9 => ?_⟩
      ·
        refine r_k0 ?_
        refine r_sret (r_loc rfl rfl) ?_
        refine r_pret (q_fit_int _) r_le0 ?_
        have hke2 : k = dx * dy * dz := by omega
        have hbk := box_k (t := t) hi hj
        rw [← hke] at hbk
        have htz : t = dz := by
          have k2 := hbk.2.2
          rw [hke2, Int.mul_ediv_cancel_left _ (by omega)] at k2
          exact k2.symm
        obtain ⟨e1, e2⟩ := htl htz
        have hb0 : b = 0 := by omega
        rw [htz, e1, e2] at hBI
        have hlast : BINV (S.2.1 21) (r_z p) (BXP x y z dx dy dz) g n 1728 := by
          by_cases d : 144 * (z + dz) + 12 * (y + 0) + (x + 0) ≤ 1728
          · exact BINV_s hBI (by omega) (by omega) (fun k k0 k1 c => by obtain ⟨c1, c2, c3⟩ := c; omega)
          · exact BINV_r hBI (by omega) (by omega) (fun k k0 k1 c => by obtain ⟨c1, c2, c3⟩ := c; omega)
        exact ⟨_, rfl, Or.inr ⟨hb0, g, n, rfl, rfl, hlast⟩⟩
      ·
        have hkl : k < dx * dy * dz := hp9
        have hbk := box_k (t := t) hi hj
        rw [← hke] at hbk
        have htd : t < dz := by
          by_cases d : t = dz
          · obtain ⟨e1, e2⟩ := htl d
            rw [d, e1, e2, Int.add_zero, Int.add_zero, Int.mul_assoc, Int.mul_comm, Int.mul_comm dy dx] at hke
            omega
          · omega
        have hP : BXP x y z dx dy dz (144 * (z + t) + 12 * (y + j) + (x + i)) := (BXP_i (by omega) (by omega)).mpr ⟨by omega, by omega, by omega⟩
        have hg01 := BINV_01 hBI h01 (by omega)
        have hgm := hg01 (144 * (z + t) + 12 * (y + j) + (x + i))
        have hBd := BINV_d hBI (by omega) hP
        have hkd := box_d (dy := dy) (j := j) (t := t) hi
        rw [← hke] at hkd
        have htd0 : 0 ≤ t * dy := Int.mul_nonneg (by omega) (by omega)
        have htd1 : t * dy ≤ 144 := by have := Int.mul_le_mul (a := t) (b := dy) (c := 12) (d := 12) (by omega) (by omega) (by omega) (by omega); omega
        obtain ⟨i2, j2, t2, n1, n2, n3, n4, n5, n6⟩ : ∃ i2 j2 t2, k + 1 = (t2 * dy + j2) * dx + i2 ∧ (0 ≤ i2 ∧ i2 < dx) ∧ (0 ≤ j2 ∧ j2 < dy) ∧ (0 ≤ t2 ∧ t2 ≤ dz) ∧ (t2 = dz → i2 = 0 ∧ j2 = 0) ∧ BINV (S.2.1 21) (r_z p) (BXP x y z dx dy dz) (q_up g (144 * (z + t) + 12 * (y + j) + (x + i)) (r_z p)) (n + r_z (¬ g (144 * (z + t) + 12 * (y + j) + (x + i)) = r_z p)) (144 * (z + t2) + 12 * (y + j2) + (x + i2)) := by
          by_cases c1 : i + 1 < dx
          · exact ⟨i + 1, j, t, by omega, by omega, hj, by omega, fun e => by omega, BINV_s hBd (by omega) (by omega) (fun k k0 k1 => by omega)⟩
          · have hdi : dx = i + 1 := by omega
            by_cases c2 : j + 1 < dy
            · refine ⟨0, j + 1, t, ?_, by omega, by omega, by omega, fun e => by omega, BINV_s hBd (by omega) (by omega) (fun k k0 k1 c => by obtain ⟨c1, c2, c3⟩ := c; omega)⟩
              rw [← Int.add_assoc, Int.add_mul (t * dy + j) 1 dx, Int.one_mul]; omega
            · refine ⟨0, 0, t + 1, ?_, by omega, by omega, by omega, fun e => ⟨rfl, rfl⟩, BINV_s hBd (by omega) (by omega) (fun k k0 k1 c => by obtain ⟨c1, c2, c3⟩ := c; omega)⟩
              rw [Int.add_zero, Int.add_zero, Int.add_mul t 1 dy, Int.one_mul, show t * dy + dy = t * dy + j + 1 by omega, Int.add_mul (t * dy + j) 1 dx, Int.one_mul]; omega
        refine r_seq ?_
        refine r_sloc (L2 := [_, _, _, _, _, _, _, _, _, _, _, _]) (r_call (r_cons (r_add (r_loc rfl rfl) (r_rem (r_loc rfl rfl) (r_loc rfl rfl) (by first | omega | assumption | exact hS.1 _ | exact hs0 | (rw [← hb]; omega) | exact r_okA hs0 (r01_r hg01) | exact r01_r hg01 _ | (have := hpz; omega) | exact (r_z01 _).1 | exact (r_z01 _).2 | (rw [hkd]; omega) | (rw [hbk.1, hbk.2.1, hbk.2.2]; omega)) (by first | omega | assumption | exact hS.1 _ | exact hs0 | (rw [← hb]; omega) | exact r_okA hs0 (r01_r hg01) | exact r01_r hg01 _ | (have := hpz; omega) | exact (r_z01 _).1 | exact (r_z01 _).2 | (rw [hkd]; omega) | (rw [hbk.1, hbk.2.1, hbk.2.2]; omega)) (by first | omega | assumption | exact hS.1 _ | exact hs0 | (rw [← hb]; omega) | exact r_okA hs0 (r01_r hg01) | exact r01_r hg01 _ | (have := hpz; omega) | exact (r_z01 _).1 | exact (r_z01 _).2 | (rw [hkd]; omega) | (rw [hbk.1, hbk.2.1, hbk.2.2]; omega)) (by first | omega | assumption | exact hS.1 _ | exact hs0 | (rw [← hb]; omega) | exact r_okA hs0 (r01_r hg01) | exact r01_r hg01 _ | (have := hpz; omega) | exact (r_z01 _).1 | exact (r_z01 _).2 | (rw [hkd]; omega) | (rw [hbk.1, hbk.2.1, hbk.2.2]; omega)))) (r_cons (r_add (r_loc rfl rfl) (r_rem (r_div (r_loc rfl rfl) (r_loc rfl rfl) (by first | omega | assumption | exact hS.1 _ | exact hs0 | (rw [← hb]; omega) | exact r_okA hs0 (r01_r hg01) | exact r01_r hg01 _ | (have := hpz; omega) | exact (r_z01 _).1 | exact (r_z01 _).2 | (rw [hkd]; omega) | (rw [hbk.1, hbk.2.1, hbk.2.2]; omega)) (by first | omega | assumption | exact hS.1 _ | exact hs0 | (rw [← hb]; omega) | exact r_okA hs0 (r01_r hg01) | exact r01_r hg01 _ | (have := hpz; omega) | exact (r_z01 _).1 | exact (r_z01 _).2 | (rw [hkd]; omega) | (rw [hbk.1, hbk.2.1, hbk.2.2]; omega)) (by first | omega | assumption | exact hS.1 _ | exact hs0 | (rw [← hb]; omega) | exact r_okA hs0 (r01_r hg01) | exact r01_r hg01 _ | (have := hpz; omega) | exact (r_z01 _).1 | exact (r_z01 _).2 | (rw [hkd]; omega) | (rw [hbk.1, hbk.2.1, hbk.2.2]; omega)) (by first | omega | assumption | exact hS.1 _ | exact hs0 | (rw [← hb]; omega) | exact r_okA hs0 (r01_r hg01) | exact r01_r hg01 _ | (have := hpz; omega) | exact (r_z01 _).1 | exact (r_z01 _).2 | (rw [hkd]; omega) | (rw [hbk.1, hbk.2.1, hbk.2.2]; omega))) (r_loc rfl rfl) (by first | omega | assumption | exact hS.1 _ | exact hs0 | (rw [← hb]; omega) | exact r_okA hs0 (r01_r hg01) | exact r01_r hg01 _ | (have := hpz; omega) | exact (r_z01 _).1 | exact (r_z01 _).2 | (rw [hkd]; omega) | (rw [hbk.1, hbk.2.1, hbk.2.2]; omega)) (by first | omega | assumption | exact hS.1 _ | exact hs0 | (rw [← hb]; omega) | exact r_okA hs0 (r01_r hg01) | exact r01_r hg01 _ | (have := hpz; omega) | exact (r_z01 _).1 | exact (r_z01 _).2 | (rw [hkd]; omega) | (rw [hbk.1, hbk.2.1, hbk.2.2]; omega)) (by first | omega | assumption | exact hS.1 _ | exact hs0 | (rw [← hb]; omega) | exact r_okA hs0 (r01_r hg01) | exact r01_r hg01 _ | (have := hpz; omega) | exact (r_z01 _).1 | exact (r_z01 _).2 | (rw [hkd]; omega) | (rw [hbk.1, hbk.2.1, hbk.2.2]; omega)) (by first | omega | assumption | exact hS.1 _ | exact hs0 | (rw [← hb]; omega) | exact r_okA hs0 (r01_r hg01) | exact r01_r hg01 _ | (have := hpz; omega) | exact (r_z01 _).1 | exact (r_z01 _).2 | (rw [hkd]; omega) | (rw [hbk.1, hbk.2.1, hbk.2.2]; omega)))) (r_cons (r_add (r_loc rfl rfl) (r_div (r_loc rfl rfl) (r_mul (r_loc rfl rfl) (r_loc rfl rfl)) (by first | omega | assumption | exact hS.1 _ | exact hs0 | (rw [← hb]; omega) | exact r_okA hs0 (r01_r hg01) | exact r01_r hg01 _ | (have := hpz; omega) | exact (r_z01 _).1 | exact (r_z01 _).2 | (rw [hkd]; omega) | (rw [hbk.1, hbk.2.1, hbk.2.2]; omega)) (by first | omega | assumption | exact hS.1 _ | exact hs0 | (rw [← hb]; omega) | exact r_okA hs0 (r01_r hg01) | exact r01_r hg01 _ | (have := hpz; omega) | exact (r_z01 _).1 | exact (r_z01 _).2 | (rw [hkd]; omega) | (rw [hbk.1, hbk.2.1, hbk.2.2]; omega)) (by first | omega | assumption | exact hS.1 _ | exact hs0 | (rw [← hb]; omega) | exact r_okA hs0 (r01_r hg01) | exact r01_r hg01 _ | (have := hpz; omega) | exact (r_z01 _).1 | exact (r_z01 _).2 | (rw [hkd]; omega) | (rw [hbk.1, hbk.2.1, hbk.2.2]; omega)) (by first | omega | assumption | exact hS.1 _ | exact hs0 | (rw [← hb]; omega) | exact r_okA hs0 (r01_r hg01) | exact r01_r hg01 _ | (have := hpz; omega) | exact (r_z01 _).1 | exact (r_z01 _).2 | (rw [hkd]; omega) | (rw [hbk.1, hbk.2.1, hbk.2.2]; omega)))) r_nil))) rfl sp_X10_cell rfl) rfl rfl ?_
        refine r_k0 ?_
        refine r_seq ?_
        refine r_sloc (L2 := [_, _, _, _, _, _, _, _, _, _, _, _]) (r_add (r_loc rfl rfl) (r_if10 (r_ne (r_aget ga_Md_solid (r_fld (r_loc rfl rfl) gg_Md_solid) (r_loc rfl rfl) (by first | omega | assumption | exact hS.1 _ | exact hs0 | (rw [← hb]; omega) | exact r_okA hs0 (r01_r hg01) | exact r01_r hg01 _ | (have := hpz; omega) | exact (r_z01 _).1 | exact (r_z01 _).2 | (rw [hkd]; omega) | (rw [hbk.1, hbk.2.1, hbk.2.2]; omega)) (by first | omega | assumption | exact hS.1 _ | exact hs0 | (rw [← hb]; omega) | exact r_okA hs0 (r01_r hg01) | exact r01_r hg01 _ | (have := hpz; omega) | exact (r_z01 _).1 | exact (r_z01 _).2 | (rw [hkd]; omega) | (rw [hbk.1, hbk.2.1, hbk.2.2]; omega)) (by decide)) (r_loc rfl rfl) (by first | omega | assumption | exact hS.1 _ | exact hs0 | (rw [← hb]; omega) | exact r_okA hs0 (r01_r hg01) | exact r01_r hg01 _ | (have := hpz; omega) | exact (r_z01 _).1 | exact (r_z01 _).2 | (rw [hkd]; omega) | (rw [hbk.1, hbk.2.1, hbk.2.2]; omega)) (by first | omega | assumption | exact hS.1 _ | exact hs0 | (rw [← hb]; omega) | exact r_okA hs0 (r01_r hg01) | exact r01_r hg01 _ | (have := hpz; omega) | exact (r_z01 _).1 | exact (r_z01 _).2 | (rw [hkd]; omega) | (rw [hbk.1, hbk.2.1, hbk.2.2]; omega))))) rfl rfl ?_
        refine r_k0 ?_
        refine r_sput3 (r_fld (r_loc rfl rfl) gg_Md_solid) (r_loc rfl rfl) (r_loc rfl rfl) (r_putI ga_Md_solid gs_Md_solid (by first | omega | assumption | exact hS.1 _ | exact hs0 | (rw [← hb]; omega) | exact r_okA hs0 (r01_r hg01) | exact r01_r hg01 _ | (have := hpz; omega) | exact (r_z01 _).1 | exact (r_z01 _).2 | (rw [hkd]; omega) | (rw [hbk.1, hbk.2.1, hbk.2.2]; omega)) (by first | omega | assumption | exact hS.1 _ | exact hs0 | (rw [← hb]; omega) | exact r_okA hs0 (r01_r hg01) | exact r01_r hg01 _ | (have := hpz; omega) | exact (r_z01 _).1 | exact (r_z01 _).2 | (rw [hkd]; omega) | (rw [hbk.1, hbk.2.1, hbk.2.2]; omega)) (by decide) (q_narZ (by first | omega | assumption | exact hS.1 _ | exact hs0 | (rw [← hb]; omega) | exact r_okA hs0 (r01_r hg01) | exact r01_r hg01 _ | (have := hpz; omega) | exact (r_z01 _).1 | exact (r_z01 _).2 | (rw [hkd]; omega) | (rw [hbk.1, hbk.2.1, hbk.2.2]; omega)) (by first | omega | assumption | exact hS.1 _ | exact hs0 | (rw [← hb]; omega) | exact r_okA hs0 (r01_r hg01) | exact r01_r hg01 _ | (have := hpz; omega) | exact (r_z01 _).1 | exact (r_z01 _).2 | (rw [hkd]; omega) | (rw [hbk.1, hbk.2.1, hbk.2.2]; omega)))) ?_
        refine r_l0 ?_
        refine r_sinc (L2 := [_, _, _, _, _, _, _, _, _, _, _, _]) rfl rfl ?_
        refine r_lend (k + 1, i2, j2, t2, q_up g (144 * (z + t) + 12 * (y + j) + (x + i)) (r_z p), n + r_z (¬ g (144 * (z + t) + 12 * (y + j) + (x + i)) = r_z p), _) (by rw [hbk.1, hbk.2.1, hbk.2.2]; rfl) (by rw [q_sAA, hbk.1, hbk.2.1, hbk.2.2]; rfl) ?_ (by first | omega | (dsimp only; omega))
        try dsimp only
        exact ⟨by omega, n1, n2, n3, n4, n5, n6⟩
