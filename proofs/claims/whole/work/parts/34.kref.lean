theorem sp_X10_isWall {S : q_Sg} {c w : Nat} (hS : r_ok S) (hn : 1 ≤ S.1 24 ∧ S.1 24 ≤ 3) {x y z : Int} (hx : 0 ≤ x ∧ x < 12) (hy : 0 ≤ y ∧ y < 12) (hz : 0 ≤ z ∧ z < 12)  : r_F f_X10_isWall [.ref 47, iv x, iv y, iv z] (q_en S, c, w) (r_b (DST (S.2.1 21) x y z (S.1 24))) := by
  refine r_Fof (r_run (L := [_, _, _, _, _, _, _, _]) ⟨rfl, Nat.le_of_ble_eq_true rfl⟩ rfl ?_)
  unfold b_X10_isWall
  refine r_seq ?_
  refine r_sloc (L2 := [_, _, _, _, _, _, _, _]) (r_lit ql_0) rfl rfl ?_
  refine r_k0 ?_
  refine r_seq ?_
  refine r_seq ?_
  refine r_sloc (L2 := [_, _, _, _, _, _, _, _]) (r_neg (r_fld (r_loc rfl rfl) gg_Md_walls)) rfl rfl ?_
  refine r_k0 ?_
  refine r_loop (T := Int × Prop × Option Value × Option Value) (fun (σ : Int × Prop × Option Value × Option Value) => match σ with | (u, p, o, o2) => (-S.1 24 ≤ u ∧ u ≤ S.1 24 + 1) ∧ (p ↔ ∃ i j, i < u ∧ nrm i j (S.1 24) ∧ ¬ SOL (S.2.1 21) (x + i) (y + j) z)) (fun (σ : Int × Prop × Option Value × Option Value) => match σ with | (u, p, o, o2) => (4 - u).toNat) (fun (σ : Int × Prop × Option Value × Option Value) => match σ with | (u, p, o, o2) => [some (.ref 47), some (iv x), some (iv y), some (iv z), some (r_b p), some (iv u), o, o2]) (fun (σ : Int × Prop × Option Value × Option Value) => match σ with | (u, p, o, o2) => (q_en S, c, w)) (-S.1 24, False, _, _) (by rw [show iv 0 = r_b False from r_b0 (fun c => c)]) rfl ?_ ?_ ?_
  · exact ⟨by omega, ⟨fun c => c.elim, fun ⟨i, j, h1, h2, _⟩ => by omega⟩⟩
  · (show _ < 1000000); first | omega | (dsimp only; omega)
  · rintro ⟨u, p, o, o2⟩ hP
    try dsimp only at hP ⊢
    obtain ⟨hu, hp⟩ := hP
    refine ⟨_, (r_le (r_loc rfl rfl) (r_fld (r_loc rfl rfl) gg_Md_walls) (by first | omega | assumption | exact r_zrg _ | exact hS.1 _ | exact hS.2 _ _ | exact stg_b hS _ _ | exact r_irg (by first | assumption | omega | exact hS.1 _ | exact hS.2 _ _ | exact stg_b hS _ _) (by first | assumption | omega | exact hS.1 _ | exact hS.2 _ _)) (by first | omega | assumption | exact r_zrg _ | exact hS.1 _ | exact hS.2 _ _ | exact stg_b hS _ _ | exact r_irg (by first | assumption | omega | exact hS.1 _ | exact hS.2 _ _ | exact stg_b hS _ _) (by first | assumption | omega | exact hS.1 _ | exact hS.2 _ _))), fun hp1 => ?_, fun hp2 => ?_⟩
    ·
      refine r_k0 ?_
      refine r_sret (r_loc rfl rfl) ?_
      refine r_pret (r_fitb _) r_le0 ⟨congrArg Sum.inl ?_, rfl⟩
      refine r_bc ?_
      exact hp.trans ⟨fun ⟨i, j, _, h2, h3⟩ => ⟨i, j, h2, h3⟩, fun ⟨i, j, h2, h3⟩ => ⟨i, j, by omega, h2, h3⟩⟩
    ·
      have hf := r_id (u < 0) (-u) u
      refine r_seq ?_
      refine r_sloc (L2 := [_, _, _, _, _, _, _, _]) (r_sub (r_fld (r_loc rfl rfl) gg_Md_walls) (r_call (r_cons (r_loc rfl rfl) r_nil) rfl (sp_X10_far (by first | omega | assumption | exact r_zrg _ | exact hS.1 _ | exact hS.2 _ _ | exact stg_b hS _ _ | exact r_irg (by first | assumption | omega | exact hS.1 _ | exact hS.2 _ _ | exact stg_b hS _ _) (by first | assumption | omega | exact hS.1 _ | exact hS.2 _ _))) rfl)) rfl rfl ?_
      refine r_k0 ?_
      refine r_seq ?_
      refine r_sloc (L2 := [_, _, _, _, _, _, _, _]) (r_neg (r_loc rfl rfl)) rfl rfl ?_
      refine r_k0 ?_
      refine r_loop (T := Int × Prop) (fun (σ : Int × Prop) => match σ with | (v, q) => (-(S.1 24 - r_i (u < 0) (-u) u) ≤ v ∧ v ≤ S.1 24 - r_i (u < 0) (-u) u + 1) ∧ (q ↔ p ∨ ∃ j, -(S.1 24 - r_i (u < 0) (-u) u) ≤ j ∧ j < v ∧ ¬ SOL (S.2.1 21) (x + u) (y + j) z)) (fun (σ : Int × Prop) => match σ with | (v, q) => (4 - v).toNat) (fun (σ : Int × Prop) => match σ with | (v, q) => [some (.ref 47), some (iv x), some (iv y), some (iv z), some (r_b q), some (iv u), some (iv (S.1 24 - r_i (u < 0) (-u) u)), some (iv v)]) (fun (σ : Int × Prop) => match σ with | (v, q) => (q_en S, c, w)) (-(S.1 24 - r_i (u < 0) (-u) u), p) rfl rfl ?_ ?_ ?_
      · exact ⟨by omega, ⟨Or.inl, fun c => c.elim id (fun ⟨j, h1, h2, _⟩ => by omega)⟩⟩
      · (show _ < 1000000); first | omega | (dsimp only; omega)
      · rintro ⟨v, q⟩ hP
        try dsimp only at hP ⊢
        obtain ⟨hv, hq⟩ := hP
        refine ⟨_, (r_le (r_loc rfl rfl) (r_loc rfl rfl) (by first | omega | assumption | exact r_zrg _ | exact hS.1 _ | exact hS.2 _ _ | exact stg_b hS _ _ | exact r_irg (by first | assumption | omega | exact hS.1 _ | exact hS.2 _ _ | exact stg_b hS _ _) (by first | assumption | omega | exact hS.1 _ | exact hS.2 _ _)) (by first | omega | assumption | exact r_zrg _ | exact hS.1 _ | exact hS.2 _ _ | exact stg_b hS _ _ | exact r_irg (by first | assumption | omega | exact hS.1 _ | exact hS.2 _ _ | exact stg_b hS _ _) (by first | assumption | omega | exact hS.1 _ | exact hS.2 _ _))), fun hp3 => ?_, fun hp4 => ?_⟩
        ·
          refine r_l0 ?_
          refine r_sinc (L2 := [_, _, _, _, _, _, _, _]) rfl rfl ?_
          refine r_lend (u + 1, q, _, _) rfl rfl ?_ (by first | omega | (dsimp only; omega))
          try dsimp only
          refine ⟨by omega, hq.trans ⟨?_, ?_⟩⟩
          · rintro (c | ⟨j, h1, h2, h3⟩)
            · obtain ⟨i, j, h1, h2, h3⟩ := hp.mp c; exact ⟨i, j, by omega, h2, h3⟩
            · exact ⟨u, j, by omega, by omega, h3⟩
          · rintro ⟨i, j, h1, h2, h3⟩
            by_cases e : i = u
            · subst e; exact Or.inr ⟨j, by omega, by omega, h3⟩
            · exact Or.inl (hp.mpr ⟨i, j, by omega, h2, h3⟩)
        ·
          refine r_sloc (L2 := [_, _, _, _, _, _, _, _]) (r_if10 (r_or (r_bz (r_loc rfl rfl)) (fun hp5 => (r_not (r_bz (r_call (r_cons (r_loc rfl rfl) (r_cons (r_add (r_loc rfl rfl) (r_loc rfl rfl)) (r_cons (r_add (r_loc rfl rfl) (r_loc rfl rfl)) (r_cons (r_loc rfl rfl) r_nil)))) rfl (sp_X10_isSolid (by first | omega | assumption | exact r_zrg _ | exact hS.1 _ | exact hS.2 _ _ | exact stg_b hS _ _ | exact r_irg (by first | assumption | omega | exact hS.1 _ | exact hS.2 _ _ | exact stg_b hS _ _) (by first | assumption | omega | exact hS.1 _ | exact hS.2 _ _)) (by first | omega | assumption | exact r_zrg _ | exact hS.1 _ | exact hS.2 _ _ | exact stg_b hS _ _ | exact r_irg (by first | assumption | omega | exact hS.1 _ | exact hS.2 _ _ | exact stg_b hS _ _) (by first | assumption | omega | exact hS.1 _ | exact hS.2 _ _)) (by first | omega | assumption | exact r_zrg _ | exact hS.1 _ | exact hS.2 _ _ | exact stg_b hS _ _ | exact r_irg (by first | assumption | omega | exact hS.1 _ | exact hS.2 _ _ | exact stg_b hS _ _) (by first | assumption | omega | exact hS.1 _ | exact hS.2 _ _)) (by first | omega | assumption | exact r_zrg _ | exact hS.1 _ | exact hS.2 _ _ | exact stg_b hS _ _ | exact r_irg (by first | assumption | omega | exact hS.1 _ | exact hS.2 _ _ | exact stg_b hS _ _) (by first | assumption | omega | exact hS.1 _ | exact hS.2 _ _))) rfl)))))) rfl rfl ?_
          refine r_l0 ?_
          refine r_sinc (L2 := [_, _, _, _, _, _, _, _]) rfl rfl ?_
          refine r_lend (v + 1, _) rfl rfl ?_ (by first | omega | (dsimp only; omega))
          try dsimp only
          refine ⟨by omega, ⟨?_, ?_⟩⟩
          · rintro (c | c)
            · rcases hq.mp c with c | ⟨j, h1, h2, h3⟩
              · exact Or.inl c
              · exact Or.inr ⟨j, h1, by omega, h3⟩
            · exact Or.inr ⟨v, by omega, by omega, c⟩
          · rintro (c | ⟨j, h1, h2, h3⟩)
            · exact Or.inl (hq.mpr (Or.inl c))
            · by_cases e : j = v
              · subst e; exact Or.inr h3
              · exact Or.inl (hq.mpr (Or.inr ⟨j, h1, by omega, h3⟩))
theorem sp_X10_isOpen {S : q_Sg} {c w : Nat} (hS : r_ok S) (hn : 0 ≤ S.1 25 ∧ S.1 25 ≤ 3) {x y z : Int} (hx : 0 ≤ x ∧ x < 12) (hy : 0 ≤ y ∧ y < 12) (hz : 0 ≤ z ∧ z < 12) {d : Int} (hd : d = 1 ∨ d = -1) : r_F f_X10_isOpen [.ref 47, iv x, iv y, iv z, iv d] (q_en S, c, w) (r_b (OPN (S.2.1 21) x y z d (S.1 25))) := by
  refine r_Fof (r_run (L := [_, _, _, _, _, _, _]) ⟨rfl, Nat.le_of_ble_eq_true rfl⟩ rfl ?_)
  unfold b_X10_isOpen
  refine r_seq ?_
  refine r_sloc (L2 := [_, _, _, _, _, _, _]) (r_lit ql_0) rfl rfl ?_
  refine r_k0 ?_
  refine r_seq ?_
  refine r_seq ?_
  refine r_sloc (L2 := [_, _, _, _, _, _, _]) (r_lit ql_1) rfl rfl ?_
  refine r_k0 ?_
  refine r_loop (T := Int × Prop) (fun (σ : Int × Prop) => match σ with | (k, p) => (1 ≤ k ∧ k ≤ S.1 25 + 1) ∧ (p ↔ ∃ i, (1 ≤ i ∧ i < k) ∧ ¬ SOL (S.2.1 21) x y (z + i * d))) (fun (σ : Int × Prop) => match σ with | (k, p) => (4 - k).toNat) (fun (σ : Int × Prop) => match σ with | (k, p) => [some (.ref 47), some (iv x), some (iv y), some (iv z), some (iv d), some (r_b p), some (iv k)]) (fun (σ : Int × Prop) => match σ with | (k, p) => (q_en S, c, w)) (1, False) (by rw [show iv 0 = r_b False from r_b0 (fun c => c)]) rfl ?_ ?_ ?_
  · exact ⟨by omega, ⟨fun c => c.elim, fun ⟨i, h1, _⟩ => by omega⟩⟩
  · (show _ < 1000000); first | omega | (dsimp only; omega)
  · rintro ⟨k, p⟩ hP
    try dsimp only at hP ⊢
    obtain ⟨hk, hp⟩ := hP
    refine ⟨_, (r_le (r_loc rfl rfl) (r_fld (r_loc rfl rfl) gg_Md_skins) (by first | omega | assumption | exact r_zrg _ | exact hS.1 _ | exact hS.2 _ _ | exact stg_b hS _ _ | exact r_irg (by first | assumption | omega | exact hS.1 _ | exact hS.2 _ _ | exact stg_b hS _ _) (by first | assumption | omega | exact hS.1 _ | exact hS.2 _ _)) (by first | omega | assumption | exact r_zrg _ | exact hS.1 _ | exact hS.2 _ _ | exact stg_b hS _ _ | exact r_irg (by first | assumption | omega | exact hS.1 _ | exact hS.2 _ _ | exact stg_b hS _ _) (by first | assumption | omega | exact hS.1 _ | exact hS.2 _ _))), fun hp1 => ?_, fun hp2 => ?_⟩
    ·
      refine r_k0 ?_
      refine r_sret (r_loc rfl rfl) ?_
      refine r_pret (r_fitb _) r_le0 ⟨congrArg Sum.inl ?_, rfl⟩
      refine r_bc ?_
      exact hp.trans ⟨fun ⟨i, h1, h2⟩ => ⟨i, by omega, h2⟩, fun ⟨i, h1, h2⟩ => ⟨i, by omega, h2⟩⟩
    ·
      have hb : -3 ≤ d * k ∧ d * k ≤ 3 := by rcases hd with rfl | rfl <;> omega
      refine r_sloc (L2 := [_, _, _, _, _, _, _]) (r_if10 (r_or (r_bz (r_loc rfl rfl)) (fun hp3 => (r_not (r_bz (r_call (r_cons (r_loc rfl rfl) (r_cons (r_loc rfl rfl) (r_cons (r_loc rfl rfl) (r_cons (r_add (r_loc rfl rfl) (r_mul (r_loc rfl rfl) (r_loc rfl rfl))) r_nil)))) rfl (sp_X10_isSolid (by first | omega | assumption | exact r_zrg _ | exact hS.1 _ | exact hS.2 _ _ | exact stg_b hS _ _ | exact r_irg (by first | assumption | omega | exact hS.1 _ | exact hS.2 _ _ | exact stg_b hS _ _) (by first | assumption | omega | exact hS.1 _ | exact hS.2 _ _)) (by first | omega | assumption | exact r_zrg _ | exact hS.1 _ | exact hS.2 _ _ | exact stg_b hS _ _ | exact r_irg (by first | assumption | omega | exact hS.1 _ | exact hS.2 _ _ | exact stg_b hS _ _) (by first | assumption | omega | exact hS.1 _ | exact hS.2 _ _)) (by first | omega | assumption | exact r_zrg _ | exact hS.1 _ | exact hS.2 _ _ | exact stg_b hS _ _ | exact r_irg (by first | assumption | omega | exact hS.1 _ | exact hS.2 _ _ | exact stg_b hS _ _) (by first | assumption | omega | exact hS.1 _ | exact hS.2 _ _)) (by first | omega | assumption | exact r_zrg _ | exact hS.1 _ | exact hS.2 _ _ | exact stg_b hS _ _ | exact r_irg (by first | assumption | omega | exact hS.1 _ | exact hS.2 _ _ | exact stg_b hS _ _) (by first | assumption | omega | exact hS.1 _ | exact hS.2 _ _))) rfl)))))) rfl rfl ?_
      refine r_l0 ?_
      refine r_sinc (L2 := [_, _, _, _, _, _, _]) rfl rfl ?_
      refine r_lend (k + 1, _) rfl rfl ?_ (by first | omega | (dsimp only; omega))
      try dsimp only
      rw [Int.mul_comm d k]
      refine ⟨by omega, ⟨?_, ?_⟩⟩
      · rintro (c | c)
        · obtain ⟨i, h1, h2⟩ := hp.mp c; exact ⟨i, by omega, h2⟩
        · exact ⟨k, by omega, c⟩
      · rintro ⟨i, h1, h2⟩
        by_cases e : i = k
        · subst e; exact Or.inr h2
        · exact Or.inl (hp.mpr ⟨i, by omega, h2⟩)
theorem sp_X10_isFilled {S : q_Sg} {c w : Nat} (hS : r_ok S) (hd : 1 ≤ S.1 26 ∧ S.1 26 ≤ 6) {x y z : Int} (hx : 0 ≤ x ∧ x < 12) (hy : 0 ≤ y ∧ y < 12) (hz : 0 ≤ z ∧ z < 12)  : r_F f_X10_isFilled [.ref 47, iv x, iv y, iv z] (q_en S, c, w) (r_b (FIL (S.1 30) (S.1 26) x y z)) := by
  refine r_Fof (r_run (L := [_, _, _, _]) ⟨rfl, Nat.le_of_ble_eq_true rfl⟩ rfl ?_)
  unfold b_X10_isFilled
  have hw := WAV_b (w := y + z) hd
  have hi : 0 ≤ r_i (z % 2 = 0) y x ∧ r_i (z % 2 = 0) y x ≤ 30 := by unfold r_i; split <;> omega
  have h1 := Int.emod_nonneg (y + z) (b := 2 * S.1 26) (by omega)
  have h2 := Int.emod_lt_of_pos (y + z) (b := 2 * S.1 26) (by omega)
  have h3 := Int.emod_nonneg (r_i (z % 2 = 0) y x) (b := S.1 26) (by omega)
  have h4 := Int.emod_lt_of_pos (r_i (z % 2 = 0) y x) (b := S.1 26) (by omega)
  have h5 := Int.emod_nonneg x (b := S.1 26) (by omega)
  have h6 := Int.emod_lt_of_pos x (b := S.1 26) (by omega)
  have h7 := Int.emod_nonneg y (b := S.1 26) (by omega)
  have h8 := Int.emod_lt_of_pos y (b := S.1 26) (by omega)
  have hr : r_i ((y + z) % (2 * S.1 26) - S.1 26 < 0) (-((y + z) % (2 * S.1 26) - S.1 26)) ((y + z) % (2 * S.1 26) - S.1 26) = WAV (S.1 26) (y + z) := by
    unfold WAV r_i; split <;> split <;> omega
  have h9 := Int.emod_nonneg (x + WAV (S.1 26) (y + z)) (b := S.1 26) (by omega)
  have h10 := Int.emod_lt_of_pos (x + WAV (S.1 26) (y + z)) (b := S.1 26) (by omega)
  refine r_seq ?_
  refine r_sif (r_eq (r_fld (r_loc rfl rfl) gg_Md_pattern) (r_lit ql_108) (by first | omega | assumption | exact hS.1 _ | (rw [hr]; omega)) (by first | omega | assumption | exact hS.1 _ | (rw [hr]; omega))) (fun hp1 => ?_) (fun hp2 => ?_)
  ·
    refine r_sret (r_if10 (r_z_eq (r_rem (r_if (r_z_eq (r_rem (r_loc rfl rfl) (r_lit ql_2) (by first | omega | assumption | exact hS.1 _ | (rw [hr]; omega)) (by first | omega | assumption | exact hS.1 _ | (rw [hr]; omega)) (by first | omega | assumption | exact hS.1 _ | (rw [hr]; omega)) (by first | omega | assumption | exact hS.1 _ | (rw [hr]; omega))) (by first | omega | assumption | exact hS.1 _ | (rw [hr]; omega))) (fun hp3 => (r_loc rfl rfl)) (fun hp4 => (r_loc rfl rfl))) (r_fld (r_loc rfl rfl) gg_Md_spread) (by first | omega | assumption | exact hS.1 _ | (rw [hr]; omega)) (by first | omega | assumption | exact hS.1 _ | (rw [hr]; omega)) (by first | omega | assumption | exact hS.1 _ | (rw [hr]; omega)) (by first | omega | assumption | exact hS.1 _ | (rw [hr]; omega))) (by first | omega | assumption | exact hS.1 _ | (rw [hr]; omega)))) ?_
    refine r_ks (j := 3) ?_
    refine r_pret (r_fitb _) r_le0 ⟨congrArg Sum.inl ?_, rfl⟩
    refine r_bc ?_
    unfold FIL; rcases r_id (z % 2 = 0) y x with ⟨e, k⟩ | ⟨e, k⟩ <;> rw [e] <;> omega
  ·
    refine wS_skip ?_
    refine r_k0 ?_
    refine r_seq ?_
    refine r_sif (r_eq (r_fld (r_loc rfl rfl) gg_Md_pattern) (r_lit ql_103) (by first | omega | assumption | exact hS.1 _ | (rw [hr]; omega)) (by first | omega | assumption | exact hS.1 _ | (rw [hr]; omega))) (fun hp5 => ?_) (fun hp6 => ?_)
    ·
      refine r_sret (r_if10 (r_or (r_z_eq (r_rem (r_loc rfl rfl) (r_fld (r_loc rfl rfl) gg_Md_spread) (by first | omega | assumption | exact hS.1 _ | (rw [hr]; omega)) (by first | omega | assumption | exact hS.1 _ | (rw [hr]; omega)) (by first | omega | assumption | exact hS.1 _ | (rw [hr]; omega)) (by first | omega | assumption | exact hS.1 _ | (rw [hr]; omega))) (by first | omega | assumption | exact hS.1 _ | (rw [hr]; omega))) (fun hp7 => (r_z_eq (r_rem (r_loc rfl rfl) (r_fld (r_loc rfl rfl) gg_Md_spread) (by first | omega | assumption | exact hS.1 _ | (rw [hr]; omega)) (by first | omega | assumption | exact hS.1 _ | (rw [hr]; omega)) (by first | omega | assumption | exact hS.1 _ | (rw [hr]; omega)) (by first | omega | assumption | exact hS.1 _ | (rw [hr]; omega))) (by first | omega | assumption | exact hS.1 _ | (rw [hr]; omega)))))) ?_
      refine r_ks (j := 3) ?_
      refine r_pret (r_fitb _) r_le0 ⟨congrArg Sum.inl ?_, rfl⟩
      refine r_bc ?_
      unfold FIL; omega
    ·
      refine wS_skip ?_
      refine r_k0 ?_
      refine r_sret (r_if10 (r_z_eq (r_rem (r_add (r_loc rfl rfl) (r_call (r_cons (r_sub (r_rem (r_add (r_loc rfl rfl) (r_loc rfl rfl)) (r_mul (r_lit ql_2) (r_fld (r_loc rfl rfl) gg_Md_spread)) (by first | omega | assumption | exact hS.1 _ | (rw [hr]; omega)) (by first | omega | assumption | exact hS.1 _ | (rw [hr]; omega)) (by first | omega | assumption | exact hS.1 _ | (rw [hr]; omega)) (by first | omega | assumption | exact hS.1 _ | (rw [hr]; omega))) (r_fld (r_loc rfl rfl) gg_Md_spread)) r_nil) rfl (sp_X10_far (by first | omega | assumption | exact hS.1 _ | (rw [hr]; omega))) rfl)) (r_fld (r_loc rfl rfl) gg_Md_spread) (by first | omega | assumption | exact hS.1 _ | (rw [hr]; omega)) (by first | omega | assumption | exact hS.1 _ | (rw [hr]; omega)) (by first | omega | assumption | exact hS.1 _ | (rw [hr]; omega)) (by first | omega | assumption | exact hS.1 _ | (rw [hr]; omega))) (by first | omega | assumption | exact hS.1 _ | (rw [hr]; omega)))) ?_
      refine r_pret (r_fitb _) r_le0 ⟨congrArg Sum.inl ?_, rfl⟩
      refine r_bc ?_
      rw [hr]; unfold FIL; omega
theorem sp_X10_hangs {S : q_Sg} {c w : Nat} (hS : r_ok S) {x y z : Int} (hx : 0 ≤ x ∧ x < 12) (hy : 0 ≤ y ∧ y < 12) (hz : 0 ≤ z ∧ z ≤ 12) : r_F f_X10_hangs [.ref 47, iv x, iv y, iv z] (q_en S, c, w) (r_b (HNG (S.2.1 21) x y z)) := by
  refine r_Fof (r_run (L := [_, _, _, _, _, _]) ⟨rfl, Nat.le_of_ble_eq_true rfl⟩ rfl ?_)
  unfold b_X10_hangs
  refine r_seq ?_
  refine r_sloc (L2 := [_, _, _, _, _, _]) (r_if10 (r_and (r_and (r_z_gt (r_loc rfl rfl) (by first | omega | assumption | exact r_zrg _ | exact hS.1 _ | exact hS.2 _ _ | exact stg_b hS _ _ | exact r_irg (by first | assumption | omega | exact hS.1 _ | exact hS.2 _ _ | exact stg_b hS _ _) (by first | assumption | omega | exact hS.1 _ | exact hS.2 _ _))) (fun hp1 => (r_bz (r_call (r_cons (r_loc rfl rfl) (r_cons (r_loc rfl rfl) (r_cons (r_loc rfl rfl) (r_cons (r_loc rfl rfl) r_nil)))) rfl (sp_X10_isSolid (by first | omega | assumption | exact r_zrg _ | exact hS.1 _ | exact hS.2 _ _ | exact stg_b hS _ _ | exact r_irg (by first | assumption | omega | exact hS.1 _ | exact hS.2 _ _ | exact stg_b hS _ _) (by first | assumption | omega | exact hS.1 _ | exact hS.2 _ _)) (by first | omega | assumption | exact r_zrg _ | exact hS.1 _ | exact hS.2 _ _ | exact stg_b hS _ _ | exact r_irg (by first | assumption | omega | exact hS.1 _ | exact hS.2 _ _ | exact stg_b hS _ _) (by first | assumption | omega | exact hS.1 _ | exact hS.2 _ _)) (by first | omega | assumption | exact r_zrg _ | exact hS.1 _ | exact hS.2 _ _ | exact stg_b hS _ _ | exact r_irg (by first | assumption | omega | exact hS.1 _ | exact hS.2 _ _ | exact stg_b hS _ _) (by first | assumption | omega | exact hS.1 _ | exact hS.2 _ _)) (by first | omega | assumption | exact r_zrg _ | exact hS.1 _ | exact hS.2 _ _ | exact stg_b hS _ _ | exact r_irg (by first | assumption | omega | exact hS.1 _ | exact hS.2 _ _ | exact stg_b hS _ _) (by first | assumption | omega | exact hS.1 _ | exact hS.2 _ _))) rfl)))) (fun hp2 => (r_not (r_bz (r_call (r_cons (r_loc rfl rfl) (r_cons (r_loc rfl rfl) (r_cons (r_loc rfl rfl) (r_cons (r_sub (r_loc rfl rfl) (r_lit ql_1)) r_nil)))) rfl (sp_X10_isSolid (by first | omega | assumption | exact r_zrg _ | exact hS.1 _ | exact hS.2 _ _ | exact stg_b hS _ _ | exact r_irg (by first | assumption | omega | exact hS.1 _ | exact hS.2 _ _ | exact stg_b hS _ _) (by first | assumption | omega | exact hS.1 _ | exact hS.2 _ _)) (by first | omega | assumption | exact r_zrg _ | exact hS.1 _ | exact hS.2 _ _ | exact stg_b hS _ _ | exact r_irg (by first | assumption | omega | exact hS.1 _ | exact hS.2 _ _ | exact stg_b hS _ _) (by first | assumption | omega | exact hS.1 _ | exact hS.2 _ _)) (by first | omega | assumption | exact r_zrg _ | exact hS.1 _ | exact hS.2 _ _ | exact stg_b hS _ _ | exact r_irg (by first | assumption | omega | exact hS.1 _ | exact hS.2 _ _ | exact stg_b hS _ _) (by first | assumption | omega | exact hS.1 _ | exact hS.2 _ _)) (by first | omega | assumption | exact r_zrg _ | exact hS.1 _ | exact hS.2 _ _ | exact stg_b hS _ _ | exact r_irg (by first | assumption | omega | exact hS.1 _ | exact hS.2 _ _ | exact stg_b hS _ _) (by first | assumption | omega | exact hS.1 _ | exact hS.2 _ _))) rfl)))))) rfl rfl ?_
  refine r_k0 ?_
  refine r_seq ?_
  refine r_seq ?_
  refine r_sloc (L2 := [_, _, _, _, _, _]) (r_lit ql_0) rfl rfl ?_
  refine r_k0 ?_
  refine r_loop (T := Int × Prop) (fun (σ : Int × Prop) => match σ with | (k, p) => (0 ≤ k ∧ k ≤ 4) ∧ (p ↔ (0 < z ∧ SOL (S.2.1 21) x y z) ∧ ¬ SOL (S.2.1 21) x y (z - 1) ∧ ∀ j, 0 ≤ j → j < k → ¬ SOL (S.2.1 21) (x + r_s1 j) (y + r_s2 j) (z - 1))) (fun (σ : Int × Prop) => match σ with | (k, p) => (4 - k).toNat) (fun (σ : Int × Prop) => match σ with | (k, p) => [some (.ref 47), some (iv x), some (iv y), some (iv z), some (r_b p), some (iv k)]) (fun (σ : Int × Prop) => match σ with | (k, p) => (q_en S, c, w)) (0, _) rfl rfl ?_ ?_ ?_
  · exact ⟨by omega, ⟨fun c => ⟨c.1, c.2, fun j h0 h1 => by omega⟩, fun c => ⟨c.1, c.2.1⟩⟩⟩
  · (show _ < 1000000); first | omega | (dsimp only; omega)
  · rintro ⟨k, p⟩ hP
    try dsimp only at hP ⊢
    obtain ⟨hk, hp⟩ := hP
    refine ⟨_, (r_lt (r_loc rfl rfl) (r_lit ql_4) (by first | omega | assumption | exact r_zrg _ | exact hS.1 _ | exact hS.2 _ _ | exact stg_b hS _ _ | exact r_irg (by first | assumption | omega | exact hS.1 _ | exact hS.2 _ _ | exact stg_b hS _ _) (by first | assumption | omega | exact hS.1 _ | exact hS.2 _ _)) (by first | omega | assumption | exact r_zrg _ | exact hS.1 _ | exact hS.2 _ _ | exact stg_b hS _ _ | exact r_irg (by first | assumption | omega | exact hS.1 _ | exact hS.2 _ _ | exact stg_b hS _ _) (by first | assumption | omega | exact hS.1 _ | exact hS.2 _ _))), fun hp3 => ?_, fun hp4 => ?_⟩
    ·
      refine r_k0 ?_
      refine r_sret (r_loc rfl rfl) ?_
      refine r_pret (r_fitb _) r_le0 ⟨congrArg Sum.inl ?_, rfl⟩
      refine r_bc ?_
      refine hp.trans ⟨?_, ?_⟩
      · rintro ⟨h1, h2, h3⟩
        have g0 := h3 0 (by omega) (by omega); have g1 := h3 1 (by omega) (by omega); have g2 := h3 2 (by omega) (by omega); have g3 := h3 3 (by omega) (by omega)
        unfold r_s1 r_s2 at g0 g1 g2 g3
        simp only [Int.reduceEq, if_true, if_false, Int.add_zero] at g0 g1 g2 g3
        exact ⟨by omega, h1.2, h2, g0, g2, g1, g3⟩
      · rintro ⟨h0, h1, h2, g0, g2, g1, g3⟩
        refine ⟨⟨by omega, h1⟩, h2, fun j j0 j1 => ?_⟩
        unfold r_s1 r_s2
        rcases (show j = 0 ∨ j = 1 ∨ j = 2 ∨ j = 3 by omega) with rfl | rfl | rfl | rfl <;> simp only [Int.reduceEq, if_true, if_false, Int.add_zero]
        · exact g0
        · exact g1
        · exact g2
        · exact g3
    ·
      have hb1 := r_s1b k; have hb2 := r_s2b k
      refine r_sloc (L2 := [_, _, _, _, _, _]) (r_if10 (r_and (r_bz (r_loc rfl rfl)) (fun hp5 => (r_not (r_bz (r_call (r_cons (r_loc rfl rfl) (r_cons (r_add (r_loc rfl rfl) (r_call (r_cons (r_loc rfl rfl) r_nil) rfl (sp_X10_stepX (by first | omega | assumption | exact r_zrg _ | exact hS.1 _ | exact hS.2 _ _ | exact stg_b hS _ _ | exact r_irg (by first | assumption | omega | exact hS.1 _ | exact hS.2 _ _ | exact stg_b hS _ _) (by first | assumption | omega | exact hS.1 _ | exact hS.2 _ _))) rfl)) (r_cons (r_add (r_loc rfl rfl) (r_call (r_cons (r_loc rfl rfl) r_nil) rfl (sp_X10_stepY (by first | omega | assumption | exact r_zrg _ | exact hS.1 _ | exact hS.2 _ _ | exact stg_b hS _ _ | exact r_irg (by first | assumption | omega | exact hS.1 _ | exact hS.2 _ _ | exact stg_b hS _ _) (by first | assumption | omega | exact hS.1 _ | exact hS.2 _ _))) rfl)) (r_cons (r_sub (r_loc rfl rfl) (r_lit ql_1)) r_nil)))) rfl (sp_X10_isSolid (by first | omega | assumption | exact r_zrg _ | exact hS.1 _ | exact hS.2 _ _ | exact stg_b hS _ _ | exact r_irg (by first | assumption | omega | exact hS.1 _ | exact hS.2 _ _ | exact stg_b hS _ _) (by first | assumption | omega | exact hS.1 _ | exact hS.2 _ _)) (by first | omega | assumption | exact r_zrg _ | exact hS.1 _ | exact hS.2 _ _ | exact stg_b hS _ _ | exact r_irg (by first | assumption | omega | exact hS.1 _ | exact hS.2 _ _ | exact stg_b hS _ _) (by first | assumption | omega | exact hS.1 _ | exact hS.2 _ _)) (by first | omega | assumption | exact r_zrg _ | exact hS.1 _ | exact hS.2 _ _ | exact stg_b hS _ _ | exact r_irg (by first | assumption | omega | exact hS.1 _ | exact hS.2 _ _ | exact stg_b hS _ _) (by first | assumption | omega | exact hS.1 _ | exact hS.2 _ _)) (by first | omega | assumption | exact r_zrg _ | exact hS.1 _ | exact hS.2 _ _ | exact stg_b hS _ _ | exact r_irg (by first | assumption | omega | exact hS.1 _ | exact hS.2 _ _ | exact stg_b hS _ _) (by first | assumption | omega | exact hS.1 _ | exact hS.2 _ _))) rfl)))))) rfl rfl ?_
      refine r_l0 ?_
      refine r_sinc (L2 := [_, _, _, _, _, _]) rfl rfl ?_
      refine r_lend (k + 1, _) rfl rfl ?_ (by first | omega | (dsimp only; omega))
      try dsimp only
      refine ⟨by omega, ⟨?_, ?_⟩⟩
      · rintro ⟨c, d⟩
        obtain ⟨h1, h2, h3⟩ := hp.mp c
        refine ⟨h1, h2, fun j j0 j1 => ?_⟩
        by_cases e : j = k
        · subst e; exact d
        · exact h3 j j0 (by omega)
      · rintro ⟨h1, h2, h3⟩
        exact ⟨hp.mpr ⟨h1, h2, fun j j0 j1 => h3 j j0 (by omega)⟩, h3 k hk.1 (by omega)⟩
theorem sp_X10_isSupport {S : q_Sg} {c w : Nat} (hS : r_ok S) {x y z : Int} (hx : 0 ≤ x ∧ x < 12) (hy : 0 ≤ y ∧ y < 12) (hz : 0 ≤ z ∧ z < 12) (hs : 0 ≤ S.1 27 ∧ S.1 27 ≤ 1)  : r_F f_X10_isSupport [.ref 47, iv x, iv y, iv z] (q_en S, c, w) (r_b (SUP (S.2.1 21) S.1 24 x y z)) := by
  refine r_Fof (r_run (L := [_, _, _, _, _]) ⟨rfl, Nat.le_of_ble_eq_true rfl⟩ rfl ?_)
  unfold b_X10_isSupport
  refine r_seq ?_
  refine r_sloc (L2 := [_, _, _, _, _]) (r_add (r_loc rfl rfl) (r_lit ql_1)) rfl rfl ?_
  refine r_k0 ?_
  refine r_seq ?_
  refine r_loop (T := Int) (fun (k : Int) => (z + 1 ≤ k ∧ k ≤ 12) ∧ ∀ j, z + 1 ≤ j → j < k → ¬ SOL (S.2.1 21) x y j) (fun (k : Int) => (12 - k).toNat) (fun (k : Int) => [some (.ref 47), some (iv x), some (iv y), some (iv z), some (iv k)]) (fun (k : Int) => (q_en S, c, w)) (z + 1) rfl rfl ?_ ?_ ?_
  · exact ⟨by omega, fun j h0 h1 => by omega⟩
  · (show _ < 1000000); first | omega | (dsimp only; omega)
  · intro k hP
    try dsimp only at hP ⊢
    obtain ⟨hk, hP⟩ := hP
    refine ⟨_, (r_and (r_lt (r_loc rfl rfl) (r_lit ql_12) (by first | omega | assumption | exact r_zrg _ | exact hS.1 _ | exact hS.2 _ _ | exact stg_b hS _ _ | exact r_irg (by first | assumption | omega | exact hS.1 _ | exact hS.2 _ _ | exact stg_b hS _ _) (by first | assumption | omega | exact hS.1 _ | exact hS.2 _ _)) (by first | omega | assumption | exact r_zrg _ | exact hS.1 _ | exact hS.2 _ _ | exact stg_b hS _ _ | exact r_irg (by first | assumption | omega | exact hS.1 _ | exact hS.2 _ _ | exact stg_b hS _ _) (by first | assumption | omega | exact hS.1 _ | exact hS.2 _ _))) (fun hp3 => (r_not (r_bz (r_call (r_cons (r_loc rfl rfl) (r_cons (r_loc rfl rfl) (r_cons (r_loc rfl rfl) (r_cons (r_loc rfl rfl) r_nil)))) rfl (sp_X10_isSolid (by first | omega | assumption | exact r_zrg _ | exact hS.1 _ | exact hS.2 _ _ | exact stg_b hS _ _ | exact r_irg (by first | assumption | omega | exact hS.1 _ | exact hS.2 _ _ | exact stg_b hS _ _) (by first | assumption | omega | exact hS.1 _ | exact hS.2 _ _)) (by first | omega | assumption | exact r_zrg _ | exact hS.1 _ | exact hS.2 _ _ | exact stg_b hS _ _ | exact r_irg (by first | assumption | omega | exact hS.1 _ | exact hS.2 _ _ | exact stg_b hS _ _) (by first | assumption | omega | exact hS.1 _ | exact hS.2 _ _)) (by first | omega | assumption | exact r_zrg _ | exact hS.1 _ | exact hS.2 _ _ | exact stg_b hS _ _ | exact r_irg (by first | assumption | omega | exact hS.1 _ | exact hS.2 _ _ | exact stg_b hS _ _) (by first | assumption | omega | exact hS.1 _ | exact hS.2 _ _)) (by first | omega | assumption | exact r_zrg _ | exact hS.1 _ | exact hS.2 _ _ | exact stg_b hS _ _ | exact r_irg (by first | assumption | omega | exact hS.1 _ | exact hS.2 _ _ | exact stg_b hS _ _) (by first | assumption | omega | exact hS.1 _ | exact hS.2 _ _))) rfl))))), fun hp1 => ?_, fun hp2 => ?_⟩
    ·
      refine r_k0 ?_
      refine r_sret (r_if10 (r_and (r_and (r_and (r_eq (r_fld (r_loc rfl rfl) gg_Md_supports) (r_lit ql_1) (by first | omega | assumption | exact r_zrg _ | exact hS.1 _ | exact hS.2 _ _ | exact stg_b hS _ _ | exact r_irg (by first | assumption | omega | exact hS.1 _ | exact hS.2 _ _ | exact stg_b hS _ _) (by first | assumption | omega | exact hS.1 _ | exact hS.2 _ _)) (by first | omega | assumption | exact r_zrg _ | exact hS.1 _ | exact hS.2 _ _ | exact stg_b hS _ _ | exact r_irg (by first | assumption | omega | exact hS.1 _ | exact hS.2 _ _ | exact stg_b hS _ _) (by first | assumption | omega | exact hS.1 _ | exact hS.2 _ _))) (fun hp4 => (r_lt (r_loc rfl rfl) (r_lit ql_12) (by first | omega | assumption | exact r_zrg _ | exact hS.1 _ | exact hS.2 _ _ | exact stg_b hS _ _ | exact r_irg (by first | assumption | omega | exact hS.1 _ | exact hS.2 _ _ | exact stg_b hS _ _) (by first | assumption | omega | exact hS.1 _ | exact hS.2 _ _)) (by first | omega | assumption | exact r_zrg _ | exact hS.1 _ | exact hS.2 _ _ | exact stg_b hS _ _ | exact r_irg (by first | assumption | omega | exact hS.1 _ | exact hS.2 _ _ | exact stg_b hS _ _) (by first | assumption | omega | exact hS.1 _ | exact hS.2 _ _))))) (fun hp5 => (r_bz (r_call (r_cons (r_loc rfl rfl) (r_cons (r_loc rfl rfl) (r_cons (r_loc rfl rfl) (r_cons (r_loc rfl rfl) r_nil)))) rfl (sp_X10_hangs (by first | omega | assumption | exact r_zrg _ | exact hS.1 _ | exact hS.2 _ _ | exact stg_b hS _ _ | exact r_irg (by first | assumption | omega | exact hS.1 _ | exact hS.2 _ _ | exact stg_b hS _ _) (by first | assumption | omega | exact hS.1 _ | exact hS.2 _ _)) (by first | omega | assumption | exact r_zrg _ | exact hS.1 _ | exact hS.2 _ _ | exact stg_b hS _ _ | exact r_irg (by first | assumption | omega | exact hS.1 _ | exact hS.2 _ _ | exact stg_b hS _ _) (by first | assumption | omega | exact hS.1 _ | exact hS.2 _ _)) (by first | omega | assumption | exact r_zrg _ | exact hS.1 _ | exact hS.2 _ _ | exact stg_b hS _ _ | exact r_irg (by first | assumption | omega | exact hS.1 _ | exact hS.2 _ _ | exact stg_b hS _ _) (by first | assumption | omega | exact hS.1 _ | exact hS.2 _ _)) (by first | omega | assumption | exact r_zrg _ | exact hS.1 _ | exact hS.2 _ _ | exact stg_b hS _ _ | exact r_irg (by first | assumption | omega | exact hS.1 _ | exact hS.2 _ _ | exact stg_b hS _ _) (by first | assumption | omega | exact hS.1 _ | exact hS.2 _ _))) rfl)))) (fun hp6 => (r_gt (r_sub (r_loc rfl rfl) (r_loc rfl rfl)) (r_fld (r_loc rfl rfl) gg_Md_gap) (by first | omega | assumption | exact r_zrg _ | exact hS.1 _ | exact hS.2 _ _ | exact stg_b hS _ _ | exact r_irg (by first | assumption | omega | exact hS.1 _ | exact hS.2 _ _ | exact stg_b hS _ _) (by first | assumption | omega | exact hS.1 _ | exact hS.2 _ _)) (by first | omega | assumption | exact r_zrg _ | exact hS.1 _ | exact hS.2 _ _ | exact stg_b hS _ _ | exact r_irg (by first | assumption | omega | exact hS.1 _ | exact hS.2 _ _ | exact stg_b hS _ _) (by first | assumption | omega | exact hS.1 _ | exact hS.2 _ _)))))) ?_
      refine r_pret (r_fitb _) r_le0 ⟨congrArg Sum.inl ?_, rfl⟩
      refine r_bc ?_
      have ef : k = fst (fun k => SOL (S.2.1 21) x y k) (z + 1) 12 := fst_e ⟨hk, hP, fun h => Classical.byContradiction fun d => (show ¬ (k < 12 ∧ ¬ SOL (S.2.1 21) x y k) by assumption) ⟨h, d⟩⟩
      unfold SUP; rw [← ef]
      constructor
      · rintro ⟨⟨⟨c1, c2⟩, c3⟩, c4⟩; exact ⟨by show ¬ S.1 27 = 0; omega, c3, c4⟩
      · rintro ⟨c1, c2, c3⟩
        have c1 : ¬ S.1 27 = 0 := c1
        exact ⟨⟨⟨by omega, c2.2.1.1.2.2.2⟩, c2⟩, c3⟩
    ·
      refine r_sinc (L2 := [_, _, _, _, _]) rfl rfl ?_
      refine r_l0 ?_
      refine wS_skip ?_
      refine r_lend (k + 1) rfl rfl ?_ (by first | omega | (dsimp only; omega))
      try dsimp only
      refine ⟨by omega, fun j h0 h1 => ?_⟩
      by_cases hj : j = k
      · rw [hj]; exact (by assumption : _ ∧ _).2
      · exact hP j h0 (by omega)
theorem sp_X10_kindOf {S : q_Sg} {c w : Nat} (hS : r_ok S) (hK : SOK S.1 24) {x y z : Int} (hx : 0 ≤ x ∧ x < 12) (hy : 0 ≤ y ∧ y < 12) (hz : 0 ≤ z ∧ z < 12)  : r_F f_X10_kindOf [.ref 47, iv x, iv y, iv z] (q_en S, c, w) (iv (KND (S.2.1 21) S.1 24 x y z)) := by
  refine r_Fof (r_run (L := [_, _, _, _]) ⟨rfl, Nat.le_of_ble_eq_true rfl⟩ rfl ?_)
  unfold b_X10_kindOf
  obtain ⟨k0, k1, k2, k3, k4, k5⟩ := hK
  simp only [Nat.reduceAdd] at k1 k2 k3 k4 k5
  refine r_seq ?_
  refine r_sif (r_not (r_bz (r_call (r_cons (r_loc rfl rfl) (r_cons (r_loc rfl rfl) (r_cons (r_loc rfl rfl) (r_cons (r_loc rfl rfl) r_nil)))) rfl (sp_X10_isSolid (by first | omega | assumption | exact r_zrg _ | exact hS.1 _ | exact hS.2 _ _ | exact stg_b hS _ _ | exact r_irg (by first | assumption | omega | exact hS.1 _ | exact hS.2 _ _ | exact stg_b hS _ _) (by first | assumption | omega | exact hS.1 _ | exact hS.2 _ _) | (unfold r_i; (repeat' split) <;> omega)) (by first | omega | assumption | exact r_zrg _ | exact hS.1 _ | exact hS.2 _ _ | exact stg_b hS _ _ | exact r_irg (by first | assumption | omega | exact hS.1 _ | exact hS.2 _ _ | exact stg_b hS _ _) (by first | assumption | omega | exact hS.1 _ | exact hS.2 _ _) | (unfold r_i; (repeat' split) <;> omega)) (by first | omega | assumption | exact r_zrg _ | exact hS.1 _ | exact hS.2 _ _ | exact stg_b hS _ _ | exact r_irg (by first | assumption | omega | exact hS.1 _ | exact hS.2 _ _ | exact stg_b hS _ _) (by first | assumption | omega | exact hS.1 _ | exact hS.2 _ _) | (unfold r_i; (repeat' split) <;> omega)) (by first | omega | assumption | exact r_zrg _ | exact hS.1 _ | exact hS.2 _ _ | exact stg_b hS _ _ | exact r_irg (by first | assumption | omega | exact hS.1 _ | exact hS.2 _ _ | exact stg_b hS _ _) (by first | assumption | omega | exact hS.1 _ | exact hS.2 _ _) | (unfold r_i; (repeat' split) <;> omega))) rfl))) (fun hp1 => ?_) (fun hp2 => ?_)
  ·
    refine r_sret (r_if (r_bz (r_call (r_cons (r_loc rfl rfl) (r_cons (r_loc rfl rfl) (r_cons (r_loc rfl rfl) (r_cons (r_loc rfl rfl) r_nil)))) rfl (sp_X10_isSupport (by first | omega | assumption | exact r_zrg _ | exact hS.1 _ | exact hS.2 _ _ | exact stg_b hS _ _ | exact r_irg (by first | assumption | omega | exact hS.1 _ | exact hS.2 _ _ | exact stg_b hS _ _) (by first | assumption | omega | exact hS.1 _ | exact hS.2 _ _) | (unfold r_i; (repeat' split) <;> omega)) (by first | omega | assumption | exact r_zrg _ | exact hS.1 _ | exact hS.2 _ _ | exact stg_b hS _ _ | exact r_irg (by first | assumption | omega | exact hS.1 _ | exact hS.2 _ _ | exact stg_b hS _ _) (by first | assumption | omega | exact hS.1 _ | exact hS.2 _ _) | (unfold r_i; (repeat' split) <;> omega)) (by first | omega | assumption | exact r_zrg _ | exact hS.1 _ | exact hS.2 _ _ | exact stg_b hS _ _ | exact r_irg (by first | assumption | omega | exact hS.1 _ | exact hS.2 _ _ | exact stg_b hS _ _) (by first | assumption | omega | exact hS.1 _ | exact hS.2 _ _) | (unfold r_i; (repeat' split) <;> omega)) (by first | omega | assumption | exact r_zrg _ | exact hS.1 _ | exact hS.2 _ _ | exact stg_b hS _ _ | exact r_irg (by first | assumption | omega | exact hS.1 _ | exact hS.2 _ _ | exact stg_b hS _ _) (by first | assumption | omega | exact hS.1 _ | exact hS.2 _ _) | (unfold r_i; (repeat' split) <;> omega)) (by first | omega | assumption | exact r_zrg _ | exact hS.1 _ | exact hS.2 _ _ | exact stg_b hS _ _ | exact r_irg (by first | assumption | omega | exact hS.1 _ | exact hS.2 _ _ | exact stg_b hS _ _) (by first | assumption | omega | exact hS.1 _ | exact hS.2 _ _) | (unfold r_i; (repeat' split) <;> omega))) rfl)) (fun hp3 => (r_lit ql_115)) (fun hp4 => (r_lit ql_46))) ?_
    refine r_ks (j := 3) ?_
    refine r_pret (q_fit_char (by first | omega | assumption | exact r_zrg _ | exact hS.1 _ | exact hS.2 _ _ | exact stg_b hS _ _ | exact r_irg (by first | assumption | omega | exact hS.1 _ | exact hS.2 _ _ | exact stg_b hS _ _) (by first | assumption | omega | exact hS.1 _ | exact hS.2 _ _) | (unfold r_i; (repeat' split) <;> omega)) (by first | omega | assumption | exact r_zrg _ | exact hS.1 _ | exact hS.2 _ _ | exact stg_b hS _ _ | exact r_irg (by first | assumption | omega | exact hS.1 _ | exact hS.2 _ _ | exact stg_b hS _ _) (by first | assumption | omega | exact hS.1 _ | exact hS.2 _ _) | (unfold r_i; (repeat' split) <;> omega))) r_le0 ⟨congrArg Sum.inl ?_, rfl⟩
    refine congrArg iv ?_
    exact (r_i0 (by assumption)).symm
  ·
    refine wS_skip ?_
    refine r_k0 ?_
    refine r_seq ?_
    refine r_sif (r_bz (r_call (r_cons (r_loc rfl rfl) (r_cons (r_loc rfl rfl) (r_cons (r_loc rfl rfl) (r_cons (r_loc rfl rfl) r_nil)))) rfl (sp_X10_isWall (by first | omega | assumption | exact r_zrg _ | exact hS.1 _ | exact hS.2 _ _ | exact stg_b hS _ _ | exact r_irg (by first | assumption | omega | exact hS.1 _ | exact hS.2 _ _ | exact stg_b hS _ _) (by first | assumption | omega | exact hS.1 _ | exact hS.2 _ _) | (unfold r_i; (repeat' split) <;> omega)) (by first | omega | assumption | exact r_zrg _ | exact hS.1 _ | exact hS.2 _ _ | exact stg_b hS _ _ | exact r_irg (by first | assumption | omega | exact hS.1 _ | exact hS.2 _ _ | exact stg_b hS _ _) (by first | assumption | omega | exact hS.1 _ | exact hS.2 _ _) | (unfold r_i; (repeat' split) <;> omega)) (by first | omega | assumption | exact r_zrg _ | exact hS.1 _ | exact hS.2 _ _ | exact stg_b hS _ _ | exact r_irg (by first | assumption | omega | exact hS.1 _ | exact hS.2 _ _ | exact stg_b hS _ _) (by first | assumption | omega | exact hS.1 _ | exact hS.2 _ _) | (unfold r_i; (repeat' split) <;> omega)) (by first | omega | assumption | exact r_zrg _ | exact hS.1 _ | exact hS.2 _ _ | exact stg_b hS _ _ | exact r_irg (by first | assumption | omega | exact hS.1 _ | exact hS.2 _ _ | exact stg_b hS _ _) (by first | assumption | omega | exact hS.1 _ | exact hS.2 _ _) | (unfold r_i; (repeat' split) <;> omega)) (by first | omega | assumption | exact r_zrg _ | exact hS.1 _ | exact hS.2 _ _ | exact stg_b hS _ _ | exact r_irg (by first | assumption | omega | exact hS.1 _ | exact hS.2 _ _ | exact stg_b hS _ _) (by first | assumption | omega | exact hS.1 _ | exact hS.2 _ _) | (unfold r_i; (repeat' split) <;> omega))) rfl)) (fun hp5 => ?_) (fun hp6 => ?_)
    ·
      refine r_sret (r_lit ql_119) ?_
      refine r_ks (j := 3) ?_
      refine r_pret (q_fit_char (by first | omega | assumption | exact r_zrg _ | exact hS.1 _ | exact hS.2 _ _ | exact stg_b hS _ _ | exact r_irg (by first | assumption | omega | exact hS.1 _ | exact hS.2 _ _ | exact stg_b hS _ _) (by first | assumption | omega | exact hS.1 _ | exact hS.2 _ _) | (unfold r_i; (repeat' split) <;> omega)) (by first | omega | assumption | exact r_zrg _ | exact hS.1 _ | exact hS.2 _ _ | exact stg_b hS _ _ | exact r_irg (by first | assumption | omega | exact hS.1 _ | exact hS.2 _ _ | exact stg_b hS _ _) (by first | assumption | omega | exact hS.1 _ | exact hS.2 _ _) | (unfold r_i; (repeat' split) <;> omega))) r_le0 ⟨congrArg Sum.inl ?_, rfl⟩
      refine congrArg iv ?_
      exact ((r_i1 (Classical.not_not.mp (by assumption))).trans (r_i1 (by assumption))).symm
    ·
      refine wS_skip ?_
      refine r_k0 ?_
      refine r_seq ?_
      refine r_sif (r_bz (r_call (r_cons (r_loc rfl rfl) (r_cons (r_loc rfl rfl) (r_cons (r_loc rfl rfl) (r_cons (r_loc rfl rfl) (r_cons (r_lit ql_m1) r_nil))))) rfl (sp_X10_isOpen (by first | omega | assumption | exact r_zrg _ | exact hS.1 _ | exact hS.2 _ _ | exact stg_b hS _ _ | exact r_irg (by first | assumption | omega | exact hS.1 _ | exact hS.2 _ _ | exact stg_b hS _ _) (by first | assumption | omega | exact hS.1 _ | exact hS.2 _ _) | (unfold r_i; (repeat' split) <;> omega)) (by first | omega | assumption | exact r_zrg _ | exact hS.1 _ | exact hS.2 _ _ | exact stg_b hS _ _ | exact r_irg (by first | assumption | omega | exact hS.1 _ | exact hS.2 _ _ | exact stg_b hS _ _) (by first | assumption | omega | exact hS.1 _ | exact hS.2 _ _) | (unfold r_i; (repeat' split) <;> omega)) (by first | omega | assumption | exact r_zrg _ | exact hS.1 _ | exact hS.2 _ _ | exact stg_b hS _ _ | exact r_irg (by first | assumption | omega | exact hS.1 _ | exact hS.2 _ _ | exact stg_b hS _ _) (by first | assumption | omega | exact hS.1 _ | exact hS.2 _ _) | (unfold r_i; (repeat' split) <;> omega)) (by first | omega | assumption | exact r_zrg _ | exact hS.1 _ | exact hS.2 _ _ | exact stg_b hS _ _ | exact r_irg (by first | assumption | omega | exact hS.1 _ | exact hS.2 _ _ | exact stg_b hS _ _) (by first | assumption | omega | exact hS.1 _ | exact hS.2 _ _) | (unfold r_i; (repeat' split) <;> omega)) (by first | omega | assumption | exact r_zrg _ | exact hS.1 _ | exact hS.2 _ _ | exact stg_b hS _ _ | exact r_irg (by first | assumption | omega | exact hS.1 _ | exact hS.2 _ _ | exact stg_b hS _ _) (by first | assumption | omega | exact hS.1 _ | exact hS.2 _ _) | (unfold r_i; (repeat' split) <;> omega)) (by first | omega | assumption | exact r_zrg _ | exact hS.1 _ | exact hS.2 _ _ | exact stg_b hS _ _ | exact r_irg (by first | assumption | omega | exact hS.1 _ | exact hS.2 _ _ | exact stg_b hS _ _) (by first | assumption | omega | exact hS.1 _ | exact hS.2 _ _) | (unfold r_i; (repeat' split) <;> omega))) rfl)) (fun hp7 => ?_) (fun hp8 => ?_)
      ·
        refine r_sret (r_lit ql_98) ?_
        refine r_ks (j := 3) ?_
        refine r_pret (q_fit_char (by first | omega | assumption | exact r_zrg _ | exact hS.1 _ | exact hS.2 _ _ | exact stg_b hS _ _ | exact r_irg (by first | assumption | omega | exact hS.1 _ | exact hS.2 _ _ | exact stg_b hS _ _) (by first | assumption | omega | exact hS.1 _ | exact hS.2 _ _) | (unfold r_i; (repeat' split) <;> omega)) (by first | omega | assumption | exact r_zrg _ | exact hS.1 _ | exact hS.2 _ _ | exact stg_b hS _ _ | exact r_irg (by first | assumption | omega | exact hS.1 _ | exact hS.2 _ _ | exact stg_b hS _ _) (by first | assumption | omega | exact hS.1 _ | exact hS.2 _ _) | (unfold r_i; (repeat' split) <;> omega))) r_le0 ⟨congrArg Sum.inl ?_, rfl⟩
        refine congrArg iv ?_
        exact ((r_i1 (Classical.not_not.mp (by assumption))).trans ((r_i0 (by assumption)).trans (r_i1 (by assumption)))).symm
      ·
        refine wS_skip ?_
        refine r_k0 ?_
        refine r_sret (r_if (r_bz (r_call (r_cons (r_loc rfl rfl) (r_cons (r_loc rfl rfl) (r_cons (r_loc rfl rfl) (r_cons (r_loc rfl rfl) (r_cons (r_lit ql_1) r_nil))))) rfl (sp_X10_isOpen (by first | omega | assumption | exact r_zrg _ | exact hS.1 _ | exact hS.2 _ _ | exact stg_b hS _ _ | exact r_irg (by first | assumption | omega | exact hS.1 _ | exact hS.2 _ _ | exact stg_b hS _ _) (by first | assumption | omega | exact hS.1 _ | exact hS.2 _ _) | (unfold r_i; (repeat' split) <;> omega)) (by first | omega | assumption | exact r_zrg _ | exact hS.1 _ | exact hS.2 _ _ | exact stg_b hS _ _ | exact r_irg (by first | assumption | omega | exact hS.1 _ | exact hS.2 _ _ | exact stg_b hS _ _) (by first | assumption | omega | exact hS.1 _ | exact hS.2 _ _) | (unfold r_i; (repeat' split) <;> omega)) (by first | omega | assumption | exact r_zrg _ | exact hS.1 _ | exact hS.2 _ _ | exact stg_b hS _ _ | exact r_irg (by first | assumption | omega | exact hS.1 _ | exact hS.2 _ _ | exact stg_b hS _ _) (by first | assumption | omega | exact hS.1 _ | exact hS.2 _ _) | (unfold r_i; (repeat' split) <;> omega)) (by first | omega | assumption | exact r_zrg _ | exact hS.1 _ | exact hS.2 _ _ | exact stg_b hS _ _ | exact r_irg (by first | assumption | omega | exact hS.1 _ | exact hS.2 _ _ | exact stg_b hS _ _) (by first | assumption | omega | exact hS.1 _ | exact hS.2 _ _) | (unfold r_i; (repeat' split) <;> omega)) (by first | omega | assumption | exact r_zrg _ | exact hS.1 _ | exact hS.2 _ _ | exact stg_b hS _ _ | exact r_irg (by first | assumption | omega | exact hS.1 _ | exact hS.2 _ _ | exact stg_b hS _ _) (by first | assumption | omega | exact hS.1 _ | exact hS.2 _ _) | (unfold r_i; (repeat' split) <;> omega)) (by first | omega | assumption | exact r_zrg _ | exact hS.1 _ | exact hS.2 _ _ | exact stg_b hS _ _ | exact r_irg (by first | assumption | omega | exact hS.1 _ | exact hS.2 _ _ | exact stg_b hS _ _) (by first | assumption | omega | exact hS.1 _ | exact hS.2 _ _) | (unfold r_i; (repeat' split) <;> omega))) rfl)) (fun hp9 => (r_lit ql_116)) (fun hp10 => (r_if (r_bz (r_call (r_cons (r_loc rfl rfl) (r_cons (r_loc rfl rfl) (r_cons (r_loc rfl rfl) (r_cons (r_loc rfl rfl) r_nil)))) rfl (sp_X10_isFilled (by first | omega | assumption | exact r_zrg _ | exact hS.1 _ | exact hS.2 _ _ | exact stg_b hS _ _ | exact r_irg (by first | assumption | omega | exact hS.1 _ | exact hS.2 _ _ | exact stg_b hS _ _) (by first | assumption | omega | exact hS.1 _ | exact hS.2 _ _) | (unfold r_i; (repeat' split) <;> omega)) (by first | omega | assumption | exact r_zrg _ | exact hS.1 _ | exact hS.2 _ _ | exact stg_b hS _ _ | exact r_irg (by first | assumption | omega | exact hS.1 _ | exact hS.2 _ _ | exact stg_b hS _ _) (by first | assumption | omega | exact hS.1 _ | exact hS.2 _ _) | (unfold r_i; (repeat' split) <;> omega)) (by first | omega | assumption | exact r_zrg _ | exact hS.1 _ | exact hS.2 _ _ | exact stg_b hS _ _ | exact r_irg (by first | assumption | omega | exact hS.1 _ | exact hS.2 _ _ | exact stg_b hS _ _) (by first | assumption | omega | exact hS.1 _ | exact hS.2 _ _) | (unfold r_i; (repeat' split) <;> omega)) (by first | omega | assumption | exact r_zrg _ | exact hS.1 _ | exact hS.2 _ _ | exact stg_b hS _ _ | exact r_irg (by first | assumption | omega | exact hS.1 _ | exact hS.2 _ _ | exact stg_b hS _ _) (by first | assumption | omega | exact hS.1 _ | exact hS.2 _ _) | (unfold r_i; (repeat' split) <;> omega)) (by first | omega | assumption | exact r_zrg _ | exact hS.1 _ | exact hS.2 _ _ | exact stg_b hS _ _ | exact r_irg (by first | assumption | omega | exact hS.1 _ | exact hS.2 _ _ | exact stg_b hS _ _) (by first | assumption | omega | exact hS.1 _ | exact hS.2 _ _) | (unfold r_i; (repeat' split) <;> omega))) rfl)) (fun hp11 => (r_lit ql_105)) (fun hp12 => (r_lit ql_101))))) ?_
        refine r_pret (q_fit_char (by first | omega | assumption | exact r_zrg _ | exact hS.1 _ | exact hS.2 _ _ | exact stg_b hS _ _ | exact r_irg (by first | assumption | omega | exact hS.1 _ | exact hS.2 _ _ | exact stg_b hS _ _) (by first | assumption | omega | exact hS.1 _ | exact hS.2 _ _) | (unfold r_i; (repeat' split) <;> omega)) (by first | omega | assumption | exact r_zrg _ | exact hS.1 _ | exact hS.2 _ _ | exact stg_b hS _ _ | exact r_irg (by first | assumption | omega | exact hS.1 _ | exact hS.2 _ _ | exact stg_b hS _ _) (by first | assumption | omega | exact hS.1 _ | exact hS.2 _ _) | (unfold r_i; (repeat' split) <;> omega))) r_le0 ⟨congrArg Sum.inl ?_, rfl⟩
        refine congrArg iv ?_
        exact ((r_i1 (Classical.not_not.mp (by assumption))).trans ((r_i0 (by assumption)).trans (r_i0 (by assumption)))).symm
