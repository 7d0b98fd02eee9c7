theorem sp_X6_nearestStroke {S : q_Sg} {c w : Nat} (hS : r_ok S) {K : Int → Int → Int} {z : Int} (hKo : ∀ al ac kk, ¬ (0 ≤ al ∧ al < 12) → ¬ K al ac = r_t5 kk) (hR : SREC S.2.1 9 z K 720) (hn : S.1 8 = sI K 720) (h1 : 0 ≤ S.1 11 ∧ S.1 11 < 12) (h2 : 0 ≤ S.1 12 ∧ S.1 12 < 12) (hx : ∃ j, (0 ≤ j ∧ j < S.1 8) ∧ S.2.1 19 j = 0) : r_F f_X6_nearestStroke [.ref 42] (q_en S, c, w) (iv (bst (sK K) (fun i => nrr (S.1 11) (S.1 12) (sT K z i)) (S.1 8) (fun j => ¬ S.2.1 19 j = 0))) := by
  refine r_Fof (r_run (L := [_, _, _, _, _]) ⟨rfl, Nat.le_of_ble_eq_true rfl⟩ rfl ?_)
  unfold b_X6_nearestStroke
  have hn1 : S.1 8 ≤ 144 := by rw [hn]; exact sI_144 (by omega)
  have hsq : ∀ i, (0 ≤ i ∧ i < S.1 8) → (S.2.1 10 i, S.2.1 11 i, S.2.1 12 i, S.2.1 13 i) = sT K z i := fun i hi => SREC_q hR (by omega)
  have hsg : ∀ i, (0 ≤ i ∧ i < S.1 8) → sG (S.2.1 10 i, S.2.1 11 i, S.2.1 12 i, S.2.1 13 i) := fun i hi => by rw [hsq i hi]; exact sT_g hKo z i
  have hk9 : ∀ i, (0 ≤ i ∧ i < S.1 8) → S.2.1 9 i = r_t5 (sK K i) := fun i hi => (SREC_g hR (by omega)).1
  have hkb : ∀ i, (0 ≤ i ∧ i < S.1 8) → 0 ≤ sK K i ∧ sK K i < 5 := fun i hi => sK_b (by omega)
  have hn0 := hS.1 8
  refine r_seq ?_
  refine r_sloc (L2 := [_, _, _, _, _]) (r_lit ql_m1) rfl rfl ?_
  refine r_k0 ?_
  refine r_seq ?_
  refine r_sloc (L2 := [_, _, _, _, _]) (r_lit ql_0) rfl rfl ?_
  refine r_k0 ?_
  refine r_seq ?_
  refine r_seq ?_
  refine r_sloc (L2 := [_, _, _, _, _]) (r_lit ql_0) rfl rfl ?_
  refine r_k0 ?_
  refine r_loop (T := Int × Int × Int × Option Value) (fun (σ : Int × Int × Int × Option Value) => match σ with | (s, b, sh, o) => (0 ≤ s ∧ s ≤ S.1 8) ∧ rg sh ∧ ((b = -1 ∧ ∀ j, 0 ≤ j → j < s → ¬ S.2.1 19 j = 0) ∨ ((0 ≤ b ∧ b < s) ∧ S.2.1 19 b = 0 ∧ sh = nrr (S.1 11) (S.1 12) (sT K z b) ∧ ∀ j, 0 ≤ j → j < s → S.2.1 19 j = 0 → sK K j = sK K b ∧ nrr (S.1 11) (S.1 12) (sT K z b) ≤ nrr (S.1 11) (S.1 12) (sT K z j) ∧ (j < b → nrr (S.1 11) (S.1 12) (sT K z b) < nrr (S.1 11) (S.1 12) (sT K z j))))) (fun (σ : Int × Int × Int × Option Value) => match σ with | (s, b, sh, o) => (144 - s).toNat) (fun (σ : Int × Int × Int × Option Value) => match σ with | (s, b, sh, o) => [some (.ref 42), some (iv b), some (iv sh), some (iv s), o]) (fun (σ : Int × Int × Int × Option Value) => match σ with | (s, b, sh, o) => (q_en S, c, w)) (0, -1, 0, _) rfl rfl ?_ ?_ ?_
  · exact ⟨by obtain ⟨j, hj, _⟩ := hx; omega, by omega, Or.inl ⟨rfl, fun j h0 h1 => by omega⟩⟩
  · (show _ < 1000000); first | omega | (dsimp only; omega)
  · rintro ⟨s, b, sh, o⟩ hP
    try dsimp only at hP ⊢
    obtain ⟨hs, hsh, hP⟩ := hP
    refine ⟨_, (r_and (r_lt (r_loc rfl rfl) (r_call (r_cons (r_fld (r_loc rfl rfl) gg_Planner_strokes) r_nil) rfl sp_X8_size rfl) (by first | omega | assumption | exact hS.1 _ | exact hS.2 _ _ | exact hsg _ (by omega) | (rw [hk9 _ (by omega)]; exact r_t5_c _) | (rw [hsq _ (by omega)]; have := nrr_b h1 h2 (sT_g hKo z s); omega)) (by first | omega | assumption | exact hS.1 _ | exact hS.2 _ _ | exact hsg _ (by omega) | (rw [hk9 _ (by omega)]; exact r_t5_c _) | (rw [hsq _ (by omega)]; have := nrr_b h1 h2 (sT_g hKo z s); omega))) (fun hp3 => (r_lt (r_loc rfl rfl) (r_len (r_fld (r_loc rfl rfl) gg_Planner_isDrawn) ga_Planner_isDrawn) (by first | omega | assumption | exact hS.1 _ | exact hS.2 _ _ | exact hsg _ (by omega) | (rw [hk9 _ (by omega)]; exact r_t5_c _) | (rw [hsq _ (by omega)]; have := nrr_b h1 h2 (sT_g hKo z s); omega)) (by first | omega | assumption | exact hS.1 _ | exact hS.2 _ _ | exact hsg _ (by omega) | (rw [hk9 _ (by omega)]; exact r_t5_c _) | (rw [hsq _ (by omega)]; have := nrr_b h1 h2 (sT_g hKo z s); omega))))), fun hp1 => ?_, fun hp2 => ?_⟩
    ·
      refine r_k0 ?_
      refine r_sret (r_loc rfl rfl) ?_
      refine r_pret (q_fit_int _) r_le0 ⟨congrArg Sum.inl ?_, rfl⟩
      refine congrArg iv ?_
      obtain ⟨jx, hjx, hx0⟩ := hx
      rcases hP with ⟨c1, c2⟩ | ⟨c1, c2, c3, c4⟩
      · exact absurd hx0 (c2 jx hjx.1 (by omega))
      · exact bst_e ⟨by omega, fun c => c c2, fun j j0 j1 hj => by rw [(c4 j j0 (by omega) (Classical.not_not.mp hj)).1]; exact Int.le_refl _, fun j j0 j1 hj _ => (c4 j j0 (by omega) (Classical.not_not.mp hj)).2⟩
    ·
      have hbr : rg b := by rcases hP with ⟨h, _⟩ | ⟨h, _⟩ <;> omega
      have hbl : b < S.1 8 := by rcases hP with ⟨h, _⟩ | ⟨h, _⟩ <;> omega
      have hs1 := hp2
      refine r_seq ?_
      refine r_sif (r_z_ne (r_aget ga_Planner_isDrawn (r_fld (r_loc rfl rfl) gg_Planner_isDrawn) (r_loc rfl rfl) (by first | omega | assumption | exact hS.1 _ | exact hS.2 _ _ | exact hsg _ (by omega) | (rw [hk9 _ (by omega)]; exact r_t5_c _) | (rw [hsq _ (by omega)]; have := nrr_b h1 h2 (sT_g hKo z s); omega)) (by first | omega | assumption | exact hS.1 _ | exact hS.2 _ _ | exact hsg _ (by omega) | (rw [hk9 _ (by omega)]; exact r_t5_c _) | (rw [hsq _ (by omega)]; have := nrr_b h1 h2 (sT_g hKo z s); omega)) (by decide)) (by first | omega | assumption | exact hS.1 _ | exact hS.2 _ _ | exact hsg _ (by omega) | (rw [hk9 _ (by omega)]; exact r_t5_c _) | (rw [hsq _ (by omega)]; have := nrr_b h1 h2 (sT_g hKo z s); omega))) (fun hp4 => ?_) (fun hp5 => ?_)
      ·
        have hpT := hp4
        have hpT0 := hp4
        refine wS_cnt ?_
        refine r_ks (j := 1) ?_
        refine r_l2 ?_
        refine r_sinc (L2 := [_, _, _, _, _]) rfl rfl ?_
        refine r_lend (s + 1, b, sh, _) rfl rfl ?_ (by first | omega | (dsimp only; omega))
        try dsimp only
        refine ⟨by omega, hsh, ?_⟩
        rcases hP with ⟨c1, c2⟩ | ⟨c1, c2, c3, c4⟩
        · refine Or.inl ⟨c1, fun j j0 j1 => ?_⟩
          by_cases e : j = s
          · rw [e]; assumption
          · exact c2 j j0 (by omega)
        · refine Or.inr ⟨by omega, c2, c3, fun j j0 j1 hj => ?_⟩
          by_cases e : j = s
          · rw [e] at hj; contradiction
          · exact c4 j j0 (by omega) hj
      ·
        have hpF := hp5
        have hpF0 := hp5
        refine wS_skip ?_
        refine r_k0 ?_
        refine r_seq ?_
        refine r_sif (r_and (r_z_ge (r_loc rfl rfl) (by first | omega | assumption | exact hS.1 _ | exact hS.2 _ _ | exact hsg _ (by omega) | (rw [hk9 _ (by omega)]; exact r_t5_c _) | (rw [hsq _ (by omega)]; have := nrr_b h1 h2 (sT_g hKo z s); omega))) (fun hp6 => (r_ne (r_call (r_cons (r_fld (r_loc rfl rfl) gg_Planner_strokes) (r_cons (r_loc rfl rfl) r_nil)) rfl (sp_X8_kindOf (by first | omega | assumption | exact hS.1 _ | exact hS.2 _ _ | exact hsg _ (by omega) | (rw [hk9 _ (by omega)]; exact r_t5_c _) | (rw [hsq _ (by omega)]; have := nrr_b h1 h2 (sT_g hKo z s); omega)) (by first | omega | assumption | exact hS.1 _ | exact hS.2 _ _ | exact hsg _ (by omega) | (rw [hk9 _ (by omega)]; exact r_t5_c _) | (rw [hsq _ (by omega)]; have := nrr_b h1 h2 (sT_g hKo z s); omega)) (by first | omega | assumption | exact hS.1 _ | exact hS.2 _ _ | exact hsg _ (by omega) | (rw [hk9 _ (by omega)]; exact r_t5_c _) | (rw [hsq _ (by omega)]; have := nrr_b h1 h2 (sT_g hKo z s); omega)) (by first | omega | assumption | exact hS.1 _ | exact hS.2 _ _ | exact hsg _ (by omega) | (rw [hk9 _ (by omega)]; exact r_t5_c _) | (rw [hsq _ (by omega)]; have := nrr_b h1 h2 (sT_g hKo z s); omega))) rfl) (r_call (r_cons (r_fld (r_loc rfl rfl) gg_Planner_strokes) (r_cons (r_loc rfl rfl) r_nil)) rfl (sp_X8_kindOf (by first | omega | assumption | exact hS.1 _ | exact hS.2 _ _ | exact hsg _ (by omega) | (rw [hk9 _ (by omega)]; exact r_t5_c _) | (rw [hsq _ (by omega)]; have := nrr_b h1 h2 (sT_g hKo z s); omega)) (by first | omega | assumption | exact hS.1 _ | exact hS.2 _ _ | exact hsg _ (by omega) | (rw [hk9 _ (by omega)]; exact r_t5_c _) | (rw [hsq _ (by omega)]; have := nrr_b h1 h2 (sT_g hKo z s); omega)) (by first | omega | assumption | exact hS.1 _ | exact hS.2 _ _ | exact hsg _ (by omega) | (rw [hk9 _ (by omega)]; exact r_t5_c _) | (rw [hsq _ (by omega)]; have := nrr_b h1 h2 (sT_g hKo z s); omega)) (by first | omega | assumption | exact hS.1 _ | exact hS.2 _ _ | exact hsg _ (by omega) | (rw [hk9 _ (by omega)]; exact r_t5_c _) | (rw [hsq _ (by omega)]; have := nrr_b h1 h2 (sT_g hKo z s); omega))) rfl) (by first | omega | assumption | exact hS.1 _ | exact hS.2 _ _ | exact hsg _ (by omega) | (rw [hk9 _ (by omega)]; exact r_t5_c _) | (rw [hsq _ (by omega)]; have := nrr_b h1 h2 (sT_g hKo z s); omega)) (by first | omega | assumption | exact hS.1 _ | exact hS.2 _ _ | exact hsg _ (by omega) | (rw [hk9 _ (by omega)]; exact r_t5_c _) | (rw [hsq _ (by omega)]; have := nrr_b h1 h2 (sT_g hKo z s); omega))))) (fun hp7 => ?_) (fun hp8 => ?_)
        ·
          have hpT := hp7
          have hpT1 := hp7
          refine wS_brk ?_
          refine r_ks (j := 0) ?_
          refine r_l1 ?_
          refine r_k0 ?_
          refine r_sret (r_loc rfl rfl) ?_
          refine r_pret (q_fit_int _) r_le0 ⟨congrArg Sum.inl ?_, rfl⟩
          refine congrArg iv ?_
          have hs0 : S.2.1 19 s = 0 := Classical.not_not.mp hpF0
          rcases hP with ⟨c1, c2⟩ | ⟨c1, c2, c3, c4⟩
          · have := hpT1.1; omega
          · have hlt : sK K b < sK K s := by
              have k := hpT1.2
              rw [hk9 s (by omega), hk9 b (by omega)] at k
              have k2 := sK_m (K := K) (i := b) (j := s) (by omega)
              by_cases d : sK K b = sK K s
              · rw [d] at k; exact absurd rfl k
              · omega
            refine bst_e ⟨by omega, fun c => c c2, fun j j0 j1 hj => ?_, fun j j0 j1 hj ej => ?_⟩
            · by_cases d : j < s
              · rw [(c4 j j0 d (Classical.not_not.mp hj)).1]; exact Int.le_refl _
              · have k2 := sK_m (K := K) (i := s) (j := j) (by omega)
                omega
            · by_cases d : j < s
              · exact (c4 j j0 d (Classical.not_not.mp hj)).2
              · have k2 := sK_m (K := K) (i := s) (j := j) (by omega)
                omega
        ·
          have hpF := hp8
          have hpF1 := hp8
          refine wS_skip ?_
          refine r_k0 ?_
          refine r_seq ?_
          refine r_sloc (L2 := [_, _, _, _, _]) (r_call (r_cons (r_loc rfl rfl) (r_cons (r_loc rfl rfl) r_nil)) rfl (sp_X6_distanceOf (by first | omega | assumption | exact hS.1 _ | exact hS.2 _ _ | exact hsg _ (by omega) | (rw [hk9 _ (by omega)]; exact r_t5_c _) | (rw [hsq _ (by omega)]; have := nrr_b h1 h2 (sT_g hKo z s); omega)) (by first | omega | assumption | exact hS.1 _ | exact hS.2 _ _ | exact hsg _ (by omega) | (rw [hk9 _ (by omega)]; exact r_t5_c _) | (rw [hsq _ (by omega)]; have := nrr_b h1 h2 (sT_g hKo z s); omega)) (by first | omega | assumption | exact hS.1 _ | exact hS.2 _ _ | exact hsg _ (by omega) | (rw [hk9 _ (by omega)]; exact r_t5_c _) | (rw [hsq _ (by omega)]; have := nrr_b h1 h2 (sT_g hKo z s); omega)) (by first | omega | assumption | exact hS.1 _ | exact hS.2 _ _ | exact hsg _ (by omega) | (rw [hk9 _ (by omega)]; exact r_t5_c _) | (rw [hsq _ (by omega)]; have := nrr_b h1 h2 (sT_g hKo z s); omega)) (by first | omega | assumption | exact hS.1 _ | exact hS.2 _ _ | exact hsg _ (by omega) | (rw [hk9 _ (by omega)]; exact r_t5_c _) | (rw [hsq _ (by omega)]; have := nrr_b h1 h2 (sT_g hKo z s); omega)) (by first | omega | assumption | exact hS.1 _ | exact hS.2 _ _ | exact hsg _ (by omega) | (rw [hk9 _ (by omega)]; exact r_t5_c _) | (rw [hsq _ (by omega)]; have := nrr_b h1 h2 (sT_g hKo z s); omega))) rfl) rfl rfl ?_
          refine r_k0 ?_
          refine r_sif (r_or (r_z_lt (r_loc rfl rfl) (by first | omega | assumption | exact hS.1 _ | exact hS.2 _ _ | exact hsg _ (by omega) | (rw [hk9 _ (by omega)]; exact r_t5_c _) | (rw [hsq _ (by omega)]; have := nrr_b h1 h2 (sT_g hKo z s); omega))) (fun hp9 => (r_lt (r_loc rfl rfl) (r_loc rfl rfl) (by first | omega | assumption | exact hS.1 _ | exact hS.2 _ _ | exact hsg _ (by omega) | (rw [hk9 _ (by omega)]; exact r_t5_c _) | (rw [hsq _ (by omega)]; have := nrr_b h1 h2 (sT_g hKo z s); omega)) (by first | omega | assumption | exact hS.1 _ | exact hS.2 _ _ | exact hsg _ (by omega) | (rw [hk9 _ (by omega)]; exact r_t5_c _) | (rw [hsq _ (by omega)]; have := nrr_b h1 h2 (sT_g hKo z s); omega))))) (fun hp10 => ?_) (fun hp11 => ?_)
          ·
            have hpT := hp10
            have hpT2 := hp10
            refine r_seq ?_
            refine r_sloc (L2 := [_, _, _, _, _]) (r_loc rfl rfl) rfl rfl ?_
            refine r_k0 ?_
            refine r_sloc (L2 := [_, _, _, _, _]) (r_loc rfl rfl) rfl rfl ?_
            refine r_l0 ?_
            refine r_sinc (L2 := [_, _, _, _, _]) rfl rfl ?_
            refine r_lend (s + 1, s, nrr (S.1 11) (S.1 12) (S.2.1 10 s, S.2.1 11 s, S.2.1 12 s, S.2.1 13 s), _) rfl rfl ?_ (by first | omega | (dsimp only; omega))
            try dsimp only
            have hnb := nrr_b h1 h2 (sT_g hKo z s)
            have hs0 : S.2.1 19 s = 0 := Classical.not_not.mp hpF0
            rw [hsq s (by omega)]
            refine ⟨by omega, by omega, Or.inr ⟨by omega, hs0, rfl, fun j j0 j1 hj => ?_⟩⟩
            by_cases e : j = s
            · rw [e]; exact ⟨rfl, Int.le_refl _, fun c => by omega⟩
            · rcases hP with ⟨c1, c2⟩ | ⟨c1, c2, c3, c4⟩
              · exact absurd hj (c2 j j0 (by omega))
              · obtain ⟨d1, d2, d3⟩ := c4 j j0 (by omega) hj
                have hkk : sK K s = sK K b := by
                  have k := hpF1
                  rw [hk9 s (by omega), hk9 b (by omega)] at k
                  exact r_t5_i (hkb s (by omega)) (hkb b (by omega)) (Classical.byContradiction fun d => k ⟨c1.1, d⟩)
                have hlt : nrr (S.1 11) (S.1 12) (sT K z s) < sh := by
                  have k := hpT2
                  rw [hsq s (by omega)] at k
                  omega
                exact ⟨by omega, by omega, fun _ => by omega⟩
          ·
            have hpF := hp11
            have hpF2 := hp11
            refine wS_skip ?_
            refine r_l0 ?_
            refine r_sinc (L2 := [_, _, _, _, _]) rfl rfl ?_
            refine r_lend (s + 1, b, sh, _) rfl rfl ?_ (by first | omega | (dsimp only; omega))
            try dsimp only
            refine ⟨by omega, hsh, ?_⟩
            have hs0 : S.2.1 19 s = 0 := Classical.not_not.mp hpF0
            rcases hP with ⟨c1, c2⟩ | ⟨c1, c2, c3, c4⟩
            · exact absurd (Or.inl (by omega)) hpF2
            · refine Or.inr ⟨by omega, c2, c3, fun j j0 j1 hj => ?_⟩
              by_cases e : j = s
              · have hkk : sK K s = sK K b := by
                  have k := hpF1
                  rw [hk9 s (by omega), hk9 b (by omega)] at k
                  exact r_t5_i (hkb s (by omega)) (hkb b (by omega)) (Classical.byContradiction fun d => k ⟨c1.1, d⟩)
                have hge : sh ≤ nrr (S.1 11) (S.1 12) (sT K z s) := by
                  have k := hpF2
                  rw [hsq s (by omega)] at k
                  omega
                rw [e]; exact ⟨hkk, by omega, fun c => by omega⟩
              · exact c4 j j0 (by omega) hj
