theorem sp_X10_nextStroke {S : q_Sg} {c w : Nat} (hS : r_ok S) {K : Int → Int → Int} {z : Int} (hKo : ∀ al ac kk, ¬ (0 ≤ al ∧ al < 12) → ¬ K al ac = r_t5 kk) (hR : SREC S.2.1 34 z K 720) (hn : S.1 42 = sI K 720) (h1 : 0 ≤ S.1 43 ∧ S.1 43 < 12) (h2 : 0 ≤ S.1 44 ∧ S.1 44 < 12) {k : Int} (hk : 0 ≤ k ∧ k < 5) : r_X f_X10_nextStroke [.ref 47, iv (r_t5 k)] (q_en S, c, w) (fun v h2 => h2 = (q_en S, c, w) ∧ ∃ i, v = iv i ∧ rg i ∧ nxt (sK K) (fun i => nrr (S.1 43) (S.1 44) (sT K z i)) (S.1 42) (fun j => ¬ S.2.1 40 j = 0) k i) := by
  refine r_Xof (r_run (L := [_, _, _, _, _]) ⟨rfl, Nat.le_of_ble_eq_true rfl⟩ rfl ?_)
  unfold b_X10_nextStroke
  have hn1 : S.1 42 ≤ 144 := by rw [hn]; exact sI_144 (by omega)
  have hn0 : 0 ≤ S.1 42 := by rw [hn]; exact (cnt_b (p := STT K) 720).1
  have hsq : ∀ i, (0 ≤ i ∧ i < S.1 42) → (S.2.1 35 i, S.2.1 36 i, S.2.1 37 i, S.2.1 38 i) = sT K z i := fun i hi => SREC_q hR (by omega)
  have hsg : ∀ i, (0 ≤ i ∧ i < S.1 42) → sG (S.2.1 35 i, S.2.1 36 i, S.2.1 37 i, S.2.1 38 i) := fun i hi => by rw [hsq i hi]; exact sT_g hKo z i
  have hk9 : ∀ i, (0 ≤ i ∧ i < S.1 42) → S.2.1 34 i = r_t5 (sK K i) := fun i hi => (SREC_g hR (by omega)).1
  have hkb : ∀ i, (0 ≤ i ∧ i < S.1 42) → 0 ≤ sK K i ∧ sK K i < 5 := fun i hi => sK_b (by omega)
  refine r_seq ?_
  refine r_sloc (L2 := [_, _, _, _, _]) (r_lit ql_m1) rfl rfl ?_
  refine r_k0 ?_
  refine r_seq ?_
  refine r_seq ?_
  refine r_sloc (L2 := [_, _, _, _, _]) (r_lit ql_0) rfl rfl ?_
  refine r_k0 ?_
  refine r_loop (T := Int × Int × Option Value) (fun (σ : Int × Int × Option Value) => match σ with | (s, b, o) => (0 ≤ s ∧ s ≤ S.1 42) ∧ ((b = -1 ∧ ∀ j, 0 ≤ j → j < s → S.2.1 40 j = 0 → ¬ sK K j = k) ∨ ((0 ≤ b ∧ b < s) ∧ S.2.1 40 b = 0 ∧ sK K b = k ∧ ∀ j, 0 ≤ j → j < s → S.2.1 40 j = 0 → sK K j = k → nrr (S.1 43) (S.1 44) (sT K z b) ≤ nrr (S.1 43) (S.1 44) (sT K z j) ∧ (j < b → nrr (S.1 43) (S.1 44) (sT K z b) < nrr (S.1 43) (S.1 44) (sT K z j))))) (fun (σ : Int × Int × Option Value) => match σ with | (s, b, o) => (144 - s).toNat) (fun (σ : Int × Int × Option Value) => match σ with | (s, b, o) => [some (.ref 47), some (iv (r_t5 k)), some (iv b), some (iv s), o]) (fun (σ : Int × Int × Option Value) => match σ with | (s, b, o) => (q_en S, c, w)) (0, -1, _) rfl rfl ?_ ?_ ?_
  · exact ⟨by omega, Or.inl ⟨rfl, fun j h0 h1 => by omega⟩⟩
  · (show _ < 1000000); first | omega | (dsimp only; omega)
  · rintro ⟨s, b, o⟩ hP
    try dsimp only at hP ⊢
    obtain ⟨hs, hP⟩ := hP
    refine ⟨_, (r_lt (r_loc rfl rfl) (r_fld (r_loc rfl rfl) gg_Md_strokes) (by first | omega | assumption | exact hS.1 _ | exact hS.2 _ _ | exact hsg _ (by omega) | exact r_t5_r _ | (rw [hsq _ (by omega)]; have := nrr_b h1 h2 (sT_g hKo z s); omega) | (rw [hsq _ (by omega)]; have := nrr_b h1 h2 (sT_g hKo z b); omega)) (by first | omega | assumption | exact hS.1 _ | exact hS.2 _ _ | exact hsg _ (by omega) | exact r_t5_r _ | (rw [hsq _ (by omega)]; have := nrr_b h1 h2 (sT_g hKo z s); omega) | (rw [hsq _ (by omega)]; have := nrr_b h1 h2 (sT_g hKo z b); omega))), fun hp1 => ?_, fun hp2 => ?_⟩
    ·
      refine r_k0 ?_
      refine r_sret (r_loc rfl rfl) ?_
      refine r_pret (q_fit_int _) r_le0 ?_
      have hse : s = S.1 42 := by omega
      subst hse
      refine ⟨_, rfl, rfl, b, rfl, by rcases hP with ⟨h, _⟩ | ⟨h, _⟩ <;> omega, ?_⟩
      rcases hP with ⟨d1, d2⟩ | ⟨d1, d2, d3, d4⟩
      · exact Or.inl ⟨d1, fun j j0 j1 hj ej => d2 j j0 j1 (Classical.not_not.mp hj) ej⟩
      · exact Or.inr ⟨d1, fun f => f d2, d3, fun j j0 j1 hj ej => d4 j j0 j1 (Classical.not_not.mp hj) ej⟩
    ·
      have hbr : rg b := by rcases hP with ⟨h, _⟩ | ⟨h, _⟩ <;> omega
      have hbl : -1 ≤ b ∧ b < S.1 42 := by rcases hP with ⟨h, _⟩ | ⟨h, _⟩ <;> omega
      have hs1 := hp2
      refine r_seq ?_
      refine r_sloc (L2 := [_, _, _, _, _]) (r_if10 (r_and (r_not (r_z_ne (r_aget ga_Md_isDrawn (r_fld (r_loc rfl rfl) gg_Md_isDrawn) (r_loc rfl rfl) (by first | omega | assumption | exact hS.1 _ | exact hS.2 _ _ | exact hsg _ (by omega) | exact r_t5_r _ | (rw [hsq _ (by omega)]; have := nrr_b h1 h2 (sT_g hKo z s); omega) | (rw [hsq _ (by omega)]; have := nrr_b h1 h2 (sT_g hKo z b); omega)) (by first | omega | assumption | exact hS.1 _ | exact hS.2 _ _ | exact hsg _ (by omega) | exact r_t5_r _ | (rw [hsq _ (by omega)]; have := nrr_b h1 h2 (sT_g hKo z s); omega) | (rw [hsq _ (by omega)]; have := nrr_b h1 h2 (sT_g hKo z b); omega)) (by decide)) (by first | omega | assumption | exact hS.1 _ | exact hS.2 _ _ | exact hsg _ (by omega) | exact r_t5_r _ | (rw [hsq _ (by omega)]; have := nrr_b h1 h2 (sT_g hKo z s); omega) | (rw [hsq _ (by omega)]; have := nrr_b h1 h2 (sT_g hKo z b); omega)))) (fun hp3 => (r_eq (r_aget ga_Md_strokeKind (r_fld (r_loc rfl rfl) gg_Md_strokeKind) (r_loc rfl rfl) (by first | omega | assumption | exact hS.1 _ | exact hS.2 _ _ | exact hsg _ (by omega) | exact r_t5_r _ | (rw [hsq _ (by omega)]; have := nrr_b h1 h2 (sT_g hKo z s); omega) | (rw [hsq _ (by omega)]; have := nrr_b h1 h2 (sT_g hKo z b); omega)) (by first | omega | assumption | exact hS.1 _ | exact hS.2 _ _ | exact hsg _ (by omega) | exact r_t5_r _ | (rw [hsq _ (by omega)]; have := nrr_b h1 h2 (sT_g hKo z s); omega) | (rw [hsq _ (by omega)]; have := nrr_b h1 h2 (sT_g hKo z b); omega)) (by decide)) (r_loc rfl rfl) (by first | omega | assumption | exact hS.1 _ | exact hS.2 _ _ | exact hsg _ (by omega) | exact r_t5_r _ | (rw [hsq _ (by omega)]; have := nrr_b h1 h2 (sT_g hKo z s); omega) | (rw [hsq _ (by omega)]; have := nrr_b h1 h2 (sT_g hKo z b); omega)) (by first | omega | assumption | exact hS.1 _ | exact hS.2 _ _ | exact hsg _ (by omega) | exact r_t5_r _ | (rw [hsq _ (by omega)]; have := nrr_b h1 h2 (sT_g hKo z s); omega) | (rw [hsq _ (by omega)]; have := nrr_b h1 h2 (sT_g hKo z b); omega)))))) rfl rfl ?_
      refine r_k0 ?_
      refine r_sloc (L2 := [_, _, _, _, _]) (r_if (r_and (r_bz (r_loc rfl rfl)) (fun hp4 => (r_or (r_eq (r_loc rfl rfl) (r_lit ql_m1) (by first | omega | assumption | exact hS.1 _ | exact hS.2 _ _ | exact hsg _ (by omega) | exact r_t5_r _ | (rw [hsq _ (by omega)]; have := nrr_b h1 h2 (sT_g hKo z s); omega) | (rw [hsq _ (by omega)]; have := nrr_b h1 h2 (sT_g hKo z b); omega)) (by first | omega | assumption | exact hS.1 _ | exact hS.2 _ _ | exact hsg _ (by omega) | exact r_t5_r _ | (rw [hsq _ (by omega)]; have := nrr_b h1 h2 (sT_g hKo z s); omega) | (rw [hsq _ (by omega)]; have := nrr_b h1 h2 (sT_g hKo z b); omega))) (fun hp5 => (r_lt (r_call (r_cons (r_loc rfl rfl) (r_cons (r_loc rfl rfl) r_nil)) rfl (sp_X10_nearest (by first | omega | assumption | exact hS.1 _ | exact hS.2 _ _ | exact hsg _ (by omega) | exact r_t5_r _ | (rw [hsq _ (by omega)]; have := nrr_b h1 h2 (sT_g hKo z s); omega) | (rw [hsq _ (by omega)]; have := nrr_b h1 h2 (sT_g hKo z b); omega)) (by first | omega | assumption | exact hS.1 _ | exact hS.2 _ _ | exact hsg _ (by omega) | exact r_t5_r _ | (rw [hsq _ (by omega)]; have := nrr_b h1 h2 (sT_g hKo z s); omega) | (rw [hsq _ (by omega)]; have := nrr_b h1 h2 (sT_g hKo z b); omega)) (by first | omega | assumption | exact hS.1 _ | exact hS.2 _ _ | exact hsg _ (by omega) | exact r_t5_r _ | (rw [hsq _ (by omega)]; have := nrr_b h1 h2 (sT_g hKo z s); omega) | (rw [hsq _ (by omega)]; have := nrr_b h1 h2 (sT_g hKo z b); omega)) (by first | omega | assumption | exact hS.1 _ | exact hS.2 _ _ | exact hsg _ (by omega) | exact r_t5_r _ | (rw [hsq _ (by omega)]; have := nrr_b h1 h2 (sT_g hKo z s); omega) | (rw [hsq _ (by omega)]; have := nrr_b h1 h2 (sT_g hKo z b); omega)) (by first | omega | assumption | exact hS.1 _ | exact hS.2 _ _ | exact hsg _ (by omega) | exact r_t5_r _ | (rw [hsq _ (by omega)]; have := nrr_b h1 h2 (sT_g hKo z s); omega) | (rw [hsq _ (by omega)]; have := nrr_b h1 h2 (sT_g hKo z b); omega))) rfl) (r_call (r_cons (r_loc rfl rfl) (r_cons (r_loc rfl rfl) r_nil)) rfl (sp_X10_nearest (by first | omega | assumption | exact hS.1 _ | exact hS.2 _ _ | exact hsg _ (by omega) | exact r_t5_r _ | (rw [hsq _ (by omega)]; have := nrr_b h1 h2 (sT_g hKo z s); omega) | (rw [hsq _ (by omega)]; have := nrr_b h1 h2 (sT_g hKo z b); omega)) (by first | omega | assumption | exact hS.1 _ | exact hS.2 _ _ | exact hsg _ (by omega) | exact r_t5_r _ | (rw [hsq _ (by omega)]; have := nrr_b h1 h2 (sT_g hKo z s); omega) | (rw [hsq _ (by omega)]; have := nrr_b h1 h2 (sT_g hKo z b); omega)) (by first | omega | assumption | exact hS.1 _ | exact hS.2 _ _ | exact hsg _ (by omega) | exact r_t5_r _ | (rw [hsq _ (by omega)]; have := nrr_b h1 h2 (sT_g hKo z s); omega) | (rw [hsq _ (by omega)]; have := nrr_b h1 h2 (sT_g hKo z b); omega)) (by first | omega | assumption | exact hS.1 _ | exact hS.2 _ _ | exact hsg _ (by omega) | exact r_t5_r _ | (rw [hsq _ (by omega)]; have := nrr_b h1 h2 (sT_g hKo z s); omega) | (rw [hsq _ (by omega)]; have := nrr_b h1 h2 (sT_g hKo z b); omega)) (by first | omega | assumption | exact hS.1 _ | exact hS.2 _ _ | exact hsg _ (by omega) | exact r_t5_r _ | (rw [hsq _ (by omega)]; have := nrr_b h1 h2 (sT_g hKo z s); omega) | (rw [hsq _ (by omega)]; have := nrr_b h1 h2 (sT_g hKo z b); omega))) rfl) (by first | omega | assumption | exact hS.1 _ | exact hS.2 _ _ | exact hsg _ (by omega) | exact r_t5_r _ | (rw [hsq _ (by omega)]; have := nrr_b h1 h2 (sT_g hKo z s); omega) | (rw [hsq _ (by omega)]; have := nrr_b h1 h2 (sT_g hKo z b); omega)) (by first | omega | assumption | exact hS.1 _ | exact hS.2 _ _ | exact hsg _ (by omega) | exact r_t5_r _ | (rw [hsq _ (by omega)]; have := nrr_b h1 h2 (sT_g hKo z s); omega) | (rw [hsq _ (by omega)]; have := nrr_b h1 h2 (sT_g hKo z b); omega))))))) (fun hp6 => (r_loc rfl rfl)) (fun hp7 => (r_loc rfl rfl))) rfl rfl ?_
      refine r_l0 ?_
      refine r_sinc (L2 := [_, _, _, _, _]) rfl rfl ?_
      refine r_lend (s + 1, r_i ((¬ ¬ S.2.1 40 s = 0 ∧ S.2.1 34 s = r_t5 k) ∧ (b = -1 ∨ nrr (S.1 43) (S.1 44) (S.2.1 35 s, S.2.1 36 s, S.2.1 37 s, S.2.1 38 s) < nrr (S.1 43) (S.1 44) (S.2.1 35 b, S.2.1 36 b, S.2.1 37 b, S.2.1 38 b))) s b, _) rfl rfl ?_ (by first | omega | (dsimp only; omega))
      try dsimp only
      refine ⟨by omega, ?_⟩
      have hkk : S.2.1 34 s = r_t5 k ↔ sK K s = k := by
        rw [hk9 s (by omega)]; exact ⟨fun h => r_t5_i (hkb s (by omega)) hk h, fun h => by rw [h]⟩
      rcases r_id ((¬ ¬ S.2.1 40 s = 0 ∧ S.2.1 34 s = r_t5 k) ∧ (b = -1 ∨ nrr (S.1 43) (S.1 44) (S.2.1 35 s, S.2.1 36 s, S.2.1 37 s, S.2.1 38 s) < nrr (S.1 43) (S.1 44) (S.2.1 35 b, S.2.1 36 b, S.2.1 37 b, S.2.1 38 b))) s b with ⟨e, ⟨⟨c1, c2⟩, c3⟩⟩ | ⟨e, c⟩
      · rw [e]
        have c1 := Classical.not_not.mp c1
        refine Or.inr ⟨by omega, c1, hkk.mp c2, fun j j0 j1 hj ej => ?_⟩
        by_cases d : j = s
        · rw [d]; exact ⟨Int.le_refl _, fun f => by omega⟩
        · rcases hP with ⟨d1, d2⟩ | ⟨d1, d2, d3, d4⟩
          · exact absurd ej (d2 j j0 (by omega) hj)
          · have k3 := d4 j j0 (by omega) hj ej
            rw [hsq s (by omega), hsq b (by omega)] at c3
            exact ⟨by omega, fun f => by omega⟩
      · rw [e]
        rcases hP with ⟨d1, d2⟩ | ⟨d1, d2, d3, d4⟩
        · refine Or.inl ⟨d1, fun j j0 j1 hj ej => ?_⟩
          by_cases d : j = s
          · rw [d] at hj ej; exact c ⟨⟨fun f => f hj, hkk.mpr ej⟩, Or.inl d1⟩
          · exact d2 j j0 (by omega) hj ej
        · refine Or.inr ⟨by omega, d2, d3, fun j j0 j1 hj ej => ?_⟩
          by_cases d : j = s
          · rw [d] at hj ej
            have hge : ¬ nrr (S.1 43) (S.1 44) (sT K z s) < nrr (S.1 43) (S.1 44) (sT K z b) := fun f => c ⟨⟨fun f => f hj, hkk.mpr ej⟩, Or.inr (by rw [hsq s (by omega), hsq b (by omega)]; exact f)⟩
            rw [d]; exact ⟨by omega, fun f => by omega⟩
          · exact d4 j j0 (by omega) hj ej
