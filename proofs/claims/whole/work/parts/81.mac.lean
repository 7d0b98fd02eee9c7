/-! calls of the machine -/
theorem r_Kv {e : qE} {L : qL} {h h2 : qH} {v v2 : Value} (k : r_K e L h v h2) (d : v = v2) : r_K e L h v2 h2 := by rw [← d]; exact k
theorem e9_i {i n : Int} {c w : Nat} {o6 o7 o8 : Option Value} {U : q_Sg} (h : INV U (n + 1)) : r_E9 i n c w (1, .null) (LL i o6 o7 o8) (q_en U, c, w) := ⟨rfl, o6, o7, o8, U, c, w, rfl, rfl, h, ⟨Nat.le_refl _, Nat.le_succ _⟩, Nat.le_refl _, Nat.le_add_right _ _⟩
theorem INV_g {S : q_Sg} {n : Int} (h : INV S n) : INV (q_sI S 23 0) (n + 1) := INV_1 (r_frI r_fr0) (by decide) (by decide) (by decide) (r_okI h.1 (by omega)) h.2.2.2.2.2.1 h
theorem suml_0 {g : Int → Int} : ∀ n : Nat, (∀ j : Int, 0 ≤ j → j < n → g j = 0) → suml g n = 0
  | 0, _ => rfl
  | n + 1, h => by
    show suml g n + g n = 0
    rw [suml_0 n (fun j h0 h1 => h j h0 (by omega)), h n (by omega) (by omega)]; rfl
theorem cs_13 {xs : Nat → Int32} {Ln : Nat} : CASE xs Ln (bL_13 xs Ln) := by
  intro S n c w i o6 o7 o8 hI hn hi hL
  obtain ⟨hS, h01, e21, hIS, hIZ, hKC, l, th, hCm, hMm⟩ := id hI
  have hSK := hIS.1
  obtain ⟨hCR, hRR, hCO, hCL, hll, hC18, hCt⟩ := id hCm
  obtain ⟨⟨f32, f35, f37, f38, f40, f41, fA, f39, f34, fJ⟩, ⟨g13, g22, g16, g17, g33⟩, k102, ⟨m18, mP, m19, m19b, m20, m14, m15⟩, ⟨j2, jA⟩, hRun⟩ := id hMm
  unfold bL_13
  exact r_cmpI (hS.1 _) (r_CE (r_call (r_cons (r_loc rfl rfl) r_nil) rfl (sp_X9_commands hS) rfl)) (r_Kv (r_callG (r_cons (r_loc rfl rfl) r_nil) rfl (sp_X10_commands hS) rfl) (congrArg iv (hRR.1.trans hCR.1.symm))) (e9_i (INV_g hI))
theorem cs_16 {xs : Nat → Int32} {Ln : Nat} : CASE xs Ln (bL_16 xs Ln) := by
  intro S n c w i o6 o7 o8 hI hn hi hL
  obtain ⟨hS, h01, e21, hIS, hIZ, hKC, l, th, hCm, hMm⟩ := id hI
  have hSK := hIS.1
  obtain ⟨hCR, hRR, hCO, hCL, hll, hC18, hCt⟩ := id hCm
  obtain ⟨⟨f32, f35, f37, f38, f40, f41, fA, f39, f34, fJ⟩, ⟨g13, g22, g16, g17, g33⟩, k102, ⟨m18, mP, m19, m19b, m20, m14, m15⟩, ⟨j2, jA⟩, hRun⟩ := id hMm
  unfold bL_16
  exact r_cmpI (hS.1 _) (r_CE (r_call (r_cons (r_loc rfl rfl) r_nil) rfl (sp_X9_travel hS) rfl)) (r_Kv (r_callG (r_cons (r_loc rfl rfl) r_nil) rfl (sp_X10_travel hS hRR hCO hll) rfl) (congrArg iv (hCR.2.2.1.symm))) (e9_i (INV_g hI))
theorem cs_17 {xs : Nat → Int32} {Ln : Nat} : CASE xs Ln (bL_17 xs Ln) := by
  intro S n c w i o6 o7 o8 hI hn hi hL
  obtain ⟨hS, h01, e21, hIS, hIZ, hKC, l, th, hCm, hMm⟩ := id hI
  have hSK := hIS.1
  obtain ⟨hCR, hRR, hCO, hCL, hll, hC18, hCt⟩ := id hCm
  obtain ⟨⟨f32, f35, f37, f38, f40, f41, fA, f39, f34, fJ⟩, ⟨g13, g22, g16, g17, g33⟩, k102, ⟨m18, mP, m19, m19b, m20, m14, m15⟩, ⟨j2, jA⟩, hRun⟩ := id hMm
  unfold bL_17
  exact r_cmpL (r_CE (r_call (r_cons (r_loc rfl rfl) r_nil) rfl (sp_X9_planned hS) rfl)) (r_Kv (r_callG (r_cons (r_loc rfl rfl) r_nil) rfl (sp_X10_planned hS hRR hCO hll) rfl) (congrArg (fun x => Value.long (Int64.ofInt x)) (hCR.2.2.2.symm))) (e9_i (INV_g hI))
theorem cs_26 {xs : Nat → Int32} {Ln : Nat} : CASE xs Ln (bL_26 xs Ln) := by
  intro S n c w i o6 o7 o8 hI hn hi hL
  obtain ⟨hS, h01, e21, hIS, hIZ, hKC, l, th, hCm, hMm⟩ := id hI
  have hSK := hIS.1
  obtain ⟨hCR, hRR, hCO, hCL, hll, hC18, hCt⟩ := id hCm
  obtain ⟨⟨f32, f35, f37, f38, f40, f41, fA, f39, f34, fJ⟩, ⟨g13, g22, g16, g17, g33⟩, k102, ⟨m18, mP, m19, m19b, m20, m14, m15⟩, ⟨j2, jA⟩, hRun⟩ := id hMm
  unfold bL_26
  exact r_cmpI (hS.1 _) (r_CE (r_call (r_cons (r_loc rfl rfl) r_nil) rfl (sp_X9_state hS g16 g17) rfl)) (r_Kv (r_callG (r_cons (r_loc rfl rfl) r_nil) rfl (sp_X10_state hS (by rw [f32]; exact g16)) rfl) (congrArg iv (f32))) (e9_i (INV_g hI))
theorem cs_27 {xs : Nat → Int32} {Ln : Nat} : CASE xs Ln (bL_27 xs Ln) := by
  intro S n c w i o6 o7 o8 hI hn hi hL
  obtain ⟨hS, h01, e21, hIS, hIZ, hKC, l, th, hCm, hMm⟩ := id hI
  have hSK := hIS.1
  obtain ⟨hCR, hRR, hCO, hCL, hll, hC18, hCt⟩ := id hCm
  obtain ⟨⟨f32, f35, f37, f38, f40, f41, fA, f39, f34, fJ⟩, ⟨g13, g22, g16, g17, g33⟩, k102, ⟨m18, mP, m19, m19b, m20, m14, m15⟩, ⟨j2, jA⟩, hRun⟩ := id hMm
  unfold bL_27
  exact r_cmpI (hS.1 _) (r_CE (r_call (r_cons (r_loc rfl rfl) r_nil) rfl (sp_X9_next hS) rfl)) (r_Kv (r_callG (r_cons (r_loc rfl rfl) r_nil) rfl (sp_X10_next hS) rfl) (congrArg iv (f35))) (e9_i (INV_g hI))
theorem cs_28 {xs : Nat → Int32} {Ln : Nat} : CASE xs Ln (bL_28 xs Ln) := by
  intro S n c w i o6 o7 o8 hI hn hi hL
  obtain ⟨hS, h01, e21, hIS, hIZ, hKC, l, th, hCm, hMm⟩ := id hI
  have hSK := hIS.1
  obtain ⟨hCR, hRR, hCO, hCL, hll, hC18, hCt⟩ := id hCm
  obtain ⟨⟨f32, f35, f37, f38, f40, f41, fA, f39, f34, fJ⟩, ⟨g13, g22, g16, g17, g33⟩, k102, ⟨m18, mP, m19, m19b, m20, m14, m15⟩, ⟨j2, jA⟩, hRun⟩ := id hMm
  unfold bL_28
  exact r_cmpI (hS.1 _) (r_CE (r_call (r_cons (r_loc rfl rfl) r_nil) rfl (sp_X9_speed hS) rfl)) (r_Kv (r_callG (r_cons (r_loc rfl rfl) r_nil) rfl (sp_X10_speed hS) rfl) (congrArg iv (f38))) (e9_i (INV_g hI))
theorem cs_29 {xs : Nat → Int32} {Ln : Nat} : CASE xs Ln (bL_29 xs Ln) := by
  intro S n c w i o6 o7 o8 hI hn hi hL
  obtain ⟨hS, h01, e21, hIS, hIZ, hKC, l, th, hCm, hMm⟩ := id hI
  have hSK := hIS.1
  obtain ⟨hCR, hRR, hCO, hCL, hll, hC18, hCt⟩ := id hCm
  obtain ⟨⟨f32, f35, f37, f38, f40, f41, fA, f39, f34, fJ⟩, ⟨g13, g22, g16, g17, g33⟩, k102, ⟨m18, mP, m19, m19b, m20, m14, m15⟩, ⟨j2, jA⟩, hRun⟩ := id hMm
  unfold bL_29
  exact r_cmpI (hS.1 _) (r_CE (r_call (r_cons (r_loc rfl rfl) r_nil) rfl (sp_X9_temperature hS) rfl)) (r_Kv (r_callG (r_cons (r_loc rfl rfl) r_nil) rfl (sp_X10_temperature hS) rfl) (congrArg iv (f40))) (e9_i (INV_g hI))
theorem cs_30 {xs : Nat → Int32} {Ln : Nat} : CASE xs Ln (bL_30 xs Ln) := by
  intro S n c w i o6 o7 o8 hI hn hi hL
  obtain ⟨hS, h01, e21, hIS, hIZ, hKC, l, th, hCm, hMm⟩ := id hI
  have hSK := hIS.1
  obtain ⟨hCR, hRR, hCO, hCL, hll, hC18, hCt⟩ := id hCm
  obtain ⟨⟨f32, f35, f37, f38, f40, f41, fA, f39, f34, fJ⟩, ⟨g13, g22, g16, g17, g33⟩, k102, ⟨m18, mP, m19, m19b, m20, m14, m15⟩, ⟨j2, jA⟩, hRun⟩ := id hMm
  unfold bL_30
  exact r_cmpL (r_CE (r_call (r_cons (r_loc rfl rfl) r_nil) rfl (sp_X9_time hS) rfl)) (r_Kv (r_callG (r_cons (r_loc rfl rfl) r_nil) rfl (sp_X10_time hS) rfl) (congrArg (fun x => Value.long (Int64.ofInt x)) (fJ))) (e9_i (INV_g hI))
theorem cs_32 {xs : Nat → Int32} {Ln : Nat} : CASE xs Ln (bL_32 xs Ln) := by
  intro S n c w i o6 o7 o8 hI hn hi hL
  obtain ⟨hS, h01, e21, hIS, hIZ, hKC, l, th, hCm, hMm⟩ := id hI
  have hSK := hIS.1
  obtain ⟨hCR, hRR, hCO, hCL, hll, hC18, hCt⟩ := id hCm
  obtain ⟨⟨f32, f35, f37, f38, f40, f41, fA, f39, f34, fJ⟩, ⟨g13, g22, g16, g17, g33⟩, k102, ⟨m18, mP, m19, m19b, m20, m14, m15⟩, ⟨j2, jA⟩, hRun⟩ := id hMm
  unfold bL_32
  exact r_cmpL (r_CE (r_call (r_cons (r_loc rfl rfl) r_nil) rfl (sp_X9_laidInAll hS) rfl)) (r_Kv (r_callG (r_cons (r_loc rfl rfl) r_nil) rfl (sp_X10_laidInAll hS) rfl) (congrArg (fun x => Value.long (Int64.ofInt x)) (by rw [fA]; exact j2.symm))) (e9_i (INV_g hI))
theorem cs_18 {xs : Nat → Int32} {Ln : Nat} : CASE xs Ln (bL_18 xs Ln) := by
  intro S n c w i o6 o7 o8 hI hn hi hL
  obtain ⟨hS, h01, e21, hIS, hIZ, hKC, l, th, hCm, hMm⟩ := id hI
  have hSK := hIS.1
  obtain ⟨⟨f32, f35, f37, f38, f40, f41, fA, f39, f34, fJ⟩, ⟨g13, g22, g16, g17, g33⟩, k102, ⟨m18, mP, m19, m19b, m20, m14, m15⟩, ⟨j2, jA⟩, hRun⟩ := id hMm
  unfold bL_18
  refine r_case (r_callC (r_cons (r_loc rfl rfl) (r_cons (r_rd 1 hi hL (by decide) (by decide)) (r_cons (r_loc rfl rfl) r_nil))) rfl (sp_L_setTarget hS g16 g17 (sc_r _ _)) r_isQ) (fun k b U c' w' hb hU => r_9i hb hU) ?_ ?_
  · rintro z T hz ⟨⟨hv, hns⟩, hans, rfl⟩
    have hraw : (r_i (¬ (0 ≤ (sc xs (i + 1)) ∧ (sc xs (i + 1)) ≤ 300)) 1 (r_i (S.1 32 = 102) 2 0)) = 0 := by rw [r_i0 (fun c => c hv), r_i0 (by omega)]
    have hTok : r_ok (q_sJ (q_sI S 13 (sc xs (i + 1))) 4 z) := r_okJ (r_okI hS (sc_r _ _))
    refine r_callB (r_cons (r_loc rfl rfl) (r_cons (r_rd 1 hi hL (by decide) (by decide)) r_nil)) rfl (sp_X10_setTarget hTok (sc_r _ _)) ?_
    rintro v h2 (⟨h0, rfl, rfl⟩ | ⟨h0, rfl, rfl⟩)
    · exact absurd hraw h0
    · obtain ⟨U, hU⟩ : ∃ U, U = (q_sI (q_sI (q_sJ (q_sI S 13 (sc xs (i + 1))) 4 z) 23 (r_i (¬ (0 ≤ (sc xs (i + 1)) ∧ (sc xs (i + 1)) ≤ 300)) 1 (r_i (S.1 32 = 102) 2 0))) 39 (sc xs (i + 1))) := ⟨_, rfl⟩
      show r_B9 0 (fun b U => U.2.2.1 4 = b) n c w (iv (S.1 39)) (q_en (q_sI (q_sI (q_sJ (q_sI S 13 (sc xs (i + 1))) 4 z) 23 (r_i (¬ (0 ≤ (sc xs (i + 1)) ∧ (sc xs (i + 1)) ≤ 300)) 1 (r_i (S.1 32 = 102) 2 0))) 39 (sc xs (i + 1))), c, w)
      rw [← hU]
      have u13 : U.1 13 = (sc xs (i + 1)) := by rw [hU]; rfl
      have u14 : U.1 14 = S.1 14 := by rw [hU]; rfl
      have u15 : U.1 15 = S.1 15 := by rw [hU]; rfl
      have u16 : U.1 16 = S.1 16 := by rw [hU]; rfl
      have u17 : U.1 17 = S.1 17 := by rw [hU]; rfl
      have u18 : U.1 18 = S.1 18 := by rw [hU]; rfl
      have u19 : U.1 19 = S.1 19 := by rw [hU]; rfl
      have u20 : U.1 20 = S.1 20 := by rw [hU]; rfl
      have u21 : U.1 21 = S.1 21 := by rw [hU]; rfl
      have u22 : U.1 22 = S.1 22 := by rw [hU]; rfl
      have u32 : U.1 32 = S.1 32 := by rw [hU]; rfl
      have u33 : U.1 33 = S.1 33 := by rw [hU]; rfl
      have u34 : U.1 34 = S.1 34 := by rw [hU]; rfl
      have u35 : U.1 35 = S.1 35 := by rw [hU]; rfl
      have u36 : U.1 36 = S.1 36 := by rw [hU]; rfl
      have u37 : U.1 37 = S.1 37 := by rw [hU]; rfl
      have u38 : U.1 38 = S.1 38 := by rw [hU]; rfl
      have u39 : U.1 39 = (sc xs (i + 1)) := by rw [hU]; rfl
      have u40 : U.1 40 = S.1 40 := by rw [hU]; rfl
      have u41 : U.1 41 = S.1 41 := by rw [hU]; rfl
      have u23 : U.1 23 = (r_i (¬ (0 ≤ (sc xs (i + 1)) ∧ (sc xs (i + 1)) ≤ 300)) 1 (r_i (S.1 32 = 102) 2 0)) := by rw [hU]; rfl
      have uA20 : U.2.1 20 = S.2.1 20 := by rw [hU]; rfl
      have uA32 : U.2.1 32 = S.2.1 32 := by rw [hU]; rfl
      have uJ1 : U.2.2.1 1 = S.2.2.1 1 := by rw [hU]; rfl
      have uJ2 : U.2.2.1 2 = S.2.2.1 2 := by rw [hU]; rfl
      have uJ3 : U.2.2.1 3 = S.2.2.1 3 := by rw [hU]; rfl
      have uJ4 : U.2.2.1 4 = z := by rw [hU]; rfl
      have hf : r_fr [39, 23, 13] [] [4] S U := by rw [hU]; exact (r_frI (r_frI (r_frJ (r_frI r_fr0))))
      have hM2 : IVM U l (n + 1) := by
        refine ⟨⟨by omega, by omega, by omega, by omega, by omega, by omega, by rw [uA32, uA20]; exact fA, by omega, by omega, by rw [uJ3, uJ1]; exact fJ⟩, ⟨by omega, by omega, by omega, by omega, by omega⟩, fun e => ?_, ⟨by omega, fun q => ?_, by omega, ?_, by omega, by omega, by omega⟩, ⟨by rw [uJ2, uA20]; exact j2, fun j => by have := jA j; rw [uA20]; omega⟩, fun hr => ?_⟩
        · rw [u33, u17, u18]; exact k102 (by omega)
        · have := mP (by omega); omega
        · rw [u18, u19]; exact m19b
        · unfold RUN at hr
          have hr2 : RUN S := by unfold RUN; omega
          have := hRun hr2
          omega
      have hUok : r_ok U := by rw [hU]; exact (r_okI (r_okI hTok (r_irg2 (by omega) (r_irg2 (by omega) (by omega)))) (sc_r _ _))
      exact ⟨S.1 39, U, rfl, hS.1 39, rfl, u23.trans hraw, uJ4.trans (hans.trans (f39.symm)), hUok, by rw [hf.2.1 0 (by decide)]; exact h01, by rw [hf.2.1 0 (by decide), hf.2.1 21 (by decide)]; exact e21, IVS_f hf (fun k hk => by simp; omega) (fun k hk => by simp; omega) hIS, IVZ_f hf (by decide) hIZ, KCI_f hf (fun k hk => by simp; omega) (by decide) hKC, l, th, IVC_f hf (by decide) (by decide) (by decide) hCm, hM2⟩
  · rintro k hN
    obtain ⟨hraw, hk⟩ : (r_i (¬ (0 ≤ (sc xs (i + 1)) ∧ (sc xs (i + 1)) ≤ 300)) 1 (r_i (S.1 32 = 102) 2 0)) = k ∧ ¬ k = 0 := by
      rcases hN with ⟨h1, rfl⟩ | ⟨h1, h2, rfl⟩
      · exact ⟨r_i1 h1, by decide⟩
      · exact ⟨by rw [r_i0 (fun c => c h1), r_i1 (by omega)], by decide⟩
    refine r_callB (r_cons (r_loc rfl rfl) (r_cons (r_rd 1 hi hL (by decide) (by decide)) r_nil)) rfl (sp_X10_setTarget hS (sc_r _ _)) ?_
    rintro v h2 (⟨h0, rfl, rfl⟩ | ⟨h0, _⟩)
    · exact ⟨_, _, rfl, by decide, rfl, hraw, trivial, INV_1 (r_frI r_fr0) (by decide) (by decide) (by decide) (r_okI hS (r_irg2 (by omega) (r_irg2 (by omega) (by omega)))) hKC hI⟩
    · exact absurd (hraw.symm.trans h0) hk
theorem cs_21 {xs : Nat → Int32} {Ln : Nat} : CASE xs Ln (bL_21 xs Ln) := by
  intro S n c w i o6 o7 o8 hI hn hi hL
  obtain ⟨hS, h01, e21, hIS, hIZ, hKC, l, th, hCm, hMm⟩ := id hI
  have hSK := hIS.1
  obtain ⟨⟨f32, f35, f37, f38, f40, f41, fA, f39, f34, fJ⟩, ⟨g13, g22, g16, g17, g33⟩, k102, ⟨m18, mP, m19, m19b, m20, m14, m15⟩, ⟨j2, jA⟩, hRun⟩ := id hMm
  unfold bL_21
  refine r_case (r_callC (r_cons (r_loc rfl rfl) (r_cons (r_loc rfl rfl) r_nil)) rfl (sp_L_goOn hS g16 g17 ⟨by have := hCm.1.1; omega, by have := hCm.1.1; have := hCm.2.2.2.2.1; omega⟩ ⟨m18.1, by have := hCm.2.2.2.2.1; omega⟩) r_isQ) (fun k b U c' w' hb hU => r_9i hb hU) ?_ ?_
  · rintro z T hz ⟨h112, hans, rfl⟩
    have hraw : (r_i (S.1 32 = 112) 0 1) = 0 := r_i1 (by omega)
    have hTok : r_ok (q_sJ (q_sI S 16 114) 4 z) := r_okJ (r_okI hS (by omega))
    refine r_callB (r_cons (r_loc rfl rfl) r_nil) rfl (sp_X10_goOn hTok ) ?_
    rintro v h2 (⟨h0, rfl, rfl⟩ | ⟨h0, rfl, rfl⟩)
    · exact absurd hraw h0
    · obtain ⟨U, hU⟩ : ∃ U, U = (q_sI (q_sI (q_sJ (q_sI S 16 114) 4 z) 23 (r_i (S.1 32 = 112) 0 1)) 32 114) := ⟨_, rfl⟩
      show r_B9 0 (fun b U => U.2.2.1 4 = b) n c w (iv (S.1 31 - S.1 35)) (q_en (q_sI (q_sI (q_sJ (q_sI S 16 114) 4 z) 23 (r_i (S.1 32 = 112) 0 1)) 32 114), c, w)
      rw [← hU]
      have u13 : U.1 13 = S.1 13 := by rw [hU]; rfl
      have u14 : U.1 14 = S.1 14 := by rw [hU]; rfl
      have u15 : U.1 15 = S.1 15 := by rw [hU]; rfl
      have u16 : U.1 16 = 114 := by rw [hU]; rfl
      have u17 : U.1 17 = S.1 17 := by rw [hU]; rfl
      have u18 : U.1 18 = S.1 18 := by rw [hU]; rfl
      have u19 : U.1 19 = S.1 19 := by rw [hU]; rfl
      have u20 : U.1 20 = S.1 20 := by rw [hU]; rfl
      have u21 : U.1 21 = S.1 21 := by rw [hU]; rfl
      have u22 : U.1 22 = S.1 22 := by rw [hU]; rfl
      have u32 : U.1 32 = 114 := by rw [hU]; rfl
      have u33 : U.1 33 = S.1 33 := by rw [hU]; rfl
      have u34 : U.1 34 = S.1 34 := by rw [hU]; rfl
      have u35 : U.1 35 = S.1 35 := by rw [hU]; rfl
      have u36 : U.1 36 = S.1 36 := by rw [hU]; rfl
      have u37 : U.1 37 = S.1 37 := by rw [hU]; rfl
      have u38 : U.1 38 = S.1 38 := by rw [hU]; rfl
      have u39 : U.1 39 = S.1 39 := by rw [hU]; rfl
      have u40 : U.1 40 = S.1 40 := by rw [hU]; rfl
      have u41 : U.1 41 = S.1 41 := by rw [hU]; rfl
      have u23 : U.1 23 = (r_i (S.1 32 = 112) 0 1) := by rw [hU]; rfl
      have uA20 : U.2.1 20 = S.2.1 20 := by rw [hU]; rfl
      have uA32 : U.2.1 32 = S.2.1 32 := by rw [hU]; rfl
      have uJ1 : U.2.2.1 1 = S.2.2.1 1 := by rw [hU]; rfl
      have uJ2 : U.2.2.1 2 = S.2.2.1 2 := by rw [hU]; rfl
      have uJ3 : U.2.2.1 3 = S.2.2.1 3 := by rw [hU]; rfl
      have uJ4 : U.2.2.1 4 = z := by rw [hU]; rfl
      have hf : r_fr [32, 23, 16] [] [4] S U := by rw [hU]; exact (r_frI (r_frI (r_frJ (r_frI r_fr0))))
      have hM2 : IVM U l (n + 1) := by
        refine ⟨⟨by omega, by omega, by omega, by omega, by omega, by omega, by rw [uA32, uA20]; exact fA, by omega, by omega, by rw [uJ3, uJ1]; exact fJ⟩, ⟨by omega, by omega, by omega, by omega, by omega⟩, fun e => ?_, ⟨by omega, fun q => ?_, by omega, ?_, by omega, by omega, by omega⟩, ⟨by rw [uJ2, uA20]; exact j2, fun j => by have := jA j; rw [uA20]; omega⟩, fun hr => ?_⟩
        · omega
        · have := mP (by omega); omega
        · rw [u18, u19]; exact m19b
        · unfold RUN at hr
          have hr2 : RUN S := by unfold RUN; omega
          have := hRun hr2
          omega
      have hUok : r_ok U := by rw [hU]; exact (r_okI (r_okI hTok (raw_r _)) (by omega))
      exact ⟨S.1 31 - S.1 35, U, rfl, by have := hCm.2.1.1; have := hCm.2.2.2.2.1; omega, rfl, u23.trans hraw, uJ4.trans (hans.trans (by rw [hCm.2.1.1, hCm.1.1, f35])), hUok, by rw [hf.2.1 0 (by decide)]; exact h01, by rw [hf.2.1 0 (by decide), hf.2.1 21 (by decide)]; exact e21, IVS_f hf (fun k hk => by simp; omega) (fun k hk => by simp; omega) hIS, IVZ_f hf (by decide) hIZ, KCI_f hf (fun k hk => by simp; omega) (by decide) hKC, l, th, IVC_f hf (by decide) (by decide) (by decide) hCm, hM2⟩
  · rintro k ⟨hno, rfl⟩
    have hraw : (r_i (S.1 32 = 112) 0 1) = 1 := r_i0 (by omega)
    refine r_callB (r_cons (r_loc rfl rfl) r_nil) rfl (sp_X10_goOn hS ) ?_
    rintro v h2 (⟨h0, rfl, rfl⟩ | ⟨h0, _⟩)
    · exact ⟨_, _, rfl, by decide, rfl, hraw, trivial, INV_1 (r_frI r_fr0) (by decide) (by decide) (by decide) (r_okI hS (raw_r _)) hKC hI⟩
    · rw [hraw] at h0; exact absurd h0 (by decide)
theorem cs_22 {xs : Nat → Int32} {Ln : Nat} : CASE xs Ln (bL_22 xs Ln) := by
  intro S n c w i o6 o7 o8 hI hn hi hL
  obtain ⟨hS, h01, e21, hIS, hIZ, hKC, l, th, hCm, hMm⟩ := id hI
  have hSK := hIS.1
  obtain ⟨⟨f32, f35, f37, f38, f40, f41, fA, f39, f34, fJ⟩, ⟨g13, g22, g16, g17, g33⟩, k102, ⟨m18, mP, m19, m19b, m20, m14, m15⟩, ⟨j2, jA⟩, hRun⟩ := id hMm
  have h32 : 0 ≤ S.1 32 ∧ S.1 32 < 65536 := by omega
  unfold bL_22
  refine r_case (r_callC (r_cons (r_loc rfl rfl) (r_cons (r_loc rfl rfl) r_nil)) rfl (sp_L_fail hS g16 g17) r_isQ) (fun k b U c' w' hb hU => r_9i hb hU) ?_ ?_
  · rintro z T hz ⟨hn102, hans, rfl⟩
    have hraw : (r_z (S.1 32 = 102)) = 0 := r_z0 (by omega)
    have hTok : r_ok (q_sJ (q_sI (q_sI (q_sI (q_sI S 17 (S.1 16)) 16 102) 13 0) 20 0) 4 z) := r_okJ (r_okI (r_okI (r_okI (r_okI hS (hS.1 16)) (by omega)) (by omega)) (by omega))
    refine r_callB (r_cons (r_loc rfl rfl) r_nil) rfl (sp_X10_fail hTok h32 g33) ?_
    rintro v h2 (⟨h0, rfl, rfl⟩ | ⟨h0, rfl, rfl⟩)
    · exact absurd hraw h0
    · obtain ⟨U, hU⟩ : ∃ U, U = (q_sI (q_sI (q_sI (q_sI (q_sI (q_sJ (q_sI (q_sI (q_sI (q_sI S 17 (S.1 16)) 16 102) 13 0) 20 0) 4 z) 23 (r_z (S.1 32 = 102))) 33 (S.1 32)) 32 102) 39 0) 38 0) := ⟨_, rfl⟩
      show r_B9 0 (fun b U => U.2.2.1 4 = b) n c w (iv (S.1 32)) (q_en (q_sI (q_sI (q_sI (q_sI (q_sI (q_sJ (q_sI (q_sI (q_sI (q_sI S 17 (S.1 16)) 16 102) 13 0) 20 0) 4 z) 23 (r_z (S.1 32 = 102))) 33 (S.1 32)) 32 102) 39 0) 38 0), c, w)
      rw [← hU]
      have u13 : U.1 13 = 0 := by rw [hU]; rfl
      have u14 : U.1 14 = S.1 14 := by rw [hU]; rfl
      have u15 : U.1 15 = S.1 15 := by rw [hU]; rfl
      have u16 : U.1 16 = 102 := by rw [hU]; rfl
      have u17 : U.1 17 = S.1 16 := by rw [hU]; rfl
      have u18 : U.1 18 = S.1 18 := by rw [hU]; rfl
      have u19 : U.1 19 = S.1 19 := by rw [hU]; rfl
      have u20 : U.1 20 = 0 := by rw [hU]; rfl
      have u21 : U.1 21 = S.1 21 := by rw [hU]; rfl
      have u22 : U.1 22 = S.1 22 := by rw [hU]; rfl
      have u32 : U.1 32 = 102 := by rw [hU]; rfl
      have u33 : U.1 33 = S.1 32 := by rw [hU]; rfl
      have u34 : U.1 34 = S.1 34 := by rw [hU]; rfl
      have u35 : U.1 35 = S.1 35 := by rw [hU]; rfl
      have u36 : U.1 36 = S.1 36 := by rw [hU]; rfl
      have u37 : U.1 37 = S.1 37 := by rw [hU]; rfl
      have u38 : U.1 38 = 0 := by rw [hU]; rfl
      have u39 : U.1 39 = 0 := by rw [hU]; rfl
      have u40 : U.1 40 = S.1 40 := by rw [hU]; rfl
      have u41 : U.1 41 = S.1 41 := by rw [hU]; rfl
      have u23 : U.1 23 = (r_z (S.1 32 = 102)) := by rw [hU]; rfl
      have uA20 : U.2.1 20 = S.2.1 20 := by rw [hU]; rfl
      have uA32 : U.2.1 32 = S.2.1 32 := by rw [hU]; rfl
      have uJ1 : U.2.2.1 1 = S.2.2.1 1 := by rw [hU]; rfl
      have uJ2 : U.2.2.1 2 = S.2.2.1 2 := by rw [hU]; rfl
      have uJ3 : U.2.2.1 3 = S.2.2.1 3 := by rw [hU]; rfl
      have uJ4 : U.2.2.1 4 = z := by rw [hU]; rfl
      have hf : r_fr [38, 39, 32, 33, 23, 20, 13, 16, 17] [] [4] S U := by rw [hU]; exact (r_frI (r_frI (r_frI (r_frI (r_frI (r_frJ (r_frI (r_frI (r_frI (r_frI r_fr0))))))))))
      have hM2 : IVM U l (n + 1) := by
        refine ⟨⟨by omega, by omega, by omega, by omega, by omega, by omega, by rw [uA32, uA20]; exact fA, by omega, by omega, by rw [uJ3, uJ1]; exact fJ⟩, ⟨by omega, by omega, by omega, by omega, by omega⟩, fun e => ?_, ⟨by omega, fun q => ?_, by omega, ?_, by omega, by omega, by omega⟩, ⟨by rw [uJ2, uA20]; exact j2, fun j => by have := jA j; rw [uA20]; omega⟩, fun hr => ?_⟩
        · exact ⟨by omega, fun q => by have := mP (by omega); omega⟩
        · omega
        · rw [u18, u19]; exact m19b
        · unfold RUN at hr
          have hr2 : RUN S := by unfold RUN; omega
          have := hRun hr2
          omega
      have hUok : r_ok U := by rw [hU]; exact (r_okI (r_okI (r_okI (r_okI (r_okI hTok (r_zrg _)) (hS.1 32)) (by omega)) (by omega)) (by omega))
      exact ⟨S.1 32, U, rfl, hS.1 32, rfl, u23.trans hraw, uJ4.trans (hans.trans (f32.symm)), hUok, by rw [hf.2.1 0 (by decide)]; exact h01, by rw [hf.2.1 0 (by decide), hf.2.1 21 (by decide)]; exact e21, IVS_f hf (fun k hk => by simp; omega) (fun k hk => by simp; omega) hIS, IVZ_f hf (by decide) hIZ, KCI_f hf (fun k hk => by simp; omega) (by decide) hKC, l, th, IVC_f hf (by decide) (by decide) (by decide) hCm, hM2⟩
  · rintro k ⟨hno, rfl⟩
    have hraw : (r_z (S.1 32 = 102)) = 1 := r_z1 (by omega)
    refine r_callB (r_cons (r_loc rfl rfl) r_nil) rfl (sp_X10_fail hS h32 g33) ?_
    rintro v h2 (⟨h0, rfl, rfl⟩ | ⟨h0, _⟩)
    · exact ⟨_, _, rfl, by decide, rfl, hraw, trivial, INV_1 (r_frI r_fr0) (by decide) (by decide) (by decide) (r_okI hS (r_zrg _)) hKC hI⟩
    · rw [hraw] at h0; exact absurd h0 (by decide)
theorem cs_23 {xs : Nat → Int32} {Ln : Nat} : CASE xs Ln (bL_23 xs Ln) := by
  intro S n c w i o6 o7 o8 hI hn hi hL
  obtain ⟨hS, h01, e21, hIS, hIZ, hKC, l, th, hCm, hMm⟩ := id hI
  have hSK := hIS.1
  obtain ⟨⟨f32, f35, f37, f38, f40, f41, fA, f39, f34, fJ⟩, ⟨g13, g22, g16, g17, g33⟩, k102, ⟨m18, mP, m19, m19b, m20, m14, m15⟩, ⟨j2, jA⟩, hRun⟩ := id hMm
  have h32 : 0 ≤ S.1 32 ∧ S.1 32 < 65536 := by omega
  unfold bL_23
  refine r_case (r_callC (r_cons (r_loc rfl rfl) (r_cons (r_loc rfl rfl) r_nil)) rfl (sp_L_mend hS g16 g17) r_isQ) (fun k b U c' w' hb hU => r_9i hb hU) ?_ ?_
  · rintro z T hz ⟨h102, hans, rfl⟩
    obtain ⟨hk33, hkP⟩ := k102 h102
    have hraw : (r_i (S.1 32 = 102) 0 1) = 0 := r_i1 (by omega)
    have hTok : r_ok (q_sJ (q_sI S 16 (S.1 17)) 4 z) := r_okJ (r_okI hS (hS.1 17))
    refine r_callB (r_cons (r_loc rfl rfl) r_nil) rfl (sp_X10_mend hTok h32 g33) ?_
    rintro v h2 (⟨h0, rfl, rfl⟩ | ⟨h0, rfl, rfl⟩)
    · exact absurd hraw h0
    · obtain ⟨U, hU⟩ : ∃ U, U = (q_sI (q_sI (q_sJ (q_sI S 16 (S.1 17)) 4 z) 23 (r_i (S.1 32 = 102) 0 1)) 32 (S.1 33)) := ⟨_, rfl⟩
      show r_B9 0 (fun b U => U.2.2.1 4 = b) n c w (iv (S.1 33)) (q_en (q_sI (q_sI (q_sJ (q_sI S 16 (S.1 17)) 4 z) 23 (r_i (S.1 32 = 102) 0 1)) 32 (S.1 33)), c, w)
      rw [← hU]
      have u13 : U.1 13 = S.1 13 := by rw [hU]; rfl
      have u14 : U.1 14 = S.1 14 := by rw [hU]; rfl
      have u15 : U.1 15 = S.1 15 := by rw [hU]; rfl
      have u16 : U.1 16 = S.1 17 := by rw [hU]; rfl
      have u17 : U.1 17 = S.1 17 := by rw [hU]; rfl
      have u18 : U.1 18 = S.1 18 := by rw [hU]; rfl
      have u19 : U.1 19 = S.1 19 := by rw [hU]; rfl
      have u20 : U.1 20 = S.1 20 := by rw [hU]; rfl
      have u21 : U.1 21 = S.1 21 := by rw [hU]; rfl
      have u22 : U.1 22 = S.1 22 := by rw [hU]; rfl
      have u32 : U.1 32 = S.1 33 := by rw [hU]; rfl
      have u33 : U.1 33 = S.1 33 := by rw [hU]; rfl
      have u34 : U.1 34 = S.1 34 := by rw [hU]; rfl
      have u35 : U.1 35 = S.1 35 := by rw [hU]; rfl
      have u36 : U.1 36 = S.1 36 := by rw [hU]; rfl
      have u37 : U.1 37 = S.1 37 := by rw [hU]; rfl
      have u38 : U.1 38 = S.1 38 := by rw [hU]; rfl
      have u39 : U.1 39 = S.1 39 := by rw [hU]; rfl
      have u40 : U.1 40 = S.1 40 := by rw [hU]; rfl
      have u41 : U.1 41 = S.1 41 := by rw [hU]; rfl
      have u23 : U.1 23 = (r_i (S.1 32 = 102) 0 1) := by rw [hU]; rfl
      have uA20 : U.2.1 20 = S.2.1 20 := by rw [hU]; rfl
      have uA32 : U.2.1 32 = S.2.1 32 := by rw [hU]; rfl
      have uJ1 : U.2.2.1 1 = S.2.2.1 1 := by rw [hU]; rfl
      have uJ2 : U.2.2.1 2 = S.2.2.1 2 := by rw [hU]; rfl
      have uJ3 : U.2.2.1 3 = S.2.2.1 3 := by rw [hU]; rfl
      have uJ4 : U.2.2.1 4 = z := by rw [hU]; rfl
      have hf : r_fr [32, 23, 16] [] [4] S U := by rw [hU]; exact (r_frI (r_frI (r_frJ (r_frI r_fr0))))
      have hM2 : IVM U l (n + 1) := by
        refine ⟨⟨by omega, by omega, by omega, by omega, by omega, by omega, by rw [uA32, uA20]; exact fA, by omega, by omega, by rw [uJ3, uJ1]; exact fJ⟩, ⟨by omega, by omega, by omega, by omega, by omega⟩, fun e => ?_, ⟨by omega, fun q => ?_, by omega, ?_, by omega, by omega, by omega⟩, ⟨by rw [uJ2, uA20]; exact j2, fun j => by have := jA j; rw [uA20]; omega⟩, fun hr => ?_⟩
        · exact ⟨by omega, fun q => by have := hkP (by omega); omega⟩
        · have := hkP (by omega); omega
        · rw [u18, u19]; exact m19b
        · unfold RUN at hr
          have hr2 : RUN S := by unfold RUN; omega
          have := hRun hr2
          omega
      have hUok : r_ok U := by rw [hU]; exact (r_okI (r_okI hTok (raw_r _)) (hS.1 33))
      exact ⟨S.1 33, U, rfl, hS.1 33, rfl, u23.trans hraw, uJ4.trans (hans.trans (hk33.symm)), hUok, by rw [hf.2.1 0 (by decide)]; exact h01, by rw [hf.2.1 0 (by decide), hf.2.1 21 (by decide)]; exact e21, IVS_f hf (fun k hk => by simp; omega) (fun k hk => by simp; omega) hIS, IVZ_f hf (by decide) hIZ, KCI_f hf (fun k hk => by simp; omega) (by decide) hKC, l, th, IVC_f hf (by decide) (by decide) (by decide) hCm, hM2⟩
  · rintro k ⟨hno, rfl⟩
    have hraw : (r_i (S.1 32 = 102) 0 1) = 1 := r_i0 (by omega)
    refine r_callB (r_cons (r_loc rfl rfl) r_nil) rfl (sp_X10_mend hS h32 g33) ?_
    rintro v h2 (⟨h0, rfl, rfl⟩ | ⟨h0, _⟩)
    · exact ⟨_, _, rfl, by decide, rfl, hraw, trivial, INV_1 (r_frI r_fr0) (by decide) (by decide) (by decide) (r_okI hS (raw_r _)) hKC hI⟩
    · rw [hraw] at h0; exact absurd h0 (by decide)
theorem cs_25 {xs : Nat → Int32} {Ln : Nat} : CASE xs Ln (bL_25 xs Ln) := by
  intro S n c w i o6 o7 o8 hI hn hi hL
  obtain ⟨hS, h01, e21, hIS, hIZ, hKC, l, th, hCm, hMm⟩ := id hI
  have hSK := hIS.1
  obtain ⟨⟨f32, f35, f37, f38, f40, f41, fA, f39, f34, fJ⟩, ⟨g13, g22, g16, g17, g33⟩, k102, ⟨m18, mP, m19, m19b, m20, m14, m15⟩, ⟨j2, jA⟩, hRun⟩ := id hMm
  unfold bL_25
  refine r_case (r_callC (r_cons (r_loc rfl rfl) (r_cons (r_loc rfl rfl) r_nil)) rfl (sp_L_resume hS (hS.1 21)) r_isQ) (fun k b U c' w' hb hU => r_9i hb hU) ?_ ?_
  · rintro z T hz ⟨⟨h105, hwc⟩, hans, rfl⟩
    obtain ⟨hr1, hr2, hr3, hr4⟩ := hRun (by unfold RUN; exact Or.inl hwc)
    have hkv : 0 ≤ (r_i (S.1 21 = -1) 0 (S.1 21)) ∧ (r_i (S.1 21 = -1) 0 (S.1 21)) < l.length := by rcases r_id (S.1 21 = -1) 0 (S.1 21) with ⟨e, c⟩ | ⟨e, c⟩ <;> rw [e] <;> omega
    have hkv2 : (r_i (S.1 36 = -1) 0 (S.1 36)) = (r_i (S.1 21 = -1) 0 (S.1 21)) := by rw [hr1]
    have hraw : (r_z (¬ S.1 32 = 105 ∨ ¬ ¬ S.1 34 = 0)) = 0 := r_z0 (by omega)
    have hTok : r_ok (q_sJ (q_sI (q_sI (q_sI (q_sI S 16 114) 18 (r_i (S.1 21 = -1) 0 (S.1 21))) 19 0) 20 0) 4 z) := r_okJ (r_okI (r_okI (r_okI (r_okI hS (by omega)) (r_irg2 (by omega) (hS.1 21))) (by omega)) (by omega))
    refine r_callB (r_cons (r_loc rfl rfl) r_nil) rfl (sp_X10_resume hTok ) ?_
    rintro v h2 (⟨h0, rfl, rfl⟩ | ⟨h0, rfl, rfl⟩)
    · exact absurd hraw h0
    · obtain ⟨U, hU⟩ : ∃ U, U = (q_sI (q_sI (q_sI (q_sI (q_sI (q_sJ (q_sI (q_sI (q_sI (q_sI S 16 114) 18 (r_i (S.1 21 = -1) 0 (S.1 21))) 19 0) 20 0) 4 z) 23 (r_z (¬ S.1 32 = 105 ∨ ¬ ¬ S.1 34 = 0))) 32 114) 35 (r_i (S.1 36 = -1) 0 (S.1 36))) 38 0) 37 0) := ⟨_, rfl⟩
      show r_B9 0 (fun b U => U.2.2.1 4 = b) n c w (iv (r_i (S.1 36 = -1) 0 (S.1 36))) (q_en (q_sI (q_sI (q_sI (q_sI (q_sI (q_sJ (q_sI (q_sI (q_sI (q_sI S 16 114) 18 (r_i (S.1 21 = -1) 0 (S.1 21))) 19 0) 20 0) 4 z) 23 (r_z (¬ S.1 32 = 105 ∨ ¬ ¬ S.1 34 = 0))) 32 114) 35 (r_i (S.1 36 = -1) 0 (S.1 36))) 38 0) 37 0), c, w)
      rw [← hU]
      have u13 : U.1 13 = S.1 13 := by rw [hU]; rfl
      have u14 : U.1 14 = S.1 14 := by rw [hU]; rfl
      have u15 : U.1 15 = S.1 15 := by rw [hU]; rfl
      have u16 : U.1 16 = 114 := by rw [hU]; rfl
      have u17 : U.1 17 = S.1 17 := by rw [hU]; rfl
      have u18 : U.1 18 = r_i (S.1 21 = -1) 0 (S.1 21) := by rw [hU]; rfl
      have u19 : U.1 19 = 0 := by rw [hU]; rfl
      have u20 : U.1 20 = 0 := by rw [hU]; rfl
      have u21 : U.1 21 = S.1 21 := by rw [hU]; rfl
      have u22 : U.1 22 = S.1 22 := by rw [hU]; rfl
      have u32 : U.1 32 = 114 := by rw [hU]; rfl
      have u33 : U.1 33 = S.1 33 := by rw [hU]; rfl
      have u34 : U.1 34 = S.1 34 := by rw [hU]; rfl
      have u35 : U.1 35 = r_i (S.1 36 = -1) 0 (S.1 36) := by rw [hU]; rfl
      have u36 : U.1 36 = S.1 36 := by rw [hU]; rfl
      have u37 : U.1 37 = 0 := by rw [hU]; rfl
      have u38 : U.1 38 = 0 := by rw [hU]; rfl
      have u39 : U.1 39 = S.1 39 := by rw [hU]; rfl
      have u40 : U.1 40 = S.1 40 := by rw [hU]; rfl
      have u41 : U.1 41 = S.1 41 := by rw [hU]; rfl
      have u23 : U.1 23 = (r_z (¬ S.1 32 = 105 ∨ ¬ ¬ S.1 34 = 0)) := by rw [hU]; rfl
      have uA20 : U.2.1 20 = S.2.1 20 := by rw [hU]; rfl
      have uA32 : U.2.1 32 = S.2.1 32 := by rw [hU]; rfl
      have uJ1 : U.2.2.1 1 = S.2.2.1 1 := by rw [hU]; rfl
      have uJ2 : U.2.2.1 2 = S.2.2.1 2 := by rw [hU]; rfl
      have uJ3 : U.2.2.1 3 = S.2.2.1 3 := by rw [hU]; rfl
      have uJ4 : U.2.2.1 4 = z := by rw [hU]; rfl
      have hf : r_fr [37, 38, 35, 32, 23, 20, 19, 18, 16] [] [4] S U := by rw [hU]; exact (r_frI (r_frI (r_frI (r_frI (r_frI (r_frJ (r_frI (r_frI (r_frI (r_frI r_fr0))))))))))
      have hM2 : IVM U l (n + 1) := by
        refine ⟨⟨by omega, by omega, by omega, by omega, by omega, by omega, by rw [uA32, uA20]; exact fA, by omega, by omega, by rw [uJ3, uJ1]; exact fJ⟩, ⟨by omega, by omega, by omega, by omega, by omega⟩, fun e => ?_, ⟨by omega, fun q => ?_, by omega, ?_, by omega, by omega, by omega⟩, ⟨by rw [uJ2, uA20]; exact j2, fun j => by have := jA j; rw [uA20]; omega⟩, fun hr => ?_⟩
        · omega
        · omega
        · exact Or.inl u19
        · unfold RUN at hr
          have hr2 : RUN S := by unfold RUN; omega
          have := hRun hr2
          omega
      have hUok : r_ok U := by rw [hU]; exact (r_okI (r_okI (r_okI (r_okI (r_okI hTok (r_zrg _)) (by omega)) (r_irg2 (by omega) (hS.1 36))) (by omega)) (by omega))
      exact ⟨r_i (S.1 36 = -1) 0 (S.1 36), U, rfl, r_irg2 (by omega) (hS.1 36), rfl, u23.trans hraw, uJ4.trans (hans.trans (by rw [hr1])), hUok, by rw [hf.2.1 0 (by decide)]; exact h01, by rw [hf.2.1 0 (by decide), hf.2.1 21 (by decide)]; exact e21, IVS_f hf (fun k hk => by simp; omega) (fun k hk => by simp; omega) hIS, IVZ_f hf (by decide) hIZ, KCI_f hf (fun k hk => by simp; omega) (by decide) hKC, l, th, IVC_f hf (by decide) (by decide) (by decide) hCm, hM2⟩
  · rintro k ⟨hno, rfl⟩
    have hraw : (r_z (¬ S.1 32 = 105 ∨ ¬ ¬ S.1 34 = 0)) = 1 := r_z1 (by omega)
    refine r_callB (r_cons (r_loc rfl rfl) r_nil) rfl (sp_X10_resume hS ) ?_
    rintro v h2 (⟨h0, rfl, rfl⟩ | ⟨h0, _⟩)
    · exact ⟨_, _, rfl, by decide, rfl, hraw, trivial, INV_1 (r_frI r_fr0) (by decide) (by decide) (by decide) (r_okI hS (r_zrg _)) hKC hI⟩
    · rw [hraw] at h0; exact absurd h0 (by decide)
theorem cs_19 {xs : Nat → Int32} {Ln : Nat} : CASE xs Ln (bL_19 xs Ln) := by
  intro S n c w i o6 o7 o8 hI hn hi hL
  obtain ⟨hS, h01, e21, hIS, hIZ, hKC, l, th, hCm, hMm⟩ := id hI
  have hSK := hIS.1
  obtain ⟨⟨f32, f35, f37, f38, f40, f41, fA, f39, f34, fJ⟩, ⟨g13, g22, g16, g17, g33⟩, k102, ⟨m18, mP, m19, m19b, m20, m14, m15⟩, ⟨j2, jA⟩, hRun⟩ := id hMm
  have h9 := hCm.1.1
  have h31 := hCm.2.1.1
  unfold bL_19
  refine r_case (r_callC (r_cons (r_loc rfl rfl) (r_cons (r_loc rfl rfl) r_nil)) rfl (sp_L_print hS ) r_isQ) (fun k b U c' w' hb hU => r_9i hb hU) ?_ ?_
  · rintro z T hz ⟨⟨hnb, hn0⟩, hans, g, rfl, hg, hgr⟩
    have hraw : (r_z ((((S.1 32 = 114 ∨ S.1 32 = 119) ∨ S.1 32 = 112) ∨ S.1 32 = 102) ∨ S.1 31 = 0)) = 0 := r_z0 (by omega)
    have hTok : r_ok (q_sJ (q_sJ (q_sA (q_sI (q_sI (q_sI (q_sI (q_sI (q_sI S 16 114) 22 0) 21 (-1)) 18 0) 19 0) 20 0) 20 g) 2 0) 4 z) := r_okJ (r_okJ (r_okA (r_okI (r_okI (r_okI (r_okI (r_okI (r_okI hS (by omega)) (by omega)) (by omega)) (by omega)) (by omega)) (by omega)) hgr))
    refine r_callB (r_cons (r_loc rfl rfl) r_nil) rfl (sp_X10_print hTok) ?_
    rintro v h2 (⟨h0, rfl, rfl⟩ | ⟨h0, g2, rfl, rfl, hg2, hgr2⟩)
    · exact absurd hraw h0
    · have hg20 : g2 = g := funext fun j => by
        rw [hg2 j, hg j]
        show r_i (0 ≤ j ∧ j < 1728) 0 (S.2.1 32 j) = _
        rw [fA]
      obtain ⟨U, hU⟩ : ∃ U, U = (q_sA (q_sI (q_sI (q_sI (q_sI (q_sI (q_sI (q_sI (q_sJ (q_sJ (q_sA (q_sI (q_sI (q_sI (q_sI (q_sI (q_sI S 16 114) 22 0) 21 (-1)) 18 0) 19 0) 20 0) 20 g) 2 0) 4 z) 23 (r_z ((((S.1 32 = 114 ∨ S.1 32 = 119) ∨ S.1 32 = 112) ∨ S.1 32 = 102) ∨ S.1 31 = 0))) 32 114) 35 0) 38 0) 37 0) 36 (-1)) 34 0) 32 g2) := ⟨_, rfl⟩
      show r_B9 0 (fun b U => U.2.2.1 4 = b) n c w (iv (S.1 31)) (q_en (q_sA (q_sI (q_sI (q_sI (q_sI (q_sI (q_sI (q_sI (q_sJ (q_sJ (q_sA (q_sI (q_sI (q_sI (q_sI (q_sI (q_sI S 16 114) 22 0) 21 (-1)) 18 0) 19 0) 20 0) 20 g) 2 0) 4 z) 23 (r_z ((((S.1 32 = 114 ∨ S.1 32 = 119) ∨ S.1 32 = 112) ∨ S.1 32 = 102) ∨ S.1 31 = 0))) 32 114) 35 0) 38 0) 37 0) 36 (-1)) 34 0) 32 g2), c, w)
      rw [← hU]
      have u13 : U.1 13 = S.1 13 := by rw [hU]; rfl
      have u14 : U.1 14 = S.1 14 := by rw [hU]; rfl
      have u15 : U.1 15 = S.1 15 := by rw [hU]; rfl
      have u16 : U.1 16 = 114 := by rw [hU]; rfl
      have u17 : U.1 17 = S.1 17 := by rw [hU]; rfl
      have u18 : U.1 18 = 0 := by rw [hU]; rfl
      have u19 : U.1 19 = 0 := by rw [hU]; rfl
      have u20 : U.1 20 = 0 := by rw [hU]; rfl
      have u21 : U.1 21 = -1 := by rw [hU]; rfl
      have u22 : U.1 22 = 0 := by rw [hU]; rfl
      have u32 : U.1 32 = 114 := by rw [hU]; rfl
      have u33 : U.1 33 = S.1 33 := by rw [hU]; rfl
      have u34 : U.1 34 = 0 := by rw [hU]; rfl
      have u35 : U.1 35 = 0 := by rw [hU]; rfl
      have u36 : U.1 36 = -1 := by rw [hU]; rfl
      have u37 : U.1 37 = 0 := by rw [hU]; rfl
      have u38 : U.1 38 = 0 := by rw [hU]; rfl
      have u39 : U.1 39 = S.1 39 := by rw [hU]; rfl
      have u40 : U.1 40 = S.1 40 := by rw [hU]; rfl
      have u41 : U.1 41 = S.1 41 := by rw [hU]; rfl
      have u23 : U.1 23 = (r_z ((((S.1 32 = 114 ∨ S.1 32 = 119) ∨ S.1 32 = 112) ∨ S.1 32 = 102) ∨ S.1 31 = 0)) := by rw [hU]; rfl
      have uA20 : U.2.1 20 = g := by rw [hU]; rfl
      have uA32 : U.2.1 32 = g2 := by rw [hU]; rfl
      have uJ1 : U.2.2.1 1 = S.2.2.1 1 := by rw [hU]; rfl
      have uJ2 : U.2.2.1 2 = 0 := by rw [hU]; rfl
      have uJ3 : U.2.2.1 3 = S.2.2.1 3 := by rw [hU]; rfl
      have uJ4 : U.2.2.1 4 = z := by rw [hU]; rfl
      have hf : r_fr [34, 36, 37, 38, 35, 32, 23, 20, 19, 18, 21, 22, 16] [32, 20] [4, 2] S U := by rw [hU]; exact r_frA (r_frI (r_frI (r_frI (r_frI (r_frI (r_frI (r_frI (r_frJ (r_frJ (r_frA (r_frI (r_frI (r_frI (r_frI (r_frI (r_frI r_fr0))))))))))))))))
      have hM2 : IVM U l (n + 1) := by
        refine ⟨⟨by omega, by omega, by omega, by omega, by omega, by omega, by rw [uA32, uA20]; exact hg20, by omega, by omega, by rw [uJ3, uJ1]; exact fJ⟩, ⟨by omega, by omega, by omega, by omega, by omega⟩, fun e => ?_, ⟨by omega, fun q => ?_, by omega, Or.inl u19, by omega, by omega, by omega⟩, ⟨?_, fun j => ?_⟩, fun hr => by omega⟩
        · omega
        · omega
        · rw [uJ2, uA20]
          refine (suml_0 1728 (fun j j0 j1 => ?_)).symm
          rw [hg j, r_i1 ⟨j0, j1⟩]
        · rw [uA20, hg j]
          have := jA j
          rcases r_id (0 ≤ j ∧ j < 1728) 0 (S.2.1 20 j) with ⟨e, c⟩ | ⟨e, c⟩ <;> rw [e] <;> omega
      have hUok : r_ok U := by rw [hU]; exact r_okA (r_okI (r_okI (r_okI (r_okI (r_okI (r_okI (r_okI hTok (r_zrg _)) (by omega)) (by omega)) (by omega)) (by omega)) (by omega)) (by omega)) hgr2
      exact ⟨S.1 31, U, rfl, hS.1 31, rfl, u23.trans hraw, uJ4.trans (hans.trans (h9.trans h31.symm)), hUok, by rw [hf.2.1 0 (by decide)]; exact h01, by rw [hf.2.1 0 (by decide), hf.2.1 21 (by decide)]; exact e21, IVS_f hf (fun k hk => by simp; omega) (fun k hk => by simp; omega) hIS, IVZ_f hf (by decide) hIZ, KCI_f hf (fun k hk => by simp; omega) (by decide) hKC, l, th, IVC_f hf (by decide) (by decide) (by decide) hCm, hM2⟩
  · rintro k ⟨hno, rfl⟩
    have hraw : (r_z ((((S.1 32 = 114 ∨ S.1 32 = 119) ∨ S.1 32 = 112) ∨ S.1 32 = 102) ∨ S.1 31 = 0)) = 1 := r_z1 (by omega)
    refine r_callB (r_cons (r_loc rfl rfl) r_nil) rfl (sp_X10_print hS) ?_
    rintro v h2 (⟨h0, rfl, rfl⟩ | ⟨h0, _⟩)
    · exact ⟨_, _, rfl, by decide, rfl, hraw, trivial, INV_1 (r_frI r_fr0) (by decide) (by decide) (by decide) (r_okI hS (r_zrg _)) hKC hI⟩
    · rw [hraw] at h0; exact absurd h0 (by decide)
theorem cs_24 {xs : Nat → Int32} {Ln : Nat} : CASE xs Ln (bL_24 xs Ln) := by
  intro S n c w i o6 o7 o8 hI hn hi hL
  obtain ⟨hS, h01, e21, hIS, hIZ, hKC, l, th, hCm, hMm⟩ := id hI
  have hSK := hIS.1
  obtain ⟨⟨f32, f35, f37, f38, f40, f41, fA, f39, f34, fJ⟩, ⟨g13, g22, g16, g17, g33⟩, k102, ⟨m18, mP, m19, m19b, m20, m14, m15⟩, ⟨j2, jA⟩, hRun⟩ := id hMm
  have h32 : 0 ≤ S.1 32 ∧ S.1 32 < 65536 := by omega
  have hTok : r_ok (q_sI (q_sI (q_sI (q_sI (q_sI S 22 (r_i (PRN (S.1 16) ∨ S.1 16 = 102 ∧ PRN (S.1 17)) 1 (S.1 22))) 16 105) 13 0) 15 0) 20 0) := r_okI (r_okI (r_okI (r_okI (r_okI hS (r_irg2 (by omega) (hS.1 22))) (by omega)) (by omega)) (by omega)) (by omega)
  unfold bL_24
  refine r_cmpI (hS.1 16) (r_callG (r_cons (r_loc rfl rfl) r_nil) rfl (sp_X9_cut hS g16 g17) rfl) (r_Kv (r_callG (r_cons (r_loc rfl rfl) r_nil) rfl (sp_X10_cut hTok h32 g33) rfl) (congrArg iv f32)) ?_
  show r_E9 i n c w (1, .null) (LL i o6 o7 o8) (q_en (q_sI (q_sI (q_sI (q_sI (q_sI (q_sI (q_sI (q_sI (q_sI (q_sI (q_sI S 22 (r_i (PRN (S.1 16) ∨ S.1 16 = 102 ∧ PRN (S.1 17)) 1 (S.1 22))) 16 105) 13 0) 15 0) 20 0) 23 0) 34 (r_z (((¬ S.1 34 = 0 ∨ r_i (S.1 32 = 102) (S.1 33) (S.1 32) = 114) ∨ r_i (S.1 32 = 102) (S.1 33) (S.1 32) = 119) ∨ r_i (S.1 32 = 102) (S.1 33) (S.1 32) = 112))) 32 105) 39 0) 41 0) 38 0), c, w)
  obtain ⟨U, hU⟩ : ∃ U, U = (q_sI (q_sI (q_sI (q_sI (q_sI (q_sI (q_sI (q_sI (q_sI (q_sI (q_sI S 22 (r_i (PRN (S.1 16) ∨ S.1 16 = 102 ∧ PRN (S.1 17)) 1 (S.1 22))) 16 105) 13 0) 15 0) 20 0) 23 0) 34 (r_z (((¬ S.1 34 = 0 ∨ r_i (S.1 32 = 102) (S.1 33) (S.1 32) = 114) ∨ r_i (S.1 32 = 102) (S.1 33) (S.1 32) = 119) ∨ r_i (S.1 32 = 102) (S.1 33) (S.1 32) = 112))) 32 105) 39 0) 41 0) 38 0) := ⟨_, rfl⟩
  rw [← hU]
  have u13 : U.1 13 = 0 := by rw [hU]; rfl
  have u14 : U.1 14 = S.1 14 := by rw [hU]; rfl
  have u15 : U.1 15 = 0 := by rw [hU]; rfl
  have u16 : U.1 16 = 105 := by rw [hU]; rfl
  have u17 : U.1 17 = S.1 17 := by rw [hU]; rfl
  have u18 : U.1 18 = S.1 18 := by rw [hU]; rfl
  have u19 : U.1 19 = S.1 19 := by rw [hU]; rfl
  have u20 : U.1 20 = 0 := by rw [hU]; rfl
  have u21 : U.1 21 = S.1 21 := by rw [hU]; rfl
  have u22 : U.1 22 = r_i (PRN (S.1 16) ∨ S.1 16 = 102 ∧ PRN (S.1 17)) 1 (S.1 22) := by rw [hU]; rfl
  have u32 : U.1 32 = 105 := by rw [hU]; rfl
  have u33 : U.1 33 = S.1 33 := by rw [hU]; rfl
  have u34 : U.1 34 = r_z (((¬ S.1 34 = 0 ∨ r_i (S.1 32 = 102) (S.1 33) (S.1 32) = 114) ∨ r_i (S.1 32 = 102) (S.1 33) (S.1 32) = 119) ∨ r_i (S.1 32 = 102) (S.1 33) (S.1 32) = 112) := by rw [hU]; rfl
  have u35 : U.1 35 = S.1 35 := by rw [hU]; rfl
  have u36 : U.1 36 = S.1 36 := by rw [hU]; rfl
  have u37 : U.1 37 = S.1 37 := by rw [hU]; rfl
  have u38 : U.1 38 = 0 := by rw [hU]; rfl
  have u39 : U.1 39 = 0 := by rw [hU]; rfl
  have u40 : U.1 40 = S.1 40 := by rw [hU]; rfl
  have u41 : U.1 41 = 0 := by rw [hU]; rfl
  have uA20 : U.2.1 20 = S.2.1 20 := by rw [hU]; rfl
  have uA32 : U.2.1 32 = S.2.1 32 := by rw [hU]; rfl
  have uJ1 : U.2.2.1 1 = S.2.2.1 1 := by rw [hU]; rfl
  have uJ2 : U.2.2.1 2 = S.2.2.1 2 := by rw [hU]; rfl
  have uJ3 : U.2.2.1 3 = S.2.2.1 3 := by rw [hU]; rfl
  have hf : r_fr [38, 41, 39, 32, 34, 23, 20, 15, 13, 16, 22] [] [] S U := by rw [hU]; exact r_frI (r_frI (r_frI (r_frI (r_frI (r_frI (r_frI (r_frI (r_frI (r_frI (r_frI r_fr0))))))))))
  have hX : (S.1 16 = 102 ∧ r_i (S.1 32 = 102) (S.1 33) (S.1 32) = S.1 17) ∨ (¬ S.1 16 = 102 ∧ r_i (S.1 32 = 102) (S.1 33) (S.1 32) = S.1 16) := by
    rcases r_id (S.1 32 = 102) (S.1 33) (S.1 32) with ⟨e, c⟩ | ⟨e, c⟩
    · have := (k102 (by omega)).1; omega
    · omega
  have h22 : ((r_i (PRN (S.1 16) ∨ S.1 16 = 102 ∧ PRN (S.1 17)) 1 (S.1 22)) = 1 ∧ (PRN (S.1 16) ∨ S.1 16 = 102 ∧ PRN (S.1 17))) ∨ ((r_i (PRN (S.1 16) ∨ S.1 16 = 102 ∧ PRN (S.1 17)) 1 (S.1 22)) = S.1 22 ∧ ¬ (PRN (S.1 16) ∨ S.1 16 = 102 ∧ PRN (S.1 17))) := r_id _ _ _
  have h34 := r_zd (((¬ S.1 34 = 0 ∨ r_i (S.1 32 = 102) (S.1 33) (S.1 32) = 114) ∨ r_i (S.1 32 = 102) (S.1 33) (S.1 32) = 119) ∨ r_i (S.1 32 = 102) (S.1 33) (S.1 32) = 112)
  generalize r_i (S.1 32 = 102) (S.1 33) (S.1 32) = x at hX h34 u34
  generalize r_z (((¬ S.1 34 = 0 ∨ x = 114) ∨ x = 119) ∨ x = 112) = y at h34 u34
  generalize r_i (PRN (S.1 16) ∨ S.1 16 = 102 ∧ PRN (S.1 17)) 1 (S.1 22) = t at h22 u22
  have e34 : U.1 34 = U.1 22 := by omega
  have e22 : 0 ≤ U.1 22 ∧ U.1 22 < 2 := by omega
  have hM2 : IVM U l (n + 1) := by
    refine ⟨⟨by omega, by omega, by omega, by omega, by omega, by omega, by rw [uA32, uA20]; exact fA, by omega, e34, by rw [uJ3, uJ1]; exact fJ⟩, ⟨by omega, e22, by omega, by omega, by omega⟩, fun e => by omega, ⟨by omega, fun q => by omega, by omega, by rw [u18, u19]; exact m19b, by omega, by omega, by omega⟩, ⟨by rw [uJ2, uA20]; exact j2, fun j => by have := jA j; rw [uA20]; omega⟩, fun hr => ?_⟩
    unfold RUN at hr
    have hr2 : RUN S := by unfold RUN; omega
    have := hRun hr2
    omega
  have hUok : r_ok U := by rw [hU]; exact r_okI (r_okI (r_okI (r_okI (r_okI (r_okI hTok (by omega)) (r_zrg _)) (by omega)) (by omega)) (by omega)) (by omega)
  exact e9_i ⟨hUok, by rw [hf.2.1 0 (by decide)]; exact h01, by rw [hf.2.1 0 (by decide), hf.2.1 21 (by decide)]; exact e21, IVS_f hf (fun k hk => by simp; omega) (fun k hk => by simp; omega) hIS, IVZ_f hf (by decide) hIZ, KCI_f hf (fun k hk => by simp; omega) (by decide) hKC, l, th, IVC_f hf (by decide) (by decide) (by decide) hCm, hM2⟩
