/-! calls that change body and settings -/
theorem zer_KCI {S U : q_Sg} (h3 : ∀ j, 0 ≤ U.2.1 3 j ∧ U.2.1 3 j < 65536) (h4 : ∀ j, 0 ≤ j → j < 12 → U.2.1 4 j = 0) : KCI U := ⟨h3, fun z hz hk => absurd (h4 z hz.1 hz.2) hk⟩
theorem stg_c {f g : Nat → Int} {b d : Nat} {s : Int} (h : ∀ i, i ≤ 5 → f (b + i) = g (d + i)) : stg f b s = stg g d s := by
  have h0 : f b = g d := h 0 (by decide)
  unfold stg
  rw [h0, h 1 (by decide), h 2 (by decide), h 3 (by decide), h 4 (by decide), h 5 (by decide)]
theorem SOK_set {S T : q_Sg} {s v : Int} (h : SOK S.1 0) (ha : ALW s v) (hs : STS 0 s v S T) : SOK T.1 0 := by
  obtain ⟨e0, e1, e2, e3, e4, e5⟩ := hs
  obtain ⟨k0, k1, k2, k3, k4, k5⟩ := h
  unfold SOK
  rw [e0, e1, e2, e3, e4, e5]
  have d : ∀ (p : Prop) (x y lo hi : Int), (p → lo ≤ x ∧ x ≤ hi) → (lo ≤ y ∧ y ≤ hi) → lo ≤ r_i p x y ∧ r_i p x y ≤ hi := fun p x y lo hi h1 h2 => by
    rcases r_id p x y with ⟨e, c⟩ | ⟨e, c⟩ <;> rw [e]
    · exact h1 c
    · exact h2
  exact ⟨d _ _ _ _ _ (fun c => by omega) k0, d _ _ _ _ _ (fun c => by omega) k1, d _ _ _ _ _ (fun c => by omega) k2, d _ _ _ _ _ (fun c => by omega) k3, d _ _ _ _ _ (fun c => by omega) k4, d _ _ _ _ _ (fun c => by omega) k5⟩
theorem cs_0 {xs : Nat → Int32} {Ln : Nat} : CASE xs Ln (bL_0 xs Ln) := by
  intro S n c w i o6 o7 o8 hI hn hi hL
  obtain ⟨hS, h01, e21, hIS, hIZ, hKC, l, th, hCm, hMm⟩ := id hI
  have hSK := hIS.1
  unfold bL_0
  refine r_case (r_callC (r_cons (r_loc rfl rfl) (r_cons (r_rd 1 hi hL (by decide) (by decide)) (r_cons (r_rd 2 hi hL (by decide) (by decide)) (r_cons (r_rd 3 hi hL (by decide) (by decide)) (r_cons (r_rd 4 hi hL (by decide) (by decide)) (r_cons (r_rd 5 hi hL (by decide) (by decide)) (r_cons (r_rd 6 hi hL (by decide) (by decide)) (r_cons (r_rdb (r_rd 7 hi hL (by decide) (by decide)) (sc_r _ _)) (r_cons (r_loc rfl rfl) r_nil))))))))) rfl (sp_L_box hS h01 (sc_r _ _) (sc_r _ _) (sc_r _ _) (sc_r _ _) (sc_r _ _) (sc_r _ _)) r_isQ) (fun k b U c' w' hb hU => r_9i hb hU) ?_ ?_
  · rintro z T hz ⟨hsp, g4, g, rfl, hz4, hr4, hB⟩
    have hraw : (((inc (sc xs (i + 1)) (sc xs (i + 2)) (sc xs (i + 3)) ∧ 1 ≤ (sc xs (i + 4)) ∧ (sc xs (i + 4)) ≤ 12 - (sc xs (i + 1))) ∧ 1 ≤ (sc xs (i + 5)) ∧ (sc xs (i + 5)) ≤ 12 - (sc xs (i + 2))) ∧ 1 ≤ (sc xs (i + 6)) ∧ (sc xs (i + 6)) ≤ 12 - (sc xs (i + 3))) := by omega
    have hg01 := BINV_01 hB h01 (show r_z (¬ (sc xs (i + 7)) = 0) = 0 ∨ r_z (¬ (sc xs (i + 7)) = 0) = 1 by have := r_zd (¬ (sc xs (i + 7)) = 0); omega)
    have hTok : r_ok (q_sJ (q_sA (q_sA S 4 g4) 0 g) 4 z) := r_okJ (r_okA (r_okA hS hr4) (r01_r hg01))
    have h01' : r01 ((q_sJ (q_sA (q_sA S 4 g4) 0 g) 4 z).2.1 21) := by show r01 (S.2.1 21); rw [e21]; exact h01
    refine r_callB (r_cons (r_loc rfl rfl) (r_cons (r_rd 1 hi hL (by decide) (by decide)) (r_cons (r_rd 2 hi hL (by decide) (by decide)) (r_cons (r_rd 3 hi hL (by decide) (by decide)) (r_cons (r_rd 4 hi hL (by decide) (by decide)) (r_cons (r_rd 5 hi hL (by decide) (by decide)) (r_cons (r_rd 6 hi hL (by decide) (by decide)) (r_cons (r_rdb (r_rd 7 hi hL (by decide) (by decide)) (sc_r _ _)) r_nil)))))))) rfl (sp_X10_box hTok h01' (sc_r _ _) (sc_r _ _) (sc_r _ _) (sc_r _ _) (sc_r _ _) (sc_r _ _)) ?_
    rintro v h2 (⟨h0, rfl, rfl⟩ | ⟨h0, g2, n2, rfl, rfl, hB2⟩)
    · exact absurd (r_i1 hraw) h0
    · have hB3 : BINV (S.2.1 21) (r_z (¬ (sc xs (i + 7)) = 0)) (BXP (sc xs (i + 1)) (sc xs (i + 2)) (sc xs (i + 3)) (sc xs (i + 4)) (sc xs (i + 5)) (sc xs (i + 6))) g2 n2 1728 := hB2
      rw [e21] at hB3
      obtain ⟨eg, en⟩ := BINV_u hB3 hB
      have hf : r_fr [23] [21, 0, 4] [4] S (q_sA (q_sI (q_sJ (q_sA (q_sA S 4 g4) 0 g) 4 z) 23 (r_i (((inc (sc xs (i + 1)) (sc xs (i + 2)) (sc xs (i + 3)) ∧ 1 ≤ (sc xs (i + 4)) ∧ (sc xs (i + 4)) ≤ 12 - (sc xs (i + 1))) ∧ 1 ≤ (sc xs (i + 5)) ∧ (sc xs (i + 5)) ≤ 12 - (sc xs (i + 2))) ∧ 1 ≤ (sc xs (i + 6)) ∧ (sc xs (i + 6)) ≤ 12 - (sc xs (i + 3))) 0 1)) 21 g2) := r_frA (r_frI (r_frJ (r_frA (r_frA r_fr0))))
      refine ⟨n2, _, rfl, by rw [en]; exact hz, rfl, h0, en.symm, r_okA (r_okI hTok (raw_r _)) (by rw [eg]; exact r01_r hg01), hg01, eg, IVS_f hf (fun k hk => by simp; omega) (fun k hk => by simp; omega) hIS, IVZ_f hf (by decide) hIZ, zer_KCI (S := S) hKC.1 hz4, l, th, IVC_f hf (by decide) (by decide) (by decide) hCm, IVM_f hf (by decide) (by decide) (by decide) (IVM_m (by omega) hMm)⟩
  · rintro k ⟨hnsp, rfl⟩
    have hraw : ¬ (((inc (sc xs (i + 1)) (sc xs (i + 2)) (sc xs (i + 3)) ∧ 1 ≤ (sc xs (i + 4)) ∧ (sc xs (i + 4)) ≤ 12 - (sc xs (i + 1))) ∧ 1 ≤ (sc xs (i + 5)) ∧ (sc xs (i + 5)) ≤ 12 - (sc xs (i + 2))) ∧ 1 ≤ (sc xs (i + 6)) ∧ (sc xs (i + 6)) ≤ 12 - (sc xs (i + 3))) := fun c => hnsp (by omega)
    refine r_callB (r_cons (r_loc rfl rfl) (r_cons (r_rd 1 hi hL (by decide) (by decide)) (r_cons (r_rd 2 hi hL (by decide) (by decide)) (r_cons (r_rd 3 hi hL (by decide) (by decide)) (r_cons (r_rd 4 hi hL (by decide) (by decide)) (r_cons (r_rd 5 hi hL (by decide) (by decide)) (r_cons (r_rd 6 hi hL (by decide) (by decide)) (r_cons (r_rdb (r_rd 7 hi hL (by decide) (by decide)) (sc_r _ _)) r_nil)))))))) rfl (sp_X10_box hS (by rw [e21]; exact h01) (sc_r _ _) (sc_r _ _) (sc_r _ _) (sc_r _ _) (sc_r _ _) (sc_r _ _)) ?_
    rintro v h2 (⟨h0, rfl, rfl⟩ | ⟨h0, _⟩)
    · exact ⟨_, _, rfl, by decide, rfl, r_i0 hraw, trivial, INV_1 (r_frI r_fr0) (by decide) (by decide) (by decide) (r_okI hS (raw_r _)) hKC hI⟩
    · rw [r_i0 hraw] at h0; exact absurd h0 (by decide)
theorem cs_1 {xs : Nat → Int32} {Ln : Nat} : CASE xs Ln (bL_1 xs Ln) := by
  intro S n c w i o6 o7 o8 hI hn hi hL
  obtain ⟨hS, h01, e21, hIS, hIZ, hKC, l, th, hCm, hMm⟩ := id hI
  have hSK := hIS.1
  unfold bL_1
  refine r_case (r_callC (r_cons (r_loc rfl rfl) (r_cons (r_i2c (r_rd 1 hi hL (by decide) (by decide)) (sc_r _ _)) (r_cons (r_rd 2 hi hL (by decide) (by decide)) (r_cons (r_loc rfl rfl) r_nil)))) rfl (sp_L_set hS (mod_r _) (sc_r _ _)) r_isQ) (fun k b U c' w' hb hU => r_9i hb hU) ?_ ?_
  · rintro z T hz ⟨hal, hans, g4, hz4, hT, hf0, hst⟩
    have hf : r_fr [0, 1, 2, 3, 4, 5] [4] [] S T := r_frm (r_frt (r_frA r_fr0) hf0) (by decide) (by decide) (by decide)
    have e24 : ∀ i, i ≤ 6 → T.1 (24 + i) = S.1 (0 + i) := fun i hi => (hf.1 _ (by simp; omega)).trans (INV_24 hI i hi)
    refine r_callB (r_cons (r_loc rfl rfl) (r_cons (r_i2c (r_rd 1 hi hL (by decide) (by decide)) (sc_r _ _)) (r_cons (r_rd 2 hi hL (by decide) (by decide)) r_nil))) rfl (sp_X10_set (r_okJ hT) (SOK_c (fun i hi => e24 i (by omega)) hSK) (mod_r _) (sc_r _ _)) ?_
    rintro v h2 ⟨U, rfl, hU, hfU, h23, hr, _⟩
    obtain ⟨rfl, hsU⟩ := hr hal
    have hF : r_fr [0, 1, 2, 3, 4, 5, 23, 24, 25, 26, 27, 28, 29] [4] [4] S U := r_frm (r_frt (r_frJ hf) hfU) (by decide) (by decide) (by decide)
    have eT : ∀ i, i ≤ 6 → U.1 i = T.1 i := fun i hi => hfU.1 i (by simp; omega)
    have hk4 : U.2.1 4 = g4 := (hfU.2.1 4 (by decide)).trans (hf0.2.1 4 (by decide))
    have hk3 : U.2.1 3 = S.2.1 3 := hF.2.1 3 (by decide)
    have hI7 : ∀ i, i ≤ 6 → U.1 (24 + i) = U.1 i := fun i hi => by
      rw [eT i hi]
      have h24 : ∀ i, i ≤ 6 → (q_sJ T 4 z).1 (24 + i) = S.1 (0 + i) := e24
      obtain ⟨t0, t1, t2, t3, t4, t5⟩ := hst
      obtain ⟨u0, u1, u2, u3, u4, u5⟩ := hsU
      match i, hi with
      | 0, _ => exact u0.trans ((congrArg _ (h24 0 (by decide))).trans t0.symm)
      | 1, _ => exact u1.trans ((congrArg _ (h24 1 (by decide))).trans t1.symm)
      | 2, _ => exact u2.trans ((congrArg _ (h24 2 (by decide))).trans t2.symm)
      | 3, _ => exact u3.trans ((congrArg _ (h24 3 (by decide))).trans t3.symm)
      | 4, _ => exact u4.trans ((congrArg _ (h24 4 (by decide))).trans t4.symm)
      | 5, _ => exact u5.trans ((congrArg _ (h24 5 (by decide))).trans t5.symm)
      | 6, _ => exact (hfU.1 30 (by decide)).trans ((h24 6 (by decide)).trans (hf.1 6 (by decide)).symm)
    refine ⟨_, U, rfl, stg_rg (r_okJ hT) _ _, rfl, h23.trans (r_z0 (fun c => c hal)), ?_, hU, by rw [hF.2.1 0 (by decide)]; exact h01, by rw [hF.2.1 0 (by decide), hF.2.1 21 (by decide)]; exact e21, ⟨SOK_c (fun i hi => by rw [Nat.zero_add]; exact eT i (by omega)) (SOK_set hSK hal hst), by rw [eT 6 (by decide), hf.1 6 (by decide)]; exact hIS.2.1, hI7⟩, IVZ_f hF (by decide) hIZ, zer_KCI (S := S) (by rw [hk3]; exact hKC.1) (by rw [hk4]; exact hz4), l, th, IVC_f hF (by decide) (by decide) (by decide) hCm, IVM_f hF (by decide) (by decide) (by decide) (IVM_m (by omega) hMm)⟩
    show U.2.2.1 4 = _
    rw [hfU.2.2.1 4 (by decide)]
    show z = _
    rw [hans]
    exact (stg_c (fun i hi => e24 i (by omega))).symm
  · rintro k ⟨hnal, rfl⟩
    refine r_callB (r_cons (r_loc rfl rfl) (r_cons (r_i2c (r_rd 1 hi hL (by decide) (by decide)) (sc_r _ _)) (r_cons (r_rd 2 hi hL (by decide) (by decide)) r_nil))) rfl (sp_X10_set hS (INV_K24 hI) (mod_r _) (sc_r _ _)) ?_
    rintro v h2 ⟨U, rfl, hU, _, h23, _, hr⟩
    obtain ⟨rfl, hfU⟩ := hr hnal
    exact ⟨0, U, rfl, by decide, rfl, h23.trans (r_z1 hnal), trivial, INV_1 hfU (by decide) (by decide) (by decide) hU (KCI_f hfU (by decide) (by decide) hKC) hI⟩
theorem cs_2 {xs : Nat → Int32} {Ln : Nat} : CASE xs Ln (bL_2 xs Ln) := by
  intro S n c w i o6 o7 o8 hI hn hi hL
  obtain ⟨hS, h01, e21, hIS, hIZ, hKC, l, th, hCm, hMm⟩ := id hI
  have hSK := hIS.1
  unfold bL_2
  refine r_case (r_callC (r_cons (r_loc rfl rfl) (r_cons (r_i2c (r_rd 1 hi hL (by decide) (by decide)) (sc_r _ _)) (r_cons (r_loc rfl rfl) r_nil))) rfl (sp_L_setPattern hS (mod_c _) hIS.2.1) r_isQ) (fun k b U c' w' hb hU => r_9i hb hU) ?_ ?_
  · rintro z T hz ⟨hok, hans, g4, hz4, hr4, rfl⟩
    have hraw : ((((sc xs (i + 1)) % 65536) = 108 ∨ ((sc xs (i + 1)) % 65536) = 103) ∨ ((sc xs (i + 1)) % 65536) = 119) := by omega
    have e30 : S.1 30 = S.1 6 := hIS.2.2 6 (by decide)
    have hp := mod_c (sc xs (i + 1))
    have hTok : r_ok (q_sJ (q_sI (q_sA S 4 g4) 6 ((sc xs (i + 1)) % 65536)) 4 z) := r_okJ (r_okI (r_okA hS hr4) (mod_r _))
    refine r_callB (r_cons (r_loc rfl rfl) (r_cons (r_i2c (r_rd 1 hi hL (by decide) (by decide)) (sc_r _ _)) r_nil)) rfl (sp_X10_setPattern hTok (mod_c _) (by show 0 ≤ S.1 30 ∧ S.1 30 < 65536; rw [e30]; exact hIS.2.1)) ?_
    rintro v h2 (⟨h0, rfl, rfl⟩ | ⟨h0, rfl, rfl⟩)
    · exact absurd (r_i1 hraw) h0
    · have hf : r_fr [30, 23, 6] [4] [4] S (q_sI (q_sI (q_sJ (q_sI (q_sA S 4 g4) 6 ((sc xs (i + 1)) % 65536)) 4 z) 23 (r_i ((((sc xs (i + 1)) % 65536) = 108 ∨ ((sc xs (i + 1)) % 65536) = 103) ∨ ((sc xs (i + 1)) % 65536) = 119) 0 1)) 30 ((sc xs (i + 1)) % 65536)) := r_frI (r_frI (r_frJ (r_frI (r_frA r_fr0))))
      refine ⟨S.1 30, _, rfl, hS.1 30, rfl, h0, hans.trans e30.symm, r_okI (r_okI hTok (raw_r _)) (mod_r _), h01, e21, ⟨SOK_c (fun i hi => hf.1 _ (by simp; omega)) hSK, mod_c _, fun i hi => ?_⟩, IVZ_f hf (by decide) hIZ, zer_KCI (S := S) hKC.1 hz4, l, th, IVC_f hf (by decide) (by decide) (by decide) hCm, IVM_f hf (by decide) (by decide) (by decide) (IVM_m (by omega) hMm)⟩
      by_cases e6 : i = 6
      · rw [e6]; rfl
      · rw [hf.1 _ (by simp; omega), hf.1 i (by simp; omega)]; exact hIS.2.2 i hi
  · rintro k ⟨hnok, rfl⟩
    have hraw : ¬ ((((sc xs (i + 1)) % 65536) = 108 ∨ ((sc xs (i + 1)) % 65536) = 103) ∨ ((sc xs (i + 1)) % 65536) = 119) := by omega
    have e30 : S.1 30 = S.1 6 := hIS.2.2 6 (by decide)
    refine r_callB (r_cons (r_loc rfl rfl) (r_cons (r_i2c (r_rd 1 hi hL (by decide) (by decide)) (sc_r _ _)) r_nil)) rfl (sp_X10_setPattern hS (mod_c _) (by rw [e30]; exact hIS.2.1)) ?_
    rintro v h2 (⟨h0, rfl, rfl⟩ | ⟨h0, _⟩)
    · exact ⟨_, _, rfl, by decide, rfl, r_i0 hraw, trivial, INV_1 (r_frI r_fr0) (by decide) (by decide) (by decide) (r_okI hS (raw_r _)) hKC hI⟩
    · rw [r_i0 hraw] at h0; exact absurd h0 (by decide)
theorem cs_3 {xs : Nat → Int32} {Ln : Nat} : CASE xs Ln (bL_3 xs Ln) := by
  intro S n c w i o6 o7 o8 hI hn hi hL
  obtain ⟨hS, h01, e21, hIS, hIZ, hKC, l, th, hCm, hMm⟩ := id hI
  have hSK := hIS.1
  unfold bL_3
  refine r_case (r_callC (r_cons (r_loc rfl rfl) (r_cons (r_rd 1 hi hL (by decide) (by decide)) (r_cons (r_rd 2 hi hL (by decide) (by decide)) (r_cons (r_loc rfl rfl) r_nil)))) rfl (sp_L_setThickness hS (sc_r _ _) (sc_r _ _)) r_isQ) (fun k b U c' w' hb hU => r_9i hb hU) ?_ ?_
  · rintro z T hz ⟨⟨hly, hv⟩, hans, rfl⟩
    have hraw : (r_i (¬ (0 ≤ (sc xs (i + 1)) ∧ (sc xs (i + 1)) < 12)) 1 (r_i (¬ (1 ≤ (sc xs (i + 2)) ∧ (sc xs (i + 2)) ≤ 3)) 2 0)) = 0 := by rw [r_i0 (fun c => c hly), r_i0 (fun c => c hv)]
    have hTok : r_ok (q_sJ (q_sA S 1 (q_up (S.2.1 1) (sc xs (i + 1)) (sc xs (i + 2)))) 4 z) := r_okJ (r_okA hS (r_oku (hS.2 1) (sc_r _ _)))
    refine r_callB (r_cons (r_loc rfl rfl) (r_cons (r_rd 1 hi hL (by decide) (by decide)) (r_cons (r_rd 2 hi hL (by decide) (by decide)) r_nil))) rfl (sp_X10_setThickness hTok (sc_r _ _) (sc_r _ _)) ?_
    rintro v h2 (⟨h0, rfl, rfl⟩ | ⟨h0, rfl, rfl⟩)
    · exact absurd hraw h0
    · have hf : r_fr [23] [22, 1] [4] S (q_sA (q_sI (q_sJ (q_sA S 1 (q_up (S.2.1 1) (sc xs (i + 1)) (sc xs (i + 2)))) 4 z) 23 (r_i (¬ (0 ≤ (sc xs (i + 1)) ∧ (sc xs (i + 1)) < 12)) 1 (r_i (¬ (1 ≤ (sc xs (i + 2)) ∧ (sc xs (i + 2)) ≤ 3)) 2 0))) 22 (q_up (S.2.1 22) (sc xs (i + 1)) (sc xs (i + 2)))) := r_frA (r_frI (r_frJ (r_frA r_fr0)))
      refine ⟨S.2.1 22 (sc xs (i + 1)), _, rfl, hS.2 _ _, rfl, h0, ?_, r_okA (r_okI hTok (by rw [hraw]; decide)) (r_oku (hS.2 22) (sc_r _ _)), h01, e21, IVS_f hf (fun k hk => by simp; omega) (fun k hk => by simp; omega) hIS, ⟨?_, hIZ.2.1, fun j hj => ?_, hIZ.2.2.2⟩, KCI_f hf (fun k hk => by simp; omega) (by decide) hKC, l, th, IVC_f hf (by decide) (by decide) (by decide) hCm, IVM_f hf (by decide) (by decide) (by decide) (IVM_m (by omega) hMm)⟩
      · show z = S.2.1 22 (sc xs (i + 1))
        rw [hIZ.1]; exact hans
      · show q_up (S.2.1 22) (sc xs (i + 1)) (sc xs (i + 2)) = q_up (S.2.1 1) (sc xs (i + 1)) (sc xs (i + 2))
        rw [hIZ.1]
      · show 1 ≤ q_up (S.2.1 1) (sc xs (i + 1)) (sc xs (i + 2)) j ∧ q_up (S.2.1 1) (sc xs (i + 1)) (sc xs (i + 2)) j ≤ 3
        unfold q_up
        split
        · exact hv
        · exact hIZ.2.2.1 j hj
  · rintro k hN
    obtain ⟨hraw, hk⟩ : (r_i (¬ (0 ≤ (sc xs (i + 1)) ∧ (sc xs (i + 1)) < 12)) 1 (r_i (¬ (1 ≤ (sc xs (i + 2)) ∧ (sc xs (i + 2)) ≤ 3)) 2 0)) = k ∧ ¬ k = 0 := by
      rcases hN with ⟨h1, rfl⟩ | ⟨h1, h2, rfl⟩
      · exact ⟨r_i1 h1, by decide⟩
      · exact ⟨by rw [r_i0 (fun c => c h1), r_i1 h2], by decide⟩
    refine r_callB (r_cons (r_loc rfl rfl) (r_cons (r_rd 1 hi hL (by decide) (by decide)) (r_cons (r_rd 2 hi hL (by decide) (by decide)) r_nil))) rfl (sp_X10_setThickness hS (sc_r _ _) (sc_r _ _)) ?_
    rintro v h2 (⟨h0, rfl, rfl⟩ | ⟨h0, _⟩)
    · exact ⟨_, _, rfl, by decide, rfl, hraw, trivial, INV_1 (r_frI r_fr0) (by decide) (by decide) (by decide) (r_okI hS (r_irg2 (by omega) (r_irg2 (by omega) (by omega)))) hKC hI⟩
    · exact absurd (hraw.symm.trans h0) hk
theorem r_9b {i k b : Int} {o8 : Option Value} {U : q_Sg} {c w : Nat} (hb : b = 0 ∨ b = 1) (hU : U.2.2.1 4 = b) : r_E (q_eIf (q_cCmp0 q_zne (q_eLoc 0 7)) (q_eLit (.long 1)) (q_eLit (.long 0))) (LL i (some (iv k)) (some (iv b)) o8) (q_en U, c, w) (.long (Int64.ofInt (U.2.2.1 4))) := by
  rw [hU]
  refine r_ifv (r_z_ne (r_loc rfl rfl) (by omega)) (fun h => ?_) (fun h => ?_)
  · rw [hb.resolve_left h]; exact r_litl1
  · rw [Classical.not_not.mp h]; exact rfl
theorem cs_4 {xs : Nat → Int32} {Ln : Nat} : CASE xs Ln (bL_4 xs Ln) := by
  intro S n c w i o6 o7 o8 hI hn hi hL
  obtain ⟨hS, h01, e21, hIS, hIZ, hKC, l, th, hCm, hMm⟩ := id hI
  have hSK := hIS.1
  unfold bL_4
  refine r_caseP (Ψ := fun b => b = 0 ∨ b = 1) (r_callC (r_cons (r_loc rfl rfl) (r_cons (r_rd 1 hi hL (by decide) (by decide)) (r_cons (r_rdb (r_rd 2 hi hL (by decide) (by decide)) (sc_r _ _)) (r_cons (r_loc rfl rfl) r_nil)))) rfl (sp_L_setPause hS (sc_r _ _)) r_isQ) (fun k b U c' w' hb h01 hU => r_9b h01 hU) ?_ ?_
  · rintro z T hz ⟨hly, hans, rfl⟩
    have hpz := r_zd (¬ (sc xs (i + 2)) = 0)
    have hpr : ∀ g : Int → Int, (∀ j, 0 ≤ g j ∧ g j < 2) → ∀ j, 0 ≤ q_up g (sc xs (i + 1)) (r_z (¬ (sc xs (i + 2)) = 0)) j ∧ q_up g (sc xs (i + 1)) (r_z (¬ (sc xs (i + 2)) = 0)) j < 2 := fun g hg j => by
      unfold q_up
      split
      · omega
      · exact hg j
    have hP2 := hIZ.2.2.2
    have hP23 : ∀ j, 0 ≤ S.2.1 23 j ∧ S.2.1 23 j < 2 := by rw [hIZ.2.1]; exact hP2
    have hTok : r_ok (q_sJ (q_sA S 2 (q_up (S.2.1 2) (sc xs (i + 1)) (r_z (¬ (sc xs (i + 2)) = 0)))) 4 z) := r_okJ (r_okA hS (r_oku (hS.2 2) (r_zrg _)))
    refine r_callB (r_cons (r_loc rfl rfl) (r_cons (r_rd 1 hi hL (by decide) (by decide)) (r_cons (r_rdb (r_rd 2 hi hL (by decide) (by decide)) (sc_r _ _)) r_nil))) rfl (sp_X10_setPause hTok (sc_r _ _) hP23) ?_
    rintro v h2 (⟨h0, rfl, rfl⟩ | ⟨h0, rfl, rfl⟩)
    · exact absurd (r_i1 hly) h0
    · have hf : r_fr [23] [23, 2] [4] S (q_sA (q_sI (q_sJ (q_sA S 2 (q_up (S.2.1 2) (sc xs (i + 1)) (r_z (¬ (sc xs (i + 2)) = 0)))) 4 z) 23 (r_i (0 ≤ (sc xs (i + 1)) ∧ (sc xs (i + 1)) < 12) 0 1)) 23 (q_up (S.2.1 23) (sc xs (i + 1)) (r_z (¬ (sc xs (i + 2)) = 0)))) := r_frA (r_frI (r_frJ (r_frA r_fr0)))
      have hz23 := hP23 (sc xs (i + 1))
      refine ⟨S.2.1 23 (sc xs (i + 1)), _, rfl, hS.2 _ _, rfl, h0, ⟨by omega, ?_⟩, r_okA (r_okI hTok (raw_r _)) (r_oku (hS.2 23) (r_zrg _)), h01, e21, IVS_f hf (fun k hk => by simp; omega) (fun k hk => by simp; omega) hIS, ⟨hIZ.1, ?_, hIZ.2.2.1, hpr _ hP2⟩, KCI_f hf (fun k hk => by simp; omega) (by decide) hKC, l, th, IVC_f hf (by decide) (by decide) (by decide) hCm, IVM_f hf (by decide) (by decide) (by decide) (IVM_m (by omega) hMm)⟩
      · show z = S.2.1 23 (sc xs (i + 1))
        rw [hans, ← hIZ.2.1]
        rcases r_zd (¬ S.2.1 23 (sc xs (i + 1)) = 0) with ⟨e, c⟩ | ⟨e, c⟩ <;> rw [e] <;> omega
      · show q_up (S.2.1 23) (sc xs (i + 1)) (r_z (¬ (sc xs (i + 2)) = 0)) = q_up (S.2.1 2) (sc xs (i + 1)) (r_z (¬ (sc xs (i + 2)) = 0))
        rw [hIZ.2.1]
  · rintro k ⟨hnly, rfl⟩
    refine r_callB (r_cons (r_loc rfl rfl) (r_cons (r_rd 1 hi hL (by decide) (by decide)) (r_cons (r_rdb (r_rd 2 hi hL (by decide) (by decide)) (sc_r _ _)) r_nil))) rfl (sp_X10_setPause hS (sc_r _ _) (by rw [hIZ.2.1]; exact hIZ.2.2.2)) ?_
    rintro v h2 (⟨h0, rfl, rfl⟩ | ⟨h0, _⟩)
    · exact ⟨_, _, rfl, by decide, rfl, r_i0 hnly, trivial, INV_1 (r_frI r_fr0) (by decide) (by decide) (by decide) (r_okI hS (raw_r _)) hKC hI⟩
    · rw [r_i0 hnly] at h0; exact absurd h0 (by decide)
