/-! plan, pass, figures -/
theorem PLN_c {a b : Int → Int} {f g : Nat → Int} {m d : Nat} {p q : Int → Int} (ha : a = b) (hp : p = q) (h : ∀ i, i ≤ 6 → f (m + i) = g (d + i)) : ∀ z : Nat, PLN a f m p z = PLN b g d q z
  | 0 => rfl
  | z + 1 => by
    show lay1 (KL a f m z) (¬ p z = 0) (f (m + 5)) z (PLN a f m p z) = lay1 (KL b g d z) (¬ q z = 0) (g (d + 5)) z (PLN b g d q z)
    rw [PLN_c ha hp h z, ha, hp, KLc2 h, h 5 (by decide)]
theorem MNs_c {a b : Int → Int} {f g : Nat → Int} {m d : Nat} (ha : a = b) (h : ∀ i, i ≤ 6 → f (m + i) = g (d + i)) : ∀ z : Nat, MNs a f m z = MNs b g d z
  | 0 => rfl
  | z + 1 => by
    show MNs a f m z + sI (KL a f m z) 720 = MNs b g d z + sI (KL b g d z) 720
    rw [MNs_c ha h z, ha, KLc2 h]
theorem MCs_c {a b : Int → Int} {f g : Nat → Int} {m d : Nat} (ha : a = b) (h : ∀ i, i ≤ 6 → f (m + i) = g (d + i)) : ∀ z : Nat, MCs a f m z = MCs b g d z
  | 0 => rfl
  | z + 1 => by
    show MCs a f m z + csm (sT (KL a f m z) z) (sI (KL a f m z) 720).toNat = MCs b g d z + csm (sT (KL b g d z) z) (sI (KL b g d z) 720).toNat
    rw [MCs_c ha h z, ha, KLc2 h]
theorem TKN_n {l : List qCmd} {th : Int → Int} {tg : Int} : ∀ (k : Nat) {m n : MT} {kz ov : Int}, ¬ (m.1 = 114 ∨ m.1 = 119) → TKN l th tg k m n kz ov → n.2.1 = m.2.1
  | 0, m, n, kz, ov, hm, ⟨h1, h2, h3⟩ => by
    subst h1; rfl
  | k + 1, m, n, kz, ov, hm, ⟨m1, kz1, ov1, kz2, ov2, h1, h2, h3, h4⟩ => by
    have a1 := (TKN_s k hm h1).1
    have a2 := TKN_n k hm h1
    rcases h2.2 with ⟨_, _, c1, _⟩ | ⟨c, _, _⟩
    · exact c1.trans a2
    · rw [a1] at c; exact absurd c hm
theorem TKN_r {l : List qCmd} {th : Int → Int} {tg : Int} : ∀ (k : Nat) {m n : MT} {kz ov : Int}, MI l m → (0 ≤ tg ∧ tg ≤ 300) → (m.1 = 114 ∨ m.1 = 119) → TKN l th tg k m n kz ov → n.1 = 114 ∨ n.1 = 119 ∨ n.1 = 112 ∨ n.1 = 100
  | 0, m, n, kz, ov, hI, ht, hm, ⟨h1, h2, h3⟩ => by
    subst h1; exact hm.elim Or.inl (fun e => Or.inr (Or.inl e))
  | k + 1, m, n, kz, ov, hI, ht, hm, ⟨m1, kz1, ov1, kz2, ov2, h1, h2, h3, h4⟩ => by
    have a1 := TKN_r k hI ht hm h1
    have a2 := (TKN_b ht k hI h1).1
    rcases h2.2 with ⟨_, c1, _⟩ | ⟨c, c2, _⟩
    · rw [c1]; exact a1
    · have b0 := a2.1
      have b1 := a2.2.1 (c.elim Or.inl (fun d => Or.inr (Or.inl d)))
      exact (TKR_MI ⟨b0.1, b1⟩ a2.2.2.1 a2.2.2.2.2.1 a2.2.2.2.1 c2).2.2.2.2.2.2.2
theorem TKN_c {l : List qCmd} {th : Int → Int} {tg : Int} (k : Nat) {m n : MT} {kz ov : Int} (hI : MI l m) (ht : 0 ≤ tg ∧ tg ≤ 300) (h : TKN l th tg k m n kz ov) : n.1 = m.1 ∨ n.1 = 114 ∨ n.1 = 119 ∨ n.1 = 112 ∨ n.1 = 100 := by
  by_cases d : m.1 = 114 ∨ m.1 = 119
  · exact Or.inr (TKN_r k hI ht d h)
  · exact Or.inl (TKN_s k d h).1
theorem cs_12 {xs : Nat → Int32} {Ln : Nat} : CASE xs Ln (bL_12 xs Ln) := by
  intro S n c w i o6 o7 o8 hI hn hi hL
  obtain ⟨hS, h01, e21, hIS, hIZ, hKC, l, th, hCm, hMm⟩ := id hI
  have hSK := hIS.1
  obtain ⟨⟨f32, f35, f37, f38, f40, f41, fA, f39, f34, fJ⟩, ⟨g13, g22, g16, g17, g33⟩, k102, ⟨m18, mP, m19, m19b, m20, m14, m15⟩, ⟨j2, jA⟩, hRun⟩ := id hMm
  unfold bL_12
  refine r_case (r_callC (r_cons (r_loc rfl rfl) (r_cons (r_loc rfl rfl) r_nil)) rfl (sp_L_plan hS hSK hKC hIZ.2.2.1) r_isQ) (fun k b U c' w' hb hU => r_9i hb hU) ?_ ?_
  · rintro z T hz ⟨hnb, hans, hT, hKT, hcT, hOT, hA18, hf, t16, t22, t21, t18, t19, t20⟩
    have hraw : r_z (((S.1 32 = 114 ∨ S.1 32 = 119) ∨ S.1 32 = 112) ∨ S.1 32 = 102) = 0 := r_z0 (by omega)
    have g32 : T.1 32 = S.1 32 := hf.1 32 (by decide)
    have gA : ∀ k, k ∈ [0, 1, 2, 20, 21, 22, 23, 32] → T.2.1 k = S.2.1 k := fun k hk => hf.2.1 k (by simp at hk ⊢; omega)
    have e24 : ∀ i, i ≤ 6 → T.1 (24 + i) = S.1 (0 + i) := fun i hi => (hf.1 _ (by simp; omega)).trans (INV_24 hI i hi)
    have e22 : T.2.1 22 = S.2.1 1 := (gA 22 (by decide)).trans hIZ.1
    have hpl : PLN ((q_sJ T 4 z).2.1 21) (q_sJ T 4 z).1 24 ((q_sJ T 4 z).2.1 23) 12 = (PLN (S.2.1 0) S.1 0 (S.2.1 2) 12) := PLN_c ((gA 21 (by decide)).trans e21) ((gA 23 (by decide)).trans hIZ.2.1) e24 12
    refine r_callB (r_cons (r_loc rfl rfl) r_nil) rfl (sp_X10_plan (r_okJ hT) (SOK_c (fun i hi => e24 i (by omega)) hSK) (fun z hz => by show 1 ≤ T.2.1 22 z ∧ T.2.1 22 z ≤ 3; rw [e22]; exact hIZ.2.2.1 z hz)) ?_
    rintro v h2 (⟨h0, _⟩ | ⟨h0, U, rfl, rfl, hU, hfU, hcU, u23, u32, u35, u34, u38, u37⟩)
    · exact absurd (r_z0 (by show ¬ (((T.1 32 = 114 ∨ T.1 32 = 119) ∨ T.1 32 = 112) ∨ T.1 32 = 102); omega)) h0
    · have hll2 : (PLN (S.2.1 0) S.1 0 (S.2.1 2) 12).length ≤ 6936 := PLN_len 12
      rw [hpl] at hcU ⊢
      have hcU : RREP U (PLN (S.2.1 0) S.1 0 (S.2.1 2) 12) (S.2.1 1) := by rw [← e22]; exact hcU
      have hfU2 := hfU
      have hcC : CREP U (PLN (S.2.1 0) S.1 0 (S.2.1 2) 12) (S.2.1 1) := CREP_f (r_frt (r_frJ (k := 4) (v := z) r_fr0) hfU2) (by decide) (by decide) (by decide) (by decide) hcT
      have hF : r_fr [12, 11, 10, 9, 8, 16, 22, 21, 18, 19, 20, 44, 43, 42, 38, 37, 35, 34, 32, 31, 23] [19, 18, 17, 16, 15, 14, 13, 12, 11, 10, 9, 3, 4, 5, 40, 39, 38, 37, 36, 35, 34, 31, 30, 29, 28, 27, 26, 25, 24] [0, 4] S U := r_frm (r_frt (r_frJ hf) hfU) (by decide) (by decide) (by decide)
      have hKU : KCI U := KCI_f (S := T) (r_frt (r_frJ (k := 4) (v := z) r_fr0) hfU) (fun k hk => by simp; omega) (by decide) hKT
      have hA18U : ∀ j, 0 ≤ j → j < 12 → U.2.1 18 j = 10 * S.2.1 1 j := fun j h0 h1 => by rw [hfU.2.1 18 (by decide)]; exact hA18 j h0 h1
      have hth3 : ∀ j, 0 ≤ j → j < 12 → 0 ≤ S.2.1 1 j ∧ S.2.1 1 j ≤ 3 := fun j h0 h1 => by have := hIZ.2.2.1 j ⟨h0, h1⟩; omega
      have w16 : U.1 16 = 105 := (hfU.1 16 (by decide)).trans t16
      have w22 : U.1 22 = 0 := (hfU.1 22 (by decide)).trans t22
      have w18 : U.1 18 = 0 := (hfU.1 18 (by decide)).trans t18
      have w19 : U.1 19 = 0 := (hfU.1 19 (by decide)).trans t19
      have w20 : U.1 20 = 0 := (hfU.1 20 (by decide)).trans t20
      have w13 : U.1 13 = S.1 13 := hF.1 13 (by decide)
      have w14 : U.1 14 = S.1 14 := hF.1 14 (by decide)
      have w15 : U.1 15 = S.1 15 := hF.1 15 (by decide)
      have w17 : U.1 17 = S.1 17 := hF.1 17 (by decide)
      have w33 : U.1 33 = S.1 33 := hF.1 33 (by decide)
      have w39 : U.1 39 = S.1 39 := hF.1 39 (by decide)
      have w40 : U.1 40 = S.1 40 := hF.1 40 (by decide)
      have w41 : U.1 41 = S.1 41 := hF.1 41 (by decide)
      have hM2 : IVM U (PLN (S.2.1 0) S.1 0 (S.2.1 2) 12) (n + 1) := by
        refine ⟨⟨by omega, by omega, by omega, by omega, by omega, by omega, by rw [hF.2.1 32 (by decide), hF.2.1 20 (by decide)]; exact fA, by omega, by omega, by rw [hF.2.2.1 3 (by decide), hF.2.2.1 1 (by decide)]; exact fJ⟩, ⟨by omega, by omega, by omega, by omega, by omega⟩, fun e => by omega, ⟨by omega, fun q => by omega, by omega, Or.inl w19, by omega, by omega, by omega⟩, ⟨by rw [hF.2.2.1 2 (by decide), hF.2.1 20 (by decide)]; exact j2, fun j => by have := jA j; rw [hF.2.1 20 (by decide)]; omega⟩, fun hr => ?_⟩
        unfold RUN at hr
        omega
      exact ⟨_, U, rfl, by omega, rfl, u23, ((hfU.2.2.1 4 (by decide)).trans hans), hU, by rw [hF.2.1 0 (by decide)]; exact h01, by rw [hF.2.1 0 (by decide), hF.2.1 21 (by decide)]; exact e21, IVS_f hF (fun k hk => by simp; omega) (fun k hk => by simp; omega) hIS, IVZ_f hF (by decide) hIZ, hKU, (PLN (S.2.1 0) S.1 0 (S.2.1 2) 12), S.2.1 1, ⟨hcC, hcU, hOT, (PLN_P (by have := hSK.2.2.2.2.2; exact this.1) 12 (Nat.le_refl _)).1, hll2, hA18U, hth3⟩, hM2⟩
  · rintro k ⟨hb, rfl⟩
    have hraw : r_z (((S.1 32 = 114 ∨ S.1 32 = 119) ∨ S.1 32 = 112) ∨ S.1 32 = 102) = 1 := r_z1 (by omega)
    refine r_callB (r_cons (r_loc rfl rfl) r_nil) rfl (sp_X10_plan hS (INV_K24 hI) (fun z hz => by rw [hIZ.1]; exact hIZ.2.2.1 z hz)) ?_
    rintro v h2 (⟨h0, rfl, rfl⟩ | ⟨h0, _⟩)
    · exact ⟨_, _, rfl, by decide, rfl, hraw, trivial, INV_1 (r_frI r_fr0) (by decide) (by decide) (by decide) (r_okI hS (r_zrg _)) hKC hI⟩
    · rw [hraw] at h0; exact absurd h0 (by decide)
theorem cs_20 {xs : Nat → Int32} {Ln : Nat} : CASE xs Ln (bL_20 xs Ln) := by
  intro S n c w i o6 o7 o8 hI hn hi hL
  obtain ⟨hS, h01, e21, hIS, hIZ, hKC, l, th, hCm, hMm⟩ := id hI
  have hSK := hIS.1
  obtain ⟨hCR, hRR, hCO, hCL, hll, hC18, hCt⟩ := id hCm
  obtain ⟨⟨f32, f35, f37, f38, f40, f41, fA, f39, f34, fJ⟩, ⟨g13, g22, g16, g17, g33⟩, k102, ⟨m18, mP, m19, m19b, m20, m14, m15⟩, ⟨j2, jA⟩, hRun⟩ := id hMm
  unfold bL_20
  refine r_case (r_callC (r_cons (r_loc rfl rfl) (r_cons (r_rd 1 hi hL (by decide) (by decide)) (r_cons (r_loc rfl rfl) r_nil))) rfl (sp_L_pass hS hCR hCO hll hC18 hCL hCt g13 (IVM_MI hMm) (B := 6000 * n) jA (by omega) (sc_r _ _)) r_isQ) (fun k b U c' w' hb hU => r_9i hb hU) ?_ ?_
  · rintro z T hz ⟨hok, kz, hT, hf, hkT, t21, t2, t1, hmT, hbT⟩
    have hrcT : RREP (q_sJ T 4 z) l th := RREP_f (r_frJ hf) (by decide) (by decide) hRR
    have g39 : T.1 39 = S.1 13 := (hf.1 39 (by decide)).trans f39
    have hmR : mR (q_sJ T 4 z) = mC S := by
      rw [← IVM_RC hMm]
      show (T.1 32, T.1 35, T.1 37, T.1 38, T.1 40, T.1 41, T.2.1 32) = (S.1 32, S.1 35, S.1 37, S.1 38, S.1 40, S.1 41, S.2.1 32)
      rw [hf.1 32 (by decide), hf.1 35 (by decide), hf.1 37 (by decide), hf.1 38 (by decide), hf.1 40 (by decide), hf.1 41 (by decide), hf.2.1 32 (by decide)]
    refine r_callB (r_cons (r_loc rfl rfl) (r_cons (r_rd 1 hi hL (by decide) (by decide)) r_nil)) rfl (sp_X10_pass (r_okJ hT) hrcT hCO hll hCL hCt (by show 0 ≤ T.1 39 ∧ T.1 39 ≤ 300; omega) (by rw [hmR]; exact IVM_MI hMm) (B := 6000 * n) (fun j => by show 0 ≤ T.2.1 32 j ∧ T.2.1 32 j ≤ 6000 * n; rw [hf.2.1 32 (by decide), fA]; exact jA j) (by omega) (sc_r _ _)) ?_
    rintro v h2 ⟨U, rfl, hU, hfU, hr, _⟩
    obtain ⟨kz2, ov2, rfl, hkU, u36, u3, hmU, hbU⟩ := hr hok
    rw [hmR] at hkU
    have hkU : TKN l th (T.1 39) ((sc xs (i + 1))).toNat (mC S) (mR U) kz2 ov2 := hkU
    rw [g39] at hkU
    obtain ⟨eM, ekz, eov⟩ := TKN_u _ hkU hkT
    have hfU2 : r_fr [41, 40, 38, 37, 36, 35, 32, 23] [32] [3] (q_sJ T 4 z) U := r_frm (r_frt (r_frI (k := 23) r_fr0) hfU) (by decide) (by decide) (by decide)
    have hF : r_fr [21, 20, 19, 18, 16, 15, 14, 41, 40, 38, 37, 36, 35, 32, 23] [20, 32] [2, 1, 4, 3] S U := r_frm (r_frt (r_frJ hf) hfU2) (by decide) (by decide) (by decide)
    have eC : mC U = mC T := by
      show (U.1 16, U.1 18, U.1 19, U.1 20, U.1 14, U.1 15, U.2.1 20) = (T.1 16, T.1 18, T.1 19, T.1 20, T.1 14, T.1 15, T.2.1 20)
      rw [hfU2.1 16 (by decide), hfU2.1 18 (by decide), hfU2.1 19 (by decide), hfU2.1 20 (by decide), hfU2.1 14 (by decide), hfU2.1 15 (by decide), hfU2.2.1 20 (by decide)]; rfl
    have u23 : U.1 23 = 0 := (hfU.1 23 (by decide)).trans (r_i1 hok)
    have eA20 : U.2.1 20 = T.2.1 20 := hfU2.2.1 20 (by decide)
    obtain ⟨rc1, rc2, rc3, rc4, rc5, rc6, rc7⟩ := RC_i (eM.trans eC.symm)
    have hmC : MI l (mC U) := by rw [eC]; exact hmT
    have w13 : U.1 13 = S.1 13 := hF.1 13 (by decide)
    have w17 : U.1 17 = S.1 17 := hF.1 17 (by decide)
    have w33 : U.1 33 = S.1 33 := hF.1 33 (by decide)
    have w39 : U.1 39 = S.1 39 := hF.1 39 (by decide)
    have w34 : U.1 34 = S.1 34 := hF.1 34 (by decide)
    have w22 : U.1 22 = S.1 22 := hF.1 22 (by decide)
    have w36 : U.1 36 = if kz = -2 then S.1 36 else kz := by rw [u36, ekz]; show (if kz = -2 then T.1 36 else kz) = _; rw [hf.1 36 (by decide)]
    have w21 : U.1 21 = if kz = -2 then S.1 21 else kz := (hfU2.1 21 (by decide)).trans t21
    have hb := TKN_b g13 _ (IVM_MI hMm) hkT
    have hst : ¬ (S.1 16 = 114 ∨ S.1 16 = 119) → U.1 16 = S.1 16 ∧ kz = -2 := fun d => by
      obtain ⟨d1, d2⟩ := TKN_s _ (m := mC S) d hkT
      exact ⟨(hfU2.1 16 (by decide)).trans d1, d2⟩
    have w18 : ¬ (S.1 16 = 114 ∨ S.1 16 = 119) → U.1 18 = S.1 18 := fun d => (hfU2.1 18 (by decide)).trans (TKN_n _ (m := mC S) d hkT)
    have h16c := TKN_c _ (IVM_MI hMm) g13 hkT
    have h16c : T.1 16 = S.1 16 ∨ T.1 16 = 114 ∨ T.1 16 = 119 ∨ T.1 16 = 112 ∨ T.1 16 = 100 := h16c
    have w16 : U.1 16 = T.1 16 := hfU2.1 16 (by decide)
    obtain ⟨n18, nP, n19, n19b, n20, n14, n15⟩ := id hmC
    have n18 : 0 ≤ U.1 18 ∧ U.1 18 ≤ l.length := n18
    have nP : PRN (U.1 16) → U.1 18 < l.length := nP
    have hM2 : IVM U l (n + 1) := by
      refine ⟨⟨rc1, rc2, rc3, rc4, rc5, rc6, rc7, by omega, by omega, ?_⟩, ⟨by omega, by omega, by omega, by omega, by omega⟩, fun e => ?_, hmC, ⟨?_, fun j => ?_⟩, fun hr => ?_⟩
      · have e1 : U.2.2.1 1 = S.2.2.1 1 + (sc xs (i + 1)) := (hfU2.2.2.1 1 (by decide)).trans t1
        have e3 : U.2.2.1 3 = T.2.2.1 3 + (sc xs (i + 1)) := u3
        rw [hf.2.2.1 3 (by decide)] at e3
        omega
      · have hd : ¬ (S.1 16 = 114 ∨ S.1 16 = 119) ∧ S.1 16 = 102 := by
          by_cases d : S.1 16 = 114 ∨ S.1 16 = 119
          · have := TKN_r _ (IVM_MI hMm) g13 d hkT
            have this : T.1 16 = 114 ∨ T.1 16 = 119 ∨ T.1 16 = 112 ∨ T.1 16 = 100 := this
            omega
          · have := (hst d).1; omega
        have hk1 := k102 hd.2
        have hk2 := w18 hd.1
        exact ⟨by omega, fun q => by have := hk1.2 (by rw [← w17]; exact q); omega⟩
      · have e2 : U.2.2.1 2 = T.2.2.1 2 := hfU2.2.2.1 2 (by decide)
        rw [e2, eA20]; omega
      · have := hbT j
        rw [eA20]; omega
      · have hrS : RUN S := by
          unfold RUN at hr ⊢
          by_cases d : S.1 16 = 114 ∨ S.1 16 = 119
          · exact Or.inr (Or.inl (d.elim Or.inl (fun d => Or.inr (Or.inl d))))
          · have := (hst d).1
            rw [w22, this, w17] at hr
            exact hr
        obtain ⟨r1, r2, r3, r4⟩ := hRun hrS
        rw [w36, w21]
        rcases hb.2.2 with e | e
        · rw [if_pos e, if_pos e]; exact ⟨r1, r2, r3, r4⟩
        · rw [if_neg (by omega), if_neg (by omega)]; exact ⟨rfl, Or.inr e.1, e.2, r4⟩
    exact ⟨ov2, U, rfl, by rw [eov]; exact hz, rfl, u23, (hfU2.2.2.1 4 (by decide)).trans eov.symm, hU, by rw [hF.2.1 0 (by decide)]; exact h01, by rw [hF.2.1 0 (by decide), hF.2.1 21 (by decide)]; exact e21, IVS_f hF (fun k hk => by simp; omega) (fun k hk => by simp; omega) hIS, IVZ_f hF (by decide) hIZ, KCI_f hF (fun k hk => by simp; omega) (by decide) hKC, l, th, IVC_f hF (by decide) (by decide) (by decide) hCm, hM2⟩
  · rintro k ⟨hno, rfl⟩
    refine r_callB (r_cons (r_loc rfl rfl) (r_cons (r_rd 1 hi hL (by decide) (by decide)) r_nil)) rfl (sp_X10_pass hS hRR hCO hll hCL hCt (by omega) (by rw [IVM_RC hMm]; exact IVM_MI hMm) (B := 6000 * n) (fun j => by rw [fA]; exact jA j) (by omega) (sc_r _ _)) ?_
    rintro v h2 ⟨U, rfl, hU, hfU, _, hr⟩
    obtain ⟨rfl, rfl⟩ := hr hno
    exact ⟨_, _, rfl, by decide, rfl, rfl, trivial, INV_1 (r_frI r_fr0) (by decide) (by decide) (by decide) (r_okI hS (by omega)) hKC hI⟩
theorem r_fM {t : Nat} {op : Value → Option Value} {ci : Option Nat} {F : qF} {as : qAs} {vs : List Value} {L : qL} {h : qH} {R R2 : Value ⊕ Nat → qH → Prop} (ka : r_A as L h vs) (ho : q_obj h vs ci = true) (hx : r_M F vs h R) (k1 : ∀ v h2, R (.inl v) h2 → q_is t v = true ∧ ∃ x, op v = some x ∧ R2 (.inl x) h2) (k2 : ∀ n h2, R (.inr n) h2 → R2 (.inr n) h2) : ∃ r h2, q_eH1 (fun _ => op) (q_eCall t ci F as) L h = some (r, h2) ∧ R2 r h2 := by
  obtain ⟨r, h2, e, hR⟩ := r_eM (t := t) ka ho hx (fun v h2 hv => (k1 v h2 hv).1)
  cases r with
  | inl v =>
    obtain ⟨_, x, e2, q⟩ := k1 v h2 hR
    refine ⟨_, _, ?_, q⟩
    unfold q_eH1
    rw [e]
    unfold q_bE
    dsimp only
    rw [e2]
  | inr n =>
    refine ⟨_, _, ?_, k2 n h2 hR⟩
    unfold q_eH1
    rw [e]
    rfl
theorem FDV_2 {y z : Int} (hy : 0 ≤ y ∧ y ≤ 1728) (hz : 0 < z ∧ z ≤ 1728) : FP.Core.dIsNaN (FP.f2d (FDV y z)) = false ∧ q_f2d (.float (FDV y z)) = some (.double (FP.f2d (FDV y z))) := by
  have h1 : FP.Core.dIsNaN (FP.f2d (FDV y z)) = false := (FP.f2d_nan (FDV y z)).trans (FDV_n hy hz)
  refine ⟨h1, ?_⟩
  show (if FP.f2d (FDV y z) &&& 0x7fffffffffffffff ≤ 0x7ff0000000000000 then some (Value.double (FP.f2d (FDV y z))) else none) = _
  rw [if_pos (r_nn64 h1)]
theorem q_dcmp_e {x : UInt64} (h : FP.Core.dIsNaN x = false) : q_dcmpl (.double x) (.double x) = some (iv 0) := by
  have e : FP.dcmp x x = some .eq := FP.Core.dcmp_self ((FP.Core.notNaN_iff x).mp h)
  show some (Value.int (Op.cmpValue (FP.dcmp x x) .l)) = _
  rw [e]; rfl
def r_QD (P : UInt64 → q_Sg → Prop) (N : q_Sg → Prop) (c w : Nat) : Value → qH → Prop := fun v h2 => (∃ x T, v = iv 0 ∧ FP.Core.dIsNaN x = false ∧ h2 = (q_en (q_sD T (vf_upd (fun j => T.2.2.2 j) 0 x)), c, w) ∧ P x T) ∨ (∃ T, v = iv 1 ∧ h2 = (q_en T, c + 1, w + 6) ∧ N T)
theorem sp_L_emptyShare {S : q_Sg} {c w : Nat} (hS : r_ok S) (hK : SOK S.1 0) (hI : KCI S) : r_X f_L_emptyShare [.ref 16, .ref 69] (q_en S, c, w) (r_QD (fun x T => x = FP.f2d (FDV (cnt (fun j => ¬ S.2.1 0 j = 0 ∧ KND (S.2.1 0) S.1 0 (j % 12) (j / 12 % 12) (j / 144) = 101) 1728) (cnt (fun j => ¬ S.2.1 0 j = 0) 1728)) ∧ ¬ (cnt (fun j => ¬ S.2.1 0 j = 0) 1728) = 0 ∧ r_ok T ∧ r_fr [] [3, 4, 5] [] S T ∧ KCI T) (fun T => T = S ∧ (cnt (fun j => ¬ S.2.1 0 j = 0) 1728) = 0) c w) := by
  have hs1 := cnt_b (p := fun j => ¬ S.2.1 0 j = 0) 1728
  have hs2 := cnt_b (p := fun j => ¬ S.2.1 0 j = 0 ∧ KND (S.2.1 0) S.1 0 (j % 12) (j / 12 % 12) (j / 144) = 101) 1728
  refine r_Xof (r_run (L := [_, _, _]) ⟨rfl, Nat.le_of_ble_eq_true rfl⟩ rfl ?_)
  unfold b_L_emptyShare
  refine r_seq (r_try (R := fun r h2 => (∃ T, r = .inl (.double (FP.f2d (FDV (cnt (fun j => ¬ S.2.1 0 j = 0 ∧ KND (S.2.1 0) S.1 0 (j % 12) (j / 12 % 12) (j / 144) = 101) 1728) (cnt (fun j => ¬ S.2.1 0 j = 0) 1728)))) ∧ h2 = (q_en T, c, w) ∧ ¬ (cnt (fun j => ¬ S.2.1 0 j = 0) 1728) = 0 ∧ r_ok T ∧ r_fr [] [3, 4, 5] [] S T ∧ KCI T) ∨ (r = .inr 4 ∧ h2 = (q_en S, c + 1, w + 6) ∧ (cnt (fun j => ¬ S.2.1 0 j = 0) 1728) = 0)) (r_loc rfl rfl) (r_fM (t := 2) (r_cons (r_loc rfl rfl) r_nil) rfl (sp_X9_emptyShare hS hK hI) ?_ ?_) ?_ ?_)
  · rintro v h2 (⟨T, e, rfl, h0, hT⟩ | ⟨e, _⟩)
    · cases e
      exact ⟨rfl, _, (FDV_2 (by omega) (by omega)).2, Or.inl ⟨T, rfl, rfl, h0, hT⟩⟩
    · cases e
  · rintro n h2 (⟨T, e, _⟩ | ⟨e, rfl, h0⟩)
    · cases e
    · cases e
      exact Or.inr ⟨rfl, rfl, h0⟩
  · rintro v h2 (⟨T, e, rfl, h0, hT⟩ | ⟨e, _⟩)
    · cases e
      exact ⟨_, q_pD_e, r_k0 (r_sret (r_lit ql_0) (r_pret (q_fit_int _) r_le0 ⟨_, rfl, Or.inl ⟨_, T, rfl, (FDV_2 (by omega) (by omega)).1, rfl, rfl, h0, hT⟩⟩))⟩
    · cases e
  · rintro n h2 (⟨T, e, _⟩ | ⟨e, rfl, h0⟩)
    · cases e
    · cases e
      exact ⟨1, by decide, r_ks (j := 3) (r_pret (v := iv 1) (q_fit_int _) ⟨Nat.le_succ _, Nat.le_add_right _ _⟩ ⟨_, rfl, Or.inr ⟨S, rfl, rfl, rfl, h0⟩⟩)⟩
theorem sp_L_meanStroke {S : q_Sg} {c w : Nat} (hS : r_ok S) (hK : SOK S.1 0) (hI : KCI S) : r_X f_L_meanStroke [.ref 16, .ref 69] (q_en S, c, w) (r_QD (fun x T => x = DDV (MCs (S.2.1 0) S.1 0 12) (MNs (S.2.1 0) S.1 0 12) ∧ ¬ (MNs (S.2.1 0) S.1 0 12) = 0 ∧ r_ok T ∧ r_fr [8] [3, 4, 5, 13, 12, 11, 10, 9] [] S T ∧ KCI T) (fun T => (MNs (S.2.1 0) S.1 0 12) = 0 ∧ r_ok T ∧ r_fr [8] [3, 4, 5, 13, 12, 11, 10, 9] [] S T ∧ KCI T) c w) := by
  have hm1 := MNs_b (a := S.2.1 0) (f := S.1) (b := 0) 12
  refine r_Xof (r_run (L := [_, _, _]) ⟨rfl, Nat.le_of_ble_eq_true rfl⟩ rfl ?_)
  unfold b_L_meanStroke
  refine r_seq (r_try (r_loc rfl rfl) (r_eM (t := 3) (r_cons (r_loc rfl rfl) r_nil) rfl (sp_X9_meanStroke hS hK hI) ?_) ?_ ?_)
  · rintro v h2 ⟨T, hT, hf, hIT, ⟨e, _⟩ | ⟨e, _⟩⟩
    · cases e; rfl
    · cases e
  · rintro v h2 ⟨T, hT, hf, hIT, ⟨e, rfl, h0⟩ | ⟨e, _⟩⟩
    · cases e
      exact ⟨_, q_pD_e, r_k0 (r_sret (r_lit ql_0) (r_pret (q_fit_int _) r_le0 ⟨_, rfl, Or.inl ⟨_, T, rfl, DDV_n h0 (by omega), rfl, rfl, h0, hT, hf, hIT⟩⟩))⟩
    · cases e
  · rintro n h2 ⟨T, hT, hf, hIT, ⟨e, _⟩ | ⟨e, rfl, h0⟩⟩
    · cases e
    · cases e
      exact ⟨1, by decide, r_ks (j := 3) (r_pret (v := iv 1) (q_fit_int _) ⟨Nat.le_succ _, Nat.le_add_right _ _⟩ ⟨_, rfl, Or.inr ⟨T, rfl, rfl, h0, hT, hf, hIT⟩⟩)⟩
theorem INV_SD {S T : q_Sg} {n : Int} {v : Nat → UInt64} {Is As Js : List Nat} (h : r_fr Is As Js S T) (h1 : Is ⊆ [7, 8, 23, 42]) (h2 : As ⊆ [3, 4, 5, 6, 7, 8, 9, 10, 11, 12, 13, 33, 34, 35, 36, 37, 38, 39]) (h3 : Js ⊆ [4]) (hT : r_ok T) (hI : KCI T) (k : INV S n) : INV (q_sD T v) n := INV_D (INV_q (Int.le_refl _) (r_frm h h1 h2 h3) hT hI k)
theorem r_thrD {i k : Int} {o7 o8 : Option Value} {U : q_Sg} {c w : Nat} {Q : qQ} (hk : rg k) (h23 : U.1 23 = k) (q : Q (0, .null) (LL i (some (iv k)) o7 o8) (q_en U, c, w)) : wS sTHR (LL i (some (iv k)) o7 o8) (q_en U, c, w) Q := r_thr (b := 0) (v := .null) hk h23 q
/-- the comparison of figures: not done behind a throw, equal else -/
theorem r_cmpF {i k : Int} {o7 o8 : Option Value} {U : q_Sg} {c w : Nat} {Q : qQ} {e8 : qE} {B : qB} (hk : rg k) (h9 : k = 0 → ∃ x f, FP.Core.dIsNaN x = false ∧ U.2.2.2 = vf_upd f 0 x ∧ r_E e8 (LL i (some (iv k)) o7 o8) (q_en U, c, w) (.double x)) (q : Q (0, .null) (LL i (some (iv k)) o7 o8) (q_en U, c, w)) : wS (q_sIf (q_cAnd (q_cAnd (q_cCmp0 q_zeq (q_eLoc 0 6)) (q_cCmp0 q_zne (q_eH2 (fun _ => q_dcmpl) (q_eH2 q_gD (q_eLoc 4 4) (q_eLit (.int 0))) e8))) B) (q_sRet (q_eLit (.int 0))) q_sSkip) (LL i (some (iv k)) o7 o8) (q_en U, c, w) Q := by
  refine r_sif (p := (k = 0 ∧ ¬ (0 : Int) = 0) ∧ False) (r_and (r_and (r_z_eq (r_loc rfl rfl) hk) (fun h0 => ?_)) (fun hp => absurd rfl hp.2)) (fun hp => hp.2.elim) (fun _ => wS_skip q)
  obtain ⟨x, f, hx, hU, he⟩ := h9 h0
  refine r_z_ne (r_h2 (r_h2 (r_loc rfl rfl) rfl (x := .double x) ?_) he (q_dcmp_e hx)) (by omega)
  have e := q_gD_e (S := U) (c := c) (w := w) (f := f) (x := x)
  rw [← hU] at e
  exact e
theorem cs_33 {xs : Nat → Int32} {Ln : Nat} : CASE xs Ln (bL_33 xs Ln) := by
  intro S n c w i o6 o7 o8 hI hn hi hL
  obtain ⟨hS, h01, e21, hIS, hIZ, hKC, l, th, hCm, hMm⟩ := id hI
  have hSK := hIS.1
  have hs1 := cnt_b (p := fun j => ¬ S.2.1 0 j = 0) 1728
  have hs2 := cnt_b (p := fun j => ¬ S.2.1 0 j = 0 ∧ KND (S.2.1 0) S.1 0 (j % 12) (j / 12 % 12) (j / 144) = 101) 1728
  have eKN : ∀ T : q_Sg, T.2.1 21 = S.2.1 21 → T.1 = S.1 → cnt (fun j => ¬ T.2.1 21 j = 0 ∧ KND (T.2.1 21) T.1 24 (j % 12) (j / 12 % 12) (j / 144) = 101) 1728 = (cnt (fun j => ¬ S.2.1 0 j = 0 ∧ KND (S.2.1 0) S.1 0 (j % 12) (j / 12 % 12) (j / 144) = 101) 1728) ∧ cnt (fun j => ¬ T.2.1 21 j = 0) 1728 = (cnt (fun j => ¬ S.2.1 0 j = 0) 1728) := fun T e1 e2 => by
    rw [e1, e2, INV_KND hI, e21]; exact ⟨rfl, rfl⟩
  unfold bL_33
  refine r_seq (r_seq (r_slocC (r_callC (r_cons (r_loc rfl rfl) (r_cons (r_loc rfl rfl) r_nil)) rfl (sp_L_emptyShare hS hSK hKC) (by rintro v h2 (⟨x, T, rfl, _⟩ | ⟨T, rfl, _⟩) <;> rfl)) ?_))
  rintro v h3 (⟨x, T, rfl, hx, rfl, hxe, hsn, hT, hf, hKT⟩ | ⟨T, rfl, rfl, rfl, hsn⟩)
  · have hI2 : INV (q_sD T (vf_upd (fun j => T.2.2.2 j) 0 x)) n := INV_SD hf (by decide) (by decide) (by decide) hT hKT hI
    obtain ⟨q1, q2⟩ := eKN (q_sD T (vf_upd (fun j => T.2.2.2 j) 0 x)) (hf.2.1 21 (by decide)) (funext fun k => hf.1 k (by simp))
    refine ⟨rfl, r_k0 (r_seq (r_slocC (r_callC (r_cons (r_loc rfl rfl) r_nil) rfl (sp_X10_emptyShare hT (INV_K24 hI2)) ?_) ?_))⟩
    · rintro v h2 ⟨rfl, ⟨_, rfl⟩ | ⟨_, rfl⟩⟩ <;> rfl
    · rw [q1, q2]
      rintro v h2 ⟨rfl, ⟨h0, rfl⟩ | ⟨h0, rfl⟩⟩
      · refine ⟨rfl, r_k0 (r_seq (r_thrD (i := i) (k := 0) (o8 := o8) (o7 := some (.float (FDV (cnt (fun j => ¬ S.2.1 0 j = 0 ∧ KND (S.2.1 0) S.1 0 (j % 12) (j / 12 % 12) (j / 144) = 101) 1728) (cnt (fun j => ¬ S.2.1 0 j = 0) 1728)))) (by omega) (r_z0 h0) (r_k0 (r_cmpF (i := i) (k := 0) (by omega) (fun _ => ⟨x, _, hx, rfl, ?_⟩) (r_k0 (wS_brk (e9_i (INV_1 (r_frI r_fr0) (by decide) (by decide) (by decide) (r_okI hI2.1 (r_zrg _)) hKT hI2))))))))⟩
        rw [hxe]
        exact r_h1 (r_loc rfl rfl) (FDV_2 (by omega) (by omega)).2
      · exact absurd h0 hsn
  · obtain ⟨q1, q2⟩ := eKN T rfl rfl
    refine ⟨rfl, r_k0 (r_seq (r_slocC (r_callC (r_cons (r_loc rfl rfl) r_nil) rfl (sp_X10_emptyShare hS (INV_K24 hI)) ?_) ?_))⟩
    · rintro v h2 ⟨rfl, ⟨_, rfl⟩ | ⟨_, rfl⟩⟩ <;> rfl
    · rw [q1, q2]
      rintro v h2 ⟨rfl, ⟨h0, rfl⟩ | ⟨h0, rfl⟩⟩
      · exact absurd hsn h0
      · exact ⟨rfl, r_k0 (r_seq (r_thrD (i := i) (k := 1) (o8 := o8) (o7 := some (.float 0)) (by omega) (r_z1 h0) (r_k0 (r_cmpF (i := i) (k := 1) (by omega) (fun e => absurd e (by decide)) (r_k0 (wS_brk ⟨rfl, _, _, _, _, c + 1, w + 6, rfl, rfl, INV_1 (r_frI r_fr0) (by decide) (by decide) (by decide) (r_okI hS (r_zrg _)) hKC hI, ⟨Nat.le_succ _, Nat.le_refl _⟩, Nat.le_add_right _ _, Nat.le_refl _⟩))))))⟩
theorem cs_34 {xs : Nat → Int32} {Ln : Nat} : CASE xs Ln (bL_34 xs Ln) := by
  intro S n c w i o6 o7 o8 hI hn hi hL
  obtain ⟨hS, h01, e21, hIS, hIZ, hKC, l, th, hCm, hMm⟩ := id hI
  have hSK := hIS.1
  have hm1 := MNs_b (a := S.2.1 0) (f := S.1) (b := 0) 12
  have eMN : ∀ T : q_Sg, INV T n → T.2.1 0 = S.2.1 0 → (∀ i, i ≤ 6 → T.1 (0 + i) = S.1 (0 + i)) → MNs (T.2.1 21) T.1 24 12 = (MNs (S.2.1 0) S.1 0 12) ∧ MCs (T.2.1 21) T.1 24 12 = (MCs (S.2.1 0) S.1 0 12) := fun T hIT e1 e2 =>
    ⟨MNs_c (hIT.2.2.1.trans e1) (fun i hi => (INV_24 hIT i hi).trans (e2 i hi)) 12, MCs_c (hIT.2.2.1.trans e1) (fun i hi => (INV_24 hIT i hi).trans (e2 i hi)) 12⟩
  unfold bL_34
  refine r_seq (r_seq (r_slocC (r_callC (r_cons (r_loc rfl rfl) (r_cons (r_loc rfl rfl) r_nil)) rfl (sp_L_meanStroke hS hSK hKC) (by rintro v h2 (⟨x, T, rfl, _⟩ | ⟨T, rfl, _⟩) <;> rfl)) ?_))
  rintro v h3 (⟨x, T, rfl, hx, rfl, hxe, hmn, hT, hf, hKT⟩ | ⟨T, rfl, rfl, hmn, hT, hf, hKT⟩)
  · have hI2 : INV (q_sD T (vf_upd (fun j => T.2.2.2 j) 0 x)) n := INV_SD hf (by decide) (by decide) (by decide) hT hKT hI
    obtain ⟨q1, q2⟩ := eMN _ hI2 (hf.2.1 0 (by decide)) (fun i hi => hf.1 _ (by simp; omega))
    refine ⟨rfl, r_k0 (r_seq (r_slocC (r_callC (r_cons (r_loc rfl rfl) r_nil) rfl (sp_X10_meanStroke hT (INV_K24 hI2)) ?_) ?_))⟩
    · rintro v h2 ⟨U, rfl, _, _, _, ⟨_, rfl⟩ | ⟨_, rfl⟩⟩ <;> rfl
    · rw [q1, q2]
      rintro v h2 ⟨U, rfl, hU, hfU, h23, ⟨h0, rfl⟩ | ⟨h0, rfl⟩⟩
      · exact ⟨rfl, r_k0 (r_seq (r_thrD (i := i) (k := 0) (o8 := none) (o7 := some (.double (DDV (MCs (S.2.1 0) S.1 0 12) (MNs (S.2.1 0) S.1 0 12)))) (by omega) (h23.trans (r_z0 h0)) (r_k0 (r_cmpF (i := i) (k := 0) (by omega) (fun _ => ⟨x, _, hx, hfU.2.2.2, by rw [hxe]; exact r_loc rfl rfl⟩) (r_k0 (wS_brk (e9_i (INV_1 hfU (by decide) (by decide) (by decide) hU (KCI_f hfU (by decide) (by decide) hKT) hI2))))))))⟩
      · exact absurd h0 hmn
  · have hI2 : INV T n := INV_q (Int.le_refl _) (r_frm hf (by decide) (by decide) (by decide)) hT hKT hI
    obtain ⟨q1, q2⟩ := eMN _ hI2 (hf.2.1 0 (by decide)) (fun i hi => hf.1 _ (by simp; omega))
    refine ⟨rfl, r_k0 (r_seq (r_slocC (r_callC (r_cons (r_loc rfl rfl) r_nil) rfl (sp_X10_meanStroke hT (INV_K24 hI2)) ?_) ?_))⟩
    · rintro v h2 ⟨U, rfl, _, _, _, ⟨_, rfl⟩ | ⟨_, rfl⟩⟩ <;> rfl
    · rw [q1, q2]
      rintro v h2 ⟨U, rfl, hU, hfU, h23, ⟨h0, rfl⟩ | ⟨h0, rfl⟩⟩
      · exact absurd hmn h0
      · exact ⟨rfl, r_k0 (r_seq (r_thrD (i := i) (k := 1) (o8 := none) (o7 := some (.double 0)) (by omega) (h23.trans (r_z1 h0)) (r_k0 (r_cmpF (i := i) (k := 1) (by omega) (fun e => absurd e (by decide)) (r_k0 (wS_brk ⟨rfl, _, _, _, _, c + 1, w + 6, rfl, rfl, INV_1 hfU (by decide) (by decide) (by decide) hU (KCI_f hfU (by decide) (by decide) hKT) hI2, ⟨Nat.le_succ _, Nat.le_refl _⟩, Nat.le_add_right _ _, Nat.le_refl _⟩))))))⟩
