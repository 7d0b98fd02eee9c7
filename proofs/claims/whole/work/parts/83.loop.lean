/-! the loop of the law -/
def sLP (xs : Nat → Int32) (Ln : Nat) : qS := (q_sLoop q_fuel (q_cCmp q_cle (q_eLoc 0 5) (q_eH2 (fun _ => q_isub) (q_eH1 (q_gLenR (q_rx xs Ln)) (q_eLoc 4 0)) (q_eLit (.int 8)))) (q_sSw (q_eH2 (fun _ => q_iand) (q_eH2 (q_gR (q_rx xs Ln) .int) (q_eLoc 4 0) (q_eLoc 0 5)) (q_eLit (.int 63))) [(0, (bL_0 xs Ln)), (1, (bL_1 xs Ln)), (2, (bL_2 xs Ln)), (3, (bL_3 xs Ln)), (4, (bL_4 xs Ln)), (5, (bL_5 xs Ln)), (6, (bL_6 xs Ln)), (7, (bL_7 xs Ln)), (8, (bL_8 xs Ln)), (9, (bL_9 xs Ln)), (10, (bL_10 xs Ln)), (11, (bL_11 xs Ln)), (12, (bL_12 xs Ln)), (13, (bL_13 xs Ln)), (14, (bL_14 xs Ln)), (15, (bL_15 xs Ln)), (16, (bL_16 xs Ln)), (17, (bL_17 xs Ln)), (18, (bL_18 xs Ln)), (19, (bL_19 xs Ln)), (20, (bL_20 xs Ln)), (21, (bL_21 xs Ln)), (22, (bL_22 xs Ln)), (23, (bL_23 xs Ln)), (24, (bL_24 xs Ln)), (25, (bL_25 xs Ln)), (26, (bL_26 xs Ln)), (27, (bL_27 xs Ln)), (28, (bL_28 xs Ln)), (29, (bL_29 xs Ln)), (30, (bL_30 xs Ln)), (31, (bL_31 xs Ln)), (32, (bL_32 xs Ln)), (33, (bL_33 xs Ln)), (34, (bL_34 xs Ln))] q_sBrk) (q_sInc 5 8))
theorem r_lenX {xs : Nat → Int32} {Ln : Nat} {L : qL} {h : qH} {a : qE} (ka : r_E a L h (.ref 0)) : r_E (q_eH1 (q_gLenR (q_rx xs Ln)) a) L h (iv (Ln : Int)) := by
  refine r_h1 ka ?_
  unfold q_gLenR
  dsimp only
  rw [show q_rx xs Ln 0 = some (.int, Ln, xs) from rfl]
  rfl
theorem r_e9w {i n : Int} {c w : Nat} {Q : qQ} (k : ∀ p6 p7 p8 T c' w', INV T (n + 1) → (c ≤ c' ∧ c' ≤ c + 1) → (w ≤ w' ∧ w' ≤ w + 6) → Q (0, .null) (LL i p6 p7 p8) (q_en T, c', w')) : ∀ o L h, r_E9 i n c w o L h → r_sw Q o L h := by
  rintro ⟨j, v⟩ L h ⟨hj, p6, p7, p8, T, c', w', rfl, rfl, hI, hc, hw⟩
  exact ⟨fun _ => k p6 p7 p8 T c' w' hI hc hw, fun d => absurd hj d⟩
theorem law_loop {xs : Nat → Int32} {Ln : Nat} (hL : Ln ≤ 4096) {S0 : q_Sg} {c0 w0 : Nat} {o6 o7 o8 : Option Value} (hI0 : INV S0 0) : wS (sLP xs Ln) (LL 0 o6 o7 o8) (q_en S0, c0, w0) (fun o L' h' => o.1 = 0 ∧ h'.2.1 ≤ c0 + 512 ∧ h'.2.2 ≤ w0 + 3072) := by
  unfold sLP
  refine r_loop (T := Int × Int × q_Sg × Nat × Nat × Option Value × Option Value × Option Value) (fun σ => match σ with | (i, n, S, c, w, _, _, _) => (0 ≤ i ∧ i = 8 * n ∧ i ≤ Ln) ∧ INV S n ∧ (c : Int) ≤ c0 + n ∧ (w : Int) ≤ w0 + 6 * n) (fun σ => match σ with | (i, _, _, _, _, _, _, _) => ((Ln : Int) - i).toNat) (fun σ => match σ with | (i, _, _, _, _, o6, o7, o8) => LL i o6 o7 o8) (fun σ => match σ with | (_, _, S, c, w, _, _, _) => (q_en S, c, w)) (0, 0, S0, c0, w0, o6, o7, o8) rfl rfl ?_ ?_ ?_
  · exact ⟨⟨by omega, by omega, by omega⟩, hI0, by omega, by omega⟩
  · (show _ < 1000000); dsimp only; omega
  · rintro ⟨i, n, S, c, w, o6, o7, o8⟩ ⟨⟨hi0, hi8, hiL⟩, hI, hc, hw⟩
    dsimp only at hi0 hi8 hiL hI hc hw ⊢
    refine ⟨_, r_le (r_loc rfl rfl) (r_sub (r_lenX (r_loc rfl rfl)) (r_lit ql_8)) (by omega) (by omega), fun hp => ?_, fun hp => ?_⟩
    · exact ⟨rfl, by show c ≤ c0 + 512; omega, by show w ≤ w0 + 3072; omega⟩
    · have hi : 0 ≤ i ∧ i + 8 ≤ Ln := by omega
      have hn : 0 ≤ n ∧ n ≤ 600 := by omega
      refine r_ssw (r_iand63 (r_rd0 (r_loc rfl rfl) (r_loc rfl rfl) (by omega) hL) (sc_r _ _)) (by omega) ?_
      have K : ∀ p6 p7 p8 T c' w', INV T (n + 1) → (c ≤ c' ∧ c' ≤ c + 1) → (w ≤ w' ∧ w' ≤ w + 6) → (r_lk (q_sInc 5 8) (fun σ : Int × Int × q_Sg × Nat × Nat × Option Value × Option Value × Option Value => match σ with | (i, n, S, c, w, _, _, _) => (0 ≤ i ∧ i = 8 * n ∧ i ≤ Ln) ∧ INV S n ∧ (c : Int) ≤ c0 + n ∧ (w : Int) ≤ w0 + 6 * n) (fun σ => match σ with | (i, _, _, _, _, _, _, _) => ((Ln : Int) - i).toNat) (fun σ => match σ with | (i, _, _, _, _, o6, o7, o8) => LL i o6 o7 o8) (fun σ => match σ with | (_, _, S, c, w, _, _, _) => (q_en S, c, w)) (i, n, S, c, w, o6, o7, o8) (fun o L' h' => o.1 = 0 ∧ h'.2.1 ≤ c0 + 512 ∧ h'.2.2 ≤ w0 + 3072)) (0, .null) (LL i p6 p7 p8) (q_en T, c', w') := fun p6 p7 p8 T c' w' hT hc' hw' => by
        refine r_l0 (r_sinc (L2 := LL (i + 8) p6 p7 p8) rfl rfl ?_)
        refine r_lend (i + 8, n + 1, T, c', w', p6, p7, p8) rfl rfl ?_ (by dsimp only; omega)
        exact ⟨⟨by omega, by omega, by omega⟩, hT, by omega, by omega⟩
      have C : ∀ s, CASE xs Ln s → wS s (LL i o6 o7 o8) (q_en S, c, w) (r_sw (r_lk (q_sInc 5 8) (fun σ : Int × Int × q_Sg × Nat × Nat × Option Value × Option Value × Option Value => match σ with | (i, n, S, c, w, _, _, _) => (0 ≤ i ∧ i = 8 * n ∧ i ≤ Ln) ∧ INV S n ∧ (c : Int) ≤ c0 + n ∧ (w : Int) ≤ w0 + 6 * n) (fun σ => match σ with | (i, _, _, _, _, _, _, _) => ((Ln : Int) - i).toNat) (fun σ => match σ with | (i, _, _, _, _, o6, o7, o8) => LL i o6 o7 o8) (fun σ => match σ with | (_, _, S, c, w, _, _, _) => (q_en S, c, w)) (i, n, S, c, w, o6, o7, o8) (fun o L' h' => o.1 = 0 ∧ h'.2.1 ≤ c0 + 512 ∧ h'.2.2 ≤ w0 + 3072))) := fun s hs =>
        wS.mono (hs S n c w i o6 o7 o8 hI hn hi hL) (r_e9w K)
      refine r_pkc (fun _ => C _ cs_0) (fun _ => ?_)
      refine r_pkc (fun _ => C _ cs_1) (fun _ => ?_)
      refine r_pkc (fun _ => C _ cs_2) (fun _ => ?_)
      refine r_pkc (fun _ => C _ cs_3) (fun _ => ?_)
      refine r_pkc (fun _ => C _ cs_4) (fun _ => ?_)
      refine r_pkc (fun _ => C _ cs_5) (fun _ => ?_)
      refine r_pkc (fun _ => C _ cs_6) (fun _ => ?_)
      refine r_pkc (fun _ => C _ cs_7) (fun _ => ?_)
      refine r_pkc (fun _ => C _ cs_8) (fun _ => ?_)
      refine r_pkc (fun _ => C _ cs_9) (fun _ => ?_)
      refine r_pkc (fun _ => C _ cs_10) (fun _ => ?_)
      refine r_pkc (fun _ => C _ cs_11) (fun _ => ?_)
      refine r_pkc (fun _ => C _ cs_12) (fun _ => ?_)
      refine r_pkc (fun _ => C _ cs_13) (fun _ => ?_)
      refine r_pkc (fun _ => C _ cs_14) (fun _ => ?_)
      refine r_pkc (fun _ => C _ cs_15) (fun _ => ?_)
      refine r_pkc (fun _ => C _ cs_16) (fun _ => ?_)
      refine r_pkc (fun _ => C _ cs_17) (fun _ => ?_)
      refine r_pkc (fun _ => C _ cs_18) (fun _ => ?_)
      refine r_pkc (fun _ => C _ cs_19) (fun _ => ?_)
      refine r_pkc (fun _ => C _ cs_20) (fun _ => ?_)
      refine r_pkc (fun _ => C _ cs_21) (fun _ => ?_)
      refine r_pkc (fun _ => C _ cs_22) (fun _ => ?_)
      refine r_pkc (fun _ => C _ cs_23) (fun _ => ?_)
      refine r_pkc (fun _ => C _ cs_24) (fun _ => ?_)
      refine r_pkc (fun _ => C _ cs_25) (fun _ => ?_)
      refine r_pkc (fun _ => C _ cs_26) (fun _ => ?_)
      refine r_pkc (fun _ => C _ cs_27) (fun _ => ?_)
      refine r_pkc (fun _ => C _ cs_28) (fun _ => ?_)
      refine r_pkc (fun _ => C _ cs_29) (fun _ => ?_)
      refine r_pkc (fun _ => C _ cs_30) (fun _ => ?_)
      refine r_pkc (fun _ => C _ cs_31) (fun _ => ?_)
      refine r_pkc (fun _ => C _ cs_32) (fun _ => ?_)
      refine r_pkc (fun _ => C _ cs_33) (fun _ => ?_)
      refine r_pkc (fun _ => C _ cs_34) (fun _ => ?_)
      refine r_pkn (wS_brk (r_wb (K o6 o7 o8 S c w (INV_m (by omega) hI) ⟨Nat.le_refl _, Nat.le_succ _⟩ ⟨Nat.le_refl _, Nat.le_add_right _ _⟩)))
theorem law_tail {xs : Nat → Int32} {Ln : Nat} (hL : Ln ≤ 4096) {S0 : q_Sg} {c0 w0 : Nat} (hI0 : INV S0 0) : wS (q_sSeq (q_sSeq (q_sLoc 0 5 (q_eLit (.int 0))) (sLP xs Ln)) (q_sRet (q_eLit (.int 1)))) [some (.ref 0), some (.ref 16), some (.ref 47), some (.ref 68), some (.ref 69), none, none, none, none] (q_en S0, c0, w0) (fun o L' h' => o = (4, .int 1) ∧ h'.2.1 ≤ c0 + 512 ∧ h'.2.2 ≤ w0 + 3072) := by
  refine r_seq (r_seq (r_sloc (L2 := LL 0 none none none) (r_lit ql_0) rfl rfl (r_k0 ?_)))
  refine wS.mono (law_loop hL hI0) ?_
  rintro ⟨j, v⟩ L h ⟨hj, hc, hw⟩
  have hj : j = 0 := hj
  subst hj
  exact r_k0 (r_sret (v := .int 1) rfl ⟨rfl, hc, hw⟩)
