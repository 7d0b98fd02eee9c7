/-! the law's print -/
def PRI (l : List qCmd) (th : Int → Int) (S0 : q_Sg) (B : Int) (T : q_Sg) : Prop := r_ok T ∧ r_fr [22, 21, 20, 19, 18, 17, 16, 15, 14, 13] [20] [2, 1] S0 T ∧ RUN l th (mC T) ∧ T.1 13 = 200 ∧ (0 ≤ T.1 17 ∧ T.1 17 < 65536) ∧ T.2.2.1 2 = suml (T.2.1 20) 1728 ∧ ∀ j, 0 ≤ T.2.1 20 j ∧ T.2.1 20 j ≤ B
/-- what is left, in ticks and in passes for pauses -/
noncomputable def FI (l : List qCmd) (T : q_Sg) : Int := Wk l (mC T) + Hh (mC T) + 200 * PP l (mC T)
theorem PRI_pass {l : List qCmd} {th : Int → Int} {S0 T T2 : q_Sg} {B m z : Int} (hO : COK l) (hm : 0 ≤ m) (h : PRI l th S0 B T) (hP : PAS l th m B T T2 z) : PRI l th S0 (B + 30 * m) T2 ∧ z = T2.1 18 - T.1 18 ∧ FI l T2 ≤ FI l T ∧ ((T.1 16 = 114 ∨ T.1 16 = 119) → T2.1 16 = 100 ∨ (T2.1 16 = 112 ∧ FI l T2 + 200 ≤ FI l T) ∨ ((T2.1 16 = 114 ∨ T2.1 16 = 119) ∧ FI l T2 + m ≤ FI l T)) := by
  obtain ⟨h1, h2, h3, h4, h5, h6, h7⟩ := h
  obtain ⟨kz, k1, k2, k3, k4, k5, k6, k7⟩ := hP
  rw [h4] at k3
  obtain ⟨g1, g2, g3, g4, g5⟩ := RUN_k hO m.toNat h3 k3
  rw [Int.toNat_of_nonneg hm] at g4
  refine ⟨⟨k1, r_frm (r_frt h2 k2) (by decide) (by decide) (by decide), g1, (k2.1 13 (by decide)).trans h4, by rw [k2.1 17 (by decide)]; exact h5, by omega, k7⟩, g2, ?_, fun c => ?_⟩
  · unfold FI; omega
  · have g4 : T2.1 16 = 100 ∨ (T2.1 16 = 112 ∧ PP l (mC T2) + 1 ≤ PP l (mC T)) ∨ ((T2.1 16 = 114 ∨ T2.1 16 = 119) ∧ Wk l (mC T2) + Hh (mC T2) + m ≤ Wk l (mC T) + Hh (mC T)) := g4 c
    unfold FI
    rcases g4 with q | ⟨q, q2⟩ | ⟨q, q2⟩
    · exact Or.inl q
    · exact Or.inr (Or.inl ⟨q, by omega⟩)
    · exact Or.inr (Or.inr ⟨q, by omega⟩)
theorem PRI_go {l : List qCmd} {th : Int → Int} {S0 T : q_Sg} {B : Int} (h : PRI l th S0 B T) (h16 : T.1 16 = 112) : PRI l th S0 B (q_sI T 16 114) ∧ FI l (q_sI T 16 114) = FI l T := by
  obtain ⟨h1, h2, ⟨⟨m1, m2, m3, m4, m5, m6, m7⟩, s, d, s119, hl, h205⟩, h4, h5, h6, h7⟩ := h
  refine ⟨⟨r_okI h1 (by omega), r_frm (r_frI h2) (by decide) (by decide) (by decide), ⟨⟨m1, fun _ => m2 (Or.inr (Or.inr h16)), m3, m4, m5, m6, m7⟩, Or.inl rfl, fun e => ?_, fun e => ?_, hl, h205⟩, h4, h5, h6, h7⟩, rfl⟩
  · have e : (114 : Int) = 100 := e
    omega
  · have e : (114 : Int) = 119 := e
    omega
/-- behind the beginning of a print -/
theorem PRI_0 {l : List qCmd} {th : Int → Int} {S : q_Sg} {g : Int → Int} (hS : r_ok S) (hne : 0 < (l.length : Int)) (h14 : S.1 14 = 20) (h15 : 0 ≤ S.1 15 ∧ S.1 15 < 2) (h17 : 0 ≤ S.1 17 ∧ S.1 17 < 65536) (hg : ∀ j, g j = 0) : PRI l th S 0 (q_sJ (q_sA (q_sI (q_sI (q_sI (q_sI (q_sI (q_sI (q_sI S 13 200) 16 114) 22 0) 21 (-1)) 18 0) 19 0) 20 0) 20 g) 2 0) := by
  have e : g = fun _ => 0 := funext hg
  refine ⟨?_, ?_, ⟨⟨?_, ?_, ?_, ?_, ?_, ?_, ?_⟩, Or.inl rfl, fun e => ?_, fun e => ?_, fun j => ?_, ?_⟩, rfl, h17, ?_, fun j => ?_⟩
  · refine r_okJ (r_okA ?_ (fun j => by rw [hg j]; omega))
    repeat' (first | exact hS | refine r_okI ?_ (by omega))
  · exact r_frm (r_frJ (r_frA (r_frI (r_frI (r_frI (r_frI (r_frI (r_frI (r_frI r_fr0))))))))) (by decide) (by decide) (by decide)
  · show 0 ≤ (0 : Int) ∧ (0 : Int) ≤ l.length; omega
  · intro _; exact hne
  · show 0 ≤ (0 : Int); omega
  · exact Or.inl rfl
  · show 0 ≤ (0 : Int) ∧ (0 : Int) ≤ 8; omega
  · show 20 ≤ S.1 14 ∧ S.1 14 ≤ 305; omega
  · exact h15
  · have e : (114 : Int) = 100 := e
    omega
  · have e : (114 : Int) = 119 := e
    omega
  · exact hg j
  · show S.1 14 ≤ 205; omega
  · show (0 : Int) = suml g 1728
    rw [e, suml_0]
  · show 0 ≤ g j ∧ g j ≤ 0
    rw [hg j]; omega
theorem MI_f {l : List qCmd} {T : q_Sg} (h : MI l (mC T)) : MI l (mC (q_sI (q_sI (q_sI (q_sI T 17 (T.1 16)) 16 102) 13 0) 20 0)) :=
  ⟨h.1, fun c => absurd c (by show ¬ PRN 102; decide), h.2.2.1, h.2.2.2.1, ⟨by show (0 : Int) ≤ 0; omega, by show (0 : Int) ≤ 8; omega⟩, h.2.2.2.2.2.1, h.2.2.2.2.2.2⟩
/-- a failure that is mended -/
theorem PRI_f {l : List qCmd} {th : Int → Int} {S0 T T3 : q_Sg} {B z : Int} (h : PRI l th S0 B T) (hs : T.1 16 = 114 ∨ T.1 16 = 119) (hP : PAS l th 3 B (q_sI (q_sI (q_sI (q_sI T 17 (T.1 16)) 16 102) 13 0) 20 0) T3 z) : z = 0 ∧ T3.1 16 = 102 ∧ T3.1 17 = T.1 16 ∧ T3.1 13 = 0 ∧ r_ok T3 ∧ PRI l th S0 (B + 90) (q_sI (q_sI T3 16 (T3.1 17)) 13 200) := by
  obtain ⟨h1, h2, ⟨⟨m1, m2, m3, m4, m5, m6, m7⟩, s, d, s119, hl, h205⟩, h4, h5, h6, h7⟩ := h
  obtain ⟨kz, k1, k2, k3, k4, k5, k6, k7⟩ := hP
  have k3 : TKN l th 0 3 (mC (q_sI (q_sI (q_sI (q_sI T 17 (T.1 16)) 16 102) 13 0) 20 0)) (mC T3) kz z := k3
  obtain ⟨o1, o2, o3, o4, o5, _, o7⟩ := TKN_o 3 (by show ¬ ((102 : Int) = 114 ∨ (102 : Int) = 119); omega) k3
  have ht := TKN_t 3 (show 20 ≤ T.1 14 from m6.1) (show T.1 14 ≤ 205 from h205) k3
  have e17 : T3.1 17 = T.1 16 := k2.1 17 (by decide)
  have e13 : T3.1 13 = 0 := k2.1 13 (by decide)
  have o1 : T3.1 16 = 102 := o1
  have o2 : T3.1 18 = T.1 18 := o2
  have o3 : T3.1 19 = T.1 19 := o3
  have o4 : T3.1 20 = 0 := o4
  have o5 : T3.2.1 20 = T.2.1 20 := o5
  have hPR : PRN (T.1 16) := hs.elim Or.inl (fun e => Or.inr (Or.inl e))
  have h6 : T.2.2.1 2 = suml (T.2.1 20) 1728 := h6
  have k4 : T3.2.2.1 2 - suml (T3.2.1 20) 1728 = T.2.2.1 2 - suml (T.2.1 20) 1728 := k4
  have k7 : ∀ j, 0 ≤ T3.2.1 20 j ∧ T3.2.1 20 j ≤ B + 90 := k7
  have m4 : T.1 19 = 0 ∨ T.1 19 < LEN l (T.1 18) := m4
  have m3 : 0 ≤ T.1 19 := m3
  have hl : ∀ j, T.2.1 20 j = LAD l th (T.1 18).toNat j := hl
  refine ⟨o7, o1, e17, e13, k1, ⟨r_okI (r_okI k1 (by omega)) (by omega), ?_, ⟨⟨?_, ?_, ?_, ?_, ?_, ?_, ?_⟩, ?_, ?_, ?_, ?_, ?_⟩, rfl, ?_, ?_, k7⟩⟩
  · exact r_frm (r_frI (r_frI (r_frt (r_frI (r_frI (r_frI (r_frI h2)))) k2))) (by decide) (by decide) (by decide)
  · show 0 ≤ T3.1 18 ∧ T3.1 18 ≤ l.length
    rw [o2]; exact m1
  · intro _
    show T3.1 18 < l.length
    rw [o2]; exact m2 hPR
  · show 0 ≤ T3.1 19
    rw [o3]; exact m3
  · show T3.1 19 = 0 ∨ T3.1 19 < LEN l (T3.1 18)
    rw [o3, o2]; exact m4
  · show 0 ≤ T3.1 20 ∧ T3.1 20 ≤ 8
    rw [o4]; omega
  · have := k6.2.2.2.2.2.1
    exact this
  · have := k6.2.2.2.2.2.2
    exact this
  · show T3.1 17 = 114 ∨ T3.1 17 = 119 ∨ T3.1 17 = 112 ∨ T3.1 17 = 100
    rw [e17]; exact hs.elim Or.inl (fun e => Or.inr (Or.inl e))
  · intro e
    have e : T3.1 17 = 100 := e
    omega
  · intro _; exact o4
  · intro j
    show T3.2.1 20 j = LAD l th (T3.1 18).toNat j
    rw [o5, o2]; exact hl j
  · exact ht.2
  · show 0 ≤ T3.1 17 ∧ T3.1 17 < 65536
    omega
  · show T3.2.2.1 2 = suml (T3.2.1 20) 1728
    omega
theorem PRI_B {l : List qCmd} {th : Int → Int} {S0 T : q_Sg} {B B2 : Int} (hB : B ≤ B2) (h : PRI l th S0 B T) : PRI l th S0 B2 T := by
  obtain ⟨h1, h2, h3, h4, h5, h6, h7⟩ := h
  exact ⟨h1, h2, h3, h4, h5, h6, fun j => ⟨(h7 j).1, Int.le_trans (h7 j).2 hB⟩⟩
theorem sp_L_prints {S : q_Sg} {c w : Nat} (hS : r_ok S) {l : List qCmd} {th : Int → Int} (hc : CREP S l th) (hO : COK l) (hn : l.length ≤ 6936) (hA : ∀ j, 0 ≤ j → j < 12 → S.2.1 18 j = 10 * th j) (hC : CLK l) (hth : ∀ j, 0 ≤ j → j < 12 → 0 ≤ th j ∧ th j ≤ 3) (hne : ¬ (l.length : Int) = 0) (h16 : S.1 16 = 105) (h17 : 0 ≤ S.1 17 ∧ S.1 17 < 65536) (h13 : S.1 13 = 0) (h14 : S.1 14 = 20) (h15 : 0 ≤ S.1 15 ∧ S.1 15 < 2) (h20 : ∀ j, S.2.1 20 j = 0) (hCS : CST l l.length ≤ 73224) (hNP : NPA l l.length ≤ 12) {xs : Nat → Int32} {Ln : Nat} (hLn : Ln ≤ 260) : r_X (f_L_prints xs Ln) [.ref 16, .ref 0, iv l.length] (q_en S, c, w) (fun v h2 => ∃ T, v = iv 1 ∧ h2 = (q_en T, c, w) ∧ r_ok T ∧ r_fr [22, 21, 20, 19, 18, 17, 16, 15, 14, 13] [20] [2, 1] S T ∧ (∀ j, T.2.1 20 j = LAD l th l.length j) ∧ T.2.2.1 2 = suml (T.2.1 20) 1728) := by
  refine r_Xof (r_run (L := [_, _, _, _, _, _, _]) ⟨rfl, Nat.le_of_ble_eq_true rfl⟩ rfl ?_)
  unfold b_L_prints
  have h9 : S.1 9 = l.length := hc.1
  have hlp : 0 < (l.length : Int) := by omega
  refine r_seq ?_
  have hK_tgt := sx_X9_setTarget (c := c) (w := w) hS (by omega) h17 (v := 200) (by omega) (by omega)
  refine r_slocG (L2 := [_, _, _, _, _, _, _]) (r_callG (r_cons (r_loc rfl rfl) (r_cons (r_lit ql_200) r_nil)) rfl hK_tgt rfl) rfl rfl ?_
  refine r_k0 ?_
  refine r_seq ?_
  obtain ⟨g, hgr, hg, hK_print⟩ := sx_X9_print (c := c) (w := w) (r_okI (k := 13) hS (show rg 200 by omega)) (by show ¬ BSY (S.1 16); rw [h16]; decide) (by show ¬ S.1 9 = 0; omega)
  have hq9 : (q_sI S 13 200).1 9 = S.1 9 := rfl
  have hg0 : ∀ j, g j = 0 := fun j => by
    rw [hg j, show (q_sI S 13 200).2.1 20 j = S.2.1 20 j from rfl, h20 j, r_ii]
  have hI0 := PRI_0 (th := th) hS hlp h14 h15 h17 hg0
  refine r_slocG (L2 := [_, _, _, _, _, _, _]) (r_K1 (r_Dand (r_z_eq (r_loc rfl rfl) (by first | omega | assumption | exact r_zrg _ | exact hS.1 _ | exact hT.1 _ | exact hT_T2.1 _ | exact CEL_r xs Ln (by omega) | exact hgoS.1 _ | exact q5.1 _ | exact q6.1 _)) (by first | omega | assumption | exact r_zrg _ | exact hS.1 _ | exact hT.1 _ | exact hT_T2.1 _ | exact CEL_r xs Ln (by omega) | exact hgoS.1 _ | exact q5.1 _ | exact q6.1 _) (r_Deq (r_callG (r_cons (r_loc rfl rfl) r_nil) rfl hK_print rfl) (r_loc rfl rfl) (by first | omega | assumption | exact r_zrg _ | exact hS.1 _ | exact hT.1 _ | exact hT_T2.1 _ | exact CEL_r xs Ln (by omega) | exact hgoS.1 _ | exact q5.1 _ | exact q6.1 _) (by first | omega | assumption | exact r_zrg _ | exact hS.1 _ | exact hT.1 _ | exact hT_T2.1 _ | exact CEL_r xs Ln (by omega) | exact hgoS.1 _ | exact q5.1 _ | exact q6.1 _))) (by first | omega | assumption | exact r_zrg _ | exact hS.1 _ | exact hT.1 _ | exact hT_T2.1 _ | exact CEL_r xs Ln (by omega) | exact hgoS.1 _ | exact q5.1 _ | exact q6.1 _)) rfl rfl ?_
  refine r_k0 ?_
  refine r_seq ?_
  refine r_seq ?_
  refine r_sloc (L2 := [_, _, _, _, _, _, _]) (r_lit ql_0) rfl rfl ?_
  refine r_k0 ?_
  refine r_loop (T := Int × q_Sg) (fun (σ : Int × q_Sg) => match σ with | (k, T) => (0 ≤ k ∧ k ≤ 60) ∧ PRI l th S (30 * k) T ∧ ¬ T.1 16 = 112) (fun (σ : Int × q_Sg) => match σ with | (k, T) => (60 - k).toNat) (fun (σ : Int × q_Sg) => match σ with | (k, T) => [some (.ref 16), some (.ref 0), some (iv l.length), some (iv (S.1 13)), some (iv 1), some (iv k), none]) (fun (σ : Int × q_Sg) => match σ with | (k, T) => (q_en T, c, w)) (0, (q_sJ (q_sA (q_sI (q_sI (q_sI (q_sI (q_sI (q_sI (q_sI S 13 200) 16 114) 22 0) 21 (-1)) 18 0) 19 0) 20 0) 20 g) 2 0)) rfl rfl ?_ ?_ ?_
  · exact ⟨by omega, by rw [Int.mul_zero]; exact hI0, by show ¬ (114 : Int) = 112; omega⟩
  · (show _ < 1000000); first | omega | (dsimp only; omega)
  · rintro ⟨k, T⟩ hP
    try dsimp only at hP ⊢
    obtain ⟨hk, hI, hn112⟩ := hP
    obtain ⟨hT, hfT, hRT, h13T, h17T, hsT, hBT⟩ := id hI
    have hcT := CREP_f hfT (by decide) (by decide) (by decide) (by decide) hc
    have hAT : ∀ j, 0 ≤ j → j < 12 → T.2.1 18 j = 10 * th j := by rw [hfT.2.1 18 (by decide)]; exact hA
    have h9T : T.1 9 = l.length := hcT.1
    have r18 : 0 ≤ T.1 18 ∧ T.1 18 ≤ l.length := hRT.1.1
    have r20 : 0 ≤ T.1 20 ∧ T.1 20 ≤ 8 := hRT.1.2.2.2.2.1
    have r16 : T.1 16 = 114 ∨ T.1 16 = 119 ∨ T.1 16 = 112 ∨ T.1 16 = 100 := hRT.2.1
    have r100 : T.1 16 = 100 → T.1 18 = l.length ∧ T.1 19 = 0 ∧ T.1 20 = 0 := hRT.2.2.1
    refine ⟨_, (r_and (r_and (r_lt (r_loc rfl rfl) (r_lit ql_60) (by first | omega | assumption | exact r_zrg _ | exact hS.1 _ | exact hT.1 _ | exact hT_T2.1 _ | exact CEL_r xs Ln (by omega) | exact hgoS.1 _ | exact q5.1 _ | exact q6.1 _) (by first | omega | assumption | exact r_zrg _ | exact hS.1 _ | exact hT.1 _ | exact hT_T2.1 _ | exact CEL_r xs Ln (by omega) | exact hgoS.1 _ | exact q5.1 _ | exact q6.1 _)) (fun hp3 => (r_z_ne (r_loc rfl rfl) (by first | omega | assumption | exact r_zrg _ | exact hS.1 _ | exact hT.1 _ | exact hT_T2.1 _ | exact CEL_r xs Ln (by omega) | exact hgoS.1 _ | exact q5.1 _ | exact q6.1 _)))) (fun hp4 => (r_ne (r_call (r_cons (r_loc rfl rfl) r_nil) rfl (sp_X9_state (by first | omega | assumption | exact r_zrg _ | exact hS.1 _ | exact hT.1 _ | exact hT_T2.1 _ | exact CEL_r xs Ln (by omega) | exact hgoS.1 _ | exact q5.1 _ | exact q6.1 _) (by first | omega | assumption | exact r_zrg _ | exact hS.1 _ | exact hT.1 _ | exact hT_T2.1 _ | exact CEL_r xs Ln (by omega) | exact hgoS.1 _ | exact q5.1 _ | exact q6.1 _) (by first | omega | assumption | exact r_zrg _ | exact hS.1 _ | exact hT.1 _ | exact hT_T2.1 _ | exact CEL_r xs Ln (by omega) | exact hgoS.1 _ | exact q5.1 _ | exact q6.1 _)) rfl) (r_lit ql_100) (by first | omega | assumption | exact r_zrg _ | exact hS.1 _ | exact hT.1 _ | exact hT_T2.1 _ | exact CEL_r xs Ln (by omega) | exact hgoS.1 _ | exact q5.1 _ | exact q6.1 _) (by first | omega | assumption | exact r_zrg _ | exact hS.1 _ | exact hT.1 _ | exact hT_T2.1 _ | exact CEL_r xs Ln (by omega) | exact hgoS.1 _ | exact q5.1 _ | exact q6.1 _)))), fun hp1 => ?_, fun hp2 => ?_⟩
    ·
      refine r_k0 ?_
      refine r_seq ?_
      refine r_sif (r_and (r_and (r_z_ne (r_loc rfl rfl) (by first | omega | assumption | exact r_zrg _ | exact hS.1 _ | exact hT.1 _ | exact hT_T2.1 _ | exact CEL_r xs Ln (by omega) | exact hgoS.1 _ | exact q5.1 _ | exact q6.1 _)) (fun hp5 => (r_ne (r_call (r_cons (r_loc rfl rfl) r_nil) rfl (sp_X9_state (by first | omega | assumption | exact r_zrg _ | exact hS.1 _ | exact hT.1 _ | exact hT_T2.1 _ | exact CEL_r xs Ln (by omega) | exact hgoS.1 _ | exact q5.1 _ | exact q6.1 _) (by first | omega | assumption | exact r_zrg _ | exact hS.1 _ | exact hT.1 _ | exact hT_T2.1 _ | exact CEL_r xs Ln (by omega) | exact hgoS.1 _ | exact q5.1 _ | exact q6.1 _) (by first | omega | assumption | exact r_zrg _ | exact hS.1 _ | exact hT.1 _ | exact hT_T2.1 _ | exact CEL_r xs Ln (by omega) | exact hgoS.1 _ | exact q5.1 _ | exact q6.1 _)) rfl) (r_lit ql_100) (by first | omega | assumption | exact r_zrg _ | exact hS.1 _ | exact hT.1 _ | exact hT_T2.1 _ | exact CEL_r xs Ln (by omega) | exact hgoS.1 _ | exact q5.1 _ | exact q6.1 _) (by first | omega | assumption | exact r_zrg _ | exact hS.1 _ | exact hT.1 _ | exact hT_T2.1 _ | exact CEL_r xs Ln (by omega) | exact hgoS.1 _ | exact q5.1 _ | exact q6.1 _)))) (fun hp6 => (r_z_eq (r_call (r_cons (r_call (r_cons (r_loc rfl rfl) (r_cons (r_lit ql_30) r_nil)) rfl (sp_L_cell (by first | omega | assumption | exact r_zrg _ | exact hS.1 _ | exact hT.1 _ | exact hT_T2.1 _ | exact CEL_r xs Ln (by omega) | exact hgoS.1 _ | exact q5.1 _ | exact q6.1 _) (by first | omega | assumption | exact r_zrg _ | exact hS.1 _ | exact hT.1 _ | exact hT_T2.1 _ | exact CEL_r xs Ln (by omega) | exact hgoS.1 _ | exact q5.1 _ | exact q6.1 _)) rfl) (r_cons (r_lit ql_2) r_nil)) rfl (sp_L_low (by first | omega | assumption | exact r_zrg _ | exact hS.1 _ | exact hT.1 _ | exact hT_T2.1 _ | exact CEL_r xs Ln (by omega) | exact hgoS.1 _ | exact q5.1 _ | exact q6.1 _) (by first | omega | assumption | exact r_zrg _ | exact hS.1 _ | exact hT.1 _ | exact hT_T2.1 _ | exact CEL_r xs Ln (by omega) | exact hgoS.1 _ | exact q5.1 _ | exact q6.1 _)) rfl) (by first | omega | assumption | exact r_zrg _ | exact hS.1 _ | exact hT.1 _ | exact hT_T2.1 _ | exact CEL_r xs Ln (by omega) | exact hgoS.1 _ | exact q5.1 _ | exact q6.1 _)))) (fun hp7 => ?_) (fun hp8 => ?_)
      ·
        have hpT := hp7
        have hpT1 := hp7
        refine r_seq ?_
        have hst : T.1 16 = 114 ∨ T.1 16 = 119 := by omega
        have hK_fail := sx_X9_fail (c := c) (w := w) hT (by omega) h17T (by omega)
        refine r_slocG (L2 := [_, _, _, _, _, _, _]) (r_callG (r_cons (r_loc rfl rfl) r_nil) rfl hK_fail rfl) rfl rfl ?_
        refine r_k0 ?_
        have hT2f : r_ok (q_sI (q_sI (q_sI (q_sI T 17 (T.1 16)) 16 102) 13 0) 20 0) := r_okI (r_okI (r_okI (r_okI hT (by omega)) (by omega)) (by omega)) (by omega)
        obtain ⟨z3, T3, hK_pass, hz3, hP3⟩ := sx_X9_pass (c := c) (w := w) hT2f (CREP_f (r_frI (k := 20) (r_frI (k := 13) (r_frI (k := 16) (r_frI (k := 17) r_fr0)))) (by decide) (by decide) (by decide) (by decide) hcT) hO hn hAT hC hth (by show 0 ≤ (0 : Int) ∧ (0 : Int) ≤ 300; omega) (MI_f hRT.1) hBT (by omega) (m := 3) (by omega)
        obtain ⟨q1, q2, q3, q4, q5, hI5⟩ := PRI_f hI hst hP3
        have hK_mend := sx_X9_mend (c := c) (w := w) q5 q2 (by omega)
        have q6 : r_ok (q_sI T3 16 (T3.1 17)) := r_okI q5 (q5.1 17)
        have hK_tgt := sx_X9_setTarget (c := c) (w := w) q6 (by show 0 ≤ T3.1 17 ∧ T3.1 17 < 65536; omega) (by show 0 ≤ T3.1 17 ∧ T3.1 17 < 65536; omega) (v := 200) (by omega) (by show ¬ T3.1 17 = 102; omega)
        have q7 : (q_sI T3 16 (T3.1 17)).1 13 = 0 := q4
        have q8 : (q_sI T3 16 (T3.1 17)).1 16 = T.1 16 := q3
        have q9 : (q_sI T3 16 (T3.1 17)).1 17 = T3.1 17 := rfl
        refine r_slocG (L2 := [_, _, _, _, _, _, _]) (r_K1 (r_Dand (r_Dand (r_Dand (r_Dand (r_Dze (r_callG (r_cons (r_loc rfl rfl) (r_cons (r_lit ql_3) r_nil)) rfl hK_pass rfl) (by first | omega | assumption | exact r_zrg _ | exact hS.1 _ | exact hT.1 _ | exact hT_T2.1 _ | exact CEL_r xs Ln (by omega) | exact hgoS.1 _ | exact q5.1 _ | exact q6.1 _)) (by first | omega | assumption | exact r_zrg _ | exact hS.1 _ | exact hT.1 _ | exact hT_T2.1 _ | exact CEL_r xs Ln (by omega) | exact hgoS.1 _ | exact q5.1 _ | exact q6.1 _) (r_eq (r_call (r_cons (r_loc rfl rfl) r_nil) rfl (sp_X9_state (by first | omega | assumption | exact r_zrg _ | exact hS.1 _ | exact hT.1 _ | exact hT_T2.1 _ | exact CEL_r xs Ln (by omega) | exact hgoS.1 _ | exact q5.1 _ | exact q6.1 _) (by first | omega | assumption | exact r_zrg _ | exact hS.1 _ | exact hT.1 _ | exact hT_T2.1 _ | exact CEL_r xs Ln (by omega) | exact hgoS.1 _ | exact q5.1 _ | exact q6.1 _) (by first | omega | assumption | exact r_zrg _ | exact hS.1 _ | exact hT.1 _ | exact hT_T2.1 _ | exact CEL_r xs Ln (by omega) | exact hgoS.1 _ | exact q5.1 _ | exact q6.1 _)) rfl) (r_lit ql_102) (by first | omega | assumption | exact r_zrg _ | exact hS.1 _ | exact hT.1 _ | exact hT_T2.1 _ | exact CEL_r xs Ln (by omega) | exact hgoS.1 _ | exact q5.1 _ | exact q6.1 _) (by first | omega | assumption | exact r_zrg _ | exact hS.1 _ | exact hT.1 _ | exact hT_T2.1 _ | exact CEL_r xs Ln (by omega) | exact hgoS.1 _ | exact q5.1 _ | exact q6.1 _))) (by first | omega | assumption | exact r_zrg _ | exact hS.1 _ | exact hT.1 _ | exact hT_T2.1 _ | exact CEL_r xs Ln (by omega) | exact hgoS.1 _ | exact q5.1 _ | exact q6.1 _) (r_Deq (r_callG (r_cons (r_loc rfl rfl) r_nil) rfl hK_mend rfl) (r_loc rfl rfl) (by first | omega | assumption | exact r_zrg _ | exact hS.1 _ | exact hT.1 _ | exact hT_T2.1 _ | exact CEL_r xs Ln (by omega) | exact hgoS.1 _ | exact q5.1 _ | exact q6.1 _) (by first | omega | assumption | exact r_zrg _ | exact hS.1 _ | exact hT.1 _ | exact hT_T2.1 _ | exact CEL_r xs Ln (by omega) | exact hgoS.1 _ | exact q5.1 _ | exact q6.1 _))) (by first | omega | assumption | exact r_zrg _ | exact hS.1 _ | exact hT.1 _ | exact hT_T2.1 _ | exact CEL_r xs Ln (by omega) | exact hgoS.1 _ | exact q5.1 _ | exact q6.1 _) (r_eq (r_call (r_cons (r_loc rfl rfl) r_nil) rfl (sp_X9_state (by first | omega | assumption | exact r_zrg _ | exact hS.1 _ | exact hT.1 _ | exact hT_T2.1 _ | exact CEL_r xs Ln (by omega) | exact hgoS.1 _ | exact q5.1 _ | exact q6.1 _) (by first | omega | assumption | exact r_zrg _ | exact hS.1 _ | exact hT.1 _ | exact hT_T2.1 _ | exact CEL_r xs Ln (by omega) | exact hgoS.1 _ | exact q5.1 _ | exact q6.1 _) (by first | omega | assumption | exact r_zrg _ | exact hS.1 _ | exact hT.1 _ | exact hT_T2.1 _ | exact CEL_r xs Ln (by omega) | exact hgoS.1 _ | exact q5.1 _ | exact q6.1 _)) rfl) (r_loc rfl rfl) (by first | omega | assumption | exact r_zrg _ | exact hS.1 _ | exact hT.1 _ | exact hT_T2.1 _ | exact CEL_r xs Ln (by omega) | exact hgoS.1 _ | exact q5.1 _ | exact q6.1 _) (by first | omega | assumption | exact r_zrg _ | exact hS.1 _ | exact hT.1 _ | exact hT_T2.1 _ | exact CEL_r xs Ln (by omega) | exact hgoS.1 _ | exact q5.1 _ | exact q6.1 _))) (by first | omega | assumption | exact r_zrg _ | exact hS.1 _ | exact hT.1 _ | exact hT_T2.1 _ | exact CEL_r xs Ln (by omega) | exact hgoS.1 _ | exact q5.1 _ | exact q6.1 _) (r_Dze (r_callG (r_cons (r_loc rfl rfl) (r_cons (r_lit ql_200) r_nil)) rfl hK_tgt rfl) (by first | omega | assumption | exact r_zrg _ | exact hS.1 _ | exact hT.1 _ | exact hT_T2.1 _ | exact CEL_r xs Ln (by omega) | exact hgoS.1 _ | exact q5.1 _ | exact q6.1 _))) (by first | omega | assumption | exact r_zrg _ | exact hS.1 _ | exact hT.1 _ | exact hT_T2.1 _ | exact CEL_r xs Ln (by omega) | exact hgoS.1 _ | exact q5.1 _ | exact q6.1 _)) rfl rfl ?_
        refine r_k0 ?_
        refine r_seq ?_
        refine r_seq ?_
        refine r_sloc (L2 := [_, _, _, _, _, _, _]) (r_lit ql_0) rfl rfl ?_
        refine r_k0 ?_
        obtain ⟨TS, hTS, hIS, hN1, hN2⟩ : ∃ TS, (q_sI (q_sI T3 16 (T3.1 17)) 13 200) = TS ∧ PRI l th S 2000 TS ∧ ¬ TS.1 16 = 112 ∧ (TS.1 16 = 100 ∨ FI l TS + 200 * 0 ≤ 75794) := by
          refine ⟨_, rfl, PRI_B (by omega) hI5, ?_, Or.inr ?_⟩
          · show ¬ T3.1 17 = 112
            omega
          · have hn2 := RUN_n hO hI5.2.2.1
            unfold FI; omega
        refine r_loop (T := Int × q_Sg × Option Value) (fun (σ : Int × q_Sg × Option Value) => match σ with | (k, T, o6) => (0 ≤ k ∧ k ≤ 400) ∧ PRI l th S (2000 + 6000 * k) T ∧ ¬ T.1 16 = 112 ∧ (T.1 16 = 100 ∨ FI l T + 200 * k ≤ 75794)) (fun (σ : Int × q_Sg × Option Value) => match σ with | (k, T, o6) => (400 - k).toNat) (fun (σ : Int × q_Sg × Option Value) => match σ with | (k, T, o6) => [some (.ref 16), some (.ref 0), some (iv l.length), some (iv (S.1 13)), some (iv 1), some (iv k), o6]) (fun (σ : Int × q_Sg × Option Value) => match σ with | (k, T, o6) => (q_en T, c, w)) (0, TS, none) rfl (by dsimp only; rw [hTS]) ?_ ?_ ?_
        · exact ⟨by omega, by rw [Int.mul_zero]; exact hIS, hN1, hN2⟩
        · (show _ < 1000000); first | omega | (dsimp only; omega)
        · rintro ⟨k, T, o6⟩ hP
          try dsimp only at hP ⊢
          obtain ⟨hk, hI, hn112, hE⟩ := hP
          obtain ⟨hT, hfT, hRT, h13T, h17T, hsT, hBT⟩ := id hI
          have hcT := CREP_f hfT (by decide) (by decide) (by decide) (by decide) hc
          have hAT : ∀ j, 0 ≤ j → j < 12 → T.2.1 18 j = 10 * th j := by rw [hfT.2.1 18 (by decide)]; exact hA
          have h9T : T.1 9 = l.length := hcT.1
          have r18 : 0 ≤ T.1 18 ∧ T.1 18 ≤ l.length := hRT.1.1
          have r20 : 0 ≤ T.1 20 ∧ T.1 20 ≤ 8 := hRT.1.2.2.2.2.1
          have r16 : T.1 16 = 114 ∨ T.1 16 = 119 ∨ T.1 16 = 112 ∨ T.1 16 = 100 := hRT.2.1
          have r100 : T.1 16 = 100 → T.1 18 = l.length ∧ T.1 19 = 0 ∧ T.1 20 = 0 := hRT.2.2.1
          refine ⟨_, (r_and (r_and (r_lt (r_loc rfl rfl) (r_lit ql_400) (by first | omega | assumption | exact r_zrg _ | exact hS.1 _ | exact hT.1 _ | exact hT_T2.1 _ | exact CEL_r xs Ln (by omega) | exact hgoS.1 _ | exact q5.1 _ | exact q6.1 _) (by first | omega | assumption | exact r_zrg _ | exact hS.1 _ | exact hT.1 _ | exact hT_T2.1 _ | exact CEL_r xs Ln (by omega) | exact hgoS.1 _ | exact q5.1 _ | exact q6.1 _)) (fun hp11 => (r_z_ne (r_loc rfl rfl) (by first | omega | assumption | exact r_zrg _ | exact hS.1 _ | exact hT.1 _ | exact hT_T2.1 _ | exact CEL_r xs Ln (by omega) | exact hgoS.1 _ | exact q5.1 _ | exact q6.1 _)))) (fun hp12 => (r_ne (r_call (r_cons (r_loc rfl rfl) r_nil) rfl (sp_X9_state (by first | omega | assumption | exact r_zrg _ | exact hS.1 _ | exact hT.1 _ | exact hT_T2.1 _ | exact CEL_r xs Ln (by omega) | exact hgoS.1 _ | exact q5.1 _ | exact q6.1 _) (by first | omega | assumption | exact r_zrg _ | exact hS.1 _ | exact hT.1 _ | exact hT_T2.1 _ | exact CEL_r xs Ln (by omega) | exact hgoS.1 _ | exact q5.1 _ | exact q6.1 _) (by first | omega | assumption | exact r_zrg _ | exact hS.1 _ | exact hT.1 _ | exact hT_T2.1 _ | exact CEL_r xs Ln (by omega) | exact hgoS.1 _ | exact q5.1 _ | exact q6.1 _)) rfl) (r_lit ql_100) (by first | omega | assumption | exact r_zrg _ | exact hS.1 _ | exact hT.1 _ | exact hT_T2.1 _ | exact CEL_r xs Ln (by omega) | exact hgoS.1 _ | exact q5.1 _ | exact q6.1 _) (by first | omega | assumption | exact r_zrg _ | exact hS.1 _ | exact hT.1 _ | exact hT_T2.1 _ | exact CEL_r xs Ln (by omega) | exact hgoS.1 _ | exact q5.1 _ | exact q6.1 _)))), fun hp9 => ?_, fun hp10 => ?_⟩
          ·
            have hx := hp9
            have hn2 := RUN_n hO hRT
            have hFI : 0 ≤ FI l T := by unfold FI; omega
            have h100 : T.1 16 = 100 := by omega
            obtain ⟨e18, e19, e20⟩ := r100 h100
            have elen : (T.1 18).toNat = l.length := by omega
            have hlad : ∀ j, T.2.1 20 j = LAD l th l.length j := fun j => by
              rw [← elen]; exact hRT.2.2.2.2.1 j
            refine r_k0 ?_
            refine r_sret (r_if10 (r_and (r_and (r_and (r_z_ne (r_loc rfl rfl) (by first | omega | assumption | exact r_zrg _ | exact hS.1 _ | exact hT.1 _ | exact hT_T2.1 _ | exact CEL_r xs Ln (by omega) | exact hgoS.1 _ | exact q5.1 _ | exact q6.1 _)) (fun hp13 => (r_eq (r_call (r_cons (r_loc rfl rfl) r_nil) rfl (sp_X9_state (by first | omega | assumption | exact r_zrg _ | exact hS.1 _ | exact hT.1 _ | exact hT_T2.1 _ | exact CEL_r xs Ln (by omega) | exact hgoS.1 _ | exact q5.1 _ | exact q6.1 _) (by first | omega | assumption | exact r_zrg _ | exact hS.1 _ | exact hT.1 _ | exact hT_T2.1 _ | exact CEL_r xs Ln (by omega) | exact hgoS.1 _ | exact q5.1 _ | exact q6.1 _) (by first | omega | assumption | exact r_zrg _ | exact hS.1 _ | exact hT.1 _ | exact hT_T2.1 _ | exact CEL_r xs Ln (by omega) | exact hgoS.1 _ | exact q5.1 _ | exact q6.1 _)) rfl) (r_lit ql_100) (by first | omega | assumption | exact r_zrg _ | exact hS.1 _ | exact hT.1 _ | exact hT_T2.1 _ | exact CEL_r xs Ln (by omega) | exact hgoS.1 _ | exact q5.1 _ | exact q6.1 _) (by first | omega | assumption | exact r_zrg _ | exact hS.1 _ | exact hT.1 _ | exact hT_T2.1 _ | exact CEL_r xs Ln (by omega) | exact hgoS.1 _ | exact q5.1 _ | exact q6.1 _)))) (fun hp14 => (r_eq (r_call (r_cons (r_loc rfl rfl) r_nil) rfl (sp_X9_next (by first | omega | assumption | exact r_zrg _ | exact hS.1 _ | exact hT.1 _ | exact hT_T2.1 _ | exact CEL_r xs Ln (by omega) | exact hgoS.1 _ | exact q5.1 _ | exact q6.1 _)) rfl) (r_loc rfl rfl) (by first | omega | assumption | exact r_zrg _ | exact hS.1 _ | exact hT.1 _ | exact hT_T2.1 _ | exact CEL_r xs Ln (by omega) | exact hgoS.1 _ | exact q5.1 _ | exact q6.1 _) (by first | omega | assumption | exact r_zrg _ | exact hS.1 _ | exact hT.1 _ | exact hT_T2.1 _ | exact CEL_r xs Ln (by omega) | exact hgoS.1 _ | exact q5.1 _ | exact q6.1 _)))) (fun hp15 => (r_z_eq (r_call (r_cons (r_loc rfl rfl) r_nil) rfl (sp_X9_speed (by first | omega | assumption | exact r_zrg _ | exact hS.1 _ | exact hT.1 _ | exact hT_T2.1 _ | exact CEL_r xs Ln (by omega) | exact hgoS.1 _ | exact q5.1 _ | exact q6.1 _)) rfl) (by first | omega | assumption | exact r_zrg _ | exact hS.1 _ | exact hT.1 _ | exact hT_T2.1 _ | exact CEL_r xs Ln (by omega) | exact hgoS.1 _ | exact q5.1 _ | exact q6.1 _))))) ?_
            refine r_pret (r_fitb _) r_le0 ?_
            exact ⟨_, rfl, T, r_bone ⟨⟨⟨by decide, h100⟩, e18⟩, e20⟩, rfl, hT, hfT, hlad, hsT⟩
          ·
            have hx := hp10
            refine r_seq ?_
            refine r_sloc (L2 := [_, _, _, _, _, _, _]) (r_call (r_cons (r_loc rfl rfl) r_nil) rfl (sp_X9_next (by first | omega | assumption | exact r_zrg _ | exact hS.1 _ | exact hT.1 _ | exact hT_T2.1 _ | exact CEL_r xs Ln (by omega) | exact hgoS.1 _ | exact q5.1 _ | exact q6.1 _)) rfl) rfl rfl ?_
            refine r_k0 ?_
            refine r_seq ?_
            have hst : T.1 16 = 114 ∨ T.1 16 = 119 := by omega
            obtain ⟨z2, T2, hK_pass, hz2r, hP2⟩ := sx_X9_pass (c := c) (w := w) hT hcT hO hn hAT hC hth (by omega) hRT.1 hBT (by omega) (m := 200) (by omega)
            obtain ⟨hI2, hz2, hF2, hF3⟩ := PRI_pass hO (by omega) hI hP2
            have hF4 := hF3 hst
            obtain ⟨hT_T2, hfT_T2, hRT_T2, h13T_T2, h17T_T2, hsT_T2, hBT_T2⟩ := id hI2
            have hcT_T2 := CREP_f hfT_T2 (by decide) (by decide) (by decide) (by decide) hc
            have hAT_T2 : ∀ j, 0 ≤ j → j < 12 → T2.2.1 18 j = 10 * th j := by rw [hfT_T2.2.1 18 (by decide)]; exact hA
            have h9T_T2 : T2.1 9 = l.length := hcT_T2.1
            have r18_T2 : 0 ≤ T2.1 18 ∧ T2.1 18 ≤ l.length := hRT_T2.1.1
            have r20_T2 : 0 ≤ T2.1 20 ∧ T2.1 20 ≤ 8 := hRT_T2.1.2.2.2.2.1
            have r16_T2 : T2.1 16 = 114 ∨ T2.1 16 = 119 ∨ T2.1 16 = 112 ∨ T2.1 16 = 100 := hRT_T2.2.1
            have r100_T2 : T2.1 16 = 100 → T2.1 18 = l.length ∧ T2.1 19 = 0 ∧ T2.1 20 = 0 := hRT_T2.2.2.1
            refine r_slocG (L2 := [_, _, _, _, _, _, _]) (r_K1 (r_Deq (r_callG (r_cons (r_loc rfl rfl) (r_cons (r_lit ql_200) r_nil)) rfl hK_pass rfl) (r_sub (r_call (r_cons (r_loc rfl rfl) r_nil) rfl (sp_X9_next (by first | omega | assumption | exact r_zrg _ | exact hS.1 _ | exact hT.1 _ | exact hT_T2.1 _ | exact CEL_r xs Ln (by omega) | exact hgoS.1 _ | exact q5.1 _ | exact q6.1 _)) rfl) (r_loc rfl rfl)) (by first | omega | assumption | exact r_zrg _ | exact hS.1 _ | exact hT.1 _ | exact hT_T2.1 _ | exact CEL_r xs Ln (by omega) | exact hgoS.1 _ | exact q5.1 _ | exact q6.1 _) (by first | omega | assumption | exact r_zrg _ | exact hS.1 _ | exact hT.1 _ | exact hT_T2.1 _ | exact CEL_r xs Ln (by omega) | exact hgoS.1 _ | exact q5.1 _ | exact q6.1 _)) (by first | omega | assumption | exact r_zrg _ | exact hS.1 _ | exact hT.1 _ | exact hT_T2.1 _ | exact CEL_r xs Ln (by omega) | exact hgoS.1 _ | exact q5.1 _ | exact q6.1 _)) rfl rfl ?_
            refine r_k0 ?_
            refine r_sif (r_eq (r_call (r_cons (r_loc rfl rfl) r_nil) rfl (sp_X9_state (by first | omega | assumption | exact r_zrg _ | exact hS.1 _ | exact hT.1 _ | exact hT_T2.1 _ | exact CEL_r xs Ln (by omega) | exact hgoS.1 _ | exact q5.1 _ | exact q6.1 _) (by first | omega | assumption | exact r_zrg _ | exact hS.1 _ | exact hT.1 _ | exact hT_T2.1 _ | exact CEL_r xs Ln (by omega) | exact hgoS.1 _ | exact q5.1 _ | exact q6.1 _) (by first | omega | assumption | exact r_zrg _ | exact hS.1 _ | exact hT.1 _ | exact hT_T2.1 _ | exact CEL_r xs Ln (by omega) | exact hgoS.1 _ | exact q5.1 _ | exact q6.1 _)) rfl) (r_lit ql_112) (by first | omega | assumption | exact r_zrg _ | exact hS.1 _ | exact hT.1 _ | exact hT_T2.1 _ | exact CEL_r xs Ln (by omega) | exact hgoS.1 _ | exact q5.1 _ | exact q6.1 _) (by first | omega | assumption | exact r_zrg _ | exact hS.1 _ | exact hT.1 _ | exact hT_T2.1 _ | exact CEL_r xs Ln (by omega) | exact hgoS.1 _ | exact q5.1 _ | exact q6.1 _)) (fun hp16 => ?_) (fun hp17 => ?_)
            ·
              have hpT := hp16
              have hpT0 := hp16
              have hq16 : T2.1 16 = 112 := hpT0
              have hK_goOn := sx_X9_goOn (c := c) (w := w) hT_T2 hq16 h17T_T2 (by omega) (by omega)
              have hgo := PRI_go hI2 hq16
              have hgoS : r_ok (q_sI T2 16 114) := hgo.1.1
              have hg18 : (q_sI T2 16 114).1 18 = T2.1 18 := rfl
              refine r_slocG (L2 := [_, _, _, _, _, _, _]) (r_K1 (r_Dand (r_z_ne (r_loc rfl rfl) (by first | omega | assumption | exact r_zrg _ | exact hS.1 _ | exact hT.1 _ | exact hT_T2.1 _ | exact CEL_r xs Ln (by omega) | exact hgoS.1 _ | exact q5.1 _ | exact q6.1 _)) (by first | omega | assumption | exact r_zrg _ | exact hS.1 _ | exact hT.1 _ | exact hT_T2.1 _ | exact CEL_r xs Ln (by omega) | exact hgoS.1 _ | exact q5.1 _ | exact q6.1 _) (r_Deq (r_callG (r_cons (r_loc rfl rfl) r_nil) rfl hK_goOn rfl) (r_sub (r_loc rfl rfl) (r_call (r_cons (r_loc rfl rfl) r_nil) rfl (sp_X9_next (by first | omega | assumption | exact r_zrg _ | exact hS.1 _ | exact hT.1 _ | exact hT_T2.1 _ | exact CEL_r xs Ln (by omega) | exact hgoS.1 _ | exact q5.1 _ | exact q6.1 _)) rfl)) (by first | omega | assumption | exact r_zrg _ | exact hS.1 _ | exact hT.1 _ | exact hT_T2.1 _ | exact CEL_r xs Ln (by omega) | exact hgoS.1 _ | exact q5.1 _ | exact q6.1 _) (by first | omega | assumption | exact r_zrg _ | exact hS.1 _ | exact hT.1 _ | exact hT_T2.1 _ | exact CEL_r xs Ln (by omega) | exact hgoS.1 _ | exact q5.1 _ | exact q6.1 _))) (by first | omega | assumption | exact r_zrg _ | exact hS.1 _ | exact hT.1 _ | exact hT_T2.1 _ | exact CEL_r xs Ln (by omega) | exact hgoS.1 _ | exact q5.1 _ | exact q6.1 _)) rfl rfl ?_
              refine r_l0 ?_
              refine r_sinc (L2 := [_, _, _, _, _, _, _]) rfl rfl ?_
              refine r_lend (k + 1, q_sI T2 16 114, some (iv (T.1 18))) rfl rfl ?_ (by first | omega | (dsimp only; omega))
              try dsimp only
              refine ⟨by omega, by rw [show (2000 : Int) + 6000 * (k + 1) = 2000 + 6000 * k + 30 * 200 by omega]; exact hgo.1, by show ¬ (114 : Int) = 112; omega, Or.inr ?_⟩
              rw [hgo.2]; omega
            ·
              have hpF := hp17
              have hpF0 := hp17
              refine wS_skip ?_
              refine r_l0 ?_
              refine r_sinc (L2 := [_, _, _, _, _, _, _]) rfl rfl ?_
              refine r_lend (k + 1, T2, some (iv (T.1 18))) rfl rfl ?_ (by first | omega | (dsimp only; omega))
              try dsimp only
              refine ⟨by omega, by rw [show (2000 : Int) + 6000 * (k + 1) = 2000 + 6000 * k + 30 * 200 by omega]; exact hI2, hpF0, ?_⟩
              omega
      ·
        have hpF := hp8
        have hpF1 := hp8
        refine wS_skip ?_
        refine r_k0 ?_
        refine r_seq ?_
        refine r_seq ?_
        refine r_sloc (L2 := [_, _, _, _, _, _, _]) (r_lit ql_0) rfl rfl ?_
        refine r_k0 ?_
        obtain ⟨TS, hTS, hIS, hN1, hN2⟩ : ∃ TS, T = TS ∧ PRI l th S 2000 TS ∧ ¬ TS.1 16 = 112 ∧ (TS.1 16 = 100 ∨ FI l TS + 200 * 0 ≤ 75794) := by
          refine ⟨_, rfl, PRI_B (by omega) hI, hn112, Or.inr ?_⟩
          have hn2 := RUN_n hO hRT
          unfold FI; omega
        refine r_loop (T := Int × q_Sg × Option Value) (fun (σ : Int × q_Sg × Option Value) => match σ with | (k, T, o6) => (0 ≤ k ∧ k ≤ 400) ∧ PRI l th S (2000 + 6000 * k) T ∧ ¬ T.1 16 = 112 ∧ (T.1 16 = 100 ∨ FI l T + 200 * k ≤ 75794)) (fun (σ : Int × q_Sg × Option Value) => match σ with | (k, T, o6) => (400 - k).toNat) (fun (σ : Int × q_Sg × Option Value) => match σ with | (k, T, o6) => [some (.ref 16), some (.ref 0), some (iv l.length), some (iv (S.1 13)), some (iv 1), some (iv k), o6]) (fun (σ : Int × q_Sg × Option Value) => match σ with | (k, T, o6) => (q_en T, c, w)) (0, TS, none) rfl (by dsimp only; rw [hTS]) ?_ ?_ ?_
        · exact ⟨by omega, by rw [Int.mul_zero]; exact hIS, hN1, hN2⟩
        · (show _ < 1000000); first | omega | (dsimp only; omega)
        · rintro ⟨k, T, o6⟩ hP
          try dsimp only at hP ⊢
          obtain ⟨hk, hI, hn112, hE⟩ := hP
          obtain ⟨hT, hfT, hRT, h13T, h17T, hsT, hBT⟩ := id hI
          have hcT := CREP_f hfT (by decide) (by decide) (by decide) (by decide) hc
          have hAT : ∀ j, 0 ≤ j → j < 12 → T.2.1 18 j = 10 * th j := by rw [hfT.2.1 18 (by decide)]; exact hA
          have h9T : T.1 9 = l.length := hcT.1
          have r18 : 0 ≤ T.1 18 ∧ T.1 18 ≤ l.length := hRT.1.1
          have r20 : 0 ≤ T.1 20 ∧ T.1 20 ≤ 8 := hRT.1.2.2.2.2.1
          have r16 : T.1 16 = 114 ∨ T.1 16 = 119 ∨ T.1 16 = 112 ∨ T.1 16 = 100 := hRT.2.1
          have r100 : T.1 16 = 100 → T.1 18 = l.length ∧ T.1 19 = 0 ∧ T.1 20 = 0 := hRT.2.2.1
          refine ⟨_, (r_and (r_and (r_lt (r_loc rfl rfl) (r_lit ql_400) (by first | omega | assumption | exact r_zrg _ | exact hS.1 _ | exact hT.1 _ | exact hT_T2.1 _ | exact CEL_r xs Ln (by omega) | exact hgoS.1 _ | exact q5.1 _ | exact q6.1 _) (by first | omega | assumption | exact r_zrg _ | exact hS.1 _ | exact hT.1 _ | exact hT_T2.1 _ | exact CEL_r xs Ln (by omega) | exact hgoS.1 _ | exact q5.1 _ | exact q6.1 _)) (fun hp20 => (r_z_ne (r_loc rfl rfl) (by first | omega | assumption | exact r_zrg _ | exact hS.1 _ | exact hT.1 _ | exact hT_T2.1 _ | exact CEL_r xs Ln (by omega) | exact hgoS.1 _ | exact q5.1 _ | exact q6.1 _)))) (fun hp21 => (r_ne (r_call (r_cons (r_loc rfl rfl) r_nil) rfl (sp_X9_state (by first | omega | assumption | exact r_zrg _ | exact hS.1 _ | exact hT.1 _ | exact hT_T2.1 _ | exact CEL_r xs Ln (by omega) | exact hgoS.1 _ | exact q5.1 _ | exact q6.1 _) (by first | omega | assumption | exact r_zrg _ | exact hS.1 _ | exact hT.1 _ | exact hT_T2.1 _ | exact CEL_r xs Ln (by omega) | exact hgoS.1 _ | exact q5.1 _ | exact q6.1 _) (by first | omega | assumption | exact r_zrg _ | exact hS.1 _ | exact hT.1 _ | exact hT_T2.1 _ | exact CEL_r xs Ln (by omega) | exact hgoS.1 _ | exact q5.1 _ | exact q6.1 _)) rfl) (r_lit ql_100) (by first | omega | assumption | exact r_zrg _ | exact hS.1 _ | exact hT.1 _ | exact hT_T2.1 _ | exact CEL_r xs Ln (by omega) | exact hgoS.1 _ | exact q5.1 _ | exact q6.1 _) (by first | omega | assumption | exact r_zrg _ | exact hS.1 _ | exact hT.1 _ | exact hT_T2.1 _ | exact CEL_r xs Ln (by omega) | exact hgoS.1 _ | exact q5.1 _ | exact q6.1 _)))), fun hp18 => ?_, fun hp19 => ?_⟩
          ·
            have hx := hp18
            have hn2 := RUN_n hO hRT
            have hFI : 0 ≤ FI l T := by unfold FI; omega
            have h100 : T.1 16 = 100 := by omega
            obtain ⟨e18, e19, e20⟩ := r100 h100
            have elen : (T.1 18).toNat = l.length := by omega
            have hlad : ∀ j, T.2.1 20 j = LAD l th l.length j := fun j => by
              rw [← elen]; exact hRT.2.2.2.2.1 j
            refine r_k0 ?_
            refine r_sret (r_if10 (r_and (r_and (r_and (r_z_ne (r_loc rfl rfl) (by first | omega | assumption | exact r_zrg _ | exact hS.1 _ | exact hT.1 _ | exact hT_T2.1 _ | exact CEL_r xs Ln (by omega) | exact hgoS.1 _ | exact q5.1 _ | exact q6.1 _)) (fun hp22 => (r_eq (r_call (r_cons (r_loc rfl rfl) r_nil) rfl (sp_X9_state (by first | omega | assumption | exact r_zrg _ | exact hS.1 _ | exact hT.1 _ | exact hT_T2.1 _ | exact CEL_r xs Ln (by omega) | exact hgoS.1 _ | exact q5.1 _ | exact q6.1 _) (by first | omega | assumption | exact r_zrg _ | exact hS.1 _ | exact hT.1 _ | exact hT_T2.1 _ | exact CEL_r xs Ln (by omega) | exact hgoS.1 _ | exact q5.1 _ | exact q6.1 _) (by first | omega | assumption | exact r_zrg _ | exact hS.1 _ | exact hT.1 _ | exact hT_T2.1 _ | exact CEL_r xs Ln (by omega) | exact hgoS.1 _ | exact q5.1 _ | exact q6.1 _)) rfl) (r_lit ql_100) (by first | omega | assumption | exact r_zrg _ | exact hS.1 _ | exact hT.1 _ | exact hT_T2.1 _ | exact CEL_r xs Ln (by omega) | exact hgoS.1 _ | exact q5.1 _ | exact q6.1 _) (by first | omega | assumption | exact r_zrg _ | exact hS.1 _ | exact hT.1 _ | exact hT_T2.1 _ | exact CEL_r xs Ln (by omega) | exact hgoS.1 _ | exact q5.1 _ | exact q6.1 _)))) (fun hp23 => (r_eq (r_call (r_cons (r_loc rfl rfl) r_nil) rfl (sp_X9_next (by first | omega | assumption | exact r_zrg _ | exact hS.1 _ | exact hT.1 _ | exact hT_T2.1 _ | exact CEL_r xs Ln (by omega) | exact hgoS.1 _ | exact q5.1 _ | exact q6.1 _)) rfl) (r_loc rfl rfl) (by first | omega | assumption | exact r_zrg _ | exact hS.1 _ | exact hT.1 _ | exact hT_T2.1 _ | exact CEL_r xs Ln (by omega) | exact hgoS.1 _ | exact q5.1 _ | exact q6.1 _) (by first | omega | assumption | exact r_zrg _ | exact hS.1 _ | exact hT.1 _ | exact hT_T2.1 _ | exact CEL_r xs Ln (by omega) | exact hgoS.1 _ | exact q5.1 _ | exact q6.1 _)))) (fun hp24 => (r_z_eq (r_call (r_cons (r_loc rfl rfl) r_nil) rfl (sp_X9_speed (by first | omega | assumption | exact r_zrg _ | exact hS.1 _ | exact hT.1 _ | exact hT_T2.1 _ | exact CEL_r xs Ln (by omega) | exact hgoS.1 _ | exact q5.1 _ | exact q6.1 _)) rfl) (by first | omega | assumption | exact r_zrg _ | exact hS.1 _ | exact hT.1 _ | exact hT_T2.1 _ | exact CEL_r xs Ln (by omega) | exact hgoS.1 _ | exact q5.1 _ | exact q6.1 _))))) ?_
            refine r_pret (r_fitb _) r_le0 ?_
            exact ⟨_, rfl, T, r_bone ⟨⟨⟨by decide, h100⟩, e18⟩, e20⟩, rfl, hT, hfT, hlad, hsT⟩
          ·
            have hx := hp19
            refine r_seq ?_
            refine r_sloc (L2 := [_, _, _, _, _, _, _]) (r_call (r_cons (r_loc rfl rfl) r_nil) rfl (sp_X9_next (by first | omega | assumption | exact r_zrg _ | exact hS.1 _ | exact hT.1 _ | exact hT_T2.1 _ | exact CEL_r xs Ln (by omega) | exact hgoS.1 _ | exact q5.1 _ | exact q6.1 _)) rfl) rfl rfl ?_
            refine r_k0 ?_
            refine r_seq ?_
            have hst : T.1 16 = 114 ∨ T.1 16 = 119 := by omega
            obtain ⟨z2, T2, hK_pass, hz2r, hP2⟩ := sx_X9_pass (c := c) (w := w) hT hcT hO hn hAT hC hth (by omega) hRT.1 hBT (by omega) (m := 200) (by omega)
            obtain ⟨hI2, hz2, hF2, hF3⟩ := PRI_pass hO (by omega) hI hP2
            have hF4 := hF3 hst
            obtain ⟨hT_T2, hfT_T2, hRT_T2, h13T_T2, h17T_T2, hsT_T2, hBT_T2⟩ := id hI2
            have hcT_T2 := CREP_f hfT_T2 (by decide) (by decide) (by decide) (by decide) hc
            have hAT_T2 : ∀ j, 0 ≤ j → j < 12 → T2.2.1 18 j = 10 * th j := by rw [hfT_T2.2.1 18 (by decide)]; exact hA
            have h9T_T2 : T2.1 9 = l.length := hcT_T2.1
            have r18_T2 : 0 ≤ T2.1 18 ∧ T2.1 18 ≤ l.length := hRT_T2.1.1
            have r20_T2 : 0 ≤ T2.1 20 ∧ T2.1 20 ≤ 8 := hRT_T2.1.2.2.2.2.1
            have r16_T2 : T2.1 16 = 114 ∨ T2.1 16 = 119 ∨ T2.1 16 = 112 ∨ T2.1 16 = 100 := hRT_T2.2.1
            have r100_T2 : T2.1 16 = 100 → T2.1 18 = l.length ∧ T2.1 19 = 0 ∧ T2.1 20 = 0 := hRT_T2.2.2.1
            refine r_slocG (L2 := [_, _, _, _, _, _, _]) (r_K1 (r_Deq (r_callG (r_cons (r_loc rfl rfl) (r_cons (r_lit ql_200) r_nil)) rfl hK_pass rfl) (r_sub (r_call (r_cons (r_loc rfl rfl) r_nil) rfl (sp_X9_next (by first | omega | assumption | exact r_zrg _ | exact hS.1 _ | exact hT.1 _ | exact hT_T2.1 _ | exact CEL_r xs Ln (by omega) | exact hgoS.1 _ | exact q5.1 _ | exact q6.1 _)) rfl) (r_loc rfl rfl)) (by first | omega | assumption | exact r_zrg _ | exact hS.1 _ | exact hT.1 _ | exact hT_T2.1 _ | exact CEL_r xs Ln (by omega) | exact hgoS.1 _ | exact q5.1 _ | exact q6.1 _) (by first | omega | assumption | exact r_zrg _ | exact hS.1 _ | exact hT.1 _ | exact hT_T2.1 _ | exact CEL_r xs Ln (by omega) | exact hgoS.1 _ | exact q5.1 _ | exact q6.1 _)) (by first | omega | assumption | exact r_zrg _ | exact hS.1 _ | exact hT.1 _ | exact hT_T2.1 _ | exact CEL_r xs Ln (by omega) | exact hgoS.1 _ | exact q5.1 _ | exact q6.1 _)) rfl rfl ?_
            refine r_k0 ?_
            refine r_sif (r_eq (r_call (r_cons (r_loc rfl rfl) r_nil) rfl (sp_X9_state (by first | omega | assumption | exact r_zrg _ | exact hS.1 _ | exact hT.1 _ | exact hT_T2.1 _ | exact CEL_r xs Ln (by omega) | exact hgoS.1 _ | exact q5.1 _ | exact q6.1 _) (by first | omega | assumption | exact r_zrg _ | exact hS.1 _ | exact hT.1 _ | exact hT_T2.1 _ | exact CEL_r xs Ln (by omega) | exact hgoS.1 _ | exact q5.1 _ | exact q6.1 _) (by first | omega | assumption | exact r_zrg _ | exact hS.1 _ | exact hT.1 _ | exact hT_T2.1 _ | exact CEL_r xs Ln (by omega) | exact hgoS.1 _ | exact q5.1 _ | exact q6.1 _)) rfl) (r_lit ql_112) (by first | omega | assumption | exact r_zrg _ | exact hS.1 _ | exact hT.1 _ | exact hT_T2.1 _ | exact CEL_r xs Ln (by omega) | exact hgoS.1 _ | exact q5.1 _ | exact q6.1 _) (by first | omega | assumption | exact r_zrg _ | exact hS.1 _ | exact hT.1 _ | exact hT_T2.1 _ | exact CEL_r xs Ln (by omega) | exact hgoS.1 _ | exact q5.1 _ | exact q6.1 _)) (fun hp25 => ?_) (fun hp26 => ?_)
            ·
              have hpT := hp25
              have hpT0 := hp25
              have hq16 : T2.1 16 = 112 := hpT0
              have hK_goOn := sx_X9_goOn (c := c) (w := w) hT_T2 hq16 h17T_T2 (by omega) (by omega)
              have hgo := PRI_go hI2 hq16
              have hgoS : r_ok (q_sI T2 16 114) := hgo.1.1
              have hg18 : (q_sI T2 16 114).1 18 = T2.1 18 := rfl
              refine r_slocG (L2 := [_, _, _, _, _, _, _]) (r_K1 (r_Dand (r_z_ne (r_loc rfl rfl) (by first | omega | assumption | exact r_zrg _ | exact hS.1 _ | exact hT.1 _ | exact hT_T2.1 _ | exact CEL_r xs Ln (by omega) | exact hgoS.1 _ | exact q5.1 _ | exact q6.1 _)) (by first | omega | assumption | exact r_zrg _ | exact hS.1 _ | exact hT.1 _ | exact hT_T2.1 _ | exact CEL_r xs Ln (by omega) | exact hgoS.1 _ | exact q5.1 _ | exact q6.1 _) (r_Deq (r_callG (r_cons (r_loc rfl rfl) r_nil) rfl hK_goOn rfl) (r_sub (r_loc rfl rfl) (r_call (r_cons (r_loc rfl rfl) r_nil) rfl (sp_X9_next (by first | omega | assumption | exact r_zrg _ | exact hS.1 _ | exact hT.1 _ | exact hT_T2.1 _ | exact CEL_r xs Ln (by omega) | exact hgoS.1 _ | exact q5.1 _ | exact q6.1 _)) rfl)) (by first | omega | assumption | exact r_zrg _ | exact hS.1 _ | exact hT.1 _ | exact hT_T2.1 _ | exact CEL_r xs Ln (by omega) | exact hgoS.1 _ | exact q5.1 _ | exact q6.1 _) (by first | omega | assumption | exact r_zrg _ | exact hS.1 _ | exact hT.1 _ | exact hT_T2.1 _ | exact CEL_r xs Ln (by omega) | exact hgoS.1 _ | exact q5.1 _ | exact q6.1 _))) (by first | omega | assumption | exact r_zrg _ | exact hS.1 _ | exact hT.1 _ | exact hT_T2.1 _ | exact CEL_r xs Ln (by omega) | exact hgoS.1 _ | exact q5.1 _ | exact q6.1 _)) rfl rfl ?_
              refine r_l0 ?_
              refine r_sinc (L2 := [_, _, _, _, _, _, _]) rfl rfl ?_
              refine r_lend (k + 1, q_sI T2 16 114, some (iv (T.1 18))) rfl rfl ?_ (by first | omega | (dsimp only; omega))
              try dsimp only
              refine ⟨by omega, by rw [show (2000 : Int) + 6000 * (k + 1) = 2000 + 6000 * k + 30 * 200 by omega]; exact hgo.1, by show ¬ (114 : Int) = 112; omega, Or.inr ?_⟩
              rw [hgo.2]; omega
            ·
              have hpF := hp26
              have hpF0 := hp26
              refine wS_skip ?_
              refine r_l0 ?_
              refine r_sinc (L2 := [_, _, _, _, _, _, _]) rfl rfl ?_
              refine r_lend (k + 1, T2, some (iv (T.1 18))) rfl rfl ?_ (by first | omega | (dsimp only; omega))
              try dsimp only
              refine ⟨by omega, by rw [show (2000 : Int) + 6000 * (k + 1) = 2000 + 6000 * k + 30 * 200 by omega]; exact hI2, hpF0, ?_⟩
              omega
    ·
      have hx := hp2
      refine r_seq ?_
      obtain ⟨_, _, hK_tick, z2, T2, rfl, rfl, hP2⟩ := sp_L_isTick (c := c) (w := w) hT hcT hO hn hAT hC hth hRT h13T h17T hBT (by omega) (by omega)
      have hK_tick : r_G f_L_isTick [.ref 16] (q_en T, c, w) (iv 1) (q_en T2, c, w) := hK_tick
      obtain ⟨hI2, hz2, hF2, hF3⟩ := PRI_pass hO (by omega) hI hP2
      obtain ⟨hT_T2, hfT_T2, hRT_T2, h13T_T2, h17T_T2, hsT_T2, hBT_T2⟩ := id hI2
      have hcT_T2 := CREP_f hfT_T2 (by decide) (by decide) (by decide) (by decide) hc
      have hAT_T2 : ∀ j, 0 ≤ j → j < 12 → T2.2.1 18 j = 10 * th j := by rw [hfT_T2.2.1 18 (by decide)]; exact hA
      have h9T_T2 : T2.1 9 = l.length := hcT_T2.1
      have r18_T2 : 0 ≤ T2.1 18 ∧ T2.1 18 ≤ l.length := hRT_T2.1.1
      have r20_T2 : 0 ≤ T2.1 20 ∧ T2.1 20 ≤ 8 := hRT_T2.1.2.2.2.2.1
      have r16_T2 : T2.1 16 = 114 ∨ T2.1 16 = 119 ∨ T2.1 16 = 112 ∨ T2.1 16 = 100 := hRT_T2.2.1
      have r100_T2 : T2.1 16 = 100 → T2.1 18 = l.length ∧ T2.1 19 = 0 ∧ T2.1 20 = 0 := hRT_T2.2.2.1
      refine r_slocG (L2 := [_, _, _, _, _, _, _]) (r_callG (r_cons (r_loc rfl rfl) r_nil) rfl hK_tick rfl) rfl rfl ?_
      refine r_k0 ?_
      refine r_sif (r_eq (r_call (r_cons (r_loc rfl rfl) r_nil) rfl (sp_X9_state (by first | omega | assumption | exact r_zrg _ | exact hS.1 _ | exact hT.1 _ | exact hT_T2.1 _ | exact CEL_r xs Ln (by omega) | exact hgoS.1 _ | exact q5.1 _ | exact q6.1 _) (by first | omega | assumption | exact r_zrg _ | exact hS.1 _ | exact hT.1 _ | exact hT_T2.1 _ | exact CEL_r xs Ln (by omega) | exact hgoS.1 _ | exact q5.1 _ | exact q6.1 _) (by first | omega | assumption | exact r_zrg _ | exact hS.1 _ | exact hT.1 _ | exact hT_T2.1 _ | exact CEL_r xs Ln (by omega) | exact hgoS.1 _ | exact q5.1 _ | exact q6.1 _)) rfl) (r_lit ql_112) (by first | omega | assumption | exact r_zrg _ | exact hS.1 _ | exact hT.1 _ | exact hT_T2.1 _ | exact CEL_r xs Ln (by omega) | exact hgoS.1 _ | exact q5.1 _ | exact q6.1 _) (by first | omega | assumption | exact r_zrg _ | exact hS.1 _ | exact hT.1 _ | exact hT_T2.1 _ | exact CEL_r xs Ln (by omega) | exact hgoS.1 _ | exact q5.1 _ | exact q6.1 _)) (fun hp27 => ?_) (fun hp28 => ?_)
      ·
        have hpT := hp27
        have hpT0 := hp27
        have hq16 : T2.1 16 = 112 := hpT0
        have hK_goOn := sx_X9_goOn (c := c) (w := w) hT_T2 hq16 h17T_T2 (by omega) (by omega)
        have hgo := PRI_go hI2 hq16
        have hgoS : r_ok (q_sI T2 16 114) := hgo.1.1
        have hg18 : (q_sI T2 16 114).1 18 = T2.1 18 := rfl
        refine r_slocG (L2 := [_, _, _, _, _, _, _]) (r_K1 (r_Dand (r_z_ne (r_loc rfl rfl) (by first | omega | assumption | exact r_zrg _ | exact hS.1 _ | exact hT.1 _ | exact hT_T2.1 _ | exact CEL_r xs Ln (by omega) | exact hgoS.1 _ | exact q5.1 _ | exact q6.1 _)) (by first | omega | assumption | exact r_zrg _ | exact hS.1 _ | exact hT.1 _ | exact hT_T2.1 _ | exact CEL_r xs Ln (by omega) | exact hgoS.1 _ | exact q5.1 _ | exact q6.1 _) (r_Deq (r_callG (r_cons (r_loc rfl rfl) r_nil) rfl hK_goOn rfl) (r_sub (r_loc rfl rfl) (r_call (r_cons (r_loc rfl rfl) r_nil) rfl (sp_X9_next (by first | omega | assumption | exact r_zrg _ | exact hS.1 _ | exact hT.1 _ | exact hT_T2.1 _ | exact CEL_r xs Ln (by omega) | exact hgoS.1 _ | exact q5.1 _ | exact q6.1 _)) rfl)) (by first | omega | assumption | exact r_zrg _ | exact hS.1 _ | exact hT.1 _ | exact hT_T2.1 _ | exact CEL_r xs Ln (by omega) | exact hgoS.1 _ | exact q5.1 _ | exact q6.1 _) (by first | omega | assumption | exact r_zrg _ | exact hS.1 _ | exact hT.1 _ | exact hT_T2.1 _ | exact CEL_r xs Ln (by omega) | exact hgoS.1 _ | exact q5.1 _ | exact q6.1 _))) (by first | omega | assumption | exact r_zrg _ | exact hS.1 _ | exact hT.1 _ | exact hT_T2.1 _ | exact CEL_r xs Ln (by omega) | exact hgoS.1 _ | exact q5.1 _ | exact q6.1 _)) rfl rfl ?_
        refine r_l0 ?_
        refine r_sinc (L2 := [_, _, _, _, _, _, _]) rfl rfl ?_
        refine r_lend (k + 1, q_sI T2 16 114) rfl rfl ?_ (by first | omega | (dsimp only; omega))
        try dsimp only
        exact ⟨by omega, by rw [show 30 * (k + 1) = 30 * k + 30 * 1 by omega]; exact hgo.1, by show ¬ (114 : Int) = 112; omega⟩
      ·
        have hpF := hp28
        have hpF0 := hp28
        refine wS_skip ?_
        refine r_l0 ?_
        refine r_sinc (L2 := [_, _, _, _, _, _, _]) rfl rfl ?_
        refine r_lend (k + 1, T2) rfl rfl ?_ (by first | omega | (dsimp only; omega))
        try dsimp only
        exact ⟨by omega, by rw [show 30 * (k + 1) = 30 * k + 30 * 1 by omega]; exact hI2, hpF0⟩
