theorem sp_X10_pass {S : q_Sg} {c w : Nat} (hS : r_ok S) {l : List qCmd} {th : Int → Int} (hc : RREP S l th) (hO : COK l) (hn : l.length ≤ 6936) (hC : CLK l) (hth : ∀ j, 0 ≤ j → j < 12 → 0 ≤ th j ∧ th j ≤ 3) (h39 : 0 ≤ S.1 39 ∧ S.1 39 ≤ 300) (hMI : MI l (mR S)) {B : Int} (hB : ∀ j, 0 ≤ S.2.1 32 j ∧ S.2.1 32 j ≤ B) (hB2 : B ≤ 90000000) {n : Int} (hrn : rg n) : r_X f_X10_pass [.ref 47, iv n] (q_en S, c, w) (fun v h2 => ∃ T, h2 = (q_en T, c, w) ∧ r_ok T ∧ r_fr [41, 40, 38, 37, 36, 35, 32] [32] [3] (q_sI S 23 (r_i (1 ≤ n ∧ n ≤ 200) 0 1)) T ∧ ((1 ≤ n ∧ n ≤ 200) → ∃ kz ov, v = iv ov ∧ TKN l th (S.1 39) n.toNat (mR S) (mR T) kz ov ∧ T.1 36 = (if kz = -2 then S.1 36 else kz) ∧ T.2.2.1 3 = S.2.2.1 3 + n ∧ MI l (mR T) ∧ ∀ j, 0 ≤ T.2.1 32 j ∧ T.2.1 32 j ≤ B + 30 * n) ∧ (¬ (1 ≤ n ∧ n ≤ 200) → v = iv 0 ∧ T = q_sI S 23 1)) := by
  refine r_Xof (r_run (L := [_, _, _, _]) ⟨rfl, Nat.le_of_ble_eq_true rfl⟩ rfl ?_)
  unfold b_X10_pass
  obtain ⟨b, hb⟩ : ∃ b, b = r_i (1 ≤ n ∧ n ≤ 200) 0 1 := ⟨_, rfl⟩
  have hbd := r_id (1 ≤ n ∧ n ≤ 200) 0 1
  rw [← hb] at hbd ⊢
  have hc0 : RREP (q_sI S 23 b) l th := RREP_f (r_frI (k := 23) r_fr0) (by decide) (by decide) hc
  have hs0 : r_ok (q_sI S 23 b) := r_okI hS (by omega)
  refine r_seq ?_
  refine r_sifD (r_Dn (r_Dz (r_callG (r_cons (r_loc rfl rfl) (r_cons (r_if (r_bz (r_call (r_cons (r_loc rfl rfl) (r_cons (r_lit ql_1) (r_cons (r_lit ql_200) r_nil))) rfl (sp_X10_in (by first | omega | assumption | exact hS.1 _ | exact hS.2 _ _ | exact hs0 | exact hT.1 _ | exact hT1.1 _ | exact r_okJ hT | (show 20 ≤ T.1 40 ∧ T.1 40 ≤ 305; omega) | (show 0 ≤ T.1 39 ∧ T.1 39 ≤ 300; omega) | (show 0 ≤ T.1 41 ∧ T.1 41 < 2; omega) | (rw [b32]; intro j; have := hbb j; omega) | (rw [a35]; exact ⟨m1.1, m2 (by omega)⟩) | (rw [a37, a35]; exact ⟨m3, m4⟩) | (rw [← hb]; omega)) (by first | omega | assumption | exact hS.1 _ | exact hS.2 _ _ | exact hs0 | exact hT.1 _ | exact hT1.1 _ | exact r_okJ hT | (show 20 ≤ T.1 40 ∧ T.1 40 ≤ 305; omega) | (show 0 ≤ T.1 39 ∧ T.1 39 ≤ 300; omega) | (show 0 ≤ T.1 41 ∧ T.1 41 < 2; omega) | (rw [b32]; intro j; have := hbb j; omega) | (rw [a35]; exact ⟨m1.1, m2 (by omega)⟩) | (rw [a37, a35]; exact ⟨m3, m4⟩) | (rw [← hb]; omega)) (by first | omega | assumption | exact hS.1 _ | exact hS.2 _ _ | exact hs0 | exact hT.1 _ | exact hT1.1 _ | exact r_okJ hT | (show 20 ≤ T.1 40 ∧ T.1 40 ≤ 305; omega) | (show 0 ≤ T.1 39 ∧ T.1 39 ≤ 300; omega) | (show 0 ≤ T.1 41 ∧ T.1 41 < 2; omega) | (rw [b32]; intro j; have := hbb j; omega) | (rw [a35]; exact ⟨m1.1, m2 (by omega)⟩) | (rw [a37, a35]; exact ⟨m3, m4⟩) | (rw [← hb]; omega))) rfl)) (fun hp1 => (r_lit ql_0)) (fun hp2 => (r_lit ql_1))) r_nil)) rfl (sp_X10_goesOn (by first | omega | assumption | exact hS.1 _ | exact hS.2 _ _ | exact hs0 | exact hT.1 _ | exact hT1.1 _ | exact r_okJ hT | (show 20 ≤ T.1 40 ∧ T.1 40 ≤ 305; omega) | (show 0 ≤ T.1 39 ∧ T.1 39 ≤ 300; omega) | (show 0 ≤ T.1 41 ∧ T.1 41 < 2; omega) | (rw [b32]; intro j; have := hbb j; omega) | (rw [a35]; exact ⟨m1.1, m2 (by omega)⟩) | (rw [a37, a35]; exact ⟨m3, m4⟩) | (rw [← hb]; omega))) rfl))) (fun hp3 => ?_) (fun hp4 => ?_)
  ·
    have hpT := hp3
    have hpT0 := hp3
    refine r_sret (r_lit ql_0) ?_
    refine r_ks (j := 3) ?_
    refine r_pret (q_fit_int _) r_le0 ?_
    have hbn : ¬ (1 ≤ n ∧ n ≤ 200) := fun d => by
      have k := hpT0
      rw [← hb] at k
      omega
    exact ⟨_, rfl, q_sI S 23 b, by rw [hb], hs0, r_frm r_fr0 (by decide) (by decide) (by decide), fun d => absurd d hbn, fun _ => ⟨rfl, by rw [show b = 1 by omega]⟩⟩
  ·
    have hpF := hp4
    have hpF0 := hp4
    refine wS_skip ?_
    refine r_k0 ?_
    refine r_seq ?_
    refine r_sloc (L2 := [_, _, _, _]) (r_lit ql_0) rfl rfl ?_
    refine r_k0 ?_
    refine r_seq ?_
    refine r_seq ?_
    refine r_sloc (L2 := [_, _, _, _]) (r_lit ql_0) rfl rfl ?_
    refine r_k0 ?_
    have hbn : 1 ≤ n ∧ n ≤ 200 := by
      have k := Classical.not_not.mp hpF0
      rw [← hb] at k
      omega
    refine r_loop (T := Nat × Int × Int × q_Sg) (fun (σ : Nat × Int × Int × q_Sg) => match σ with | (t, ov, kz, T) => (t : Int) ≤ n ∧ r_ok T ∧ r_fr [41, 40, 38, 37, 36, 35, 32] [32] [3] (q_sI S 23 b) T ∧ TKN l th (S.1 39) t (mR S) (mR T) kz ov ∧ T.1 36 = (if kz = -2 then S.1 36 else kz) ∧ T.2.2.1 3 = S.2.2.1 3 + t ∧ MI l (mR T) ∧ ∀ j, 0 ≤ T.2.1 32 j ∧ T.2.1 32 j ≤ B + 30 * t) (fun (σ : Nat × Int × Int × q_Sg) => match σ with | (t, ov, kz, T) => n.toNat - t) (fun (σ : Nat × Int × Int × q_Sg) => match σ with | (t, ov, kz, T) => [some (.ref 47), some (iv n), some (iv ov), some (iv t)]) (fun (σ : Nat × Int × Int × q_Sg) => match σ with | (t, ov, kz, T) => (q_en T, c, w)) (0, 0, -2, q_sI S 23 b) rfl (by rw [hb]) ?_ ?_ ?_
    · exact ⟨by omega, hs0, r_frm r_fr0 (by decide) (by decide) (by decide), ⟨rfl, rfl, rfl⟩, rfl, by show S.2.2.1 3 = _; omega, hMI, fun j => by have k : 0 ≤ S.2.1 32 j ∧ S.2.1 32 j ≤ B := hB j; show 0 ≤ S.2.1 32 j ∧ S.2.1 32 j ≤ _; omega⟩
    · (show _ < 1000000); first | omega | (dsimp only; omega)
    · rintro ⟨t, ov, kz, T⟩ hP
      try dsimp only at hP ⊢
      obtain ⟨ht, hT, hf, hN, hK, htm, hM, hbb⟩ := hP
      refine ⟨_, (r_lt (r_loc rfl rfl) (r_loc rfl rfl) (by first | omega | assumption | exact hS.1 _ | exact hS.2 _ _ | exact hs0 | exact hT.1 _ | exact hT1.1 _ | exact r_okJ hT | (show 20 ≤ T.1 40 ∧ T.1 40 ≤ 305; omega) | (show 0 ≤ T.1 39 ∧ T.1 39 ≤ 300; omega) | (show 0 ≤ T.1 41 ∧ T.1 41 < 2; omega) | (rw [b32]; intro j; have := hbb j; omega) | (rw [a35]; exact ⟨m1.1, m2 (by omega)⟩) | (rw [a37, a35]; exact ⟨m3, m4⟩) | (rw [← hb]; omega)) (by first | omega | assumption | exact hS.1 _ | exact hS.2 _ _ | exact hs0 | exact hT.1 _ | exact hT1.1 _ | exact r_okJ hT | (show 20 ≤ T.1 40 ∧ T.1 40 ≤ 305; omega) | (show 0 ≤ T.1 39 ∧ T.1 39 ≤ 300; omega) | (show 0 ≤ T.1 41 ∧ T.1 41 < 2; omega) | (rw [b32]; intro j; have := hbb j; omega) | (rw [a35]; exact ⟨m1.1, m2 (by omega)⟩) | (rw [a37, a35]; exact ⟨m3, m4⟩) | (rw [← hb]; omega))), fun hp5 => ?_, fun hp6 => ?_⟩
      ·
        refine r_k0 ?_
        refine r_sret (r_loc rfl rfl) ?_
        refine r_pret (q_fit_int _) r_le0 ?_
        have htn : (t : Int) = n := by omega
        have htt : n.toNat = t := by omega
        exact ⟨_, rfl, T, rfl, hT, hf, fun _ => ⟨kz, ov, rfl, by rw [htt]; exact hN, hK, by omega, hM, fun j => by have := hbb j; omega⟩, fun d => absurd hbn d⟩
      ·
        have htn : (t : Int) < n := hp6
        obtain ⟨m1, m2, m3, m4, m5, m6, m7⟩ := id hM
        have m1 : 0 ≤ T.1 35 ∧ T.1 35 ≤ l.length := m1
        have m2 : PRN (T.1 32) → T.1 35 < l.length := m2
        have m3 : 0 ≤ T.1 37 := m3
        have m4 : T.1 37 = 0 ∨ T.1 37 < LEN l (T.1 35) := m4
        have m5 : 0 ≤ T.1 38 ∧ T.1 38 ≤ 8 := m5
        have m6 : 20 ≤ T.1 40 ∧ T.1 40 ≤ 305 := m6
        have m7 : 0 ≤ T.1 41 ∧ T.1 41 < 2 := m7
        have e39 : T.1 39 = S.1 39 := hf.1 39 (by decide)
        have hxT := hO (T.1 35)
        have hthT := hth _ hxT.2.2.1.1 hxT.2.2.1.2
        refine r_seq ?_
        refine r_sA1 (r_loc rfl rfl) gg_Md_time r_litl1 r_ladd2 gp_Md_time ?_
        refine r_k0 ?_
        refine r_seq ?_
        refine r_call0 (r_cons (r_loc rfl rfl) r_nil) rfl (sp_X10_heats (by first | omega | assumption | exact hS.1 _ | exact hS.2 _ _ | exact hs0 | exact hT.1 _ | exact hT1.1 _ | exact r_okJ hT | (show 20 ≤ T.1 40 ∧ T.1 40 ≤ 305; omega) | (show 0 ≤ T.1 39 ∧ T.1 39 ≤ 300; omega) | (show 0 ≤ T.1 41 ∧ T.1 41 < 2; omega) | (rw [b32]; intro j; have := hbb j; omega) | (rw [a35]; exact ⟨m1.1, m2 (by omega)⟩) | (rw [a37, a35]; exact ⟨m3, m4⟩) | (rw [← hb]; omega)) (by first | omega | assumption | exact hS.1 _ | exact hS.2 _ _ | exact hs0 | exact hT.1 _ | exact hT1.1 _ | exact r_okJ hT | (show 20 ≤ T.1 40 ∧ T.1 40 ≤ 305; omega) | (show 0 ≤ T.1 39 ∧ T.1 39 ≤ 300; omega) | (show 0 ≤ T.1 41 ∧ T.1 41 < 2; omega) | (rw [b32]; intro j; have := hbb j; omega) | (rw [a35]; exact ⟨m1.1, m2 (by omega)⟩) | (rw [a37, a35]; exact ⟨m3, m4⟩) | (rw [← hb]; omega)) (by first | omega | assumption | exact hS.1 _ | exact hS.2 _ _ | exact hs0 | exact hT.1 _ | exact hT1.1 _ | exact r_okJ hT | (show 20 ≤ T.1 40 ∧ T.1 40 ≤ 305; omega) | (show 0 ≤ T.1 39 ∧ T.1 39 ≤ 300; omega) | (show 0 ≤ T.1 41 ∧ T.1 41 < 2; omega) | (rw [b32]; intro j; have := hbb j; omega) | (rw [a35]; exact ⟨m1.1, m2 (by omega)⟩) | (rw [a37, a35]; exact ⟨m3, m4⟩) | (rw [← hb]; omega)) (by first | omega | assumption | exact hS.1 _ | exact hS.2 _ _ | exact hs0 | exact hT.1 _ | exact hT1.1 _ | exact r_okJ hT | (show 20 ≤ T.1 40 ∧ T.1 40 ≤ 305; omega) | (show 0 ≤ T.1 39 ∧ T.1 39 ≤ 300; omega) | (show 0 ≤ T.1 41 ∧ T.1 41 < 2; omega) | (rw [b32]; intro j; have := hbb j; omega) | (rw [a35]; exact ⟨m1.1, m2 (by omega)⟩) | (rw [a37, a35]; exact ⟨m3, m4⟩) | (rw [← hb]; omega))) ?_
        rintro _ _ ⟨T1, rfl, hT1, hf1, hH1⟩
        have t1 : T1.2.2.1 3 = T.2.2.1 3 + 1 := hf1.2.2.1 3 (by decide)
        have hf1 : r_fr [40, 41] [] [3] T T1 := r_frm (r_frt (r_frJ (k := 3) r_fr0) hf1) (by decide) (by decide) (by decide)
        have hG : r_fr [41, 40, 38, 37, 36, 35, 32] [32] [3] (q_sI S 23 b) T1 := r_frm (r_frt hf hf1) (by decide) (by decide) (by decide)
        have a39 : T1.1 39 = S.1 39 := hG.1 39 (by decide)
        have a32 : T1.1 32 = T.1 32 := hf1.1 32 (by decide)
        have a35 : T1.1 35 = T.1 35 := hf1.1 35 (by decide)
        have a37 : T1.1 37 = T.1 37 := hf1.1 37 (by decide)
        have a38 : T1.1 38 = T.1 38 := hf1.1 38 (by decide)
        have b32 : T1.2.1 32 = T.2.1 32 := hf1.2.1 32 (by decide)
        have hc1 := RREP_f hG (by decide) (by decide) hc0
        have hH1 : HTR (T.1 39) (T.1 40) (T.1 41) (T1.1 40) (T1.1 41) := hH1
        rw [e39] at hH1
        have hH2 : 20 ≤ T1.1 40 ∧ T1.1 40 ≤ 305 := by unfold HTR at hH1; omega
        refine r_k0 ?_
        refine r_sif (r_or (r_eq (r_fld (r_loc rfl rfl) gg_Md_state) (r_lit ql_114) (by first | omega | assumption | exact hS.1 _ | exact hS.2 _ _ | exact hs0 | exact hT.1 _ | exact hT1.1 _ | exact r_okJ hT | (show 20 ≤ T.1 40 ∧ T.1 40 ≤ 305; omega) | (show 0 ≤ T.1 39 ∧ T.1 39 ≤ 300; omega) | (show 0 ≤ T.1 41 ∧ T.1 41 < 2; omega) | (rw [b32]; intro j; have := hbb j; omega) | (rw [a35]; exact ⟨m1.1, m2 (by omega)⟩) | (rw [a37, a35]; exact ⟨m3, m4⟩) | (rw [← hb]; omega)) (by first | omega | assumption | exact hS.1 _ | exact hS.2 _ _ | exact hs0 | exact hT.1 _ | exact hT1.1 _ | exact r_okJ hT | (show 20 ≤ T.1 40 ∧ T.1 40 ≤ 305; omega) | (show 0 ≤ T.1 39 ∧ T.1 39 ≤ 300; omega) | (show 0 ≤ T.1 41 ∧ T.1 41 < 2; omega) | (rw [b32]; intro j; have := hbb j; omega) | (rw [a35]; exact ⟨m1.1, m2 (by omega)⟩) | (rw [a37, a35]; exact ⟨m3, m4⟩) | (rw [← hb]; omega))) (fun hp7 => (r_eq (r_fld (r_loc rfl rfl) gg_Md_state) (r_lit ql_119) (by first | omega | assumption | exact hS.1 _ | exact hS.2 _ _ | exact hs0 | exact hT.1 _ | exact hT1.1 _ | exact r_okJ hT | (show 20 ≤ T.1 40 ∧ T.1 40 ≤ 305; omega) | (show 0 ≤ T.1 39 ∧ T.1 39 ≤ 300; omega) | (show 0 ≤ T.1 41 ∧ T.1 41 < 2; omega) | (rw [b32]; intro j; have := hbb j; omega) | (rw [a35]; exact ⟨m1.1, m2 (by omega)⟩) | (rw [a37, a35]; exact ⟨m3, m4⟩) | (rw [← hb]; omega)) (by first | omega | assumption | exact hS.1 _ | exact hS.2 _ _ | exact hs0 | exact hT.1 _ | exact hT1.1 _ | exact r_okJ hT | (show 20 ≤ T.1 40 ∧ T.1 40 ≤ 305; omega) | (show 0 ≤ T.1 39 ∧ T.1 39 ≤ 300; omega) | (show 0 ≤ T.1 41 ∧ T.1 41 < 2; omega) | (rw [b32]; intro j; have := hbb j; omega) | (rw [a35]; exact ⟨m1.1, m2 (by omega)⟩) | (rw [a37, a35]; exact ⟨m3, m4⟩) | (rw [← hb]; omega))))) (fun hp8 => ?_) (fun hp9 => ?_)
        ·
          have hpT := hp8
          have hpT1 := hp8
          refine r_saddC rfl (r_callC (r_cons (r_loc rfl rfl) r_nil) rfl (sp_X10_works (by first | omega | assumption | exact hS.1 _ | exact hS.2 _ _ | exact hs0 | exact hT.1 _ | exact hT1.1 _ | exact r_okJ hT | (show 20 ≤ T.1 40 ∧ T.1 40 ≤ 305; omega) | (show 0 ≤ T.1 39 ∧ T.1 39 ≤ 300; omega) | (show 0 ≤ T.1 41 ∧ T.1 41 < 2; omega) | (rw [b32]; intro j; have := hbb j; omega) | (rw [a35]; exact ⟨m1.1, m2 (by omega)⟩) | (rw [a37, a35]; exact ⟨m3, m4⟩) | (rw [← hb]; omega)) (by first | omega | assumption | exact hS.1 _ | exact hS.2 _ _ | exact hs0 | exact hT.1 _ | exact hT1.1 _ | exact r_okJ hT | (show 20 ≤ T.1 40 ∧ T.1 40 ≤ 305; omega) | (show 0 ≤ T.1 39 ∧ T.1 39 ≤ 300; omega) | (show 0 ≤ T.1 41 ∧ T.1 41 < 2; omega) | (rw [b32]; intro j; have := hbb j; omega) | (rw [a35]; exact ⟨m1.1, m2 (by omega)⟩) | (rw [a37, a35]; exact ⟨m3, m4⟩) | (rw [← hb]; omega)) (by first | omega | assumption | exact hS.1 _ | exact hS.2 _ _ | exact hs0 | exact hT.1 _ | exact hT1.1 _ | exact r_okJ hT | (show 20 ≤ T.1 40 ∧ T.1 40 ≤ 305; omega) | (show 0 ≤ T.1 39 ∧ T.1 39 ≤ 300; omega) | (show 0 ≤ T.1 41 ∧ T.1 41 < 2; omega) | (rw [b32]; intro j; have := hbb j; omega) | (rw [a35]; exact ⟨m1.1, m2 (by omega)⟩) | (rw [a37, a35]; exact ⟨m3, m4⟩) | (rw [← hb]; omega)) (by first | omega | assumption | exact hS.1 _ | exact hS.2 _ _ | exact hs0 | exact hT.1 _ | exact hT1.1 _ | exact r_okJ hT | (show 20 ≤ T.1 40 ∧ T.1 40 ≤ 305; omega) | (show 0 ≤ T.1 39 ∧ T.1 39 ≤ 300; omega) | (show 0 ≤ T.1 41 ∧ T.1 41 < 2; omega) | (rw [b32]; intro j; have := hbb j; omega) | (rw [a35]; exact ⟨m1.1, m2 (by omega)⟩) | (rw [a37, a35]; exact ⟨m3, m4⟩) | (rw [← hb]; omega)) (by first | omega | assumption | exact hS.1 _ | exact hS.2 _ _ | exact hs0 | exact hT.1 _ | exact hT1.1 _ | exact r_okJ hT | (show 20 ≤ T.1 40 ∧ T.1 40 ≤ 305; omega) | (show 0 ≤ T.1 39 ∧ T.1 39 ≤ 300; omega) | (show 0 ≤ T.1 41 ∧ T.1 41 < 2; omega) | (rw [b32]; intro j; have := hbb j; omega) | (rw [a35]; exact ⟨m1.1, m2 (by omega)⟩) | (rw [a37, a35]; exact ⟨m3, m4⟩) | (rw [← hb]; omega)) (by first | omega | assumption | exact hS.1 _ | exact hS.2 _ _ | exact hs0 | exact hT.1 _ | exact hT1.1 _ | exact r_okJ hT | (show 20 ≤ T.1 40 ∧ T.1 40 ≤ 305; omega) | (show 0 ≤ T.1 39 ∧ T.1 39 ≤ 300; omega) | (show 0 ≤ T.1 41 ∧ T.1 41 < 2; omega) | (rw [b32]; intro j; have := hbb j; omega) | (rw [a35]; exact ⟨m1.1, m2 (by omega)⟩) | (rw [a37, a35]; exact ⟨m3, m4⟩) | (rw [← hb]; omega)) (by first | omega | assumption | exact hS.1 _ | exact hS.2 _ _ | exact hs0 | exact hT.1 _ | exact hT1.1 _ | exact r_okJ hT | (show 20 ≤ T.1 40 ∧ T.1 40 ≤ 305; omega) | (show 0 ≤ T.1 39 ∧ T.1 39 ≤ 300; omega) | (show 0 ≤ T.1 41 ∧ T.1 41 < 2; omega) | (rw [b32]; intro j; have := hbb j; omega) | (rw [a35]; exact ⟨m1.1, m2 (by omega)⟩) | (rw [a37, a35]; exact ⟨m3, m4⟩) | (rw [← hb]; omega)) (by first | omega | assumption | exact hS.1 _ | exact hS.2 _ _ | exact hs0 | exact hT.1 _ | exact hT1.1 _ | exact r_okJ hT | (show 20 ≤ T.1 40 ∧ T.1 40 ≤ 305; omega) | (show 0 ≤ T.1 39 ∧ T.1 39 ≤ 300; omega) | (show 0 ≤ T.1 41 ∧ T.1 41 < 2; omega) | (rw [b32]; intro j; have := hbb j; omega) | (rw [a35]; exact ⟨m1.1, m2 (by omega)⟩) | (rw [a37, a35]; exact ⟨m3, m4⟩) | (rw [← hb]; omega)) (by first | omega | assumption | exact hS.1 _ | exact hS.2 _ _ | exact hs0 | exact hT.1 _ | exact hT1.1 _ | exact r_okJ hT | (show 20 ≤ T.1 40 ∧ T.1 40 ≤ 305; omega) | (show 0 ≤ T.1 39 ∧ T.1 39 ≤ 300; omega) | (show 0 ≤ T.1 41 ∧ T.1 41 < 2; omega) | (rw [b32]; intro j; have := hbb j; omega) | (rw [a35]; exact ⟨m1.1, m2 (by omega)⟩) | (rw [a37, a35]; exact ⟨m3, m4⟩) | (rw [← hb]; omega)) (by first | omega | assumption | exact hS.1 _ | exact hS.2 _ _ | exact hs0 | exact hT.1 _ | exact hT1.1 _ | exact r_okJ hT | (show 20 ≤ T.1 40 ∧ T.1 40 ≤ 305; omega) | (show 0 ≤ T.1 39 ∧ T.1 39 ≤ 300; omega) | (show 0 ≤ T.1 41 ∧ T.1 41 < 2; omega) | (rw [b32]; intro j; have := hbb j; omega) | (rw [a35]; exact ⟨m1.1, m2 (by omega)⟩) | (rw [a37, a35]; exact ⟨m3, m4⟩) | (rw [← hb]; omega)) (by first | omega | assumption | exact hS.1 _ | exact hS.2 _ _ | exact hs0 | exact hT.1 _ | exact hT1.1 _ | exact r_okJ hT | (show 20 ≤ T.1 40 ∧ T.1 40 ≤ 305; omega) | (show 0 ≤ T.1 39 ∧ T.1 39 ≤ 300; omega) | (show 0 ≤ T.1 41 ∧ T.1 41 < 2; omega) | (rw [b32]; intro j; have := hbb j; omega) | (rw [a35]; exact ⟨m1.1, m2 (by omega)⟩) | (rw [a37, a35]; exact ⟨m3, m4⟩) | (rw [← hb]; omega)) (by first | omega | assumption | exact hS.1 _ | exact hS.2 _ _ | exact hs0 | exact hT.1 _ | exact hT1.1 _ | exact r_okJ hT | (show 20 ≤ T.1 40 ∧ T.1 40 ≤ 305; omega) | (show 0 ≤ T.1 39 ∧ T.1 39 ≤ 300; omega) | (show 0 ≤ T.1 41 ∧ T.1 41 < 2; omega) | (rw [b32]; intro j; have := hbb j; omega) | (rw [a35]; exact ⟨m1.1, m2 (by omega)⟩) | (rw [a37, a35]; exact ⟨m3, m4⟩) | (rw [← hb]; omega))) (by rintro _ _ ⟨T2, kz2, ov2, rfl, rfl, hv2, hT2, hf2, hR2, hL2, hK2⟩; rfl)) ?_
          rintro _ _ ⟨T2, kz2, ov2, rfl, rfl, hv2, hT2, hf2, hR2, hL2, hK2⟩
          have hov1 : ov2 = 0 ∨ ov2 = 1 := (TKR_MI (by rw [a35]; exact ⟨m1.1, m2 (by rw [← a32]; omega)⟩) (by rw [a37]; exact m3) (by rw [a38]; exact m5) (by rw [a37, a35]; exact m4) hR2).2.2.2.2.2.1
          refine ⟨ov2, rfl, hov1, ?_⟩
          refine r_l0 ?_
          refine r_sinc (L2 := [_, _, _, _]) rfl rfl ?_
          refine r_lend (t + 1, ov + ov2, (if kz2 = -2 then kz else kz2), T2) rfl rfl ?_ (by first | omega | (dsimp only; omega))
          try dsimp only
          have c14 : T2.1 40 = T1.1 40 := hf2.1 40 (by decide)
          have c15 : T2.1 41 = T1.1 41 := hf2.1 41 (by decide)
          rw [a39, a35, a37, a38] at hR2
          rw [a35, b32] at hL2
          have hst : T.1 32 = 114 ∨ T.1 32 = 119 := by rw [← a32]; exact hpT1
          have hTK : TK1 l th (S.1 39) (mR T) (mR T2) kz2 ov2 := ⟨by show HTR (S.1 39) (T.1 40) (T.1 41) (T2.1 40) (T2.1 41); rw [c14, c15]; exact hH1, Or.inr ⟨hst, by show TKR l (HOTP (S.1 39) (T2.1 40)) (T.1 35) (T.1 37) (T.1 38) (T2.1 32) (T2.1 35) (T2.1 37) (T2.1 38) kz2 ov2; rw [c14]; exact hR2, hL2⟩⟩
          obtain ⟨hMI2, hov2, _⟩ := TK1_MI h39 hM hTK
          have hb2 := TK1_b (b := B + 30 * t) hthT hbb hTK
          have t2 : T2.2.2.1 3 = T.2.2.1 3 + 1 := (hf2.2.2.1 3 (by decide)).trans t1
          have k1 : T1.1 36 = T.1 36 := hf1.1 36 (by decide)
          refine ⟨by omega, hT2, r_frm (r_frt hG hf2) (by decide) (by decide) (by decide), ⟨mR T, kz, ov, kz2, ov2, hN, hTK, rfl, rfl⟩, ?_, by omega, hMI2, fun j => by have k : 0 ≤ T2.2.1 32 j ∧ T2.2.1 32 j ≤ B + 30 * t + 30 := hb2 j; omega⟩
          rw [hK2, k1, hK]
          by_cases d : kz2 = -2
          · rw [if_pos d, if_pos d]
          · rw [if_neg d, if_neg d, if_neg d]
        ·
          have hpF := hp9
          have hpF1 := hp9
          refine wS_skip ?_
          refine r_l0 ?_
          refine r_sinc (L2 := [_, _, _, _]) rfl rfl ?_
          refine r_lend (t + 1, ov, kz, T1) rfl rfl ?_ (by first | omega | (dsimp only; omega))
          try dsimp only
          have hst : ¬ (T.1 32 = 114 ∨ T.1 32 = 119) := by rw [← a32]; exact hpF1
          have hTK : TK1 l th (S.1 39) (mR T) (mR T1) (-2) 0 := ⟨hH1, Or.inl ⟨hst, a32, a35, a37, a38, b32, rfl, rfl⟩⟩
          obtain ⟨hMI2, hov2, _⟩ := TK1_MI h39 hM hTK
          have k1 : T1.1 36 = T.1 36 := hf1.1 36 (by decide)
          refine ⟨by omega, hT1, hG, ⟨mR T, kz, ov, -2, 0, hN, hTK, rfl, by omega⟩, by rw [k1]; exact hK, by omega, hMI2, fun j => by rw [b32]; have := hbb j; omega⟩
