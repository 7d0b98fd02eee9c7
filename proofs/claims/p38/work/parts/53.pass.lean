theorem sp_X4_passTicks {S : q_Sg} {c w : Nat} (hS : r_ok S) {l : List qCmd} {th : Int → Int} (hc : CREP S l th) (hO : COK l) (hn : l.length ≤ 6936) (hA : ∀ j, 0 ≤ j → j < 12 → S.2.1 18 j = 10 * th j) (hC : CLK l) (hth : ∀ j, 0 ≤ j → j < 12 → 0 ≤ th j ∧ th j ≤ 3) (h13 : 0 ≤ S.1 13 ∧ S.1 13 ≤ 300) (hMI : MI l (mC S)) {B : Int} (hB : ∀ j, 0 ≤ S.2.1 20 j ∧ S.2.1 20 j ≤ B) (hB2 : B ≤ 90000000) {n : Int} (hnn : 1 ≤ n ∧ n ≤ 200) : r_X f_X4_passTicks [.ref 45, iv n] (q_en S, c, w) (fun v h2 => ∃ T kz ov, h2 = (q_en T, c, w) ∧ v = iv ov ∧ r_ok T ∧ r_fr [21, 20, 19, 18, 16, 15, 14] [20] [2, 1] S T ∧ TKN l th (S.1 13) n.toNat (mC S) (mC T) kz ov ∧ T.1 21 = (if kz = -2 then S.1 21 else kz) ∧ T.2.2.1 2 - suml (T.2.1 20) 1728 = S.2.2.1 2 - suml (S.2.1 20) 1728 ∧ T.2.2.1 1 = S.2.2.1 1 + n ∧ MI l (mC T) ∧ ∀ j, 0 ≤ T.2.1 20 j ∧ T.2.1 20 j ≤ B + 30 * n) := by
  refine r_Xof (r_run (L := [_, _, _, _]) ⟨rfl, Nat.le_of_ble_eq_true rfl⟩ rfl ?_)
  unfold b_X4_passTicks
  refine r_seq ?_
  refine r_sloc (L2 := [_, _, _, _]) (r_lit ql_0) rfl rfl ?_
  refine r_k0 ?_
  refine r_seq ?_
  refine r_seq ?_
  refine r_sloc (L2 := [_, _, _, _]) (r_lit ql_0) rfl rfl ?_
  refine r_k0 ?_
  refine r_loop (T := Nat × Int × Int × q_Sg) (fun (σ : Nat × Int × Int × q_Sg) => match σ with | (t, ov, kz, T) => (t : Int) ≤ n ∧ r_ok T ∧ r_fr [21, 20, 19, 18, 16, 15, 14] [20] [2, 1] S T ∧ TKN l th (S.1 13) t (mC S) (mC T) kz ov ∧ T.1 21 = (if kz = -2 then S.1 21 else kz) ∧ T.2.2.1 2 - suml (T.2.1 20) 1728 = S.2.2.1 2 - suml (S.2.1 20) 1728 ∧ T.2.2.1 1 = S.2.2.1 1 + t ∧ MI l (mC T) ∧ ∀ j, 0 ≤ T.2.1 20 j ∧ T.2.1 20 j ≤ B + 30 * t) (fun (σ : Nat × Int × Int × q_Sg) => match σ with | (t, ov, kz, T) => n.toNat - t) (fun (σ : Nat × Int × Int × q_Sg) => match σ with | (t, ov, kz, T) => [some (.ref 45), some (iv n), some (iv ov), some (iv t)]) (fun (σ : Nat × Int × Int × q_Sg) => match σ with | (t, ov, kz, T) => (q_en T, c, w)) (0, 0, -2, S) rfl rfl ?_ ?_ ?_
  · exact ⟨by omega, hS, r_frm r_fr0 (by decide) (by decide) (by decide), ⟨rfl, rfl, rfl⟩, rfl, rfl, by omega, hMI, fun j => by have := hB j; omega⟩
  · (show _ < 1000000); first | omega | (dsimp only; omega)
  · rintro ⟨t, ov, kz, T⟩ hP
    try dsimp only at hP ⊢
    obtain ⟨ht, hT, hf, hN, hK, hj, htm, hM, hb⟩ := hP
    refine ⟨_, (r_lt (r_loc rfl rfl) (r_loc rfl rfl) (by first | omega | assumption | exact hS.1 _ | exact hS.2 _ _ | exact hT.1 _ | exact r_okJ hT | (show 20 ≤ T.1 14 ∧ T.1 14 ≤ 305; omega) | (show 0 ≤ T.1 13 ∧ T.1 13 ≤ 300; omega) | (show 0 ≤ T.1 15 ∧ T.1 15 < 2; omega) | exact hT1.1 _ | (rw [b18]; exact hA) | (rw [b20]; intro j; have := hb j; omega) | (rw [a18]; exact ⟨m1.1, m2 (by omega)⟩) | (rw [a19, a18]; exact ⟨m3, m4⟩)) (by first | omega | assumption | exact hS.1 _ | exact hS.2 _ _ | exact hT.1 _ | exact r_okJ hT | (show 20 ≤ T.1 14 ∧ T.1 14 ≤ 305; omega) | (show 0 ≤ T.1 13 ∧ T.1 13 ≤ 300; omega) | (show 0 ≤ T.1 15 ∧ T.1 15 < 2; omega) | exact hT1.1 _ | (rw [b18]; exact hA) | (rw [b20]; intro j; have := hb j; omega) | (rw [a18]; exact ⟨m1.1, m2 (by omega)⟩) | (rw [a19, a18]; exact ⟨m3, m4⟩))), fun hp1 => ?_, fun hp2 => ?_⟩
    ·
      refine r_k0 ?_
      refine r_sret (r_loc rfl rfl) ?_
      refine r_pret (q_fit_int _) r_le0 ?_
      have htn : (t : Int) = n := by omega
      have htt : n.toNat = t := by omega
      exact ⟨_, rfl, T, kz, ov, rfl, rfl, hT, hf, by rw [htt]; exact hN, hK, hj, by omega, hM, fun j => by have := hb j; omega⟩
    ·
      have htn : (t : Int) < n := hp2
      obtain ⟨m1, m2, m3, m4, m5, m6, m7⟩ := id hM
      have m1 : 0 ≤ T.1 18 ∧ T.1 18 ≤ l.length := m1
      have m2 : PRN (T.1 16) → T.1 18 < l.length := m2
      have m3 : 0 ≤ T.1 19 := m3
      have m4 : T.1 19 = 0 ∨ T.1 19 < LEN l (T.1 18) := m4
      have m5 : 0 ≤ T.1 20 ∧ T.1 20 ≤ 8 := m5
      have m6 : 20 ≤ T.1 14 ∧ T.1 14 ≤ 305 := m6
      have m7 : 0 ≤ T.1 15 ∧ T.1 15 < 2 := m7
      have e13 : T.1 13 = S.1 13 := hf.1 13 (by decide)
      have hcT := CREP_f hf (by decide) (by decide) (by decide) (by decide) hc
      have hxT := hO (T.1 18)
      have hthT := hth _ hxT.2.2.1.1 hxT.2.2.1.2
      refine r_seq ?_
      refine r_sA1 (r_loc rfl rfl) gg_Machine_time r_litl1 r_ladd2 gp_Machine_time ?_
      refine r_k0 ?_
      refine r_seq ?_
      refine r_call0 (r_cons (r_fld (r_loc rfl rfl) gg_Machine_heat) r_nil) rfl (sp_X2_passTick (by first | omega | assumption | exact hS.1 _ | exact hS.2 _ _ | exact hT.1 _ | exact r_okJ hT | (show 20 ≤ T.1 14 ∧ T.1 14 ≤ 305; omega) | (show 0 ≤ T.1 13 ∧ T.1 13 ≤ 300; omega) | (show 0 ≤ T.1 15 ∧ T.1 15 < 2; omega) | exact hT1.1 _ | (rw [b18]; exact hA) | (rw [b20]; intro j; have := hb j; omega) | (rw [a18]; exact ⟨m1.1, m2 (by omega)⟩) | (rw [a19, a18]; exact ⟨m3, m4⟩)) (by first | omega | assumption | exact hS.1 _ | exact hS.2 _ _ | exact hT.1 _ | exact r_okJ hT | (show 20 ≤ T.1 14 ∧ T.1 14 ≤ 305; omega) | (show 0 ≤ T.1 13 ∧ T.1 13 ≤ 300; omega) | (show 0 ≤ T.1 15 ∧ T.1 15 < 2; omega) | exact hT1.1 _ | (rw [b18]; exact hA) | (rw [b20]; intro j; have := hb j; omega) | (rw [a18]; exact ⟨m1.1, m2 (by omega)⟩) | (rw [a19, a18]; exact ⟨m3, m4⟩)) (by first | omega | assumption | exact hS.1 _ | exact hS.2 _ _ | exact hT.1 _ | exact r_okJ hT | (show 20 ≤ T.1 14 ∧ T.1 14 ≤ 305; omega) | (show 0 ≤ T.1 13 ∧ T.1 13 ≤ 300; omega) | (show 0 ≤ T.1 15 ∧ T.1 15 < 2; omega) | exact hT1.1 _ | (rw [b18]; exact hA) | (rw [b20]; intro j; have := hb j; omega) | (rw [a18]; exact ⟨m1.1, m2 (by omega)⟩) | (rw [a19, a18]; exact ⟨m3, m4⟩)) (by first | omega | assumption | exact hS.1 _ | exact hS.2 _ _ | exact hT.1 _ | exact r_okJ hT | (show 20 ≤ T.1 14 ∧ T.1 14 ≤ 305; omega) | (show 0 ≤ T.1 13 ∧ T.1 13 ≤ 300; omega) | (show 0 ≤ T.1 15 ∧ T.1 15 < 2; omega) | exact hT1.1 _ | (rw [b18]; exact hA) | (rw [b20]; intro j; have := hb j; omega) | (rw [a18]; exact ⟨m1.1, m2 (by omega)⟩) | (rw [a19, a18]; exact ⟨m3, m4⟩))) ?_
      rintro _ _ ⟨T1, rfl, hT1, hf1, hH1, ha1, ho1⟩
      have t1 : T1.2.2.1 1 = T.2.2.1 1 + 1 := hf1.2.2.1 1 (by decide)
      have hf1 : r_fr [14, 15] [] [1] T T1 := r_frm (r_frt (r_frJ (k := 1) r_fr0) hf1) (by decide) (by decide) (by decide)
      have hG : r_fr [21, 20, 19, 18, 16, 15, 14] [20] [2, 1] S T1 := r_frm (r_frt hf hf1) (by decide) (by decide) (by decide)
      have a13 : T1.1 13 = S.1 13 := hG.1 13 (by decide)
      have a16 : T1.1 16 = T.1 16 := hf1.1 16 (by decide)
      have a18 : T1.1 18 = T.1 18 := hf1.1 18 (by decide)
      have a19 : T1.1 19 = T.1 19 := hf1.1 19 (by decide)
      have a20 : T1.1 20 = T.1 20 := hf1.1 20 (by decide)
      have b20 : T1.2.1 20 = T.2.1 20 := hf1.2.1 20 (by decide)
      have b18 : T1.2.1 18 = S.2.1 18 := hG.2.1 18 (by decide)
      have hc1 := CREP_f hG (by decide) (by decide) (by decide) (by decide) hc
      have hH1 : HTR (T.1 13) (T.1 14) (T.1 15) (T1.1 14) (T1.1 15) := hH1
      have j2 : T1.2.2.1 2 = T.2.2.1 2 := hf1.2.2.1 2 (by decide)
      rw [e13] at hH1
      refine r_k0 ?_
      refine r_sifAC (r_or (r_eq (r_fld (r_loc rfl rfl) gg_Machine_state) (r_lit ql_114) (by first | omega | assumption | exact hS.1 _ | exact hS.2 _ _ | exact hT.1 _ | exact r_okJ hT | (show 20 ≤ T.1 14 ∧ T.1 14 ≤ 305; omega) | (show 0 ≤ T.1 13 ∧ T.1 13 ≤ 300; omega) | (show 0 ≤ T.1 15 ∧ T.1 15 < 2; omega) | exact hT1.1 _ | (rw [b18]; exact hA) | (rw [b20]; intro j; have := hb j; omega) | (rw [a18]; exact ⟨m1.1, m2 (by omega)⟩) | (rw [a19, a18]; exact ⟨m3, m4⟩)) (by first | omega | assumption | exact hS.1 _ | exact hS.2 _ _ | exact hT.1 _ | exact r_okJ hT | (show 20 ≤ T.1 14 ∧ T.1 14 ≤ 305; omega) | (show 0 ≤ T.1 13 ∧ T.1 13 ≤ 300; omega) | (show 0 ≤ T.1 15 ∧ T.1 15 < 2; omega) | exact hT1.1 _ | (rw [b18]; exact hA) | (rw [b20]; intro j; have := hb j; omega) | (rw [a18]; exact ⟨m1.1, m2 (by omega)⟩) | (rw [a19, a18]; exact ⟨m3, m4⟩))) (fun hp3 => (r_eq (r_fld (r_loc rfl rfl) gg_Machine_state) (r_lit ql_119) (by first | omega | assumption | exact hS.1 _ | exact hS.2 _ _ | exact hT.1 _ | exact r_okJ hT | (show 20 ≤ T.1 14 ∧ T.1 14 ≤ 305; omega) | (show 0 ≤ T.1 13 ∧ T.1 13 ≤ 300; omega) | (show 0 ≤ T.1 15 ∧ T.1 15 < 2; omega) | exact hT1.1 _ | (rw [b18]; exact hA) | (rw [b20]; intro j; have := hb j; omega) | (rw [a18]; exact ⟨m1.1, m2 (by omega)⟩) | (rw [a19, a18]; exact ⟨m3, m4⟩)) (by first | omega | assumption | exact hS.1 _ | exact hS.2 _ _ | exact hT.1 _ | exact r_okJ hT | (show 20 ≤ T.1 14 ∧ T.1 14 ≤ 305; omega) | (show 0 ≤ T.1 13 ∧ T.1 13 ≤ 300; omega) | (show 0 ≤ T.1 15 ∧ T.1 15 < 2; omega) | exact hT1.1 _ | (rw [b18]; exact hA) | (rw [b20]; intro j; have := hb j; omega) | (rw [a18]; exact ⟨m1.1, m2 (by omega)⟩) | (rw [a19, a18]; exact ⟨m3, m4⟩))))) (fun hp4 => (r_callC (r_cons (r_loc rfl rfl) r_nil) rfl (sp_X4_doTick (by first | omega | assumption | exact hS.1 _ | exact hS.2 _ _ | exact hT.1 _ | exact r_okJ hT | (show 20 ≤ T.1 14 ∧ T.1 14 ≤ 305; omega) | (show 0 ≤ T.1 13 ∧ T.1 13 ≤ 300; omega) | (show 0 ≤ T.1 15 ∧ T.1 15 < 2; omega) | exact hT1.1 _ | (rw [b18]; exact hA) | (rw [b20]; intro j; have := hb j; omega) | (rw [a18]; exact ⟨m1.1, m2 (by omega)⟩) | (rw [a19, a18]; exact ⟨m3, m4⟩)) (by first | omega | assumption | exact hS.1 _ | exact hS.2 _ _ | exact hT.1 _ | exact r_okJ hT | (show 20 ≤ T.1 14 ∧ T.1 14 ≤ 305; omega) | (show 0 ≤ T.1 13 ∧ T.1 13 ≤ 300; omega) | (show 0 ≤ T.1 15 ∧ T.1 15 < 2; omega) | exact hT1.1 _ | (rw [b18]; exact hA) | (rw [b20]; intro j; have := hb j; omega) | (rw [a18]; exact ⟨m1.1, m2 (by omega)⟩) | (rw [a19, a18]; exact ⟨m3, m4⟩)) (by first | omega | assumption | exact hS.1 _ | exact hS.2 _ _ | exact hT.1 _ | exact r_okJ hT | (show 20 ≤ T.1 14 ∧ T.1 14 ≤ 305; omega) | (show 0 ≤ T.1 13 ∧ T.1 13 ≤ 300; omega) | (show 0 ≤ T.1 15 ∧ T.1 15 < 2; omega) | exact hT1.1 _ | (rw [b18]; exact hA) | (rw [b20]; intro j; have := hb j; omega) | (rw [a18]; exact ⟨m1.1, m2 (by omega)⟩) | (rw [a19, a18]; exact ⟨m3, m4⟩)) (by first | omega | assumption | exact hS.1 _ | exact hS.2 _ _ | exact hT.1 _ | exact r_okJ hT | (show 20 ≤ T.1 14 ∧ T.1 14 ≤ 305; omega) | (show 0 ≤ T.1 13 ∧ T.1 13 ≤ 300; omega) | (show 0 ≤ T.1 15 ∧ T.1 15 < 2; omega) | exact hT1.1 _ | (rw [b18]; exact hA) | (rw [b20]; intro j; have := hb j; omega) | (rw [a18]; exact ⟨m1.1, m2 (by omega)⟩) | (rw [a19, a18]; exact ⟨m3, m4⟩)) (by first | omega | assumption | exact hS.1 _ | exact hS.2 _ _ | exact hT.1 _ | exact r_okJ hT | (show 20 ≤ T.1 14 ∧ T.1 14 ≤ 305; omega) | (show 0 ≤ T.1 13 ∧ T.1 13 ≤ 300; omega) | (show 0 ≤ T.1 15 ∧ T.1 15 < 2; omega) | exact hT1.1 _ | (rw [b18]; exact hA) | (rw [b20]; intro j; have := hb j; omega) | (rw [a18]; exact ⟨m1.1, m2 (by omega)⟩) | (rw [a19, a18]; exact ⟨m3, m4⟩)) (by first | omega | assumption | exact hS.1 _ | exact hS.2 _ _ | exact hT.1 _ | exact r_okJ hT | (show 20 ≤ T.1 14 ∧ T.1 14 ≤ 305; omega) | (show 0 ≤ T.1 13 ∧ T.1 13 ≤ 300; omega) | (show 0 ≤ T.1 15 ∧ T.1 15 < 2; omega) | exact hT1.1 _ | (rw [b18]; exact hA) | (rw [b20]; intro j; have := hb j; omega) | (rw [a18]; exact ⟨m1.1, m2 (by omega)⟩) | (rw [a19, a18]; exact ⟨m3, m4⟩)) (by first | omega | assumption | exact hS.1 _ | exact hS.2 _ _ | exact hT.1 _ | exact r_okJ hT | (show 20 ≤ T.1 14 ∧ T.1 14 ≤ 305; omega) | (show 0 ≤ T.1 13 ∧ T.1 13 ≤ 300; omega) | (show 0 ≤ T.1 15 ∧ T.1 15 < 2; omega) | exact hT1.1 _ | (rw [b18]; exact hA) | (rw [b20]; intro j; have := hb j; omega) | (rw [a18]; exact ⟨m1.1, m2 (by omega)⟩) | (rw [a19, a18]; exact ⟨m3, m4⟩)) (by first | omega | assumption | exact hS.1 _ | exact hS.2 _ _ | exact hT.1 _ | exact r_okJ hT | (show 20 ≤ T.1 14 ∧ T.1 14 ≤ 305; omega) | (show 0 ≤ T.1 13 ∧ T.1 13 ≤ 300; omega) | (show 0 ≤ T.1 15 ∧ T.1 15 < 2; omega) | exact hT1.1 _ | (rw [b18]; exact hA) | (rw [b20]; intro j; have := hb j; omega) | (rw [a18]; exact ⟨m1.1, m2 (by omega)⟩) | (rw [a19, a18]; exact ⟨m3, m4⟩)) (by first | omega | assumption | exact hS.1 _ | exact hS.2 _ _ | exact hT.1 _ | exact r_okJ hT | (show 20 ≤ T.1 14 ∧ T.1 14 ≤ 305; omega) | (show 0 ≤ T.1 13 ∧ T.1 13 ≤ 300; omega) | (show 0 ≤ T.1 15 ∧ T.1 15 < 2; omega) | exact hT1.1 _ | (rw [b18]; exact hA) | (rw [b20]; intro j; have := hb j; omega) | (rw [a18]; exact ⟨m1.1, m2 (by omega)⟩) | (rw [a19, a18]; exact ⟨m3, m4⟩)) (by first | omega | assumption | exact hS.1 _ | exact hS.2 _ _ | exact hT.1 _ | exact r_okJ hT | (show 20 ≤ T.1 14 ∧ T.1 14 ≤ 305; omega) | (show 0 ≤ T.1 13 ∧ T.1 13 ≤ 300; omega) | (show 0 ≤ T.1 15 ∧ T.1 15 < 2; omega) | exact hT1.1 _ | (rw [b18]; exact hA) | (rw [b20]; intro j; have := hb j; omega) | (rw [a18]; exact ⟨m1.1, m2 (by omega)⟩) | (rw [a19, a18]; exact ⟨m3, m4⟩)) (by first | omega | assumption | exact hS.1 _ | exact hS.2 _ _ | exact hT.1 _ | exact r_okJ hT | (show 20 ≤ T.1 14 ∧ T.1 14 ≤ 305; omega) | (show 0 ≤ T.1 13 ∧ T.1 13 ≤ 300; omega) | (show 0 ≤ T.1 15 ∧ T.1 15 < 2; omega) | exact hT1.1 _ | (rw [b18]; exact hA) | (rw [b20]; intro j; have := hb j; omega) | (rw [a18]; exact ⟨m1.1, m2 (by omega)⟩) | (rw [a19, a18]; exact ⟨m3, m4⟩)) (by first | omega | assumption | exact hS.1 _ | exact hS.2 _ _ | exact hT.1 _ | exact r_okJ hT | (show 20 ≤ T.1 14 ∧ T.1 14 ≤ 305; omega) | (show 0 ≤ T.1 13 ∧ T.1 13 ≤ 300; omega) | (show 0 ≤ T.1 15 ∧ T.1 15 < 2; omega) | exact hT1.1 _ | (rw [b18]; exact hA) | (rw [b20]; intro j; have := hb j; omega) | (rw [a18]; exact ⟨m1.1, m2 (by omega)⟩) | (rw [a19, a18]; exact ⟨m3, m4⟩)) (by first | omega | assumption | exact hS.1 _ | exact hS.2 _ _ | exact hT.1 _ | exact r_okJ hT | (show 20 ≤ T.1 14 ∧ T.1 14 ≤ 305; omega) | (show 0 ≤ T.1 13 ∧ T.1 13 ≤ 300; omega) | (show 0 ≤ T.1 15 ∧ T.1 15 < 2; omega) | exact hT1.1 _ | (rw [b18]; exact hA) | (rw [b20]; intro j; have := hb j; omega) | (rw [a18]; exact ⟨m1.1, m2 (by omega)⟩) | (rw [a19, a18]; exact ⟨m3, m4⟩))) (by rintro _ _ ⟨T2, kz2, ov2, rfl, rfl, hv2, hT2, hf2, hR2, hL2, hK2, hj2⟩; rfl))) (fun hp4 => ?_) (fun hp7 => ?_)
      ·
        rintro _ _ ⟨T2, kz2, ov2, rfl, rfl, hv2, hT2, hf2, hR2, hL2, hK2, hj2⟩
        refine ⟨_, rfl, (by first | omega | assumption | exact hS.1 _ | exact hS.2 _ _ | exact hT.1 _ | exact r_okJ hT | (show 20 ≤ T.1 14 ∧ T.1 14 ≤ 305; omega) | (show 0 ≤ T.1 13 ∧ T.1 13 ≤ 300; omega) | (show 0 ≤ T.1 15 ∧ T.1 15 < 2; omega) | exact hT1.1 _ | (rw [b18]; exact hA) | (rw [b20]; intro j; have := hb j; omega) | (rw [a18]; exact ⟨m1.1, m2 (by omega)⟩) | (rw [a19, a18]; exact ⟨m3, m4⟩)), fun hp5 => ?_, fun hp6 => ?_⟩
        ·
          refine r_sinc (L2 := [_, _, _, _]) rfl rfl ?_
          refine r_l0 ?_
          refine r_sinc (L2 := [_, _, _, _]) rfl rfl ?_
          refine r_lend (t + 1, ov + 1, (if kz2 = -2 then kz else kz2), T2) rfl rfl ?_ (by first | omega | (dsimp only; omega))
          try dsimp only
          have c14 : T2.1 14 = T1.1 14 := hf2.1 14 (by decide)
          have c15 : T2.1 15 = T1.1 15 := hf2.1 15 (by decide)
          rw [a13, a18, a19, a20] at hR2
          rw [a18, b20] at hL2
          have hst : T.1 16 = 114 ∨ T.1 16 = 119 := by rw [← a16]; assumption
          have hTK : TK1 l th (S.1 13) (mC T) (mC T2) kz2 ov2 := ⟨by show HTR (S.1 13) (T.1 14) (T.1 15) (T2.1 14) (T2.1 15); rw [c14, c15]; exact hH1, Or.inr ⟨hst, by show TKR l (HOTP (S.1 13) (T2.1 14)) (T.1 18) (T.1 19) (T.1 20) (T2.1 16) (T2.1 18) (T2.1 19) (T2.1 20) kz2 ov2; rw [c14]; exact hR2, hL2⟩⟩
          obtain ⟨hMI2, hov2, _⟩ := TK1_MI h13 hM hTK
          have hb2 := TK1_b (b := B + 30 * t) hthT hb hTK
          have t2 : T2.2.2.1 1 = T.2.2.1 1 + 1 := (hf2.2.2.1 1 (by decide)).trans t1
          have k1 : T1.1 21 = T.1 21 := hf1.1 21 (by decide)
          refine ⟨by omega, hT2, r_frm (r_frt hG hf2) (by decide) (by decide) (by decide), ⟨mC T, kz, ov, kz2, ov2, hN, hTK, rfl, by omega⟩, ?_, by rw [hj2, j2, b20]; exact hj, by omega, hMI2, fun j => by have k : 0 ≤ T2.2.1 20 j ∧ T2.2.1 20 j ≤ B + 30 * t + 30 := hb2 j; omega⟩
          rw [hK2, k1, hK]
          by_cases d : kz2 = -2
          · rw [if_pos d, if_pos d]
          · rw [if_neg d, if_neg d, if_neg d]
        ·
          refine wS_skip ?_
          refine r_l0 ?_
          refine r_sinc (L2 := [_, _, _, _]) rfl rfl ?_
          refine r_lend (t + 1, ov, (if kz2 = -2 then kz else kz2), T2) rfl rfl ?_ (by first | omega | (dsimp only; omega))
          try dsimp only
          have c14 : T2.1 14 = T1.1 14 := hf2.1 14 (by decide)
          have c15 : T2.1 15 = T1.1 15 := hf2.1 15 (by decide)
          rw [a13, a18, a19, a20] at hR2
          rw [a18, b20] at hL2
          have hst : T.1 16 = 114 ∨ T.1 16 = 119 := by rw [← a16]; assumption
          have hTK : TK1 l th (S.1 13) (mC T) (mC T2) kz2 ov2 := ⟨by show HTR (S.1 13) (T.1 14) (T.1 15) (T2.1 14) (T2.1 15); rw [c14, c15]; exact hH1, Or.inr ⟨hst, by show TKR l (HOTP (S.1 13) (T2.1 14)) (T.1 18) (T.1 19) (T.1 20) (T2.1 16) (T2.1 18) (T2.1 19) (T2.1 20) kz2 ov2; rw [c14]; exact hR2, hL2⟩⟩
          obtain ⟨hMI2, hov2, _⟩ := TK1_MI h13 hM hTK
          have hb2 := TK1_b (b := B + 30 * t) hthT hb hTK
          have t2 : T2.2.2.1 1 = T.2.2.1 1 + 1 := (hf2.2.2.1 1 (by decide)).trans t1
          have k1 : T1.1 21 = T.1 21 := hf1.1 21 (by decide)
          refine ⟨by omega, hT2, r_frm (r_frt hG hf2) (by decide) (by decide) (by decide), ⟨mC T, kz, ov, kz2, ov2, hN, hTK, rfl, by omega⟩, ?_, by rw [hj2, j2, b20]; exact hj, by omega, hMI2, fun j => by have k : 0 ≤ T2.2.1 20 j ∧ T2.2.1 20 j ≤ B + 30 * t + 30 := hb2 j; omega⟩
          rw [hK2, k1, hK]
          by_cases d : kz2 = -2
          · rw [if_pos d, if_pos d]
          · rw [if_neg d, if_neg d, if_neg d]
      ·
        refine wS_skip ?_
        refine r_l0 ?_
        refine r_sinc (L2 := [_, _, _, _]) rfl rfl ?_
        refine r_lend (t + 1, ov, kz, T1) rfl rfl ?_ (by first | omega | (dsimp only; omega))
        try dsimp only
        have hst : ¬ (T.1 16 = 114 ∨ T.1 16 = 119) := by rw [← a16]; assumption
        have hTK : TK1 l th (S.1 13) (mC T) (mC T1) (-2) 0 := ⟨hH1, Or.inl ⟨hst, a16, a18, a19, a20, b20, rfl, rfl⟩⟩
        obtain ⟨hMI2, hov2, _⟩ := TK1_MI h13 hM hTK
        have k1 : T1.1 21 = T.1 21 := hf1.1 21 (by decide)
        refine ⟨by omega, hT1, hG, ⟨mC T, kz, ov, -2, 0, hN, hTK, rfl, by omega⟩, by rw [k1]; exact hK, by rw [j2, b20]; exact hj, by omega, hMI2, fun j => by rw [b20]; have := hb j; omega⟩
theorem sp_X4_beginPrint {S : q_Sg} {c w : Nat} (hS : r_ok S)  : r_X f_X4_beginPrint [.ref 45] (q_en S, c, w) (fun _ h2 => ∃ g, h2 = (q_en (q_sJ (q_sA (q_sI (q_sI (q_sI (q_sI (q_sI (q_sI S 16 114) 22 0) 21 (-1)) 18 0) 19 0) 20 0) 20 g) 2 0), c, w) ∧ (∀ j, g j = r_i (0 ≤ j ∧ j < 1728) 0 (S.2.1 20 j)) ∧ ∀ j, rg (g j)) := by
  refine r_Xof (r_run (L := [_]) ⟨rfl, Nat.le_of_ble_eq_true rfl⟩ rfl ?_)
  unfold b_X4_beginPrint
  refine r_seq ?_
  refine r_sput (r_loc rfl rfl) (r_lit ql_114) (gp_Machine_state (by first | omega | assumption | exact hS.1 _ | exact hS.2 _ _ | exact r_okI (r_okI (r_okI hS (by omega)) (by omega)) (by omega) | exact r_okI (r_okI (r_okI (r_okI (r_okI (r_okI hS (by omega)) (by omega)) (by omega)) (by omega)) (by omega)) (by omega)) (by first | omega | assumption | exact hS.1 _ | exact hS.2 _ _ | exact r_okI (r_okI (r_okI hS (by omega)) (by omega)) (by omega) | exact r_okI (r_okI (r_okI (r_okI (r_okI (r_okI hS (by omega)) (by omega)) (by omega)) (by omega)) (by omega)) (by omega))) ?_
  refine r_k0 ?_
  refine r_seq ?_
  refine r_sput (r_loc rfl rfl) (r_lit ql_0) (gp_Machine_wasCut (by first | omega | assumption | exact hS.1 _ | exact hS.2 _ _ | exact r_okI (r_okI (r_okI hS (by omega)) (by omega)) (by omega) | exact r_okI (r_okI (r_okI (r_okI (r_okI (r_okI hS (by omega)) (by omega)) (by omega)) (by omega)) (by omega)) (by omega)) (by first | omega | assumption | exact hS.1 _ | exact hS.2 _ _ | exact r_okI (r_okI (r_okI hS (by omega)) (by omega)) (by omega) | exact r_okI (r_okI (r_okI (r_okI (r_okI (r_okI hS (by omega)) (by omega)) (by omega)) (by omega)) (by omega)) (by omega))) ?_
  refine r_k0 ?_
  refine r_seq ?_
  refine r_sput (r_loc rfl rfl) (r_lit ql_m1) gp_Machine_kept ?_
  refine r_k0 ?_
  refine r_seq ?_
  refine r_scallG (r_cons (r_loc rfl rfl) (r_cons (r_lit ql_0) r_nil)) rfl (sp_X4_goTo (by first | omega | assumption | exact hS.1 _ | exact hS.2 _ _ | exact r_okI (r_okI (r_okI hS (by omega)) (by omega)) (by omega) | exact r_okI (r_okI (r_okI (r_okI (r_okI (r_okI hS (by omega)) (by omega)) (by omega)) (by omega)) (by omega)) (by omega))) ?_
  refine r_k0 ?_
  refine r_seq ?_
  refine r_call0 (r_cons (r_fld (r_loc rfl rfl) gg_Machine_laid) (r_cons (r_lit ql_0) r_nil)) rfl (sp_J7_fill_Machine_laid (by first | omega | assumption | exact hS.1 _ | exact hS.2 _ _ | exact r_okI (r_okI (r_okI hS (by omega)) (by omega)) (by omega) | exact r_okI (r_okI (r_okI (r_okI (r_okI (r_okI hS (by omega)) (by omega)) (by omega)) (by omega)) (by omega)) (by omega)) (by first | omega | assumption | exact hS.1 _ | exact hS.2 _ _ | exact r_okI (r_okI (r_okI hS (by omega)) (by omega)) (by omega) | exact r_okI (r_okI (r_okI (r_okI (r_okI (r_okI hS (by omega)) (by omega)) (by omega)) (by omega)) (by omega)) (by omega))) ?_
  rintro _ _ ⟨g1, rfl, hg1, hr1⟩
  refine r_k0 ?_
  refine r_seq ?_
  refine r_sput (r_loc rfl rfl) r_litl0 gp_Machine_laidInAll ?_
  refine r_k0 ?_
  refine wS_retv ?_
  refine r_pretv r_le0 ?_
  exact ⟨_, rfl, g1, rfl, hg1, hr1⟩
theorem sp_X4_endPause {S : q_Sg} {c w : Nat} (hS : r_ok S)  : r_G f_X4_endPause [.ref 45] (q_en S, c, w) .null (q_en (q_sI S 16 114), c, w) := by
  refine r_Gof (r_run (L := [_]) ⟨rfl, Nat.le_of_ble_eq_true rfl⟩ rfl ?_)
  unfold b_X4_endPause
  refine r_seq ?_
  refine r_sput (r_loc rfl rfl) (r_lit ql_114) (gp_Machine_state (by first | omega | assumption | exact r_zrg _ | exact hS.1 _ | exact hS.2 _ _ | exact stg_b hS _ _ | exact r_irg (by first | assumption | omega | exact hS.1 _ | exact hS.2 _ _ | exact stg_b hS _ _) (by first | assumption | omega | exact hS.1 _ | exact hS.2 _ _)) (by first | omega | assumption | exact r_zrg _ | exact hS.1 _ | exact hS.2 _ _ | exact stg_b hS _ _ | exact r_irg (by first | assumption | omega | exact hS.1 _ | exact hS.2 _ _ | exact stg_b hS _ _) (by first | assumption | omega | exact hS.1 _ | exact hS.2 _ _))) ?_
  refine r_k0 ?_
  refine wS_retv ?_
  refine r_pretv r_le0 ?_
  exact ⟨rfl, rfl⟩
theorem sp_X4_beginFailure {S : q_Sg} {c w : Nat} (hS : r_ok S) (h16 : 0 ≤ S.1 16 ∧ S.1 16 < 65536) (h17 : 0 ≤ S.1 17 ∧ S.1 17 < 65536)  : r_G f_X4_beginFailure [.ref 45] (q_en S, c, w) (iv (S.1 16)) (q_en (q_sI (q_sI (q_sI (q_sI S 17 (S.1 16)) 16 102) 13 0) 20 0), c, w) := by
  refine r_Gof (r_run (L := [_]) ⟨rfl, Nat.le_of_ble_eq_true rfl⟩ rfl ?_)
  unfold b_X4_beginFailure
  refine r_seq ?_
  refine r_sput (r_loc rfl rfl) (r_fld (r_loc rfl rfl) gg_Machine_state) (gp_Machine_stateBeforeFailure (by first | omega | assumption | exact hS.1 _ | exact hS.2 _ _ | exact r_okI (r_okI hS (by omega)) (by omega) | (show 0 ≤ S.1 16; omega) | (show S.1 16 < 65536; omega)) (by first | omega | assumption | exact hS.1 _ | exact hS.2 _ _ | exact r_okI (r_okI hS (by omega)) (by omega) | (show 0 ≤ S.1 16; omega) | (show S.1 16 < 65536; omega))) ?_
  refine r_k0 ?_
  refine r_seq ?_
  refine r_sput (r_loc rfl rfl) (r_lit ql_102) (gp_Machine_state (by first | omega | assumption | exact hS.1 _ | exact hS.2 _ _ | exact r_okI (r_okI hS (by omega)) (by omega) | (show 0 ≤ S.1 16; omega) | (show S.1 16 < 65536; omega)) (by first | omega | assumption | exact hS.1 _ | exact hS.2 _ _ | exact r_okI (r_okI hS (by omega)) (by omega) | (show 0 ≤ S.1 16; omega) | (show S.1 16 < 65536; omega))) ?_
  refine r_k0 ?_
  refine r_seq ?_
  refine r_spopG (r_callG (r_cons (r_fld (r_loc rfl rfl) gg_Machine_heat) (r_cons (r_lit ql_0) r_nil)) rfl (sp_X2_changeTarget (by first | omega | assumption | exact hS.1 _ | exact hS.2 _ _ | exact r_okI (r_okI hS (by omega)) (by omega) | (show 0 ≤ S.1 16; omega) | (show S.1 16 < 65536; omega))) rfl) ?_
  refine r_k0 ?_
  refine r_seq ?_
  refine r_sput (r_loc rfl rfl) (r_lit ql_0) gp_Machine_speed ?_
  refine r_k0 ?_
  refine r_sret (r_fld (r_loc rfl rfl) gg_Machine_stateBeforeFailure) ?_
  refine r_pret (q_fit_char (by first | omega | assumption | exact hS.1 _ | exact hS.2 _ _ | exact r_okI (r_okI hS (by omega)) (by omega) | (show 0 ≤ S.1 16; omega) | (show S.1 16 < 65536; omega)) (by first | omega | assumption | exact hS.1 _ | exact hS.2 _ _ | exact r_okI (r_okI hS (by omega)) (by omega) | (show 0 ≤ S.1 16; omega) | (show S.1 16 < 65536; omega))) r_le0 ?_
  exact ⟨rfl, rfl⟩
theorem sp_X4_endFailure {S : q_Sg} {c w : Nat} (hS : r_ok S) (h16 : 0 ≤ S.1 16 ∧ S.1 16 < 65536) (h17 : 0 ≤ S.1 17 ∧ S.1 17 < 65536)  : r_G f_X4_endFailure [.ref 45] (q_en S, c, w) (iv (S.1 17)) (q_en (q_sI S 16 (S.1 17)), c, w) := by
  refine r_Gof (r_run (L := [_]) ⟨rfl, Nat.le_of_ble_eq_true rfl⟩ rfl ?_)
  unfold b_X4_endFailure
  refine r_seq ?_
  refine r_sput (r_loc rfl rfl) (r_fld (r_loc rfl rfl) gg_Machine_stateBeforeFailure) (gp_Machine_state (by first | omega | assumption | exact hS.1 _ | exact hS.2 _ _ | (show 0 ≤ S.1 17; omega) | (show S.1 17 < 65536; omega)) (by first | omega | assumption | exact hS.1 _ | exact hS.2 _ _ | (show 0 ≤ S.1 17; omega) | (show S.1 17 < 65536; omega))) ?_
  refine r_k0 ?_
  refine r_sret (r_fld (r_loc rfl rfl) gg_Machine_state) ?_
  refine r_pret (q_fit_char (by first | omega | assumption | exact hS.1 _ | exact hS.2 _ _ | (show 0 ≤ S.1 17; omega) | (show S.1 17 < 65536; omega)) (by first | omega | assumption | exact hS.1 _ | exact hS.2 _ _ | (show 0 ≤ S.1 17; omega) | (show S.1 17 < 65536; omega))) r_le0 ?_
  exact ⟨rfl, rfl⟩
theorem sp_X4_currentState {S : q_Sg} {c w : Nat} (hS : r_ok S) (h16 : 0 ≤ S.1 16 ∧ S.1 16 < 65536) : r_F f_X4_currentState [.ref 45] (q_en S, c, w) (iv (S.1 16)) := by
  refine r_Fof (r_run (L := [_]) ⟨rfl, Nat.le_of_ble_eq_true rfl⟩ rfl ?_)
  unfold b_X4_currentState
  refine r_sret (r_fld (r_loc rfl rfl) gg_Machine_state) ?_
  refine r_pret (q_fit_char (by first | omega | assumption | exact r_zrg _ | exact hS.1 _ | exact hS.2 _ _ | exact stg_b hS _ _ | exact r_irg (by first | assumption | omega | exact hS.1 _ | exact hS.2 _ _ | exact stg_b hS _ _) (by first | assumption | omega | exact hS.1 _ | exact hS.2 _ _)) (by first | omega | assumption | exact r_zrg _ | exact hS.1 _ | exact hS.2 _ _ | exact stg_b hS _ _ | exact r_irg (by first | assumption | omega | exact hS.1 _ | exact hS.2 _ _ | exact stg_b hS _ _) (by first | assumption | omega | exact hS.1 _ | exact hS.2 _ _))) r_le0 ⟨congrArg Sum.inl ?_, rfl⟩
  refine congrArg iv ?_
  rfl
theorem sp_X4_nextCommand {S : q_Sg} {c w : Nat} (hS : r_ok S)  : r_F f_X4_nextCommand [.ref 45] (q_en S, c, w) (iv (S.1 18)) := by
  refine r_Fof (r_run (L := [_]) ⟨rfl, Nat.le_of_ble_eq_true rfl⟩ rfl ?_)
  unfold b_X4_nextCommand
  refine r_sret (r_fld (r_loc rfl rfl) gg_Machine_next) ?_
  refine r_pret (q_fit_int _) r_le0 ⟨congrArg Sum.inl ?_, rfl⟩
  refine congrArg iv ?_
  rfl
theorem sp_X4_currentSpeed {S : q_Sg} {c w : Nat} (hS : r_ok S)  : r_F f_X4_currentSpeed [.ref 45] (q_en S, c, w) (iv (S.1 20)) := by
  refine r_Fof (r_run (L := [_]) ⟨rfl, Nat.le_of_ble_eq_true rfl⟩ rfl ?_)
  unfold b_X4_currentSpeed
  refine r_sret (r_fld (r_loc rfl rfl) gg_Machine_speed) ?_
  refine r_pret (q_fit_int _) r_le0 ⟨congrArg Sum.inl ?_, rfl⟩
  refine congrArg iv ?_
  rfl
theorem sp_X4_ticksPassed {S : q_Sg} {c w : Nat} (hS : r_ok S)  : r_F f_X4_ticksPassed [.ref 45] (q_en S, c, w) (.long (Int64.ofInt (S.2.2.1 1))) := by
  refine r_Fof (r_run (L := [_]) ⟨rfl, Nat.le_of_ble_eq_true rfl⟩ rfl ?_)
  unfold b_X4_ticksPassed
  refine r_sret (r_fld (r_loc rfl rfl) gg_Machine_time) ?_
  refine r_pret (q_fit_long _) r_le0 ⟨congrArg Sum.inl ?_, rfl⟩
  rfl
theorem sp_X4_sumOfLaid {S : q_Sg} {c w : Nat} (hS : r_ok S)  : r_F f_X4_sumOfLaid [.ref 45] (q_en S, c, w) (.long (Int64.ofInt (S.2.2.1 2))) := by
  refine r_Fof (r_run (L := [_]) ⟨rfl, Nat.le_of_ble_eq_true rfl⟩ rfl ?_)
  unfold b_X4_sumOfLaid
  refine r_sret (r_fld (r_loc rfl rfl) gg_Machine_laidInAll) ?_
  refine r_pret (q_fit_long _) r_le0 ⟨congrArg Sum.inl ?_, rfl⟩
  rfl
theorem sp_X4_laidIn {S : q_Sg} {c w : Nat} (hS : r_ok S) {x y z : Int} (hx : 0 ≤ x ∧ x < 12) (hy : 0 ≤ y ∧ y < 12) (hz : 0 ≤ z ∧ z < 12) : r_F f_X4_laidIn [.ref 45, iv x, iv y, iv z] (q_en S, c, w) (iv (S.2.1 20 (144 * z + 12 * y + x))) := by
  refine r_Fof (r_run (L := [_, _, _, _]) ⟨rfl, Nat.le_of_ble_eq_true rfl⟩ rfl ?_)
  unfold b_X4_laidIn
  refine r_sret (r_if (r_bz (r_call (r_cons (r_loc rfl rfl) (r_cons (r_loc rfl rfl) (r_cons (r_loc rfl rfl) r_nil))) rfl (sp_X9_isCell (by first | omega | assumption | exact r_zrg _ | exact hS.1 _ | exact hS.2 _ _ | exact stg_b hS _ _ | exact r_irg (by first | assumption | omega | exact hS.1 _ | exact hS.2 _ _ | exact stg_b hS _ _) (by first | assumption | omega | exact hS.1 _ | exact hS.2 _ _)) (by first | omega | assumption | exact r_zrg _ | exact hS.1 _ | exact hS.2 _ _ | exact stg_b hS _ _ | exact r_irg (by first | assumption | omega | exact hS.1 _ | exact hS.2 _ _ | exact stg_b hS _ _) (by first | assumption | omega | exact hS.1 _ | exact hS.2 _ _)) (by first | omega | assumption | exact r_zrg _ | exact hS.1 _ | exact hS.2 _ _ | exact stg_b hS _ _ | exact r_irg (by first | assumption | omega | exact hS.1 _ | exact hS.2 _ _ | exact stg_b hS _ _) (by first | assumption | omega | exact hS.1 _ | exact hS.2 _ _))) rfl)) (fun hp1 => (r_aget ga_Machine_laid (r_fld (r_loc rfl rfl) gg_Machine_laid) (r_call (r_cons (r_loc rfl rfl) (r_cons (r_loc rfl rfl) (r_cons (r_loc rfl rfl) r_nil))) rfl sp_X9_indexOf rfl) (by first | omega | assumption | exact r_zrg _ | exact hS.1 _ | exact hS.2 _ _ | exact stg_b hS _ _ | exact r_irg (by first | assumption | omega | exact hS.1 _ | exact hS.2 _ _ | exact stg_b hS _ _) (by first | assumption | omega | exact hS.1 _ | exact hS.2 _ _)) (by first | omega | assumption | exact r_zrg _ | exact hS.1 _ | exact hS.2 _ _ | exact stg_b hS _ _ | exact r_irg (by first | assumption | omega | exact hS.1 _ | exact hS.2 _ _ | exact stg_b hS _ _) (by first | assumption | omega | exact hS.1 _ | exact hS.2 _ _)) (by decide))) (fun hp2 => (r_lit ql_0))) ?_
  refine r_pret (q_fit_int _) r_le0 ⟨congrArg Sum.inl ?_, rfl⟩
  refine congrArg iv ?_
  exact r_i1 ⟨hx, hy, hz⟩
theorem sp_X1_has {S : q_Sg} {c w : Nat} (hS : r_ok S) {i : Int} (hi : rg i) : r_F f_X1_has [.ref 36, iv i] (q_en S, c, w) (r_b (0 ≤ i ∧ i < S.1 9)) := by
  refine r_Fof (r_run (L := [_, _]) ⟨rfl, Nat.le_of_ble_eq_true rfl⟩ rfl ?_)
  unfold b_X1_has
  refine r_sret (r_if10 (r_and (r_z_ge (r_loc rfl rfl) (by first | omega | assumption | exact r_zrg _ | exact hS.1 _ | exact hS.2 _ _ | exact stg_b hS _ _ | exact r_irg (by first | assumption | omega | exact hS.1 _ | exact hS.2 _ _ | exact stg_b hS _ _) (by first | assumption | omega | exact hS.1 _ | exact hS.2 _ _))) (fun hp1 => (r_lt (r_loc rfl rfl) (r_fld (r_loc rfl rfl) gg_Commands_count) (by first | omega | assumption | exact r_zrg _ | exact hS.1 _ | exact hS.2 _ _ | exact stg_b hS _ _ | exact r_irg (by first | assumption | omega | exact hS.1 _ | exact hS.2 _ _ | exact stg_b hS _ _) (by first | assumption | omega | exact hS.1 _ | exact hS.2 _ _)) (by first | omega | assumption | exact r_zrg _ | exact hS.1 _ | exact hS.2 _ _ | exact stg_b hS _ _ | exact r_irg (by first | assumption | omega | exact hS.1 _ | exact hS.2 _ _ | exact stg_b hS _ _) (by first | assumption | omega | exact hS.1 _ | exact hS.2 _ _)))))) ?_
  refine r_pret (r_fitb _) r_le0 ⟨congrArg Sum.inl ?_, rfl⟩
  refine r_bc ?_
  exact Iff.rfl
theorem sp_X1_travelled {S : q_Sg} {c w : Nat} (hS : r_ok S)  : r_F f_X1_travelled [.ref 36] (q_en S, c, w) (iv (S.1 10)) := by
  refine r_Fof (r_run (L := [_]) ⟨rfl, Nat.le_of_ble_eq_true rfl⟩ rfl ?_)
  unfold b_X1_travelled
  refine r_sret (r_fld (r_loc rfl rfl) gg_Commands_travel) ?_
  refine r_pret (q_fit_int _) r_le0 ⟨congrArg Sum.inl ?_, rfl⟩
  refine congrArg iv ?_
  rfl
theorem sp_X1_amountInAll {S : q_Sg} {c w : Nat} (hS : r_ok S)  : r_F f_X1_amountInAll [.ref 36] (q_en S, c, w) (.long (Int64.ofInt (S.2.2.1 0))) := by
  refine r_Fof (r_run (L := [_]) ⟨rfl, Nat.le_of_ble_eq_true rfl⟩ rfl ?_)
  unfold b_X1_amountInAll
  refine r_sret (r_fld (r_loc rfl rfl) gg_Commands_amount) ?_
  refine r_pret (q_fit_long _) r_le0 ⟨congrArg Sum.inl ?_, rfl⟩
  rfl
theorem sp_X1_hasNumber {S : q_Sg} {c w : Nat} (hS : r_ok S) {l : List qCmd} {th : Int → Int} (hc : CREP S l th) (hO : COK l) (hn : l.length ≤ 6936) {i : Int} (hi : -1 ≤ i ∧ i ≤ 7000) {k : Int} (hk : rg k) : r_F f_X1_hasNumber [.ref 36, iv i, iv k] (q_en S, c, w) (r_b ((k = 97 ∧ (cg l i).1 = 100) ∨ ((k = 120 ∨ k = 121) ∧ MV l i) ∨ (¬ k = 97 ∧ ¬ k = 120 ∧ ¬ k = 121 ∧ (cg l i).1 = 122))) := by
  refine r_Fof (r_run (L := [_, _, _]) ⟨rfl, Nat.le_of_ble_eq_true rfl⟩ rfl ?_)
  unfold b_X1_hasNumber
  refine r_ssw (r_loc rfl rfl) (by first | omega | assumption | exact hS.1 _ | exact hS.2 _ _ | (have := kd_b hO i; omega)) ?_
  refine r_pkc (fun hp1 => ?_) (fun hp2 => ?_)
  ·
    refine r_sret (r_if10 (r_eq (r_call (r_cons (r_loc rfl rfl) (r_cons (r_loc rfl rfl) r_nil)) rfl (sp_X1_kindOf (by first | omega | assumption | exact hS.1 _ | exact hS.2 _ _ | (have := kd_b hO i; omega)) (by first | omega | assumption | exact hS.1 _ | exact hS.2 _ _ | (have := kd_b hO i; omega)) (by first | omega | assumption | exact hS.1 _ | exact hS.2 _ _ | (have := kd_b hO i; omega)) (by first | omega | assumption | exact hS.1 _ | exact hS.2 _ _ | (have := kd_b hO i; omega)) (by first | omega | assumption | exact hS.1 _ | exact hS.2 _ _ | (have := kd_b hO i; omega))) rfl) (r_lit ql_100) (by first | omega | assumption | exact hS.1 _ | exact hS.2 _ _ | (have := kd_b hO i; omega)) (by first | omega | assumption | exact hS.1 _ | exact hS.2 _ _ | (have := kd_b hO i; omega)))) ?_
    refine r_ws (j := 2) ?_
    refine r_pret (r_fitb _) r_le0 ⟨congrArg Sum.inl ?_, rfl⟩
    refine r_bc ?_
    rw [kd_e (by decide)]; omega
  ·
    refine r_pkc (fun hp3 => ?_) (fun hp4 => ?_)
    ·
      refine r_sret (r_call (r_cons (r_loc rfl rfl) (r_cons (r_loc rfl rfl) r_nil)) rfl (sp_X1_isMove (by first | omega | assumption | exact hS.1 _ | exact hS.2 _ _ | (have := kd_b hO i; omega)) (by first | omega | assumption | exact hS.1 _ | exact hS.2 _ _ | (have := kd_b hO i; omega)) (by first | omega | assumption | exact hS.1 _ | exact hS.2 _ _ | (have := kd_b hO i; omega)) (by first | omega | assumption | exact hS.1 _ | exact hS.2 _ _ | (have := kd_b hO i; omega)) (by first | omega | assumption | exact hS.1 _ | exact hS.2 _ _ | (have := kd_b hO i; omega))) rfl) ?_
      refine r_ws (j := 2) ?_
      refine r_pret (r_fitb _) r_le0 ⟨congrArg Sum.inl ?_, rfl⟩
      refine r_bc ?_
      exact ⟨fun c => Or.inr (Or.inl ⟨by omega, c⟩), fun c => by
        rcases c with c | c | c
        · exact absurd c.1 (by omega)
        · exact c.2
        · exact absurd c.2.1 (by omega)⟩
    ·
      refine r_pkc (fun hp5 => ?_) (fun hp6 => ?_)
      ·
        refine r_sret (r_call (r_cons (r_loc rfl rfl) (r_cons (r_loc rfl rfl) r_nil)) rfl (sp_X1_isMove (by first | omega | assumption | exact hS.1 _ | exact hS.2 _ _ | (have := kd_b hO i; omega)) (by first | omega | assumption | exact hS.1 _ | exact hS.2 _ _ | (have := kd_b hO i; omega)) (by first | omega | assumption | exact hS.1 _ | exact hS.2 _ _ | (have := kd_b hO i; omega)) (by first | omega | assumption | exact hS.1 _ | exact hS.2 _ _ | (have := kd_b hO i; omega)) (by first | omega | assumption | exact hS.1 _ | exact hS.2 _ _ | (have := kd_b hO i; omega))) rfl) ?_
        refine r_ws (j := 2) ?_
        refine r_pret (r_fitb _) r_le0 ⟨congrArg Sum.inl ?_, rfl⟩
        refine r_bc ?_
        exact ⟨fun c => Or.inr (Or.inl ⟨by omega, c⟩), fun c => by
          rcases c with c | c | c
          · exact absurd c.1 (by omega)
          · exact c.2
          · exact absurd c.2.1 (by omega)⟩
      ·
        refine r_pkn ?_
        refine r_sret (r_if10 (r_eq (r_call (r_cons (r_loc rfl rfl) (r_cons (r_loc rfl rfl) r_nil)) rfl (sp_X1_kindOf (by first | omega | assumption | exact hS.1 _ | exact hS.2 _ _ | (have := kd_b hO i; omega)) (by first | omega | assumption | exact hS.1 _ | exact hS.2 _ _ | (have := kd_b hO i; omega)) (by first | omega | assumption | exact hS.1 _ | exact hS.2 _ _ | (have := kd_b hO i; omega)) (by first | omega | assumption | exact hS.1 _ | exact hS.2 _ _ | (have := kd_b hO i; omega)) (by first | omega | assumption | exact hS.1 _ | exact hS.2 _ _ | (have := kd_b hO i; omega))) rfl) (r_lit ql_122) (by first | omega | assumption | exact hS.1 _ | exact hS.2 _ _ | (have := kd_b hO i; omega)) (by first | omega | assumption | exact hS.1 _ | exact hS.2 _ _ | (have := kd_b hO i; omega)))) ?_
        refine r_ws (j := 2) ?_
        refine r_pret (r_fitb _) r_le0 ⟨congrArg Sum.inl ?_, rfl⟩
        refine r_bc ?_
        rw [kd_e (by decide)]; omega
theorem sp_X1_numberOf {S : q_Sg} {c w : Nat} (hS : r_ok S) {l : List qCmd} {th : Int → Int} (hc : CREP S l th) (hO : COK l) (hn : l.length ≤ 6936) {i : Int} (hi : -1 ≤ i ∧ i ≤ 7000) (hA : ∀ j, 0 ≤ j → j < 12 → S.2.1 18 j = 10 * th j) {k : Int} (hk : rg k) : r_F f_X1_numberOf [.ref 36, iv i, iv k] (q_en S, c, w) (iv (r_i (k = 97) (cC l i * (10 * th (cg l i).2.2.2)) (r_i (k = 120) (cg l i).2.1 (r_i (k = 121) (cg l i).2.2.1 (cg l i).2.2.2)))) := by
  refine r_Fof (r_run (L := [_, _, _]) ⟨rfl, Nat.le_of_ble_eq_true rfl⟩ rfl ?_)
  unfold b_X1_numberOf
  refine r_ssw (r_loc rfl rfl) (by first | omega | assumption | exact hS.1 _ | exact hS.2 _ _) ?_
  refine r_pkc (fun hp1 => ?_) (fun hp2 => ?_)
  ·
    refine r_sret (r_mul (r_call (r_cons (r_loc rfl rfl) (r_cons (r_loc rfl rfl) r_nil)) rfl (sp_X1_cellsOf (by first | omega | assumption | exact hS.1 _ | exact hS.2 _ _) (by first | omega | assumption | exact hS.1 _ | exact hS.2 _ _) (by first | omega | assumption | exact hS.1 _ | exact hS.2 _ _) (by first | omega | assumption | exact hS.1 _ | exact hS.2 _ _) (by first | omega | assumption | exact hS.1 _ | exact hS.2 _ _)) rfl) (r_call (r_cons (r_loc rfl rfl) (r_cons (r_loc rfl rfl) r_nil)) rfl (sp_X1_cellAmount (by first | omega | assumption | exact hS.1 _ | exact hS.2 _ _) (by first | omega | assumption | exact hS.1 _ | exact hS.2 _ _) (by first | omega | assumption | exact hS.1 _ | exact hS.2 _ _) (by first | omega | assumption | exact hS.1 _ | exact hS.2 _ _) (by first | omega | assumption | exact hS.1 _ | exact hS.2 _ _) (by first | omega | assumption | exact hS.1 _ | exact hS.2 _ _)) rfl)) ?_
    refine r_ws (j := 2) ?_
    refine r_pret (q_fit_int _) r_le0 ⟨congrArg Sum.inl ?_, rfl⟩
    refine congrArg iv ?_
    unfold r_i; (repeat' split) <;> first | rfl | omega
  ·
    refine r_pkc (fun hp3 => ?_) (fun hp4 => ?_)
    ·
      refine r_sret (r_call (r_cons (r_loc rfl rfl) (r_cons (r_loc rfl rfl) r_nil)) rfl (sp_X1_behindX (by first | omega | assumption | exact hS.1 _ | exact hS.2 _ _) (by first | omega | assumption | exact hS.1 _ | exact hS.2 _ _) (by first | omega | assumption | exact hS.1 _ | exact hS.2 _ _) (by first | omega | assumption | exact hS.1 _ | exact hS.2 _ _) (by first | omega | assumption | exact hS.1 _ | exact hS.2 _ _)) rfl) ?_
      refine r_ws (j := 2) ?_
      refine r_pret (q_fit_int _) r_le0 ⟨congrArg Sum.inl ?_, rfl⟩
      refine congrArg iv ?_
      unfold r_i; (repeat' split) <;> first | rfl | omega
    ·
      refine r_pkc (fun hp5 => ?_) (fun hp6 => ?_)
      ·
        refine r_sret (r_call (r_cons (r_loc rfl rfl) (r_cons (r_loc rfl rfl) r_nil)) rfl (sp_X1_behindY (by first | omega | assumption | exact hS.1 _ | exact hS.2 _ _) (by first | omega | assumption | exact hS.1 _ | exact hS.2 _ _) (by first | omega | assumption | exact hS.1 _ | exact hS.2 _ _) (by first | omega | assumption | exact hS.1 _ | exact hS.2 _ _) (by first | omega | assumption | exact hS.1 _ | exact hS.2 _ _)) rfl) ?_
        refine r_ws (j := 2) ?_
        refine r_pret (q_fit_int _) r_le0 ⟨congrArg Sum.inl ?_, rfl⟩
        refine congrArg iv ?_
        unfold r_i; (repeat' split) <;> first | rfl | omega
      ·
        refine r_pkn ?_
        refine r_sret (r_call (r_cons (r_loc rfl rfl) (r_cons (r_loc rfl rfl) r_nil)) rfl (sp_X1_layerOf (by first | omega | assumption | exact hS.1 _ | exact hS.2 _ _) (by first | omega | assumption | exact hS.1 _ | exact hS.2 _ _) (by first | omega | assumption | exact hS.1 _ | exact hS.2 _ _) (by first | omega | assumption | exact hS.1 _ | exact hS.2 _ _) (by first | omega | assumption | exact hS.1 _ | exact hS.2 _ _)) rfl) ?_
        refine r_ws (j := 2) ?_
        refine r_pret (q_fit_int _) r_le0 ⟨congrArg Sum.inl ?_, rfl⟩
        refine congrArg iv ?_
        unfold r_i; (repeat' split) <;> first | rfl | omega
