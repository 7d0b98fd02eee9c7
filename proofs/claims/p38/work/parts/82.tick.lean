theorem sp_L_isTick {S : q_Sg} {c w : Nat} (hS : r_ok S) {l : List qCmd} {th : Int → Int} (hc : CREP S l th) (hO : COK l) (hn : l.length ≤ 6936) (hA : ∀ j, 0 ≤ j → j < 12 → S.2.1 18 j = 10 * th j) (hC : CLK l) (hth : ∀ j, 0 ≤ j → j < 12 → 0 ≤ th j ∧ th j ≤ 3) (hR : RUN l th (mC S)) (h13 : S.1 13 = 200) (h17 : 0 ≤ S.1 17 ∧ S.1 17 < 65536) {B : Int} (hB : ∀ j, 0 ≤ S.2.1 20 j ∧ S.2.1 20 j ≤ B) (hB2 : B ≤ 90000000) (ha : S.1 16 = 114 ∨ S.1 16 = 119) : r_X f_L_isTick [.ref 16] (q_en S, c, w) (fun v h2 => ∃ z T, v = iv 1 ∧ h2 = (q_en T, c, w) ∧ PAS l th 1 B S T z) := by
  refine r_Xof (r_run (L := [_, _, _, _, _, _, _]) ⟨rfl, Nat.le_of_ble_eq_true rfl⟩ rfl ?_)
  unfold b_L_isTick
  obtain ⟨z, T, hps, hz, hP⟩ := sx_X9_pass (c := c) (w := w) hS hc hO hn hA hC hth (by omega) hR.1 hB hB2 (m := 1) (by omega)
  obtain ⟨kz, hT, hf, hN, hs2, htm, hMT, hbT⟩ := id hP
  rw [h13] at hN
  obtain ⟨m1, kz1, ov1, kz2, ov2, ⟨e1, e2, e3⟩, hK, e4, e5⟩ := hN
  subst e1
  obtain ⟨g1, g2, g3, g4, g5, g6, g7⟩ := RUN_s hO hR hK
  obtain ⟨g8, g9, _, g10, _, g11⟩ := id g1
  have a2 : ov2 = T.1 18 - S.1 18 := g2
  have a4 : T.1 20 ≤ S.1 20 + 1 := g4
  have a9 : T.1 16 = 114 ∨ T.1 16 = 119 ∨ T.1 16 = 112 ∨ T.1 16 = 100 := g9
  have a10 : T.1 16 = 119 → T.1 20 = 0 := g10
  have a11 : T.1 14 ≤ 205 := g11
  have a14 : 20 ≤ T.1 14 ∧ T.1 14 ≤ 305 := g8.2.2.2.2.2.1
  have a20 : 0 ≤ T.1 20 ∧ T.1 20 ≤ 8 := g8.2.2.2.2.1
  have b20 : 0 ≤ S.1 20 ∧ S.1 20 ≤ 8 := hR.1.2.2.2.2.1
  have b18 : 0 ≤ S.1 18 ∧ S.1 18 ≤ l.length := hR.1.1
  have a18 : 0 ≤ T.1 18 ∧ T.1 18 ≤ l.length := g8.1
  have h16 : 0 ≤ S.1 16 ∧ S.1 16 < 65536 := by omega
  have a16 : 0 ≤ T.1 16 ∧ T.1 16 < 65536 := by omega
  have a17 : 0 ≤ T.1 17 ∧ T.1 17 < 65536 := by rw [hf.1 17 (by decide)]; exact h17
  refine r_seq ?_
  refine r_sloc (L2 := [_, _, _, _, _, _, _]) (r_call (r_cons (r_loc rfl rfl) r_nil) rfl (sp_X9_speed (by first | omega | assumption | exact hS.1 _ | exact hT.1 _ | exact r_zrg _)) rfl) rfl rfl ?_
  refine r_k0 ?_
  refine r_seq ?_
  refine r_sloc (L2 := [_, _, _, _, _, _, _]) (r_call (r_cons (r_loc rfl rfl) r_nil) rfl (sp_X9_next (by first | omega | assumption | exact hS.1 _ | exact hT.1 _ | exact r_zrg _)) rfl) rfl rfl ?_
  refine r_k0 ?_
  refine r_seq ?_
  refine r_sloc (L2 := [_, _, _, _, _, _, _]) (r_call (r_cons (r_loc rfl rfl) r_nil) rfl (sp_X9_time (by first | omega | assumption | exact hS.1 _ | exact hT.1 _ | exact r_zrg _)) rfl) rfl rfl ?_
  refine r_k0 ?_
  refine r_seq ?_
  refine r_slocG (L2 := [_, _, _, _, _, _, _]) (r_callG (r_cons (r_loc rfl rfl) (r_cons (r_lit ql_1) r_nil)) rfl hps rfl) rfl rfl ?_
  refine r_k0 ?_
  refine r_seq ?_
  refine r_sloc (L2 := [_, _, _, _, _, _, _]) (r_if10 (r_and (r_and (r_and (r_and (r_and (r_leq (r_call (r_cons (r_loc rfl rfl) r_nil) rfl (sp_X9_time (by first | omega | assumption | exact hS.1 _ | exact hT.1 _ | exact r_zrg _)) rfl) (r_ladd (r_loc rfl rfl) r_litl1) (by first | omega | assumption | exact hS.1 _ | exact hT.1 _ | exact r_zrg _)) (fun hp1 => (r_eq (r_loc rfl rfl) (r_sub (r_call (r_cons (r_loc rfl rfl) r_nil) rfl (sp_X9_next (by first | omega | assumption | exact hS.1 _ | exact hT.1 _ | exact r_zrg _)) rfl) (r_loc rfl rfl)) (by first | omega | assumption | exact hS.1 _ | exact hT.1 _ | exact r_zrg _) (by first | omega | assumption | exact hS.1 _ | exact hT.1 _ | exact r_zrg _)))) (fun hp2 => (r_le (r_loc rfl rfl) (r_lit ql_1) (by first | omega | assumption | exact hS.1 _ | exact hT.1 _ | exact r_zrg _) (by first | omega | assumption | exact hS.1 _ | exact hT.1 _ | exact r_zrg _)))) (fun hp3 => (r_z_ge (r_call (r_cons (r_loc rfl rfl) r_nil) rfl (sp_X9_speed (by first | omega | assumption | exact hS.1 _ | exact hT.1 _ | exact r_zrg _)) rfl) (by first | omega | assumption | exact hS.1 _ | exact hT.1 _ | exact r_zrg _)))) (fun hp4 => (r_le (r_call (r_cons (r_loc rfl rfl) r_nil) rfl (sp_X9_speed (by first | omega | assumption | exact hS.1 _ | exact hT.1 _ | exact r_zrg _)) rfl) (r_lit ql_8) (by first | omega | assumption | exact hS.1 _ | exact hT.1 _ | exact r_zrg _) (by first | omega | assumption | exact hS.1 _ | exact hT.1 _ | exact r_zrg _)))) (fun hp5 => (r_le (r_call (r_cons (r_loc rfl rfl) r_nil) rfl (sp_X9_speed (by first | omega | assumption | exact hS.1 _ | exact hT.1 _ | exact r_zrg _)) rfl) (r_add (r_loc rfl rfl) (r_lit ql_1)) (by first | omega | assumption | exact hS.1 _ | exact hT.1 _ | exact r_zrg _) (by first | omega | assumption | exact hS.1 _ | exact hT.1 _ | exact r_zrg _))))) rfl rfl ?_
  refine r_k0 ?_
  refine r_sret (r_if10 (r_and (r_and (r_and (r_bz (r_loc rfl rfl)) (fun hp6 => (r_ge (r_call (r_cons (r_loc rfl rfl) r_nil) rfl (sp_X9_temperature (by first | omega | assumption | exact hS.1 _ | exact hT.1 _ | exact r_zrg _)) rfl) (r_lit ql_20) (by first | omega | assumption | exact hS.1 _ | exact hT.1 _ | exact r_zrg _) (by first | omega | assumption | exact hS.1 _ | exact hT.1 _ | exact r_zrg _)))) (fun hp7 => (r_le (r_call (r_cons (r_loc rfl rfl) r_nil) rfl (sp_X9_temperature (by first | omega | assumption | exact hS.1 _ | exact hT.1 _ | exact r_zrg _)) rfl) (r_lit ql_210) (by first | omega | assumption | exact hS.1 _ | exact hT.1 _ | exact r_zrg _) (by first | omega | assumption | exact hS.1 _ | exact hT.1 _ | exact r_zrg _)))) (fun hp8 => (r_or (r_ne (r_call (r_cons (r_loc rfl rfl) r_nil) rfl (sp_X9_state (by first | omega | assumption | exact hS.1 _ | exact hT.1 _ | exact r_zrg _) (by first | omega | assumption | exact hS.1 _ | exact hT.1 _ | exact r_zrg _) (by first | omega | assumption | exact hS.1 _ | exact hT.1 _ | exact r_zrg _)) rfl) (r_lit ql_119) (by first | omega | assumption | exact hS.1 _ | exact hT.1 _ | exact r_zrg _) (by first | omega | assumption | exact hS.1 _ | exact hT.1 _ | exact r_zrg _)) (fun hp9 => (r_z_eq (r_call (r_cons (r_loc rfl rfl) r_nil) rfl (sp_X9_speed (by first | omega | assumption | exact hS.1 _ | exact hT.1 _ | exact r_zrg _)) rfl) (by first | omega | assumption | exact hS.1 _ | exact hT.1 _ | exact r_zrg _))))))) ?_
  refine r_pret (r_fitb _) r_le0 ?_
  exact ⟨_, rfl, z, T, r_bone ⟨⟨⟨⟨⟨⟨⟨⟨htm, by omega⟩, by omega⟩, a20.1⟩, a20.2⟩, a4⟩, a14.1⟩, by omega⟩, by omega⟩, rfl, hP⟩
