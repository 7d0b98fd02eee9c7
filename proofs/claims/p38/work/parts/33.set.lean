theorem sp_X7_numberOf {S : q_Sg} {c w : Nat} (hS : r_ok S) {s : Int} (hs : rg s) : r_F f_X7_numberOf [.ref 19, iv s] (q_en S, c, w) (iv (stg S.1 0 s)) := by
  refine r_Fof (r_run (L := [_, _]) ⟨rfl, Nat.le_of_ble_eq_true rfl⟩ rfl ?_)
  unfold b_X7_numberOf
  refine r_ssw (r_loc rfl rfl) (by first | omega | assumption | exact r_zrg _ | exact hS.1 _ | exact hS.2 _ _) ?_
  refine r_pkc (fun hp1 => ?_) (fun hp2 => ?_)
  ·
    refine r_sret (r_fld (r_loc rfl rfl) gg_Settings_spread) ?_
    refine r_ws (j := 2) ?_
    refine r_pret (q_fit_int _) r_le0 ⟨congrArg Sum.inl ?_, rfl⟩
    refine congrArg iv ?_
    unfold stg; unfold r_i; (repeat' split) <;> first | rfl | omega
  ·
    refine r_pkc (fun hp3 => ?_) (fun hp4 => ?_)
    ·
      refine r_sret (r_fld (r_loc rfl rfl) gg_Settings_gap) ?_
      refine r_ws (j := 2) ?_
      refine r_pret (q_fit_int _) r_le0 ⟨congrArg Sum.inl ?_, rfl⟩
      refine congrArg iv ?_
      unfold stg; unfold r_i; (repeat' split) <;> first | rfl | omega
    ·
      refine r_pkc (fun hp5 => ?_) (fun hp6 => ?_)
      ·
        refine r_sret (r_fld (r_loc rfl rfl) gg_Settings_skins) ?_
        refine r_ws (j := 2) ?_
        refine r_pret (q_fit_int _) r_le0 ⟨congrArg Sum.inl ?_, rfl⟩
        refine congrArg iv ?_
        unfold stg; unfold r_i; (repeat' split) <;> first | rfl | omega
      ·
        refine r_pkc (fun hp7 => ?_) (fun hp8 => ?_)
        ·
          refine r_sret (r_fld (r_loc rfl rfl) gg_Settings_supports) ?_
          refine r_ws (j := 2) ?_
          refine r_pret (q_fit_int _) r_le0 ⟨congrArg Sum.inl ?_, rfl⟩
          refine congrArg iv ?_
          unfold stg; unfold r_i; (repeat' split) <;> first | rfl | omega
        ·
          refine r_pkc (fun hp9 => ?_) (fun hp10 => ?_)
          ·
            refine r_sret (r_fld (r_loc rfl rfl) gg_Settings_walls) ?_
            refine r_ws (j := 2) ?_
            refine r_pret (q_fit_int _) r_le0 ⟨congrArg Sum.inl ?_, rfl⟩
            refine congrArg iv ?_
            unfold stg; unfold r_i; (repeat' split) <;> first | rfl | omega
          ·
            refine r_pkn ?_
            refine r_sret (r_fld (r_loc rfl rfl) gg_Settings_reach) ?_
            refine r_ws (j := 2) ?_
            refine r_pret (q_fit_int _) r_le0 ⟨congrArg Sum.inl ?_, rfl⟩
            refine congrArg iv ?_
            unfold stg; unfold r_i; (repeat' split) <;> first | rfl | omega
theorem sp_X7_greatestOf {s : Int} {h : qH} (hs : rg s) : r_F f_X7_greatestOf [iv s] h (iv (gst s)) := by
  refine r_Fof (r_run (L := [_]) ⟨rfl, Nat.le_of_ble_eq_true rfl⟩ rfl ?_)
  unfold b_X7_greatestOf
  refine r_ssw (r_loc rfl rfl) (by first | omega | assumption | exact r_zrg _ | exact hS.1 _ | exact hS.2 _ _) ?_
  refine r_pkc (fun hp1 => ?_) (fun hp2 => ?_)
  ·
    refine r_sret (r_lit ql_6) ?_
    refine r_ws (j := 2) ?_
    refine r_pret (q_fit_int _) r_le0 ⟨congrArg Sum.inl ?_, rfl⟩
    refine congrArg iv ?_
    unfold gst; unfold r_i; (repeat' split) <;> first | rfl | omega
  ·
    refine r_pkc (fun hp3 => ?_) (fun hp4 => ?_)
    ·
      refine r_sret (r_lit ql_m1) ?_
      refine r_ws (j := 2) ?_
      refine r_pret (q_fit_int _) r_le0 ⟨congrArg Sum.inl ?_, rfl⟩
      refine congrArg iv ?_
      unfold gst; unfold r_i; (repeat' split) <;> first | rfl | omega
    ·
      refine r_pkc (fun hp5 => ?_) (fun hp6 => ?_)
      ·
        refine r_sret (r_lit ql_m1) ?_
        refine r_ws (j := 2) ?_
        refine r_pret (q_fit_int _) r_le0 ⟨congrArg Sum.inl ?_, rfl⟩
        refine congrArg iv ?_
        unfold gst; unfold r_i; (repeat' split) <;> first | rfl | omega
      ·
        refine r_pkc (fun hp7 => ?_) (fun hp8 => ?_)
        ·
          refine r_sret (r_lit ql_2) ?_
          refine r_ws (j := 2) ?_
          refine r_pret (q_fit_int _) r_le0 ⟨congrArg Sum.inl ?_, rfl⟩
          refine congrArg iv ?_
          unfold gst; unfold r_i; (repeat' split) <;> first | rfl | omega
        ·
          refine r_pkc (fun hp9 => ?_) (fun hp10 => ?_)
          ·
            refine r_sret (r_lit ql_m1) ?_
            refine r_ws (j := 2) ?_
            refine r_pret (q_fit_int _) r_le0 ⟨congrArg Sum.inl ?_, rfl⟩
            refine congrArg iv ?_
            unfold gst; unfold r_i; (repeat' split) <;> first | rfl | omega
          ·
            refine r_pkc (fun hp11 => ?_) (fun hp12 => ?_)
            ·
              refine r_sret (r_lit ql_m1) ?_
              refine r_ws (j := 2) ?_
              refine r_pret (q_fit_int _) r_le0 ⟨congrArg Sum.inl ?_, rfl⟩
              refine congrArg iv ?_
              unfold gst; unfold r_i; (repeat' split) <;> first | rfl | omega
            ·
              refine r_pkc (fun hp13 => ?_) (fun hp14 => ?_)
              ·
                refine r_sret (r_lit ql_m1) ?_
                refine r_ws (j := 2) ?_
                refine r_pret (q_fit_int _) r_le0 ⟨congrArg Sum.inl ?_, rfl⟩
                refine congrArg iv ?_
                unfold gst; unfold r_i; (repeat' split) <;> first | rfl | omega
              ·
                refine r_pkc (fun hp15 => ?_) (fun hp16 => ?_)
                ·
                  refine r_sret (r_lit ql_3) ?_
                  refine r_ws (j := 2) ?_
                  refine r_pret (q_fit_int _) r_le0 ⟨congrArg Sum.inl ?_, rfl⟩
                  refine congrArg iv ?_
                  unfold gst; unfold r_i; (repeat' split) <;> first | rfl | omega
                ·
                  refine r_pkc (fun hp17 => ?_) (fun hp18 => ?_)
                  ·
                    refine r_sret (r_lit ql_m1) ?_
                    refine r_ws (j := 2) ?_
                    refine r_pret (q_fit_int _) r_le0 ⟨congrArg Sum.inl ?_, rfl⟩
                    refine congrArg iv ?_
                    unfold gst; unfold r_i; (repeat' split) <;> first | rfl | omega
                  ·
                    refine r_pkc (fun hp19 => ?_) (fun hp20 => ?_)
                    ·
                      refine r_sret (r_lit ql_m1) ?_
                      refine r_ws (j := 2) ?_
                      refine r_pret (q_fit_int _) r_le0 ⟨congrArg Sum.inl ?_, rfl⟩
                      refine congrArg iv ?_
                      unfold gst; unfold r_i; (repeat' split) <;> first | rfl | omega
                    ·
                      refine r_pkc (fun hp21 => ?_) (fun hp22 => ?_)
                      ·
                        refine r_sret (r_lit ql_m1) ?_
                        refine r_ws (j := 2) ?_
                        refine r_pret (q_fit_int _) r_le0 ⟨congrArg Sum.inl ?_, rfl⟩
                        refine congrArg iv ?_
                        unfold gst; unfold r_i; (repeat' split) <;> first | rfl | omega
                      ·
                        refine r_pkc (fun hp23 => ?_) (fun hp24 => ?_)
                        ·
                          refine r_sret (r_lit ql_m1) ?_
                          refine r_ws (j := 2) ?_
                          refine r_pret (q_fit_int _) r_le0 ⟨congrArg Sum.inl ?_, rfl⟩
                          refine congrArg iv ?_
                          unfold gst; unfold r_i; (repeat' split) <;> first | rfl | omega
                        ·
                          refine r_pkc (fun hp25 => ?_) (fun hp26 => ?_)
                          ·
                            refine r_sret (r_lit ql_m1) ?_
                            refine r_ws (j := 2) ?_
                            refine r_pret (q_fit_int _) r_le0 ⟨congrArg Sum.inl ?_, rfl⟩
                            refine congrArg iv ?_
                            unfold gst; unfold r_i; (repeat' split) <;> first | rfl | omega
                          ·
                            refine r_pkc (fun hp27 => ?_) (fun hp28 => ?_)
                            ·
                              refine r_sret (r_lit ql_m1) ?_
                              refine r_ws (j := 2) ?_
                              refine r_pret (q_fit_int _) r_le0 ⟨congrArg Sum.inl ?_, rfl⟩
                              refine congrArg iv ?_
                              unfold gst; unfold r_i; (repeat' split) <;> first | rfl | omega
                            ·
                              refine r_pkc (fun hp29 => ?_) (fun hp30 => ?_)
                              ·
                                refine r_sret (r_lit ql_22) ?_
                                refine r_ws (j := 2) ?_
                                refine r_pret (q_fit_int _) r_le0 ⟨congrArg Sum.inl ?_, rfl⟩
                                refine congrArg iv ?_
                                unfold gst; unfold r_i; (repeat' split) <;> first | rfl | omega
                              ·
                                refine r_pkc (fun hp31 => ?_) (fun hp32 => ?_)
                                ·
                                  refine r_sret (r_lit ql_1) ?_
                                  refine r_ws (j := 2) ?_
                                  refine r_pret (q_fit_int _) r_le0 ⟨congrArg Sum.inl ?_, rfl⟩
                                  refine congrArg iv ?_
                                  unfold gst; unfold r_i; (repeat' split) <;> first | rfl | omega
                                ·
                                  refine r_pkc (fun hp33 => ?_) (fun hp34 => ?_)
                                  ·
                                    refine r_sret (r_lit ql_m1) ?_
                                    refine r_ws (j := 2) ?_
                                    refine r_pret (q_fit_int _) r_le0 ⟨congrArg Sum.inl ?_, rfl⟩
                                    refine congrArg iv ?_
                                    unfold gst; unfold r_i; (repeat' split) <;> first | rfl | omega
                                  ·
                                    refine r_pkc (fun hp35 => ?_) (fun hp36 => ?_)
                                    ·
                                      refine r_sret (r_lit ql_m1) ?_
                                      refine r_ws (j := 2) ?_
                                      refine r_pret (q_fit_int _) r_le0 ⟨congrArg Sum.inl ?_, rfl⟩
                                      refine congrArg iv ?_
                                      unfold gst; unfold r_i; (repeat' split) <;> first | rfl | omega
                                    ·
                                      refine r_pkc (fun hp37 => ?_) (fun hp38 => ?_)
                                      ·
                                        refine r_sret (r_lit ql_m1) ?_
                                        refine r_ws (j := 2) ?_
                                        refine r_pret (q_fit_int _) r_le0 ⟨congrArg Sum.inl ?_, rfl⟩
                                        refine congrArg iv ?_
                                        unfold gst; unfold r_i; (repeat' split) <;> first | rfl | omega
                                      ·
                                        refine r_pkc (fun hp39 => ?_) (fun hp40 => ?_)
                                        ·
                                          refine r_sret (r_lit ql_3) ?_
                                          refine r_ws (j := 2) ?_
                                          refine r_pret (q_fit_int _) r_le0 ⟨congrArg Sum.inl ?_, rfl⟩
                                          refine congrArg iv ?_
                                          unfold gst; unfold r_i; (repeat' split) <;> first | rfl | omega
                                        ·
                                          refine r_pkn ?_
                                          refine r_sret (r_lit ql_m1) ?_
                                          refine r_ws (j := 2) ?_
                                          refine r_pret (q_fit_int _) r_le0 ⟨congrArg Sum.inl ?_, rfl⟩
                                          refine congrArg iv ?_
                                          unfold gst; unfold r_i; (repeat' split) <;> first | rfl | omega
theorem gst_b (s : Int) : rg (gst s) := by
  unfold gst; unfold r_i; (repeat' split) <;> omega
theorem sp_X7_isAllowed {s v : Int} {h : qH} (hs : rg s) (hv : rg v) : r_F f_X7_isAllowed [iv s, iv v] h (r_b (ALW s v)) := by
  refine r_Fof (r_run (L := [_, _, _]) ⟨rfl, Nat.le_of_ble_eq_true rfl⟩ rfl ?_)
  unfold b_X7_isAllowed
  refine r_seq ?_
  refine r_sloc (L2 := [_, _, _]) (r_if10 (r_or (r_eq (r_loc rfl rfl) (r_lit ql_119) (by first | omega | assumption | exact r_zrg _ | exact hS.1 _ | exact hS.2 _ _ | exact gst_b _) (by first | omega | assumption | exact r_zrg _ | exact hS.1 _ | exact hS.2 _ _ | exact gst_b _)) (fun hp1 => (r_eq (r_loc rfl rfl) (r_lit ql_100) (by first | omega | assumption | exact r_zrg _ | exact hS.1 _ | exact hS.2 _ _ | exact gst_b _) (by first | omega | assumption | exact r_zrg _ | exact hS.1 _ | exact hS.2 _ _ | exact gst_b _))))) rfl rfl ?_
  refine r_k0 ?_
  refine r_sret (r_if10 (r_and (r_ge (r_loc rfl rfl) (r_loc rfl rfl) (by first | omega | assumption | exact r_zrg _ | exact hS.1 _ | exact hS.2 _ _ | exact gst_b _) (by first | omega | assumption | exact r_zrg _ | exact hS.1 _ | exact hS.2 _ _ | exact gst_b _)) (fun hp2 => (r_le (r_loc rfl rfl) (r_call (r_cons (r_loc rfl rfl) r_nil) rfl (sp_X7_greatestOf (by first | omega | assumption | exact r_zrg _ | exact hS.1 _ | exact hS.2 _ _ | exact gst_b _)) rfl) (by first | omega | assumption | exact r_zrg _ | exact hS.1 _ | exact hS.2 _ _ | exact gst_b _) (by first | omega | assumption | exact r_zrg _ | exact hS.1 _ | exact hS.2 _ _ | exact gst_b _))))) ?_
  refine r_pret (r_fitb _) r_le0 ⟨congrArg Sum.inl ?_, rfl⟩
  refine r_bc ?_
  rcases r_zd (s = 119 ∨ s = 100) with ⟨e, _⟩ | ⟨e, _⟩ <;> rw [e] <;> unfold gst <;> unfold r_i <;> (repeat' split) <;> omega
theorem sp_X7_changeNumber {S : q_Sg} {c w : Nat} (hS : r_ok S) {s v : Int} (hs : rg s) (hv : rg v) (ha : ALW s v) : r_X f_X7_changeNumber [.ref 19, iv s, iv v] (q_en S, c, w) (fun r h2 => ∃ T, r = iv (stg S.1 0 s) ∧ h2 = (q_en T, c, w) ∧ r_ok T ∧ r_fr [0, 1, 2, 3, 4, 5] [] [] S T ∧ STS 0 s v S T) := by
  refine r_Xof (r_run (L := [_, _, _, _]) ⟨rfl, Nat.le_of_ble_eq_true rfl⟩ rfl ?_)
  unfold b_X7_changeNumber
  refine r_seq ?_
  refine r_sloc (L2 := [_, _, _, _]) (r_call (r_cons (r_loc rfl rfl) (r_cons (r_loc rfl rfl) r_nil)) rfl (sp_X7_numberOf (by first | omega | assumption | exact r_zrg _ | exact hS.1 _ | exact hS.2 _ _) (by first | omega | assumption | exact r_zrg _ | exact hS.1 _ | exact hS.2 _ _)) rfl) rfl rfl ?_
  refine r_k0 ?_
  refine r_seq ?_
  refine r_ssw (r_loc rfl rfl) (by first | omega | assumption | exact r_zrg _ | exact hS.1 _ | exact hS.2 _ _) ?_
  refine r_pkc (fun hp1 => ?_) (fun hp2 => ?_)
  ·
    refine r_seq ?_
    refine r_sput (r_loc rfl rfl) (r_loc rfl rfl) gp_Settings_spread ?_
    refine r_k0 ?_
    refine wS_brk ?_
    refine r_wb ?_
    refine r_k0 ?_
    refine r_sret (r_loc rfl rfl) ?_
    refine r_pret (q_fit_int _) r_le0 ?_
    refine ⟨_, rfl, _, rfl, rfl, r_okI hS hv, r_frm (r_frI r_fr0) (by decide) (by decide) (by decide), ?_⟩
    unfold STS q_sI r_i; dsimp only; refine ⟨?_, ?_, ?_, ?_, ?_, ?_⟩ <;> split <;> first | rfl | omega
  ·
    refine r_pkc (fun hp3 => ?_) (fun hp4 => ?_)
    ·
      refine r_seq ?_
      refine r_sput (r_loc rfl rfl) (r_loc rfl rfl) gp_Settings_gap ?_
      refine r_k0 ?_
      refine wS_brk ?_
      refine r_wb ?_
      refine r_k0 ?_
      refine r_sret (r_loc rfl rfl) ?_
      refine r_pret (q_fit_int _) r_le0 ?_
      refine ⟨_, rfl, _, rfl, rfl, r_okI hS hv, r_frm (r_frI r_fr0) (by decide) (by decide) (by decide), ?_⟩
      unfold STS q_sI r_i; dsimp only; refine ⟨?_, ?_, ?_, ?_, ?_, ?_⟩ <;> split <;> first | rfl | omega
    ·
      refine r_pkc (fun hp5 => ?_) (fun hp6 => ?_)
      ·
        refine r_seq ?_
        refine r_sput (r_loc rfl rfl) (r_loc rfl rfl) gp_Settings_skins ?_
        refine r_k0 ?_
        refine wS_brk ?_
        refine r_wb ?_
        refine r_k0 ?_
        refine r_sret (r_loc rfl rfl) ?_
        refine r_pret (q_fit_int _) r_le0 ?_
        refine ⟨_, rfl, _, rfl, rfl, r_okI hS hv, r_frm (r_frI r_fr0) (by decide) (by decide) (by decide), ?_⟩
        unfold STS q_sI r_i; dsimp only; refine ⟨?_, ?_, ?_, ?_, ?_, ?_⟩ <;> split <;> first | rfl | omega
      ·
        refine r_pkc (fun hp7 => ?_) (fun hp8 => ?_)
        ·
          refine r_seq ?_
          refine r_sput (r_loc rfl rfl) (r_loc rfl rfl) gp_Settings_supports ?_
          refine r_k0 ?_
          refine wS_brk ?_
          refine r_wb ?_
          refine r_k0 ?_
          refine r_sret (r_loc rfl rfl) ?_
          refine r_pret (q_fit_int _) r_le0 ?_
          refine ⟨_, rfl, _, rfl, rfl, r_okI hS hv, r_frm (r_frI r_fr0) (by decide) (by decide) (by decide), ?_⟩
          unfold STS q_sI r_i; dsimp only; refine ⟨?_, ?_, ?_, ?_, ?_, ?_⟩ <;> split <;> first | rfl | omega
        ·
          refine r_pkc (fun hp9 => ?_) (fun hp10 => ?_)
          ·
            refine r_seq ?_
            refine r_sput (r_loc rfl rfl) (r_loc rfl rfl) gp_Settings_walls ?_
            refine r_k0 ?_
            refine wS_brk ?_
            refine r_wb ?_
            refine r_k0 ?_
            refine r_sret (r_loc rfl rfl) ?_
            refine r_pret (q_fit_int _) r_le0 ?_
            refine ⟨_, rfl, _, rfl, rfl, r_okI hS hv, r_frm (r_frI r_fr0) (by decide) (by decide) (by decide), ?_⟩
            unfold STS q_sI r_i; dsimp only; refine ⟨?_, ?_, ?_, ?_, ?_, ?_⟩ <;> split <;> first | rfl | omega
          ·
            refine r_pkn ?_
            refine r_seq ?_
            refine r_sput (r_loc rfl rfl) (r_loc rfl rfl) gp_Settings_reach ?_
            refine r_k0 ?_
            refine wS_brk ?_
            refine r_wb ?_
            refine r_k0 ?_
            refine r_sret (r_loc rfl rfl) ?_
            refine r_pret (q_fit_int _) r_le0 ?_
            refine ⟨_, rfl, _, rfl, rfl, r_okI hS hv, r_frm (r_frI r_fr0) (by decide) (by decide) (by decide), ?_⟩
            unfold STS q_sI r_i; dsimp only; refine ⟨?_, ?_, ?_, ?_, ?_, ?_⟩ <;> split <;> first | rfl | omega
theorem sp_X7_changePattern {S : q_Sg} {c w : Nat} (hS : r_ok S) {v : Int} (hv : 0 ≤ v ∧ v < 65536) (hp : 0 ≤ S.1 6 ∧ S.1 6 < 65536) : r_G f_X7_changePattern [.ref 19, iv v] (q_en S, c, w) (iv (S.1 6)) (q_en (q_sI S 6 v), c, w) := by
  refine r_Gof (r_run (L := [_, _, _]) ⟨rfl, Nat.le_of_ble_eq_true rfl⟩ rfl ?_)
  unfold b_X7_changePattern
  refine r_seq ?_
  refine r_sloc (L2 := [_, _, _]) (r_fld (r_loc rfl rfl) gg_Settings_pattern) rfl rfl ?_
  refine r_k0 ?_
  refine r_seq ?_
  refine r_sput (r_loc rfl rfl) (r_loc rfl rfl) (gp_Settings_pattern (by first | omega | assumption | exact r_zrg _ | exact hS.1 _ | exact hS.2 _ _) (by first | omega | assumption | exact r_zrg _ | exact hS.1 _ | exact hS.2 _ _)) ?_
  refine r_k0 ?_
  refine r_sret (r_loc rfl rfl) ?_
  refine r_pret (q_fit_char (by first | omega | assumption | exact r_zrg _ | exact hS.1 _ | exact hS.2 _ _) (by first | omega | assumption | exact r_zrg _ | exact hS.1 _ | exact hS.2 _ _)) r_le0 ?_
  exact ⟨rfl, rfl⟩
theorem sp_X7_thicknessOf {S : q_Sg} {c w : Nat} (hS : r_ok S) {z : Int} (hz : 0 ≤ z ∧ z < 12) : r_F f_X7_thicknessOf [.ref 19, iv z] (q_en S, c, w) (iv (S.2.1 1 z)) := by
  refine r_Fof (r_run (L := [_, _]) ⟨rfl, Nat.le_of_ble_eq_true rfl⟩ rfl ?_)
  unfold b_X7_thicknessOf
  refine r_sret (r_if (r_bz (r_call (r_cons (r_loc rfl rfl) r_nil) rfl (sp_X9_isPlace (by first | omega | assumption | exact r_zrg _ | exact hS.1 _ | exact hS.2 _ _)) rfl)) (fun hp1 => (r_aget ga_Settings_thickness (r_fld (r_loc rfl rfl) gg_Settings_thickness) (r_loc rfl rfl) (by first | omega | assumption | exact r_zrg _ | exact hS.1 _ | exact hS.2 _ _) (by first | omega | assumption | exact r_zrg _ | exact hS.1 _ | exact hS.2 _ _) (by decide))) (fun hp2 => (r_lit ql_1))) ?_
  refine r_pret (q_fit_int _) r_le0 ⟨congrArg Sum.inl ?_, rfl⟩
  refine congrArg iv ?_
  exact r_i1 hz
theorem sp_X7_changeThickness {S : q_Sg} {c w : Nat} (hS : r_ok S) {z v : Int} (hz : 0 ≤ z ∧ z < 12) (hv : rg v) : r_G f_X7_changeThickness [.ref 19, iv z, iv v] (q_en S, c, w) (iv (S.2.1 1 z)) (q_en (q_sA S 1 (q_up (S.2.1 1) z v)), c, w) := by
  refine r_Gof (r_run (L := [_, _, _, _]) ⟨rfl, Nat.le_of_ble_eq_true rfl⟩ rfl ?_)
  unfold b_X7_changeThickness
  refine r_seq ?_
  refine r_sloc (L2 := [_, _, _, _]) (r_call (r_cons (r_loc rfl rfl) (r_cons (r_loc rfl rfl) r_nil)) rfl (sp_X7_thicknessOf (by first | omega | assumption | exact r_zrg _ | exact hS.1 _ | exact hS.2 _ _) (by first | omega | assumption | exact r_zrg _ | exact hS.1 _ | exact hS.2 _ _)) rfl) rfl rfl ?_
  refine r_k0 ?_
  refine r_seq ?_
  refine r_sif (r_bz (r_call (r_cons (r_loc rfl rfl) r_nil) rfl (sp_X9_isPlace (by first | omega | assumption | exact r_zrg _ | exact hS.1 _ | exact hS.2 _ _)) rfl)) (fun hp1 => ?_) (fun hp2 => ?_)
  ·
    refine r_sput3 (r_fld (r_loc rfl rfl) gg_Settings_thickness) (r_loc rfl rfl) (r_loc rfl rfl) (r_putI ga_Settings_thickness gs_Settings_thickness (by first | omega | assumption | exact r_zrg _ | exact hS.1 _ | exact hS.2 _ _) (by first | omega | assumption | exact r_zrg _ | exact hS.1 _ | exact hS.2 _ _) (by decide) q_narI) ?_
    refine r_k0 ?_
    refine r_sret (r_loc rfl rfl) ?_
    refine r_pret (q_fit_int _) r_le0 ?_
    exact ⟨rfl, rfl⟩
  ·
    refine wS_skip ?_
    refine r_k0 ?_
    refine r_sret (r_loc rfl rfl) ?_
    refine r_pret (q_fit_int _) r_le0 ?_
    omega
theorem sp_X7_hasPause {S : q_Sg} {c w : Nat} (hS : r_ok S) {z : Int} (hz : 0 ≤ z ∧ z < 12) : r_F f_X7_hasPause [.ref 19, iv z] (q_en S, c, w) (r_b (¬ S.2.1 2 z = 0)) := by
  refine r_Fof (r_run (L := [_, _]) ⟨rfl, Nat.le_of_ble_eq_true rfl⟩ rfl ?_)
  unfold b_X7_hasPause
  refine r_sret (r_if10 (r_and (r_bz (r_call (r_cons (r_loc rfl rfl) r_nil) rfl (sp_X9_isPlace (by first | omega | assumption | exact r_zrg _ | exact hS.1 _ | exact hS.2 _ _)) rfl)) (fun hp1 => (r_z_ne (r_aget ga_Settings_pause (r_fld (r_loc rfl rfl) gg_Settings_pause) (r_loc rfl rfl) (by first | omega | assumption | exact r_zrg _ | exact hS.1 _ | exact hS.2 _ _) (by first | omega | assumption | exact r_zrg _ | exact hS.1 _ | exact hS.2 _ _) (by decide)) (by first | omega | assumption | exact r_zrg _ | exact hS.1 _ | exact hS.2 _ _))))) ?_
  refine r_pret (r_fitb _) r_le0 ⟨congrArg Sum.inl ?_, rfl⟩
  refine r_bc ?_
  exact ⟨fun c => c.2, fun c => ⟨hz, c⟩⟩
theorem sp_X7_changePause {S : q_Sg} {c w : Nat} (hS : r_ok S) {z v : Int} (hz : 0 ≤ z ∧ z < 12) (hv : 0 ≤ v ∧ v < 2) : r_G f_X7_changePause [.ref 19, iv z, iv v] (q_en S, c, w) (r_b (¬ S.2.1 2 z = 0)) (q_en (q_sA S 2 (q_up (S.2.1 2) z v)), c, w) := by
  refine r_Gof (r_run (L := [_, _, _, _]) ⟨rfl, Nat.le_of_ble_eq_true rfl⟩ rfl ?_)
  unfold b_X7_changePause
  refine r_seq ?_
  refine r_sloc (L2 := [_, _, _, _]) (r_call (r_cons (r_loc rfl rfl) (r_cons (r_loc rfl rfl) r_nil)) rfl (sp_X7_hasPause (by first | omega | assumption | exact r_zrg _ | exact hS.1 _ | exact hS.2 _ _) (by first | omega | assumption | exact r_zrg _ | exact hS.1 _ | exact hS.2 _ _)) rfl) rfl rfl ?_
  refine r_k0 ?_
  refine r_seq ?_
  refine r_sif (r_bz (r_call (r_cons (r_loc rfl rfl) r_nil) rfl (sp_X9_isPlace (by first | omega | assumption | exact r_zrg _ | exact hS.1 _ | exact hS.2 _ _)) rfl)) (fun hp1 => ?_) (fun hp2 => ?_)
  ·
    refine r_sput3 (r_fld (r_loc rfl rfl) gg_Settings_pause) (r_loc rfl rfl) (r_loc rfl rfl) (r_putI ga_Settings_pause gs_Settings_pause (by first | omega | assumption | exact r_zrg _ | exact hS.1 _ | exact hS.2 _ _) (by first | omega | assumption | exact r_zrg _ | exact hS.1 _ | exact hS.2 _ _) (by decide) (q_narZ (by first | omega | assumption | exact r_zrg _ | exact hS.1 _ | exact hS.2 _ _) (by first | omega | assumption | exact r_zrg _ | exact hS.1 _ | exact hS.2 _ _))) ?_
    refine r_k0 ?_
    refine r_sret (r_loc rfl rfl) ?_
    refine r_pret (r_fitb _) r_le0 ?_
    exact ⟨rfl, rfl⟩
  ·
    refine wS_skip ?_
    refine r_k0 ?_
    refine r_sret (r_loc rfl rfl) ?_
    refine r_pret (r_fitb _) r_le0 ?_
    omega
theorem sp_X7_wallCount {S : q_Sg} {c w : Nat}  : r_F f_X7_wallCount [.ref 19] (q_en S, c, w) (iv (S.1 0)) := by
  refine r_Fof (r_run (L := [_]) ⟨rfl, Nat.le_of_ble_eq_true rfl⟩ rfl ?_)
  unfold b_X7_wallCount
  refine r_sret (r_fld (r_loc rfl rfl) gg_Settings_walls) ?_
  refine r_pret (q_fit_int _) r_le0 ⟨congrArg Sum.inl ?_, rfl⟩
  refine congrArg iv ?_
  rfl
theorem sp_X7_skinCount {S : q_Sg} {c w : Nat}  : r_F f_X7_skinCount [.ref 19] (q_en S, c, w) (iv (S.1 1)) := by
  refine r_Fof (r_run (L := [_]) ⟨rfl, Nat.le_of_ble_eq_true rfl⟩ rfl ?_)
  unfold b_X7_skinCount
  refine r_sret (r_fld (r_loc rfl rfl) gg_Settings_skins) ?_
  refine r_pret (q_fit_int _) r_le0 ⟨congrArg Sum.inl ?_, rfl⟩
  refine congrArg iv ?_
  rfl
theorem sp_X7_gapSize {S : q_Sg} {c w : Nat}  : r_F f_X7_gapSize [.ref 19] (q_en S, c, w) (iv (S.1 4)) := by
  refine r_Fof (r_run (L := [_]) ⟨rfl, Nat.le_of_ble_eq_true rfl⟩ rfl ?_)
  unfold b_X7_gapSize
  refine r_sret (r_fld (r_loc rfl rfl) gg_Settings_gap) ?_
  refine r_pret (q_fit_int _) r_le0 ⟨congrArg Sum.inl ?_, rfl⟩
  refine congrArg iv ?_
  rfl
theorem sp_X7_reachLength {S : q_Sg} {c w : Nat}  : r_F f_X7_reachLength [.ref 19] (q_en S, c, w) (iv (S.1 5)) := by
  refine r_Fof (r_run (L := [_]) ⟨rfl, Nat.le_of_ble_eq_true rfl⟩ rfl ?_)
  unfold b_X7_reachLength
  refine r_sret (r_fld (r_loc rfl rfl) gg_Settings_reach) ?_
  refine r_pret (q_fit_int _) r_le0 ⟨congrArg Sum.inl ?_, rfl⟩
  refine congrArg iv ?_
  rfl
theorem sp_X7_hasSupports {S : q_Sg} {c w : Nat} (hS : r_ok S)  : r_F f_X7_hasSupports [.ref 19] (q_en S, c, w) (r_b (¬ S.1 3 = 0)) := by
  refine r_Fof (r_run (L := [_]) ⟨rfl, Nat.le_of_ble_eq_true rfl⟩ rfl ?_)
  unfold b_X7_hasSupports
  refine r_sret (r_if10 (r_z_ne (r_fld (r_loc rfl rfl) gg_Settings_supports) (by first | omega | assumption | exact r_zrg _ | exact hS.1 _ | exact hS.2 _ _))) ?_
  refine r_pret (r_fitb _) r_le0 ⟨congrArg Sum.inl ?_, rfl⟩
  refine r_bc ?_
  exact Iff.rfl
theorem sp_X7_isLine {S : q_Sg} {c w : Nat} (hS : r_ok S) (hd : 1 ≤ S.1 2 ∧ S.1 2 ≤ 6) {x : Int} (hx : 0 ≤ x ∧ x ≤ 30) : r_F f_X7_isLine [.ref 19, iv x] (q_en S, c, w) (r_b (x % S.1 2 = 0)) := by
  refine r_Fof (r_run (L := [_, _]) ⟨rfl, Nat.le_of_ble_eq_true rfl⟩ rfl ?_)
  unfold b_X7_isLine
  have h1 := Int.emod_nonneg x (b := S.1 2) (by omega)
  have h2 := Int.emod_lt_of_pos x (b := S.1 2) (by omega)
  refine r_sret (r_if10 (r_and (r_z_gt (r_fld (r_loc rfl rfl) gg_Settings_spread) (by first | omega | assumption | exact r_zrg _ | exact hS.1 _ | exact hS.2 _ _)) (fun hp1 => (r_z_eq (r_rem (r_loc rfl rfl) (r_fld (r_loc rfl rfl) gg_Settings_spread) (by first | omega | assumption | exact r_zrg _ | exact hS.1 _ | exact hS.2 _ _) (by first | omega | assumption | exact r_zrg _ | exact hS.1 _ | exact hS.2 _ _) (by first | omega | assumption | exact r_zrg _ | exact hS.1 _ | exact hS.2 _ _) (by first | omega | assumption | exact r_zrg _ | exact hS.1 _ | exact hS.2 _ _)) (by first | omega | assumption | exact r_zrg _ | exact hS.1 _ | exact hS.2 _ _))))) ?_
  refine r_pret (r_fitb _) r_le0 ⟨congrArg Sum.inl ?_, rfl⟩
  refine r_bc ?_
  exact ⟨fun c => c.2, fun c => ⟨by omega, c⟩⟩
theorem sp_X7_waveAt {S : q_Sg} {c w : Nat} (hS : r_ok S) (hd : 1 ≤ S.1 2 ∧ S.1 2 ≤ 6) {x : Int} (hx : 0 ≤ x ∧ x ≤ 30) : r_F f_X7_waveAt [.ref 19, iv x] (q_en S, c, w) (iv (WAV (S.1 2) x)) := by
  refine r_Fof (r_run (L := [_, _, _]) ⟨rfl, Nat.le_of_ble_eq_true rfl⟩ rfl ?_)
  unfold b_X7_waveAt
  have h1 := Int.emod_nonneg x (b := 2 * S.1 2) (by omega)
  have h2 := Int.emod_lt_of_pos x (b := 2 * S.1 2) (by omega)
  refine r_seq ?_
  refine r_sloc (L2 := [_, _, _]) (r_mul (r_lit ql_2) (r_fld (r_loc rfl rfl) gg_Settings_spread)) rfl rfl ?_
  refine r_k0 ?_
  refine r_sret (r_if (r_z_gt (r_loc rfl rfl) (by first | omega | assumption | exact r_zrg _ | exact hS.1 _ | exact hS.2 _ _)) (fun hp1 => (r_call (r_cons (r_sub (r_fld (r_loc rfl rfl) gg_Settings_spread) (r_rem (r_loc rfl rfl) (r_loc rfl rfl) (by first | omega | assumption | exact r_zrg _ | exact hS.1 _ | exact hS.2 _ _) (by first | omega | assumption | exact r_zrg _ | exact hS.1 _ | exact hS.2 _ _) (by first | omega | assumption | exact r_zrg _ | exact hS.1 _ | exact hS.2 _ _) (by first | omega | assumption | exact r_zrg _ | exact hS.1 _ | exact hS.2 _ _))) r_nil) rfl (sp_J9_abs (by first | omega | assumption | exact r_zrg _ | exact hS.1 _ | exact hS.2 _ _)) rfl)) (fun hp2 => (r_lit ql_0))) ?_
  refine r_pret (q_fit_int _) r_le0 ⟨congrArg Sum.inl ?_, rfl⟩
  refine congrArg iv ?_
  rw [r_i1 (by omega)]; unfold WAV r_i; split <;> rfl
theorem sp_X7_fills {S : q_Sg} {c w : Nat} (hS : r_ok S) (hd : 1 ≤ S.1 2 ∧ S.1 2 ≤ 6) {x y z : Int} (hx : 0 ≤ x ∧ x < 12) (hy : 0 ≤ y ∧ y < 12) (hz : 0 ≤ z ∧ z < 12) : r_F f_X7_fills [.ref 19, iv x, iv y, iv z] (q_en S, c, w) (r_b (FIL (S.1 6) (S.1 2) x y z)) := by
  refine r_Fof (r_run (L := [_, _, _, _]) ⟨rfl, Nat.le_of_ble_eq_true rfl⟩ rfl ?_)
  unfold b_X7_fills
  have hw := WAV_b (w := y + z) hd
  have hi : 0 ≤ r_i (z % 2 = 0) y x ∧ r_i (z % 2 = 0) y x ≤ 30 := by unfold r_i; split <;> omega
  refine r_ssw (r_fld (r_loc rfl rfl) gg_Settings_pattern) (by first | omega | assumption | exact r_zrg _ | exact hS.1 _ | exact hS.2 _ _) ?_
  refine r_pkc (fun hp1 => ?_) (fun hp2 => ?_)
  ·
    refine r_sret (r_if10 (r_or (r_bz (r_call (r_cons (r_loc rfl rfl) (r_cons (r_loc rfl rfl) r_nil)) rfl (sp_X7_isLine (by first | omega | assumption | exact r_zrg _ | exact hS.1 _ | exact hS.2 _ _) (by first | omega | assumption | exact r_zrg _ | exact hS.1 _ | exact hS.2 _ _) (by first | omega | assumption | exact r_zrg _ | exact hS.1 _ | exact hS.2 _ _)) rfl)) (fun hp3 => (r_bz (r_call (r_cons (r_loc rfl rfl) (r_cons (r_loc rfl rfl) r_nil)) rfl (sp_X7_isLine (by first | omega | assumption | exact r_zrg _ | exact hS.1 _ | exact hS.2 _ _) (by first | omega | assumption | exact r_zrg _ | exact hS.1 _ | exact hS.2 _ _) (by first | omega | assumption | exact r_zrg _ | exact hS.1 _ | exact hS.2 _ _)) rfl))))) ?_
    refine r_ws (j := 2) ?_
    refine r_pret (r_fitb _) r_le0 ⟨congrArg Sum.inl ?_, rfl⟩
    refine r_bc ?_
    unfold FIL; omega
  ·
    refine r_pkc (fun hp4 => ?_) (fun hp5 => ?_)
    ·
      refine r_sret (r_call (r_cons (r_loc rfl rfl) (r_cons (r_if (r_bz (r_call (r_cons (r_loc rfl rfl) r_nil) rfl (sp_X9_canBeHalved (by first | omega | assumption | exact r_zrg _ | exact hS.1 _ | exact hS.2 _ _)) rfl)) (fun hp6 => (r_loc rfl rfl)) (fun hp7 => (r_loc rfl rfl))) r_nil)) rfl (sp_X7_isLine (by first | omega | assumption | exact r_zrg _ | exact hS.1 _ | exact hS.2 _ _) (by first | omega | assumption | exact r_zrg _ | exact hS.1 _ | exact hS.2 _ _) (by first | omega | assumption | exact r_zrg _ | exact hS.1 _ | exact hS.2 _ _)) rfl) ?_
      refine r_ws (j := 2) ?_
      refine r_pret (r_fitb _) r_le0 ⟨congrArg Sum.inl ?_, rfl⟩
      refine r_bc ?_
      unfold FIL; rcases r_id (z % 2 = 0) y x with ⟨e, k⟩ | ⟨e, k⟩ <;> rw [e] <;> omega
    ·
      refine r_pkn ?_
      refine r_sret (r_call (r_cons (r_loc rfl rfl) (r_cons (r_add (r_loc rfl rfl) (r_call (r_cons (r_loc rfl rfl) (r_cons (r_add (r_loc rfl rfl) (r_loc rfl rfl)) r_nil)) rfl (sp_X7_waveAt (by first | omega | assumption | exact r_zrg _ | exact hS.1 _ | exact hS.2 _ _) (by first | omega | assumption | exact r_zrg _ | exact hS.1 _ | exact hS.2 _ _) (by first | omega | assumption | exact r_zrg _ | exact hS.1 _ | exact hS.2 _ _)) rfl)) r_nil)) rfl (sp_X7_isLine (by first | omega | assumption | exact r_zrg _ | exact hS.1 _ | exact hS.2 _ _) (by first | omega | assumption | exact r_zrg _ | exact hS.1 _ | exact hS.2 _ _) (by first | omega | assumption | exact r_zrg _ | exact hS.1 _ | exact hS.2 _ _)) rfl) ?_
      refine r_ws (j := 2) ?_
      refine r_pret (r_fitb _) r_le0 ⟨congrArg Sum.inl ?_, rfl⟩
      refine r_bc ?_
      unfold FIL; omega
theorem sp_X3_forgetAll {S : q_Sg} {c w : Nat} (hS : r_ok S)  : r_X f_X3_forgetAll [.ref 22] (q_en S, c, w) (fun _ h2 => ∃ g, h2 = (q_en (q_sA S 4 g), c, w) ∧ (∀ j, 0 ≤ j → j < 12 → g j = 0) ∧ ∀ j, rg (g j)) := by
  refine r_Xof (r_run (L := [_, _]) ⟨rfl, Nat.le_of_ble_eq_true rfl⟩ rfl ?_)
  unfold b_X3_forgetAll
  refine r_seq ?_
  refine r_seq ?_
  refine r_sloc (L2 := [_, _]) (r_lit ql_0) rfl rfl ?_
  refine r_k0 ?_
  refine r_loop (T := Int × (Int → Int)) (fun (σ : Int × (Int → Int)) => match σ with | (k, g) => (0 ≤ k ∧ k ≤ 12) ∧ (∀ j, 0 ≤ j → j < k → g j = 0) ∧ ∀ j, rg (g j)) (fun (σ : Int × (Int → Int)) => match σ with | (k, g) => (12 - k).toNat) (fun (σ : Int × (Int → Int)) => match σ with | (k, g) => [some (.ref 22), some (iv k)]) (fun (σ : Int × (Int → Int)) => match σ with | (k, g) => (q_en (q_sA S 4 g), c, w)) (0, S.2.1 4) rfl (by dsimp only; rw [q_sAs]) ?_ ?_ ?_
  · exact ⟨by omega, fun j h0 h1 => by omega, hS.2 4⟩
  · (show _ < 1000000); first | omega | (dsimp only; omega)
  · rintro ⟨k, g⟩ hP
    try dsimp only at hP ⊢
    obtain ⟨hk, hg, hr⟩ := hP
    refine ⟨_, (r_lt (r_loc rfl rfl) (r_len (r_fld (r_loc rfl rfl) gg_Kinds_isKnown) ga_Kinds_isKnown) (by first | omega | assumption | exact r_zrg _ | exact hS.1 _ | exact hS.2 _ _) (by first | omega | assumption | exact r_zrg _ | exact hS.1 _ | exact hS.2 _ _)), fun hp1 => ?_, fun hp2 => ?_⟩
    ·
      refine r_k0 ?_
      refine wS_retv ?_
      refine r_pretv r_le0 ?_
      exact ⟨_, rfl, g, rfl, fun j h0 h1 => hg j h0 (by omega), hr⟩
    ·
      refine r_sput3 (r_fld (r_loc rfl rfl) gg_Kinds_isKnown) (r_loc rfl rfl) (r_lit ql_0) (r_putI ga_Kinds_isKnown gs_Kinds_isKnown (by first | omega | assumption | exact r_zrg _ | exact hS.1 _ | exact hS.2 _ _) (by first | omega | assumption | exact r_zrg _ | exact hS.1 _ | exact hS.2 _ _) (by decide) (q_narZ (by first | omega | assumption | exact r_zrg _ | exact hS.1 _ | exact hS.2 _ _) (by first | omega | assumption | exact r_zrg _ | exact hS.1 _ | exact hS.2 _ _))) ?_
      refine r_l0 ?_
      refine r_sinc (L2 := [_, _]) rfl rfl ?_
      refine r_lend (k + 1, q_up g k 0) rfl (by rw [q_sAA]; rfl) ?_ (by first | omega | (dsimp only; omega))
      try dsimp only
      refine ⟨by omega, fun j h0 h1 => ?_, r_oku hr (by omega)⟩
      unfold q_up; split
      · rfl
      · exact hg j h0 (by omega)
theorem stg_b {S : q_Sg} (hS : r_ok S) (b : Nat) (s : Int) : rg (stg S.1 b s) := by
  unfold stg; unfold r_i; (repeat' split) <;> exact hS.1 _
theorem stg_ne {f : Nat → Int} {b : Nat} (hK : SOK f b) (s : Int) : stg f b s ≠ -1 := by
  obtain ⟨k0, k1, k2, k3, k4, k5⟩ := hK
  unfold stg; unfold r_i; (repeat' split) <;> omega
theorem r_irg {p : Prop} {x y : Int} (hx : rg x) (hy : rg y) : rg (r_i p x y) := by unfold r_i; split; exact hx; exact hy
