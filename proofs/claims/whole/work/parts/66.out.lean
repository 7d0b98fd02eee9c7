theorem r_H2a {L : qL} {h : qH} {G : qH → Value → Value → Option Value} {a b : qE} {R R2 : Value → qH → Prop} (k : r_C a L h R) (k2 : ∀ v h2, R v h2 → r_C (q_eH2 G (q_eLit v) b) L h2 R2) : r_C (q_eH2 G a b) L h R2 := by
  obtain ⟨v, h2, e, r⟩ := k
  obtain ⟨v2, h3, e2, r2⟩ := k2 v h2 r
  refine ⟨v2, h3, ?_, r2⟩
  show q_bE (a L h) _ = _
  rw [e]; exact e2
theorem r_H2b {L : qL} {h : qH} {G : qH → Value → Value → Option Value} {x : Value} {b : qE} {R R2 : Value → qH → Prop} (k : r_C b L h R) (k2 : ∀ v h2, R v h2 → r_C (q_eH2 G (q_eLit x) (q_eLit v)) L h2 R2) : r_C (q_eH2 G (q_eLit x) b) L h R2 := by
  obtain ⟨v, h2, e, r⟩ := k
  obtain ⟨v2, h3, e2, r2⟩ := k2 v h2 r
  refine ⟨v2, h3, ?_, r2⟩
  show q_bE (b L h) _ = _
  rw [e]; exact e2
theorem r_Cp {L : qL} {h : qH} {e : qE} {v : Value} {R : Value → qH → Prop} (k : r_E e L h v) (r : R v h) : r_C e L h R := ⟨v, h, k, r⟩
theorem q_sIA {S : q_Sg} {k j : Nat} {v : Int} {g : Int → Int} : q_sI (q_sA S j g) k v = q_sA (q_sI S k v) j g := rfl
theorem sp_X10_outer {S : q_Sg} {c w : Nat} (hS : r_ok S) {z : Int} (hz : rg z) : r_X f_X10_outer [.ref 47, iv z] (q_en S, c, w) (fun r h2 => ∃ g, h2 = (q_en (q_sA (q_sI S 23 (r_i (0 ≤ z ∧ z < 12) 0 1)) 33 g), c, w) ∧ (∀ j, rg (g j)) ∧ (((r_i (0 ≤ z ∧ z < 12) 0 1) = 0 ∧ r = iv (cnt (LSC (S.2.1 21) 1 z) 196)) ∨ (¬ (r_i (0 ≤ z ∧ z < 12) 0 1) = 0 ∧ r = iv 0))) := by
  refine r_Xof (r_run (L := [_, _]) ⟨rfl, Nat.le_of_ble_eq_true rfl⟩ rfl ?_)
  unfold b_X10_outer
  have hzr : (r_i (0 ≤ z ∧ z < 12) 0 1) = 0 → 0 ≤ z ∧ z < 12 := by unfold r_i; (repeat' split) <;> omega
  have hS2 : r_ok (q_sI S 23 (r_i (0 ≤ z ∧ z < 12) 0 1)) := r_okI hS (by unfold r_i; split <;> omega)
  refine r_sretD (r_Dz (r_callG (r_cons (r_loc rfl rfl) (r_cons (r_if (r_bz (r_call (r_cons (r_loc rfl rfl) r_nil) rfl (sp_X10_isLayer (by first | omega | assumption | exact hS.1 _ | exact hS.2 _ _ | (unfold r_i; (repeat' split) <;> omega) | exact r_zrg _ | exact hzr (by assumption))) rfl)) (fun hp1 => (r_lit ql_0)) (fun hp2 => (r_lit ql_1))) r_nil)) rfl (sp_X10_goesOn (by first | omega | assumption | exact hS.1 _ | exact hS.2 _ _ | (unfold r_i; (repeat' split) <;> omega) | exact r_zrg _ | exact hzr (by assumption))) rfl)) (fun hp3 => ?_) (fun hp4 => ?_)
  ·
    refine r_sretC (r_callC (r_cons (r_loc rfl rfl) (r_cons (r_loc rfl rfl) (r_cons (r_lit ql_1) r_nil))) rfl (sp_X10_sets (by first | omega | assumption | exact hS.1 _ | exact hS.2 _ _ | (unfold r_i; (repeat' split) <;> omega) | exact r_zrg _ | exact hzr (by assumption)) (by first | omega | assumption | exact hS.1 _ | exact hS.2 _ _ | (unfold r_i; (repeat' split) <;> omega) | exact r_zrg _ | exact hzr (by assumption)) (by first | omega | assumption | exact hS.1 _ | exact hS.2 _ _ | (unfold r_i; (repeat' split) <;> omega) | exact r_zrg _ | exact hzr (by assumption))) (by rintro _ _ ⟨gz, rfl, rfl, hgz⟩; rfl)) ?_
    rintro _ _ ⟨g1, rfl, rfl, hg1⟩
    refine r_pret (q_fit_int _) r_le0 ?_
    exact ⟨_, rfl, g1, rfl, hg1, Or.inl ⟨by assumption, rfl⟩⟩
  ·
    refine r_sret (r_lit ql_0) ?_
    refine r_pret (q_fit_int _) r_le0 ?_
    exact ⟨_, rfl, S.2.1 33, (by rw [← q_sIA, q_sAs]), hS.2 33, Or.inr ⟨by assumption, rfl⟩⟩
theorem sp_X10_inner {S : q_Sg} {c w : Nat} (hS : r_ok S) {z : Int} (hz : rg z) : r_X f_X10_inner [.ref 47, iv z] (q_en S, c, w) (fun r h2 => ∃ g, h2 = (q_en (q_sA (q_sI S 23 (r_i (0 ≤ z ∧ z < 12) 0 1)) 33 g), c, w) ∧ (∀ j, rg (g j)) ∧ (((r_i (0 ≤ z ∧ z < 12) 0 1) = 0 ∧ r = iv (cnt (LSC (S.2.1 21) 0 z) 196 - 1)) ∨ (¬ (r_i (0 ≤ z ∧ z < 12) 0 1) = 0 ∧ r = iv 0))) := by
  refine r_Xof (r_run (L := [_, _]) ⟨rfl, Nat.le_of_ble_eq_true rfl⟩ rfl ?_)
  unfold b_X10_inner
  have hzr : (r_i (0 ≤ z ∧ z < 12) 0 1) = 0 → 0 ≤ z ∧ z < 12 := by unfold r_i; (repeat' split) <;> omega
  have hS2 : r_ok (q_sI S 23 (r_i (0 ≤ z ∧ z < 12) 0 1)) := r_okI hS (by unfold r_i; split <;> omega)
  refine r_sretD (r_Dz (r_callG (r_cons (r_loc rfl rfl) (r_cons (r_if (r_bz (r_call (r_cons (r_loc rfl rfl) r_nil) rfl (sp_X10_isLayer (by first | omega | assumption | exact hS.1 _ | exact hS.2 _ _ | (unfold r_i; (repeat' split) <;> omega) | exact r_zrg _ | exact hzr (by assumption))) rfl)) (fun hp1 => (r_lit ql_0)) (fun hp2 => (r_lit ql_1))) r_nil)) rfl (sp_X10_goesOn (by first | omega | assumption | exact hS.1 _ | exact hS.2 _ _ | (unfold r_i; (repeat' split) <;> omega) | exact r_zrg _ | exact hzr (by assumption))) rfl)) (fun hp3 => ?_) (fun hp4 => ?_)
  · refine r_sretC (R := fun v h2 => ∃ g, v = iv (cnt (LSC (S.2.1 21) 0 z) 196 - 1) ∧ h2 = (q_en (q_sA (q_sI S 23 (r_i (0 ≤ z ∧ z < 12) 0 1)) 33 g), c, w) ∧ ∀ j, rg (g j)) ?_ ?_
    · refine r_H2a (r_callC (r_cons (r_loc rfl rfl) (r_cons (r_loc rfl rfl) (r_cons (r_lit ql_0) r_nil))) rfl (sp_X10_sets hS2 (by omega) (hzr (by assumption))) (by rintro _ _ ⟨gz, rfl, rfl, hgz⟩; rfl)) ?_
      rintro _ _ ⟨g1, rfl, rfl, hg1⟩
      exact r_Cp (r_sub rfl (r_lit ql_1)) ⟨g1, rfl, rfl, hg1⟩
    · rintro _ _ ⟨g1, rfl, rfl, hg1⟩
      refine r_pret (q_fit_int _) r_le0 ?_
      exact ⟨_, rfl, g1, rfl, hg1, Or.inl ⟨by assumption, rfl⟩⟩
  · refine r_sret (r_lit ql_0) ?_
    refine r_pret (q_fit_int _) r_le0 ?_
    exact ⟨_, rfl, S.2.1 33, (by rw [← q_sIA, q_sAs]), hS.2 33, Or.inr ⟨by assumption, rfl⟩⟩
theorem sp_X10_outlinesByEdges {S : q_Sg} {c w : Nat} (hS : r_ok S) {z : Int} (hz : rg z) : r_X f_X10_outlinesByEdges [.ref 47, iv z] (q_en S, c, w) (fun r h2 => ∃ g, h2 = (q_en (q_sA (q_sI S 23 (r_i (0 ≤ z ∧ z < 12) 0 1)) 33 g), c, w) ∧ (∀ j, rg (g j)) ∧ (((r_i (0 ≤ z ∧ z < 12) 0 1) = 0 ∧ r = iv (cnt (LSC (S.2.1 21) 1 z) 196 + cnt (LSC (S.2.1 21) 0 z) 196 - 1)) ∨ (¬ (r_i (0 ≤ z ∧ z < 12) 0 1) = 0 ∧ r = iv 0))) := by
  refine r_Xof (r_run (L := [_, _]) ⟨rfl, Nat.le_of_ble_eq_true rfl⟩ rfl ?_)
  unfold b_X10_outlinesByEdges
  have hzr : (r_i (0 ≤ z ∧ z < 12) 0 1) = 0 → 0 ≤ z ∧ z < 12 := by unfold r_i; (repeat' split) <;> omega
  have hS2 : r_ok (q_sI S 23 (r_i (0 ≤ z ∧ z < 12) 0 1)) := r_okI hS (by unfold r_i; split <;> omega)
  refine r_sretD (r_Dz (r_callG (r_cons (r_loc rfl rfl) (r_cons (r_if (r_bz (r_call (r_cons (r_loc rfl rfl) r_nil) rfl (sp_X10_isLayer (by first | omega | assumption | exact hS.1 _ | exact hS.2 _ _ | (unfold r_i; (repeat' split) <;> omega) | exact r_zrg _ | exact hzr (by assumption))) rfl)) (fun hp1 => (r_lit ql_0)) (fun hp2 => (r_lit ql_1))) r_nil)) rfl (sp_X10_goesOn (by first | omega | assumption | exact hS.1 _ | exact hS.2 _ _ | (unfold r_i; (repeat' split) <;> omega) | exact r_zrg _ | exact hzr (by assumption))) rfl)) (fun hp3 => ?_) (fun hp4 => ?_)
  · refine r_sretC (R := fun v h2 => ∃ g, v = iv (cnt (LSC (S.2.1 21) 1 z) 196 + cnt (LSC (S.2.1 21) 0 z) 196 - 1) ∧ h2 = (q_en (q_sA (q_sI S 23 (r_i (0 ≤ z ∧ z < 12) 0 1)) 33 g), c, w) ∧ ∀ j, rg (g j)) ?_ ?_
    · refine r_H2a (R := fun v h2 => ∃ g, v = iv (cnt (LSC (S.2.1 21) 1 z) 196 + cnt (LSC (S.2.1 21) 0 z) 196) ∧ h2 = (q_en (q_sA (q_sI S 23 (r_i (0 ≤ z ∧ z < 12) 0 1)) 33 g), c, w) ∧ ∀ j, rg (g j)) (r_H2a (r_callC (r_cons (r_loc rfl rfl) (r_cons (r_loc rfl rfl) (r_cons (r_lit ql_1) r_nil))) rfl (sp_X10_sets hS2 (by omega) (hzr (by assumption))) (by rintro _ _ ⟨gz, rfl, rfl, hgz⟩; rfl)) ?_) ?_
      · rintro _ _ ⟨g1, rfl, rfl, hg1⟩
        refine r_H2b (r_callC (r_cons (r_loc rfl rfl) (r_cons (r_loc rfl rfl) (r_cons (r_lit ql_0) r_nil))) rfl (sp_X10_sets (r_okA hS2 hg1) (by omega) (hzr (by assumption))) (by rintro _ _ ⟨gz, rfl, rfl, hgz⟩; rfl)) ?_
        rintro _ _ ⟨g2, rfl, rfl, hg2⟩
        exact r_Cp (r_add rfl rfl) ⟨g2, rfl, (by rw [q_sAA]), hg2⟩
      · rintro _ _ ⟨g1, rfl, rfl, hg1⟩
        exact r_Cp (r_sub rfl (r_lit ql_1)) ⟨g1, rfl, rfl, hg1⟩
    · rintro _ _ ⟨g1, rfl, rfl, hg1⟩
      refine r_pret (q_fit_int _) r_le0 ?_
      exact ⟨_, rfl, g1, rfl, hg1, Or.inl ⟨by assumption, rfl⟩⟩
  · refine r_sret (r_lit ql_0) ?_
    refine r_pret (q_fit_int _) r_le0 ?_
    exact ⟨_, rfl, S.2.1 33, (by rw [← q_sIA, q_sAs]), hS.2 33, Or.inr ⟨by assumption, rfl⟩⟩
