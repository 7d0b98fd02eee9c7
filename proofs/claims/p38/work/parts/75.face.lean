/-! the faces of the class -/
def r_R (P : Int → q_Sg → Prop) (N : Nat → Prop) (S : q_Sg) (c w : Nat) : Value ⊕ Nat → qH → Prop := fun r h2 => (∃ z T, r = .inl (iv z) ∧ rg z ∧ h2 = (q_en T, c, w) ∧ P z T) ∨ (∃ n, r = .inr n ∧ h2 = (q_en S, c + 1, w + 6) ∧ N n)
theorem r_cntr {p : Int → Prop} {n : Nat} (hn : n < 2147483648) : rg (cnt p n) := by have := cnt_b (p := p) n; omega
theorem r_sIr {K : Int → Int → Int} : rg (sI K 720) := r_cntr (by decide)
theorem stg_rg {S : q_Sg} (hS : r_ok S) (b : Nat) (s : Int) : rg (stg S.1 b s) := by
  have h0 := hS.1 b; have h1 := hS.1 (b + 1); have h2 := hS.1 (b + 2); have h3 := hS.1 (b + 3); have h4 := hS.1 (b + 4); have h5 := hS.1 (b + 5)
  unfold stg r_i; (repeat' split) <;> assumption
theorem TKN_b {l : List qCmd} {th : Int → Int} {tg : Int} (ht : 0 ≤ tg ∧ tg ≤ 300) : ∀ (k : Nat) {m n : MT} {kz ov : Int}, MI l m → TKN l th tg k m n kz ov → MI l n ∧ (0 ≤ ov ∧ ov ≤ k) ∧ (kz = -2 ∨ (0 ≤ kz ∧ kz < l.length))
  | 0, m, n, kz, ov, hm, ⟨h1, h2, h3⟩ => by
    subst h1 h2 h3
    exact ⟨hm, ⟨Int.le_refl _, Int.le_refl _⟩, Or.inl rfl⟩
  | k + 1, m, n, kz, ov, hm, ⟨m1, kz1, ov1, kz2, ov2, h1, h2, h3, h4⟩ => by
    obtain ⟨a1, a2, a3⟩ := TKN_b ht k hm h1
    obtain ⟨b1, b2, b3⟩ := TK1_MI ht a1 h2
    refine ⟨b1, by omega, ?_⟩
    by_cases e : kz2 = -2
    · rw [h3, if_pos e]; exact a3
    · rw [h3, if_neg e]
      rcases h2.2 with ⟨_, _, _, _, _, _, c, _⟩ | ⟨c, _, _⟩
      · exact absurd c e
      · have d := a1.2.1 (c.elim Or.inl (fun d => Or.inr (Or.inl d)))
        have d0 := a1.1.1
        exact Or.inr (by omega)
theorem TKN_s {l : List qCmd} {th : Int → Int} {tg : Int} : ∀ (k : Nat) {m n : MT} {kz ov : Int}, ¬ (m.1 = 114 ∨ m.1 = 119) → TKN l th tg k m n kz ov → n.1 = m.1 ∧ kz = -2
  | 0, m, n, kz, ov, hm, ⟨h1, h2, h3⟩ => by
    subst h1
    exact ⟨rfl, h2⟩
  | k + 1, m, n, kz, ov, hm, ⟨m1, kz1, ov1, kz2, ov2, h1, h2, h3, h4⟩ => by
    obtain ⟨a1, a2⟩ := TKN_s k hm h1
    rcases h2.2 with ⟨_, c1, _, _, _, _, c, _⟩ | ⟨c, _, _⟩
    · exact ⟨c1.trans a1, by rw [h3, if_pos c]; exact a2⟩
    · rw [a1] at c; exact absurd c hm
theorem TKN_rg {l : List qCmd} {th : Int → Int} {tg : Int} {k : Nat} {m n : MT} {kz ov : Int} (hk : k ≤ 200) (ht : 0 ≤ tg ∧ tg ≤ 300) (hm : MI l m) (h : TKN l th tg k m n kz ov) : rg ov := by
  have := (TKN_b ht k hm h).2.1
  omega
theorem r_saddE {i : Nat} {e : qE} {x : Int} {L : qL} {h : qH} {Q : qQ} {R : Value → qH → Prop} (hx : L[i]? = some (some (iv x))) (k : r_C e L h R) (q : ∀ v h2, R v h2 → ∃ z, v = iv z ∧ Q (0, .null) (q_stL L i (iv (x + z))) h2) : wS (q_sLoc 0 i (q_eH2 (fun _ => q_iadd) (q_eLoc 0 i) e)) L h Q := by
  obtain ⟨v, h2, e1, r⟩ := k
  obtain ⟨z, rfl, q⟩ := q v h2 r
  exact wS_loc (wE_h2 (wE_loc hx rfl ⟨_, h2, e1, w2_iadd (a := x) (b := z) ⟨rfl, q⟩⟩))
theorem sp_X9_box {S : q_Sg} {c w : Nat} (hS : r_ok S) {p : Prop} {x y z dx dy dz : Int} (h01 : r01 (S.2.1 0)) (hx : rg x) (hy : rg y) (hz : rg z) (hdx : rg dx) (hdy : rg dy) (hdz : rg dz) : r_M f_X9_box [.ref 16, iv x, iv y, iv z, iv dx, iv dy, iv dz, r_b p] (q_en S, c, w) (r_R (fun ans T => (((0 ≤ x ∧ x < 12) ∧ 1 ≤ dx ∧ dx ≤ 12 - x) ∧ ((0 ≤ y ∧ y < 12) ∧ 1 ≤ dy ∧ dy ≤ 12 - y) ∧ ((0 ≤ z ∧ z < 12) ∧ 1 ≤ dz ∧ dz ≤ 12 - z)) ∧ ∃ g4 g, T = q_sA (q_sA S 4 g4) 0 g ∧ (∀ j, 0 ≤ j → j < 12 → g4 j = 0) ∧ (∀ j, rg (g4 j)) ∧ BINV (S.2.1 0) (r_z p) (BXP x y z dx dy dz) g ans 1728) (fun n => ¬ (((0 ≤ x ∧ x < 12) ∧ 1 ≤ dx ∧ dx ≤ 12 - x) ∧ ((0 ≤ y ∧ y < 12) ∧ 1 ≤ dy ∧ dy ≤ 12 - y) ∧ ((0 ≤ z ∧ z < 12) ∧ 1 ≤ dz ∧ dz ≤ 12 - z)) ∧ n = 0) S c w) := by
  refine r_run (L := [_, _, _, _, _, _, _, _, _, _]) ⟨rfl, Nat.le_of_ble_eq_true rfl⟩ rfl ?_
  unfold b_X9_box
  refine r_seq ?_
  refine r_sif (r_or (r_or (r_not (r_bz (r_call (r_cons (r_loc rfl rfl) (r_cons (r_loc rfl rfl) r_nil)) rfl (sp_X9_isSpan (by first | omega | assumption | exact hS.1 _ | exact hS.2 _ _ | exact r_zrg _ | exact hSg | exact hBI | exact ⟨by omega, by omega, by omega⟩ | (rw [hA0]; exact hBI) | exact r_zrg _) (by first | omega | assumption | exact hS.1 _ | exact hS.2 _ _ | exact r_zrg _ | exact hSg | exact hBI | exact ⟨by omega, by omega, by omega⟩ | (rw [hA0]; exact hBI) | exact r_zrg _)) rfl))) (fun hp1 => (r_not (r_bz (r_call (r_cons (r_loc rfl rfl) (r_cons (r_loc rfl rfl) r_nil)) rfl (sp_X9_isSpan (by first | omega | assumption | exact hS.1 _ | exact hS.2 _ _ | exact r_zrg _ | exact hSg | exact hBI | exact ⟨by omega, by omega, by omega⟩ | (rw [hA0]; exact hBI) | exact r_zrg _) (by first | omega | assumption | exact hS.1 _ | exact hS.2 _ _ | exact r_zrg _ | exact hSg | exact hBI | exact ⟨by omega, by omega, by omega⟩ | (rw [hA0]; exact hBI) | exact r_zrg _)) rfl))))) (fun hp2 => (r_not (r_bz (r_call (r_cons (r_loc rfl rfl) (r_cons (r_loc rfl rfl) r_nil)) rfl (sp_X9_isSpan (by first | omega | assumption | exact hS.1 _ | exact hS.2 _ _ | exact r_zrg _ | exact hSg | exact hBI | exact ⟨by omega, by omega, by omega⟩ | (rw [hA0]; exact hBI) | exact r_zrg _) (by first | omega | assumption | exact hS.1 _ | exact hS.2 _ _ | exact r_zrg _ | exact hSg | exact hBI | exact ⟨by omega, by omega, by omega⟩ | (rw [hA0]; exact hBI) | exact r_zrg _)) rfl))))) (fun hp3 => ?_) (fun hp4 => ?_)
  ·
    have hpT := hp3
    have hpT0 := hp3
    refine wS_throw (x := 0) ?_
    refine r_ks (j := 4) ?_
    refine r_pthr (n := 0) ⟨Nat.le_succ _, Nat.le_add_right _ _⟩ ?_
    refine Or.inr ⟨_, rfl, rfl, fun hq => ?_, rfl⟩
    rcases hpT0 with (d | d) | d
    · exact d hq.1
    · exact d hq.2.1
    · exact d hq.2.2
  ·
    have hpF := hp4
    have hpF0 := hp4
    refine wS_skip ?_
    refine r_k0 ?_
    refine r_seq ?_
    refine r_call0 (r_cons (r_fld (r_loc rfl rfl) gg_SW_kinds) r_nil) rfl (sp_X3_forgetAll (by first | omega | assumption | exact hS.1 _ | exact hS.2 _ _ | exact r_zrg _ | exact hSg | exact hBI | exact ⟨by omega, by omega, by omega⟩ | (rw [hA0]; exact hBI) | exact r_zrg _)) ?_
    rintro _ _ ⟨g4, rfl, hz4, hr4⟩
    refine r_k0 ?_
    refine r_seq ?_
    refine r_sloc (L2 := [_, _, _, _, _, _, _, _, _, _]) (r_lit ql_0) rfl rfl ?_
    refine r_k0 ?_
    refine r_seq ?_
    refine r_seq ?_
    refine r_sloc (L2 := [_, _, _, _, _, _, _, _, _, _]) (r_loc rfl rfl) rfl rfl ?_
    refine r_k0 ?_
    have hsp : (((0 ≤ x ∧ x < 12) ∧ 1 ≤ dx ∧ dx ≤ 12 - x) ∧ ((0 ≤ y ∧ y < 12) ∧ 1 ≤ dy ∧ dy ≤ 12 - y) ∧ ((0 ≤ z ∧ z < 12) ∧ 1 ≤ dz ∧ dz ≤ 12 - z)) := by
      rw [not_or, not_or] at hpF0
      exact ⟨Classical.not_not.mp hpF0.1.1, Classical.not_not.mp hpF0.1.2, Classical.not_not.mp hpF0.2⟩
    refine r_loop (T := Int × Int × (Int → Int)) (fun (σ : Int × Int × (Int → Int)) => match σ with | (t, n, g) => (z ≤ t ∧ t ≤ z + dz) ∧ BINV (S.2.1 0) (r_z p) (BXP x y z dx dy dz) g n (144 * t) ∧ (0 ≤ n ∧ n ≤ 1728)) (fun (σ : Int × Int × (Int → Int)) => match σ with | (t, n, g) => (z + dz - t).toNat) (fun (σ : Int × Int × (Int → Int)) => match σ with | (t, n, g) => [some (.ref 16), some (iv x), some (iv y), some (iv z), some (iv dx), some (iv dy), some (iv dz), some (r_b p), some (iv n), some (iv t)]) (fun (σ : Int × Int × (Int → Int)) => match σ with | (t, n, g) => (q_en (q_sA (q_sA S 4 g4) 0 g), c, w)) (z, 0, S.2.1 0) rfl (by dsimp only; rw [show S.2.1 0 = (q_sA S 4 g4).2.1 0 from rfl, q_sAs]) ?_ ?_ ?_
    · exact ⟨⟨by omega, by omega⟩, BINV_s (BINV_i (fun k k0 k1 => by obtain ⟨k2, _, _⟩ := k1; omega)) (by omega) (by omega) (fun k k0 k1 k2 => by obtain ⟨k3, _, _⟩ := k2; omega), by omega, by omega⟩
    · (show _ < 1000000); first | omega | (dsimp only; omega)
    · rintro ⟨t, n, g⟩ hP
      try dsimp only at hP ⊢
      obtain ⟨ht, hBI, hn⟩ := hP
      refine ⟨_, (r_lt (r_loc rfl rfl) (r_add (r_loc rfl rfl) (r_loc rfl rfl)) (by first | omega | assumption | exact hS.1 _ | exact hS.2 _ _ | exact r_zrg _ | exact hSg | exact hBI | exact ⟨by omega, by omega, by omega⟩ | (rw [hA0]; exact hBI) | exact r_zrg _) (by first | omega | assumption | exact hS.1 _ | exact hS.2 _ _ | exact r_zrg _ | exact hSg | exact hBI | exact ⟨by omega, by omega, by omega⟩ | (rw [hA0]; exact hBI) | exact r_zrg _)), fun hp5 => ?_, fun hp6 => ?_⟩
      ·
        have ht2 := hp5
        have hlast : BINV (S.2.1 0) (r_z p) (BXP x y z dx dy dz) g n 1728 := BINV_s hBI (by omega) (by omega) (fun k k0 k1 k2 => by obtain ⟨k3, _, _⟩ := k2; omega)
        refine r_k0 ?_
        refine r_sret (r_loc rfl rfl) ?_
        refine r_pret (q_fit_int _) r_le0 ?_
        exact Or.inl ⟨_, _, rfl, by omega, rfl, hsp, g4, g, rfl, hz4, hr4, hlast⟩
      ·
        have ht2 := hp6
        have hg01 := BINV_01 hBI h01 (show r_z p = 0 ∨ r_z p = 1 by have := r_zd p; omega)
        have hSg : r_ok (q_sA (q_sA S 4 g4) 0 g) := r_okA (r_okA hS hr4) (r01_r hg01)
        have hA0 : (q_sA (q_sA S 4 g4) 0 g).2.1 0 = g := rfl
        refine r_saddE rfl (r_callC (r_cons (r_fld (r_loc rfl rfl) gg_SW_body) (r_cons (r_loc rfl rfl) (r_cons (r_loc rfl rfl) (r_cons (r_loc rfl rfl) (r_cons (r_loc rfl rfl) (r_cons (r_loc rfl rfl) (r_cons (r_loc rfl rfl) r_nil))))))) rfl (sp_X0_changeLayer (a := S.2.1 0) (z0 := z) (dz := dz) (n0 := n) (by first | omega | assumption | exact hS.1 _ | exact hS.2 _ _ | exact r_zrg _ | exact hSg | exact hBI | exact ⟨by omega, by omega, by omega⟩ | (rw [hA0]; exact hBI) | exact r_zrg _) (by first | omega | assumption | exact hS.1 _ | exact hS.2 _ _ | exact r_zrg _ | exact hSg | exact hBI | exact ⟨by omega, by omega, by omega⟩ | (rw [hA0]; exact hBI) | exact r_zrg _) (by first | omega | assumption | exact hS.1 _ | exact hS.2 _ _ | exact r_zrg _ | exact hSg | exact hBI | exact ⟨by omega, by omega, by omega⟩ | (rw [hA0]; exact hBI) | exact r_zrg _) (by first | omega | assumption | exact hS.1 _ | exact hS.2 _ _ | exact r_zrg _ | exact hSg | exact hBI | exact ⟨by omega, by omega, by omega⟩ | (rw [hA0]; exact hBI) | exact r_zrg _) (by first | omega | assumption | exact hS.1 _ | exact hS.2 _ _ | exact r_zrg _ | exact hSg | exact hBI | exact ⟨by omega, by omega, by omega⟩ | (rw [hA0]; exact hBI) | exact r_zrg _) (by first | omega | assumption | exact hS.1 _ | exact hS.2 _ _ | exact r_zrg _ | exact hSg | exact hBI | exact ⟨by omega, by omega, by omega⟩ | (rw [hA0]; exact hBI) | exact r_zrg _) (by first | omega | assumption | exact hS.1 _ | exact hS.2 _ _ | exact r_zrg _ | exact hSg | exact hBI | exact ⟨by omega, by omega, by omega⟩ | (rw [hA0]; exact hBI) | exact r_zrg _)) (by rintro _ _ ⟨g2, n2, rfl, rfl, hB2, hn2⟩; rfl)) ?_
        rintro _ _ ⟨g2, n2, rfl, rfl, hB2, hn2⟩
        refine ⟨_, rfl, ?_⟩
        refine r_l0 ?_
        refine r_sinc (L2 := [_, _, _, _, _, _, _, _, _, _]) rfl rfl ?_
        refine r_lend (t + 1, n + n2, g2) rfl (by rw [q_sAA]) ?_ (by first | omega | (dsimp only; omega))
        try dsimp only
        exact ⟨⟨by omega, by omega⟩, hB2, by rw [hB2.2]; exact (cnt_b _).1, by have h5 := (cnt_b (p := fun k => BXP x y z dx dy dz k ∧ ¬ S.2.1 0 k = r_z p) (144 * (t + 1)).toNat).2; rw [hB2.2]; omega⟩
theorem sp_X9_set {S : q_Sg} {c w : Nat} (hS : r_ok S) {s v : Int} (hs : rg s) (hv : rg v) : r_M f_X9_set [.ref 16, iv s, iv v] (q_en S, c, w) (r_R (fun ans T => ALW s v ∧ ans = stg S.1 0 s ∧ ∃ g4, (∀ j, 0 ≤ j → j < 12 → g4 j = 0) ∧ r_ok T ∧ r_fr [0, 1, 2, 3, 4, 5] [] [] (q_sA S 4 g4) T ∧ STS 0 s v S T) (fun n => ¬ ALW s v ∧ n = 0) S c w) := by
  refine r_run (L := [_, _, _]) ⟨rfl, Nat.le_of_ble_eq_true rfl⟩ rfl ?_
  unfold b_X9_set
  refine r_seq ?_
  refine r_sif (r_not (r_bz (r_call (r_cons (r_loc rfl rfl) (r_cons (r_loc rfl rfl) r_nil)) rfl (sp_X7_isAllowed (by first | omega | assumption | exact hS.1 _ | exact hS.2 _ _ | exact r_zrg _ | exact r_okA hS hr4 | exact Classical.not_not.mp hpF0) (by first | omega | assumption | exact hS.1 _ | exact hS.2 _ _ | exact r_zrg _ | exact r_okA hS hr4 | exact Classical.not_not.mp hpF0)) rfl))) (fun hp1 => ?_) (fun hp2 => ?_)
  ·
    have hpT := hp1
    have hpT0 := hp1
    refine wS_throw (x := 0) ?_
    refine r_ks (j := 4) ?_
    refine r_pthr (n := 0) ⟨Nat.le_succ _, Nat.le_add_right _ _⟩ ?_
    exact Or.inr ⟨_, rfl, rfl, by assumption, rfl⟩
  ·
    have hpF := hp2
    have hpF0 := hp2
    refine wS_skip ?_
    refine r_k0 ?_
    refine r_seq ?_
    refine r_call0 (r_cons (r_fld (r_loc rfl rfl) gg_SW_kinds) r_nil) rfl (sp_X3_forgetAll (by first | omega | assumption | exact hS.1 _ | exact hS.2 _ _ | exact r_zrg _ | exact r_okA hS hr4 | exact Classical.not_not.mp hpF0)) ?_
    rintro _ _ ⟨g4, rfl, hz4, hr4⟩
    refine r_k0 ?_
    refine r_sretC (r_callC (r_cons (r_fld (r_loc rfl rfl) gg_SW_settings) (r_cons (r_loc rfl rfl) (r_cons (r_loc rfl rfl) r_nil))) rfl (sp_X7_changeNumber (by first | omega | assumption | exact hS.1 _ | exact hS.2 _ _ | exact r_zrg _ | exact r_okA hS hr4 | exact Classical.not_not.mp hpF0) (by first | omega | assumption | exact hS.1 _ | exact hS.2 _ _ | exact r_zrg _ | exact r_okA hS hr4 | exact Classical.not_not.mp hpF0) (by first | omega | assumption | exact hS.1 _ | exact hS.2 _ _ | exact r_zrg _ | exact r_okA hS hr4 | exact Classical.not_not.mp hpF0) (by first | omega | assumption | exact hS.1 _ | exact hS.2 _ _ | exact r_zrg _ | exact r_okA hS hr4 | exact Classical.not_not.mp hpF0)) (by rintro _ _ ⟨T2, rfl, rfl, hT2, hf2, hst2⟩; rfl)) ?_
    rintro _ _ ⟨T2, rfl, rfl, hT2, hf2, hst2⟩
    refine r_pret (q_fit_int _) r_le0 ?_
    exact Or.inl ⟨_, _, rfl, stg_rg hS _ _, rfl, Classical.not_not.mp hpF0, rfl, g4, hz4, hT2, hf2, hst2⟩
theorem sp_X9_setPattern {S : q_Sg} {c w : Nat} (hS : r_ok S) {p : Int} (hp : 0 ≤ p ∧ p < 65536) (h6 : 0 ≤ S.1 6 ∧ S.1 6 < 65536) : r_M f_X9_setPattern [.ref 16, iv p] (q_en S, c, w) (r_R (fun ans T => (p = 108 ∨ p = 103 ∨ p = 119) ∧ ans = S.1 6 ∧ ∃ g4, (∀ j, 0 ≤ j → j < 12 → g4 j = 0) ∧ (∀ j, rg (g4 j)) ∧ T = q_sI (q_sA S 4 g4) 6 p) (fun n => ¬ (p = 108 ∨ p = 103 ∨ p = 119) ∧ n = 0) S c w) := by
  refine r_run (L := [_, _]) ⟨rfl, Nat.le_of_ble_eq_true rfl⟩ rfl ?_
  unfold b_X9_setPattern
  refine r_seq ?_
  refine r_sif (r_and (r_and (r_ne (r_loc rfl rfl) (r_lit ql_108) (by first | omega | assumption | exact hS.1 _ | exact hS.2 _ _ | exact r_zrg _ | exact r_okA hS hr4 | exact h6 | (show 0 ≤ S.1 6; exact h6.1) | (show S.1 6 < 65536; exact h6.2)) (by first | omega | assumption | exact hS.1 _ | exact hS.2 _ _ | exact r_zrg _ | exact r_okA hS hr4 | exact h6 | (show 0 ≤ S.1 6; exact h6.1) | (show S.1 6 < 65536; exact h6.2))) (fun hp1 => (r_ne (r_loc rfl rfl) (r_lit ql_103) (by first | omega | assumption | exact hS.1 _ | exact hS.2 _ _ | exact r_zrg _ | exact r_okA hS hr4 | exact h6 | (show 0 ≤ S.1 6; exact h6.1) | (show S.1 6 < 65536; exact h6.2)) (by first | omega | assumption | exact hS.1 _ | exact hS.2 _ _ | exact r_zrg _ | exact r_okA hS hr4 | exact h6 | (show 0 ≤ S.1 6; exact h6.1) | (show S.1 6 < 65536; exact h6.2))))) (fun hp2 => (r_ne (r_loc rfl rfl) (r_lit ql_119) (by first | omega | assumption | exact hS.1 _ | exact hS.2 _ _ | exact r_zrg _ | exact r_okA hS hr4 | exact h6 | (show 0 ≤ S.1 6; exact h6.1) | (show S.1 6 < 65536; exact h6.2)) (by first | omega | assumption | exact hS.1 _ | exact hS.2 _ _ | exact r_zrg _ | exact r_okA hS hr4 | exact h6 | (show 0 ≤ S.1 6; exact h6.1) | (show S.1 6 < 65536; exact h6.2))))) (fun hp3 => ?_) (fun hp4 => ?_)
  ·
    have hpT := hp3
    have hpT0 := hp3
    refine wS_throw (x := 0) ?_
    refine r_ks (j := 4) ?_
    refine r_pthr (n := 0) ⟨Nat.le_succ _, Nat.le_add_right _ _⟩ ?_
    exact Or.inr ⟨_, rfl, rfl, by omega, rfl⟩
  ·
    have hpF := hp4
    have hpF0 := hp4
    refine wS_skip ?_
    refine r_k0 ?_
    refine r_seq ?_
    refine r_call0 (r_cons (r_fld (r_loc rfl rfl) gg_SW_kinds) r_nil) rfl (sp_X3_forgetAll (by first | omega | assumption | exact hS.1 _ | exact hS.2 _ _ | exact r_zrg _ | exact r_okA hS hr4 | exact h6 | (show 0 ≤ S.1 6; exact h6.1) | (show S.1 6 < 65536; exact h6.2))) ?_
    rintro _ _ ⟨g4, rfl, hz4, hr4⟩
    refine r_k0 ?_
    refine r_sretG (r_callG (r_cons (r_fld (r_loc rfl rfl) gg_SW_settings) (r_cons (r_loc rfl rfl) r_nil)) rfl (sp_X7_changePattern (by first | omega | assumption | exact hS.1 _ | exact hS.2 _ _ | exact r_zrg _ | exact r_okA hS hr4 | exact h6 | (show 0 ≤ S.1 6; exact h6.1) | (show S.1 6 < 65536; exact h6.2)) (by first | omega | assumption | exact hS.1 _ | exact hS.2 _ _ | exact r_zrg _ | exact r_okA hS hr4 | exact h6 | (show 0 ≤ S.1 6; exact h6.1) | (show S.1 6 < 65536; exact h6.2)) (by first | omega | assumption | exact hS.1 _ | exact hS.2 _ _ | exact r_zrg _ | exact r_okA hS hr4 | exact h6 | (show 0 ≤ S.1 6; exact h6.1) | (show S.1 6 < 65536; exact h6.2))) rfl) ?_
    refine r_pret (q_fit_char (by first | omega | assumption | exact hS.1 _ | exact hS.2 _ _ | exact r_zrg _ | exact r_okA hS hr4 | exact h6 | (show 0 ≤ S.1 6; exact h6.1) | (show S.1 6 < 65536; exact h6.2)) (by first | omega | assumption | exact hS.1 _ | exact hS.2 _ _ | exact r_zrg _ | exact r_okA hS hr4 | exact h6 | (show 0 ≤ S.1 6; exact h6.1) | (show S.1 6 < 65536; exact h6.2))) r_le0 ?_
    exact Or.inl ⟨S.1 6, _, rfl, hS.1 6, rfl, by omega, rfl, g4, hz4, hr4, rfl⟩
theorem sp_X9_setThickness {S : q_Sg} {c w : Nat} (hS : r_ok S) {z v : Int} (hz : rg z) (hv : rg v) : r_M f_X9_setThickness [.ref 16, iv z, iv v] (q_en S, c, w) (r_R (fun ans T => ((0 ≤ z ∧ z < 12) ∧ 1 ≤ v ∧ v ≤ 3) ∧ ans = S.2.1 1 z ∧ T = q_sA S 1 (q_up (S.2.1 1) z v)) (fun n => (¬ (0 ≤ z ∧ z < 12) ∧ n = 1) ∨ ((0 ≤ z ∧ z < 12) ∧ ¬ (1 ≤ v ∧ v ≤ 3) ∧ n = 0)) S c w) := by
  refine r_run (L := [_, _, _]) ⟨rfl, Nat.le_of_ble_eq_true rfl⟩ rfl ?_
  unfold b_X9_setThickness
  refine r_seq ?_
  refine r_callT (r_cons (r_loc rfl rfl) r_nil) rfl (sp_X9_requireLayer (by first | omega | assumption | exact hS.1 _ | exact hS.2 _ _ | exact r_zrg _)) (fun hp1 => ?_) (fun hp2 => ?_)
  ·
    refine r_k0 ?_
    refine r_seq ?_
    refine r_sif (r_or (r_lt (r_loc rfl rfl) (r_lit ql_1) (by first | omega | assumption | exact hS.1 _ | exact hS.2 _ _ | exact r_zrg _) (by first | omega | assumption | exact hS.1 _ | exact hS.2 _ _ | exact r_zrg _)) (fun hp3 => (r_gt (r_loc rfl rfl) (r_lit ql_3) (by first | omega | assumption | exact hS.1 _ | exact hS.2 _ _ | exact r_zrg _) (by first | omega | assumption | exact hS.1 _ | exact hS.2 _ _ | exact r_zrg _)))) (fun hp4 => ?_) (fun hp5 => ?_)
    ·
      have hpT := hp4
      have hpT0 := hp4
      refine wS_throw (x := 0) ?_
      refine r_ks (j := 4) ?_
      refine r_pthr (n := 0) ⟨Nat.le_succ _, Nat.le_add_right _ _⟩ ?_
      exact Or.inr ⟨_, rfl, rfl, by omega⟩
    ·
      have hpF := hp5
      have hpF0 := hp5
      refine wS_skip ?_
      refine r_k0 ?_
      refine r_sretG (r_callG (r_cons (r_fld (r_loc rfl rfl) gg_SW_settings) (r_cons (r_loc rfl rfl) (r_cons (r_loc rfl rfl) r_nil))) rfl (sp_X7_changeThickness (by first | omega | assumption | exact hS.1 _ | exact hS.2 _ _ | exact r_zrg _) (by first | omega | assumption | exact hS.1 _ | exact hS.2 _ _ | exact r_zrg _) (by first | omega | assumption | exact hS.1 _ | exact hS.2 _ _ | exact r_zrg _)) rfl) ?_
      refine r_pret (q_fit_int _) r_le0 ?_
      exact Or.inl ⟨_, _, rfl, hS.2 _ _, rfl, ⟨by assumption, by omega, by omega⟩, rfl, rfl⟩
  ·
    refine r_ks (j := 5) ?_
    refine r_pthr (n := 1) ⟨Nat.le_succ _, Nat.le_add_right _ _⟩ ?_
    exact Or.inr ⟨_, rfl, rfl, by omega⟩
theorem sp_X9_setPause {S : q_Sg} {c w : Nat} (hS : r_ok S) {z : Int} {p : Prop} (hz : rg z) : r_M f_X9_setPause [.ref 16, iv z, r_b p] (q_en S, c, w) (r_R (fun ans T => (0 ≤ z ∧ z < 12) ∧ ans = r_z (¬ S.2.1 2 z = 0) ∧ T = q_sA S 2 (q_up (S.2.1 2) z (r_z p))) (fun n => ¬ (0 ≤ z ∧ z < 12) ∧ n = 1) S c w) := by
  refine r_run (L := [_, _, _]) ⟨rfl, Nat.le_of_ble_eq_true rfl⟩ rfl ?_
  unfold b_X9_setPause
  refine r_seq ?_
  refine r_callT (r_cons (r_loc rfl rfl) r_nil) rfl (sp_X9_requireLayer (by first | omega | assumption | exact hS.1 _ | exact hS.2 _ _ | exact r_zrg _ | exact r_z01 _)) (fun hp1 => ?_) (fun hp2 => ?_)
  ·
    refine r_k0 ?_
    refine r_sretG (r_callG (r_cons (r_fld (r_loc rfl rfl) gg_SW_settings) (r_cons (r_loc rfl rfl) (r_cons (r_loc rfl rfl) r_nil))) rfl (sp_X7_changePause (by first | omega | assumption | exact hS.1 _ | exact hS.2 _ _ | exact r_zrg _ | exact r_z01 _) (by first | omega | assumption | exact hS.1 _ | exact hS.2 _ _ | exact r_zrg _ | exact r_z01 _) (by first | omega | assumption | exact hS.1 _ | exact hS.2 _ _ | exact r_zrg _ | exact r_z01 _)) rfl) ?_
    refine r_pret (r_fitb _) r_le0 ?_
    exact Or.inl ⟨_, _, rfl, r_zrg _, rfl, by assumption, rfl, rfl⟩
  ·
    refine r_ks (j := 5) ?_
    refine r_pthr (n := 1) ⟨Nat.le_succ _, Nat.le_add_right _ _⟩ ?_
    exact Or.inr ⟨_, rfl, rfl, by assumption, rfl⟩
theorem sp_X9_kindAt {S : q_Sg} {c w : Nat} (hS : r_ok S) (hK : SOK S.1 0) (hI : KCI S) {x y z : Int} (hx : rg x) (hy : rg y) (hz : rg z) : r_M f_X9_kindAt [.ref 16, iv x, iv y, iv z] (q_en S, c, w) (r_R (fun ans T => (inc x y z) ∧ ans = KND (S.2.1 0) S.1 0 x y z ∧ r_ok T ∧ r_fr [] [3, 4, 5] [] S T ∧ KCI T) (fun n => ¬ (inc x y z) ∧ n = 1) S c w) := by
  refine r_run (L := [_, _, _, _]) ⟨rfl, Nat.le_of_ble_eq_true rfl⟩ rfl ?_
  unfold b_X9_kindAt
  refine r_seq ?_
  refine r_callT (r_cons (r_loc rfl rfl) (r_cons (r_loc rfl rfl) (r_cons (r_loc rfl rfl) r_nil))) rfl (sp_X9_requireCell (by first | omega | assumption | exact hS.1 _ | exact hS.2 _ _ | exact r_zrg _ | exact hIN.2.2 | exact hI2.1 | (rw [hev]; have := KND_b (S.2.1 0) S.1 0 x y z; omega)) (by first | omega | assumption | exact hS.1 _ | exact hS.2 _ _ | exact r_zrg _ | exact hIN.2.2 | exact hI2.1 | (rw [hev]; have := KND_b (S.2.1 0) S.1 0 x y z; omega)) (by first | omega | assumption | exact hS.1 _ | exact hS.2 _ _ | exact r_zrg _ | exact hIN.2.2 | exact hI2.1 | (rw [hev]; have := KND_b (S.2.1 0) S.1 0 x y z; omega))) (fun hp1 => ?_) (fun hp2 => ?_)
  ·
    refine r_k0 ?_
    refine r_seq ?_
    refine r_call0 (r_cons (r_fld (r_loc rfl rfl) gg_SW_kinds) (r_cons (r_loc rfl rfl) r_nil)) rfl (sp_X3_findLayer (by first | omega | assumption | exact hS.1 _ | exact hS.2 _ _ | exact r_zrg _ | exact hIN.2.2 | exact hI2.1 | (rw [hev]; have := KND_b (S.2.1 0) S.1 0 x y z; omega)) (by first | omega | assumption | exact hS.1 _ | exact hS.2 _ _ | exact r_zrg _ | exact hIN.2.2 | exact hI2.1 | (rw [hev]; have := KND_b (S.2.1 0) S.1 0 x y z; omega)) (by first | omega | assumption | exact hS.1 _ | exact hS.2 _ _ | exact r_zrg _ | exact hIN.2.2 | exact hI2.1 | (rw [hev]; have := KND_b (S.2.1 0) S.1 0 x y z; omega)) (by first | omega | assumption | exact hS.1 _ | exact hS.2 _ _ | exact r_zrg _ | exact hIN.2.2 | exact hI2.1 | (rw [hev]; have := KND_b (S.2.1 0) S.1 0 x y z; omega))) ?_
    rintro _ _ ⟨T2, rfl, hT2, hf2, hI2, hk2, _⟩
    have hIN : inc x y z := by assumption
    have hev : r_i (inc x y z) (T2.2.1 3 (144 * z + 12 * y + x)) 46 = KND (S.2.1 0) S.1 0 x y z := by
      rw [r_i1 hIN, hI2.2 z hIN.2.2 hk2 x y hIN.1 hIN.2.1, hf2.2.1 0 (by decide), show T2.1 = S.1 from funext fun k => hf2.1 k (by simp)]
    refine r_k0 ?_
    refine r_sret (r_call (r_cons (r_fld (r_loc rfl rfl) gg_SW_kinds) (r_cons (r_loc rfl rfl) (r_cons (r_loc rfl rfl) (r_cons (r_loc rfl rfl) r_nil)))) rfl (sp_X3_kindOf (by first | omega | assumption | exact hS.1 _ | exact hS.2 _ _ | exact r_zrg _ | exact hIN.2.2 | exact hI2.1 | (rw [hev]; have := KND_b (S.2.1 0) S.1 0 x y z; omega)) (by first | omega | assumption | exact hS.1 _ | exact hS.2 _ _ | exact r_zrg _ | exact hIN.2.2 | exact hI2.1 | (rw [hev]; have := KND_b (S.2.1 0) S.1 0 x y z; omega)) (by first | omega | assumption | exact hS.1 _ | exact hS.2 _ _ | exact r_zrg _ | exact hIN.2.2 | exact hI2.1 | (rw [hev]; have := KND_b (S.2.1 0) S.1 0 x y z; omega)) (by first | omega | assumption | exact hS.1 _ | exact hS.2 _ _ | exact r_zrg _ | exact hIN.2.2 | exact hI2.1 | (rw [hev]; have := KND_b (S.2.1 0) S.1 0 x y z; omega)) (by first | omega | assumption | exact hS.1 _ | exact hS.2 _ _ | exact r_zrg _ | exact hIN.2.2 | exact hI2.1 | (rw [hev]; have := KND_b (S.2.1 0) S.1 0 x y z; omega))) rfl) ?_
    refine r_pret (q_fit_char (by first | omega | assumption | exact hS.1 _ | exact hS.2 _ _ | exact r_zrg _ | exact hIN.2.2 | exact hI2.1 | (rw [hev]; have := KND_b (S.2.1 0) S.1 0 x y z; omega)) (by first | omega | assumption | exact hS.1 _ | exact hS.2 _ _ | exact r_zrg _ | exact hIN.2.2 | exact hI2.1 | (rw [hev]; have := KND_b (S.2.1 0) S.1 0 x y z; omega))) r_le0 ?_
    rw [hev]
    exact Or.inl ⟨_, _, rfl, by have := KND_b (S.2.1 0) S.1 0 x y z; omega, rfl, hIN, rfl, hT2, hf2, hI2⟩
  ·
    refine r_ks (j := 5) ?_
    refine r_pthr (n := 1) ⟨Nat.le_succ _, Nat.le_add_right _ _⟩ ?_
    exact Or.inr ⟨_, rfl, rfl, by assumption, rfl⟩
theorem sp_X9_plan {S : q_Sg} {c w : Nat} (hS : r_ok S) (hK : SOK S.1 0) (hI : KCI S) (hth : ∀ z, (0 ≤ z ∧ z < 12) → 1 ≤ S.2.1 1 z ∧ S.2.1 1 z ≤ 3) : r_M f_X9_plan [.ref 16] (q_en S, c, w) (r_R (fun ans T => ¬ BSY (S.1 16) ∧ ans = ((PLN (S.2.1 0) S.1 0 (S.2.1 2) 12).length : Nat) ∧ r_ok T ∧ KCI T ∧ CREP T (PLN (S.2.1 0) S.1 0 (S.2.1 2) 12) (S.2.1 1) ∧ COK (PLN (S.2.1 0) S.1 0 (S.2.1 2) 12) ∧ (∀ j, 0 ≤ j → j < 12 → T.2.1 18 j = 10 * S.2.1 1 j) ∧ r_fr [12, 11, 10, 9, 8, 16, 22, 21, 18, 19, 20] [19, 18, 17, 16, 15, 14, 13, 12, 11, 10, 9, 3, 4, 5] [0] S T ∧ T.1 16 = 105 ∧ T.1 22 = 0 ∧ T.1 21 = -1 ∧ T.1 18 = 0 ∧ T.1 19 = 0 ∧ T.1 20 = 0) (fun n => BSY (S.1 16) ∧ n = 2) S c w) := by
  refine r_run (L := [_]) ⟨rfl, Nat.le_of_ble_eq_true rfl⟩ rfl ?_
  unfold b_X9_plan
  refine r_seq ?_
  refine r_sif (r_bz (r_call (r_cons (r_fld (r_loc rfl rfl) gg_SW_machine) r_nil) rfl (sp_X4_isBusy (by first | omega | assumption | exact hS.1 _ | exact hS.2 _ _ | exact r_zrg _)) rfl)) (fun hp1 => ?_) (fun hp2 => ?_)
  ·
    have hpT := hp1
    have hpT0 := hp1
    refine wS_throw (x := 2) ?_
    refine r_ks (j := 6) ?_
    refine r_pthr (n := 2) ⟨Nat.le_succ _, Nat.le_add_right _ _⟩ ?_
    exact Or.inr ⟨_, rfl, rfl, by assumption, rfl⟩
  ·
    have hpF := hp2
    have hpF0 := hp2
    refine wS_skip ?_
    refine r_k0 ?_
    refine r_seq ?_
    refine r_call0 (r_cons (r_fld (r_loc rfl rfl) gg_SW_kinds) r_nil) rfl (sp_X3_findAll (by first | omega | assumption | exact hS.1 _ | exact hS.2 _ _ | exact r_zrg _) (by first | omega | assumption | exact hS.1 _ | exact hS.2 _ _ | exact r_zrg _) (by first | omega | assumption | exact hS.1 _ | exact hS.2 _ _ | exact r_zrg _)) ?_
    rintro _ _ ⟨T2, rfl, hT2, hf2, hI2, hk2⟩
    have e1 := hf2.2.1 1 (by decide); have e0 := hf2.2.1 0 (by decide); have e2 := hf2.2.1 2 (by decide)
    have eF : T2.1 = S.1 := funext fun k => hf2.1 k (by simp)
    have hK2 : SOK T2.1 0 := by rw [eF]; exact hK
    have hth2 : ∀ z, (0 ≤ z ∧ z < 12) → 1 ≤ T2.2.1 1 z ∧ T2.2.1 1 z ≤ 3 := by rw [e1]; exact hth
    refine r_k0 ?_
    refine r_seq ?_
    refine r_call0 (r_cons (r_fld (r_loc rfl rfl) gg_SW_planner) r_nil) rfl (sp_X6_makeCommands (by first | omega | assumption | exact hS.1 _ | exact hS.2 _ _ | exact r_zrg _) (by first | omega | assumption | exact hS.1 _ | exact hS.2 _ _ | exact r_zrg _) (by first | omega | assumption | exact hS.1 _ | exact hS.2 _ _ | exact r_zrg _) (by first | omega | assumption | exact hS.1 _ | exact hS.2 _ _ | exact r_zrg _) (by first | omega | assumption | exact hS.1 _ | exact hS.2 _ _ | exact r_zrg _)) ?_
    rintro _ _ ⟨T3, rfl, hT3, hf3, hc3, hO3, hA3⟩
    rw [e0, e1, e2, eF] at hc3
    rw [e0, e2, eF] at hO3
    rw [e1] at hA3
    refine r_k0 ?_
    refine r_seq ?_
    refine r_scallG (r_cons (r_fld (r_loc rfl rfl) gg_SW_machine) r_nil) rfl (sp_X4_rest (by first | omega | assumption | exact hS.1 _ | exact hS.2 _ _ | exact r_zrg _)) ?_
    refine r_k0 ?_
    refine r_sret (r_call (r_cons (r_fld (r_loc rfl rfl) gg_SW_commandList) r_nil) rfl sp_X1_size rfl) ?_
    refine r_pret (q_fit_int _) r_le0 ?_
    have hn := hc3.1
    refine Or.inl ⟨_, _, rfl, hT3.1 9, rfl, by assumption, hn, r_okI (r_okI (r_okI (r_okI (r_okI (r_okI hT3 (by omega)) (by omega)) (by omega)) (by omega)) (by omega)) (by omega), ?_, ?_, hO3, hA3, r_frm (r_frI (r_frI (r_frI (r_frI (r_frI (r_frI (r_frt hf2 hf3))))))) (by decide) (by decide) (by decide), rfl, rfl, rfl, rfl, rfl, rfl⟩
    · exact KCI_f (r_frI (k := 20) (r_frI (k := 19) (r_frI (k := 18) (r_frI (k := 21) (r_frI (k := 22) (r_frI (k := 16) hf3)))))) (by decide) (by decide) hI2
    · exact CREP_f (r_frI (k := 20) (r_frI (k := 19) (r_frI (k := 18) (r_frI (k := 21) (r_frI (k := 22) (r_frI (k := 16) r_fr0)))))) (by decide) (by decide) (by decide) (by decide) hc3
theorem sp_X9_requireCommand {S : q_Sg} {c w : Nat} (hS : r_ok S) {k : Int} (hk : rg k) : ((0 ≤ k ∧ k < S.1 9) → r_F f_X9_requireCommand [.ref 16, iv k] (q_en S, c, w) .null) ∧ (¬ (0 ≤ k ∧ k < S.1 9) → f_X9_requireCommand [.ref 16, iv k] (q_en S, c, w) = some (.inr 1, (q_en S, c + 1, w + 6))) := by
  refine r_Tof (r_run (L := [_, _]) ⟨rfl, Nat.le_of_ble_eq_true rfl⟩ rfl ?_)
  unfold b_X9_requireCommand
  refine r_seq ?_
  refine r_sif (r_not (r_bz (r_call (r_cons (r_fld (r_loc rfl rfl) gg_SW_commandList) (r_cons (r_loc rfl rfl) r_nil)) rfl (sp_X1_has (by first | omega | assumption | exact hS.1 _ | exact hS.2 _ _ | exact r_zrg _) (by first | omega | assumption | exact hS.1 _ | exact hS.2 _ _ | exact r_zrg _)) rfl))) (fun hp1 => ?_) (fun hp2 => ?_)
  ·
    refine wS_throw (x := 1) ?_
    refine r_ks (j := 5) ?_
    exact r_pthr (n := 1) ⟨Nat.le_succ _, Nat.le_add_right _ _⟩ (Or.inr ⟨(by first | omega | assumption | exact hS.1 _ | exact hS.2 _ _ | exact r_zrg _), rfl, rfl⟩)
  ·
    refine wS_skip ?_
    refine r_k0 ?_
    refine wS_retv ?_
    exact r_pretv r_le0 (Or.inl ⟨(by first | omega | assumption | exact hS.1 _ | exact hS.2 _ _ | exact r_zrg _), rfl, rfl⟩)
theorem sp_X9_commands {S : q_Sg} {c w : Nat} (hS : r_ok S)  : r_F f_X9_commands [.ref 16] (q_en S, c, w) (iv (S.1 9)) := by
  refine r_Fof (r_run (L := [_]) ⟨rfl, Nat.le_of_ble_eq_true rfl⟩ rfl ?_)
  unfold b_X9_commands
  refine r_sret (r_call (r_cons (r_fld (r_loc rfl rfl) gg_SW_commandList) r_nil) rfl sp_X1_size rfl) ?_
  refine r_pret (q_fit_int _) r_le0 ⟨congrArg Sum.inl ?_, rfl⟩
  refine congrArg iv ?_
  rfl
theorem sp_X9_commandAt {S : q_Sg} {c w : Nat} (hS : r_ok S) {l : List qCmd} {th : Int → Int} (hc : CREP S l th) (hO : COK l) (hn : l.length ≤ 6936) {i : Int} (hi : rg i) : r_M f_X9_commandAt [.ref 16, iv i] (q_en S, c, w) (r_R (fun ans T => (0 ≤ i ∧ i < S.1 9) ∧ ans = (cg l i).1 ∧ T = S) (fun n => ¬ (0 ≤ i ∧ i < S.1 9) ∧ n = 1) S c w) := by
  refine r_run (L := [_, _]) ⟨rfl, Nat.le_of_ble_eq_true rfl⟩ rfl ?_
  unfold b_X9_commandAt
  have h9 := hc.1
  have hOk := hO i
  have hev : 0 ≤ i ∧ i < S.1 9 → r_i (0 ≤ i ∧ i < l.length) (cg l i).1 32 = (cg l i).1 := fun d => r_i1 (by omega)
  refine r_seq ?_
  refine r_callT (r_cons (r_loc rfl rfl) (r_cons (r_loc rfl rfl) r_nil)) rfl (sp_X9_requireCommand (by first | omega | assumption | exact hS.1 _ | exact hS.2 _ _ | exact r_zrg _ | (rw [hev (by assumption)]; omega)) (by first | omega | assumption | exact hS.1 _ | exact hS.2 _ _ | exact r_zrg _ | (rw [hev (by assumption)]; omega))) (fun hp1 => ?_) (fun hp2 => ?_)
  ·
    refine r_k0 ?_
    refine r_sret (r_call (r_cons (r_fld (r_loc rfl rfl) gg_SW_commandList) (r_cons (r_loc rfl rfl) r_nil)) rfl (sp_X1_kindOf (by first | omega | assumption | exact hS.1 _ | exact hS.2 _ _ | exact r_zrg _ | (rw [hev (by assumption)]; omega)) (by first | omega | assumption | exact hS.1 _ | exact hS.2 _ _ | exact r_zrg _ | (rw [hev (by assumption)]; omega)) (by first | omega | assumption | exact hS.1 _ | exact hS.2 _ _ | exact r_zrg _ | (rw [hev (by assumption)]; omega)) (by first | omega | assumption | exact hS.1 _ | exact hS.2 _ _ | exact r_zrg _ | (rw [hev (by assumption)]; omega)) (by first | omega | assumption | exact hS.1 _ | exact hS.2 _ _ | exact r_zrg _ | (rw [hev (by assumption)]; omega))) rfl) ?_
    refine r_pret (q_fit_char (by first | omega | assumption | exact hS.1 _ | exact hS.2 _ _ | exact r_zrg _ | (rw [hev (by assumption)]; omega)) (by first | omega | assumption | exact hS.1 _ | exact hS.2 _ _ | exact r_zrg _ | (rw [hev (by assumption)]; omega))) r_le0 ?_
    rw [hev (by assumption)]
    exact Or.inl ⟨_, _, rfl, by omega, rfl, by assumption, rfl, rfl⟩
  ·
    refine r_ks (j := 5) ?_
    refine r_pthr (n := 1) ⟨Nat.le_succ _, Nat.le_add_right _ _⟩ ?_
    exact Or.inr ⟨_, rfl, rfl, by assumption, rfl⟩
theorem sp_X9_numberAt {S : q_Sg} {c w : Nat} (hS : r_ok S) {l : List qCmd} {th : Int → Int} (hc : CREP S l th) (hO : COK l) (hn : l.length ≤ 6936) (hA : ∀ j, 0 ≤ j → j < 12 → S.2.1 18 j = 10 * th j) (hth : ∀ j, 0 ≤ j → j < 12 → 0 ≤ th j ∧ th j ≤ 3) {i q : Int} (hi : rg i) (hq : rg q) : r_M f_X9_numberAt [.ref 16, iv i, iv q] (q_en S, c, w) (r_R (fun ans T => ((0 ≤ i ∧ i < S.1 9) ∧ (q = 120 ∨ q = 121 ∨ q = 97 ∨ q = 122) ∧ ((q = 97 ∧ (cg l i).1 = 100) ∨ ((q = 120 ∨ q = 121) ∧ MV l i) ∨ (¬ q = 97 ∧ ¬ q = 120 ∧ ¬ q = 121 ∧ (cg l i).1 = 122))) ∧ ans = (r_i (q = 97) (cC l i * (10 * th (cg l i).2.2.2)) (r_i (q = 120) (cg l i).2.1 (r_i (q = 121) (cg l i).2.2.1 (cg l i).2.2.2))) ∧ T = S) (fun n => (¬ (0 ≤ i ∧ i < S.1 9) ∧ n = 1) ∨ ((0 ≤ i ∧ i < S.1 9) ∧ ¬ (q = 120 ∨ q = 121 ∨ q = 97 ∨ q = 122) ∧ n = 0) ∨ ((0 ≤ i ∧ i < S.1 9) ∧ (q = 120 ∨ q = 121 ∨ q = 97 ∨ q = 122) ∧ ¬ ((q = 97 ∧ (cg l i).1 = 100) ∨ ((q = 120 ∨ q = 121) ∧ MV l i) ∨ (¬ q = 97 ∧ ¬ q = 120 ∧ ¬ q = 121 ∧ (cg l i).1 = 122)) ∧ n = 3)) S c w) := by
  refine r_run (L := [_, _, _]) ⟨rfl, Nat.le_of_ble_eq_true rfl⟩ rfl ?_
  unfold b_X9_numberAt
  have h9 := hc.1
  have hOk := hO i
  have hcc := cC_b hO i
  have htk := hth (cg l i).2.2.2 (by omega) (by omega)
  have hmu : 0 ≤ cC l i * (10 * th (cg l i).2.2.2) ∧ cC l i * (10 * th (cg l i).2.2.2) ≤ 23 * 30 := ⟨Int.mul_nonneg (by omega) (by omega), Int.mul_le_mul (by omega) (by omega) (by omega) (by omega)⟩
  refine r_seq ?_
  refine r_callT (r_cons (r_loc rfl rfl) (r_cons (r_loc rfl rfl) r_nil)) rfl (sp_X9_requireCommand (by first | omega | assumption | exact hS.1 _ | exact hS.2 _ _ | exact r_zrg _) (by first | omega | assumption | exact hS.1 _ | exact hS.2 _ _ | exact r_zrg _)) (fun hp1 => ?_) (fun hp2 => ?_)
  ·
    refine r_k0 ?_
    refine r_seq ?_
    refine r_sif (r_and (r_and (r_and (r_ne (r_loc rfl rfl) (r_lit ql_120) (by first | omega | assumption | exact hS.1 _ | exact hS.2 _ _ | exact r_zrg _) (by first | omega | assumption | exact hS.1 _ | exact hS.2 _ _ | exact r_zrg _)) (fun hp3 => (r_ne (r_loc rfl rfl) (r_lit ql_121) (by first | omega | assumption | exact hS.1 _ | exact hS.2 _ _ | exact r_zrg _) (by first | omega | assumption | exact hS.1 _ | exact hS.2 _ _ | exact r_zrg _)))) (fun hp4 => (r_ne (r_loc rfl rfl) (r_lit ql_97) (by first | omega | assumption | exact hS.1 _ | exact hS.2 _ _ | exact r_zrg _) (by first | omega | assumption | exact hS.1 _ | exact hS.2 _ _ | exact r_zrg _)))) (fun hp5 => (r_ne (r_loc rfl rfl) (r_lit ql_122) (by first | omega | assumption | exact hS.1 _ | exact hS.2 _ _ | exact r_zrg _) (by first | omega | assumption | exact hS.1 _ | exact hS.2 _ _ | exact r_zrg _)))) (fun hp6 => ?_) (fun hp7 => ?_)
    ·
      have hpT := hp6
      have hpT0 := hp6
      refine wS_throw (x := 0) ?_
      refine r_ks (j := 4) ?_
      refine r_pthr (n := 0) ⟨Nat.le_succ _, Nat.le_add_right _ _⟩ ?_
      first
      | exact Or.inr ⟨_, rfl, rfl, Or.inl ⟨by assumption, rfl⟩⟩
      | exact Or.inr ⟨_, rfl, rfl, Or.inr (Or.inl ⟨by assumption, by omega, rfl⟩)⟩
      | exact Or.inr ⟨_, rfl, rfl, Or.inr (Or.inr ⟨by assumption, by omega, by assumption, rfl⟩)⟩
    ·
      have hpF := hp7
      have hpF0 := hp7
      refine wS_skip ?_
      refine r_k0 ?_
      refine r_seq ?_
      refine r_sif (r_not (r_bz (r_call (r_cons (r_fld (r_loc rfl rfl) gg_SW_commandList) (r_cons (r_loc rfl rfl) (r_cons (r_loc rfl rfl) r_nil))) rfl (sp_X1_hasNumber (by first | omega | assumption | exact hS.1 _ | exact hS.2 _ _ | exact r_zrg _) (by first | omega | assumption | exact hS.1 _ | exact hS.2 _ _ | exact r_zrg _) (by first | omega | assumption | exact hS.1 _ | exact hS.2 _ _ | exact r_zrg _) (by first | omega | assumption | exact hS.1 _ | exact hS.2 _ _ | exact r_zrg _) (by first | omega | assumption | exact hS.1 _ | exact hS.2 _ _ | exact r_zrg _) (by first | omega | assumption | exact hS.1 _ | exact hS.2 _ _ | exact r_zrg _)) rfl))) (fun hp8 => ?_) (fun hp9 => ?_)
      ·
        have hpT := hp8
        have hpT1 := hp8
        refine wS_throw (x := 3) ?_
        refine r_ks (j := 7) ?_
        refine r_pthr (n := 3) ⟨Nat.le_succ _, Nat.le_add_right _ _⟩ ?_
        first
        | exact Or.inr ⟨_, rfl, rfl, Or.inl ⟨by assumption, rfl⟩⟩
        | exact Or.inr ⟨_, rfl, rfl, Or.inr (Or.inl ⟨by assumption, by omega, rfl⟩)⟩
        | exact Or.inr ⟨_, rfl, rfl, Or.inr (Or.inr ⟨by assumption, by omega, by assumption, rfl⟩)⟩
      ·
        have hpF := hp9
        have hpF1 := hp9
        refine wS_skip ?_
        refine r_k0 ?_
        refine r_sret (r_call (r_cons (r_fld (r_loc rfl rfl) gg_SW_commandList) (r_cons (r_loc rfl rfl) (r_cons (r_loc rfl rfl) r_nil))) rfl (sp_X1_numberOf (by first | omega | assumption | exact hS.1 _ | exact hS.2 _ _ | exact r_zrg _) (by first | omega | assumption | exact hS.1 _ | exact hS.2 _ _ | exact r_zrg _) (by first | omega | assumption | exact hS.1 _ | exact hS.2 _ _ | exact r_zrg _) (by first | omega | assumption | exact hS.1 _ | exact hS.2 _ _ | exact r_zrg _) (by first | omega | assumption | exact hS.1 _ | exact hS.2 _ _ | exact r_zrg _) (by first | omega | assumption | exact hS.1 _ | exact hS.2 _ _ | exact r_zrg _) (by first | omega | assumption | exact hS.1 _ | exact hS.2 _ _ | exact r_zrg _)) rfl) ?_
        refine r_pret (q_fit_int _) r_le0 ?_
        exact Or.inl ⟨_, _, rfl, by unfold r_i; (repeat' split) <;> omega, rfl, ⟨by assumption, by omega, Classical.not_not.mp (by assumption)⟩, rfl, rfl⟩
  ·
    refine r_ks (j := 5) ?_
    refine r_pthr (n := 1) ⟨Nat.le_succ _, Nat.le_add_right _ _⟩ ?_
    first
    | exact Or.inr ⟨_, rfl, rfl, Or.inl ⟨by assumption, rfl⟩⟩
    | exact Or.inr ⟨_, rfl, rfl, Or.inr (Or.inl ⟨by assumption, by omega, rfl⟩)⟩
    | exact Or.inr ⟨_, rfl, rfl, Or.inr (Or.inr ⟨by assumption, by omega, by assumption, rfl⟩)⟩
theorem sp_X9_travel {S : q_Sg} {c w : Nat} (hS : r_ok S)  : r_F f_X9_travel [.ref 16] (q_en S, c, w) (iv (S.1 10)) := by
  refine r_Fof (r_run (L := [_]) ⟨rfl, Nat.le_of_ble_eq_true rfl⟩ rfl ?_)
  unfold b_X9_travel
  refine r_sret (r_call (r_cons (r_fld (r_loc rfl rfl) gg_SW_commandList) r_nil) rfl (sp_X1_travelled (by first | omega | assumption | exact r_zrg _ | exact hS.1 _ | exact hS.2 _ _ | exact stg_b hS _ _ | exact r_irg (by first | assumption | omega | exact hS.1 _ | exact hS.2 _ _ | exact stg_b hS _ _) (by first | assumption | omega | exact hS.1 _ | exact hS.2 _ _))) rfl) ?_
  refine r_pret (q_fit_int _) r_le0 ⟨congrArg Sum.inl ?_, rfl⟩
  refine congrArg iv ?_
  rfl
theorem sp_X9_planned {S : q_Sg} {c w : Nat} (hS : r_ok S)  : r_F f_X9_planned [.ref 16] (q_en S, c, w) (.long (Int64.ofInt (S.2.2.1 0))) := by
  refine r_Fof (r_run (L := [_]) ⟨rfl, Nat.le_of_ble_eq_true rfl⟩ rfl ?_)
  unfold b_X9_planned
  refine r_sret (r_call (r_cons (r_fld (r_loc rfl rfl) gg_SW_commandList) r_nil) rfl (sp_X1_amountInAll (by first | omega | assumption | exact r_zrg _ | exact hS.1 _ | exact hS.2 _ _ | exact stg_b hS _ _ | exact r_irg (by first | assumption | omega | exact hS.1 _ | exact hS.2 _ _ | exact stg_b hS _ _) (by first | assumption | omega | exact hS.1 _ | exact hS.2 _ _))) rfl) ?_
  refine r_pret (q_fit_long _) r_le0 ⟨congrArg Sum.inl ?_, rfl⟩
  rfl
theorem sp_X9_setTarget {S : q_Sg} {c w : Nat} (hS : r_ok S) (h16 : 0 ≤ S.1 16 ∧ S.1 16 < 65536) (h17 : 0 ≤ S.1 17 ∧ S.1 17 < 65536) {v : Int} (hv : rg v) : r_M f_X9_setTarget [.ref 16, iv v] (q_en S, c, w) (r_R (fun ans T => ((0 ≤ v ∧ v ≤ 300) ∧ ¬ S.1 16 = 102) ∧ ans = S.1 13 ∧ T = q_sI S 13 v) (fun n => (¬ (0 ≤ v ∧ v ≤ 300) ∧ n = 0) ∨ ((0 ≤ v ∧ v ≤ 300) ∧ S.1 16 = 102 ∧ n = 2)) S c w) := by
  refine r_run (L := [_, _]) ⟨rfl, Nat.le_of_ble_eq_true rfl⟩ rfl ?_
  unfold b_X9_setTarget
  refine r_seq ?_
  refine r_sif (r_or (r_z_lt (r_loc rfl rfl) (by first | omega | assumption | exact hS.1 _ | exact hS.2 _ _ | exact r_zrg _)) (fun hp1 => (r_gt (r_loc rfl rfl) (r_lit ql_300) (by first | omega | assumption | exact hS.1 _ | exact hS.2 _ _ | exact r_zrg _) (by first | omega | assumption | exact hS.1 _ | exact hS.2 _ _ | exact r_zrg _)))) (fun hp2 => ?_) (fun hp3 => ?_)
  ·
    have hpT := hp2
    have hpT0 := hp2
    refine wS_throw (x := 0) ?_
    refine r_ks (j := 4) ?_
    refine r_pthr (n := 0) ⟨Nat.le_succ _, Nat.le_add_right _ _⟩ ?_
    first | exact Or.inr ⟨_, rfl, rfl, Or.inl ⟨by omega, rfl⟩⟩ | exact Or.inr ⟨_, rfl, rfl, Or.inr ⟨by omega, by assumption, rfl⟩⟩
  ·
    have hpF := hp3
    have hpF0 := hp3
    refine wS_skip ?_
    refine r_k0 ?_
    refine r_seq ?_
    refine r_sif (r_eq (r_call (r_cons (r_fld (r_loc rfl rfl) gg_SW_machine) r_nil) rfl (sp_X4_currentState (by first | omega | assumption | exact hS.1 _ | exact hS.2 _ _ | exact r_zrg _) (by first | omega | assumption | exact hS.1 _ | exact hS.2 _ _ | exact r_zrg _)) rfl) (r_lit ql_102) (by first | omega | assumption | exact hS.1 _ | exact hS.2 _ _ | exact r_zrg _) (by first | omega | assumption | exact hS.1 _ | exact hS.2 _ _ | exact r_zrg _)) (fun hp4 => ?_) (fun hp5 => ?_)
    ·
      have hpT := hp4
      have hpT1 := hp4
      refine wS_throw (x := 2) ?_
      refine r_ks (j := 6) ?_
      refine r_pthr (n := 2) ⟨Nat.le_succ _, Nat.le_add_right _ _⟩ ?_
      first | exact Or.inr ⟨_, rfl, rfl, Or.inl ⟨by omega, rfl⟩⟩ | exact Or.inr ⟨_, rfl, rfl, Or.inr ⟨by omega, by assumption, rfl⟩⟩
    ·
      have hpF := hp5
      have hpF1 := hp5
      refine wS_skip ?_
      refine r_k0 ?_
      refine r_sretG (r_callG (r_cons (r_fld (r_loc rfl rfl) gg_SW_heat) (r_cons (r_loc rfl rfl) r_nil)) rfl (sp_X2_changeTarget (by first | omega | assumption | exact hS.1 _ | exact hS.2 _ _ | exact r_zrg _)) rfl) ?_
      refine r_pret (q_fit_int _) r_le0 ?_
      exact Or.inl ⟨_, _, rfl, hS.1 _, rfl, ⟨by omega, by assumption⟩, rfl, rfl⟩
theorem sp_X9_print {S : q_Sg} {c w : Nat} (hS : r_ok S)  : r_M f_X9_print [.ref 16] (q_en S, c, w) (r_R (fun ans T => (¬ BSY (S.1 16) ∧ ¬ S.1 9 = 0) ∧ ans = S.1 9 ∧ ∃ g, T = q_sJ (q_sA (q_sI (q_sI (q_sI (q_sI (q_sI (q_sI S 16 114) 22 0) 21 (-1)) 18 0) 19 0) 20 0) 20 g) 2 0 ∧ (∀ j, g j = r_i (0 ≤ j ∧ j < 1728) 0 (S.2.1 20 j)) ∧ ∀ j, rg (g j)) (fun n => (BSY (S.1 16) ∨ S.1 9 = 0) ∧ n = 2) S c w) := by
  refine r_run (L := [_]) ⟨rfl, Nat.le_of_ble_eq_true rfl⟩ rfl ?_
  unfold b_X9_print
  refine r_seq ?_
  refine r_sif (r_or (r_bz (r_call (r_cons (r_fld (r_loc rfl rfl) gg_SW_machine) r_nil) rfl (sp_X4_isBusy (by first | omega | assumption | exact hS.1 _ | exact hS.2 _ _ | exact r_zrg _)) rfl)) (fun hp1 => (r_z_eq (r_call (r_cons (r_fld (r_loc rfl rfl) gg_SW_commandList) r_nil) rfl sp_X1_size rfl) (by first | omega | assumption | exact hS.1 _ | exact hS.2 _ _ | exact r_zrg _)))) (fun hp2 => ?_) (fun hp3 => ?_)
  ·
    have hpT := hp2
    have hpT0 := hp2
    refine wS_throw (x := 2) ?_
    refine r_ks (j := 6) ?_
    refine r_pthr (n := 2) ⟨Nat.le_succ _, Nat.le_add_right _ _⟩ ?_
    exact Or.inr ⟨_, rfl, rfl, by assumption, rfl⟩
  ·
    have hpF := hp3
    have hpF0 := hp3
    refine wS_skip ?_
    refine r_k0 ?_
    refine r_seq ?_
    refine r_call0 (r_cons (r_fld (r_loc rfl rfl) gg_SW_machine) r_nil) rfl (sp_X4_beginPrint (by first | omega | assumption | exact hS.1 _ | exact hS.2 _ _ | exact r_zrg _)) ?_
    rintro _ _ ⟨g2, rfl, hg2, hr2⟩
    refine r_k0 ?_
    refine r_sret (r_call (r_cons (r_fld (r_loc rfl rfl) gg_SW_commandList) r_nil) rfl sp_X1_size rfl) ?_
    refine r_pret (q_fit_int _) r_le0 ?_
    rw [not_or] at hpF0
    exact Or.inl ⟨_, _, rfl, hS.1 9, rfl, hpF0, rfl, g2, rfl, hg2, hr2⟩
theorem sp_X9_pass {S : q_Sg} {c w : Nat} (hS : r_ok S) {l : List qCmd} {th : Int → Int} (hc : CREP S l th) (hO : COK l) (hn : l.length ≤ 6936) (hA : ∀ j, 0 ≤ j → j < 12 → S.2.1 18 j = 10 * th j) (hC : CLK l) (hth : ∀ j, 0 ≤ j → j < 12 → 0 ≤ th j ∧ th j ≤ 3) (h13 : 0 ≤ S.1 13 ∧ S.1 13 ≤ 300) (hMI : MI l (mC S)) {B : Int} (hB : ∀ j, 0 ≤ S.2.1 20 j ∧ S.2.1 20 j ≤ B) (hB2 : B ≤ 90000000) {m : Int} (hm : rg m) : r_M f_X9_pass [.ref 16, iv m] (q_en S, c, w) (r_R (fun ans T => (1 ≤ m ∧ m ≤ 200) ∧ ∃ kz, r_ok T ∧ r_fr [21, 20, 19, 18, 16, 15, 14] [20] [2, 1] S T ∧ TKN l th (S.1 13) m.toNat (mC S) (mC T) kz ans ∧ T.1 21 = (if kz = -2 then S.1 21 else kz) ∧ T.2.2.1 2 - suml (T.2.1 20) 1728 = S.2.2.1 2 - suml (S.2.1 20) 1728 ∧ T.2.2.1 1 = S.2.2.1 1 + m ∧ MI l (mC T) ∧ ∀ j, 0 ≤ T.2.1 20 j ∧ T.2.1 20 j ≤ B + 30 * m) (fun n => ¬ (1 ≤ m ∧ m ≤ 200) ∧ n = 0) S c w) := by
  refine r_run (L := [_, _]) ⟨rfl, Nat.le_of_ble_eq_true rfl⟩ rfl ?_
  unfold b_X9_pass
  refine r_seq ?_
  refine r_sif (r_or (r_lt (r_loc rfl rfl) (r_lit ql_1) (by first | omega | assumption | exact hS.1 _ | exact hS.2 _ _ | exact r_zrg _ | exact hB) (by first | omega | assumption | exact hS.1 _ | exact hS.2 _ _ | exact r_zrg _ | exact hB)) (fun hp1 => (r_gt (r_loc rfl rfl) (r_lit ql_200) (by first | omega | assumption | exact hS.1 _ | exact hS.2 _ _ | exact r_zrg _ | exact hB) (by first | omega | assumption | exact hS.1 _ | exact hS.2 _ _ | exact r_zrg _ | exact hB)))) (fun hp2 => ?_) (fun hp3 => ?_)
  ·
    have hpT := hp2
    have hpT0 := hp2
    refine wS_throw (x := 0) ?_
    refine r_ks (j := 4) ?_
    refine r_pthr (n := 0) ⟨Nat.le_succ _, Nat.le_add_right _ _⟩ ?_
    exact Or.inr ⟨_, rfl, rfl, by omega, rfl⟩
  ·
    have hpF := hp3
    have hpF0 := hp3
    refine wS_skip ?_
    refine r_k0 ?_
    refine r_sretC (r_callC (r_cons (r_fld (r_loc rfl rfl) gg_SW_machine) (r_cons (r_loc rfl rfl) r_nil)) rfl (sp_X4_passTicks (by first | omega | assumption | exact hS.1 _ | exact hS.2 _ _ | exact r_zrg _ | exact hB) (by first | omega | assumption | exact hS.1 _ | exact hS.2 _ _ | exact r_zrg _ | exact hB) (by first | omega | assumption | exact hS.1 _ | exact hS.2 _ _ | exact r_zrg _ | exact hB) (by first | omega | assumption | exact hS.1 _ | exact hS.2 _ _ | exact r_zrg _ | exact hB) (by first | omega | assumption | exact hS.1 _ | exact hS.2 _ _ | exact r_zrg _ | exact hB) (by first | omega | assumption | exact hS.1 _ | exact hS.2 _ _ | exact r_zrg _ | exact hB) (by first | omega | assumption | exact hS.1 _ | exact hS.2 _ _ | exact r_zrg _ | exact hB) (by first | omega | assumption | exact hS.1 _ | exact hS.2 _ _ | exact r_zrg _ | exact hB) (by first | omega | assumption | exact hS.1 _ | exact hS.2 _ _ | exact r_zrg _ | exact hB) (by first | omega | assumption | exact hS.1 _ | exact hS.2 _ _ | exact r_zrg _ | exact hB) (by first | omega | assumption | exact hS.1 _ | exact hS.2 _ _ | exact r_zrg _ | exact hB) (by first | omega | assumption | exact hS.1 _ | exact hS.2 _ _ | exact r_zrg _ | exact hB)) (by rintro _ _ ⟨T2, kz2, ov2, rfl, rfl, hT2, hf2, hk2, h21, hs2, ht2, hm2, hb2⟩; rfl)) ?_
    rintro _ _ ⟨T2, kz2, ov2, rfl, rfl, hT2, hf2, hk2, h21, hs2, ht2, hm2, hb2⟩
    refine r_pret (q_fit_int _) r_le0 ?_
    exact Or.inl ⟨_, _, rfl, TKN_rg (by omega) h13 hMI hk2, rfl, by omega, kz2, hT2, hf2, hk2, h21, hs2, ht2, hm2, hb2⟩
theorem sp_X9_goOn {S : q_Sg} {c w : Nat} (hS : r_ok S) (h16 : 0 ≤ S.1 16 ∧ S.1 16 < 65536) (h17 : 0 ≤ S.1 17 ∧ S.1 17 < 65536) (h9 : 0 ≤ S.1 9 ∧ S.1 9 ≤ 6936) (h18 : 0 ≤ S.1 18 ∧ S.1 18 ≤ 6936) : r_M f_X9_goOn [.ref 16] (q_en S, c, w) (r_R (fun ans T => S.1 16 = 112 ∧ ans = S.1 9 - S.1 18 ∧ T = q_sI S 16 114) (fun n => ¬ S.1 16 = 112 ∧ n = 2) S c w) := by
  refine r_run (L := [_]) ⟨rfl, Nat.le_of_ble_eq_true rfl⟩ rfl ?_
  unfold b_X9_goOn
  refine r_seq ?_
  refine r_sif (r_ne (r_call (r_cons (r_fld (r_loc rfl rfl) gg_SW_machine) r_nil) rfl (sp_X4_currentState (by first | omega | assumption | exact hS.1 _ | exact hS.2 _ _ | exact r_zrg _ | exact r_okI hS (by omega)) (by first | omega | assumption | exact hS.1 _ | exact hS.2 _ _ | exact r_zrg _ | exact r_okI hS (by omega))) rfl) (r_lit ql_112) (by first | omega | assumption | exact hS.1 _ | exact hS.2 _ _ | exact r_zrg _ | exact r_okI hS (by omega)) (by first | omega | assumption | exact hS.1 _ | exact hS.2 _ _ | exact r_zrg _ | exact r_okI hS (by omega))) (fun hp1 => ?_) (fun hp2 => ?_)
  ·
    have hpT := hp1
    have hpT0 := hp1
    refine wS_throw (x := 2) ?_
    refine r_ks (j := 6) ?_
    refine r_pthr (n := 2) ⟨Nat.le_succ _, Nat.le_add_right _ _⟩ ?_
    exact Or.inr ⟨_, rfl, rfl, by assumption, rfl⟩
  ·
    have hpF := hp2
    have hpF0 := hp2
    refine wS_skip ?_
    refine r_k0 ?_
    refine r_seq ?_
    refine r_scallG (r_cons (r_fld (r_loc rfl rfl) gg_SW_machine) r_nil) rfl (sp_X4_endPause (by first | omega | assumption | exact hS.1 _ | exact hS.2 _ _ | exact r_zrg _ | exact r_okI hS (by omega))) ?_
    refine r_k0 ?_
    refine r_sret (r_sub (r_call (r_cons (r_fld (r_loc rfl rfl) gg_SW_commandList) r_nil) rfl sp_X1_size rfl) (r_call (r_cons (r_fld (r_loc rfl rfl) gg_SW_machine) r_nil) rfl (sp_X4_nextCommand (by first | omega | assumption | exact hS.1 _ | exact hS.2 _ _ | exact r_zrg _ | exact r_okI hS (by omega))) rfl)) ?_
    refine r_pret (q_fit_int _) r_le0 ?_
    exact Or.inl ⟨S.1 9 - S.1 18, _, rfl, by omega, rfl, Classical.not_not.mp hpF0, rfl, rfl⟩
theorem sp_X9_fail {S : q_Sg} {c w : Nat} (hS : r_ok S) (h16 : 0 ≤ S.1 16 ∧ S.1 16 < 65536) (h17 : 0 ≤ S.1 17 ∧ S.1 17 < 65536)  : r_M f_X9_fail [.ref 16] (q_en S, c, w) (r_R (fun ans T => ¬ S.1 16 = 102 ∧ ans = S.1 16 ∧ T = q_sI (q_sI (q_sI (q_sI S 17 (S.1 16)) 16 102) 13 0) 20 0) (fun n => S.1 16 = 102 ∧ n = 2) S c w) := by
  refine r_run (L := [_]) ⟨rfl, Nat.le_of_ble_eq_true rfl⟩ rfl ?_
  unfold b_X9_fail
  refine r_seq ?_
  refine r_sif (r_eq (r_call (r_cons (r_fld (r_loc rfl rfl) gg_SW_machine) r_nil) rfl (sp_X4_currentState (by first | omega | assumption | exact hS.1 _ | exact hS.2 _ _ | exact r_zrg _) (by first | omega | assumption | exact hS.1 _ | exact hS.2 _ _ | exact r_zrg _)) rfl) (r_lit ql_102) (by first | omega | assumption | exact hS.1 _ | exact hS.2 _ _ | exact r_zrg _) (by first | omega | assumption | exact hS.1 _ | exact hS.2 _ _ | exact r_zrg _)) (fun hp1 => ?_) (fun hp2 => ?_)
  ·
    have hpT := hp1
    have hpT0 := hp1
    refine wS_throw (x := 2) ?_
    refine r_ks (j := 6) ?_
    refine r_pthr (n := 2) ⟨Nat.le_succ _, Nat.le_add_right _ _⟩ ?_
    exact Or.inr ⟨_, rfl, rfl, by assumption, rfl⟩
  ·
    have hpF := hp2
    have hpF0 := hp2
    refine wS_skip ?_
    refine r_k0 ?_
    refine r_sretG (r_callG (r_cons (r_fld (r_loc rfl rfl) gg_SW_machine) r_nil) rfl (sp_X4_beginFailure (by first | omega | assumption | exact hS.1 _ | exact hS.2 _ _ | exact r_zrg _) (by first | omega | assumption | exact hS.1 _ | exact hS.2 _ _ | exact r_zrg _) (by first | omega | assumption | exact hS.1 _ | exact hS.2 _ _ | exact r_zrg _)) rfl) ?_
    refine r_pret (q_fit_char (by first | omega | assumption | exact hS.1 _ | exact hS.2 _ _ | exact r_zrg _) (by first | omega | assumption | exact hS.1 _ | exact hS.2 _ _ | exact r_zrg _)) r_le0 ?_
    exact Or.inl ⟨_, _, rfl, by omega, rfl, by assumption, rfl, rfl⟩
theorem sp_X9_mend {S : q_Sg} {c w : Nat} (hS : r_ok S) (h16 : 0 ≤ S.1 16 ∧ S.1 16 < 65536) (h17 : 0 ≤ S.1 17 ∧ S.1 17 < 65536)  : r_M f_X9_mend [.ref 16] (q_en S, c, w) (r_R (fun ans T => S.1 16 = 102 ∧ ans = S.1 17 ∧ T = q_sI S 16 (S.1 17)) (fun n => ¬ S.1 16 = 102 ∧ n = 2) S c w) := by
  refine r_run (L := [_]) ⟨rfl, Nat.le_of_ble_eq_true rfl⟩ rfl ?_
  unfold b_X9_mend
  refine r_seq ?_
  refine r_sif (r_ne (r_call (r_cons (r_fld (r_loc rfl rfl) gg_SW_machine) r_nil) rfl (sp_X4_currentState (by first | omega | assumption | exact hS.1 _ | exact hS.2 _ _ | exact r_zrg _) (by first | omega | assumption | exact hS.1 _ | exact hS.2 _ _ | exact r_zrg _)) rfl) (r_lit ql_102) (by first | omega | assumption | exact hS.1 _ | exact hS.2 _ _ | exact r_zrg _) (by first | omega | assumption | exact hS.1 _ | exact hS.2 _ _ | exact r_zrg _)) (fun hp1 => ?_) (fun hp2 => ?_)
  ·
    have hpT := hp1
    have hpT0 := hp1
    refine wS_throw (x := 2) ?_
    refine r_ks (j := 6) ?_
    refine r_pthr (n := 2) ⟨Nat.le_succ _, Nat.le_add_right _ _⟩ ?_
    exact Or.inr ⟨_, rfl, rfl, by assumption, rfl⟩
  ·
    have hpF := hp2
    have hpF0 := hp2
    refine wS_skip ?_
    refine r_k0 ?_
    refine r_sretG (r_callG (r_cons (r_fld (r_loc rfl rfl) gg_SW_machine) r_nil) rfl (sp_X4_endFailure (by first | omega | assumption | exact hS.1 _ | exact hS.2 _ _ | exact r_zrg _) (by first | omega | assumption | exact hS.1 _ | exact hS.2 _ _ | exact r_zrg _) (by first | omega | assumption | exact hS.1 _ | exact hS.2 _ _ | exact r_zrg _)) rfl) ?_
    refine r_pret (q_fit_char (by first | omega | assumption | exact hS.1 _ | exact hS.2 _ _ | exact r_zrg _) (by first | omega | assumption | exact hS.1 _ | exact hS.2 _ _ | exact r_zrg _)) r_le0 ?_
    exact Or.inl ⟨_, _, rfl, by omega, rfl, Classical.not_not.mp hpF0, rfl, rfl⟩
theorem sp_X9_state {S : q_Sg} {c w : Nat} (hS : r_ok S) (h16 : 0 ≤ S.1 16 ∧ S.1 16 < 65536) (h17 : 0 ≤ S.1 17 ∧ S.1 17 < 65536)  : r_F f_X9_state [.ref 16] (q_en S, c, w) (iv (S.1 16)) := by
  refine r_Fof (r_run (L := [_]) ⟨rfl, Nat.le_of_ble_eq_true rfl⟩ rfl ?_)
  unfold b_X9_state
  refine r_sret (r_call (r_cons (r_fld (r_loc rfl rfl) gg_SW_machine) r_nil) rfl (sp_X4_currentState (by first | omega | assumption | exact hS.1 _ | exact hS.2 _ _ | exact r_zrg _) (by first | omega | assumption | exact hS.1 _ | exact hS.2 _ _ | exact r_zrg _)) rfl) ?_
  refine r_pret (q_fit_char (by first | omega | assumption | exact hS.1 _ | exact hS.2 _ _ | exact r_zrg _) (by first | omega | assumption | exact hS.1 _ | exact hS.2 _ _ | exact r_zrg _)) r_le0 ⟨congrArg Sum.inl ?_, rfl⟩
  refine congrArg iv ?_
  rfl
theorem sp_X9_next {S : q_Sg} {c w : Nat} (hS : r_ok S)  : r_F f_X9_next [.ref 16] (q_en S, c, w) (iv (S.1 18)) := by
  refine r_Fof (r_run (L := [_]) ⟨rfl, Nat.le_of_ble_eq_true rfl⟩ rfl ?_)
  unfold b_X9_next
  refine r_sret (r_call (r_cons (r_fld (r_loc rfl rfl) gg_SW_machine) r_nil) rfl (sp_X4_nextCommand (by first | omega | assumption | exact r_zrg _ | exact hS.1 _ | exact hS.2 _ _ | exact stg_b hS _ _ | exact r_irg (by first | assumption | omega | exact hS.1 _ | exact hS.2 _ _ | exact stg_b hS _ _) (by first | assumption | omega | exact hS.1 _ | exact hS.2 _ _))) rfl) ?_
  refine r_pret (q_fit_int _) r_le0 ⟨congrArg Sum.inl ?_, rfl⟩
  refine congrArg iv ?_
  rfl
theorem sp_X9_speed {S : q_Sg} {c w : Nat} (hS : r_ok S)  : r_F f_X9_speed [.ref 16] (q_en S, c, w) (iv (S.1 20)) := by
  refine r_Fof (r_run (L := [_]) ⟨rfl, Nat.le_of_ble_eq_true rfl⟩ rfl ?_)
  unfold b_X9_speed
  refine r_sret (r_call (r_cons (r_fld (r_loc rfl rfl) gg_SW_machine) r_nil) rfl (sp_X4_currentSpeed (by first | omega | assumption | exact r_zrg _ | exact hS.1 _ | exact hS.2 _ _ | exact stg_b hS _ _ | exact r_irg (by first | assumption | omega | exact hS.1 _ | exact hS.2 _ _ | exact stg_b hS _ _) (by first | assumption | omega | exact hS.1 _ | exact hS.2 _ _))) rfl) ?_
  refine r_pret (q_fit_int _) r_le0 ⟨congrArg Sum.inl ?_, rfl⟩
  refine congrArg iv ?_
  rfl
theorem sp_X9_temperature {S : q_Sg} {c w : Nat} (hS : r_ok S)  : r_F f_X9_temperature [.ref 16] (q_en S, c, w) (iv (S.1 14)) := by
  refine r_Fof (r_run (L := [_]) ⟨rfl, Nat.le_of_ble_eq_true rfl⟩ rfl ?_)
  unfold b_X9_temperature
  refine r_sret (r_call (r_cons (r_fld (r_loc rfl rfl) gg_SW_heat) r_nil) rfl sp_X2_currentTemperature rfl) ?_
  refine r_pret (q_fit_int _) r_le0 ⟨congrArg Sum.inl ?_, rfl⟩
  refine congrArg iv ?_
  rfl
theorem sp_X9_time {S : q_Sg} {c w : Nat} (hS : r_ok S)  : r_F f_X9_time [.ref 16] (q_en S, c, w) (.long (Int64.ofInt (S.2.2.1 1))) := by
  refine r_Fof (r_run (L := [_]) ⟨rfl, Nat.le_of_ble_eq_true rfl⟩ rfl ?_)
  unfold b_X9_time
  refine r_sret (r_call (r_cons (r_fld (r_loc rfl rfl) gg_SW_machine) r_nil) rfl (sp_X4_ticksPassed (by first | omega | assumption | exact r_zrg _ | exact hS.1 _ | exact hS.2 _ _ | exact stg_b hS _ _ | exact r_irg (by first | assumption | omega | exact hS.1 _ | exact hS.2 _ _ | exact stg_b hS _ _) (by first | assumption | omega | exact hS.1 _ | exact hS.2 _ _))) rfl) ?_
  refine r_pret (q_fit_long _) r_le0 ⟨congrArg Sum.inl ?_, rfl⟩
  rfl
theorem sp_X9_laidInAll {S : q_Sg} {c w : Nat} (hS : r_ok S)  : r_F f_X9_laidInAll [.ref 16] (q_en S, c, w) (.long (Int64.ofInt (S.2.2.1 2))) := by
  refine r_Fof (r_run (L := [_]) ⟨rfl, Nat.le_of_ble_eq_true rfl⟩ rfl ?_)
  unfold b_X9_laidInAll
  refine r_sret (r_call (r_cons (r_fld (r_loc rfl rfl) gg_SW_machine) r_nil) rfl (sp_X4_sumOfLaid (by first | omega | assumption | exact r_zrg _ | exact hS.1 _ | exact hS.2 _ _ | exact stg_b hS _ _ | exact r_irg (by first | assumption | omega | exact hS.1 _ | exact hS.2 _ _ | exact stg_b hS _ _) (by first | assumption | omega | exact hS.1 _ | exact hS.2 _ _))) rfl) ?_
  refine r_pret (q_fit_long _) r_le0 ⟨congrArg Sum.inl ?_, rfl⟩
  rfl
theorem sp_X9_laid {S : q_Sg} {c w : Nat} (hS : r_ok S) {x y z : Int} (hx : rg x) (hy : rg y) (hz : rg z) : r_M f_X9_laid [.ref 16, iv x, iv y, iv z] (q_en S, c, w) (r_R (fun ans T => (inc x y z) ∧ ans = S.2.1 20 (144 * z + 12 * y + x) ∧ T = S) (fun n => ¬ (inc x y z) ∧ n = 1) S c w) := by
  refine r_run (L := [_, _, _, _]) ⟨rfl, Nat.le_of_ble_eq_true rfl⟩ rfl ?_
  unfold b_X9_laid
  refine r_seq ?_
  refine r_callT (r_cons (r_loc rfl rfl) (r_cons (r_loc rfl rfl) (r_cons (r_loc rfl rfl) r_nil))) rfl (sp_X9_requireCell (by first | omega | assumption | exact hS.1 _ | exact hS.2 _ _ | exact r_zrg _ | exact (show inc x y z by assumption).1 | exact (show inc x y z by assumption).2.1 | exact (show inc x y z by assumption).2.2) (by first | omega | assumption | exact hS.1 _ | exact hS.2 _ _ | exact r_zrg _ | exact (show inc x y z by assumption).1 | exact (show inc x y z by assumption).2.1 | exact (show inc x y z by assumption).2.2) (by first | omega | assumption | exact hS.1 _ | exact hS.2 _ _ | exact r_zrg _ | exact (show inc x y z by assumption).1 | exact (show inc x y z by assumption).2.1 | exact (show inc x y z by assumption).2.2)) (fun hp1 => ?_) (fun hp2 => ?_)
  ·
    refine r_k0 ?_
    refine r_sret (r_call (r_cons (r_fld (r_loc rfl rfl) gg_SW_machine) (r_cons (r_loc rfl rfl) (r_cons (r_loc rfl rfl) (r_cons (r_loc rfl rfl) r_nil)))) rfl (sp_X4_laidIn (by first | omega | assumption | exact hS.1 _ | exact hS.2 _ _ | exact r_zrg _ | exact (show inc x y z by assumption).1 | exact (show inc x y z by assumption).2.1 | exact (show inc x y z by assumption).2.2) (by first | omega | assumption | exact hS.1 _ | exact hS.2 _ _ | exact r_zrg _ | exact (show inc x y z by assumption).1 | exact (show inc x y z by assumption).2.1 | exact (show inc x y z by assumption).2.2) (by first | omega | assumption | exact hS.1 _ | exact hS.2 _ _ | exact r_zrg _ | exact (show inc x y z by assumption).1 | exact (show inc x y z by assumption).2.1 | exact (show inc x y z by assumption).2.2) (by first | omega | assumption | exact hS.1 _ | exact hS.2 _ _ | exact r_zrg _ | exact (show inc x y z by assumption).1 | exact (show inc x y z by assumption).2.1 | exact (show inc x y z by assumption).2.2)) rfl) ?_
    refine r_pret (q_fit_int _) r_le0 ?_
    exact Or.inl ⟨_, _, rfl, hS.2 _ _, rfl, by assumption, rfl, rfl⟩
  ·
    refine r_ks (j := 5) ?_
    refine r_pthr (n := 1) ⟨Nat.le_succ _, Nat.le_add_right _ _⟩ ?_
    exact Or.inr ⟨_, rfl, rfl, by assumption, rfl⟩
