/-! the law's body: boxes, thicknesses and pauses, settings -/
def B1 (k : Int) (S : q_Sg) (ch : Int) : Prop := r_ok S ∧ r01 (S.2.1 0) ∧ FEW (S.2.1 0) k ∧ (0 ≤ ch ∧ ch ≤ 1728 * k) ∧ r_fr [] [4, 0] [] S0 S ∧ ∀ j, 0 ≤ j → j < 12 → S.2.1 4 j = 0
theorem B1_0 : B1 0 S0 0 := ⟨S0_rg, fun j => Or.inl rfl, FEW_0 (fun j _ _ => rfl), by omega, r_frm r_fr0 (by decide) (by decide) (by decide), fun j _ _ => rfl⟩
theorem B1_s {k ch n v x y z dx dy dz : Int} {S : q_Sg} {g4 g : Int → Int} (h : B1 k S ch) (hk : 0 ≤ k) (hv : v = 0 ∨ v = 1) (hB : BINV (S.2.1 0) v (BXP x y z dx dy dz) g n 1728) (h4 : ∀ j, rg (g4 j)) (hz4 : ∀ j, 0 ≤ j → j < 12 → g4 j = 0) (hx : 0 ≤ x) (hy : 0 ≤ y) (hdx : 1 ≤ dx ∧ dx ≤ 5) (hdy : 1 ≤ dy ∧ dy ≤ 5) (hz : 0 ≤ z ∧ z + dz ≤ 6) : B1 (k + 1) (q_sA (q_sA S 4 g4) 0 g) (ch + n) := by
  obtain ⟨h1, h2, h3, h5, h6, h7⟩ := h
  have h01 := BINV_01 hB h2 hv
  have hn := cnt_b (p := fun j => BXP x y z dx dy dz j ∧ ¬ S.2.1 0 j = v) (1728 : Int).toNat
  have hn2 := hB.2
  exact ⟨r_okA (r_okA h1 h4) (r01_r h01), h01, FEW_b h3 hv hB hx hy hdx hdy hz, by omega, r_frm (r_frA (r_frA h6)) (by decide) (by decide) (by decide), hz4⟩
def B2 (k : Int) (S1 S : q_Sg) : Prop := r_ok S ∧ r_fr [] [21, 2, 1] [] S1 S ∧ (∀ j, 0 ≤ j → j < k → (1 ≤ S.2.1 21 j ∧ S.2.1 21 j ≤ 3) ∧ S.2.1 1 j = S.2.1 21 j) ∧ ∀ j, k ≤ j → j < 12 → S.2.1 1 j = 1 ∧ S.2.1 2 j = 0
theorem B2_s {k v u : Int} {p : Prop} {S1 S : q_Sg} (h : B2 k S1 S) (hk : 0 ≤ k) (hv : 1 ≤ v ∧ v ≤ 3) (e : u = v) : B2 (k + 1) S1 (q_sA (q_sA (q_sA S 21 (q_up (S.2.1 21) k v)) 1 (q_up (S.2.1 1) k u)) 2 (q_up (S.2.1 2) k (r_z p))) := by
  subst e
  obtain ⟨h1, h2, h3, h4⟩ := h
  refine ⟨r_okA (r_okA (r_okA h1 (r_oku (h1.2 21) (by omega))) (r_oku (h1.2 1) (by omega))) (r_oku (h1.2 2) (r_zrg p)), r_frm (r_frA (r_frA (r_frA h2))) (by decide) (by decide) (by decide), fun j j0 j1 => ?_, fun j j0 j1 => ?_⟩
  · show (1 ≤ q_up (S.2.1 21) k u j ∧ q_up (S.2.1 21) k u j ≤ 3) ∧ q_up (S.2.1 1) k u j = q_up (S.2.1 21) k u j
    unfold q_up
    by_cases e : j = k
    · rw [if_pos e, if_pos e]; exact ⟨hv, rfl⟩
    · rw [if_neg e, if_neg e]; exact h3 j j0 (by omega)
  · show q_up (S.2.1 1) k u j = 1 ∧ q_up (S.2.1 2) k (r_z p) j = 0
    unfold q_up
    rw [if_neg (by omega), if_neg (by omega)]
    exact h4 j (by omega) j1
theorem one12_1 {j : Int} (h : 0 ≤ j ∧ j < 12) : one12 j = 1 := if_pos h
/-- a setting that is set: what else stays -/
def ST1 (S T : q_Sg) : Prop := r_ok T ∧ r_fr [0, 1, 2, 3, 4, 5] [4] [] S T ∧ ∀ j, 0 ≤ j → j < 12 → T.2.1 4 j = 0
theorem sx_set1 {S : q_Sg} {c w : Nat} (hS : r_ok S) {s v : Int} (h : ALW s v) (hs : rg s) (hv : rg v) : ∃ T, r_G f_X9_set [.ref 16, iv s, iv v] (q_en S, c, w) (iv (stg S.1 0 s)) (q_en T, c, w) ∧ ST1 S T ∧ STS 0 s v S T := by
  obtain ⟨T, e, g4, hz, hT, hf, hst⟩ := sx_X9_set (c := c) (w := w) hS h hs hv
  refine ⟨T, e, ⟨hT, r_frm (r_frt (r_frA (k := 4) r_fr0) hf) (by decide) (by decide) (by decide), fun j j0 j1 => ?_⟩, hst⟩
  rw [hf.2.1 4 (by decide)]
  exact hz j j0 j1
theorem STS_119 {v : Int} {S T : q_Sg} (h : STS 0 119 v S T) : T.1 0 = v ∧ T.1 1 = S.1 1 ∧ T.1 2 = S.1 2 ∧ T.1 3 = S.1 3 ∧ T.1 4 = S.1 4 ∧ T.1 5 = S.1 5 := ⟨h.1.trans (r_i1 rfl), h.2.1.trans (r_i0 (by decide)), h.2.2.1.trans (r_i0 (by decide)), h.2.2.2.1.trans (r_i0 (by decide)), h.2.2.2.2.1.trans (r_i0 (by decide)), h.2.2.2.2.2.trans (r_i0 (by decide))⟩
theorem STS_107 {v : Int} {S T : q_Sg} (h : STS 0 107 v S T) : T.1 0 = S.1 0 ∧ T.1 1 = v ∧ T.1 2 = S.1 2 ∧ T.1 3 = S.1 3 ∧ T.1 4 = S.1 4 ∧ T.1 5 = S.1 5 := ⟨h.1.trans (r_i0 (by decide)), h.2.1.trans (r_i1 rfl), h.2.2.1.trans (r_i0 (by decide)), h.2.2.2.1.trans (r_i0 (by decide)), h.2.2.2.2.1.trans (r_i0 (by decide)), h.2.2.2.2.2.trans (r_i0 (by decide))⟩
theorem STS_100 {v : Int} {S T : q_Sg} (h : STS 0 100 v S T) : T.1 0 = S.1 0 ∧ T.1 1 = S.1 1 ∧ T.1 2 = v ∧ T.1 3 = S.1 3 ∧ T.1 4 = S.1 4 ∧ T.1 5 = S.1 5 := ⟨h.1.trans (r_i0 (by decide)), h.2.1.trans (r_i0 (by decide)), h.2.2.1.trans (r_i1 rfl), h.2.2.2.1.trans (r_i0 (by decide)), h.2.2.2.2.1.trans (r_i0 (by decide)), h.2.2.2.2.2.trans (r_i0 (by decide))⟩
theorem STS_115 {v : Int} {S T : q_Sg} (h : STS 0 115 v S T) : T.1 0 = S.1 0 ∧ T.1 1 = S.1 1 ∧ T.1 2 = S.1 2 ∧ T.1 3 = v ∧ T.1 4 = S.1 4 ∧ T.1 5 = S.1 5 := ⟨h.1.trans (r_i0 (by decide)), h.2.1.trans (r_i0 (by decide)), h.2.2.1.trans (r_i0 (by decide)), h.2.2.2.1.trans (r_i1 rfl), h.2.2.2.2.1.trans (r_i0 (by decide)), h.2.2.2.2.2.trans (r_i0 (by decide))⟩
theorem STS_103 {v : Int} {S T : q_Sg} (h : STS 0 103 v S T) : T.1 0 = S.1 0 ∧ T.1 1 = S.1 1 ∧ T.1 2 = S.1 2 ∧ T.1 3 = S.1 3 ∧ T.1 4 = v ∧ T.1 5 = S.1 5 := ⟨h.1.trans (r_i0 (by decide)), h.2.1.trans (r_i0 (by decide)), h.2.2.1.trans (r_i0 (by decide)), h.2.2.2.1.trans (r_i0 (by decide)), h.2.2.2.2.1.trans (r_i1 rfl), h.2.2.2.2.2.trans (r_i0 (by decide))⟩
theorem STS_114 {v : Int} {S T : q_Sg} (h : STS 0 114 v S T) : T.1 0 = S.1 0 ∧ T.1 1 = S.1 1 ∧ T.1 2 = S.1 2 ∧ T.1 3 = S.1 3 ∧ T.1 4 = S.1 4 ∧ T.1 5 = v := ⟨h.1.trans (r_i0 (by decide)), h.2.1.trans (r_i0 (by decide)), h.2.2.1.trans (r_i0 (by decide)), h.2.2.2.1.trans (r_i0 (by decide)), h.2.2.2.2.1.trans (r_i0 (by decide)), h.2.2.2.2.2.trans (r_i1 rfl)⟩
theorem law_body {xs : Nat → Int32} {Ln : Nat} (hLn : Ln ≤ 260) : wS (bL_law xs Ln) (some (.ref 0) :: List.replicate 9 none) ([], 0, 0) (fun o L' h' => o = (4, iv 1) ∧ h'.2.1 ≤ 114 ∧ h'.2.2 ≤ 35645) := by
  unfold bL_law
  refine r_seq (r_slocG (L2 := [some (.ref 0), some (.ref 16), none, none, none, none, none, none, none, none]) st_1 rfl rfl (r_k0 ?_))
  refine r_seq (r_slocG (L2 := [some (.ref 0), some (.ref 16), some (.ref 47), none, none, none, none, none, none, none]) st_2 rfl rfl (r_k0 ?_))
  refine r_seq ?_
  refine r_sloc (L2 := [_, _, _, _, _, _, _, _, _, _]) (r_lit ql_0) rfl rfl ?_
  refine r_k0 ?_
  refine r_seq ?_
  refine r_seq ?_
  refine r_sloc (L2 := [_, _, _, _, _, _, _, _, _, _]) (r_lit ql_0) rfl rfl ?_
  refine r_k0 ?_
  refine r_loop (T := Int × Int × q_Sg × Option Value × Option Value × Option Value) (fun (σ : Int × Int × q_Sg × Option Value × Option Value × Option Value) => match σ with | (k, ch, S1, p5, p6, p7) => (0 ≤ k ∧ k ≤ 4) ∧ B1 k S1 ch) (fun (σ : Int × Int × q_Sg × Option Value × Option Value × Option Value) => match σ with | (k, ch, S1, p5, p6, p7) => (4 - k).toNat) (fun (σ : Int × Int × q_Sg × Option Value × Option Value × Option Value) => match σ with | (k, ch, S1, p5, p6, p7) => [some (.ref 0), some (.ref 16), some (.ref 47), some (iv ch), some (iv k), p5, p6, p7, none, none]) (fun (σ : Int × Int × q_Sg × Option Value × Option Value × Option Value) => match σ with | (k, ch, S1, p5, p6, p7) => (q_en S1, 32, 35025)) (0, 0, S0, none, none, none) rfl rfl ?_ ?_ ?_
  · exact ⟨by omega, B1_0⟩
  · (show _ < 1000000); first | omega | (dsimp only; omega)
  · rintro ⟨k, ch, S1, p5, p6, p7⟩ hP
    try dsimp only at hP ⊢
    obtain ⟨hk, hB⟩ := hP
    refine ⟨_, (r_lt (r_loc rfl rfl) (r_lit ql_4) (by first | omega | assumption | exact r_zrg _ | exact CEL_r xs Ln (by omega) | exact SHR_r _ _ | (constructor <;> omega)) (by first | omega | assumption | exact r_zrg _ | exact CEL_r xs Ln (by omega) | exact SHR_r _ _ | (constructor <;> omega))), fun hp1 => ?_, fun hp2 => ?_⟩
    ·
      have hk4 : k = 4 := by omega
      subst hk4
      have hB1 := hB
      clear hB hk
      refine r_k0 ?_
      refine r_seq ?_
      refine r_seq ?_
      refine r_sloc (L2 := [_, _, _, _, _, _, _, _, _, _]) (r_lit ql_0) rfl rfl ?_
      refine r_k0 ?_
      refine r_loop (T := Int × q_Sg × Option Value × Option Value) (fun (σ : Int × q_Sg × Option Value × Option Value) => match σ with | (k, S, o5, o6) => (0 ≤ k ∧ k ≤ 12) ∧ B2 k S1 S) (fun (σ : Int × q_Sg × Option Value × Option Value) => match σ with | (k, S, o5, o6) => (12 - k).toNat) (fun (σ : Int × q_Sg × Option Value × Option Value) => match σ with | (k, S, o5, o6) => [some (.ref 0), some (.ref 16), some (.ref 47), some (iv ch), some (iv k), o5, o6, p7, none, none]) (fun (σ : Int × q_Sg × Option Value × Option Value) => match σ with | (k, S, o5, o6) => (q_en S, 32, 35025)) (0, S1, p5, p6) rfl rfl ?_ ?_ ?_
      · exact ⟨by omega, hB1.1, r_frm r_fr0 (by decide) (by decide) (by decide), fun j j0 j1 => by omega, fun j j0 j1 => ⟨by rw [hB1.2.2.2.2.1.2.1 1 (by decide)]; exact one12_1 ⟨j0, j1⟩, by rw [hB1.2.2.2.2.1.2.1 2 (by decide)]; rfl⟩⟩
      · (show _ < 1000000); first | omega | (dsimp only; omega)
      · rintro ⟨k, S, o5, o6⟩ hP
        try dsimp only at hP ⊢
        obtain ⟨hk, hB⟩ := hP
        refine ⟨_, (r_lt (r_loc rfl rfl) (r_lit ql_12) (by first | omega | assumption | exact r_zrg _ | exact CEL_r xs Ln (by omega) | exact SHR_r _ _ | (constructor <;> omega)) (by first | omega | assumption | exact r_zrg _ | exact CEL_r xs Ln (by omega) | exact SHR_r _ _ | (constructor <;> omega))), fun hp3 => ?_, fun hp4 => ?_⟩
        ·
          have hx := hp3
          refine r_k0 ?_
          refine r_seq ?_
          refine r_sloc (L2 := [_, _, _, _, _, _, _, _, _, _]) (r_call (r_cons (r_loc rfl rfl) (r_cons (r_lit ql_16) r_nil)) rfl (sp_L_cell (by first | omega | assumption | exact r_zrg _ | exact CEL_r xs Ln (by omega) | exact SHR_r _ _ | (constructor <;> omega)) (by first | omega | assumption | exact r_zrg _ | exact CEL_r xs Ln (by omega) | exact SHR_r _ _ | (constructor <;> omega))) rfl) rfl rfl ?_
          refine r_k0 ?_
          refine r_seq ?_
          refine r_sloc (L2 := [_, _, _, _, _, _, _, _, _, _]) (r_call (r_cons (r_loc rfl rfl) (r_cons (r_lit ql_23) r_nil)) rfl (sp_L_low (by first | omega | assumption | exact r_zrg _ | exact CEL_r xs Ln (by omega) | exact SHR_r _ _ | (constructor <;> omega)) (by first | omega | assumption | exact r_zrg _ | exact CEL_r xs Ln (by omega) | exact SHR_r _ _ | (constructor <;> omega))) rfl) rfl rfl ?_
          refine r_k0 ?_
          refine r_seq ?_
          have b := hB
          have hch := hB1.2.2.2.1
          obtain ⟨b1, b2, b3, b4⟩ := id hB
          have hk12 : k = 12 := by omega
          have c16 := CEL_r xs Ln (k := 16) (by omega)
          have s5 := SHR_r (CEL xs Ln 16) 5; have s7 := SHR_r (CEL xs Ln 16) 7; have s9 := SHR_r (CEL xs Ln 16) 9; have s12 := SHR_r (CEL xs Ln 16) 12; have s13 := SHR_r (CEL xs Ln 16) 13; have s15 := SHR_r (CEL xs Ln 16) 15
          have ht0 : S.2.2.2 = [] := (b2.2.2.2).trans (hB1.2.2.2.2.1).2.2.2
          obtain ⟨g0, hg0⟩ : ∃ g : Int → Int, g = fun _ => 0 := ⟨_, rfl⟩
          obtain ⟨W0, eW0⟩ : ∃ X, X = q_sD S [fW g0] := ⟨_, rfl⟩
          have u0 : r_K (q_eNewA .int (q_eLit (.int 6))) [some (.ref 0), some (.ref 16), some (.ref 47), some (iv ch), some (iv (CEL xs Ln 16)), some (iv ((CEL xs Ln 16) % 2147483648 % 23)), o6, p7, none, none] (q_en S, 32, 35025) (.ref 48) (q_en W0, 33, 35031) := by rw [eW0, hg0]; exact r_new6 ht0
          have hu0 : r_ok W0 := by rw [eW0]; exact r_okD b1
          have tu0 : W0.2.2.2 = [fW g0] := by rw [eW0]; rfl
          have i0 : W0.1 = S.1 := by rw [eW0]; rfl
          have j0 : W0.2.1 = S.2.1 := by rw [eW0]; rfl
          have l0 : W0.2.2.1 = S.2.2.1 := by rw [eW0]; rfl
          obtain ⟨U1, k1, ⟨ha1, hf1, hz1⟩, hs1⟩ := sx_set1 (c := 33) (w := 35031) hu0 (s := 119) (v := (1 + ((SHR (CEL xs Ln 16) 5) % 2147483648 % 3))) (by unfold ALW; omega) (by omega) (by omega)
          have hs1 := STS_119 hs1
          rw [i0] at hs1
          have tv1 : U1.2.2.2 = [fW g0] := hf1.2.2.2.trans tu0
          obtain ⟨g1, hg1⟩ : ∃ g, g = q_up g0 0 (stg W0.1 0 119) := ⟨_, rfl⟩
          obtain ⟨W1, eW1⟩ : ∃ X, X = q_sD U1 [fW g1] := ⟨_, rfl⟩
          have u1 : r_K (q_eSto (q_eNewA .int (q_eLit (.int 6))) (q_eLit (.int 0)) (q_eCall 0 (some 11) f_X9_set (q_aCons (q_eLoc 4 1) (q_aCons (q_eLit (.int 119)) (q_aCons (q_eH2 (fun _ => q_iadd) (q_eLit (.int 1)) (q_eCall 0 none f_L_low (q_aCons (q_eH2 (fun _ => q_ishr) (q_eLoc 0 4) (q_eLit (.int 5))) (q_aCons (q_eLit (.int 3)) q_aNil)))) q_aNil))))) [some (.ref 0), some (.ref 16), some (.ref 47), some (iv ch), some (iv (CEL xs Ln 16)), some (iv ((CEL xs Ln 16) % 2147483648 % 23)), o6, p7, none, none] (q_en S, 32, 35025) (.ref 48) (q_en W1, 33, 35031) := by
            rw [eW1, hg1]
            exact r_were u0 (r_lit ql_0) (r_callG (r_cons (r_loc rfl rfl) (r_cons (r_lit ql_119) (r_cons (r_add (r_lit ql_1) (r_call (r_cons (r_shr (r_loc rfl rfl) (r_lit ql_5)) (r_cons (r_lit ql_3) r_nil)) rfl (sp_L_low (by first | omega | assumption | exact r_zrg _ | exact CEL_r xs Ln (by omega) | exact SHR_r _ _ | (constructor <;> omega)) (by first | omega | assumption | exact r_zrg _ | exact CEL_r xs Ln (by omega) | exact SHR_r _ _ | (constructor <;> omega))) rfl)) r_nil))) rfl k1 rfl) tv1 (by omega)
          have hu1 : r_ok W1 := by rw [eW1]; exact r_okD ha1
          have tu1 : W1.2.2.2 = [fW g1] := by rw [eW1]; rfl
          have i1 : W1.1 = U1.1 := by rw [eW1]; rfl
          have j1 : W1.2.1 = U1.2.1 := by rw [eW1]; rfl
          have l1 : W1.2.2.1 = U1.2.2.1 := by rw [eW1]; rfl
          obtain ⟨U2, k2, ⟨ha2, hf2, hz2⟩, hs2⟩ := sx_set1 (c := 33) (w := 35031) hu1 (s := 107) (v := ((SHR (CEL xs Ln 16) 7) % 2147483648 % 3)) (by unfold ALW; omega) (by omega) (by omega)
          have hs2 := STS_107 hs2
          rw [i1] at hs2
          have tv2 : U2.2.2.2 = [fW g1] := hf2.2.2.2.trans tu1
          obtain ⟨g2, hg2⟩ : ∃ g, g = q_up g1 1 (stg W1.1 0 107) := ⟨_, rfl⟩
          obtain ⟨W2, eW2⟩ : ∃ X, X = q_sD U2 [fW g2] := ⟨_, rfl⟩
          have u2 : r_K (q_eSto (q_eSto (q_eNewA .int (q_eLit (.int 6))) (q_eLit (.int 0)) (q_eCall 0 (some 11) f_X9_set (q_aCons (q_eLoc 4 1) (q_aCons (q_eLit (.int 119)) (q_aCons (q_eH2 (fun _ => q_iadd) (q_eLit (.int 1)) (q_eCall 0 none f_L_low (q_aCons (q_eH2 (fun _ => q_ishr) (q_eLoc 0 4) (q_eLit (.int 5))) (q_aCons (q_eLit (.int 3)) q_aNil)))) q_aNil))))) (q_eLit (.int 1)) (q_eCall 0 (some 11) f_X9_set (q_aCons (q_eLoc 4 1) (q_aCons (q_eLit (.int 107)) (q_aCons (q_eCall 0 none f_L_low (q_aCons (q_eH2 (fun _ => q_ishr) (q_eLoc 0 4) (q_eLit (.int 7))) (q_aCons (q_eLit (.int 3)) q_aNil))) q_aNil))))) [some (.ref 0), some (.ref 16), some (.ref 47), some (iv ch), some (iv (CEL xs Ln 16)), some (iv ((CEL xs Ln 16) % 2147483648 % 23)), o6, p7, none, none] (q_en S, 32, 35025) (.ref 48) (q_en W2, 33, 35031) := by
            rw [eW2, hg2]
            exact r_were u1 (r_lit ql_1) (r_callG (r_cons (r_loc rfl rfl) (r_cons (r_lit ql_107) (r_cons (r_call (r_cons (r_shr (r_loc rfl rfl) (r_lit ql_7)) (r_cons (r_lit ql_3) r_nil)) rfl (sp_L_low (by first | omega | assumption | exact r_zrg _ | exact CEL_r xs Ln (by omega) | exact SHR_r _ _ | (constructor <;> omega)) (by first | omega | assumption | exact r_zrg _ | exact CEL_r xs Ln (by omega) | exact SHR_r _ _ | (constructor <;> omega))) rfl) r_nil))) rfl k2 rfl) tv2 (by omega)
          have hu2 : r_ok W2 := by rw [eW2]; exact r_okD ha2
          have tu2 : W2.2.2.2 = [fW g2] := by rw [eW2]; rfl
          have i2 : W2.1 = U2.1 := by rw [eW2]; rfl
          have j2 : W2.2.1 = U2.2.1 := by rw [eW2]; rfl
          have l2 : W2.2.2.1 = U2.2.2.1 := by rw [eW2]; rfl
          obtain ⟨U3, k3, ⟨ha3, hf3, hz3⟩, hs3⟩ := sx_set1 (c := 33) (w := 35031) hu2 (s := 100) (v := (1 + ((SHR (CEL xs Ln 16) 9) % 2147483648 % 6))) (by unfold ALW; omega) (by omega) (by omega)
          have hs3 := STS_100 hs3
          rw [i2] at hs3
          have tv3 : U3.2.2.2 = [fW g2] := hf3.2.2.2.trans tu2
          obtain ⟨g3, hg3⟩ : ∃ g, g = q_up g2 2 (stg W2.1 0 100) := ⟨_, rfl⟩
          obtain ⟨W3, eW3⟩ : ∃ X, X = q_sD U3 [fW g3] := ⟨_, rfl⟩
          have u3 : r_K (q_eSto (q_eSto (q_eSto (q_eNewA .int (q_eLit (.int 6))) (q_eLit (.int 0)) (q_eCall 0 (some 11) f_X9_set (q_aCons (q_eLoc 4 1) (q_aCons (q_eLit (.int 119)) (q_aCons (q_eH2 (fun _ => q_iadd) (q_eLit (.int 1)) (q_eCall 0 none f_L_low (q_aCons (q_eH2 (fun _ => q_ishr) (q_eLoc 0 4) (q_eLit (.int 5))) (q_aCons (q_eLit (.int 3)) q_aNil)))) q_aNil))))) (q_eLit (.int 1)) (q_eCall 0 (some 11) f_X9_set (q_aCons (q_eLoc 4 1) (q_aCons (q_eLit (.int 107)) (q_aCons (q_eCall 0 none f_L_low (q_aCons (q_eH2 (fun _ => q_ishr) (q_eLoc 0 4) (q_eLit (.int 7))) (q_aCons (q_eLit (.int 3)) q_aNil))) q_aNil))))) (q_eLit (.int 2)) (q_eCall 0 (some 11) f_X9_set (q_aCons (q_eLoc 4 1) (q_aCons (q_eLit (.int 100)) (q_aCons (q_eH2 (fun _ => q_iadd) (q_eLit (.int 1)) (q_eCall 0 none f_L_low (q_aCons (q_eH2 (fun _ => q_ishr) (q_eLoc 0 4) (q_eLit (.int 9))) (q_aCons (q_eLit (.int 6)) q_aNil)))) q_aNil))))) [some (.ref 0), some (.ref 16), some (.ref 47), some (iv ch), some (iv (CEL xs Ln 16)), some (iv ((CEL xs Ln 16) % 2147483648 % 23)), o6, p7, none, none] (q_en S, 32, 35025) (.ref 48) (q_en W3, 33, 35031) := by
            rw [eW3, hg3]
            exact r_were u2 (r_lit ql_2) (r_callG (r_cons (r_loc rfl rfl) (r_cons (r_lit ql_100) (r_cons (r_add (r_lit ql_1) (r_call (r_cons (r_shr (r_loc rfl rfl) (r_lit ql_9)) (r_cons (r_lit ql_6) r_nil)) rfl (sp_L_low (by first | omega | assumption | exact r_zrg _ | exact CEL_r xs Ln (by omega) | exact SHR_r _ _ | (constructor <;> omega)) (by first | omega | assumption | exact r_zrg _ | exact CEL_r xs Ln (by omega) | exact SHR_r _ _ | (constructor <;> omega))) rfl)) r_nil))) rfl k3 rfl) tv3 (by omega)
          have hu3 : r_ok W3 := by rw [eW3]; exact r_okD ha3
          have tu3 : W3.2.2.2 = [fW g3] := by rw [eW3]; rfl
          have i3 : W3.1 = U3.1 := by rw [eW3]; rfl
          have j3 : W3.2.1 = U3.2.1 := by rw [eW3]; rfl
          have l3 : W3.2.2.1 = U3.2.2.1 := by rw [eW3]; rfl
          obtain ⟨U4, k4, ⟨ha4, hf4, hz4⟩, hs4⟩ := sx_set1 (c := 33) (w := 35031) hu3 (s := 115) (v := ((SHR (CEL xs Ln 16) 12) % 2147483648 % 2)) (by unfold ALW; omega) (by omega) (by omega)
          have hs4 := STS_115 hs4
          rw [i3] at hs4
          have tv4 : U4.2.2.2 = [fW g3] := hf4.2.2.2.trans tu3
          obtain ⟨g4, hg4⟩ : ∃ g, g = q_up g3 3 (stg W3.1 0 115) := ⟨_, rfl⟩
          obtain ⟨W4, eW4⟩ : ∃ X, X = q_sD U4 [fW g4] := ⟨_, rfl⟩
          have u4 : r_K (q_eSto (q_eSto (q_eSto (q_eSto (q_eNewA .int (q_eLit (.int 6))) (q_eLit (.int 0)) (q_eCall 0 (some 11) f_X9_set (q_aCons (q_eLoc 4 1) (q_aCons (q_eLit (.int 119)) (q_aCons (q_eH2 (fun _ => q_iadd) (q_eLit (.int 1)) (q_eCall 0 none f_L_low (q_aCons (q_eH2 (fun _ => q_ishr) (q_eLoc 0 4) (q_eLit (.int 5))) (q_aCons (q_eLit (.int 3)) q_aNil)))) q_aNil))))) (q_eLit (.int 1)) (q_eCall 0 (some 11) f_X9_set (q_aCons (q_eLoc 4 1) (q_aCons (q_eLit (.int 107)) (q_aCons (q_eCall 0 none f_L_low (q_aCons (q_eH2 (fun _ => q_ishr) (q_eLoc 0 4) (q_eLit (.int 7))) (q_aCons (q_eLit (.int 3)) q_aNil))) q_aNil))))) (q_eLit (.int 2)) (q_eCall 0 (some 11) f_X9_set (q_aCons (q_eLoc 4 1) (q_aCons (q_eLit (.int 100)) (q_aCons (q_eH2 (fun _ => q_iadd) (q_eLit (.int 1)) (q_eCall 0 none f_L_low (q_aCons (q_eH2 (fun _ => q_ishr) (q_eLoc 0 4) (q_eLit (.int 9))) (q_aCons (q_eLit (.int 6)) q_aNil)))) q_aNil))))) (q_eLit (.int 3)) (q_eCall 0 (some 11) f_X9_set (q_aCons (q_eLoc 4 1) (q_aCons (q_eLit (.int 115)) (q_aCons (q_eCall 0 none f_L_low (q_aCons (q_eH2 (fun _ => q_ishr) (q_eLoc 0 4) (q_eLit (.int 12))) (q_aCons (q_eLit (.int 2)) q_aNil))) q_aNil))))) [some (.ref 0), some (.ref 16), some (.ref 47), some (iv ch), some (iv (CEL xs Ln 16)), some (iv ((CEL xs Ln 16) % 2147483648 % 23)), o6, p7, none, none] (q_en S, 32, 35025) (.ref 48) (q_en W4, 33, 35031) := by
            rw [eW4, hg4]
            exact r_were u3 (r_lit ql_3) (r_callG (r_cons (r_loc rfl rfl) (r_cons (r_lit ql_115) (r_cons (r_call (r_cons (r_shr (r_loc rfl rfl) (r_lit ql_12)) (r_cons (r_lit ql_2) r_nil)) rfl (sp_L_low (by first | omega | assumption | exact r_zrg _ | exact CEL_r xs Ln (by omega) | exact SHR_r _ _ | (constructor <;> omega)) (by first | omega | assumption | exact r_zrg _ | exact CEL_r xs Ln (by omega) | exact SHR_r _ _ | (constructor <;> omega))) rfl) r_nil))) rfl k4 rfl) tv4 (by omega)
          have hu4 : r_ok W4 := by rw [eW4]; exact r_okD ha4
          have tu4 : W4.2.2.2 = [fW g4] := by rw [eW4]; rfl
          have i4 : W4.1 = U4.1 := by rw [eW4]; rfl
          have j4 : W4.2.1 = U4.2.1 := by rw [eW4]; rfl
          have l4 : W4.2.2.1 = U4.2.2.1 := by rw [eW4]; rfl
          obtain ⟨U5, k5, ⟨ha5, hf5, hz5⟩, hs5⟩ := sx_set1 (c := 33) (w := 35031) hu4 (s := 103) (v := ((SHR (CEL xs Ln 16) 13) % 2147483648 % 3)) (by unfold ALW; omega) (by omega) (by omega)
          have hs5 := STS_103 hs5
          rw [i4] at hs5
          have tv5 : U5.2.2.2 = [fW g4] := hf5.2.2.2.trans tu4
          obtain ⟨g5, hg5⟩ : ∃ g, g = q_up g4 4 (stg W4.1 0 103) := ⟨_, rfl⟩
          obtain ⟨W5, eW5⟩ : ∃ X, X = q_sD U5 [fW g5] := ⟨_, rfl⟩
          have u5 : r_K (q_eSto (q_eSto (q_eSto (q_eSto (q_eSto (q_eNewA .int (q_eLit (.int 6))) (q_eLit (.int 0)) (q_eCall 0 (some 11) f_X9_set (q_aCons (q_eLoc 4 1) (q_aCons (q_eLit (.int 119)) (q_aCons (q_eH2 (fun _ => q_iadd) (q_eLit (.int 1)) (q_eCall 0 none f_L_low (q_aCons (q_eH2 (fun _ => q_ishr) (q_eLoc 0 4) (q_eLit (.int 5))) (q_aCons (q_eLit (.int 3)) q_aNil)))) q_aNil))))) (q_eLit (.int 1)) (q_eCall 0 (some 11) f_X9_set (q_aCons (q_eLoc 4 1) (q_aCons (q_eLit (.int 107)) (q_aCons (q_eCall 0 none f_L_low (q_aCons (q_eH2 (fun _ => q_ishr) (q_eLoc 0 4) (q_eLit (.int 7))) (q_aCons (q_eLit (.int 3)) q_aNil))) q_aNil))))) (q_eLit (.int 2)) (q_eCall 0 (some 11) f_X9_set (q_aCons (q_eLoc 4 1) (q_aCons (q_eLit (.int 100)) (q_aCons (q_eH2 (fun _ => q_iadd) (q_eLit (.int 1)) (q_eCall 0 none f_L_low (q_aCons (q_eH2 (fun _ => q_ishr) (q_eLoc 0 4) (q_eLit (.int 9))) (q_aCons (q_eLit (.int 6)) q_aNil)))) q_aNil))))) (q_eLit (.int 3)) (q_eCall 0 (some 11) f_X9_set (q_aCons (q_eLoc 4 1) (q_aCons (q_eLit (.int 115)) (q_aCons (q_eCall 0 none f_L_low (q_aCons (q_eH2 (fun _ => q_ishr) (q_eLoc 0 4) (q_eLit (.int 12))) (q_aCons (q_eLit (.int 2)) q_aNil))) q_aNil))))) (q_eLit (.int 4)) (q_eCall 0 (some 11) f_X9_set (q_aCons (q_eLoc 4 1) (q_aCons (q_eLit (.int 103)) (q_aCons (q_eCall 0 none f_L_low (q_aCons (q_eH2 (fun _ => q_ishr) (q_eLoc 0 4) (q_eLit (.int 13))) (q_aCons (q_eLit (.int 3)) q_aNil))) q_aNil))))) [some (.ref 0), some (.ref 16), some (.ref 47), some (iv ch), some (iv (CEL xs Ln 16)), some (iv ((CEL xs Ln 16) % 2147483648 % 23)), o6, p7, none, none] (q_en S, 32, 35025) (.ref 48) (q_en W5, 33, 35031) := by
            rw [eW5, hg5]
            exact r_were u4 (r_lit ql_4) (r_callG (r_cons (r_loc rfl rfl) (r_cons (r_lit ql_103) (r_cons (r_call (r_cons (r_shr (r_loc rfl rfl) (r_lit ql_13)) (r_cons (r_lit ql_3) r_nil)) rfl (sp_L_low (by first | omega | assumption | exact r_zrg _ | exact CEL_r xs Ln (by omega) | exact SHR_r _ _ | (constructor <;> omega)) (by first | omega | assumption | exact r_zrg _ | exact CEL_r xs Ln (by omega) | exact SHR_r _ _ | (constructor <;> omega))) rfl) r_nil))) rfl k5 rfl) tv5 (by omega)
          have hu5 : r_ok W5 := by rw [eW5]; exact r_okD ha5
          have tu5 : W5.2.2.2 = [fW g5] := by rw [eW5]; rfl
          have i5 : W5.1 = U5.1 := by rw [eW5]; rfl
          have j5 : W5.2.1 = U5.2.1 := by rw [eW5]; rfl
          have l5 : W5.2.2.1 = U5.2.2.1 := by rw [eW5]; rfl
          obtain ⟨U6, k6, ⟨ha6, hf6, hz6⟩, hs6⟩ := sx_set1 (c := 33) (w := 35031) hu5 (s := 114) (v := ((CEL xs Ln 16) % 2147483648 % 23)) (by unfold ALW; omega) (by omega) (by omega)
          have hs6 := STS_114 hs6
          rw [i5] at hs6
          have tv6 : U6.2.2.2 = [fW g5] := hf6.2.2.2.trans tu5
          obtain ⟨g6, hg6⟩ : ∃ g, g = q_up g5 5 (stg W5.1 0 114) := ⟨_, rfl⟩
          obtain ⟨W6, eW6⟩ : ∃ X, X = q_sD U6 [fW g6] := ⟨_, rfl⟩
          have u6 : r_K (q_eSto (q_eSto (q_eSto (q_eSto (q_eSto (q_eSto (q_eNewA .int (q_eLit (.int 6))) (q_eLit (.int 0)) (q_eCall 0 (some 11) f_X9_set (q_aCons (q_eLoc 4 1) (q_aCons (q_eLit (.int 119)) (q_aCons (q_eH2 (fun _ => q_iadd) (q_eLit (.int 1)) (q_eCall 0 none f_L_low (q_aCons (q_eH2 (fun _ => q_ishr) (q_eLoc 0 4) (q_eLit (.int 5))) (q_aCons (q_eLit (.int 3)) q_aNil)))) q_aNil))))) (q_eLit (.int 1)) (q_eCall 0 (some 11) f_X9_set (q_aCons (q_eLoc 4 1) (q_aCons (q_eLit (.int 107)) (q_aCons (q_eCall 0 none f_L_low (q_aCons (q_eH2 (fun _ => q_ishr) (q_eLoc 0 4) (q_eLit (.int 7))) (q_aCons (q_eLit (.int 3)) q_aNil))) q_aNil))))) (q_eLit (.int 2)) (q_eCall 0 (some 11) f_X9_set (q_aCons (q_eLoc 4 1) (q_aCons (q_eLit (.int 100)) (q_aCons (q_eH2 (fun _ => q_iadd) (q_eLit (.int 1)) (q_eCall 0 none f_L_low (q_aCons (q_eH2 (fun _ => q_ishr) (q_eLoc 0 4) (q_eLit (.int 9))) (q_aCons (q_eLit (.int 6)) q_aNil)))) q_aNil))))) (q_eLit (.int 3)) (q_eCall 0 (some 11) f_X9_set (q_aCons (q_eLoc 4 1) (q_aCons (q_eLit (.int 115)) (q_aCons (q_eCall 0 none f_L_low (q_aCons (q_eH2 (fun _ => q_ishr) (q_eLoc 0 4) (q_eLit (.int 12))) (q_aCons (q_eLit (.int 2)) q_aNil))) q_aNil))))) (q_eLit (.int 4)) (q_eCall 0 (some 11) f_X9_set (q_aCons (q_eLoc 4 1) (q_aCons (q_eLit (.int 103)) (q_aCons (q_eCall 0 none f_L_low (q_aCons (q_eH2 (fun _ => q_ishr) (q_eLoc 0 4) (q_eLit (.int 13))) (q_aCons (q_eLit (.int 3)) q_aNil))) q_aNil))))) (q_eLit (.int 5)) (q_eCall 0 (some 11) f_X9_set (q_aCons (q_eLoc 4 1) (q_aCons (q_eLit (.int 114)) (q_aCons (q_eLoc 0 5) q_aNil))))) [some (.ref 0), some (.ref 16), some (.ref 47), some (iv ch), some (iv (CEL xs Ln 16)), some (iv ((CEL xs Ln 16) % 2147483648 % 23)), o6, p7, none, none] (q_en S, 32, 35025) (.ref 48) (q_en W6, 33, 35031) := by
            rw [eW6, hg6]
            exact r_were u5 (r_lit ql_5) (r_callG (r_cons (r_loc rfl rfl) (r_cons (r_lit ql_114) (r_cons (r_loc rfl rfl) r_nil))) rfl k6 rfl) tv6 (by omega)
          have hu6 : r_ok W6 := by rw [eW6]; exact r_okD ha6
          have tu6 : W6.2.2.2 = [fW g6] := by rw [eW6]; rfl
          have i6 : W6.1 = U6.1 := by rw [eW6]; rfl
          have j6 : W6.2.1 = U6.2.1 := by rw [eW6]; rfl
          have l6 : W6.2.2.1 = U6.2.2.1 := by rw [eW6]; rfl
          have hfI : ∀ k : Nat, 6 ≤ k → U6.1 k = S.1 k := fun k hk => by
            have m : k ∉ [0, 1, 2, 3, 4, 5] := by simp; omega
            rw [hf6.1 k m, i5, hf5.1 k m, i4, hf4.1 k m, i3, hf3.1 k m, i2, hf2.1 k m, i1, hf1.1 k m, i0]
          have hfA : ∀ k : Nat, ¬ k = 4 → U6.2.1 k = S.2.1 k := fun k hk => by
            have m : k ∉ [4] := by simp; exact hk
            rw [hf6.2.1 k m, j5, hf5.2.1 k m, j4, hf4.2.1 k m, j3, hf3.2.1 k m, j2, hf2.2.1 k m, j1, hf1.2.1 k m, j0]
          have hfS : ∀ k : Nat, S.1 k = S0.1 k := fun k => (b2.1 k List.not_mem_nil).trans (hB1.2.2.2.2.1.1 k List.not_mem_nil)
          have hfA0 : ∀ k : Nat, k ∉ [21, 2, 1] → S.2.1 k = S1.2.1 k := fun k m => b2.2.1 k m
          have hfA1 : ∀ k : Nat, k ∉ [4, 0] → S1.2.1 k = S0.2.1 k := fun k m => hB1.2.2.2.2.1.2.1 k m
          have z0 : S.1 0 = 1 := hfS 0
          have z5 : S.1 5 = 4 := hfS 5
          have z6 : W6.1 6 = 108 := by rw [i6, hfI 6 (by decide)]; exact hfS 6
          have hw0 : g6 0 = 1 := by
            rw [hg6, hg5, hg4, hg3, hg2, hg1]
            show stg W0.1 0 119 = 1
            unfold stg; rw [r_i1 rfl, i0]; exact z0
          have hw5 : g6 5 = 4 := by
            rw [hg6]
            show stg W5.1 0 114 = 4
            unfold stg
            rw [r_i0 (by decide), r_i0 (by decide), r_i0 (by decide), r_i0 (by decide), r_i0 (by decide), i5]
            show U5.1 5 = 4
            omega
          refine r_slocG (L2 := [_, _, _, _, _, _, _, _, _, _]) u6 rfl rfl ?_
          refine r_k0 ?_
          refine r_seq ?_
          have p6 : (r_t6 ((SHR (CEL xs Ln 16) 15) % 2147483648 % 3)) = 108 ∨ (r_t6 ((SHR (CEL xs Ln 16) 15) % 2147483648 % 3)) = 103 ∨ (r_t6 ((SHR (CEL xs Ln 16) 15) % 2147483648 % 3)) = 119 := by unfold r_t6; (repeat' split) <;> omega
          obtain ⟨g7, hz7, hr7, hK_pat⟩ := sx_X9_setPattern (c := 33) (w := 35031) hu6 (p := (r_t6 ((SHR (CEL xs Ln 16) 15) % 2147483648 % 3))) p6 (by omega)
          obtain ⟨W7, eW7⟩ : ∃ X, X = q_sI (q_sA W6 4 g7) 6 (r_t6 ((SHR (CEL xs Ln 16) 15) % 2147483648 % 3)) := ⟨_, rfl⟩
          rw [← eW7] at hK_pat
          have hu7 : r_ok W7 := by rw [eW7]; exact r_okI (r_okA hu6 hr7) (by omega)
          have tu7 : W7.2.2.2 = [fW g6] := by rw [eW7]; exact tu6
          have i7 : ∀ k, ¬ k = 6 → W7.1 k = U6.1 k := fun k hk => by rw [eW7]; show (if k = 6 then _ else W6.1 k) = _; rw [if_neg hk, i6]
          have i76 : W7.1 6 = (r_t6 ((SHR (CEL xs Ln 16) 15) % 2147483648 % 3)) := by rw [eW7]; rfl
          have j7 : ∀ k, ¬ k = 4 → W7.2.1 k = S.2.1 k := fun k hk => by rw [eW7]; show (if k = 4 then _ else W6.2.1 k) = _; rw [if_neg hk, j6]; exact hfA k hk
          have j74 : ∀ z, 0 ≤ z → z < 12 → W7.2.1 4 z = 0 := fun z h0 h1 => by rw [eW7]; exact hz7 z h0 h1
          have ga_Were : q_arr (q_en W7, 33, 35031) (.ref 48) = some (.int, 6, .inl (fun j => Int32.ofInt (g6 (j : Nat)))) := en_arr tu7
          refine r_slocG (L2 := [_, _, _, _, _, _, _, _, _, _]) (r_callG (r_cons (r_loc rfl rfl) (r_cons (r_call (r_cons r_litr (r_cons (r_call (r_cons (r_shr (r_loc rfl rfl) (r_lit ql_15)) (r_cons (r_lit ql_3) r_nil)) rfl (sp_L_low (by first | omega | assumption | exact r_zrg _ | exact CEL_r xs Ln (by omega) | exact SHR_r _ _ | (constructor <;> omega)) (by first | omega | assumption | exact r_zrg _ | exact CEL_r xs Ln (by omega) | exact SHR_r _ _ | (constructor <;> omega))) rfl) r_nil)) rfl (sp_J0_charAt (by first | omega | assumption | exact r_zrg _ | exact CEL_r xs Ln (by omega) | exact SHR_r _ _ | (constructor <;> omega))) rfl) r_nil)) rfl hK_pat rfl) rfl rfl ?_
          refine r_k0 ?_
          refine r_seq ?_
          refine r_sloc (L2 := [_, _, _, _, _, _, _, _, _, _]) (r_E1 (r_and (r_and (r_and (r_lt (r_loc rfl rfl) (r_lit ql_9000) (by first | omega | assumption | exact r_zrg _ | exact CEL_r xs Ln (by omega) | exact SHR_r _ _ | (constructor <;> omega)) (by first | omega | assumption | exact r_zrg _ | exact CEL_r xs Ln (by omega) | exact SHR_r _ _ | (constructor <;> omega))) (fun hp5 => (r_eq (r_aget ga_Were (r_loc rfl rfl) (r_lit ql_0) (by first | omega | assumption | exact r_zrg _ | exact CEL_r xs Ln (by omega) | exact SHR_r _ _ | (constructor <;> omega)) (by first | omega | assumption | exact r_zrg _ | exact CEL_r xs Ln (by omega) | exact SHR_r _ _ | (constructor <;> omega)) (by decide)) (r_lit ql_1) (by first | omega | assumption | exact r_zrg _ | exact CEL_r xs Ln (by omega) | exact SHR_r _ _ | (constructor <;> omega)) (by first | omega | assumption | exact r_zrg _ | exact CEL_r xs Ln (by omega) | exact SHR_r _ _ | (constructor <;> omega))))) (fun hp6 => (r_eq (r_aget ga_Were (r_loc rfl rfl) (r_lit ql_5) (by first | omega | assumption | exact r_zrg _ | exact CEL_r xs Ln (by omega) | exact SHR_r _ _ | (constructor <;> omega)) (by first | omega | assumption | exact r_zrg _ | exact CEL_r xs Ln (by omega) | exact SHR_r _ _ | (constructor <;> omega)) (by decide)) (r_lit ql_4) (by first | omega | assumption | exact r_zrg _ | exact CEL_r xs Ln (by omega) | exact SHR_r _ _ | (constructor <;> omega)) (by first | omega | assumption | exact r_zrg _ | exact CEL_r xs Ln (by omega) | exact SHR_r _ _ | (constructor <;> omega))))) (fun hp7 => (r_eq (r_loc rfl rfl) (r_lit ql_108) (by first | omega | assumption | exact r_zrg _ | exact CEL_r xs Ln (by omega) | exact SHR_r _ _ | (constructor <;> omega)) (by first | omega | assumption | exact r_zrg _ | exact CEL_r xs Ln (by omega) | exact SHR_r _ _ | (constructor <;> omega))))) (by first | omega | assumption | exact r_zrg _ | exact CEL_r xs Ln (by omega) | exact SHR_r _ _ | (constructor <;> omega))) rfl rfl ?_
          refine r_k0 ?_
          refine r_seq ?_
          have y0 : W7.1 0 = (1 + ((SHR (CEL xs Ln 16) 5) % 2147483648 % 3)) := by rw [i7 0 (by decide)]; omega
          have y1 : W7.1 1 = ((SHR (CEL xs Ln 16) 7) % 2147483648 % 3) := by rw [i7 1 (by decide)]; omega
          have y2 : W7.1 2 = (1 + ((SHR (CEL xs Ln 16) 9) % 2147483648 % 6)) := by rw [i7 2 (by decide)]; omega
          have y3 : W7.1 3 = ((SHR (CEL xs Ln 16) 12) % 2147483648 % 2) := by rw [i7 3 (by decide)]; omega
          have y4 : W7.1 4 = ((SHR (CEL xs Ln 16) 13) % 2147483648 % 3) := by rw [i7 4 (by decide)]; omega
          have y5 : W7.1 5 = ((CEL xs Ln 16) % 2147483648 % 23) := by rw [i7 5 (by decide)]; omega
          have hK7 : SOK W7.1 0 := by
            refine ⟨?_, ?_, ?_, ?_, ?_, ?_⟩
            · show 1 ≤ W7.1 0 ∧ W7.1 0 ≤ 3; omega
            · show 0 ≤ W7.1 1 ∧ W7.1 1 ≤ 3; omega
            · show 1 ≤ W7.1 2 ∧ W7.1 2 ≤ 6; omega
            · show 0 ≤ W7.1 3 ∧ W7.1 3 ≤ 1; omega
            · show 0 ≤ W7.1 4 ∧ W7.1 4 ≤ 2; omega
            · show 0 ≤ W7.1 5 ∧ W7.1 5 ≤ 22; omega
          have hth7 : ∀ z, (0 ≤ z ∧ z < 12) → (1 ≤ W7.2.1 21 z ∧ W7.2.1 21 z ≤ 3) ∧ W7.2.1 1 z = W7.2.1 21 z := fun z hz => by
            rw [j7 21 (by decide), j7 1 (by decide)]; exact b3 z hz.1 (by omega)
          have hth71 : ∀ z, (0 ≤ z ∧ z < 12) → 1 ≤ W7.2.1 1 z ∧ W7.2.1 1 z ≤ 3 := fun z hz => by have := hth7 z hz; omega
          have hI7 : KCI W7 := ⟨fun j => by
            rw [j7 3 (by decide), hfA0 3 (by decide), hfA1 3 (by decide)]
            show 0 ≤ (0 : Int) ∧ (0 : Int) < 65536; decide, fun z hz hk => absurd (j74 z hz.1 hz.2) hk⟩
          have y16 : W7.1 16 = 105 := by rw [i7 16 (by decide), hfI 16 (by decide)]; exact hfS 16
          obtain ⟨T8, hK_plan, hT8, hI8, hc8, hO8, hA8, hf8, h168, hk8⟩ := sx_X9_plan (c := 33) (w := 35031) hu7 hK7 hI7 hth71 y16
          obtain ⟨l, hl⟩ : ∃ l, l = (PLN (W7.2.1 0) W7.1 0 (W7.2.1 2) 12) := ⟨_, rfl⟩
          rw [← hl] at hK_plan hc8 hO8
          have hrc : 0 ≤ W7.1 (0 + 5) := by show 0 ≤ W7.1 5; omega
          have hP8 := PLN_P (a := W7.2.1 0) (f := W7.1) (b := 0) (pz := W7.2.1 2) hrc 12 (Nat.le_refl _)
          rw [← hl] at hP8
          have hn8 : l.length ≤ 6936 := by
            have := PLN_len (a := W7.2.1 0) (f := W7.1) (b := 0) (pz := W7.2.1 2) 12
            rw [← hl] at this; exact this
          have hth8 : ∀ j, 0 ≤ j → j < 12 → 0 ≤ W7.2.1 1 j ∧ W7.2.1 1 j ≤ 3 := fun j j0 j1 => by have := hth71 j ⟨j0, j1⟩; omega
          have hW8 : ∀ i : Int, 0 ≤ i → i < l.length → WFC (W7.1 5) l i := fun i i0 i1 => by
            have hz := WFZ_P (a := W7.2.1 0) (f := W7.1) (b := 0) (pz := W7.2.1 2) hrc 12
            rw [← hl] at hz
            have k := WFZ_C hz i.toNat (by omega)
            rw [Int.toNat_of_nonneg i0] at k
            exact k
          have hArep := sp_L_arePlanned (c := 33) (w := 35031) hT8 hc8 hO8 hn8 hA8 hth8 hP8.1 (rc := W7.1 5) (by omega) hW8
          rw [y5] at hArep
          have h98 : T8.1 9 = l.length := hc8.1
          refine r_slocG (L2 := [_, _, _, _, _, _, _, _, _, _]) (r_callG (r_cons (r_loc rfl rfl) r_nil) rfl hK_plan rfl) rfl rfl ?_
          refine r_k0 ?_
          refine r_seq ?_
          refine r_sloc (L2 := [_, _, _, _, _, _, _, _, _, _]) (r_E1 (r_and (r_and (r_z_ne (r_loc rfl rfl) (by first | omega | assumption | exact r_zrg _ | exact CEL_r xs Ln (by omega) | exact SHR_r _ _ | (constructor <;> omega))) (fun hp8 => (r_eq (r_call (r_cons (r_loc rfl rfl) r_nil) rfl (sp_X9_commands (by first | omega | assumption | exact r_zrg _ | exact CEL_r xs Ln (by omega) | exact SHR_r _ _ | (constructor <;> omega))) rfl) (r_loc rfl rfl) (by first | omega | assumption | exact r_zrg _ | exact CEL_r xs Ln (by omega) | exact SHR_r _ _ | (constructor <;> omega)) (by first | omega | assumption | exact r_zrg _ | exact CEL_r xs Ln (by omega) | exact SHR_r _ _ | (constructor <;> omega))))) (fun hp9 => (r_z_ne (r_call (r_cons (r_loc rfl rfl) (r_cons (r_loc rfl rfl) (r_cons (r_loc rfl rfl) r_nil))) rfl hArep rfl) (by first | omega | assumption | exact r_zrg _ | exact CEL_r xs Ln (by omega) | exact SHR_r _ _ | (constructor <;> omega))))) (by first | omega | assumption | exact r_zrg _ | exact CEL_r xs Ln (by omega) | exact SHR_r _ _ | (constructor <;> omega))) rfl rfl ?_
          refine r_k0 ?_
          refine r_seq ?_
          refine r_sif (r_or (r_not (r_z_ne (r_loc rfl rfl) (by first | omega | assumption | exact r_zrg _ | exact CEL_r xs Ln (by omega) | exact SHR_r _ _ | (constructor <;> omega)))) (fun hp10 => (r_z_eq (r_loc rfl rfl) (by first | omega | assumption | exact r_zrg _ | exact CEL_r xs Ln (by omega) | exact SHR_r _ _ | (constructor <;> omega))))) (fun hp11 => ?_) (fun hp12 => ?_)
          ·
            have hpT := hp11
            have hpT0 := hp11
            refine r_sret (r_loc rfl rfl) ?_
            refine r_ks (j := 3) ?_
            exact ⟨rfl, by show 33 ≤ 114; omega, by show 35031 ≤ 35645; omega⟩
          ·
            have hpF := hp12
            have hpF0 := hp12
            refine wS_skip ?_
            refine r_k0 ?_
            have hne : ¬ (l.length : Int) = 0 := by omega
            have e1I : ∀ k : Nat, k ∉ [12, 11, 10, 9, 8, 16, 22, 21, 18, 19, 20] → 7 ≤ k → T8.1 k = S0.1 k := fun k m h7 => by rw [hf8.1 k m, i7 k (by omega), hfI k (by omega)]; exact hfS k
            have h178 : T8.1 17 = 105 := e1I 17 (by decide) (by decide)
            have h138 : T8.1 13 = 0 := e1I 13 (by decide) (by decide)
            have h148 : T8.1 14 = 20 := e1I 14 (by decide) (by decide)
            have h158 : T8.1 15 = 0 := e1I 15 (by decide) (by decide)
            have h208 : ∀ j, T8.2.1 20 j = 0 := fun j => by rw [hf8.2.1 20 (by decide), j7 20 (by decide), hfA0 20 (by decide), hfA1 20 (by decide)]; rfl
            have hFW : FEW (W7.2.1 0) 4 := by rw [j7 0 (by decide), hfA0 0 (by decide)]; exact hB1.2.2.1
            have hCS : CST l l.length ≤ 73224 := by rw [hl]; exact CST_F (f := W7.1) (by omega) hFW
            have hNP : NPA l l.length ≤ 12 := by rw [hl]; exact NPA_P hrc 12
            obtain ⟨_, _, hK_prints, T9, rfl, rfl, hT9, hf9, hl9, hs9⟩ := sp_L_prints (c := 33) (w := 35031) hT8 hc8 hO8 hn8 hA8 hP8.1 hth8 hne h168 (by omega) h138 h148 (by omega) h208 hCS hNP (xs := xs) hLn
            have hK_prints : r_G (f_L_prints xs Ln) [.ref 16, .ref 0, iv l.length] (q_en T8, 33, 35031) (iv 1) (q_en T9, 33, 35031) := hK_prints
            have hI9 : KCI T9 := KCI_f hf9 (fun k hk => by simp; omega) (by decide) hI8
            have hk9 : ∀ z, (0 ≤ z ∧ z < 12) → ¬ T9.2.1 4 z = 0 := by rw [hf9.2.1 4 (by decide)]; exact hk8
            have e210 : T9.2.1 0 = W7.2.1 0 := (hf9.2.1 0 (by decide)).trans (hf8.2.1 0 (by decide))
            have e2121 : T9.2.1 21 = W7.2.1 21 := (hf9.2.1 21 (by decide)).trans (hf8.2.1 21 (by decide))
            have eKN : KND (T9.2.1 0) T9.1 0 = KND (W7.2.1 0) W7.1 0 := by
              rw [e210]
              exact KND_f (fun i hi => (hf9.1 (0 + i) (by simp; omega)).trans (hf8.1 (0 + i) (by simp; omega)))
            have hL9 : ∀ k, 0 ≤ k → k < 1728 → T9.2.1 20 k = r_i (DRK (KND (T9.2.1 0) T9.1 0 (k % 12) (k / 12 % 12) (k / 144))) (10 * T9.2.1 21 (k / 144)) 0 := fun k k0 k1 => by
              have h := LAD_F (a := W7.2.1 0) (f := W7.1) (b := 0) (pz := W7.2.1 2) (th := W7.2.1 1) hrc ⟨k0, k1⟩
              rw [← hl] at h
              rw [hl9 k, h, eKN, e2121, (hth7 (k / 144) (by omega)).2]
            have h09 : T9.2.2.1 0 = suml (T9.2.1 20) 1728 := by
              rw [hf9.2.2.1 0 (by decide), hc8.2.2.2, amn_s hO8 hP8.1 l.length, show T9.2.1 20 = LAD l (W7.2.1 1) l.length from funext hl9]
            have hLaid := sp_L_isLaid (c := 33) (w := 35031) hT9 hI9 hk9 (fun z hz => by rw [e2121]; exact (hth7 z hz).1) hL9 hs9 h09
            refine r_sretG (r_K1 (r_Dand (r_Dzn (r_callG (r_cons (r_loc rfl rfl) (r_cons (r_loc rfl rfl) (r_cons (r_loc rfl rfl) r_nil))) rfl hK_prints rfl) (by first | omega | assumption | exact r_zrg _ | exact CEL_r xs Ln (by omega) | exact SHR_r _ _ | (constructor <;> omega))) (by first | omega | assumption | exact r_zrg _ | exact CEL_r xs Ln (by omega) | exact SHR_r _ _ | (constructor <;> omega)) (r_z_ne (r_call (r_cons (r_loc rfl rfl) (r_cons (r_loc rfl rfl) r_nil)) rfl hLaid rfl) (by first | omega | assumption | exact r_zrg _ | exact CEL_r xs Ln (by omega) | exact SHR_r _ _ | (constructor <;> omega)))) (by first | omega | assumption | exact r_zrg _ | exact CEL_r xs Ln (by omega) | exact SHR_r _ _ | (constructor <;> omega))) ?_
            exact ⟨rfl, by show 33 ≤ 114; omega, by show 35031 ≤ 35645; omega⟩
        ·
          have hk4 := hp4
          obtain ⟨b1, b2, b3, b4⟩ := id hB
          have c0 := CEL_r xs Ln (k := 4 + k) (by omega)
          have r3 := SHR_r (CEL xs Ln (4 + k)) 3
          have hSA : r_ok (q_sA S 21 (q_up (S.2.1 21) k (1 + ((CEL xs Ln (4 + k)) % 2147483648 % 3)))) := r_okA b1 (r_oku (b1.2 21) (by omega))
          refine r_seq ?_
          refine r_sput3 (r_loc rfl rfl) (r_loc rfl rfl) (r_add (r_lit ql_1) (r_call (r_cons (r_call (r_cons (r_loc rfl rfl) (r_cons (r_add (r_lit ql_4) (r_loc rfl rfl)) r_nil)) rfl (sp_L_cell (by first | omega | assumption | exact r_zrg _ | exact CEL_r xs Ln (by omega) | exact SHR_r _ _ | (constructor <;> omega)) (by first | omega | assumption | exact r_zrg _ | exact CEL_r xs Ln (by omega) | exact SHR_r _ _ | (constructor <;> omega))) rfl) (r_cons (r_lit ql_3) r_nil)) rfl (sp_L_low (by first | omega | assumption | exact r_zrg _ | exact CEL_r xs Ln (by omega) | exact SHR_r _ _ | (constructor <;> omega)) (by first | omega | assumption | exact r_zrg _ | exact CEL_r xs Ln (by omega) | exact SHR_r _ _ | (constructor <;> omega))) rfl)) (r_putI ga_Law_thick gs_Law_thick (by first | omega | assumption | exact r_zrg _ | exact CEL_r xs Ln (by omega) | exact SHR_r _ _ | (constructor <;> omega)) (by first | omega | assumption | exact r_zrg _ | exact CEL_r xs Ln (by omega) | exact SHR_r _ _ | (constructor <;> omega)) (by decide) q_narI) ?_
          refine r_k0 ?_
          refine r_seq ?_
          have hv1 : (q_sA S 21 (q_up (S.2.1 21) k (1 + ((CEL xs Ln (4 + k)) % 2147483648 % 3)))).2.1 21 k = (1 + ((CEL xs Ln (4 + k)) % 2147483648 % 3)) := by
            show q_up (S.2.1 21) k (1 + ((CEL xs Ln (4 + k)) % 2147483648 % 3)) k = (1 + ((CEL xs Ln (4 + k)) % 2147483648 % 3))
            unfold q_up; rw [if_pos rfl]
          have hK_thick := sx_X9_setThickness (c := 32) (w := 35025) hSA (z := k) (v := (q_sA S 21 (q_up (S.2.1 21) k (1 + ((CEL xs Ln (4 + k)) % 2147483648 % 3)))).2.1 21 k) (by omega) (by rw [hv1]; omega)
          refine r_slocG (L2 := [_, _, _, _, _, _, _, _, _, _]) (r_callG (r_cons (r_loc rfl rfl) (r_cons (r_loc rfl rfl) (r_cons (r_aget ga_Law_thick (r_loc rfl rfl) (r_loc rfl rfl) (by first | omega | assumption | exact r_zrg _ | exact CEL_r xs Ln (by omega) | exact SHR_r _ _ | (constructor <;> omega)) (by first | omega | assumption | exact r_zrg _ | exact CEL_r xs Ln (by omega) | exact SHR_r _ _ | (constructor <;> omega)) (by decide)) r_nil))) rfl hK_thick rfl) rfl rfl ?_
          refine r_k0 ?_
          refine r_seq ?_
          have hSB : r_ok (q_sA (q_sA S 21 (q_up (S.2.1 21) k (1 + ((CEL xs Ln (4 + k)) % 2147483648 % 3)))) 1 (q_up ((q_sA S 21 (q_up (S.2.1 21) k (1 + ((CEL xs Ln (4 + k)) % 2147483648 % 3)))).2.1 1) k ((q_sA S 21 (q_up (S.2.1 21) k (1 + ((CEL xs Ln (4 + k)) % 2147483648 % 3)))).2.1 21 k))) := r_okA hSA (r_oku (hSA.2 1) (by rw [hv1]; omega))
          have rS1 := hSA.2 1 k
          have hK_pause := sx_X9_setPause (c := 32) (w := 35025) (p := (((SHR (CEL xs Ln (4 + k)) 3) % 2147483648 % 5) = 0)) hSB (z := k) (by omega)
          have hche : ch + (r_i ((q_sA S 21 (q_up (S.2.1 21) k (1 + ((CEL xs Ln (4 + k)) % 2147483648 % 3)))).2.1 1 k = 1 ∧ ¬ ¬ r_z (¬ (q_sA (q_sA S 21 (q_up (S.2.1 21) k (1 + ((CEL xs Ln (4 + k)) % 2147483648 % 3)))) 1 (q_up ((q_sA S 21 (q_up (S.2.1 21) k (1 + ((CEL xs Ln (4 + k)) % 2147483648 % 3)))).2.1 1) k ((q_sA S 21 (q_up (S.2.1 21) k (1 + ((CEL xs Ln (4 + k)) % 2147483648 % 3)))).2.1 21 k))).2.1 2 k = 0) = 0) 0 9000) = ch := by
            have q := b4 k (Int.le_refl k) (by omega)
            rw [r_i1, Int.add_zero]
            refine ⟨q.1, fun d => d ?_⟩
            exact r_z0 (fun d2 => d2 q.2)
          refine r_slocG (L2 := [_, _, _, _, _, _, _, _, _, _]) (r_callG (r_cons (r_loc rfl rfl) (r_cons (r_loc rfl rfl) (r_cons (r_if10 (r_z_eq (r_call (r_cons (r_shr (r_call (r_cons (r_loc rfl rfl) (r_cons (r_add (r_lit ql_4) (r_loc rfl rfl)) r_nil)) rfl (sp_L_cell (by first | omega | assumption | exact r_zrg _ | exact CEL_r xs Ln (by omega) | exact SHR_r _ _ | (constructor <;> omega)) (by first | omega | assumption | exact r_zrg _ | exact CEL_r xs Ln (by omega) | exact SHR_r _ _ | (constructor <;> omega))) rfl) (r_lit ql_3)) (r_cons (r_lit ql_5) r_nil)) rfl (sp_L_low (by first | omega | assumption | exact r_zrg _ | exact CEL_r xs Ln (by omega) | exact SHR_r _ _ | (constructor <;> omega)) (by first | omega | assumption | exact r_zrg _ | exact CEL_r xs Ln (by omega) | exact SHR_r _ _ | (constructor <;> omega))) rfl) (by first | omega | assumption | exact r_zrg _ | exact CEL_r xs Ln (by omega) | exact SHR_r _ _ | (constructor <;> omega)))) r_nil))) rfl hK_pause rfl) rfl rfl ?_
          refine r_k0 ?_
          refine r_sloc (L2 := [_, _, _, _, _, _, _, _, _, _]) (r_add (r_loc rfl rfl) (r_if (r_and (r_eq (r_loc rfl rfl) (r_lit ql_1) (by first | omega | assumption | exact r_zrg _ | exact CEL_r xs Ln (by omega) | exact SHR_r _ _ | (constructor <;> omega)) (by first | omega | assumption | exact r_zrg _ | exact CEL_r xs Ln (by omega) | exact SHR_r _ _ | (constructor <;> omega))) (fun hp13 => (r_not (r_z_ne (r_loc rfl rfl) (by first | omega | assumption | exact r_zrg _ | exact CEL_r xs Ln (by omega) | exact SHR_r _ _ | (constructor <;> omega)))))) (fun hp14 => (r_lit ql_0)) (fun hp15 => (r_lit ql_9000)))) rfl rfl ?_
          refine r_l0 ?_
          refine r_sinc (L2 := [_, _, _, _, _, _, _, _, _, _]) rfl rfl ?_
          refine r_lend (k + 1, (q_sA (q_sA (q_sA S 21 (q_up (S.2.1 21) k (1 + ((CEL xs Ln (4 + k)) % 2147483648 % 3)))) 1 (q_up ((q_sA S 21 (q_up (S.2.1 21) k (1 + ((CEL xs Ln (4 + k)) % 2147483648 % 3)))).2.1 1) k ((q_sA S 21 (q_up (S.2.1 21) k (1 + ((CEL xs Ln (4 + k)) % 2147483648 % 3)))).2.1 21 k))) 2 (q_up ((q_sA (q_sA S 21 (q_up (S.2.1 21) k (1 + ((CEL xs Ln (4 + k)) % 2147483648 % 3)))) 1 (q_up ((q_sA S 21 (q_up (S.2.1 21) k (1 + ((CEL xs Ln (4 + k)) % 2147483648 % 3)))).2.1 1) k ((q_sA S 21 (q_up (S.2.1 21) k (1 + ((CEL xs Ln (4 + k)) % 2147483648 % 3)))).2.1 21 k))).2.1 2) k (r_z (((SHR (CEL xs Ln (4 + k)) 3) % 2147483648 % 5) = 0)))), some (iv ((q_sA S 21 (q_up (S.2.1 21) k (1 + ((CEL xs Ln (4 + k)) % 2147483648 % 3)))).2.1 1 k)), some (iv (r_z (¬ (q_sA (q_sA S 21 (q_up (S.2.1 21) k (1 + ((CEL xs Ln (4 + k)) % 2147483648 % 3)))) 1 (q_up ((q_sA S 21 (q_up (S.2.1 21) k (1 + ((CEL xs Ln (4 + k)) % 2147483648 % 3)))).2.1 1) k ((q_sA S 21 (q_up (S.2.1 21) k (1 + ((CEL xs Ln (4 + k)) % 2147483648 % 3)))).2.1 21 k))).2.1 2 k = 0)))) (congrArg (fun v : Int => ([some (.ref 0), some (.ref 16), some (.ref 47), some (iv v), some (iv (k + 1)), some (iv ((q_sA S 21 (q_up (S.2.1 21) k (1 + ((CEL xs Ln (4 + k)) % 2147483648 % 3)))).2.1 1 k)), some (iv (r_z (¬ (q_sA (q_sA S 21 (q_up (S.2.1 21) k (1 + ((CEL xs Ln (4 + k)) % 2147483648 % 3)))) 1 (q_up ((q_sA S 21 (q_up (S.2.1 21) k (1 + ((CEL xs Ln (4 + k)) % 2147483648 % 3)))).2.1 1) k ((q_sA S 21 (q_up (S.2.1 21) k (1 + ((CEL xs Ln (4 + k)) % 2147483648 % 3)))).2.1 21 k))).2.1 2 k = 0))), p7, none, none] : qL)) hche) rfl ?_ (by first | omega | (dsimp only; omega))
          try dsimp only
          exact ⟨by omega, B2_s (p := (((SHR (CEL xs Ln (4 + k)) 3) % 2147483648 % 5) = 0)) hB hk.1 (by omega) hv1⟩
    ·
      have hk4 := hp2
      obtain ⟨a1, a2, a3, a4, a5, a6⟩ := id hB
      have c0 := CEL_r xs Ln (k := k) (by omega)
      have r4 := SHR_r (CEL xs Ln k) 4; have r8 := SHR_r (CEL xs Ln k) 8; have r12 := SHR_r (CEL xs Ln k) 12
      have r16 := SHR_r (CEL xs Ln k) 16; have r20 := SHR_r (CEL xs Ln k) 20; have r24 := SHR_r (CEL xs Ln k) 24
      have bx : 0 ≤ ((CEL xs Ln k) % 2147483648 % 9) ∧ ((CEL xs Ln k) % 2147483648 % 9) < 9 := by omega
      have by_ : 0 ≤ ((SHR (CEL xs Ln k) 4) % 2147483648 % 9) ∧ ((SHR (CEL xs Ln k) 4) % 2147483648 % 9) < 9 := by omega
      have bnx : 1 ≤ (r_i (5 < 12 - ((CEL xs Ln k) % 2147483648 % 9)) 5 (12 - ((CEL xs Ln k) % 2147483648 % 9))) ∧ (r_i (5 < 12 - ((CEL xs Ln k) % 2147483648 % 9)) 5 (12 - ((CEL xs Ln k) % 2147483648 % 9))) ≤ 5 ∧ (r_i (5 < 12 - ((CEL xs Ln k) % 2147483648 % 9)) 5 (12 - ((CEL xs Ln k) % 2147483648 % 9))) ≤ 12 - ((CEL xs Ln k) % 2147483648 % 9) := by unfold r_i; split <;> omega
      have bny : 1 ≤ (r_i (5 < 12 - ((SHR (CEL xs Ln k) 4) % 2147483648 % 9)) 5 (12 - ((SHR (CEL xs Ln k) 4) % 2147483648 % 9))) ∧ (r_i (5 < 12 - ((SHR (CEL xs Ln k) 4) % 2147483648 % 9)) 5 (12 - ((SHR (CEL xs Ln k) 4) % 2147483648 % 9))) ≤ 5 ∧ (r_i (5 < 12 - ((SHR (CEL xs Ln k) 4) % 2147483648 % 9)) 5 (12 - ((SHR (CEL xs Ln k) 4) % 2147483648 % 9))) ≤ 12 - ((SHR (CEL xs Ln k) 4) % 2147483648 % 9) := by unfold r_i; split <;> omega
      have e1 := Int.emod_nonneg ((SHR (CEL xs Ln k) 12) % 2147483648) (b := (r_i (5 < 12 - ((CEL xs Ln k) % 2147483648 % 9)) 5 (12 - ((CEL xs Ln k) % 2147483648 % 9)))) (by omega); have e2 := Int.emod_lt_of_pos ((SHR (CEL xs Ln k) 12) % 2147483648) (b := (r_i (5 < 12 - ((CEL xs Ln k) % 2147483648 % 9)) 5 (12 - ((CEL xs Ln k) % 2147483648 % 9)))) (by omega)
      have e3 := Int.emod_nonneg ((SHR (CEL xs Ln k) 16) % 2147483648) (b := (r_i (5 < 12 - ((SHR (CEL xs Ln k) 4) % 2147483648 % 9)) 5 (12 - ((SHR (CEL xs Ln k) 4) % 2147483648 % 9)))) (by omega); have e4 := Int.emod_lt_of_pos ((SHR (CEL xs Ln k) 16) % 2147483648) (b := (r_i (5 < 12 - ((SHR (CEL xs Ln k) 4) % 2147483648 % 9)) 5 (12 - ((SHR (CEL xs Ln k) 4) % 2147483648 % 9)))) (by omega)
      refine r_seq ?_
      refine r_sloc (L2 := [_, _, _, _, _, _, _, _, _, _]) (r_call (r_cons (r_loc rfl rfl) (r_cons (r_loc rfl rfl) r_nil)) rfl (sp_L_cell (by first | omega | assumption | exact r_zrg _ | exact CEL_r xs Ln (by omega) | exact SHR_r _ _ | (constructor <;> omega)) (by first | omega | assumption | exact r_zrg _ | exact CEL_r xs Ln (by omega) | exact SHR_r _ _ | (constructor <;> omega))) rfl) rfl rfl ?_
      refine r_k0 ?_
      refine r_seq ?_
      refine r_sloc (L2 := [_, _, _, _, _, _, _, _, _, _]) (r_call (r_cons (r_loc rfl rfl) (r_cons (r_lit ql_9) r_nil)) rfl (sp_L_low (by first | omega | assumption | exact r_zrg _ | exact CEL_r xs Ln (by omega) | exact SHR_r _ _ | (constructor <;> omega)) (by first | omega | assumption | exact r_zrg _ | exact CEL_r xs Ln (by omega) | exact SHR_r _ _ | (constructor <;> omega))) rfl) rfl rfl ?_
      refine r_k0 ?_
      refine r_seq ?_
      refine r_sloc (L2 := [_, _, _, _, _, _, _, _, _, _]) (r_call (r_cons (r_shr (r_loc rfl rfl) (r_lit ql_4)) (r_cons (r_lit ql_9) r_nil)) rfl (sp_L_low (by first | omega | assumption | exact r_zrg _ | exact CEL_r xs Ln (by omega) | exact SHR_r _ _ | (constructor <;> omega)) (by first | omega | assumption | exact r_zrg _ | exact CEL_r xs Ln (by omega) | exact SHR_r _ _ | (constructor <;> omega))) rfl) rfl rfl ?_
      refine r_k0 ?_
      obtain ⟨_, _, hK_box, n, g4, g, rfl, rfl, hr4, hz4, hBI⟩ := sx_X9_box (c := 32) (w := 35025) (p := (k = 0 ∨ 0 < ((SHR (CEL xs Ln k) 24) % 2147483648 % 4))) (x := ((CEL xs Ln k) % 2147483648 % 9)) (y := ((SHR (CEL xs Ln k) 4) % 2147483648 % 9)) (z := ((SHR (CEL xs Ln k) 8) % 2147483648 % 4)) (dx := (1 + ((SHR (CEL xs Ln k) 12) % 2147483648 % (r_i (5 < 12 - ((CEL xs Ln k) % 2147483648 % 9)) 5 (12 - ((CEL xs Ln k) % 2147483648 % 9)))))) (dy := (1 + ((SHR (CEL xs Ln k) 16) % 2147483648 % (r_i (5 < 12 - ((SHR (CEL xs Ln k) 4) % 2147483648 % 9)) 5 (12 - ((SHR (CEL xs Ln k) 4) % 2147483648 % 9)))))) (dz := (1 + ((SHR (CEL xs Ln k) 20) % 2147483648 % 3))) a1 a2 (by omega) (by omega) (by omega)
      have hK_box : r_G f_X9_box [.ref 16, iv ((CEL xs Ln k) % 2147483648 % 9), iv ((SHR (CEL xs Ln k) 4) % 2147483648 % 9), iv ((SHR (CEL xs Ln k) 8) % 2147483648 % 4), iv (1 + ((SHR (CEL xs Ln k) 12) % 2147483648 % (r_i (5 < 12 - ((CEL xs Ln k) % 2147483648 % 9)) 5 (12 - ((CEL xs Ln k) % 2147483648 % 9))))), iv (1 + ((SHR (CEL xs Ln k) 16) % 2147483648 % (r_i (5 < 12 - ((SHR (CEL xs Ln k) 4) % 2147483648 % 9)) 5 (12 - ((SHR (CEL xs Ln k) 4) % 2147483648 % 9))))), iv (1 + ((SHR (CEL xs Ln k) 20) % 2147483648 % 3)), r_b (k = 0 ∨ 0 < ((SHR (CEL xs Ln k) 24) % 2147483648 % 4))] (q_en S1, 32, 35025) (iv n) (q_en (q_sA (q_sA S1 4 g4) 0 g), 32, 35025) := hK_box
      refine r_slocG (L2 := [_, _, _, _, _, _, _, _, _, _]) (r_Kadd (r_loc rfl rfl) (r_callG (r_cons (r_loc rfl rfl) (r_cons (r_loc rfl rfl) (r_cons (r_loc rfl rfl) (r_cons (r_call (r_cons (r_shr (r_loc rfl rfl) (r_lit ql_8)) (r_cons (r_lit ql_4) r_nil)) rfl (sp_L_low (by first | omega | assumption | exact r_zrg _ | exact CEL_r xs Ln (by omega) | exact SHR_r _ _ | (constructor <;> omega)) (by first | omega | assumption | exact r_zrg _ | exact CEL_r xs Ln (by omega) | exact SHR_r _ _ | (constructor <;> omega))) rfl) (r_cons (r_add (r_lit ql_1) (r_call (r_cons (r_shr (r_loc rfl rfl) (r_lit ql_12)) (r_cons (r_if (r_gt (r_sub (r_lit ql_12) (r_loc rfl rfl)) (r_lit ql_5) (by first | omega | assumption | exact r_zrg _ | exact CEL_r xs Ln (by omega) | exact SHR_r _ _ | (constructor <;> omega)) (by first | omega | assumption | exact r_zrg _ | exact CEL_r xs Ln (by omega) | exact SHR_r _ _ | (constructor <;> omega))) (fun hp16 => (r_lit ql_5)) (fun hp17 => (r_sub (r_lit ql_12) (r_loc rfl rfl)))) r_nil)) rfl (sp_L_low (by first | omega | assumption | exact r_zrg _ | exact CEL_r xs Ln (by omega) | exact SHR_r _ _ | (constructor <;> omega)) (by first | omega | assumption | exact r_zrg _ | exact CEL_r xs Ln (by omega) | exact SHR_r _ _ | (constructor <;> omega))) rfl)) (r_cons (r_add (r_lit ql_1) (r_call (r_cons (r_shr (r_loc rfl rfl) (r_lit ql_16)) (r_cons (r_if (r_gt (r_sub (r_lit ql_12) (r_loc rfl rfl)) (r_lit ql_5) (by first | omega | assumption | exact r_zrg _ | exact CEL_r xs Ln (by omega) | exact SHR_r _ _ | (constructor <;> omega)) (by first | omega | assumption | exact r_zrg _ | exact CEL_r xs Ln (by omega) | exact SHR_r _ _ | (constructor <;> omega))) (fun hp18 => (r_lit ql_5)) (fun hp19 => (r_sub (r_lit ql_12) (r_loc rfl rfl)))) r_nil)) rfl (sp_L_low (by first | omega | assumption | exact r_zrg _ | exact CEL_r xs Ln (by omega) | exact SHR_r _ _ | (constructor <;> omega)) (by first | omega | assumption | exact r_zrg _ | exact CEL_r xs Ln (by omega) | exact SHR_r _ _ | (constructor <;> omega))) rfl)) (r_cons (r_add (r_lit ql_1) (r_call (r_cons (r_shr (r_loc rfl rfl) (r_lit ql_20)) (r_cons (r_lit ql_3) r_nil)) rfl (sp_L_low (by first | omega | assumption | exact r_zrg _ | exact CEL_r xs Ln (by omega) | exact SHR_r _ _ | (constructor <;> omega)) (by first | omega | assumption | exact r_zrg _ | exact CEL_r xs Ln (by omega) | exact SHR_r _ _ | (constructor <;> omega))) rfl)) (r_cons (r_if10 (r_or (r_z_eq (r_loc rfl rfl) (by first | omega | assumption | exact r_zrg _ | exact CEL_r xs Ln (by omega) | exact SHR_r _ _ | (constructor <;> omega))) (fun hp20 => (r_z_gt (r_call (r_cons (r_shr (r_loc rfl rfl) (r_lit ql_24)) (r_cons (r_lit ql_4) r_nil)) rfl (sp_L_low (by first | omega | assumption | exact r_zrg _ | exact CEL_r xs Ln (by omega) | exact SHR_r _ _ | (constructor <;> omega)) (by first | omega | assumption | exact r_zrg _ | exact CEL_r xs Ln (by omega) | exact SHR_r _ _ | (constructor <;> omega))) rfl) (by first | omega | assumption | exact r_zrg _ | exact CEL_r xs Ln (by omega) | exact SHR_r _ _ | (constructor <;> omega)))))) r_nil)))))))) rfl hK_box rfl)) rfl rfl ?_
      refine r_l0 ?_
      refine r_sinc (L2 := [_, _, _, _, _, _, _, _, _, _]) rfl rfl ?_
      refine r_lend (k + 1, ch + n, q_sA (q_sA S1 4 g4) 0 g, some (iv (CEL xs Ln k)), some (iv ((CEL xs Ln k) % 2147483648 % 9)), some (iv ((SHR (CEL xs Ln k) 4) % 2147483648 % 9))) rfl rfl ?_ (by first | omega | (dsimp only; omega))
      try dsimp only
      exact ⟨by omega, B1_s hB hk.1 (by have := r_zd (k = 0 ∨ 0 < ((SHR (CEL xs Ln k) 24) % 2147483648 % 4)); omega) hBI hr4 hz4 (by omega) (by omega) (by omega) (by omega) (by omega)⟩
theorem q_pure {xs : Nat → Int32} {Ln : Nat} (hLn : Ln ≤ 260) : ∃ L' h', bL_law xs Ln (some (.ref 0) :: List.replicate 9 none) ([], 0, 0) = some ((4, .int 1), L', h') ∧ h'.2.1 ≤ 114 ∧ h'.2.2 ≤ 35645 := by
  have k : wS (bL_law xs Ln) (some (.ref 0) :: List.replicate 9 none) ([], 0, 0) (fun o L' h' => o = (4, iv 1) ∧ h'.2.1 ≤ 114 ∧ h'.2.2 ≤ 35645) := law_body hLn
  obtain ⟨o, L', h', e, rfl, hc, hw⟩ := k
  exact ⟨L', h', e, hc, hw⟩
