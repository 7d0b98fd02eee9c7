theorem sp_X3_findSupports {S : q_Sg} {c w : Nat} (hS : r_ok S) (hk : ∀ j, 0 ≤ S.2.1 3 j ∧ S.2.1 3 j < 65536) {z : Int} (hz : 0 ≤ z ∧ z < 12) : r_X f_X3_findSupports [.ref 22, iv z] (q_en S, c, w) (fun _ h2 => ∃ g, h2 = (q_en (q_sA S 3 g), c, w) ∧ (∀ u v, (0 ≤ u ∧ u < 12) → (0 ≤ v ∧ v < 12) → g (144 * z + 12 * v + u) = r_i (¬ SOL (S.2.1 0) u v z ∧ HNG (S.2.1 0) u v (fst (fun k => SOL (S.2.1 0) u v k) (z + 1) 12) ∧ S.1 4 < fst (fun k => SOL (S.2.1 0) u v k) (z + 1) 12 - z) 115 (S.2.1 3 (144 * z + 12 * v + u))) ∧ (∀ j, (j < 144 * z ∨ 144 * z + 144 ≤ j) → g j = S.2.1 3 j) ∧ (∀ j, 0 ≤ g j ∧ g j < 65536)) := by
  refine r_Xof (r_run (L := [_, _, _, _]) ⟨rfl, Nat.le_of_ble_eq_true rfl⟩ rfl ?_)
  unfold b_X3_findSupports
  refine r_seq ?_
  refine r_seq ?_
  refine r_sloc (L2 := [_, _, _, _]) (r_lit ql_0) rfl rfl ?_
  refine r_k0 ?_
  refine r_loop (T := Int × (Int → Int) × Option Value) (fun (σ : Int × (Int → Int) × Option Value) => match σ with | (y, g, o) => (0 ≤ y ∧ y ≤ 12) ∧ (∀ u v, (0 ≤ u ∧ u < 12) → (0 ≤ v ∧ v < 12) → (12 * v + u < 12 * y → g (144 * z + 12 * v + u) = r_i (¬ SOL (S.2.1 0) u v z ∧ HNG (S.2.1 0) u v (fst (fun k => SOL (S.2.1 0) u v k) (z + 1) 12) ∧ S.1 4 < fst (fun k => SOL (S.2.1 0) u v k) (z + 1) 12 - z) 115 (S.2.1 3 (144 * z + 12 * v + u))) ∧ (¬ 12 * v + u < 12 * y → g (144 * z + 12 * v + u) = S.2.1 3 (144 * z + 12 * v + u))) ∧ (∀ j, (j < 144 * z ∨ 144 * z + 144 ≤ j) → g j = S.2.1 3 j) ∧ (∀ j, 0 ≤ g j ∧ g j < 65536)) (fun (σ : Int × (Int → Int) × Option Value) => match σ with | (y, g, o) => (12 - y).toNat) (fun (σ : Int × (Int → Int) × Option Value) => match σ with | (y, g, o) => [some (.ref 22), some (iv z), some (iv y), o]) (fun (σ : Int × (Int → Int) × Option Value) => match σ with | (y, g, o) => (q_en (q_sA S 3 g), c, w)) (0, S.2.1 3, _) rfl (by dsimp only; rw [q_sAs]) ?_ ?_ ?_
  · exact ⟨by omega, fun u v h0 h1 => ⟨fun d => by omega, fun _ => rfl⟩, fun _ _ => rfl, hk⟩
  · (show _ < 1000000); first | omega | (dsimp only; omega)
  · rintro ⟨y, g, o⟩ hP
    try dsimp only at hP ⊢
    obtain ⟨hy, hW, ho, hc⟩ := hP
    refine ⟨_, (r_lt (r_loc rfl rfl) (r_lit ql_12) (by first | omega | assumption | exact hS.1 _ | exact hS.2 _ _ | exact r_okA hS (fun j => ⟨by have := (hc j).1; omega, by have := (hc j).2; omega⟩) | exact (hc _).1 | exact (hc _).2) (by first | omega | assumption | exact hS.1 _ | exact hS.2 _ _ | exact r_okA hS (fun j => ⟨by have := (hc j).1; omega, by have := (hc j).2; omega⟩) | exact (hc _).1 | exact (hc _).2)), fun hp1 => ?_, fun hp2 => ?_⟩
    ·
      refine r_k0 ?_
      refine wS_retv ?_
      refine r_pretv r_le0 ?_
      exact ⟨_, rfl, g, rfl, fun u v u0 v0 => (hW u v u0 v0).1 (by omega), ho, hc⟩
    ·
      refine r_seq ?_
      refine r_sloc (L2 := [_, _, _, _]) (r_lit ql_0) rfl rfl ?_
      refine r_k0 ?_
      refine r_loop (T := Int × (Int → Int)) (fun (σ : Int × (Int → Int)) => match σ with | (x, g) => (0 ≤ x ∧ x ≤ 12) ∧ (∀ u v, (0 ≤ u ∧ u < 12) → (0 ≤ v ∧ v < 12) → (12 * v + u < 12 * y + x → g (144 * z + 12 * v + u) = r_i (¬ SOL (S.2.1 0) u v z ∧ HNG (S.2.1 0) u v (fst (fun k => SOL (S.2.1 0) u v k) (z + 1) 12) ∧ S.1 4 < fst (fun k => SOL (S.2.1 0) u v k) (z + 1) 12 - z) 115 (S.2.1 3 (144 * z + 12 * v + u))) ∧ (¬ 12 * v + u < 12 * y + x → g (144 * z + 12 * v + u) = S.2.1 3 (144 * z + 12 * v + u))) ∧ (∀ j, (j < 144 * z ∨ 144 * z + 144 ≤ j) → g j = S.2.1 3 j) ∧ (∀ j, 0 ≤ g j ∧ g j < 65536)) (fun (σ : Int × (Int → Int)) => match σ with | (x, g) => (12 - x).toNat) (fun (σ : Int × (Int → Int)) => match σ with | (x, g) => [some (.ref 22), some (iv z), some (iv y), some (iv x)]) (fun (σ : Int × (Int → Int)) => match σ with | (x, g) => (q_en (q_sA S 3 g), c, w)) (0, g) rfl rfl ?_ ?_ ?_
      · exact ⟨by omega, fun u v h0 h1 => by rw [Int.add_zero]; exact hW u v h0 h1, ho, hc⟩
      · (show _ < 1000000); first | omega | (dsimp only; omega)
      · rintro ⟨x, g⟩ hP
        try dsimp only at hP ⊢
        obtain ⟨hx, hW, ho, hc⟩ := hP
        refine ⟨_, (r_lt (r_loc rfl rfl) (r_lit ql_12) (by first | omega | assumption | exact hS.1 _ | exact hS.2 _ _ | exact r_okA hS (fun j => ⟨by have := (hc j).1; omega, by have := (hc j).2; omega⟩) | exact (hc _).1 | exact (hc _).2) (by first | omega | assumption | exact hS.1 _ | exact hS.2 _ _ | exact r_okA hS (fun j => ⟨by have := (hc j).1; omega, by have := (hc j).2; omega⟩) | exact (hc _).1 | exact (hc _).2)), fun hp3 => ?_, fun hp4 => ?_⟩
        ·
          refine r_l0 ?_
          refine r_sinc (L2 := [_, _, _, _]) rfl rfl ?_
          refine r_lend (y + 1, g, _) rfl rfl ?_ (by first | omega | (dsimp only; omega))
          try dsimp only
          exact ⟨by omega, fun u v h0 h1 => ⟨fun d => (hW u v h0 h1).1 (by omega), fun d => (hW u v h0 h1).2 (by omega)⟩, ho, hc⟩
        ·
          refine r_sif (r_and (r_not (r_bz (r_call (r_cons (r_fld (r_loc rfl rfl) gg_Kinds_body) (r_cons (r_loc rfl rfl) (r_cons (r_loc rfl rfl) (r_cons (r_loc rfl rfl) r_nil)))) rfl (sp_X0_isSolid (by first | omega | assumption | exact hS.1 _ | exact hS.2 _ _ | exact r_okA hS (fun j => ⟨by have := (hc j).1; omega, by have := (hc j).2; omega⟩) | exact (hc _).1 | exact (hc _).2) (by first | omega | assumption | exact hS.1 _ | exact hS.2 _ _ | exact r_okA hS (fun j => ⟨by have := (hc j).1; omega, by have := (hc j).2; omega⟩) | exact (hc _).1 | exact (hc _).2) (by first | omega | assumption | exact hS.1 _ | exact hS.2 _ _ | exact r_okA hS (fun j => ⟨by have := (hc j).1; omega, by have := (hc j).2; omega⟩) | exact (hc _).1 | exact (hc _).2) (by first | omega | assumption | exact hS.1 _ | exact hS.2 _ _ | exact r_okA hS (fun j => ⟨by have := (hc j).1; omega, by have := (hc j).2; omega⟩) | exact (hc _).1 | exact (hc _).2)) rfl))) (fun hp5 => (r_bz (r_call (r_cons (r_loc rfl rfl) (r_cons (r_loc rfl rfl) (r_cons (r_loc rfl rfl) (r_cons (r_loc rfl rfl) r_nil)))) rfl (sp_X3_isSupport (by first | omega | assumption | exact hS.1 _ | exact hS.2 _ _ | exact r_okA hS (fun j => ⟨by have := (hc j).1; omega, by have := (hc j).2; omega⟩) | exact (hc _).1 | exact (hc _).2) (by first | omega | assumption | exact hS.1 _ | exact hS.2 _ _ | exact r_okA hS (fun j => ⟨by have := (hc j).1; omega, by have := (hc j).2; omega⟩) | exact (hc _).1 | exact (hc _).2) (by first | omega | assumption | exact hS.1 _ | exact hS.2 _ _ | exact r_okA hS (fun j => ⟨by have := (hc j).1; omega, by have := (hc j).2; omega⟩) | exact (hc _).1 | exact (hc _).2) (by first | omega | assumption | exact hS.1 _ | exact hS.2 _ _ | exact r_okA hS (fun j => ⟨by have := (hc j).1; omega, by have := (hc j).2; omega⟩) | exact (hc _).1 | exact (hc _).2)) rfl)))) (fun hp6 => ?_) (fun hp7 => ?_)
          ·
            have hpT := hp6
            have hpT0 := hp6
            refine r_sput3 (r_fld (r_loc rfl rfl) gg_Kinds_kind) (r_call (r_cons (r_loc rfl rfl) (r_cons (r_loc rfl rfl) (r_cons (r_loc rfl rfl) r_nil))) rfl sp_X9_indexOf rfl) (r_lit ql_115) (r_putI ga_Kinds_kind gs_Kinds_kind (by first | omega | assumption | exact hS.1 _ | exact hS.2 _ _ | exact r_okA hS (fun j => ⟨by have := (hc j).1; omega, by have := (hc j).2; omega⟩) | exact (hc _).1 | exact (hc _).2) (by first | omega | assumption | exact hS.1 _ | exact hS.2 _ _ | exact r_okA hS (fun j => ⟨by have := (hc j).1; omega, by have := (hc j).2; omega⟩) | exact (hc _).1 | exact (hc _).2) (by decide) (q_narC (by first | omega | assumption | exact hS.1 _ | exact hS.2 _ _ | exact r_okA hS (fun j => ⟨by have := (hc j).1; omega, by have := (hc j).2; omega⟩) | exact (hc _).1 | exact (hc _).2) (by first | omega | assumption | exact hS.1 _ | exact hS.2 _ _ | exact r_okA hS (fun j => ⟨by have := (hc j).1; omega, by have := (hc j).2; omega⟩) | exact (hc _).1 | exact (hc _).2))) ?_
            refine r_l0 ?_
            refine r_sinc (L2 := [_, _, _, _]) rfl rfl ?_
            refine r_lend (x + 1, q_up g (144 * z + 12 * y + x) 115) rfl (by first | rfl | (rw [q_sAA]; rfl)) ?_ (by first | omega | (dsimp only; omega))
            try dsimp only
            refine ⟨by omega, fun u v u0 v0 => ?_, fun j hj => ?_, fun j => ?_⟩
            · unfold q_up
              by_cases e : 12 * v + u = 12 * y + x
              · rw [if_pos (by omega)]
                obtain ⟨rfl, rfl⟩ : u = x ∧ v = y := by omega
                exact ⟨fun _ => (r_i1 hpT).symm, fun d => by omega⟩
              · rw [if_neg (by omega)]
                exact ⟨fun d => (hW u v u0 v0).1 (by omega), fun d => (hW u v u0 v0).2 (by omega)⟩
            · unfold q_up; rw [if_neg (by omega)]; exact ho j hj
            · unfold q_up; split
              · omega
              · exact hc j
          ·
            have hpF := hp7
            have hpF0 := hp7
            refine wS_skip ?_
            refine r_l0 ?_
            refine r_sinc (L2 := [_, _, _, _]) rfl rfl ?_
            refine r_lend (x + 1, g) rfl (by first | rfl | (rw [q_sAA]; rfl)) ?_ (by first | omega | (dsimp only; omega))
            try dsimp only
            refine ⟨by omega, fun u v u0 v0 => ?_, ho, hc⟩
            by_cases e : 12 * v + u = 12 * y + x
            · obtain ⟨rfl, rfl⟩ : u = x ∧ v = y := by omega
              exact ⟨fun _ => ((hW u v u0 v0).2 (by omega)).trans (r_i0 hpF).symm, fun d => by omega⟩
            · exact ⟨fun d => (hW u v u0 v0).1 (by omega), fun d => (hW u v u0 v0).2 (by omega)⟩
theorem chr_rg {g : Int → Int} (h : ∀ j, 0 ≤ g j ∧ g j < 65536) : ∀ j, rg (g j) := fun j => by have := h j; omega
theorem KSO_r (a : Int → Int) (f : Nat → Int) (x y z : Int) (p : Prop) : 0 ≤ r_i p (KSO a f 0 x y z) 46 ∧ r_i p (KSO a f 0 x y z) 46 < 65536 := by
  have := KSO_b a f 0 x y z
  unfold r_i; split <;> omega
/-- a layer's kinds are found: the kept ones of the others stay -/
theorem KCI_n {S : q_Sg} (hI : KCI S) {z : Int} (hz : 0 ≤ z ∧ z < 12) {g1 g : Int → Int} (hg : ∀ u v, (0 ≤ u ∧ u < 12) → (0 ≤ v ∧ v < 12) → g (144 * z + 12 * v + u) = KND (S.2.1 0) S.1 0 u v z) (ho : (∀ j, (j < 144 * z ∨ 144 * z + 144 ≤ j) → g j = S.2.1 3 j)) (hc : (∀ j, 0 ≤ g j ∧ g j < 65536)) : KCI (q_sA (q_sA (q_sA S 5 g1) 3 g) 4 (q_up (S.2.1 4) z 1)) ∧ ¬ (q_sA (q_sA (q_sA S 5 g1) 3 g) 4 (q_up (S.2.1 4) z 1)).2.1 4 z = 0 := by
  refine ⟨⟨hc, fun t ht hk x y hx hy => ?_⟩, ?_⟩
  · have hk : ¬ q_up (S.2.1 4) z 1 t = 0 := hk
    show g (144 * t + 12 * y + x) = KND (S.2.1 0) S.1 0 x y t
    by_cases e : t = z
    · subst e; exact hg x y hx hy
    · rw [ho _ (by omega)]
      refine hI.2 t ht ?_ x y hx hy
      unfold q_up at hk; rw [if_neg e] at hk; exact hk
  · show ¬ q_up (S.2.1 4) z 1 z = 0
    unfold q_up; rw [if_pos rfl]; decide
theorem KND_s {a : Int → Int} {f : Nat → Int} {u v z : Int} (h : ¬ f 3 = 0) : r_i (¬ SOL a u v z ∧ HNG a u v (fst (fun k => SOL a u v k) (z + 1) 12) ∧ f 4 < fst (fun k => SOL a u v k) (z + 1) 12 - z) 115 (r_i (SOL a u v z) (KSO a f 0 u v z) 46) = KND a f 0 u v z := by
  unfold KND SUP
  by_cases c : SOL a u v z
  · rw [r_i0 (fun d => d.1 c), r_i1 c, r_i1 c]
  · rw [r_i0 c, r_i0 c]
    by_cases d : HNG a u v (fst (fun k => SOL a u v k) (z + 1) 12) ∧ f 4 < fst (fun k => SOL a u v k) (z + 1) 12 - z
    · rw [r_i1 ⟨c, d⟩, r_i1 ⟨h, d⟩]
    · rw [r_i0 (fun e => d e.2), r_i0 (fun e => d e.2)]
theorem KND_w {a : Int → Int} {f : Nat → Int} {u v z : Int} (h : f 3 = 0) : r_i (SOL a u v z) (KSO a f 0 u v z) 46 = KND a f 0 u v z := by
  unfold KND SUP
  by_cases c : SOL a u v z
  · rw [r_i1 c, r_i1 c]
  · rw [r_i0 c, r_i0 c, r_i0 (fun e => e.1 h)]
theorem sp_X3_findLayer {S : q_Sg} {c w : Nat} (hS : r_ok S) (hK : SOK S.1 0) (hI : KCI S) {z : Int} (hz : 0 ≤ z ∧ z < 12) : r_X f_X3_findLayer [.ref 22, iv z] (q_en S, c, w) (fun _ h2 => ∃ T, h2 = (q_en T, c, w) ∧ r_ok T ∧ r_fr [] [3, 4, 5] [] S T ∧ KCI T ∧ ¬ T.2.1 4 z = 0 ∧ (∀ t, ¬ S.2.1 4 t = 0 → ¬ T.2.1 4 t = 0)) := by
  refine r_Xof (r_run (L := [_, _, _, _]) ⟨rfl, Nat.le_of_ble_eq_true rfl⟩ rfl ?_)
  unfold b_X3_findLayer
  have hcc : ∀ j, rg (S.2.1 4 j) := hS.2 4
  refine r_seq ?_
  refine r_sif (r_or (r_not (r_bz (r_call (r_cons (r_loc rfl rfl) r_nil) rfl (sp_X9_isPlace (by first | omega | assumption | exact hS.1 _ | exact hS.2 _ _ | exact r_okA hS hr1 | exact r_okA (r_okA hS hr1) (fun j => ⟨by have := (hc j).1; omega, by have := (hc j).2; omega⟩) | exact (hc _).1 | exact (hc _).2 | exact hg1 _ _ (by omega) (by omega) | exact hc | exact hcc _ | exact (KSO_r _ _ _ _ _ _).1 | exact (KSO_r _ _ _ _ _ _).2)) rfl))) (fun hp1 => (r_z_ne (r_aget ga_Kinds_isKnown (r_fld (r_loc rfl rfl) gg_Kinds_isKnown) (r_loc rfl rfl) (by first | omega | assumption | exact hS.1 _ | exact hS.2 _ _ | exact r_okA hS hr1 | exact r_okA (r_okA hS hr1) (fun j => ⟨by have := (hc j).1; omega, by have := (hc j).2; omega⟩) | exact (hc _).1 | exact (hc _).2 | exact hg1 _ _ (by omega) (by omega) | exact hc | exact hcc _ | exact (KSO_r _ _ _ _ _ _).1 | exact (KSO_r _ _ _ _ _ _).2) (by first | omega | assumption | exact hS.1 _ | exact hS.2 _ _ | exact r_okA hS hr1 | exact r_okA (r_okA hS hr1) (fun j => ⟨by have := (hc j).1; omega, by have := (hc j).2; omega⟩) | exact (hc _).1 | exact (hc _).2 | exact hg1 _ _ (by omega) (by omega) | exact hc | exact hcc _ | exact (KSO_r _ _ _ _ _ _).1 | exact (KSO_r _ _ _ _ _ _).2) (by decide)) (by first | omega | assumption | exact hS.1 _ | exact hS.2 _ _ | exact r_okA hS hr1 | exact r_okA (r_okA hS hr1) (fun j => ⟨by have := (hc j).1; omega, by have := (hc j).2; omega⟩) | exact (hc _).1 | exact (hc _).2 | exact hg1 _ _ (by omega) (by omega) | exact hc | exact hcc _ | exact (KSO_r _ _ _ _ _ _).1 | exact (KSO_r _ _ _ _ _ _).2)))) (fun hp2 => ?_) (fun hp3 => ?_)
  ·
    refine wS_retv ?_
    refine r_ks (j := 2) ?_
    refine r_pretv r_le0 ?_
    exact ⟨_, rfl, S, rfl, hS, r_frm r_fr0 (by decide) (by decide) (by decide), hI, fun d => hp2.elim (fun k => k hz) (fun k => k d), fun _ k => k⟩
  ·
    refine wS_skip ?_
    refine r_k0 ?_
    refine r_seq ?_
    refine r_call0 (r_cons (r_loc rfl rfl) (r_cons (r_loc rfl rfl) r_nil)) rfl (sp_X3_findWalls (by first | omega | assumption | exact hS.1 _ | exact hS.2 _ _ | exact r_okA hS hr1 | exact r_okA (r_okA hS hr1) (fun j => ⟨by have := (hc j).1; omega, by have := (hc j).2; omega⟩) | exact (hc _).1 | exact (hc _).2 | exact hg1 _ _ (by omega) (by omega) | exact hc | exact hcc _ | exact (KSO_r _ _ _ _ _ _).1 | exact (KSO_r _ _ _ _ _ _).2) (by first | omega | assumption | exact hS.1 _ | exact hS.2 _ _ | exact r_okA hS hr1 | exact r_okA (r_okA hS hr1) (fun j => ⟨by have := (hc j).1; omega, by have := (hc j).2; omega⟩) | exact (hc _).1 | exact (hc _).2 | exact hg1 _ _ (by omega) (by omega) | exact hc | exact hcc _ | exact (KSO_r _ _ _ _ _ _).1 | exact (KSO_r _ _ _ _ _ _).2) (by first | omega | assumption | exact hS.1 _ | exact hS.2 _ _ | exact r_okA hS hr1 | exact r_okA (r_okA hS hr1) (fun j => ⟨by have := (hc j).1; omega, by have := (hc j).2; omega⟩) | exact (hc _).1 | exact (hc _).2 | exact hg1 _ _ (by omega) (by omega) | exact hc | exact hcc _ | exact (KSO_r _ _ _ _ _ _).1 | exact (KSO_r _ _ _ _ _ _).2)) ?_
    rintro _ _ ⟨g1, rfl, hg1, hr1⟩
    refine r_k0 ?_
    refine r_seq ?_
    refine r_seq ?_
    refine r_sloc (L2 := [_, _, _, _]) (r_lit ql_0) rfl rfl ?_
    refine r_k0 ?_
    refine r_loop (T := Int × (Int → Int) × Option Value) (fun (σ : Int × (Int → Int) × Option Value) => match σ with | (y, g, o) => (0 ≤ y ∧ y ≤ 12) ∧ (∀ u v, (0 ≤ u ∧ u < 12) → (0 ≤ v ∧ v < 12) → 12 * v + u < 12 * y → g (144 * z + 12 * v + u) = r_i (SOL (S.2.1 0) u v z) (KSO (S.2.1 0) S.1 0 u v z) 46) ∧ (∀ j, (j < 144 * z ∨ 144 * z + 144 ≤ j) → g j = S.2.1 3 j) ∧ (∀ j, 0 ≤ g j ∧ g j < 65536)) (fun (σ : Int × (Int → Int) × Option Value) => match σ with | (y, g, o) => (12 - y).toNat) (fun (σ : Int × (Int → Int) × Option Value) => match σ with | (y, g, o) => [some (.ref 22), some (iv z), some (iv y), o]) (fun (σ : Int × (Int → Int) × Option Value) => match σ with | (y, g, o) => (q_en (q_sA (q_sA S 5 g1) 3 g), c, w)) (0, S.2.1 3, _) rfl (by dsimp only; rw [show S.2.1 3 = (q_sA S 5 g1).2.1 3 from rfl, q_sAs]) ?_ ?_ ?_
    · exact ⟨by omega, fun u v h0 h1 d => by omega, fun _ _ => rfl, hI.1⟩
    · (show _ < 1000000); first | omega | (dsimp only; omega)
    · rintro ⟨y, g, o⟩ hP
      try dsimp only at hP ⊢
      obtain ⟨hy, hW, ho, hc⟩ := hP
      refine ⟨_, (r_lt (r_loc rfl rfl) (r_lit ql_12) (by first | omega | assumption | exact hS.1 _ | exact hS.2 _ _ | exact r_okA hS hr1 | exact r_okA (r_okA hS hr1) (fun j => ⟨by have := (hc j).1; omega, by have := (hc j).2; omega⟩) | exact (hc _).1 | exact (hc _).2 | exact hg1 _ _ (by omega) (by omega) | exact hc | exact hcc _ | exact (KSO_r _ _ _ _ _ _).1 | exact (KSO_r _ _ _ _ _ _).2) (by first | omega | assumption | exact hS.1 _ | exact hS.2 _ _ | exact r_okA hS hr1 | exact r_okA (r_okA hS hr1) (fun j => ⟨by have := (hc j).1; omega, by have := (hc j).2; omega⟩) | exact (hc _).1 | exact (hc _).2 | exact hg1 _ _ (by omega) (by omega) | exact hc | exact hcc _ | exact (KSO_r _ _ _ _ _ _).1 | exact (KSO_r _ _ _ _ _ _).2)), fun hp4 => ?_, fun hp5 => ?_⟩
      ·
        refine r_k0 ?_
        refine r_seq ?_
        refine r_sif (r_bz (r_call (r_cons (r_fld (r_loc rfl rfl) gg_Kinds_settings) r_nil) rfl (sp_X7_hasSupports (by first | omega | assumption | exact hS.1 _ | exact hS.2 _ _ | exact r_okA hS hr1 | exact r_okA (r_okA hS hr1) (fun j => ⟨by have := (hc j).1; omega, by have := (hc j).2; omega⟩) | exact (hc _).1 | exact (hc _).2 | exact hg1 _ _ (by omega) (by omega) | exact hc | exact hcc _ | exact (KSO_r _ _ _ _ _ _).1 | exact (KSO_r _ _ _ _ _ _).2)) rfl)) (fun hp6 => ?_) (fun hp7 => ?_)
        ·
          refine r_call0 (r_cons (r_loc rfl rfl) (r_cons (r_loc rfl rfl) r_nil)) rfl (sp_X3_findSupports (by first | omega | assumption | exact hS.1 _ | exact hS.2 _ _ | exact r_okA hS hr1 | exact r_okA (r_okA hS hr1) (fun j => ⟨by have := (hc j).1; omega, by have := (hc j).2; omega⟩) | exact (hc _).1 | exact (hc _).2 | exact hg1 _ _ (by omega) (by omega) | exact hc | exact hcc _ | exact (KSO_r _ _ _ _ _ _).1 | exact (KSO_r _ _ _ _ _ _).2) (by first | omega | assumption | exact hS.1 _ | exact hS.2 _ _ | exact r_okA hS hr1 | exact r_okA (r_okA hS hr1) (fun j => ⟨by have := (hc j).1; omega, by have := (hc j).2; omega⟩) | exact (hc _).1 | exact (hc _).2 | exact hg1 _ _ (by omega) (by omega) | exact hc | exact hcc _ | exact (KSO_r _ _ _ _ _ _).1 | exact (KSO_r _ _ _ _ _ _).2) (by first | omega | assumption | exact hS.1 _ | exact hS.2 _ _ | exact r_okA hS hr1 | exact r_okA (r_okA hS hr1) (fun j => ⟨by have := (hc j).1; omega, by have := (hc j).2; omega⟩) | exact (hc _).1 | exact (hc _).2 | exact hg1 _ _ (by omega) (by omega) | exact hc | exact hcc _ | exact (KSO_r _ _ _ _ _ _).1 | exact (KSO_r _ _ _ _ _ _).2)) ?_
          rintro _ _ ⟨g2, rfl, hg2, ho2, hc2⟩
          refine r_k0 ?_
          refine r_seq ?_
          refine r_sput3 (r_fld (r_loc rfl rfl) gg_Kinds_isKnown) (r_loc rfl rfl) (r_lit ql_1) (r_putI ga_Kinds_isKnown gs_Kinds_isKnown (by first | omega | assumption | exact hS.1 _ | exact hS.2 _ _ | exact r_okA hS hr1 | exact r_okA (r_okA hS hr1) (fun j => ⟨by have := (hc j).1; omega, by have := (hc j).2; omega⟩) | exact (hc _).1 | exact (hc _).2 | exact hg1 _ _ (by omega) (by omega) | exact hc | exact hcc _ | exact (KSO_r _ _ _ _ _ _).1 | exact (KSO_r _ _ _ _ _ _).2) (by first | omega | assumption | exact hS.1 _ | exact hS.2 _ _ | exact r_okA hS hr1 | exact r_okA (r_okA hS hr1) (fun j => ⟨by have := (hc j).1; omega, by have := (hc j).2; omega⟩) | exact (hc _).1 | exact (hc _).2 | exact hg1 _ _ (by omega) (by omega) | exact hc | exact hcc _ | exact (KSO_r _ _ _ _ _ _).1 | exact (KSO_r _ _ _ _ _ _).2) (by decide) (q_narZ (by first | omega | assumption | exact hS.1 _ | exact hS.2 _ _ | exact r_okA hS hr1 | exact r_okA (r_okA hS hr1) (fun j => ⟨by have := (hc j).1; omega, by have := (hc j).2; omega⟩) | exact (hc _).1 | exact (hc _).2 | exact hg1 _ _ (by omega) (by omega) | exact hc | exact hcc _ | exact (KSO_r _ _ _ _ _ _).1 | exact (KSO_r _ _ _ _ _ _).2) (by first | omega | assumption | exact hS.1 _ | exact hS.2 _ _ | exact r_okA hS hr1 | exact r_okA (r_okA hS hr1) (fun j => ⟨by have := (hc j).1; omega, by have := (hc j).2; omega⟩) | exact (hc _).1 | exact (hc _).2 | exact hg1 _ _ (by omega) (by omega) | exact hc | exact hcc _ | exact (KSO_r _ _ _ _ _ _).1 | exact (KSO_r _ _ _ _ _ _).2))) ?_
          refine r_k0 ?_
          refine wS_retv ?_
          refine r_pretv r_le0 ?_
          have hsup : ¬ S.1 3 = 0 := by assumption
          have hk := KCI_n hI hz (g1 := g1) (g := g2) (fun u v u0 v0 => ((hg2 u v u0 v0).trans (by show r_i _ 115 (g _) = _; rw [hW u v u0 v0 (by omega)]; rfl)).trans (KND_s hsup)) (fun j hj => (ho2 j hj).trans (ho j hj)) hc2
          refine ⟨_, rfl, q_sA (q_sA (q_sA S 5 g1) 3 g2) 4 (q_up (S.2.1 4) z 1), by rw [q_sAA]; rfl, r_okA (r_okA (r_okA hS hr1) (chr_rg hc2)) (r_oku (hS.2 4) (by omega)), r_frm (r_frA (r_frA (r_frA r_fr0))) (by decide) (by decide) (by decide), hk.1, hk.2, fun t ht => ?_⟩
          show ¬ q_up (S.2.1 4) z 1 t = 0
          unfold q_up; split
          · decide
          · exact ht
        ·
          refine wS_skip ?_
          refine r_k0 ?_
          refine r_seq ?_
          refine r_sput3 (r_fld (r_loc rfl rfl) gg_Kinds_isKnown) (r_loc rfl rfl) (r_lit ql_1) (r_putI ga_Kinds_isKnown gs_Kinds_isKnown (by first | omega | assumption | exact hS.1 _ | exact hS.2 _ _ | exact r_okA hS hr1 | exact r_okA (r_okA hS hr1) (fun j => ⟨by have := (hc j).1; omega, by have := (hc j).2; omega⟩) | exact (hc _).1 | exact (hc _).2 | exact hg1 _ _ (by omega) (by omega) | exact hc | exact hcc _ | exact (KSO_r _ _ _ _ _ _).1 | exact (KSO_r _ _ _ _ _ _).2) (by first | omega | assumption | exact hS.1 _ | exact hS.2 _ _ | exact r_okA hS hr1 | exact r_okA (r_okA hS hr1) (fun j => ⟨by have := (hc j).1; omega, by have := (hc j).2; omega⟩) | exact (hc _).1 | exact (hc _).2 | exact hg1 _ _ (by omega) (by omega) | exact hc | exact hcc _ | exact (KSO_r _ _ _ _ _ _).1 | exact (KSO_r _ _ _ _ _ _).2) (by decide) (q_narZ (by first | omega | assumption | exact hS.1 _ | exact hS.2 _ _ | exact r_okA hS hr1 | exact r_okA (r_okA hS hr1) (fun j => ⟨by have := (hc j).1; omega, by have := (hc j).2; omega⟩) | exact (hc _).1 | exact (hc _).2 | exact hg1 _ _ (by omega) (by omega) | exact hc | exact hcc _ | exact (KSO_r _ _ _ _ _ _).1 | exact (KSO_r _ _ _ _ _ _).2) (by first | omega | assumption | exact hS.1 _ | exact hS.2 _ _ | exact r_okA hS hr1 | exact r_okA (r_okA hS hr1) (fun j => ⟨by have := (hc j).1; omega, by have := (hc j).2; omega⟩) | exact (hc _).1 | exact (hc _).2 | exact hg1 _ _ (by omega) (by omega) | exact hc | exact hcc _ | exact (KSO_r _ _ _ _ _ _).1 | exact (KSO_r _ _ _ _ _ _).2))) ?_
          refine r_k0 ?_
          refine wS_retv ?_
          refine r_pretv r_le0 ?_
          have hsup : S.1 3 = 0 := Classical.not_not.mp (by assumption)
          have hk := KCI_n hI hz (g1 := g1) (g := g) (fun u v u0 v0 => (hW u v u0 v0 (by omega)).trans (KND_w hsup)) ho hc
          refine ⟨_, rfl, q_sA (q_sA (q_sA S 5 g1) 3 g) 4 (q_up (S.2.1 4) z 1), rfl, r_okA (r_okA (r_okA hS hr1) (chr_rg hc)) (r_oku (hS.2 4) (by omega)), r_frm (r_frA (r_frA (r_frA r_fr0))) (by decide) (by decide) (by decide), hk.1, hk.2, fun t ht => ?_⟩
          show ¬ q_up (S.2.1 4) z 1 t = 0
          unfold q_up; split
          · decide
          · exact ht
      ·
        refine r_seq ?_
        refine r_sloc (L2 := [_, _, _, _]) (r_lit ql_0) rfl rfl ?_
        refine r_k0 ?_
        refine r_loop (T := Int × (Int → Int)) (fun (σ : Int × (Int → Int)) => match σ with | (x, g) => (0 ≤ x ∧ x ≤ 12) ∧ (∀ u v, (0 ≤ u ∧ u < 12) → (0 ≤ v ∧ v < 12) → 12 * v + u < 12 * y + x → g (144 * z + 12 * v + u) = r_i (SOL (S.2.1 0) u v z) (KSO (S.2.1 0) S.1 0 u v z) 46) ∧ (∀ j, (j < 144 * z ∨ 144 * z + 144 ≤ j) → g j = S.2.1 3 j) ∧ (∀ j, 0 ≤ g j ∧ g j < 65536)) (fun (σ : Int × (Int → Int)) => match σ with | (x, g) => (12 - x).toNat) (fun (σ : Int × (Int → Int)) => match σ with | (x, g) => [some (.ref 22), some (iv z), some (iv y), some (iv x)]) (fun (σ : Int × (Int → Int)) => match σ with | (x, g) => (q_en (q_sA (q_sA S 5 g1) 3 g), c, w)) (0, g) rfl rfl ?_ ?_ ?_
        · exact ⟨by omega, fun u v h0 h1 => by rw [Int.add_zero]; exact hW u v h0 h1, ho, hc⟩
        · (show _ < 1000000); first | omega | (dsimp only; omega)
        · rintro ⟨x, g⟩ hP
          try dsimp only at hP ⊢
          obtain ⟨hx, hW, ho, hc⟩ := hP
          refine ⟨_, (r_lt (r_loc rfl rfl) (r_lit ql_12) (by first | omega | assumption | exact hS.1 _ | exact hS.2 _ _ | exact r_okA hS hr1 | exact r_okA (r_okA hS hr1) (fun j => ⟨by have := (hc j).1; omega, by have := (hc j).2; omega⟩) | exact (hc _).1 | exact (hc _).2 | exact hg1 _ _ (by omega) (by omega) | exact hc | exact hcc _ | exact (KSO_r _ _ _ _ _ _).1 | exact (KSO_r _ _ _ _ _ _).2) (by first | omega | assumption | exact hS.1 _ | exact hS.2 _ _ | exact r_okA hS hr1 | exact r_okA (r_okA hS hr1) (fun j => ⟨by have := (hc j).1; omega, by have := (hc j).2; omega⟩) | exact (hc _).1 | exact (hc _).2 | exact hg1 _ _ (by omega) (by omega) | exact hc | exact hcc _ | exact (KSO_r _ _ _ _ _ _).1 | exact (KSO_r _ _ _ _ _ _).2)), fun hp8 => ?_, fun hp9 => ?_⟩
          ·
            refine r_l0 ?_
            refine r_sinc (L2 := [_, _, _, _]) rfl rfl ?_
            refine r_lend (y + 1, g, _) rfl rfl ?_ (by first | omega | (dsimp only; omega))
            try dsimp only
            exact ⟨by omega, fun u v h0 h1 d => hW u v h0 h1 (by omega), ho, hc⟩
          ·
            refine r_sput3 (r_fld (r_loc rfl rfl) gg_Kinds_kind) (r_call (r_cons (r_loc rfl rfl) (r_cons (r_loc rfl rfl) (r_cons (r_loc rfl rfl) r_nil))) rfl sp_X9_indexOf rfl) (r_if (r_bz (r_call (r_cons (r_fld (r_loc rfl rfl) gg_Kinds_body) (r_cons (r_loc rfl rfl) (r_cons (r_loc rfl rfl) (r_cons (r_loc rfl rfl) r_nil)))) rfl (sp_X0_isSolid (by first | omega | assumption | exact hS.1 _ | exact hS.2 _ _ | exact r_okA hS hr1 | exact r_okA (r_okA hS hr1) (fun j => ⟨by have := (hc j).1; omega, by have := (hc j).2; omega⟩) | exact (hc _).1 | exact (hc _).2 | exact hg1 _ _ (by omega) (by omega) | exact hc | exact hcc _ | exact (KSO_r _ _ _ _ _ _).1 | exact (KSO_r _ _ _ _ _ _).2) (by first | omega | assumption | exact hS.1 _ | exact hS.2 _ _ | exact r_okA hS hr1 | exact r_okA (r_okA hS hr1) (fun j => ⟨by have := (hc j).1; omega, by have := (hc j).2; omega⟩) | exact (hc _).1 | exact (hc _).2 | exact hg1 _ _ (by omega) (by omega) | exact hc | exact hcc _ | exact (KSO_r _ _ _ _ _ _).1 | exact (KSO_r _ _ _ _ _ _).2) (by first | omega | assumption | exact hS.1 _ | exact hS.2 _ _ | exact r_okA hS hr1 | exact r_okA (r_okA hS hr1) (fun j => ⟨by have := (hc j).1; omega, by have := (hc j).2; omega⟩) | exact (hc _).1 | exact (hc _).2 | exact hg1 _ _ (by omega) (by omega) | exact hc | exact hcc _ | exact (KSO_r _ _ _ _ _ _).1 | exact (KSO_r _ _ _ _ _ _).2) (by first | omega | assumption | exact hS.1 _ | exact hS.2 _ _ | exact r_okA hS hr1 | exact r_okA (r_okA hS hr1) (fun j => ⟨by have := (hc j).1; omega, by have := (hc j).2; omega⟩) | exact (hc _).1 | exact (hc _).2 | exact hg1 _ _ (by omega) (by omega) | exact hc | exact hcc _ | exact (KSO_r _ _ _ _ _ _).1 | exact (KSO_r _ _ _ _ _ _).2)) rfl)) (fun hp10 => (r_call (r_cons (r_loc rfl rfl) (r_cons (r_loc rfl rfl) (r_cons (r_loc rfl rfl) (r_cons (r_loc rfl rfl) r_nil)))) rfl (sp_X3_solidKind (by first | omega | assumption | exact hS.1 _ | exact hS.2 _ _ | exact r_okA hS hr1 | exact r_okA (r_okA hS hr1) (fun j => ⟨by have := (hc j).1; omega, by have := (hc j).2; omega⟩) | exact (hc _).1 | exact (hc _).2 | exact hg1 _ _ (by omega) (by omega) | exact hc | exact hcc _ | exact (KSO_r _ _ _ _ _ _).1 | exact (KSO_r _ _ _ _ _ _).2) (by first | omega | assumption | exact hS.1 _ | exact hS.2 _ _ | exact r_okA hS hr1 | exact r_okA (r_okA hS hr1) (fun j => ⟨by have := (hc j).1; omega, by have := (hc j).2; omega⟩) | exact (hc _).1 | exact (hc _).2 | exact hg1 _ _ (by omega) (by omega) | exact hc | exact hcc _ | exact (KSO_r _ _ _ _ _ _).1 | exact (KSO_r _ _ _ _ _ _).2) (by first | omega | assumption | exact hS.1 _ | exact hS.2 _ _ | exact r_okA hS hr1 | exact r_okA (r_okA hS hr1) (fun j => ⟨by have := (hc j).1; omega, by have := (hc j).2; omega⟩) | exact (hc _).1 | exact (hc _).2 | exact hg1 _ _ (by omega) (by omega) | exact hc | exact hcc _ | exact (KSO_r _ _ _ _ _ _).1 | exact (KSO_r _ _ _ _ _ _).2) (by first | omega | assumption | exact hS.1 _ | exact hS.2 _ _ | exact r_okA hS hr1 | exact r_okA (r_okA hS hr1) (fun j => ⟨by have := (hc j).1; omega, by have := (hc j).2; omega⟩) | exact (hc _).1 | exact (hc _).2 | exact hg1 _ _ (by omega) (by omega) | exact hc | exact hcc _ | exact (KSO_r _ _ _ _ _ _).1 | exact (KSO_r _ _ _ _ _ _).2) (by first | omega | assumption | exact hS.1 _ | exact hS.2 _ _ | exact r_okA hS hr1 | exact r_okA (r_okA hS hr1) (fun j => ⟨by have := (hc j).1; omega, by have := (hc j).2; omega⟩) | exact (hc _).1 | exact (hc _).2 | exact hg1 _ _ (by omega) (by omega) | exact hc | exact hcc _ | exact (KSO_r _ _ _ _ _ _).1 | exact (KSO_r _ _ _ _ _ _).2) (by first | omega | assumption | exact hS.1 _ | exact hS.2 _ _ | exact r_okA hS hr1 | exact r_okA (r_okA hS hr1) (fun j => ⟨by have := (hc j).1; omega, by have := (hc j).2; omega⟩) | exact (hc _).1 | exact (hc _).2 | exact hg1 _ _ (by omega) (by omega) | exact hc | exact hcc _ | exact (KSO_r _ _ _ _ _ _).1 | exact (KSO_r _ _ _ _ _ _).2) (by first | omega | assumption | exact hS.1 _ | exact hS.2 _ _ | exact r_okA hS hr1 | exact r_okA (r_okA hS hr1) (fun j => ⟨by have := (hc j).1; omega, by have := (hc j).2; omega⟩) | exact (hc _).1 | exact (hc _).2 | exact hg1 _ _ (by omega) (by omega) | exact hc | exact hcc _ | exact (KSO_r _ _ _ _ _ _).1 | exact (KSO_r _ _ _ _ _ _).2)) rfl)) (fun hp11 => (r_lit ql_46))) (r_putI ga_Kinds_kind gs_Kinds_kind (by first | omega | assumption | exact hS.1 _ | exact hS.2 _ _ | exact r_okA hS hr1 | exact r_okA (r_okA hS hr1) (fun j => ⟨by have := (hc j).1; omega, by have := (hc j).2; omega⟩) | exact (hc _).1 | exact (hc _).2 | exact hg1 _ _ (by omega) (by omega) | exact hc | exact hcc _ | exact (KSO_r _ _ _ _ _ _).1 | exact (KSO_r _ _ _ _ _ _).2) (by first | omega | assumption | exact hS.1 _ | exact hS.2 _ _ | exact r_okA hS hr1 | exact r_okA (r_okA hS hr1) (fun j => ⟨by have := (hc j).1; omega, by have := (hc j).2; omega⟩) | exact (hc _).1 | exact (hc _).2 | exact hg1 _ _ (by omega) (by omega) | exact hc | exact hcc _ | exact (KSO_r _ _ _ _ _ _).1 | exact (KSO_r _ _ _ _ _ _).2) (by decide) (q_narC (by first | omega | assumption | exact hS.1 _ | exact hS.2 _ _ | exact r_okA hS hr1 | exact r_okA (r_okA hS hr1) (fun j => ⟨by have := (hc j).1; omega, by have := (hc j).2; omega⟩) | exact (hc _).1 | exact (hc _).2 | exact hg1 _ _ (by omega) (by omega) | exact hc | exact hcc _ | exact (KSO_r _ _ _ _ _ _).1 | exact (KSO_r _ _ _ _ _ _).2) (by first | omega | assumption | exact hS.1 _ | exact hS.2 _ _ | exact r_okA hS hr1 | exact r_okA (r_okA hS hr1) (fun j => ⟨by have := (hc j).1; omega, by have := (hc j).2; omega⟩) | exact (hc _).1 | exact (hc _).2 | exact hg1 _ _ (by omega) (by omega) | exact hc | exact hcc _ | exact (KSO_r _ _ _ _ _ _).1 | exact (KSO_r _ _ _ _ _ _).2))) ?_
            refine r_l0 ?_
            refine r_sinc (L2 := [_, _, _, _]) rfl rfl ?_
            refine r_lend (x + 1, q_up g (144 * z + 12 * y + x) (r_i (SOL (S.2.1 0) x y z) (KSO (S.2.1 0) S.1 0 x y z) 46)) rfl (by rw [q_sAA]; rfl) ?_ (by first | omega | (dsimp only; omega))
            try dsimp only
            refine ⟨by omega, fun u v u0 v0 d => ?_, fun j hj => ?_, fun j => ?_⟩
            · unfold q_up
              by_cases e : 12 * v + u = 12 * y + x
              · rw [if_pos (by omega)]
                obtain ⟨rfl, rfl⟩ : u = x ∧ v = y := by omega
                rfl
              · rw [if_neg (by omega)]
                exact hW u v u0 v0 (by omega)
            · unfold q_up; rw [if_neg (by omega)]; exact ho j hj
            · unfold q_up; split
              · exact KSO_r _ _ _ _ _ _
              · exact hc j
theorem sp_X3_findAll {S : q_Sg} {c w : Nat} (hS : r_ok S) (hK : SOK S.1 0) (hI : KCI S) : r_X f_X3_findAll [.ref 22] (q_en S, c, w) (fun _ h2 => ∃ T, h2 = (q_en T, c, w) ∧ r_ok T ∧ r_fr [] [3, 4, 5] [] S T ∧ KCI T ∧ ∀ z, (0 ≤ z ∧ z < 12) → ¬ T.2.1 4 z = 0) := by
  refine r_Xof (r_run (L := [_, _]) ⟨rfl, Nat.le_of_ble_eq_true rfl⟩ rfl ?_)
  unfold b_X3_findAll
  refine r_seq ?_
  refine r_seq ?_
  refine r_sloc (L2 := [_, _]) (r_lit ql_0) rfl rfl ?_
  refine r_k0 ?_
  refine r_loop (T := Int × q_Sg) (fun (σ : Int × q_Sg) => match σ with | (z, T) => (0 ≤ z ∧ z ≤ 12) ∧ r_ok T ∧ r_fr [] [3, 4, 5] [] S T ∧ KCI T ∧ ∀ t, (0 ≤ t ∧ t < z) → ¬ T.2.1 4 t = 0) (fun (σ : Int × q_Sg) => match σ with | (z, T) => (12 - z).toNat) (fun (σ : Int × q_Sg) => match σ with | (z, T) => [some (.ref 22), some (iv z)]) (fun (σ : Int × q_Sg) => match σ with | (z, T) => (q_en T, c, w)) (0, S) rfl rfl ?_ ?_ ?_
  · exact ⟨by omega, hS, r_frm r_fr0 (by decide) (by decide) (by decide), hI, fun t ht => by omega⟩
  · (show _ < 1000000); first | omega | (dsimp only; omega)
  · rintro ⟨z, T⟩ hP
    try dsimp only at hP ⊢
    obtain ⟨hz, hT, hf, hIT, hk⟩ := hP
    refine ⟨_, (r_lt (r_loc rfl rfl) (r_lit ql_12) (by first | omega | assumption | (rw [SOK_f hf]; exact hK)) (by first | omega | assumption | (rw [SOK_f hf]; exact hK))), fun hp1 => ?_, fun hp2 => ?_⟩
    ·
      refine r_k0 ?_
      refine wS_retv ?_
      refine r_pretv r_le0 ?_
      exact ⟨_, rfl, T, rfl, hT, hf, hIT, fun t ht => hk t (by omega)⟩
    ·
      refine r_call0 (r_cons (r_loc rfl rfl) (r_cons (r_loc rfl rfl) r_nil)) rfl (sp_X3_findLayer (by first | omega | assumption | (rw [SOK_f hf]; exact hK)) (by first | omega | assumption | (rw [SOK_f hf]; exact hK)) (by first | omega | assumption | (rw [SOK_f hf]; exact hK)) (by first | omega | assumption | (rw [SOK_f hf]; exact hK))) ?_
      rintro _ _ ⟨T1, rfl, hT1, hf1, hI1, hk1, hm1⟩
      refine r_l0 ?_
      refine r_sinc (L2 := [_, _]) rfl rfl ?_
      refine r_lend (z + 1, T1) rfl rfl ?_ (by first | omega | (dsimp only; omega))
      try dsimp only
      refine ⟨by omega, hT1, r_frm (r_frt hf hf1) (by decide) (by decide) (by decide), hI1, fun t ht => ?_⟩
      by_cases e : t = z
      · subst e; exact hk1
      · exact hm1 t (hk t (by omega))
