/-! floats and doubles: quotients of whole numbers are numbers -/
theorem r_nn32 {x : UInt32} (h : FP.Core.fIsNaN x = false) : x &&& 0x7fffffff ≤ 0x7f800000 := by
  have h1 : ¬ 2139095040 < x.toNat % 2 ^ 31 := fun c => by
    rw [(FP.Core.isNaN_bits32 x).mpr c] at h; cases h
  have e : (0x7fffffff : UInt32).toNat = 2 ^ 31 - 1 := by decide
  have e2 : (0x7f800000 : UInt32).toNat = 2139095040 := by decide
  rw [UInt32.le_iff_toNat_le, UInt32.toNat_and, e, e2, Nat.and_two_pow_sub_one_eq_mod]
  omega
theorem r_nn64 {x : UInt64} (h : FP.Core.dIsNaN x = false) : x &&& 0x7fffffffffffffff ≤ 0x7ff0000000000000 := by
  have h1 : ¬ 9218868437227405312 < x.toNat % 2 ^ 63 := fun c => by
    rw [(FP.Core.isNaN_bits x).mpr c] at h; cases h
  have e : (0x7fffffffffffffff : UInt64).toNat = 2 ^ 63 - 1 := by decide
  have e2 : (0x7ff0000000000000 : UInt64).toNat = 9218868437227405312 := by decide
  rw [UInt64.le_iff_toNat_le, UInt64.toNat_and, e, e2, Nat.and_two_pow_sub_one_eq_mod]
  omega
theorem whole_f {i : Int} {d : FP.Core.Datum} (h : FP.Core.Whole i d) : d ≠ .nan ∧ (∃ s c q, d = .fin s c q) ∧ (¬ i = 0 → ¬ ∃ s q, d = .fin s 0 q) := by
  cases d with
  | nan => exact h.elim
  | inf s => exact h.elim
  | fin s c q =>
    refine ⟨fun e => (by cases e), ⟨s, c, q, rfl⟩, fun hi => ?_⟩
    rintro ⟨s2, q2, e⟩
    cases e
    exact hi ((FP.Core.whole_zero h).mp rfl)
def FDV (y z : Int) : UInt32 := FP.fdiv (FP.i2f (Int32.ofInt y)) (FP.i2f (Int32.ofInt z))
def DDV (y z : Int) : UInt64 := FP.ddiv (FP.i2d (Int32.ofInt y)) (FP.i2d (Int32.ofInt z))
theorem FDV_n {y z : Int} (hy : 0 ≤ y ∧ y ≤ 1728) (hz : 0 < z ∧ z ≤ 1728) : FP.Core.fIsNaN (FDV y z) = false := by
  have ey : (Int32.ofInt y).toInt = y := q_toI ⟨by omega, by omega⟩
  have ez : (Int32.ofInt z).toInt = z := q_toI ⟨by omega, by omega⟩
  have h1 := whole_f (FP.Core.i2f_int (a := Int32.ofInt y) (by rw [ey]; have := Int.natAbs_of_nonneg hy.1; omega))
  have h2 := whole_f (FP.Core.i2f_int (a := Int32.ofInt z) (by rw [ez]; have := Int.natAbs_of_nonneg (Int.le_of_lt hz.1); omega))
  refine FP.Core.fdiv_out ((FP.Core.notNaN_iff32 _).mpr h1.1) h2.2.1 (h2.2.2 (by rw [ez]; omega))
theorem DDV_n {y z : Int} (hz : ¬ z = 0) (hr : rg z) : FP.Core.dIsNaN (DDV y z) = false := by
  have ez : (Int32.ofInt z).toInt = z := q_toI hr
  have h1 := whole_f (FP.Core.i2d_int (Int32.ofInt y))
  have h2 := whole_f (FP.Core.i2d_int (Int32.ofInt z))
  refine FP.Core.ddiv_out ((FP.Core.notNaN_iff _).mpr h1.1) h2.2.1 (h2.2.2 (by rw [ez]; omega))
theorem r_fdivE {a b : qE} {L : qL} {h : qH} {y z : Int} (hy : 0 ≤ y ∧ y ≤ 1728) (hz : 0 < z ∧ z ≤ 1728) (ka : r_E a L h (iv y)) (kb : r_E b L h (iv z)) : r_E (q_eH2 (fun _ => q_fdiv) (q_eH1 (fun _ => q_i2f) a) (q_eH1 (fun _ => q_i2f) b)) L h (.float (FDV y z)) := by
  refine r_h2 (r_h1 ka rfl) (r_h1 kb rfl) ?_
  have h1 := r_nn32 (FDV_n hy hz)
  show (if FDV y z &&& 0x7fffffff ≤ 0x7f800000 then some (Value.float (FDV y z)) else none) = _
  rw [if_pos h1]
theorem r_ddivE {a b : qE} {L : qL} {h : qH} {y z : Int} (hz : ¬ z = 0) (hr : rg z) (ka : r_E a L h (iv y)) (kb : r_E b L h (iv z)) : r_E (q_eH2 (fun _ => q_ddiv) (q_eH1 (fun _ => q_i2d) a) (q_eH1 (fun _ => q_i2d) b)) L h (.double (DDV y z)) := by
  refine r_h2 (r_h1 ka rfl) (r_h1 kb rfl) ?_
  have h1 := r_nn64 (DDV_n (y := y) hz hr)
  show (if DDV y z &&& 0x7fffffffffffffff ≤ 0x7ff0000000000000 then some (Value.double (DDV y z)) else none) = _
  rw [if_pos h1]
theorem q_fit_float (i : UInt32) : q_fit .float (.float i) = true := by
  unfold q_fit narrow fits
  simp
theorem q_fit_double (i : UInt64) : q_fit .double (.double i) = true := by
  unfold q_fit narrow fits
  simp
theorem r_litf {L : qL} {h : qH} {x : UInt32} : r_E (q_eLit (.float x)) L h (.float x) := rfl
theorem r_litd {L : qL} {h : qH} {x : UInt64} : r_E (q_eLit (.double x)) L h (.double x) := rfl
/-! counts of cells of strokes -/
def slen (q : Int × Int × Int × Int) : Int := q.2.2.1 - q.1 + q.2.2.2 - q.2.1 + 1
def csm (sd : Int → Int × Int × Int × Int) : Nat → Int
  | 0 => 0
  | n + 1 => csm sd n + slen (sd n)
theorem slen_d {q : Int × Int × Int × Int} (h : sG q) : dst q.1 q.2.1 q.2.2.1 q.2.2.2 + 1 = slen q ∧ 1 ≤ slen q ∧ slen q ≤ 12 := by
  obtain ⟨h1, h2, h3, h4, h5⟩ := h
  have k1 := iab_b (q.2.2.1 - q.1)
  have k2 := iab_b (q.2.2.2 - q.2.1)
  unfold slen dst
  omega
theorem csm_s {sd : Int → Int × Int × Int × Int} {k : Int} (h : 0 ≤ k) : csm sd (k + 1).toNat = csm sd k.toNat + slen (sd k) := by
  have e : (k + 1).toNat = k.toNat + 1 := by omega
  rw [e]
  show csm sd k.toNat + slen (sd (k.toNat : Int)) = _
  rw [Int.toNat_of_nonneg h]
noncomputable def MNs (a : Int → Int) (f : Nat → Int) (b : Nat) : Nat → Int
  | 0 => 0
  | n + 1 => MNs a f b n + sI (KL a f b n) 720
noncomputable def MCs (a : Int → Int) (f : Nat → Int) (b : Nat) : Nat → Int
  | 0 => 0
  | n + 1 => MCs a f b n + csm (sT (KL a f b n) n) (sI (KL a f b n) 720).toNat
theorem sI_0b {K : Int → Int → Int} {p : Int} : 0 ≤ sI K p := (cnt_b p.toNat).1
theorem MNs_b {a : Int → Int} {f : Nat → Int} {b : Nat} : ∀ n : Nat, 0 ≤ MNs a f b n ∧ MNs a f b n ≤ 144 * n
  | 0 => ⟨Int.le_refl _, Int.le_refl _⟩
  | n + 1 => by
    have h := MNs_b (a := a) (f := f) (b := b) n
    have h1 := sI_144 (K := KL a f b n) (p := 720) (by omega)
    have h2 := sI_0b (K := KL a f b n) (p := 720)
    show 0 ≤ MNs a f b n + sI (KL a f b n) 720 ∧ MNs a f b n + sI (KL a f b n) 720 ≤ _
    omega
theorem sp_X8_countCells {S : q_Sg} {c w : Nat} (hS : r_ok S) {K : Int → Int → Int} {z : Int} (hKo : ∀ al ac kk, ¬ (0 ≤ al ∧ al < 12) → ¬ K al ac = r_t5 kk) (hR : SREC S.2.1 9 z K 720) (hn : S.1 8 = sI K 720)  : r_F f_X8_countCells [.ref 30] (q_en S, c, w) (iv (csm (sT K z) (S.1 8).toNat)) := by
  refine r_Fof (r_run (L := [_, _, _]) ⟨rfl, Nat.le_of_ble_eq_true rfl⟩ rfl ?_)
  unfold b_X8_countCells
  refine r_seq ?_
  refine r_sloc (L2 := [_, _, _]) (r_lit ql_0) rfl rfl ?_
  refine r_k0 ?_
  refine r_seq ?_
  refine r_seq ?_
  refine r_sloc (L2 := [_, _, _]) (r_lit ql_0) rfl rfl ?_
  refine r_k0 ?_
  have hn144 : S.1 8 ≤ 144 := by rw [hn]; exact sI_144 (by omega)
  have hn0 : 0 ≤ S.1 8 := by rw [hn]; exact sI_0b
  refine r_loop (T := Int) (fun (k : Int) => 0 ≤ k ∧ k ≤ S.1 8) (fun (k : Int) => (S.1 8 - k).toNat) (fun (k : Int) => [some (.ref 30), some (iv (csm (sT K z) k.toNat)), some (iv k)]) (fun (k : Int) => (q_en S, c, w)) 0 rfl rfl ?_ ?_ ?_
  · exact ⟨by omega, hn0⟩
  · (show _ < 1000000); first | omega | (dsimp only; omega)
  · intro k hP
    try dsimp only at hP ⊢
    refine ⟨_, (r_lt (r_loc rfl rfl) (r_fld (r_loc rfl rfl) gg_Strokes_count) (by first | omega | assumption | exact r_zrg _ | exact hS.1 _ | exact hS.2 _ _ | exact stg_b hS _ _ | exact r_irg (by first | assumption | omega | exact hS.1 _ | exact hS.2 _ _ | exact stg_b hS _ _) (by first | assumption | omega | exact hS.1 _ | exact hS.2 _ _)) (by first | omega | assumption | exact r_zrg _ | exact hS.1 _ | exact hS.2 _ _ | exact stg_b hS _ _ | exact r_irg (by first | assumption | omega | exact hS.1 _ | exact hS.2 _ _ | exact stg_b hS _ _) (by first | assumption | omega | exact hS.1 _ | exact hS.2 _ _))), fun hp1 => ?_, fun hp2 => ?_⟩
    ·
      refine r_k0 ?_
      refine r_sret (r_loc rfl rfl) ?_
      refine r_pret (q_fit_int _) r_le0 ⟨congrArg Sum.inl ?_, rfl⟩
      refine congrArg iv ?_
      rw [show S.1 8 = k by omega]
    ·
      have hk1 : k < S.1 8 := hp2
      have hk8 : 0 ≤ k ∧ k < sI K 720 := ⟨hP.1, by omega⟩
      obtain ⟨_, g1, g2, g3, g4⟩ := SREC_g hR hk8
      have g1 : S.2.1 10 k = (sT K z k).1 := g1
      have g2 : S.2.1 11 k = (sT K z k).2.1 := g2
      have g3 : S.2.1 12 k = (sT K z k).2.2.1 := g3
      have g4 : S.2.1 13 k = (sT K z k).2.2.2 := g4
      have hG := sT_g hKo z k
      have hsl := (slen_d hG).1
      rw [← g1, ← g2, ← g3, ← g4] at hsl
      obtain ⟨b1, b2, b3, b4, _⟩ := hG
      rw [← g1] at b1; rw [← g2] at b2; rw [← g3] at b3; rw [← g4] at b4
      refine r_sloc (L2 := [_, _, _]) (r_add (r_loc rfl rfl) (r_add (r_call (r_cons (r_call (r_cons (r_loc rfl rfl) (r_cons (r_loc rfl rfl) (r_cons (r_lit ql_1) r_nil))) rfl (sp_X8_endX_1 (by first | omega | assumption | exact r_zrg _ | exact hS.1 _ | exact hS.2 _ _ | exact stg_b hS _ _ | exact r_irg (by first | assumption | omega | exact hS.1 _ | exact hS.2 _ _ | exact stg_b hS _ _) (by first | assumption | omega | exact hS.1 _ | exact hS.2 _ _)) (by first | omega | assumption | exact r_zrg _ | exact hS.1 _ | exact hS.2 _ _ | exact stg_b hS _ _ | exact r_irg (by first | assumption | omega | exact hS.1 _ | exact hS.2 _ _ | exact stg_b hS _ _) (by first | assumption | omega | exact hS.1 _ | exact hS.2 _ _)) (by first | omega | assumption | exact r_zrg _ | exact hS.1 _ | exact hS.2 _ _ | exact stg_b hS _ _ | exact r_irg (by first | assumption | omega | exact hS.1 _ | exact hS.2 _ _ | exact stg_b hS _ _) (by first | assumption | omega | exact hS.1 _ | exact hS.2 _ _))) rfl) (r_cons (r_call (r_cons (r_loc rfl rfl) (r_cons (r_loc rfl rfl) (r_cons (r_lit ql_1) r_nil))) rfl (sp_X8_endY_1 (by first | omega | assumption | exact r_zrg _ | exact hS.1 _ | exact hS.2 _ _ | exact stg_b hS _ _ | exact r_irg (by first | assumption | omega | exact hS.1 _ | exact hS.2 _ _ | exact stg_b hS _ _) (by first | assumption | omega | exact hS.1 _ | exact hS.2 _ _)) (by first | omega | assumption | exact r_zrg _ | exact hS.1 _ | exact hS.2 _ _ | exact stg_b hS _ _ | exact r_irg (by first | assumption | omega | exact hS.1 _ | exact hS.2 _ _ | exact stg_b hS _ _) (by first | assumption | omega | exact hS.1 _ | exact hS.2 _ _)) (by first | omega | assumption | exact r_zrg _ | exact hS.1 _ | exact hS.2 _ _ | exact stg_b hS _ _ | exact r_irg (by first | assumption | omega | exact hS.1 _ | exact hS.2 _ _ | exact stg_b hS _ _) (by first | assumption | omega | exact hS.1 _ | exact hS.2 _ _))) rfl) (r_cons (r_call (r_cons (r_loc rfl rfl) (r_cons (r_loc rfl rfl) (r_cons (r_lit ql_0) r_nil))) rfl (sp_X8_endX_0 (by first | omega | assumption | exact r_zrg _ | exact hS.1 _ | exact hS.2 _ _ | exact stg_b hS _ _ | exact r_irg (by first | assumption | omega | exact hS.1 _ | exact hS.2 _ _ | exact stg_b hS _ _) (by first | assumption | omega | exact hS.1 _ | exact hS.2 _ _)) (by first | omega | assumption | exact r_zrg _ | exact hS.1 _ | exact hS.2 _ _ | exact stg_b hS _ _ | exact r_irg (by first | assumption | omega | exact hS.1 _ | exact hS.2 _ _ | exact stg_b hS _ _) (by first | assumption | omega | exact hS.1 _ | exact hS.2 _ _)) (by first | omega | assumption | exact r_zrg _ | exact hS.1 _ | exact hS.2 _ _ | exact stg_b hS _ _ | exact r_irg (by first | assumption | omega | exact hS.1 _ | exact hS.2 _ _ | exact stg_b hS _ _) (by first | assumption | omega | exact hS.1 _ | exact hS.2 _ _))) rfl) (r_cons (r_call (r_cons (r_loc rfl rfl) (r_cons (r_loc rfl rfl) (r_cons (r_lit ql_0) r_nil))) rfl (sp_X8_endY_0 (by first | omega | assumption | exact r_zrg _ | exact hS.1 _ | exact hS.2 _ _ | exact stg_b hS _ _ | exact r_irg (by first | assumption | omega | exact hS.1 _ | exact hS.2 _ _ | exact stg_b hS _ _) (by first | assumption | omega | exact hS.1 _ | exact hS.2 _ _)) (by first | omega | assumption | exact r_zrg _ | exact hS.1 _ | exact hS.2 _ _ | exact stg_b hS _ _ | exact r_irg (by first | assumption | omega | exact hS.1 _ | exact hS.2 _ _ | exact stg_b hS _ _) (by first | assumption | omega | exact hS.1 _ | exact hS.2 _ _)) (by first | omega | assumption | exact r_zrg _ | exact hS.1 _ | exact hS.2 _ _ | exact stg_b hS _ _ | exact r_irg (by first | assumption | omega | exact hS.1 _ | exact hS.2 _ _ | exact stg_b hS _ _) (by first | assumption | omega | exact hS.1 _ | exact hS.2 _ _))) rfl) r_nil)))) rfl (sp_X9_distance (by first | omega | assumption | exact r_zrg _ | exact hS.1 _ | exact hS.2 _ _ | exact stg_b hS _ _ | exact r_irg (by first | assumption | omega | exact hS.1 _ | exact hS.2 _ _ | exact stg_b hS _ _) (by first | assumption | omega | exact hS.1 _ | exact hS.2 _ _)) (by first | omega | assumption | exact r_zrg _ | exact hS.1 _ | exact hS.2 _ _ | exact stg_b hS _ _ | exact r_irg (by first | assumption | omega | exact hS.1 _ | exact hS.2 _ _ | exact stg_b hS _ _) (by first | assumption | omega | exact hS.1 _ | exact hS.2 _ _)) (by first | omega | assumption | exact r_zrg _ | exact hS.1 _ | exact hS.2 _ _ | exact stg_b hS _ _ | exact r_irg (by first | assumption | omega | exact hS.1 _ | exact hS.2 _ _ | exact stg_b hS _ _) (by first | assumption | omega | exact hS.1 _ | exact hS.2 _ _)) (by first | omega | assumption | exact r_zrg _ | exact hS.1 _ | exact hS.2 _ _ | exact stg_b hS _ _ | exact r_irg (by first | assumption | omega | exact hS.1 _ | exact hS.2 _ _ | exact stg_b hS _ _) (by first | assumption | omega | exact hS.1 _ | exact hS.2 _ _))) rfl) (r_lit ql_1))) rfl rfl ?_
      refine r_l0 ?_
      refine r_sinc (L2 := [_, _, _]) rfl rfl ?_
      refine r_lend (k + 1) (by rw [csm_s hP.1, ← hsl]; first | done | rfl) rfl ?_ (by first | omega | (dsimp only; omega))
      try dsimp only
      exact ⟨by omega, by omega⟩
theorem sp_X10_emptyShare {S : q_Sg} {c w : Nat} (hS : r_ok S) (hK : SOK S.1 24) : r_X f_X10_emptyShare [.ref 47] (q_en S, c, w) (fun r h2 => h2 = (q_en (q_sI S 23 (r_z ((cnt (fun j => ¬ S.2.1 21 j = 0) 1728) = 0))), c, w) ∧ ((¬ (cnt (fun j => ¬ S.2.1 21 j = 0) 1728) = 0 ∧ r = .float (FDV (cnt (fun j => ¬ S.2.1 21 j = 0 ∧ KND (S.2.1 21) S.1 24 (j % 12) (j / 12 % 12) (j / 144) = 101) 1728) (cnt (fun j => ¬ S.2.1 21 j = 0) 1728))) ∨ ((cnt (fun j => ¬ S.2.1 21 j = 0) 1728) = 0 ∧ r = .float 0))) := by
  refine r_Xof (r_run (L := [_, _, _, _]) ⟨rfl, Nat.le_of_ble_eq_true rfl⟩ rfl ?_)
  unfold b_X10_emptyShare
  refine r_seq ?_
  refine r_sloc (L2 := [_, _, _, _]) (r_lit ql_0) rfl rfl ?_
  refine r_k0 ?_
  refine r_seq ?_
  refine r_sloc (L2 := [_, _, _, _]) (r_lit ql_0) rfl rfl ?_
  refine r_k0 ?_
  refine r_seq ?_
  refine r_seq ?_
  refine r_sloc (L2 := [_, _, _, _]) (r_lit ql_0) rfl rfl ?_
  refine r_k0 ?_
  refine r_loop (T := Int) (fun (k : Int) => 0 ≤ k ∧ k ≤ 1728) (fun (k : Int) => (1728 - k).toNat) (fun (k : Int) => [some (.ref 47), some (iv (cnt (fun j => ¬ S.2.1 21 j = 0 ∧ KND (S.2.1 21) S.1 24 (j % 12) (j / 12 % 12) (j / 144) = 101) k.toNat)), some (iv (cnt (fun j => ¬ S.2.1 21 j = 0) k.toNat)), some (iv k)]) (fun (k : Int) => (q_en S, c, w)) 0 rfl rfl ?_ ?_ ?_
  · exact ⟨by omega, by omega⟩
  · (show _ < 1000000); first | omega | (dsimp only; omega)
  · intro k hP
    try dsimp only at hP ⊢
    refine ⟨_, (r_lt (r_loc rfl rfl) (r_lit ql_1728) (by first | omega | assumption | exact hS.1 _ | exact hS.2 _ _ | exact r_zrg _ | (have := hzp (by assumption); omega)) (by first | omega | assumption | exact hS.1 _ | exact hS.2 _ _ | exact r_zrg _ | (have := hzp (by assumption); omega))), fun hp1 => ?_, fun hp2 => ?_⟩
    ·
      have hk2 := hp1
      have hs1 := cnt_b (p := fun j => ¬ S.2.1 21 j = 0) k.toNat
      have hs2 := cnt_b (p := fun j => ¬ S.2.1 21 j = 0 ∧ KND (S.2.1 21) S.1 24 (j % 12) (j / 12 % 12) (j / 144) = 101) k.toNat
      have hzp : r_z ((cnt (fun j => ¬ S.2.1 21 j = 0) k.toNat) = 0) = 0 → ¬ (cnt (fun j => ¬ S.2.1 21 j = 0) k.toNat) = 0 := fun e => r_zeq0.mp e
      have hk3 : k.toNat = 1728 := by omega
      refine r_k0 ?_
      refine r_sretD (r_Dz (r_callG (r_cons (r_loc rfl rfl) (r_cons (r_if10 (r_z_eq (r_loc rfl rfl) (by first | omega | assumption | exact hS.1 _ | exact hS.2 _ _ | exact r_zrg _ | (have := hzp (by assumption); omega)))) r_nil)) rfl (sp_X10_goesOn (by first | omega | assumption | exact hS.1 _ | exact hS.2 _ _ | exact r_zrg _ | (have := hzp (by assumption); omega))) rfl)) (fun hp3 => ?_) (fun hp4 => ?_)
      ·
        refine r_sret (r_fdivE (by first | omega | assumption | exact hS.1 _ | exact hS.2 _ _ | exact r_zrg _ | (have := hzp (by assumption); omega)) (by first | omega | assumption | exact hS.1 _ | exact hS.2 _ _ | exact r_zrg _ | (have := hzp (by assumption); omega)) (r_loc rfl rfl) (r_loc rfl rfl)) ?_
        refine r_pret (q_fit_float _) r_le0 ?_
        rw [← hk3]
        exact ⟨_, rfl, rfl, Or.inl ⟨hzp (by assumption), rfl⟩⟩
      ·
        refine r_sret r_litf ?_
        refine r_pret (q_fit_float _) r_le0 ?_
        rw [← hk3]
        exact ⟨_, rfl, rfl, Or.inr ⟨Classical.not_not.mp (fun d => absurd (r_zeq0.mpr d) (by assumption)), rfl⟩⟩
    ·
      have hk1 := hp2
      have hkb := KND_b (S.2.1 21) S.1 24 (k % 12) (k / 12 % 12) (k / 144)
      refine r_seq ?_
      refine r_sloc (L2 := [_, _, _, _]) (r_add (r_loc rfl rfl) (r_if10 (r_z_ne (r_aget ga_Md_solid (r_fld (r_loc rfl rfl) gg_Md_solid) (r_loc rfl rfl) (by first | omega | assumption | exact hS.1 _ | exact hS.2 _ _ | exact r_zrg _ | (have := hzp (by assumption); omega)) (by first | omega | assumption | exact hS.1 _ | exact hS.2 _ _ | exact r_zrg _ | (have := hzp (by assumption); omega)) (by decide)) (by first | omega | assumption | exact hS.1 _ | exact hS.2 _ _ | exact r_zrg _ | (have := hzp (by assumption); omega))))) rfl rfl ?_
      refine r_k0 ?_
      refine r_sloc (L2 := [_, _, _, _]) (r_add (r_loc rfl rfl) (r_if10 (r_and (r_z_ne (r_aget ga_Md_solid (r_fld (r_loc rfl rfl) gg_Md_solid) (r_loc rfl rfl) (by first | omega | assumption | exact hS.1 _ | exact hS.2 _ _ | exact r_zrg _ | (have := hzp (by assumption); omega)) (by first | omega | assumption | exact hS.1 _ | exact hS.2 _ _ | exact r_zrg _ | (have := hzp (by assumption); omega)) (by decide)) (by first | omega | assumption | exact hS.1 _ | exact hS.2 _ _ | exact r_zrg _ | (have := hzp (by assumption); omega))) (fun hp5 => (r_eq (r_call (r_cons (r_loc rfl rfl) (r_cons (r_rem (r_loc rfl rfl) (r_lit ql_12) (by first | omega | assumption | exact hS.1 _ | exact hS.2 _ _ | exact r_zrg _ | (have := hzp (by assumption); omega)) (by first | omega | assumption | exact hS.1 _ | exact hS.2 _ _ | exact r_zrg _ | (have := hzp (by assumption); omega)) (by first | omega | assumption | exact hS.1 _ | exact hS.2 _ _ | exact r_zrg _ | (have := hzp (by assumption); omega)) (by first | omega | assumption | exact hS.1 _ | exact hS.2 _ _ | exact r_zrg _ | (have := hzp (by assumption); omega))) (r_cons (r_rem (r_div (r_loc rfl rfl) (r_lit ql_12) (by first | omega | assumption | exact hS.1 _ | exact hS.2 _ _ | exact r_zrg _ | (have := hzp (by assumption); omega)) (by first | omega | assumption | exact hS.1 _ | exact hS.2 _ _ | exact r_zrg _ | (have := hzp (by assumption); omega)) (by first | omega | assumption | exact hS.1 _ | exact hS.2 _ _ | exact r_zrg _ | (have := hzp (by assumption); omega)) (by first | omega | assumption | exact hS.1 _ | exact hS.2 _ _ | exact r_zrg _ | (have := hzp (by assumption); omega))) (r_lit ql_12) (by first | omega | assumption | exact hS.1 _ | exact hS.2 _ _ | exact r_zrg _ | (have := hzp (by assumption); omega)) (by first | omega | assumption | exact hS.1 _ | exact hS.2 _ _ | exact r_zrg _ | (have := hzp (by assumption); omega)) (by first | omega | assumption | exact hS.1 _ | exact hS.2 _ _ | exact r_zrg _ | (have := hzp (by assumption); omega)) (by first | omega | assumption | exact hS.1 _ | exact hS.2 _ _ | exact r_zrg _ | (have := hzp (by assumption); omega))) (r_cons (r_div (r_loc rfl rfl) (r_lit ql_144) (by first | omega | assumption | exact hS.1 _ | exact hS.2 _ _ | exact r_zrg _ | (have := hzp (by assumption); omega)) (by first | omega | assumption | exact hS.1 _ | exact hS.2 _ _ | exact r_zrg _ | (have := hzp (by assumption); omega)) (by first | omega | assumption | exact hS.1 _ | exact hS.2 _ _ | exact r_zrg _ | (have := hzp (by assumption); omega)) (by first | omega | assumption | exact hS.1 _ | exact hS.2 _ _ | exact r_zrg _ | (have := hzp (by assumption); omega))) r_nil)))) rfl (sp_X10_kindOf (by first | omega | assumption | exact hS.1 _ | exact hS.2 _ _ | exact r_zrg _ | (have := hzp (by assumption); omega)) (by first | omega | assumption | exact hS.1 _ | exact hS.2 _ _ | exact r_zrg _ | (have := hzp (by assumption); omega)) (by first | omega | assumption | exact hS.1 _ | exact hS.2 _ _ | exact r_zrg _ | (have := hzp (by assumption); omega)) (by first | omega | assumption | exact hS.1 _ | exact hS.2 _ _ | exact r_zrg _ | (have := hzp (by assumption); omega)) (by first | omega | assumption | exact hS.1 _ | exact hS.2 _ _ | exact r_zrg _ | (have := hzp (by assumption); omega))) rfl) (r_lit ql_101) (by first | omega | assumption | exact hS.1 _ | exact hS.2 _ _ | exact r_zrg _ | (have := hzp (by assumption); omega)) (by first | omega | assumption | exact hS.1 _ | exact hS.2 _ _ | exact r_zrg _ | (have := hzp (by assumption); omega))))))) rfl rfl ?_
      refine r_l0 ?_
      refine r_sinc (L2 := [_, _, _, _]) rfl rfl ?_
      refine r_lend (k + 1) (by rw [cnt_s (k := k) hP.1, cnt_s (k := k) hP.1]; first | done | rfl) rfl ?_ (by first | omega | (dsimp only; omega))
      try dsimp only
      exact ⟨by omega, by omega⟩
theorem sp_X10_meanStroke {S : q_Sg} {c w : Nat} (hS : r_ok S) (hK : SOK S.1 24) : r_X f_X10_meanStroke [.ref 47] (q_en S, c, w) (fun r h2 => ∃ T, h2 = (q_en T, c, w) ∧ r_ok T ∧ r_fr [42, 23] [39, 38, 37, 36, 35, 34] [] S T ∧ T.1 23 = r_z ((MNs (S.2.1 21) S.1 24 12) = 0) ∧ ((¬ (MNs (S.2.1 21) S.1 24 12) = 0 ∧ r = .double (DDV (MCs (S.2.1 21) S.1 24 12) (MNs (S.2.1 21) S.1 24 12))) ∨ ((MNs (S.2.1 21) S.1 24 12) = 0 ∧ r = .double 0))) := by
  refine r_Xof (r_run (L := [_, _, _, _, _]) ⟨rfl, Nat.le_of_ble_eq_true rfl⟩ rfl ?_)
  unfold b_X10_meanStroke
  refine r_seq ?_
  refine r_sloc (L2 := [_, _, _, _, _]) (r_lit ql_0) rfl rfl ?_
  refine r_k0 ?_
  refine r_seq ?_
  refine r_sloc (L2 := [_, _, _, _, _]) (r_lit ql_0) rfl rfl ?_
  refine r_k0 ?_
  refine r_seq ?_
  refine r_seq ?_
  refine r_sloc (L2 := [_, _, _, _, _]) (r_lit ql_0) rfl rfl ?_
  refine r_k0 ?_
  refine r_loop (T := Nat × q_Sg × Option Value) (fun (σ : Nat × q_Sg × Option Value) => match σ with | (z, T, o) => z ≤ 12 ∧ r_ok T ∧ r_fr [42] [39, 38, 37, 36, 35, 34] [] S T) (fun (σ : Nat × q_Sg × Option Value) => match σ with | (z, T, o) => 12 - z) (fun (σ : Nat × q_Sg × Option Value) => match σ with | (z, T, o) => [some (.ref 47), some (iv (MCs (S.2.1 21) S.1 24 z)), some (iv (MNs (S.2.1 21) S.1 24 z)), some (iv z), o]) (fun (σ : Nat × q_Sg × Option Value) => match σ with | (z, T, o) => (q_en T, c, w)) (0, S, _) rfl rfl ?_ ?_ ?_
  · exact ⟨Nat.zero_le _, hS, r_frm r_fr0 (by decide) (by decide) (by decide)⟩
  · (show _ < 1000000); first | omega | (dsimp only; omega)
  · rintro ⟨z, T, o⟩ hP
    try dsimp only at hP ⊢
    obtain ⟨hz, hT, hf⟩ := hP
    refine ⟨_, (r_lt (r_loc rfl rfl) (r_lit ql_12) (by first | omega | assumption | exact hT.1 _ | exact hT2.1 _ | exact r_zrg _ | (have := hzp (by assumption); omega)) (by first | omega | assumption | exact hT.1 _ | exact hT2.1 _ | exact r_zrg _ | (have := hzp (by assumption); omega))), fun hp1 => ?_, fun hp2 => ?_⟩
    ·
      have hz2 := hp1
      have hz3 : z = 12 := by omega
      have hmb := MNs_b (a := S.2.1 21) (f := S.1) (b := 24) z
      have hzp : r_z ((MNs (S.2.1 21) S.1 24 z) = 0) = 0 → ¬ (MNs (S.2.1 21) S.1 24 z) = 0 := fun e => r_zeq0.mp e
      refine r_k0 ?_
      refine r_sretD (r_Dz (r_callG (r_cons (r_loc rfl rfl) (r_cons (r_if10 (r_z_eq (r_loc rfl rfl) (by first | omega | assumption | exact hT.1 _ | exact hT2.1 _ | exact r_zrg _ | (have := hzp (by assumption); omega)))) r_nil)) rfl (sp_X10_goesOn (by first | omega | assumption | exact hT.1 _ | exact hT2.1 _ | exact r_zrg _ | (have := hzp (by assumption); omega))) rfl)) (fun hp3 => ?_) (fun hp4 => ?_)
      ·
        refine r_sret (r_ddivE (by first | omega | assumption | exact hT.1 _ | exact hT2.1 _ | exact r_zrg _ | (have := hzp (by assumption); omega)) (by first | omega | assumption | exact hT.1 _ | exact hT2.1 _ | exact r_zrg _ | (have := hzp (by assumption); omega)) (r_loc rfl rfl) (r_loc rfl rfl)) ?_
        refine r_pret (q_fit_double _) r_le0 ?_
        rw [← hz3]
        exact ⟨_, rfl, _, rfl, r_okI hT (r_zrg _), r_frm (r_frI hf) (by decide) (by decide) (by decide), rfl, Or.inl ⟨hzp (by assumption), rfl⟩⟩
      ·
        refine r_sret r_litd ?_
        refine r_pret (q_fit_double _) r_le0 ?_
        rw [← hz3]
        exact ⟨_, rfl, _, rfl, r_okI hT (r_zrg _), r_frm (r_frI hf) (by decide) (by decide) (by decide), rfl, Or.inr ⟨Classical.not_not.mp (fun d => absurd (r_zeq0.mpr d) (by assumption)), rfl⟩⟩
    ·
      have hz1 : (z : Int) < 12 := hp2
      have e21 := hf.2.1 21 (by decide)
      have eI : ∀ i, i ≤ 6 → T.1 (24 + i) = S.1 (24 + i) := fun i hi => hf.1 (24 + i) (by simp; omega)
      have hKL : KL (T.2.1 21) T.1 24 z = KL (S.2.1 21) S.1 24 z := by rw [e21]; exact KL_f eI
      have hKT : SOK T.1 24 := by
        have k0 := eI 0 (by decide); have k1 := eI 1 (by decide); have k2 := eI 2 (by decide); have k3 := eI 3 (by decide); have k4 := eI 4 (by decide); have k5 := eI 5 (by decide)
        unfold SOK at *
        simp only [Nat.reduceAdd, Nat.add_zero] at *
        rw [k0, k1, k2, k3, k4, k5]; exact hK
      refine r_seq ?_
      refine r_call0 (r_cons (r_loc rfl rfl) (r_cons (r_loc rfl rfl) r_nil)) rfl (sp_X10_findsStrokes (by first | omega | assumption | exact hT.1 _ | exact hT2.1 _ | exact r_zrg _ | (have := hzp (by assumption); omega)) (by first | omega | assumption | exact hT.1 _ | exact hT2.1 _ | exact r_zrg _ | (have := hzp (by assumption); omega)) (by first | omega | assumption | exact hT.1 _ | exact hT2.1 _ | exact r_zrg _ | (have := hzp (by assumption); omega))) ?_
      rintro _ _ ⟨T2, rfl, hT2, hf2, hn2, hR2⟩
      refine r_k0 ?_
      refine r_seq ?_
      refine r_sloc (L2 := [_, _, _, _, _]) (r_add (r_loc rfl rfl) (r_fld (r_loc rfl rfl) gg_Md_strokes)) rfl rfl ?_
      refine r_k0 ?_
      refine r_seq ?_
      refine r_sloc (L2 := [_, _, _, _, _]) (r_lit ql_0) rfl rfl ?_
      refine r_k0 ?_
      rw [hKL] at hn2 hR2
      have hs144 := sI_144 (K := KL (S.2.1 21) S.1 24 z) (p := 720) (by omega)
      have hs0 := sI_0b (K := KL (S.2.1 21) S.1 24 z) (p := 720)
      refine r_loop (T := Nat) (fun (i : Nat) => (i : Int) ≤ sI (KL (S.2.1 21) S.1 24 z) 720) (fun (i : Nat) => (sI (KL (S.2.1 21) S.1 24 z) 720).toNat - i) (fun (i : Nat) => [some (.ref 47), some (iv (MCs (S.2.1 21) S.1 24 z + csm (sT (KL (S.2.1 21) S.1 24 z) z) i)), some (iv (MNs (S.2.1 21) S.1 24 z + T2.1 42)), some (iv z), some (iv i)]) (fun (i : Nat) => (q_en T2, c, w)) 0 (by show [_, some (iv (MCs (S.2.1 21) S.1 24 z)), _, _, _] = [_, some (iv (MCs (S.2.1 21) S.1 24 z + 0)), _, _, _]; rw [Int.add_zero]; rfl) rfl ?_ ?_ ?_
      · exact hs0
      · (show _ < 1000000); first | omega | (dsimp only; omega)
      · intro i hP
        try dsimp only at hP ⊢
        refine ⟨_, (r_lt (r_loc rfl rfl) (r_fld (r_loc rfl rfl) gg_Md_strokes) (by first | omega | assumption | exact hT.1 _ | exact hT2.1 _ | exact r_zrg _ | (have := hzp (by assumption); omega)) (by first | omega | assumption | exact hT.1 _ | exact hT2.1 _ | exact r_zrg _ | (have := hzp (by assumption); omega))), fun hp5 => ?_, fun hp6 => ?_⟩
        ·
          have hi2 := hp5
          refine r_l0 ?_
          refine r_sinc (L2 := [_, _, _, _, _]) rfl rfl ?_
          refine r_lend (z + 1, T2, _) (by show [some (Value.ref 47), some (iv _), some (iv (MNs (S.2.1 21) S.1 24 z + T2.1 42)), some (iv ((z : Int) + 1)), _] = [some (Value.ref 47), some (iv (MCs (S.2.1 21) S.1 24 z + csm (sT (KL (S.2.1 21) S.1 24 z) z) (sI (KL (S.2.1 21) S.1 24 z) 720).toNat)), some (iv (MNs (S.2.1 21) S.1 24 z + sI (KL (S.2.1 21) S.1 24 z) 720)), some (iv ((z : Int) + 1)), _]; rw [hn2, show i = (sI (KL (S.2.1 21) S.1 24 z) 720).toNat by omega]) rfl ?_ (by first | omega | (dsimp only; omega))
          try dsimp only
          exact ⟨by omega, hT2, r_frm (r_frt hf hf2) (by decide) (by decide) (by decide)⟩
        ·
          have hi1 : (i : Int) < T2.1 42 := hp6
          obtain ⟨_, g1, g2, g3, g4⟩ := SREC_g hR2 (i := (i : Int)) ⟨by omega, by omega⟩
          have hsl : T2.2.1 37 i - T2.2.1 35 i + T2.2.1 38 i - T2.2.1 36 i + 1 = slen (sT (KL (S.2.1 21) S.1 24 z) z i) := by
            unfold slen; rw [← g1, ← g2, ← g3, ← g4]
          refine r_sloc (L2 := [_, _, _, _, _]) (r_add (r_loc rfl rfl) (r_call (r_cons (r_loc rfl rfl) (r_cons (r_loc rfl rfl) r_nil)) rfl (sp_X10_cellsOf (by first | omega | assumption | exact hT.1 _ | exact hT2.1 _ | exact r_zrg _ | (have := hzp (by assumption); omega)) (by first | omega | assumption | exact hT.1 _ | exact hT2.1 _ | exact r_zrg _ | (have := hzp (by assumption); omega))) rfl)) rfl rfl ?_
          refine r_l0 ?_
          refine r_sinc (L2 := [_, _, _, _, _]) rfl rfl ?_
          refine r_lend (i + 1) (by show [_, some (iv (MCs (S.2.1 21) S.1 24 z + csm (sT (KL (S.2.1 21) S.1 24 z) z) i + (T2.2.1 37 i - T2.2.1 35 i + T2.2.1 38 i - T2.2.1 36 i + 1))), _, _, _] = [_, some (iv (MCs (S.2.1 21) S.1 24 z + (csm (sT (KL (S.2.1 21) S.1 24 z) z) i + slen (sT (KL (S.2.1 21) S.1 24 z) z i)))), _, _, _]; rw [hsl, Int.add_assoc]; rfl) rfl ?_ (by first | omega | (dsimp only; omega))
          try dsimp only
          omega
