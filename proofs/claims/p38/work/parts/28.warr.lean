/-! arrays -/
theorem q_toN {j : Int} (h0 : 0 ≤ j) (h1 : j < 2147483648) : (Int32.ofInt j).toNatClampNeg = j.toNat := by
  show (Int32.ofInt j).toInt.toNat = j.toNat
  rw [q_toI ⟨by omega, h1⟩]
theorem q_inI {j : Int} {n : Nat} (h0 : 0 ≤ j) (h1 : j < n) (hn : n ≤ 2147483647) : q_in (Int32.ofInt j) n = true := by
  unfold q_in
  refine decide_eq_true ⟨?_, ?_⟩
  · intro h
    have h := (q_ltI (a := j) (b := 0) ⟨by omega, by omega⟩ q_rg0).mp h
    omega
  · rw [q_toN h0 (by omega)]; omega
theorem w2_gI {ty : FieldType} {n : Nat} {g : Int → Int} {h : qH} {v : Value} {j : Int} {Q : Value → Prop} (ga : q_arr h v = some (ty, n, .inl (fun z => Int32.ofInt (g (z : Nat))))) (h0 : 0 ≤ j) (h1 : j < n) (hn : n ≤ 2147483647) (k : Q (.int (Int32.ofInt (g j)))) : w2 (q_gI ty) h v (.int (Int32.ofInt j)) Q := by
  refine ⟨_, ?_, k⟩
  unfold q_gI
  rw [ga]
  dsimp only
  rw [if_pos ⟨rfl, q_inI h0 h1 hn⟩, q_toN h0 (by omega), Int.toNat_of_nonneg h0]
theorem q_updI {g : Int → Int} {j v : Int} (h0 : 0 ≤ j) : upd (fun z : Nat => Int32.ofInt (g (z : Nat))) j.toNat (Int32.ofInt v) = fun z : Nat => Int32.ofInt (q_up g j v (z : Nat)) := by
  funext z
  unfold upd q_up
  by_cases hz : z = j.toNat
  · rw [if_pos hz, if_pos (by omega)]
  · rw [if_neg hz, if_neg (by omega)]
theorem q_pI_e {ty : FieldType} {n : Nat} {g : Int → Int} {h : qH} {v : Value} {j y : Int} (ga : q_arr h v = some (ty, n, .inl (fun z => Int32.ofInt (g (z : Nat))))) (h0 : 0 ≤ j) (h1 : j < n) (hn : n ≤ 2147483647) (hy : vp_nar ty (Int32.ofInt y) = Int32.ofInt y) : q_pI ty h v (.int (Int32.ofInt j)) (.int (Int32.ofInt y)) = some (q_setA h v (ty, n, .inl (fun z => Int32.ofInt (q_up g j y (z : Nat))))) := by
  unfold q_pI
  rw [ga]
  dsimp only
  rw [if_pos ⟨rfl, q_inI h0 h1 hn⟩, q_toN h0 (by omega), hy, q_updI h0]
theorem q_narI {y : Int} : vp_nar .int (Int32.ofInt y) = Int32.ofInt y := rfl
theorem q_narC {y : Int} (h0 : 0 ≤ y) (h1 : y < 65536) : vp_nar .char (Int32.ofInt y) = Int32.ofInt y := by
  have h := q_fit_char h0 h1
  unfold q_fit at h
  have h := of_decide_eq_true (Bool.and_eq_true_iff.mp h).1
  unfold vp_nar
  rw [h]
theorem q_narZ {y : Int} (h0 : 0 ≤ y) (h1 : y < 2) : vp_nar .boolean (Int32.ofInt y) = Int32.ofInt y := by
  rcases (show y = 0 ∨ y = 1 by omega) with rfl | rfl <;> rfl
