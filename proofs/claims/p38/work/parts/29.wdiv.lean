/-! division, remainder, conversions -/
theorem w2_idiv {h : qH} {a b : Int} {Q : Value → Prop} (ha : q_rg a) (h0 : 0 ≤ a) (hb : 0 < b) (hb2 : b < 2147483648) (k : Q (.int (Int32.ofInt (a / b)))) : w2 (fun _ => q_idiv) h (.int (Int32.ofInt a)) (.int (Int32.ofInt b)) Q := by
  refine ⟨_, ?_, k⟩
  have hne : ¬ Int32.ofInt b = 0 := fun e => by
    have := (q_eqI (a := b) (b := 0) ⟨by omega, hb2⟩ q_rg0).mp e
    omega
  have e : Int32.ofInt (a.tdiv b) = Int32.ofInt a / Int32.ofInt b := Int32.ofInt_tdiv (by have := ha.1; show -2147483648 ≤ a; omega) (by have := ha.2; show a ≤ 2147483647; omega) (by show -2147483648 ≤ b; omega) (by show b ≤ 2147483647; omega)
  show (if Int32.ofInt b = 0 then none else some (Value.int (Int32.ofInt a / Int32.ofInt b))) = _
  rw [if_neg hne, ← e, Int.tdiv_eq_ediv_of_nonneg h0]
theorem w2_irem {h : qH} {a b : Int} {Q : Value → Prop} (ha : q_rg a) (hb : 0 < b) (hb2 : b < 2147483648) (k : Q (.int (Int32.ofInt (a.tmod b)))) : w2 (fun _ => q_irem) h (.int (Int32.ofInt a)) (.int (Int32.ofInt b)) Q := by
  refine ⟨_, ?_, k⟩
  have hne : ¬ Int32.ofInt b = 0 := fun e => by
    have := (q_eqI (a := b) (b := 0) ⟨by omega, hb2⟩ q_rg0).mp e
    omega
  have e : Int32.ofInt (a.tdiv b) = Int32.ofInt a / Int32.ofInt b := Int32.ofInt_tdiv (by have := ha.1; show -2147483648 ≤ a; omega) (by have := ha.2; show a ≤ 2147483647; omega) (by show -2147483648 ≤ b; omega) (by show b ≤ 2147483647; omega)
  show (if Int32.ofInt b = 0 then none else some (Value.int (Int32.ofInt a - Int32.ofInt a / Int32.ofInt b * Int32.ofInt b))) = _
  rw [if_neg hne, ← e, ← Int32.ofInt_mul, ← Int32.ofInt_sub, Int.tmod_def, Int.mul_comm b]
theorem w1_i2l {h : qH} {a : Int} {Q : Value → Prop} (ha : q_rg a) (k : Q (.long (Int64.ofInt a))) : w1 (fun _ => q_i2l) h (.int (Int32.ofInt a)) Q := by
  refine ⟨_, ?_, k⟩
  show some (Value.long (Int32.ofInt a).toInt64) = _
  have e : (Int32.ofInt a).toInt64 = Int64.ofInt a := by
    rw [← Int64.ofInt_toInt (Int32.ofInt a).toInt64, Int32.toInt_toInt64, q_toI ha]
  rw [e]
