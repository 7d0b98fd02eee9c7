/-! ends of bodies -/
theorem q_bt {P R : Prop} (k : P) : (true = true → P) ∧ (true = false → R) := ⟨fun _ => k, fun e => by cases e⟩
theorem q_bf {P R : Prop} (k : R) : (false = true → P) ∧ (false = false → R) := ⟨fun e => (by cases e), fun _ => k⟩
theorem q_oz {P R : Prop} {v : Value} (k : P) : (((0, v) : Nat × Value).1 = 0 → P) ∧ (((0, v) : Nat × Value).1 ≠ 0 → R) := ⟨fun _ => k, fun e => absurd rfl e⟩
theorem q_os {P R : Prop} {j : Nat} {v : Value} (k : R) : (((j + 1, v) : Nat × Value).1 = 0 → P) ∧ (((j + 1, v) : Nat × Value).1 ≠ 0 → R) := ⟨fun e => absurd e (Nat.succ_ne_zero j), fun _ => k⟩
theorem q_finV {ty : FieldType} {v w : Value} {h h' : qH} (hf : q_fit ty v = true) (hle : h.2.1 ≤ h'.2.1 ∧ h.2.2 ≤ h'.2.2) (e : v = w) : q_chk h (q_run0 (some ty) (some ((4, v), [], h'))) = some (.inl w, h') := by
  subst e
  unfold q_run0
  dsimp only
  rw [if_pos hf]
  unfold q_chk
  dsimp only
  rw [if_pos hle]
theorem q_fin0 {v : Value} {h h' : qH} (hle : h.2.1 ≤ h'.2.1 ∧ h.2.2 ≤ h'.2.2) : q_chk h (q_run0 none (some ((3, v), [], h'))) = some (.inl .null, h') := by
  unfold q_run0
  dsimp only
  unfold q_chk
  dsimp only
  rw [if_pos hle]
theorem q_finX {rt : Option FieldType} {x : Nat} {v : Value} {h h' : qH} (hle : h.2.1 ≤ h'.2.1 ∧ h.2.2 ≤ h'.2.2) : q_chk h (q_run0 rt (some ((x + 5, v), [], h'))) = some (.inr x, h') := by
  unfold q_run0
  dsimp only
  unfold q_chk
  dsimp only
  rw [if_pos hle]
