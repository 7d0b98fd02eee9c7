/-! rounds are as many as sets: the successor is one-to-one, and each corner is left as often as it is reached -/
noncomputable def sz (a : Int → Int) (z x y : Int) : Int := r_z (SOL a x y z)
theorem sz_b {a : Int → Int} {z x y : Int} : 0 ≤ sz a z x y ∧ sz a z x y ≤ 1 := by unfold sz r_z; split <;> omega
theorem sz_1 {a : Int → Int} {z x y : Int} : SOL a x y z ↔ sz a z x y = 1 := by
  unfold sz
  by_cases c : SOL a x y z
  · rw [r_z1 c]; exact ⟨fun _ => rfl, fun _ => c⟩
  · rw [r_z0 c]; exact ⟨fun d => absurd d c, fun d => by omega⟩
theorem sz_e {a : Int → Int} {z x y u v : Int} : (SOL a x y z ∧ ¬ SOL a u v z) ↔ (sz a z x y = 1 ∧ sz a z u v = 0) := by
  have h1 := sz_b (a := a) (z := z) (x := u) (y := v)
  rw [sz_1, sz_1]
  exact ⟨fun d => ⟨d.1, by omega⟩, fun d => ⟨d.1, by omega⟩⟩
theorem E0 {a : Int → Int} {z x y : Int} : EDG a z x y 0 ↔ (sz a z x y = 1 ∧ sz a z x (y - 1) = 0) := EDG_0.trans sz_e
theorem E1 {a : Int → Int} {z x y : Int} : EDG a z x y 1 ↔ (sz a z (x - 1) y = 1 ∧ sz a z x y = 0) := EDG_1.trans sz_e
theorem E2 {a : Int → Int} {z x y : Int} : EDG a z x y 2 ↔ (sz a z (x - 1) (y - 1) = 1 ∧ sz a z (x - 1) y = 0) := EDG_2.trans sz_e
theorem E3 {a : Int → Int} {z x y : Int} : EDG a z x y 3 ↔ (sz a z x (y - 1) = 1 ∧ sz a z (x - 1) (y - 1) = 0) := EDG_3.trans sz_e
theorem nx_s {a : Int → Int} {z x y : Int} (k : Int) : (EDG a z x y ((k + 1) % 4) ∧ nxw a z x y k = (k + 1) % 4) ∨ (¬ EDG a z x y ((k + 1) % 4) ∧ ((EDG a z x y k ∧ nxw a z x y k = k) ∨ (¬ EDG a z x y k ∧ ((EDG a z x y ((k + -1) % 4) ∧ nxw a z x y k = (k + -1) % 4) ∨ (¬ EDG a z x y ((k + -1) % 4) ∧ nxw a z x y k = k))))) := by
  unfold nxw
  by_cases c1 : EDG a z x y ((k + 1) % 4)
  · exact Or.inl ⟨c1, r_i1 c1⟩
  · refine Or.inr ⟨c1, ?_⟩
    rw [r_i0 c1]
    by_cases c2 : EDG a z x y k
    · exact Or.inl ⟨c2, r_i1 c2⟩
    · refine Or.inr ⟨c2, ?_⟩
      rw [r_i0 c2]
      by_cases c3 : EDG a z x y ((k + -1) % 4)
      · exact Or.inl ⟨c3, r_i1 c3⟩
      · exact Or.inr ⟨c3, r_i0 c3⟩
theorem nx0 {a : Int → Int} {z x y : Int} : sz a z (x - 1) y = 1 → sz a z (x - 1) (y - 1) = 0 → (sz a z x y = 0 ∧ nxw a z x y 0 = 1) ∨ (sz a z x y = 1 ∧ sz a z x (y - 1) = 0 ∧ nxw a z x y 0 = 0) ∨ (sz a z x y = 1 ∧ sz a z x (y - 1) = 1 ∧ nxw a z x y 0 = 3) := by
  intro h1 h2
  have h := nx_s (a := a) (z := z) (x := x) (y := y) 0
  rw [show ((0 : Int) + 1) % 4 = 1 from rfl, show ((0 : Int) + -1) % 4 = 3 from rfl, E0, E1, E3] at h
  have b1 := sz_b (a := a) (z := z) (x := x) (y := y)
  have b2 := sz_b (a := a) (z := z) (x := x) (y := y - 1)
  omega
theorem nx1 {a : Int → Int} {z x y : Int} : sz a z (x - 1) (y - 1) = 1 → sz a z x (y - 1) = 0 → (sz a z (x - 1) y = 0 ∧ nxw a z x y 1 = 2) ∨ (sz a z (x - 1) y = 1 ∧ sz a z x y = 0 ∧ nxw a z x y 1 = 1) ∨ (sz a z (x - 1) y = 1 ∧ sz a z x y = 1 ∧ nxw a z x y 1 = 0) := by
  intro h1 h2
  have h := nx_s (a := a) (z := z) (x := x) (y := y) 1
  rw [show ((1 : Int) + 1) % 4 = 2 from rfl, show ((1 : Int) + -1) % 4 = 0 from rfl, E0, E1, E2] at h
  have b1 := sz_b (a := a) (z := z) (x := x) (y := y)
  have b2 := sz_b (a := a) (z := z) (x := x - 1) (y := y)
  omega
theorem nx2 {a : Int → Int} {z x y : Int} : sz a z x (y - 1) = 1 → sz a z x y = 0 → (sz a z (x - 1) (y - 1) = 0 ∧ nxw a z x y 2 = 3) ∨ (sz a z (x - 1) (y - 1) = 1 ∧ sz a z (x - 1) y = 0 ∧ nxw a z x y 2 = 2) ∨ (sz a z (x - 1) (y - 1) = 1 ∧ sz a z (x - 1) y = 1 ∧ nxw a z x y 2 = 1) := by
  intro h1 h2
  have h := nx_s (a := a) (z := z) (x := x) (y := y) 2
  rw [show ((2 : Int) + 1) % 4 = 3 from rfl, show ((2 : Int) + -1) % 4 = 1 from rfl, E1, E2, E3] at h
  have b1 := sz_b (a := a) (z := z) (x := x - 1) (y := y)
  have b2 := sz_b (a := a) (z := z) (x := x - 1) (y := y - 1)
  omega
theorem nx3 {a : Int → Int} {z x y : Int} : sz a z x y = 1 → sz a z (x - 1) y = 0 → (sz a z x (y - 1) = 0 ∧ nxw a z x y 3 = 0) ∨ (sz a z x (y - 1) = 1 ∧ sz a z (x - 1) (y - 1) = 0 ∧ nxw a z x y 3 = 3) ∨ (sz a z x (y - 1) = 1 ∧ sz a z (x - 1) (y - 1) = 1 ∧ nxw a z x y 3 = 2) := by
  intro h1 h2
  have h := nx_s (a := a) (z := z) (x := x) (y := y) 3
  rw [show ((3 : Int) + 1) % 4 = 0 from rfl, show ((3 : Int) + -1) % 4 = 2 from rfl, E0, E2, E3] at h
  have b1 := sz_b (a := a) (z := z) (x := x) (y := y - 1)
  have b2 := sz_b (a := a) (z := z) (x := x - 1) (y := y - 1)
  omega
/-- an edge by the corner that it reaches -/
theorem EDG_in {a : Int → Int} {z x y k X Y : Int} (hk : 0 ≤ k ∧ k < 4) (h : EDG a z x y k) (hX : x + r_t1 k = X) (hY : y + r_t2 k = Y) : (k = 0 ∧ x = X - 1 ∧ y = Y ∧ sz a z (X - 1) Y = 1 ∧ sz a z (X - 1) (Y - 1) = 0) ∨ (k = 1 ∧ x = X ∧ y = Y - 1 ∧ sz a z (X - 1) (Y - 1) = 1 ∧ sz a z X (Y - 1) = 0) ∨ (k = 2 ∧ x = X + 1 ∧ y = Y ∧ sz a z X (Y - 1) = 1 ∧ sz a z X Y = 0) ∨ (k = 3 ∧ x = X ∧ y = Y + 1 ∧ sz a z X Y = 1 ∧ sz a z (X - 1) Y = 0) := by
  rcases (show k = 0 ∨ k = 1 ∨ k = 2 ∨ k = 3 by omega) with d | d | d | d <;> subst d
  · rw [show y + r_t2 0 = y from Int.add_zero y] at hY
    rw [show x + r_t1 0 = x + 1 from rfl] at hX
    rw [E0] at h
    refine Or.inl ⟨rfl, by omega, hY, ?_⟩
    rw [← hX, ← hY, show x + 1 - 1 = x by omega]; exact h
  · rw [show x + r_t1 1 = x from Int.add_zero x] at hX
    rw [show y + r_t2 1 = y + 1 from rfl] at hY
    rw [E1] at h
    refine Or.inr (Or.inl ⟨rfl, hX, by omega, ?_⟩)
    rw [← hX, ← hY, show y + 1 - 1 = y by omega]; exact h
  · rw [show y + r_t2 2 = y from Int.add_zero y] at hY
    rw [show x + r_t1 2 = x - 1 from rfl] at hX
    rw [E2] at h
    refine Or.inr (Or.inr (Or.inl ⟨rfl, by omega, hY, ?_⟩))
    rw [← hX, ← hY]; exact h
  · rw [show x + r_t1 3 = x from Int.add_zero x] at hX
    rw [show y + r_t2 3 = y - 1 from rfl] at hY
    rw [E3] at h
    refine Or.inr (Or.inr (Or.inr ⟨rfl, hX, by omega, ?_⟩))
    rw [← hX, ← hY]; exact h
theorem scE_i {a : Int → Int} {z e f : Int} (he : EGE a z e) (hf : EGE a z f) (h : scE a z e = scE a z f) : e = f := by
  obtain ⟨_, e1, e2, e3⟩ := scE_e he
  obtain ⟨_, f1, f2, f3⟩ := scE_e hf
  rw [h] at e1 e2 e3
  have hie := EDG_in (by omega) he.2 e1.symm e2.symm
  have hif := EDG_in (by omega) hf.2 f1.symm f2.symm
  rw [← e1, ← e2] at e3
  rw [← f1, ← f2] at f3
  have be := he.1
  have bf := hf.1
  generalize scE a z f / 4 % 13 = X at *
  generalize scE a z f / 52 = Y at *
  generalize scE a z f % 4 = m at *
  have n0 := nx0 (a := a) (z := z) (x := X) (y := Y)
  have n1 := nx1 (a := a) (z := z) (x := X) (y := Y)
  have n2 := nx2 (a := a) (z := z) (x := X) (y := Y)
  have n3 := nx3 (a := a) (z := z) (x := X) (y := Y)
  rcases hie with ⟨k1, q1⟩ | ⟨k1, q1⟩ | ⟨k1, q1⟩ | ⟨k1, q1⟩ <;> rw [k1] at e3 <;> rcases hif with ⟨k2, q2⟩ | ⟨k2, q2⟩ | ⟨k2, q2⟩ | ⟨k2, q2⟩ <;> rw [k2] at f3 <;> omega
/-- the orbit of an edge is a round -/
theorem RO_c {a : Int → Int} {z e : Int} (he : EGE a z e) : RO a z (scE a z e) e := by
  refine Classical.byContradiction (fun hno => ?_)
  have hstep : ∀ f, RO a z e f → RO a z (scE a z e) (scE a z f) := fun f hf => hf (fun s => RO a z (scE a z e) (scE a z s)) RO_r (fun s hs => RO_n hs)
  have h1 : cnt (fun f => RO a z e f) 676 ≤ cnt (fun f => RO a z e f ∧ ¬ f = e) 676 :=
    cnt_inj (scE a z) 676 _ 676 (fun f _ _ hf => ⟨(scE_e (RO_E he hf)).1.1, RO_n hf, fun q => hno (by have := hstep f hf; rw [q] at this; exact this)⟩)
      (fun f g _ _ _ _ hf hg h => scE_i (RO_E he hf) (RO_E he hg) h)
  have h2 := cnt_rm (q := fun f => RO a z e f) (m := 676) (j := e) he.1 RO_r
  omega
theorem RO_d {a : Int → Int} {z s e : Int} (h : RO a z s e) : s = e ∨ RO a z (scE a z s) e :=
  h (fun t => s = t ∨ RO a z (scE a z s) t) (Or.inl rfl) (fun t q => q.elim (fun q => by rw [← q]; exact Or.inr RO_r) (fun q => Or.inr (RO_n q)))
theorem RO_s {a : Int → Int} {z e f : Int} (he : EGE a z e) (h : RO a z e f) : RO a z f e :=
  h (fun s => RO a z s e) RO_r (fun s q => (RO_d q).elim (fun d => by rw [d]; exact RO_c he) id)
