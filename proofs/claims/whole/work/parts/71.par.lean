/-! inside and outside of a round -/
def FE (a : Int → Int) (z e X Y k : Int) : Prop := ((0 ≤ X ∧ X < 13) ∧ (0 ≤ Y ∧ Y < 13)) ∧ RO a z e ((Y * 13 + X) * 4 + k)
noncomputable def fz (a : Int → Int) (z e X Y k : Int) : Int := r_z (FE a z e X Y k)
theorem fz_b {a : Int → Int} {z e X Y k : Int} : 0 ≤ fz a z e X Y k ∧ fz a z e X Y k ≤ 1 := by unfold fz r_z; split <;> omega
theorem fz_c {a : Int → Int} {z e X Y k : Int} (h : ¬ fz a z e X Y k = 0) : FE a z e X Y k := Classical.byContradiction (fun q => h (r_z0 q))
theorem FE_E {a : Int → Int} {z e X Y k : Int} (he : EGE a z e) (hk : 0 ≤ k ∧ k < 4) (h : FE a z e X Y k) : EDG a z X Y k := by
  have h1 := (RO_E he h.2).2
  have hb := h.1
  rw [show ((Y * 13 + X) * 4 + k) / 4 % 13 = X by omega, show ((Y * 13 + X) * 4 + k) / 52 = Y by omega, show ((Y * 13 + X) * 4 + k) % 4 = k by omega] at h1
  exact h1
theorem FE_n {a : Int → Int} {z e x y k X Y : Int} (hk : 0 ≤ k ∧ k < 4) (h : EDG a z x y k) (hX : x + r_t1 k = X) (hY : y + r_t2 k = Y) : fz a z e x y k = fz a z e X Y (nxw a z X Y k) := by
  have hb := EDG_b hk h
  have ex : ((y * 13 + x) * 4 + k) / 4 % 13 = x := by omega
  have ey : ((y * 13 + x) * 4 + k) / 52 = y := by omega
  have ek : ((y * 13 + x) * 4 + k) % 4 = k := by omega
  have hE : EGE a z ((y * 13 + x) * 4 + k) := ⟨by omega, by rw [ex, ey, ek]; exact h⟩
  have hs : scE a z ((y * 13 + x) * 4 + k) = (Y * 13 + X) * 4 + nxw a z X Y k := by
    unfold scE; rw [ex, ey, ek, hX, hY]
  refine r_zc ⟨fun q => ⟨by omega, by rw [← hs]; exact RO_n q.2⟩, fun q => ⟨by omega, ?_⟩⟩
  have q2 := q.2
  rw [← hs] at q2
  exact RO_t q2 (RO_c hE)
theorem corn_o {a : Int → Int} {z e : Int} (he : EGE a z e) (X Y : Int) : (fz a z e X Y 0 = 0 ∨ (sz a z X Y = 1 ∧ sz a z X (Y - 1) = 0)) ∧ (fz a z e X Y 1 = 0 ∨ (sz a z (X - 1) Y = 1 ∧ sz a z X Y = 0)) ∧ (fz a z e X Y 2 = 0 ∨ (sz a z (X - 1) (Y - 1) = 1 ∧ sz a z (X - 1) Y = 0)) ∧ (fz a z e X Y 3 = 0 ∨ (sz a z X (Y - 1) = 1 ∧ sz a z (X - 1) (Y - 1) = 0)) := by
  have g : ∀ k, 0 ≤ k ∧ k < 4 → fz a z e X Y k = 0 ∨ EDG a z X Y k := fun k hk => by
    by_cases c : fz a z e X Y k = 0
    · exact Or.inl c
    · exact Or.inr (FE_E he hk (fz_c c))
  have g0 := g 0 (by omega); have g1 := g 1 (by omega); have g2 := g 2 (by omega); have g3 := g 3 (by omega)
  rw [E0] at g0; rw [E1] at g1; rw [E2] at g2; rw [E3] at g3
  exact ⟨g0, g1, g2, g3⟩
theorem corn_i {a : Int → Int} {z e : Int} (he : EGE a z e) (X Y : Int) : (fz a z e (X - 1) Y 0 = 0 ∨ (sz a z (X - 1) Y = 1 ∧ sz a z (X - 1) (Y - 1) = 0)) ∧ (fz a z e X (Y - 1) 1 = 0 ∨ (sz a z (X - 1) (Y - 1) = 1 ∧ sz a z X (Y - 1) = 0)) ∧ (fz a z e (X + 1) Y 2 = 0 ∨ (sz a z X (Y - 1) = 1 ∧ sz a z X Y = 0)) ∧ (fz a z e X (Y + 1) 3 = 0 ∨ (sz a z X Y = 1 ∧ sz a z (X - 1) Y = 0)) := by
  have g0 := (corn_o he (X - 1) Y).1
  have g1 := (corn_o he X (Y - 1)).2.1
  have g2 := (corn_o he (X + 1) Y).2.2.1
  have g3 := (corn_o he X (Y + 1)).2.2.2
  rw [show X + 1 - 1 = X by omega] at g2
  rw [show Y + 1 - 1 = Y by omega] at g3
  exact ⟨g0, g1, g2, g3⟩
theorem corn_0 {a : Int → Int} {z e : Int} (X Y : Int) : sz a z (X - 1) Y = 1 → sz a z (X - 1) (Y - 1) = 0 → (sz a z X Y = 0 ∧ fz a z e (X - 1) Y 0 = fz a z e X Y 1) ∨ (sz a z X Y = 1 ∧ sz a z X (Y - 1) = 0 ∧ fz a z e (X - 1) Y 0 = fz a z e X Y 0) ∨ (sz a z X Y = 1 ∧ sz a z X (Y - 1) = 1 ∧ fz a z e (X - 1) Y 0 = fz a z e X Y 3) := fun h1 h2 => by
  have hn := FE_n (e := e) (x := X - 1) (y := Y) (X := X) (Y := Y) (k := 0) (by omega) (E0.mpr ⟨h1, h2⟩) (show X - 1 + 1 = X by omega) (Int.add_zero Y)
  rcases nx0 h1 h2 with ⟨c, n⟩ | ⟨c, d, n⟩ | ⟨c, d, n⟩ <;> rw [n] at hn
  · exact Or.inl ⟨c, hn⟩
  · exact Or.inr (Or.inl ⟨c, d, hn⟩)
  · exact Or.inr (Or.inr ⟨c, d, hn⟩)
theorem corn_1 {a : Int → Int} {z e : Int} (X Y : Int) : sz a z (X - 1) (Y - 1) = 1 → sz a z X (Y - 1) = 0 → (sz a z (X - 1) Y = 0 ∧ fz a z e X (Y - 1) 1 = fz a z e X Y 2) ∨ (sz a z (X - 1) Y = 1 ∧ sz a z X Y = 0 ∧ fz a z e X (Y - 1) 1 = fz a z e X Y 1) ∨ (sz a z (X - 1) Y = 1 ∧ sz a z X Y = 1 ∧ fz a z e X (Y - 1) 1 = fz a z e X Y 0) := fun h1 h2 => by
  have hn := FE_n (e := e) (x := X) (y := Y - 1) (X := X) (Y := Y) (k := 1) (by omega) (E1.mpr ⟨h1, h2⟩) (Int.add_zero X) (show Y - 1 + 1 = Y by omega)
  rcases nx1 h1 h2 with ⟨c, n⟩ | ⟨c, d, n⟩ | ⟨c, d, n⟩ <;> rw [n] at hn
  · exact Or.inl ⟨c, hn⟩
  · exact Or.inr (Or.inl ⟨c, d, hn⟩)
  · exact Or.inr (Or.inr ⟨c, d, hn⟩)
theorem corn_2 {a : Int → Int} {z e : Int} (X Y : Int) : sz a z X (Y - 1) = 1 → sz a z X Y = 0 → (sz a z (X - 1) (Y - 1) = 0 ∧ fz a z e (X + 1) Y 2 = fz a z e X Y 3) ∨ (sz a z (X - 1) (Y - 1) = 1 ∧ sz a z (X - 1) Y = 0 ∧ fz a z e (X + 1) Y 2 = fz a z e X Y 2) ∨ (sz a z (X - 1) (Y - 1) = 1 ∧ sz a z (X - 1) Y = 1 ∧ fz a z e (X + 1) Y 2 = fz a z e X Y 1) := fun h1 h2 => by
  have hn := FE_n (e := e) (x := X + 1) (y := Y) (X := X) (Y := Y) (k := 2) (by omega) (E2.mpr (by rw [show X + 1 - 1 = X by omega]; exact ⟨h1, h2⟩)) (show X + 1 + -1 = X by omega) (Int.add_zero Y)
  rcases nx2 h1 h2 with ⟨c, n⟩ | ⟨c, d, n⟩ | ⟨c, d, n⟩ <;> rw [n] at hn
  · exact Or.inl ⟨c, hn⟩
  · exact Or.inr (Or.inl ⟨c, d, hn⟩)
  · exact Or.inr (Or.inr ⟨c, d, hn⟩)
theorem corn_3 {a : Int → Int} {z e : Int} (X Y : Int) : sz a z X Y = 1 → sz a z (X - 1) Y = 0 → (sz a z X (Y - 1) = 0 ∧ fz a z e X (Y + 1) 3 = fz a z e X Y 0) ∨ (sz a z X (Y - 1) = 1 ∧ sz a z (X - 1) (Y - 1) = 0 ∧ fz a z e X (Y + 1) 3 = fz a z e X Y 3) ∨ (sz a z X (Y - 1) = 1 ∧ sz a z (X - 1) (Y - 1) = 1 ∧ fz a z e X (Y + 1) 3 = fz a z e X Y 2) := fun h1 h2 => by
  have hn := FE_n (e := e) (x := X) (y := Y + 1) (X := X) (Y := Y) (k := 3) (by omega) (E3.mpr (by rw [show Y + 1 - 1 = Y by omega]; exact ⟨h1, h2⟩)) (Int.add_zero X) (show Y + 1 + -1 = Y by omega)
  rcases nx3 h1 h2 with ⟨c, n⟩ | ⟨c, d, n⟩ | ⟨c, d, n⟩ <;> rw [n] at hn
  · exact Or.inl ⟨c, hn⟩
  · exact Or.inr (Or.inl ⟨c, d, hn⟩)
  · exact Or.inr (Or.inr ⟨c, d, hn⟩)
noncomputable def Vz (a : Int → Int) (z e X Y : Int) : Int := fz a z e X Y 1 + fz a z e X (Y + 1) 3
noncomputable def Hz (a : Int → Int) (z e X Y : Int) : Int := fz a z e X Y 0 + fz a z e (X + 1) Y 2
theorem bal {A B C D O0 O1 O2 O3 N0 N1 N2 N3 : Int} (dA : A = 0 ∨ A = 1) (dB : B = 0 ∨ B = 1) (dC : C = 0 ∨ C = 1) (dD : D = 0 ∨ D = 1)
    (o0 : O0 = 0 ∨ (A = 1 ∧ D = 0)) (o1 : O1 = 0 ∨ (B = 1 ∧ A = 0)) (o2 : O2 = 0 ∨ (C = 1 ∧ B = 0)) (o3 : O3 = 0 ∨ (D = 1 ∧ C = 0))
    (i0 : N0 = 0 ∨ (B = 1 ∧ C = 0)) (i1 : N1 = 0 ∨ (C = 1 ∧ D = 0)) (i2 : N2 = 0 ∨ (D = 1 ∧ A = 0)) (i3 : N3 = 0 ∨ (A = 1 ∧ B = 0))
    (c0 : B = 1 → C = 0 → (A = 0 ∧ N0 = O1) ∨ (A = 1 ∧ D = 0 ∧ N0 = O0) ∨ (A = 1 ∧ D = 1 ∧ N0 = O3))
    (c1 : C = 1 → D = 0 → (B = 0 ∧ N1 = O2) ∨ (B = 1 ∧ A = 0 ∧ N1 = O1) ∨ (B = 1 ∧ A = 1 ∧ N1 = O0))
    (c2 : D = 1 → A = 0 → (C = 0 ∧ N2 = O3) ∨ (C = 1 ∧ B = 0 ∧ N2 = O2) ∨ (C = 1 ∧ B = 1 ∧ N2 = O1))
    (c3 : A = 1 → B = 0 → (D = 0 ∧ N3 = O0) ∨ (D = 1 ∧ C = 0 ∧ N3 = O3) ∨ (D = 1 ∧ C = 1 ∧ N3 = O2)) : N0 + N1 + N2 + N3 = O0 + O1 + O2 + O3 := by
  rcases dA with dA | dA <;> rcases dB with dB | dB <;> rcases dC with dC | dC <;> rcases dD with dD | dD <;> subst dA dB dC dD <;>
  (first | (replace o0 := o0.resolve_right (fun q => absurd q.1 (by decide))) | (replace o0 := o0.resolve_right (fun q => absurd q.2 (by decide))) | clear o0) <;>
  (first | (replace o1 := o1.resolve_right (fun q => absurd q.1 (by decide))) | (replace o1 := o1.resolve_right (fun q => absurd q.2 (by decide))) | clear o1) <;>
  (first | (replace o2 := o2.resolve_right (fun q => absurd q.1 (by decide))) | (replace o2 := o2.resolve_right (fun q => absurd q.2 (by decide))) | clear o2) <;>
  (first | (replace o3 := o3.resolve_right (fun q => absurd q.1 (by decide))) | (replace o3 := o3.resolve_right (fun q => absurd q.2 (by decide))) | clear o3) <;>
  (first | (replace i0 := i0.resolve_right (fun q => absurd q.1 (by decide))) | (replace i0 := i0.resolve_right (fun q => absurd q.2 (by decide))) | clear i0) <;>
  (first | (replace i1 := i1.resolve_right (fun q => absurd q.1 (by decide))) | (replace i1 := i1.resolve_right (fun q => absurd q.2 (by decide))) | clear i1) <;>
  (first | (replace i2 := i2.resolve_right (fun q => absurd q.1 (by decide))) | (replace i2 := i2.resolve_right (fun q => absurd q.2 (by decide))) | clear i2) <;>
  (first | (replace i3 := i3.resolve_right (fun q => absurd q.1 (by decide))) | (replace i3 := i3.resolve_right (fun q => absurd q.2 (by decide))) | clear i3) <;>
  (first | (replace c0 := c0 rfl rfl) | clear c0) <;> (first | (replace c1 := c1 rfl rfl) | clear c1) <;> (first | (replace c2 := c2 rfl rfl) | clear c2) <;> (first | (replace c3 := c3 rfl rfl) | clear c3) <;> omega
theorem sz_d {a : Int → Int} {z x y : Int} : sz a z x y = 0 ∨ sz a z x y = 1 := by have := sz_b (a := a) (z := z) (x := x) (y := y); omega
theorem even4 {a : Int → Int} {z e : Int} (he : EGE a z e) (X Y : Int) : (Vz a z e X Y + Vz a z e X (Y - 1) + Hz a z e X Y + Hz a z e (X - 1) Y) % 2 = 0 := by
  unfold Vz Hz
  rw [show Y - 1 + 1 = Y by omega, show X - 1 + 1 = X by omega]
  have h : fz a z e (X - 1) Y 0 + fz a z e X (Y - 1) 1 + fz a z e (X + 1) Y 2 + fz a z e X (Y + 1) 3 = fz a z e X Y 0 + fz a z e X Y 1 + fz a z e X Y 2 + fz a z e X Y 3 := by
    obtain ⟨o0, o1, o2, o3⟩ := corn_o he X Y
    obtain ⟨i0, i1, i2, i3⟩ := corn_i he X Y
    exact bal sz_d sz_d sz_d sz_d o0 o1 o2 o3 i0 i1 i2 i3 (corn_0 X Y) (corn_1 X Y) (corn_2 X Y) (corn_3 X Y)
  omega
noncomputable def par (a : Int → Int) (z e Y : Int) : Nat → Int
  | 0 => 0
  | n + 1 => par a z e Y n + Vz a z e n Y
theorem par_v {a : Int → Int} {z e : Int} (he : EGE a z e) (Y : Int) : ∀ n : Nat, (par a z e Y n + par a z e (Y - 1) n + Hz a z e ((n : Int) - 1) Y) % 2 = 0
  | 0 => by
    have h0 := (corn_o he (-1) Y).1
    have h2 := (corn_o he 0 Y).2.2.1
    have z1 : sz a z (-1) Y = 0 := r_z0 (fun d => by have := SOL_b d; omega)
    have z2 : sz a z (0 - 1) (Y - 1) = 0 := r_z0 (fun d => by have := SOL_b d; omega)
    show ((0 : Int) + 0 + Hz a z e (-1) Y) % 2 = 0
    unfold Hz
    rw [show (-1 : Int) + 1 = 0 by omega]
    omega
  | n + 1 => by
    have h := par_v he Y n
    have e4 := even4 he n Y
    show (par a z e Y n + Vz a z e n Y + (par a z e (Y - 1) n + Vz a z e n (Y - 1)) + Hz a z e (((n + 1 : Nat) : Int) - 1) Y) % 2 = 0
    rw [show ((n + 1 : Nat) : Int) - 1 = n by omega]
    omega
noncomputable def pc (a : Int → Int) (z e x y : Int) : Int := par a z e y (x + 1).toNat % 2
theorem pc_h {a : Int → Int} {z e x y : Int} (hx : -1 ≤ x) : (pc a z e x y + pc a z e (x + 1) y + Vz a z e (x + 1) y) % 2 = 0 := by
  have h : par a z e y (x + 1 + 1).toNat = par a z e y (x + 1).toNat + Vz a z e (x + 1) y := by
    obtain ⟨n, hn⟩ : ∃ n : Nat, x + 1 = n := ⟨(x + 1).toNat, by omega⟩
    rw [hn, show ((n : Int) + 1).toNat = n + 1 by omega, show (n : Int).toNat = n by omega]; rfl
  unfold pc
  rw [h]; omega
theorem pc_v {a : Int → Int} {z e x y : Int} (he : EGE a z e) (hx : -1 ≤ x) : (pc a z e x y + pc a z e x (y - 1) + Hz a z e x y) % 2 = 0 := by
  have h := par_v he y (x + 1).toNat
  rw [show (((x + 1).toNat : Nat) : Int) - 1 = x by omega] at h
  unfold pc; omega
theorem pc_b {a : Int → Int} {z e x y : Int} : 0 ≤ pc a z e x y ∧ pc a z e x y ≤ 1 := by unfold pc; omega
