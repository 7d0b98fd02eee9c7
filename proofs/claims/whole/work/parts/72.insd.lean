/-! the least cell inside of a round -/
theorem V_0 {a : Int → Int} {z e X Y : Int} (he : EGE a z e) (h : sz a z (X - 1) Y = sz a z X Y) : Vz a z e X Y = 0 := by
  have h1 := (corn_o he X Y).2.1
  have h2 := (corn_i he X Y).2.2.2
  unfold Vz; omega
theorem H_0 {a : Int → Int} {z e X Y : Int} (he : EGE a z e) (h : sz a z X Y = sz a z X (Y - 1)) : Hz a z e X Y = 0 := by
  have h1 := (corn_o he X Y).1
  have h2 := (corn_i he X Y).2.2.1
  unfold Hz; omega
theorem st_h {a : Int → Int} {z e x y : Int} (he : EGE a z e) (hx : -1 ≤ x) (h : sz a z x y = sz a z (x + 1) y) : pc a z e x y = pc a z e (x + 1) y := by
  have h1 := pc_h (a := a) (z := z) (e := e) (x := x) (y := y) hx
  rw [V_0 he (by rw [show x + 1 - 1 = x by omega]; exact h)] at h1
  have b1 := pc_b (a := a) (z := z) (e := e) (x := x) (y := y)
  have b2 := pc_b (a := a) (z := z) (e := e) (x := x + 1) (y := y)
  omega
theorem st_v {a : Int → Int} {z e x y : Int} (he : EGE a z e) (hx : -1 ≤ x) (h : sz a z x y = sz a z x (y - 1)) : pc a z e x y = pc a z e x (y - 1) := by
  have h1 := pc_v (y := y) he hx
  rw [H_0 he h] at h1
  have b1 := pc_b (a := a) (z := z) (e := e) (x := x) (y := y)
  have b2 := pc_b (a := a) (z := z) (e := e) (x := x) (y := y - 1)
  omega
theorem st_d {a : Int → Int} {z e x y : Int} (he : EGE a z e) (hx : -1 ≤ x) (h1 : sz a z x y = 0) (h2 : sz a z (x + 1) (y + 1) = 0) : pc a z e x y = pc a z e (x + 1) (y + 1) := by
  have v := pc_v (x := x) (y := y + 1) he hx
  have h := pc_h (a := a) (z := z) (e := e) (x := x) (y := y + 1) hx
  obtain ⟨o0, o1, o2, o3⟩ := corn_o he (x + 1) (y + 1)
  obtain ⟨i0, i1, i2, i3⟩ := corn_i he (x + 1) (y + 1)
  have c0 := corn_0 (a := a) (z := z) (e := e) (x + 1) (y + 1)
  unfold Hz at v
  unfold Vz at h
  rw [show y + 1 - 1 = y by omega] at v o0 o2 o3 i0 i1 i2 c0
  rw [show x + 1 - 1 = x by omega] at o1 o2 o3 i0 i1 i3 c0
  have b1 := pc_b (a := a) (z := z) (e := e) (x := x) (y := y)
  have b2 := pc_b (a := a) (z := z) (e := e) (x := x + 1) (y := y + 1)
  clear o0 o3 i1 i2
  rcases sz_d (a := a) (z := z) (x := x) (y := y + 1) with d | d
  · clear c0; omega
  · have c := c0 d h1
    clear c0 i0; omega
theorem st_u {a : Int → Int} {z e x y : Int} (he : EGE a z e) (hx : -1 ≤ x) (h1 : sz a z x (y + 1) = 0) (h2 : sz a z (x + 1) y = 0) : pc a z e x (y + 1) = pc a z e (x + 1) y := by
  have h := pc_h (a := a) (z := z) (e := e) (x := x) (y := y + 1) hx
  have v := pc_v (x := x + 1) (y := y + 1) he (by omega)
  obtain ⟨o0, o1, o2, o3⟩ := corn_o he (x + 1) (y + 1)
  obtain ⟨i0, i1, i2, i3⟩ := corn_i he (x + 1) (y + 1)
  have c3 := corn_3 (a := a) (z := z) (e := e) (x + 1) (y + 1)
  unfold Hz at v
  unfold Vz at h
  rw [show y + 1 - 1 = y by omega] at v o0 o2 o3 i0 i1 i2 c3
  rw [show x + 1 - 1 = x by omega] at o1 o2 o3 i0 i1 i3 c3
  have b1 := pc_b (a := a) (z := z) (e := e) (x := x) (y := y + 1)
  have b2 := pc_b (a := a) (z := z) (e := e) (x := x + 1) (y := y)
  clear o2 o3 i0 i1
  rcases sz_d (a := a) (z := z) (x := x + 1) (y := y + 1) with d | d
  · clear c3; omega
  · have c := c3 d h1
    clear c3; omega
theorem pc_s {a : Int → Int} {k z e x y u v : Int} (hk : 0 ≤ k ∧ k ≤ 1) (he : EGE a z e) (hx : -1 ≤ x) (hu : -1 ≤ u) (h1 : sz a z x y = k) (h2 : sz a z u v = k) (hA : AJ k x y u v) : pc a z e x y = pc a z e u v := by
  unfold AJ at hA
  rcases (show (u = x ∧ v = y) ∨ (u = x + 1 ∧ v = y) ∨ (x = u + 1 ∧ v = y) ∨ (u = x ∧ v = y - 1) ∨ (u = x ∧ y = v - 1) ∨ (k = 0 ∧ u = x + 1 ∧ v = y + 1) ∨ (k = 0 ∧ x = u + 1 ∧ y = v + 1) ∨ (k = 0 ∧ u = x + 1 ∧ y = v + 1) ∨ (k = 0 ∧ x = u + 1 ∧ v = y + 1) by omega) with ⟨p, q⟩ | ⟨p, q⟩ | ⟨p, q⟩ | ⟨p, q⟩ | ⟨p, q⟩ | ⟨e0, p, q⟩ | ⟨e0, p, q⟩ | ⟨e0, p, q⟩ | ⟨e0, p, q⟩
  · rw [p, q]
  · subst p q; exact st_h he hx (h1.trans h2.symm)
  · subst p q; exact (st_h he hu (h2.trans h1.symm)).symm
  · subst p q; exact st_v he hx (h1.trans h2.symm)
  · subst p q; exact (st_v he hu (h2.trans h1.symm)).symm
  · subst p q e0; exact st_d he hx h1 h2
  · subst p q e0; exact (st_d he hu h2 h1).symm
  · subst p q e0; exact st_u he hx h1 h2
  · subst p q e0; exact (st_u he hu h2 h1).symm
theorem pc_R {a : Int → Int} {k z e s t s' t' : Int} (hk : 0 ≤ k ∧ k ≤ 1) (he : EGE a z e) (hp : PR a k z s t) (h : RCH k (PR a k z) s t s' t') : pc a z e (s - 1) (t - 1) = pc a z e (s' - 1) (t' - 1) :=
  (h (fun s' t' => PR a k z s' t' ∧ pc a z e (s - 1) (t - 1) = pc a z e (s' - 1) (t' - 1)) ⟨hp, rfl⟩ (fun u v u' v' ⟨q1, q2⟩ hP hA => by
    have b1 := q1.1
    have b2 := hP.1
    exact ⟨hP, q2.trans (pc_s hk he (by omega) (by omega) q1.2 hP.2 (by unfold AJ at *; omega))⟩)).2
theorem leasti {p : Int → Prop} : ∀ (m : Nat) (n : Int), 0 ≤ n → n < m → p n → ∃ j, (0 ≤ j ∧ j ≤ n) ∧ p j ∧ ∀ i, 0 ≤ i → i < j → ¬ p i
  | 0, n, h0, h1, _ => by omega
  | m + 1, n, h0, h1, hp => by
    by_cases c : ∃ i, (0 ≤ i ∧ i < n) ∧ p i
    · obtain ⟨i, i1, i2⟩ := c
      obtain ⟨j, j1, j2⟩ := leasti m i i1.1 (by omega) i2
      exact ⟨j, by omega, j2⟩
    · exact ⟨n, by omega, hp, fun i i0 i1 q => c ⟨i, ⟨i0, i1⟩, q⟩⟩
/-- the edge west of a cell -/
def wst (k j : Int) : Int := if k = 1 then ((j / 14 - 1 + 1) * 13 + (j % 14 - 1)) * 4 + 3 else ((j / 14 - 1) * 13 + (j % 14 - 1)) * 4 + 1
theorem in_ex {a : Int → Int} {z e : Int} (he : EGE a z e) : ∃ j, (0 ≤ j ∧ j < 196) ∧ pc a z e (j % 14 - 1) (j / 14 - 1) = 1 := by
  have key : ∀ x y u v, (-1 ≤ x ∧ x ≤ 12) ∧ (-1 ≤ y ∧ y ≤ 12) → (-1 ≤ u ∧ u ≤ 12) ∧ (-1 ≤ v ∧ v ≤ 12) → (pc a z e x y + pc a z e u v + 1) % 2 = 0 → ∃ j, (0 ≤ j ∧ j < 196) ∧ pc a z e (j % 14 - 1) (j / 14 - 1) = 1 := fun x y u v h1 h2 h3 => by
    have b1 := pc_b (a := a) (z := z) (e := e) (x := x) (y := y)
    have b2 := pc_b (a := a) (z := z) (e := e) (x := u) (y := v)
    rcases (show pc a z e x y = 1 ∨ pc a z e u v = 1 by omega) with c | c
    · exact ⟨14 * (y + 1) + (x + 1), by omega, by rw [show (14 * (y + 1) + (x + 1)) % 14 - 1 = x by omega, show (14 * (y + 1) + (x + 1)) / 14 - 1 = y by omega]; exact c⟩
    · exact ⟨14 * (v + 1) + (u + 1), by omega, by rw [show (14 * (v + 1) + (u + 1)) % 14 - 1 = u by omega, show (14 * (v + 1) + (u + 1)) / 14 - 1 = v by omega]; exact c⟩
  have hb := he.1
  obtain ⟨X, hX⟩ : ∃ X, X = e / 4 % 13 := ⟨_, rfl⟩
  obtain ⟨Y, hY⟩ : ∃ Y, Y = e / 52 := ⟨_, rfl⟩
  have hE := he.2
  rw [← hX, ← hY] at hE
  have one : ∀ k, e % 4 = k → fz a z e X Y k = 1 := fun k hk => r_z1 ⟨by omega, by rw [show (Y * 13 + X) * 4 + k = e by omega]; exact RO_r⟩
  obtain ⟨o0, o1, o2, o3⟩ := corn_o he X Y
  obtain ⟨i0, i1, i2, i3⟩ := corn_i he X Y
  rcases (show e % 4 = 0 ∨ e % 4 = 1 ∨ e % 4 = 2 ∨ e % 4 = 3 by omega) with c | c | c | c
  · have h1 := one 0 c
    have hv := pc_v (x := X) (y := Y) he (by omega)
    unfold Hz at hv
    clear o1 o2 o3 i0 i1 i3
    exact key X Y X (Y - 1) (by omega) (by omega) (by omega)
  · have h1 := one 1 c
    have hh := pc_h (a := a) (z := z) (e := e) (x := X - 1) (y := Y) (by omega)
    unfold Vz at hh
    rw [show X - 1 + 1 = X by omega] at hh
    clear o0 o2 o3 i0 i1 i2
    exact key (X - 1) Y X Y (by omega) (by omega) (by omega)
  · have h1 := one 2 c
    have hv := pc_v (x := X - 1) (y := Y) he (by omega)
    unfold Hz at hv
    rw [show X - 1 + 1 = X by omega] at hv
    clear o0 o1 o3 i1 i2 i3
    exact key (X - 1) Y (X - 1) (Y - 1) (by omega) (by omega) (by omega)
  · have h1 := one 3 c
    have hh := pc_h (a := a) (z := z) (e := e) (x := X - 1) (y := Y - 1) (by omega)
    unfold Vz at hh
    rw [show X - 1 + 1 = X by omega, show Y - 1 + 1 = Y by omega] at hh
    clear o0 o1 o2 i0 i2 i3
    exact key (X - 1) (Y - 1) X (Y - 1) (by omega) (by omega) (by omega)
/-- each round bears the western edge of the least cell of a set -/
theorem rnd_s {a : Int → Int} {z e : Int} (he : EGE a z e) : ∃ k j, (0 ≤ k ∧ k ≤ 1) ∧ (0 ≤ j ∧ j < 196) ∧ LSC a k z j ∧ ¬ j = 0 ∧ RO a z e (wst k j) := by
  obtain ⟨n, n1, n2⟩ := in_ex he
  obtain ⟨j, j1, j2, j3⟩ := leasti (p := fun j => pc a z e (j % 14 - 1) (j / 14 - 1) = 1) 196 n n1.1 (by omega) n2
  have p0 : ∀ y, pc a z e (-1) y = 0 := fun y => rfl
  have hx : ¬ j % 14 = 0 := fun c => by
    have j4 : pc a z e (j % 14 - 1) (j / 14 - 1) = 1 := j2
    rw [c] at j4
    exact absurd (j4.symm.trans (show pc a z e (0 - 1) (j / 14 - 1) = 0 from p0 _)) (by decide)
  have hw := j3 (j - 1) (by omega) (by omega)
  rw [show (j - 1) % 14 - 1 = j % 14 - 1 - 1 by omega, show (j - 1) / 14 - 1 = j / 14 - 1 by omega] at hw
  have hh := pc_h (a := a) (z := z) (e := e) (x := j % 14 - 1 - 1) (y := j / 14 - 1) (by omega)
  rw [show j % 14 - 1 - 1 + 1 = j % 14 - 1 by omega] at hh
  have b1 := pc_b (a := a) (z := z) (e := e) (x := j % 14 - 1 - 1) (y := j / 14 - 1)
  have hls : LSC a (sz a z (j % 14 - 1) (j / 14 - 1)) z j := by
    have hp : PR a (sz a z (j % 14 - 1) (j / 14 - 1)) z (j % 14) (j / 14) := ⟨by omega, rfl⟩
    refine ⟨hp, fun i i0 i1 hi hr => j3 i i0 i1 ?_⟩
    exact (pc_R sz_b he hi hr).trans j2
  refine ⟨sz a z (j % 14 - 1) (j / 14 - 1), j, sz_b, by omega, hls, by omega, ?_⟩
  have hV : ¬ Vz a z e (j % 14 - 1) (j / 14 - 1) = 0 := fun q => by rw [q, j2] at hh; omega
  have o1 := (corn_o he (j % 14 - 1) (j / 14 - 1)).2.1
  have i3 := (corn_i he (j % 14 - 1) (j / 14 - 1)).2.2.2
  unfold Vz at hV
  unfold wst
  by_cases c : fz a z e (j % 14 - 1) (j / 14 - 1) 1 = 0
  · have c2 : ¬ fz a z e (j % 14 - 1) (j / 14 - 1 + 1) 3 = 0 := fun q => hV (by rw [c, q]; rfl)
    rw [if_pos ((i3.resolve_left c2).1)]
    exact (fz_c c2).2
  · rw [if_neg (by have := (o1.resolve_left c).2; omega)]
    exact (fz_c c).2
