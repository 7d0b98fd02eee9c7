/-! a round has one set to its left and one to its right -/
def CN (a : Int → Int) (k z x y u v : Int) : Prop := RCH k (PR a k z) (x + 1) (y + 1) (u + 1) (v + 1)
theorem CN_1 {a : Int → Int} {k z x y u v : Int} (hb : (-1 ≤ u ∧ u ≤ 12) ∧ (-1 ≤ v ∧ v ≤ 12)) (h : sz a z u v = k) (hA : AJ k (x + 1) (y + 1) (u + 1) (v + 1)) : CN a k z x y u v :=
  RCH_n RCH_r ⟨⟨⟨by omega, by omega⟩, ⟨by omega, by omega⟩⟩, by rw [show u + 1 - 1 = u by omega, show v + 1 - 1 = v by omega]; exact h⟩ hA
theorem CN_t {a : Int → Int} {k z x y u v s t : Int} (h : CN a k z x y u v) (h2 : CN a k z u v s t) : CN a k z x y s t := RCH_t h h2
theorem CN_r {a : Int → Int} {k z x y : Int} : CN a k z x y x y := RCH_r
theorem AJ_o {k s t u v : Int} (h : (u = s ∧ (v = t + 1 ∨ t = v + 1)) ∨ (v = t ∧ (u = s + 1 ∨ s = u + 1))) : AJ k s t u v := by
  unfold AJ
  rcases h with ⟨h1, h2 | h2⟩ | ⟨h1, h2 | h2⟩
  · exact ⟨⟨⟨by omega, by omega⟩, by omega, by omega⟩, fun _ => Or.inl h1⟩
  · exact ⟨⟨⟨by omega, by omega⟩, by omega, by omega⟩, fun _ => Or.inl h1⟩
  · exact ⟨⟨⟨by omega, by omega⟩, by omega, by omega⟩, fun _ => Or.inr h1⟩
  · exact ⟨⟨⟨by omega, by omega⟩, by omega, by omega⟩, fun _ => Or.inr h1⟩
theorem AJ_d {s t u v : Int} (h1 : u = s + 1 ∨ s = u + 1) (h2 : v = t + 1 ∨ t = v + 1) : AJ 0 s t u v :=
  ⟨⟨⟨by omega, by omega⟩, by omega, by omega⟩, fun c => absurd c (by decide)⟩
theorem cBA {a : Int → Int} {k z X Y : Int} (hb : (0 ≤ X ∧ X < 13) ∧ (0 ≤ Y ∧ Y < 13)) (h : sz a z X Y = k) : CN a k z (X - 1) Y X Y := CN_1 ⟨⟨by omega, by omega⟩, ⟨by omega, by omega⟩⟩ h (AJ_o (by omega))
theorem cAB {a : Int → Int} {k z X Y : Int} (hb : (0 ≤ X ∧ X < 13) ∧ (0 ≤ Y ∧ Y < 13)) (h : sz a z (X - 1) Y = k) : CN a k z X Y (X - 1) Y := CN_1 ⟨⟨by omega, by omega⟩, ⟨by omega, by omega⟩⟩ h (AJ_o (by omega))
theorem cCB {a : Int → Int} {k z X Y : Int} (hb : (0 ≤ X ∧ X < 13) ∧ (0 ≤ Y ∧ Y < 13)) (h : sz a z (X - 1) Y = k) : CN a k z (X - 1) (Y - 1) (X - 1) Y := CN_1 ⟨⟨by omega, by omega⟩, ⟨by omega, by omega⟩⟩ h (AJ_o (by omega))
theorem cBC {a : Int → Int} {k z X Y : Int} (hb : (0 ≤ X ∧ X < 13) ∧ (0 ≤ Y ∧ Y < 13)) (h : sz a z (X - 1) (Y - 1) = k) : CN a k z (X - 1) Y (X - 1) (Y - 1) := CN_1 ⟨⟨by omega, by omega⟩, ⟨by omega, by omega⟩⟩ h (AJ_o (by omega))
theorem cDC {a : Int → Int} {k z X Y : Int} (hb : (0 ≤ X ∧ X < 13) ∧ (0 ≤ Y ∧ Y < 13)) (h : sz a z (X - 1) (Y - 1) = k) : CN a k z X (Y - 1) (X - 1) (Y - 1) := CN_1 ⟨⟨by omega, by omega⟩, ⟨by omega, by omega⟩⟩ h (AJ_o (by omega))
theorem cCD {a : Int → Int} {k z X Y : Int} (hb : (0 ≤ X ∧ X < 13) ∧ (0 ≤ Y ∧ Y < 13)) (h : sz a z X (Y - 1) = k) : CN a k z (X - 1) (Y - 1) X (Y - 1) := CN_1 ⟨⟨by omega, by omega⟩, ⟨by omega, by omega⟩⟩ h (AJ_o (by omega))
theorem cAD {a : Int → Int} {k z X Y : Int} (hb : (0 ≤ X ∧ X < 13) ∧ (0 ≤ Y ∧ Y < 13)) (h : sz a z X (Y - 1) = k) : CN a k z X Y X (Y - 1) := CN_1 ⟨⟨by omega, by omega⟩, ⟨by omega, by omega⟩⟩ h (AJ_o (by omega))
theorem cDA {a : Int → Int} {k z X Y : Int} (hb : (0 ≤ X ∧ X < 13) ∧ (0 ≤ Y ∧ Y < 13)) (h : sz a z X Y = k) : CN a k z X (Y - 1) X Y := CN_1 ⟨⟨by omega, by omega⟩, ⟨by omega, by omega⟩⟩ h (AJ_o (by omega))
theorem cCA {a : Int → Int} {z X Y : Int} (hb : (0 ≤ X ∧ X < 13) ∧ (0 ≤ Y ∧ Y < 13)) (h : sz a z X Y = 0) : CN a 0 z (X - 1) (Y - 1) X Y := CN_1 ⟨⟨by omega, by omega⟩, ⟨by omega, by omega⟩⟩ h (AJ_d (by omega) (by omega))
theorem cAC {a : Int → Int} {z X Y : Int} (hb : (0 ≤ X ∧ X < 13) ∧ (0 ≤ Y ∧ Y < 13)) (h : sz a z (X - 1) (Y - 1) = 0) : CN a 0 z X Y (X - 1) (Y - 1) := CN_1 ⟨⟨by omega, by omega⟩, ⟨by omega, by omega⟩⟩ h (AJ_d (by omega) (by omega))
theorem cDB {a : Int → Int} {z X Y : Int} (hb : (0 ≤ X ∧ X < 13) ∧ (0 ≤ Y ∧ Y < 13)) (h : sz a z (X - 1) Y = 0) : CN a 0 z X (Y - 1) (X - 1) Y := CN_1 ⟨⟨by omega, by omega⟩, ⟨by omega, by omega⟩⟩ h (AJ_d (by omega) (by omega))
theorem cBD {a : Int → Int} {z X Y : Int} (hb : (0 ≤ X ∧ X < 13) ∧ (0 ≤ Y ∧ Y < 13)) (h : sz a z X (Y - 1) = 0) : CN a 0 z (X - 1) Y X (Y - 1) := CN_1 ⟨⟨by omega, by omega⟩, ⟨by omega, by omega⟩⟩ h (AJ_d (by omega) (by omega))
def lX (x k : Int) : Int := x + r_t3 k
def lY (y k : Int) : Int := y + r_t4 k
def rX (x k : Int) : Int := x + r_t3 ((k + -1) % 4)
def rY (y k : Int) : Int := y + r_t4 ((k + -1) % 4)
theorem t3_0 : r_t3 0 = 0 := by decide
theorem t3_1 : r_t3 1 = -1 := by decide
theorem t3_2 : r_t3 2 = -1 := by decide
theorem t3_3 : r_t3 3 = 0 := by decide
theorem t4_0 : r_t4 0 = 0 := by decide
theorem t4_1 : r_t4 1 = 0 := by decide
theorem t4_2 : r_t4 2 = -1 := by decide
theorem t4_3 : r_t4 3 = -1 := by decide
theorem l_0 {x y : Int} : lX x 0 = x ∧ lY y 0 = y ∧ rX x 0 = x ∧ rY y 0 = y - 1 := by
  unfold lX lY rX rY
  rw [show ((0 : Int) + -1) % 4 = 3 by decide, t3_0, t4_0, t3_3, t4_3]
  exact ⟨by omega, by omega, by omega, by omega⟩
theorem l_1 {x y : Int} : lX x 1 = x - 1 ∧ lY y 1 = y ∧ rX x 1 = x ∧ rY y 1 = y := by
  unfold lX lY rX rY
  rw [show ((1 : Int) + -1) % 4 = 0 by decide, t3_0, t4_0, t3_1, t4_1]
  exact ⟨by omega, by omega, by omega, by omega⟩
theorem l_2 {x y : Int} : lX x 2 = x - 1 ∧ lY y 2 = y - 1 ∧ rX x 2 = x - 1 ∧ rY y 2 = y := by
  unfold lX lY rX rY
  rw [show ((2 : Int) + -1) % 4 = 1 by decide, t3_1, t4_1, t3_2, t4_2]
  exact ⟨by omega, by omega, by omega, by omega⟩
theorem l_3 {x y : Int} : lX x 3 = x ∧ lY y 3 = y - 1 ∧ rX x 3 = x - 1 ∧ rY y 3 = y - 1 := by
  unfold lX lY rX rY
  rw [show ((3 : Int) + -1) % 4 = 2 by decide, t3_2, t4_2, t3_3, t4_3]
  exact ⟨by omega, by omega, by omega, by omega⟩
def LF (e : Int) : Int × Int := (lX (e / 4 % 13) (e % 4), lY (e / 52) (e % 4))
def RF (e : Int) : Int × Int := (rX (e / 4 % 13) (e % 4), rY (e / 52) (e % 4))
/-- the corner reached, all cases -/
theorem side_c {a : Int → Int} {z x y k X Y m : Int} (hb : (0 ≤ X ∧ X < 13) ∧ (0 ≤ Y ∧ Y < 13)) (hin : (k = 0 ∧ x = X - 1 ∧ y = Y ∧ sz a z (X - 1) Y = 1 ∧ sz a z (X - 1) (Y - 1) = 0) ∨ (k = 1 ∧ x = X ∧ y = Y - 1 ∧ sz a z (X - 1) (Y - 1) = 1 ∧ sz a z X (Y - 1) = 0) ∨ (k = 2 ∧ x = X + 1 ∧ y = Y ∧ sz a z X (Y - 1) = 1 ∧ sz a z X Y = 0) ∨ (k = 3 ∧ x = X ∧ y = Y + 1 ∧ sz a z X Y = 1 ∧ sz a z (X - 1) Y = 0)) (e3 : m = nxw a z X Y k) : CN a 1 z (lX x k) (lY y k) (lX X m) (lY Y m) ∧ CN a 0 z (rX x k) (rY y k) (rX X m) (rY Y m) := by
  rcases hin with ⟨p, q, r, s, t⟩ | ⟨p, q, r, s, t⟩ | ⟨p, q, r, s, t⟩ | ⟨p, q, r, s, t⟩ <;> rw [p] at e3 ⊢ <;> rw [q, r]
  · have V := nx0 s t
    clear p q r
    have E := l_0 (x := X - 1) (y := Y)
    rw [E.1, E.2.1, E.2.2.1, E.2.2.2]
    rcases V with ⟨c, n⟩ | ⟨c, d, n⟩ | ⟨c, d, n⟩ <;> rw [n] at e3 <;> rw [e3]
    · have M := l_1 (x := X) (y := Y)
      rw [M.1, M.2.1, M.2.2.1, M.2.2.2]
      exact ⟨CN_r, cCA hb c⟩
    · have M := l_0 (x := X) (y := Y)
      rw [M.1, M.2.1, M.2.2.1, M.2.2.2]
      exact ⟨cBA hb c, cCD hb d⟩
    · have M := l_3 (x := X) (y := Y)
      rw [M.1, M.2.1, M.2.2.1, M.2.2.2]
      exact ⟨CN_t (cBA hb c) (cAD hb d), CN_r⟩
  · have V := nx1 s t
    clear p q r
    have E := l_1 (x := X) (y := Y - 1)
    rw [E.1, E.2.1, E.2.2.1, E.2.2.2]
    rcases V with ⟨c, n⟩ | ⟨c, d, n⟩ | ⟨c, d, n⟩ <;> rw [n] at e3 <;> rw [e3]
    · have M := l_2 (x := X) (y := Y)
      rw [M.1, M.2.1, M.2.2.1, M.2.2.2]
      exact ⟨CN_r, cDB hb c⟩
    · have M := l_1 (x := X) (y := Y)
      rw [M.1, M.2.1, M.2.2.1, M.2.2.2]
      exact ⟨cCB hb c, cDA hb d⟩
    · have M := l_0 (x := X) (y := Y)
      rw [M.1, M.2.1, M.2.2.1, M.2.2.2]
      exact ⟨CN_t (cCB hb c) (cBA hb d), CN_r⟩
  · have V := nx2 s t
    clear p q r
    have E := l_2 (x := X + 1) (y := Y)
    rw [E.1, E.2.1, E.2.2.1, E.2.2.2, show X + 1 - 1 = X by omega]
    rcases V with ⟨c, n⟩ | ⟨c, d, n⟩ | ⟨c, d, n⟩ <;> rw [n] at e3 <;> rw [e3]
    · have M := l_3 (x := X) (y := Y)
      rw [M.1, M.2.1, M.2.2.1, M.2.2.2]
      exact ⟨CN_r, cAC hb c⟩
    · have M := l_2 (x := X) (y := Y)
      rw [M.1, M.2.1, M.2.2.1, M.2.2.2]
      exact ⟨cDC hb c, cAB hb d⟩
    · have M := l_1 (x := X) (y := Y)
      rw [M.1, M.2.1, M.2.2.1, M.2.2.2]
      exact ⟨CN_t (cDC hb c) (cCB hb d), CN_r⟩
  · have V := nx3 s t
    clear p q r
    have E := l_3 (x := X) (y := Y + 1)
    rw [E.1, E.2.1, E.2.2.1, E.2.2.2, show Y + 1 - 1 = Y by omega]
    rcases V with ⟨c, n⟩ | ⟨c, d, n⟩ | ⟨c, d, n⟩ <;> rw [n] at e3 <;> rw [e3]
    · have M := l_0 (x := X) (y := Y)
      rw [M.1, M.2.1, M.2.2.1, M.2.2.2]
      exact ⟨CN_r, cBD hb c⟩
    · have M := l_3 (x := X) (y := Y)
      rw [M.1, M.2.1, M.2.2.1, M.2.2.2]
      exact ⟨cAD hb c, cBC hb d⟩
    · have M := l_2 (x := X) (y := Y)
      rw [M.1, M.2.1, M.2.2.1, M.2.2.2]
      exact ⟨CN_t (cAD hb c) (cDC hb d), CN_r⟩
theorem side_s {a : Int → Int} {z e : Int} (he : EGE a z e) : CN a 1 z (LF e).1 (LF e).2 (LF (scE a z e)).1 (LF (scE a z e)).2 ∧ CN a 0 z (RF e).1 (RF e).2 (RF (scE a z e)).1 (RF (scE a z e)).2 := by
  obtain ⟨hs, e1, e2, e3⟩ := scE_e he
  have hin := EDG_in (by omega) he.2 e1.symm e2.symm
  rw [← e1, ← e2] at e3
  have b2 := hs.1
  exact side_c (a := a) (z := z) (x := e / 4 % 13) (y := e / 52) (k := e % 4) (X := scE a z e / 4 % 13) (Y := scE a z e / 52) (m := scE a z e % 4) ⟨⟨by omega, by omega⟩, ⟨by omega, by omega⟩⟩ hin e3
theorem side_o {a : Int → Int} {z e f : Int} (he : EGE a z e) (h : RO a z e f) : CN a 1 z (LF e).1 (LF e).2 (LF f).1 (LF f).2 ∧ CN a 0 z (RF e).1 (RF e).2 (RF f).1 (RF f).2 :=
  (h (fun s => EGE a z s ∧ CN a 1 z (LF e).1 (LF e).2 (LF s).1 (LF s).2 ∧ CN a 0 z (RF e).1 (RF e).2 (RF s).1 (RF s).2) ⟨he, CN_r, CN_r⟩ (fun s ⟨q1, q2, q3⟩ => ⟨(scE_e q1).1, CN_t q2 (side_s q1).1, CN_t q3 (side_s q1).2⟩)).2
/-- the western edge of the least cell of a set -/
theorem wst_e {a : Int → Int} {k z j : Int} (hk : 0 ≤ k ∧ k ≤ 1) (h0 : 0 ≤ j ∧ j < 196) (h : LSC a k z j) (hj : ¬ j = 0) : EGE a z (wst k j) ∧ ((1 ≤ j % 14 ∧ j % 14 ≤ 12) ∧ (1 ≤ j / 14 ∧ j / 14 ≤ 12)) ∧ (k = 1 → LF (wst k j) = (j % 14 - 1, j / 14 - 1) ∧ RF (wst k j) = (j % 14 - 1 - 1, j / 14 - 1)) ∧ (k = 0 → LF (wst k j) = (j % 14 - 1 - 1, j / 14 - 1) ∧ RF (wst k j) = (j % 14 - 1, j / 14 - 1)) := by
  have hI := LSC_I hk h0.1 h hj
  have hb := (PR_PC hk h.1 hI).1
  have hp := h.1.2
  have hw : ¬ sz a z (j % 14 - 1 - 1) (j / 14 - 1) = k := fun q => by
    have hP : PR a k z ((j - 1) % 14) ((j - 1) / 14) := by
      rw [show (j - 1) % 14 = j % 14 - 1 by omega, show (j - 1) / 14 = j / 14 by omega]
      exact ⟨⟨⟨by omega, by omega⟩, ⟨by omega, by omega⟩⟩, q⟩
    refine h.2 (j - 1) (by omega) (by omega) hP ?_
    rw [show (j - 1) % 14 = j % 14 - 1 by omega, show (j - 1) / 14 = j / 14 by omega]
    exact RCH_n RCH_r h.1 (AJ_o (Or.inr ⟨rfl, Or.inl (by omega)⟩))
  have hp : sz a z (j % 14 - 1) (j / 14 - 1) = k := hp
  have hwb := sz_b (a := a) (z := z) (x := j % 14 - 1 - 1) (y := j / 14 - 1)
  have hbb : (1 ≤ j % 14 ∧ j % 14 ≤ 12) ∧ (1 ≤ j / 14 ∧ j / 14 ≤ 12) := ⟨⟨by omega, by omega⟩, ⟨by omega, by omega⟩⟩
  clear hb hI h
  obtain ⟨x, hx⟩ : ∃ x, x = j % 14 - 1 := ⟨_, rfl⟩
  obtain ⟨y, hy⟩ : ∃ y, y = j / 14 - 1 := ⟨_, rfl⟩
  rw [← hx, ← hy] at hp hw hwb ⊢
  rcases (show k = 1 ∨ k = 0 by omega) with c | c
  · have w : wst k j = ((y + 1) * 13 + x) * 4 + 3 := by unfold wst; rw [if_pos c, ← hx, ← hy]
    have w1 : (((y + 1) * 13 + x) * 4 + 3) / 4 % 13 = x := by omega
    have w2 : (((y + 1) * 13 + x) * 4 + 3) / 52 = y + 1 := by omega
    have w3 : (((y + 1) * 13 + x) * 4 + 3) % 4 = 3 := by omega
    have l := l_3 (x := x) (y := y + 1)
    rw [show y + 1 - 1 = y by omega] at l
    refine ⟨?_, hbb, fun _ => ?_, fun d => absurd (c.symm.trans d) (by decide)⟩
    · rw [w]
      refine ⟨⟨by omega, by omega⟩, ?_⟩
      rw [w1, w2, w3, E3, show y + 1 - 1 = y by omega]
      exact ⟨by omega, by omega⟩
    · rw [w]; unfold LF RF; rw [w1, w2, w3, l.1, l.2.1, l.2.2.1, l.2.2.2]; exact ⟨rfl, rfl⟩
  · have w : wst k j = (y * 13 + x) * 4 + 1 := by unfold wst; rw [if_neg (by omega), ← hx, ← hy]
    have w1 : ((y * 13 + x) * 4 + 1) / 4 % 13 = x := by omega
    have w2 : ((y * 13 + x) * 4 + 1) / 52 = y := by omega
    have w3 : ((y * 13 + x) * 4 + 1) % 4 = 1 := by omega
    have l := l_1 (x := x) (y := y)
    refine ⟨?_, hbb, fun d => absurd (c.symm.trans d) (by decide), fun _ => ?_⟩
    · rw [w]
      refine ⟨⟨by omega, by omega⟩, ?_⟩
      rw [w1, w2, w3, E1]
      exact ⟨by omega, by omega⟩
    · rw [w]; unfold LF RF; rw [w1, w2, w3, l.1, l.2.1, l.2.2.1, l.2.2.2]; exact ⟨rfl, rfl⟩
theorem CN_s {a : Int → Int} {k z x y u v s t s2 t2 : Int} (h : CN a k z x y u v) (h1 : x + 1 = s) (h2 : y + 1 = t) (h3 : u + 1 = s2) (h4 : v + 1 = t2) : RCH k (PR a k z) s t s2 t2 := by
  subst h1 h2 h3 h4; exact h
theorem LSC_u {a : Int → Int} {k z i j : Int} (hi0 : 0 ≤ i) (hj0 : 0 ≤ j) (hi : LSC a k z i) (hj : LSC a k z j) (h : RCH k (PR a k z) (i % 14) (i / 14) (j % 14) (j / 14)) : i = j := by
  rcases (show i < j ∨ j < i ∨ i = j by omega) with c | c | c
  · exact absurd h (hj.2 i hi0 c hi.1)
  · exact absurd (RCH_s hi.1 h) (hi.2 j hj0 c hj.1)
  · exact c
theorem LSC_l {a : Int → Int} {k z i u : Int} (hu0 : 0 ≤ u) (hi : LSC a k z i) (hu : PR a k z (u % 14) (u / 14)) (h : RCH k (PR a k z) (u % 14) (u / 14) (i % 14) (i / 14)) : i ≤ u := by
  by_cases c : u < i
  · exact absurd h (hi.2 u hu0 c hu)
  · omega
/-- a round bears one such edge -/
theorem rnd_m {a : Int → Int} {z i j : Int} (hi0 : 0 ≤ i ∧ i < 196) (hj0 : 0 ≤ j ∧ j < 196) (hi : LSC a 1 z i) (hin : ¬ i = 0) (hj : LSC a 0 z j) (hjn : ¬ j = 0) (h : RO a z (wst 1 i) (wst 0 j)) : False := by
  obtain ⟨i1, i2, i3, _⟩ := wst_e (by decide) hi0 hi hin
  obtain ⟨j1, j2, _, j4⟩ := wst_e (by decide) hj0 hj hjn
  obtain ⟨i5, i6⟩ := i3 rfl
  obtain ⟨j5, j6⟩ := j4 rfl
  have hs := side_o i1 h
  rw [i5, i6, j5, j6] at hs
  have s1 : RCH 1 (PR a 1 z) (i % 14) (i / 14) ((j - 1) % 14) ((j - 1) / 14) := CN_s hs.1 (by dsimp only; omega) (by dsimp only; omega) (by dsimp only; omega) (by dsimp only; omega)
  have s0 : RCH 0 (PR a 0 z) ((i - 1) % 14) ((i - 1) / 14) (j % 14) (j / 14) := CN_s hs.2 (by dsimp only; omega) (by dsimp only; omega) (by dsimp only; omega) (by dsimp only; omega)
  have p1 := RCH_P hi.1 s1
  have q1 := LSC_l (by omega) hi p1 (RCH_s hi.1 s1)
  have s0' : PR a 0 z ((i - 1) % 14) ((i - 1) / 14) := by
    rw [show (i - 1) % 14 = i % 14 - 1 by omega, show (i - 1) / 14 = i / 14 by omega]
    refine ⟨⟨⟨by omega, by omega⟩, ⟨by omega, by omega⟩⟩, ?_⟩
    have he := i1.2
    have e : wst 1 i = ((i / 14 - 1 + 1) * 13 + (i % 14 - 1)) * 4 + 3 := rfl
    rw [e, show (((i / 14 - 1 + 1) * 13 + (i % 14 - 1)) * 4 + 3) / 4 % 13 = i % 14 - 1 by omega, show (((i / 14 - 1 + 1) * 13 + (i % 14 - 1)) * 4 + 3) / 52 = i / 14 - 1 + 1 by omega, show (((i / 14 - 1 + 1) * 13 + (i % 14 - 1)) * 4 + 3) % 4 = 3 by omega, E3, show i / 14 - 1 + 1 - 1 = i / 14 - 1 by omega] at he
    exact he.2
  have q0 := LSC_l (by omega) hj s0' s0
  omega
theorem rnd_u {a : Int → Int} {z k i l j : Int} (hk : 0 ≤ k ∧ k ≤ 1) (hl : 0 ≤ l ∧ l ≤ 1) (hi0 : 0 ≤ i ∧ i < 196) (hj0 : 0 ≤ j ∧ j < 196) (hi : LSC a k z i) (hin : ¬ i = 0) (hj : LSC a l z j) (hjn : ¬ j = 0) (h : RO a z (wst k i) (wst l j)) : k = l ∧ i = j := by
  have we := wst_e hk hi0 hi hin
  have wf := wst_e hl hj0 hj hjn
  rcases (show (k = 1 ∧ l = 0) ∨ (k = 0 ∧ l = 1) ∨ (k = 1 ∧ l = 1) ∨ (k = 0 ∧ l = 0) by omega) with ⟨c, d⟩ | ⟨c, d⟩ | ⟨c, d⟩ | ⟨c, d⟩ <;> subst c d
  · exact (rnd_m hi0 hj0 hi hin hj hjn h).elim
  · exact (rnd_m hj0 hi0 hj hjn hi hin (RO_s we.1 h)).elim
  · refine ⟨rfl, LSC_u hi0.1 hj0.1 hi hj ?_⟩
    have hs := (side_o we.1 h).1
    rw [(we.2.2.1 rfl).1, (wf.2.2.1 rfl).1] at hs
    exact CN_s hs (by dsimp only; omega) (by dsimp only; omega) (by dsimp only; omega) (by dsimp only; omega)
  · refine ⟨rfl, LSC_u hi0.1 hj0.1 hi hj ?_⟩
    have hs := (side_o we.1 h).2
    rw [(we.2.2.2 rfl).2, (wf.2.2.2 rfl).2] at hs
    exact CN_s hs (by dsimp only; omega) (by dsimp only; omega) (by dsimp only; omega) (by dsimp only; omega)
/-! rounds counted -/
theorem cnt_add {p : Int → Prop} {n : Nat} : ∀ m : Nat, cnt p (n + m) = cnt p n + cnt (fun i => p (n + i)) m
  | 0 => by show cnt p n = cnt p n + 0; omega
  | m + 1 => by
    show cnt p (n + m) + r_z (p ((n + m : Nat) : Int)) = cnt p n + (cnt (fun i => p (n + i)) m + r_z (p (n + m)))
    rw [cnt_add m, show ((n + m : Nat) : Int) = (n : Int) + m from rfl]; omega
def BTH (a : Int → Int) (z n : Int) : Prop := LSC a (n / 196) z (n % 196) ∧ ¬ n % 196 = 0
theorem BTH_n {a : Int → Int} {z : Int} : cnt (BTH a z) 392 = cnt (LSC a 1 z) 196 + cnt (LSC a 0 z) 196 - 1 := by
  have h := cnt_add (p := BTH a z) (n := 196) 196
  have h0 : cnt (BTH a z) 196 = cnt (fun j => LSC a 0 z j ∧ ¬ j = 0) 196 := cnt_c 196 (fun k k0 k1 => by
    unfold BTH; rw [show k / 196 = 0 by omega, show k % 196 = k by omega])
  have h1 : cnt (fun i => BTH a z ((196 : Nat) + i)) 196 = cnt (fun j => LSC a 1 z j ∧ ¬ j = 0) 196 := cnt_c 196 (fun k k0 k1 => by
    show BTH a z (196 + k) ↔ _
    unfold BTH; rw [show (196 + k) / 196 = 1 by omega, show (196 + k) % 196 = k by omega])
  rw [← sets_n (by decide), sets_0] at h0
  rw [← sets_n (by decide), sets_1] at h1
  have h : cnt (BTH a z) 392 = cnt (BTH a z) 196 + cnt (fun i => BTH a z ((196 : Nat) + i)) 196 := h
  omega
theorem ROL_u {a : Int → Int} {z e f w : Int} (he0 : 0 ≤ e) (hf0 : 0 ≤ f) (he : ROL a z e) (hf : ROL a z f) (h1 : RO a z e w) (h2 : RO a z f w) : e = f := by
  have h3 : RO a z e f := RO_t h1 (RO_s hf.1 h2)
  rcases (show e < f ∨ f < e ∨ e = f by omega) with c | c | c
  · exact absurd h3 (hf.2 e he0 c he.1)
  · exact absurd (RO_s he.1 h3) (he.2 f hf0 c hf.1)
  · exact c
theorem rnd_b {a : Int → Int} {z : Int} (e : Int) : ∃ n, ROL a z e → (0 ≤ n ∧ n < 392) ∧ BTH a z n ∧ RO a z e (wst (n / 196) (n % 196)) := by
  by_cases c : ROL a z e
  · obtain ⟨k, j, hk, hj, h1, h2, h3⟩ := rnd_s c.1
    have e1 : (196 * k + j) / 196 = k := by omega
    have e2 : (196 * k + j) % 196 = j := by omega
    refine ⟨196 * k + j, fun _ => ⟨⟨by omega, by omega⟩, ?_, ?_⟩⟩
    · unfold BTH; rw [e1, e2]; exact ⟨h1, h2⟩
    · rw [e1, e2]; exact h3
  · exact ⟨0, fun d => absurd d c⟩
theorem rnd_l {a : Int → Int} {z w : Int} (hw : EGE a z w) : ∃ e, (0 ≤ e ∧ e < 676) ∧ ROL a z e ∧ RO a z e w := by
  have hb := hw.1
  obtain ⟨e, e1, e2, e3⟩ := leasti (p := fun f => EGE a z f ∧ RO a z f w) 676 w hb.1 (by omega) ⟨hw, RO_r⟩
  exact ⟨e, ⟨by omega, by omega⟩, ⟨e2.1, fun f f0 f1 hf hr => e3 f f0 f1 ⟨hf, RO_t hr e2.2⟩⟩, e2.2⟩
theorem rnd_c {a : Int → Int} {z : Int} (n : Int) : ∃ e, (0 ≤ n ∧ n < 392) → BTH a z n → (0 ≤ e ∧ e < 676) ∧ ROL a z e ∧ RO a z e (wst (n / 196) (n % 196)) := by
  by_cases c : (0 ≤ n ∧ n < 392) ∧ BTH a z n
  · obtain ⟨e, h⟩ := rnd_l (wst_e (k := n / 196) (j := n % 196) ⟨by omega, by omega⟩ ⟨by omega, by omega⟩ c.2.1 c.2.2).1
    exact ⟨e, fun _ _ => h⟩
  · exact ⟨0, fun d1 d2 => absurd ⟨d1, d2⟩ c⟩
/-- rounds are as many as sets of solid cells and of empty cells, but the outer one -/
theorem rnd_n {a : Int → Int} {z : Int} : cnt (ROL a z) 676 = cnt (LSC a 1 z) 196 + cnt (LSC a 0 z) 196 - 1 := by
  rw [← BTH_n]
  have h1 : cnt (ROL a z) 676 ≤ cnt (BTH a z) 392 := by
    refine cnt_inj (fun e => Classical.choose (rnd_b (a := a) (z := z) e)) 676 _ 392 (fun e e0 e1 he => ?_) (fun e f e0 e1 f0 f1 he hf h => ?_)
    · have hc := Classical.choose_spec (rnd_b (a := a) (z := z) e) he
      exact ⟨hc.1, hc.2.1⟩
    · have hc := Classical.choose_spec (rnd_b (a := a) (z := z) e) he
      have hd := Classical.choose_spec (rnd_b (a := a) (z := z) f) hf
      have h : Classical.choose (rnd_b (a := a) (z := z) e) = Classical.choose (rnd_b (a := a) (z := z) f) := h
      rw [← h] at hd
      exact ROL_u e0 f0 he hf hc.2.2 hd.2.2
  have h2 : cnt (BTH a z) 392 ≤ cnt (ROL a z) 676 := by
    refine cnt_inj (fun n => Classical.choose (rnd_c (a := a) (z := z) n)) 392 _ 676 (fun n n0 n1 hn => ?_) (fun n m n0 n1 m0 m1 hn hm h => ?_)
    · have hc := Classical.choose_spec (rnd_c (a := a) (z := z) n) ⟨n0, n1⟩ hn
      exact ⟨hc.1, hc.2.1⟩
    · have hc := Classical.choose_spec (rnd_c (a := a) (z := z) n) ⟨n0, n1⟩ hn
      have hd := Classical.choose_spec (rnd_c (a := a) (z := z) m) ⟨m0, m1⟩ hm
      have h : Classical.choose (rnd_c (a := a) (z := z) n) = Classical.choose (rnd_c (a := a) (z := z) m) := h
      rw [← h] at hd
      have hu := rnd_u ⟨by omega, by omega⟩ ⟨by omega, by omega⟩ ⟨by omega, by omega⟩ ⟨by omega, by omega⟩ hn.1 hn.2 hm.1 hm.2 (RO_t (RO_s hc.2.1.1 hc.2.2) hd.2.2)
      omega
  omega
