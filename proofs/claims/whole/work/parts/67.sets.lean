/-! the sets of the class are those of the reference -/
theorem PC_PR {a : Int → Int} {k z x y : Int} (hk : 0 ≤ k ∧ k ≤ 1) (h : PC a k z x y) : PR a k z (x + 1) (y + 1) := by
  obtain ⟨h1, h2⟩ := h
  refine ⟨by omega, ?_⟩
  rw [show x + 1 - 1 = x by omega, show y + 1 - 1 = y by omega]
  by_cases e : SOL a x y z
  · rw [r_z1 e]; exact (h2.mp e).symm
  · rw [r_z0 e]; have : ¬ k = 1 := fun d => e (h2.mpr d)
    omega
theorem PR_PC {a : Int → Int} {k z s t : Int} (hk : 0 ≤ k ∧ k ≤ 1) (h : PR a k z s t) (hb : k = 1 ∨ ((1 ≤ s ∧ s ≤ 12) ∧ (1 ≤ t ∧ t ≤ 12))) : PC a k z (s - 1) (t - 1) := by
  obtain ⟨h1, h2⟩ := h
  by_cases e : SOL a (s - 1) (t - 1) z
  · rw [r_z1 e] at h2; exact ⟨SOL_b e, fun _ => h2.symm, fun _ => e⟩
  · rw [r_z0 e] at h2; exact ⟨by omega, fun d => absurd d e, fun d => by omega⟩
theorem RCH_emb {a : Int → Int} {k z x y s t : Int} (hk : 0 ≤ k ∧ k ≤ 1) (h : RCH k (PC a k z) x y s t) : RCH k (PR a k z) (x + 1) (y + 1) (s + 1) (t + 1) :=
  h (fun s t => RCH k (PR a k z) (x + 1) (y + 1) (s + 1) (t + 1)) RCH_r (fun s t s' t' hq hP hA => RCH_n hq (PC_PR hk hP) (by unfold AJ at *; omega))
theorem RCH_int {a : Int → Int} {k z x y s t : Int} (hk : 0 ≤ k ∧ k ≤ 1) (hp : PC a k z x y) (hn : k = 1 ∨ ¬ ∃ s t, PC a k z s t ∧ RCH k (PC a k z) x y s t ∧ BRD s t) (h : RCH k (PR a k z) (x + 1) (y + 1) s t) : PC a k z (s - 1) (t - 1) ∧ RCH k (PC a k z) x y (s - 1) (t - 1) :=
  h (fun s t => PC a k z (s - 1) (t - 1) ∧ RCH k (PC a k z) x y (s - 1) (t - 1)) (by rw [show x + 1 - 1 = x by omega, show y + 1 - 1 = y by omega]; exact ⟨hp, RCH_r⟩) (fun s t s' t' ⟨q1, q2⟩ hP hA => by
    have b1 := q1.1
    have hp' : PC a k z (s' - 1) (t' - 1) := by
      refine PR_PC hk hP (hn.imp id (fun d => ?_))
      have nb : ¬ BRD (s - 1) (t - 1) := fun e => d ⟨_, _, q1, q2, e⟩
      unfold BRD at nb
      unfold AJ at hA
      omega
    exact ⟨hp', RCH_n q2 hp' (by unfold AJ at *; omega)⟩)
theorem PR_ring {a : Int → Int} {z s t : Int} (hb : (0 ≤ s ∧ s < 14) ∧ (0 ≤ t ∧ t < 14)) (hr : (s = 0 ∨ s = 13) ∨ (t = 0 ∨ t = 13)) : PR a 0 z s t :=
  ⟨hb, r_z0 (fun d => by have := SOL_b d; omega)⟩
theorem RCH_l {a : Int → Int} {z : Int} {s0 t0 ds dt : Int} (hd : (-1 ≤ ds ∧ ds ≤ 1) ∧ (-1 ≤ dt ∧ dt ≤ 1)) : ∀ n : Nat, (∀ i : Nat, i ≤ n → PR a 0 z (s0 + i * ds) (t0 + i * dt)) → RCH 0 (PR a 0 z) s0 t0 (s0 + n * ds) (t0 + n * dt)
  | 0, _ => by
    rw [show s0 + ((0 : Nat) : Int) * ds = s0 by omega, show t0 + ((0 : Nat) : Int) * dt = t0 by omega]; exact RCH_r
  | n + 1, h => by
    refine RCH_n (RCH_l hd n (fun i hi => h i (by omega))) (h (n + 1) (Nat.le_refl _)) ?_
    have e1 : ((n + 1 : Nat) : Int) * ds = (n : Int) * ds + ds := by rw [Int.natCast_add, Int.add_mul]; omega
    have e2 : ((n + 1 : Nat) : Int) * dt = (n : Int) * dt + dt := by rw [Int.natCast_add, Int.add_mul]; omega
    rw [e1, e2]
    exact ⟨by omega, fun d => by omega⟩
theorem RCH_ring {a : Int → Int} {z s t : Int} (hb : (0 ≤ s ∧ s < 14) ∧ (0 ≤ t ∧ t < 14)) (hr : (s = 0 ∨ s = 13) ∨ (t = 0 ∨ t = 13)) : RCH 0 (PR a 0 z) 0 0 s t := by
  have top : ∀ s : Int, 0 ≤ s → s < 14 → RCH 0 (PR a 0 z) 0 0 s 0 := fun s s0 s1 => by
    have h := RCH_l (a := a) (z := z) (s0 := 0) (t0 := 0) (ds := 1) (dt := 0) (by omega) s.toNat (fun i hi => PR_ring (by omega) (by omega))
    rw [show (0 : Int) + (s.toNat : Int) * 1 = s by omega, show (0 : Int) + (s.toNat : Int) * 0 = 0 by omega] at h
    exact h
  have col : ∀ s t : Int, (s = 0 ∨ s = 13) → 0 ≤ t → t < 14 → RCH 0 (PR a 0 z) 0 0 s t := fun s t hs t0 t1 => by
    have h := RCH_l (a := a) (z := z) (s0 := s) (t0 := 0) (ds := 0) (dt := 1) (by omega) t.toNat (fun i hi => PR_ring (by omega) (by omega))
    rw [show s + (t.toNat : Int) * 0 = s by omega, show (0 : Int) + (t.toNat : Int) * 1 = t by omega] at h
    exact RCH_t (top s (by omega) (by omega)) h
  rcases hr with hr | hr | hr
  · exact col s t hr hb.2.1 hb.2.2
  · rw [hr]; exact top s hb.1.1 hb.1.2
  · have h := RCH_l (a := a) (z := z) (s0 := 0) (t0 := 13) (ds := 1) (dt := 0) (by omega) s.toNat (fun i hi => PR_ring (by omega) (by omega))
    rw [show (0 : Int) + (s.toNat : Int) * 1 = s by omega, show (13 : Int) + (s.toNat : Int) * 0 = 13 by omega] at h
    rw [hr]
    exact RCH_t (col 0 13 (Or.inl rfl) (by omega) (by omega)) h
def u2j (u : Int) : Int := 14 * (u / 12 + 1) + (u % 12 + 1)
def j2u (j : Int) : Int := 12 * (j / 14 - 1) + (j % 14 - 1)
theorem CLS_L {a : Int → Int} {k z u : Int} (hk : 0 ≤ k ∧ k ≤ 1) (h : CLS a k z u) : LSC a k z (u2j u) ∧ ¬ u2j u = 0 := by
  obtain ⟨h1, h2, h3⟩ := h
  have hb := h1.1
  have ex : u2j u % 14 = u % 12 + 1 := by unfold u2j; omega
  have ey : u2j u / 14 = u / 12 + 1 := by unfold u2j; omega
  refine ⟨⟨by rw [ex, ey]; exact PC_PR hk h1, fun i i0 i1 hp hr => ?_⟩, by unfold u2j; omega⟩
  rw [ex, ey] at hr
  have hi := RCH_int hk h1 h3 (RCH_s hp hr)
  have b2 := hi.1.1
  refine h2 ⟨j2u i, by unfold j2u u2j at *; omega, ?_, ?_⟩
  · rw [show j2u i % 12 = i % 14 - 1 by unfold j2u; omega, show j2u i / 12 = i / 14 - 1 by unfold j2u; omega]; exact hi.1
  · rw [show j2u i % 12 = i % 14 - 1 by unfold j2u; omega, show j2u i / 12 = i / 14 - 1 by unfold j2u; omega]; exact RCH_s h1 hi.2
theorem LSC_I {a : Int → Int} {k z j : Int} (hk : 0 ≤ k ∧ k ≤ 1) (h0 : 0 ≤ j) (h : LSC a k z j) (hj : ¬ j = 0) : k = 1 ∨ ((1 ≤ j % 14 ∧ j % 14 ≤ 12) ∧ (1 ≤ j / 14 ∧ j / 14 ≤ 12)) := by
  by_cases e : k = 1
  · exact Or.inl e
  · refine Or.inr (Classical.byContradiction (fun d => ?_))
    have e0 : k = 0 := by omega
    subst e0
    have hb := h.1.1
    exact h.2 0 (by omega) (by omega) (PR_ring (by omega) (by omega)) (RCH_ring hb (by omega))
theorem LSC_C {a : Int → Int} {k z j : Int} (hk : 0 ≤ k ∧ k ≤ 1) (h0 : 0 ≤ j) (h : LSC a k z j) (hj : ¬ j = 0) : CLS a k z (j2u j) := by
  have hI := LSC_I hk h0 h hj
  have hp := PR_PC hk h.1 hI
  have hb := hp.1
  have ex : j2u j % 12 = j % 14 - 1 := by unfold j2u; omega
  have ey : j2u j / 12 = j / 14 - 1 := by unfold j2u; omega
  refine ⟨by rw [ex, ey]; exact hp, ?_, ?_⟩
  · rintro ⟨w, w1, w2, w3⟩
    rw [ex, ey] at w3
    have b2 := w2.1
    have hr := RCH_emb hk w3
    rw [show j % 14 - 1 + 1 = j % 14 by omega, show j / 14 - 1 + 1 = j / 14 by omega] at hr
    refine h.2 (u2j w) (by unfold u2j; omega) (by unfold u2j j2u at *; omega) ?_ ?_
    · rw [show u2j w % 14 = w % 12 + 1 by unfold u2j; omega, show u2j w / 14 = w / 12 + 1 by unfold u2j; omega]; exact PC_PR hk w2
    · rw [show u2j w % 14 = w % 12 + 1 by unfold u2j; omega, show u2j w / 14 = w / 12 + 1 by unfold u2j; omega]; exact hr
  · by_cases e : k = 1
    · exact Or.inl e
    · refine Or.inr ?_
      have e0 : k = 0 := by omega
      subst e0
      rintro ⟨s, t, q1, q2, q3⟩
      rw [ex, ey] at q2
      have hr := RCH_emb hk q2
      rw [show j % 14 - 1 + 1 = j % 14 by omega, show j / 14 - 1 + 1 = j / 14 by omega] at hr
      have b1 := q1.1
      unfold BRD at q3
      have ⟨s2, t2, c1, c2, c3⟩ : ∃ s2 t2 : Int, ((0 ≤ s2 ∧ s2 < 14) ∧ (0 ≤ t2 ∧ t2 < 14)) ∧ ((s2 = 0 ∨ s2 = 13) ∨ (t2 = 0 ∨ t2 = 13)) ∧ AJ 0 (s + 1) (t + 1) s2 t2 := by
        rcases q3 with (e | e) | (e | e)
        · exact ⟨0, t + 1, by omega, by omega, ⟨by omega, fun d => by omega⟩⟩
        · exact ⟨13, t + 1, by omega, by omega, ⟨by omega, fun d => by omega⟩⟩
        · exact ⟨s + 1, 0, by omega, by omega, ⟨by omega, fun d => by omega⟩⟩
        · exact ⟨s + 1, 13, by omega, by omega, ⟨by omega, fun d => by omega⟩⟩
      have hr2 := RCH_n hr (PR_ring (a := a) (z := z) c1 c2) c3
      exact h.2 0 (by omega) (by omega) (PR_ring (by omega) (by omega)) (RCH_t (RCH_ring c1 c2) (RCH_s h.1 hr2))
theorem sets_n {a : Int → Int} {k z : Int} (hk : 0 ≤ k ∧ k ≤ 1) : cnt (CLS a k z) 144 = cnt (fun j => LSC a k z j ∧ ¬ j = 0) 196 := by
  have h1 : cnt (CLS a k z) 144 ≤ cnt (fun j => LSC a k z j ∧ ¬ j = 0) 196 := by
    refine cnt_inj u2j 144 _ 196 (fun u h0 h1 hu => ⟨?_, CLS_L hk hu⟩) (fun u v u0 u1 v0 v1 _ _ h => ?_)
    · unfold u2j; omega
    · unfold u2j at h; omega
  have h2 : cnt (fun j => LSC a k z j ∧ ¬ j = 0) 196 ≤ cnt (CLS a k z) 144 := by
    refine cnt_inj j2u 196 _ 144 (fun j h0 h1 hj => ⟨?_, LSC_C hk h0 hj.1 hj.2⟩) (fun i j i0 i1 j0 j1 hi hj h => ?_)
    · have b := (PR_PC hk hj.1.1 (LSC_I hk h0 hj.1 hj.2)).1
      unfold j2u; omega
    · have b := (PR_PC hk hi.1.1 (LSC_I hk i0 hi.1 hi.2)).1
      have b2 := (PR_PC hk hj.1.1 (LSC_I hk j0 hj.1 hj.2)).1
      unfold j2u at h; omega
  omega
theorem sets_0 {a : Int → Int} {z : Int} : cnt (CLS a 0 z) 144 = cnt (LSC a 0 z) 196 - 1 := by
  rw [sets_n (by omega)]
  exact cnt_rm (m := 196) (by omega) ⟨PR_ring (by omega) (by omega), fun i i0 i1 => by omega⟩
theorem sets_1 {a : Int → Int} {z : Int} : cnt (CLS a 1 z) 144 = cnt (LSC a 1 z) 196 := by
  rw [sets_n (by omega)]
  refine cnt_c 196 (fun j j0 j1 => ⟨fun d => d.1, fun d => ⟨d, fun e => ?_⟩⟩)
  have h := PR_PC (by omega) d.1 (Or.inl rfl)
  have := h.1
  omega
