/-! rounds: from edge to edge -/
theorem nxw_e {a : Int → Int} {z x y k : Int} (hk : 0 ≤ k ∧ k < 4) (h : EDG a z x y k) : EDG a z (x + r_t1 k) (y + r_t2 k) (nxw a z (x + r_t1 k) (y + r_t2 k) k) ∧ (0 ≤ nxw a z (x + r_t1 k) (y + r_t2 k) k ∧ nxw a z (x + r_t1 k) (y + r_t2 k) k < 4) := by
  unfold nxw
  rcases r_id (EDG a z (x + r_t1 k) (y + r_t2 k) ((k + 1) % 4)) ((k + 1) % 4) (r_i (EDG a z (x + r_t1 k) (y + r_t2 k) k) k (r_i (EDG a z (x + r_t1 k) (y + r_t2 k) ((k + -1) % 4)) ((k + -1) % 4) k)) with ⟨e, c⟩ | ⟨e, c⟩
  · rw [e]; exact ⟨c, by omega⟩
  rw [e]
  rcases r_id (EDG a z (x + r_t1 k) (y + r_t2 k) k) k (r_i (EDG a z (x + r_t1 k) (y + r_t2 k) ((k + -1) % 4)) ((k + -1) % 4) k) with ⟨e2, c2⟩ | ⟨e2, c2⟩
  · rw [e2]; exact ⟨c2, hk⟩
  rw [e2]
  rcases r_id (EDG a z (x + r_t1 k) (y + r_t2 k) ((k + -1) % 4)) ((k + -1) % 4) k with ⟨e3, c3⟩ | ⟨e3, c3⟩
  · rw [e3]; exact ⟨c3, by omega⟩
  exfalso
  rcases (show k = 0 ∨ k = 1 ∨ k = 2 ∨ k = 3 by omega) with d | d | d | d <;> subst d
  · rw [show y + r_t2 0 = y from Int.add_zero y, show x + r_t1 0 = x + 1 from rfl] at c c2 c3
    rw [EDG_0] at h c2
    rw [show ((0 : Int) + 1) % 4 = 1 by decide, EDG_1, show x + 1 - 1 = x by omega] at c
    rw [show ((0 : Int) + -1) % 4 = 3 by decide, EDG_3, show x + 1 - 1 = x by omega] at c3
    by_cases p : SOL a (x + 1) y z
    · by_cases q : SOL a (x + 1) (y - 1) z
      · exact c3 ⟨q, h.2⟩
      · exact c2 ⟨p, q⟩
    · exact c ⟨h.1, p⟩
  · rw [show x + r_t1 1 = x from Int.add_zero x, show y + r_t2 1 = y + 1 from rfl] at c c2 c3
    rw [EDG_1] at h c2
    rw [show ((1 : Int) + 1) % 4 = 2 by decide, EDG_2, show y + 1 - 1 = y by omega] at c
    rw [show ((1 : Int) + -1) % 4 = 0 by decide, EDG_0, show y + 1 - 1 = y by omega] at c3
    by_cases p : SOL a (x - 1) (y + 1) z
    · by_cases q : SOL a x (y + 1) z
      · exact c3 ⟨q, h.2⟩
      · exact c2 ⟨p, q⟩
    · exact c ⟨h.1, p⟩
  · rw [show y + r_t2 2 = y from Int.add_zero y, show x + r_t1 2 = x - 1 from rfl] at c c2 c3
    rw [EDG_2] at h c2
    rw [show ((2 : Int) + 1) % 4 = 3 by decide, EDG_3] at c
    rw [show ((2 : Int) + -1) % 4 = 1 by decide, EDG_1] at c3
    by_cases p : SOL a (x - 1 - 1) (y - 1) z
    · by_cases q : SOL a (x - 1 - 1) y z
      · exact c3 ⟨q, h.2⟩
      · exact c2 ⟨p, q⟩
    · exact c ⟨h.1, p⟩
  · rw [show x + r_t1 3 = x from Int.add_zero x, show y + r_t2 3 = y - 1 from rfl] at c c2 c3
    rw [EDG_3] at h c2
    rw [show ((3 : Int) + 1) % 4 = 0 by decide, EDG_0] at c
    rw [show ((3 : Int) + -1) % 4 = 2 by decide, EDG_2] at c3
    by_cases p : SOL a x (y - 1 - 1) z
    · by_cases q : SOL a (x - 1) (y - 1 - 1) z
      · exact c3 ⟨q, h.2⟩
      · exact c2 ⟨p, q⟩
    · exact c ⟨h.1, p⟩
def EGE (a : Int → Int) (z e : Int) : Prop := (0 ≤ e ∧ e < 676) ∧ EDG a z (e / 4 % 13) (e / 52) (e % 4)
noncomputable def scE (a : Int → Int) (z e : Int) : Int := ((e / 52 + r_t2 (e % 4)) * 13 + (e / 4 % 13 + r_t1 (e % 4))) * 4 + nxw a z (e / 4 % 13 + r_t1 (e % 4)) (e / 52 + r_t2 (e % 4)) (e % 4)
theorem EDG_b {a : Int → Int} {z x y k : Int} (hk : 0 ≤ k ∧ k < 4) (h : EDG a z x y k) : (0 ≤ x + r_t1 k ∧ x + r_t1 k < 13) ∧ (0 ≤ y + r_t2 k ∧ y + r_t2 k < 13) ∧ (0 ≤ x ∧ x < 13) ∧ (0 ≤ y ∧ y < 13) := by
  rcases (show k = 0 ∨ k = 1 ∨ k = 2 ∨ k = 3 by omega) with d | d | d | d <;> subst d
  · rw [EDG_0] at h; have := SOL_b h.1
    rw [show y + r_t2 0 = y from Int.add_zero y, show x + r_t1 0 = x + 1 from rfl]; omega
  · rw [EDG_1] at h; have := SOL_b h.1
    rw [show x + r_t1 1 = x from Int.add_zero x, show y + r_t2 1 = y + 1 from rfl]; omega
  · rw [EDG_2] at h; have := SOL_b h.1
    rw [show y + r_t2 2 = y from Int.add_zero y, show x + r_t1 2 = x - 1 from rfl]; omega
  · rw [EDG_3] at h; have := SOL_b h.1
    rw [show x + r_t1 3 = x from Int.add_zero x, show y + r_t2 3 = y - 1 from rfl]; omega
theorem scE_e {a : Int → Int} {z e : Int} (h : EGE a z e) : EGE a z (scE a z e) ∧ scE a z e / 4 % 13 = e / 4 % 13 + r_t1 (e % 4) ∧ scE a z e / 52 = e / 52 + r_t2 (e % 4) ∧ scE a z e % 4 = nxw a z (e / 4 % 13 + r_t1 (e % 4)) (e / 52 + r_t2 (e % 4)) (e % 4) := by
  obtain ⟨n1, n2⟩ := nxw_e (by omega) h.2
  have hb := EDG_b (by omega) h.2
  have e1 : scE a z e / 4 % 13 = e / 4 % 13 + r_t1 (e % 4) := by unfold scE; omega
  have e2 : scE a z e / 52 = e / 52 + r_t2 (e % 4) := by unfold scE; omega
  have e3 : scE a z e % 4 = nxw a z (e / 4 % 13 + r_t1 (e % 4)) (e / 52 + r_t2 (e % 4)) (e % 4) := by unfold scE; omega
  refine ⟨⟨by unfold scE; omega, ?_⟩, e1, e2, e3⟩
  rw [e1, e2, e3]; exact n1
def RO (a : Int → Int) (z e f : Int) : Prop := ∀ Q : Int → Prop, Q e → (∀ s, Q s → Q (scE a z s)) → Q f
theorem RO_r {a : Int → Int} {z e : Int} : RO a z e e := fun _ h _ => h
theorem RO_n {a : Int → Int} {z e f : Int} (h : RO a z e f) : RO a z e (scE a z f) := fun Q h0 hs => hs _ (h Q h0 hs)
theorem RO_t {a : Int → Int} {z e f g : Int} (h : RO a z e f) (h2 : RO a z f g) : RO a z e g := fun Q h0 hs => h2 Q (h Q h0 hs) hs
theorem RO_E {a : Int → Int} {z e f : Int} (he : EGE a z e) (h : RO a z e f) : EGE a z f := h _ he (fun _ q => (scE_e q).1)
theorem cnt_al2 {p : Int → Prop} : ∀ n : Nat, (n : Int) ≤ cnt p n → ∀ k : Int, 0 ≤ k → k < n → p k
  | 0, _, k, h0, h1 => by omega
  | n + 1, h, k, h0, h1 => by
    have hb := (cnt_b (p := p) n).2
    have hc : ((n + 1 : Nat) : Int) ≤ cnt p n + r_z (p n) := h
    rcases r_zd (p n) with ⟨e, d⟩ | ⟨e, d⟩
    · rw [e] at hc; omega
    · rw [e] at hc
      by_cases c : k = n
      · rw [c]; exact d
      · exact cnt_al2 n (by omega) k h0 (by omega)
theorem cnt_new {p q : Int → Prop} {n : Nat} {j : Int} (hj : 0 ≤ j ∧ j < n) (hq : q j) (hp : ¬ p j) (ho : ∀ k, ¬ k = j → (q k ↔ p k)) : cnt q n = cnt p n + 1 := by
  have h1 := cnt_rm (q := q) hj hq
  have h2 : cnt (fun k => q k ∧ ¬ k = j) n = cnt p n := cnt_c n (fun k _ _ => by
    by_cases e : k = j
    · exact ⟨fun d => absurd e d.2, fun d => by rw [e] at d; exact absurd d hp⟩
    · exact ⟨fun d => (ho k e).mp d.1, fun d => ⟨(ho k e).mpr d, e⟩⟩)
  omega
def ROL (a : Int → Int) (z e : Int) : Prop := EGE a z e ∧ ∀ f, 0 ≤ f → f < e → EGE a z f → ¬ RO a z f e
