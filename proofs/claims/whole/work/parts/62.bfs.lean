/-! sets of cells, found breadth first -/
def AJ (k s t u v : Int) : Prop := ((-1 ≤ u - s ∧ u - s ≤ 1) ∧ (-1 ≤ v - t ∧ v - t ≤ 1)) ∧ (k = 1 → u = s ∨ v = t)
def RCH (k : Int) (P : Int → Int → Prop) (x y u v : Int) : Prop := ∀ Q : Int → Int → Prop, Q x y → (∀ s t s' t', Q s t → P s' t' → AJ k s t s' t' → Q s' t') → Q u v
theorem RCH_r {k : Int} {P : Int → Int → Prop} {x y : Int} : RCH k P x y x y := fun _ h _ => h
theorem RCH_t {k : Int} {P : Int → Int → Prop} {x y u v s t : Int} (h1 : RCH k P x y u v) (h2 : RCH k P u v s t) : RCH k P x y s t := fun Q h0 hs => h2 Q (h1 Q h0 hs) hs
theorem RCH_n {k : Int} {P : Int → Int → Prop} {x y u v s t : Int} (h1 : RCH k P x y u v) (hP : P s t) (hA : AJ k u v s t) : RCH k P x y s t := fun Q h0 hs => hs _ _ _ _ (h1 Q h0 hs) hP hA
theorem RCH_P {k : Int} {P : Int → Int → Prop} {x y u v : Int} (hp : P x y) (h : RCH k P x y u v) : P u v := h (fun s t => P s t) hp (fun _ _ _ _ _ h2 _ => h2)
theorem AJ_s {k s t u v : Int} (h : AJ k s t u v) : AJ k u v s t := by unfold AJ at *; omega
theorem RCH_s {k : Int} {P : Int → Int → Prop} {x y u v : Int} (hp : P x y) (h : RCH k P x y u v) : RCH k P u v x y :=
  (h (fun s t => P s t ∧ RCH k P s t x y) ⟨hp, RCH_r⟩ (fun _ _ _ _ hq hP hA => ⟨hP, RCH_t (RCH_n RCH_r hq.1 (AJ_s hA)) hq.2⟩)).2
def PC (a : Int → Int) (k z x y : Int) : Prop := ((0 ≤ x ∧ x < 12) ∧ (0 ≤ y ∧ y < 12)) ∧ (SOL a x y z ↔ k = 1)
def PUSH (S : q_Sg) (u : Int) : q_Sg := q_sI (q_sA (q_sA S 6 (q_up (S.2.1 6) u 1)) 7 (q_up (S.2.1 7) (S.1 7) u)) 7 (S.1 7 + 1)
def NC (S : q_Sg) (k z x y : Int) : Prop := PC (S.2.1 0) k z x y ∧ S.2.1 6 (12 * y + x) = 0 ∧ S.1 7 < 144
def NTE (S T : q_Sg) (k z x y : Int) : Prop := (NC S k z x y → T = PUSH S (12 * y + x)) ∧ (¬ NC S k z x y → T = S)
theorem PUSH_ok {S : q_Sg} {u : Int} (hS : r_ok S) (hu : rg u) (hn : rg (S.1 7 + 1)) : r_ok (PUSH S u) := r_okI (r_okA (r_okA hS (r_oku (hS.2 6) (by omega))) (r_oku (hS.2 7) hu)) hn
theorem PUSH_fr {S : q_Sg} {u : Int} : r_fr [7] [7, 6] [] S (PUSH S u) := r_frI (r_frA (r_frA r_fr0))
theorem PUSH_g {S : q_Sg} {u v : Int} : (PUSH S u).2.1 6 v = q_up (S.2.1 6) u 1 v := rfl
theorem PUSH_f {S : q_Sg} {u v : Int} : (PUSH S u).2.1 7 v = q_up (S.2.1 7) (S.1 7) u v := rfl
theorem PUSH_n {S : q_Sg} {u : Int} : (PUSH S u).1 7 = S.1 7 + 1 := rfl
theorem cnt_T : ∀ n : Nat, cnt (fun _ => True) n = n
  | 0 => rfl
  | n + 1 => by
    show cnt (fun _ => True) n + r_z True = _
    rw [cnt_T n, r_z1 trivial]; omega
def BF (a : Int → Int) (k z x0 y0 : Int) (old : Int → Prop) (S : q_Sg) : Prop :=
  (0 ≤ S.1 7 ∧ S.1 7 ≤ 144) ∧ (∀ i, 0 ≤ i → i < S.1 7 → (0 ≤ S.2.1 7 i ∧ S.2.1 7 i < 144) ∧ RCH k (PC a k z) x0 y0 (S.2.1 7 i % 12) (S.2.1 7 i / 12) ∧ PC a k z (S.2.1 7 i % 12) (S.2.1 7 i / 12) ∧ ¬ old (S.2.1 7 i)) ∧ (∀ i j, 0 ≤ i → i < S.1 7 → 0 ≤ j → j < S.1 7 → S.2.1 7 i = S.2.1 7 j → i = j) ∧ (∀ v, 0 ≤ v → v < 144 → (¬ S.2.1 6 v = 0 ↔ old v ∨ ∃ i, (0 ≤ i ∧ i < S.1 7) ∧ S.2.1 7 i = v))
def NA (a : Int → Int) (k z x0 y0 : Int) (old : Int → Prop) (S T : q_Sg) : Prop :=
  r_ok T ∧ r_fr [7] [7, 6] [] S T ∧ BF a k z x0 y0 old T ∧ (∀ i, i < S.1 7 → T.2.1 7 i = S.2.1 7 i) ∧ S.1 7 ≤ T.1 7 ∧ (∀ v, ¬ S.2.1 6 v = 0 → ¬ T.2.1 6 v = 0)
/-- while an unseen cell is left, fewer than all are found -/
theorem BF_c {a : Int → Int} {k z x0 y0 u : Int} {old : Int → Prop} {S : q_Sg} (h : BF a k z x0 y0 old S) (hu : 0 ≤ u ∧ u < 144) (hg : S.2.1 6 u = 0) : S.1 7 < 144 := by
  have h00 := h.1
  have hne : ∀ i, 0 ≤ i → i < S.1 7 → ¬ S.2.1 7 i = u := fun i h0 h1 e => ((h.2.2.2 u hu.1 hu.2).mpr (Or.inr ⟨i, ⟨h0, h1⟩, e⟩)) hg
  have hc := cnt_inj (p := fun _ => True) (fun i => if i = S.1 7 then u else S.2.1 7 i) ((S.1 7).toNat + 1) (fun _ => True) 144
    (fun i h0 h1 _ => ⟨by
      show 0 ≤ (if i = S.1 7 then u else S.2.1 7 i) ∧ (if i = S.1 7 then u else S.2.1 7 i) < 144
      by_cases e : i = S.1 7
      · rw [if_pos e]; exact hu
      · rw [if_neg e]; exact (h.2.1 i h0 (by omega)).1, trivial⟩)
    (fun i j i0 i1 j0 j1 _ _ e => by
      by_cases e1 : i = S.1 7
      · by_cases e2 : j = S.1 7
        · rw [e1, e2]
        · rw [if_pos e1, if_neg e2] at e; exact absurd e.symm (hne j j0 (by omega))
      · by_cases e2 : j = S.1 7
        · rw [if_neg e1, if_pos e2] at e; exact absurd e (hne i i0 (by omega))
        · rw [if_neg e1, if_neg e2] at e; exact h.2.2.1 i j i0 (by omega) j0 (by omega) e)
  rw [cnt_T, cnt_T] at hc
  have := h.1
  omega
theorem BF_p {a : Int → Int} {k z x0 y0 x y : Int} {old : Int → Prop} {S : q_Sg} (h : BF a k z x0 y0 old S) (hp : PC a k z x y) (hr : RCH k (PC a k z) x0 y0 x y) (ho : ¬ old (12 * y + x)) (hg : S.2.1 6 (12 * y + x) = 0) (hc : S.1 7 < 144) : BF a k z x0 y0 old (PUSH S (12 * y + x)) := by
  have hb := hp.1
  have h0 := h.1
  have hne : ∀ i, 0 ≤ i → i < S.1 7 → ¬ S.2.1 7 i = 12 * y + x := fun i h0 h1 e => ((h.2.2.2 _ (by omega) (by omega)).mpr (Or.inr ⟨i, ⟨h0, h1⟩, e⟩)) hg
  have ex : (12 * y + x) % 12 = x := by omega
  have ey : (12 * y + x) / 12 = y := by omega
  have fn : q_up (S.2.1 7) (S.1 7) (12 * y + x) (S.1 7) = 12 * y + x := by unfold q_up; rw [if_pos rfl]
  have fo : ∀ i, ¬ i = S.1 7 → q_up (S.2.1 7) (S.1 7) (12 * y + x) i = S.2.1 7 i := fun i d => by unfold q_up; rw [if_neg d]
  refine ⟨by rw [PUSH_n]; omega, fun i i0 i1 => ?_, fun i j i0 i1 j0 j1 e => ?_, fun v v0 v1 => ?_⟩
  · rw [PUSH_n] at i1
    rw [PUSH_f]
    by_cases d : i = S.1 7
    · rw [d, fn, ex, ey]; exact ⟨by omega, hr, hp, ho⟩
    · rw [fo i d]; exact h.2.1 i i0 (by omega)
  · rw [PUSH_n] at i1 j1
    rw [PUSH_f, PUSH_f] at e
    by_cases d : i = S.1 7
    · by_cases d2 : j = S.1 7
      · rw [d, d2]
      · rw [d, fn, fo j d2] at e; exact absurd e.symm (hne j j0 (by omega))
    · by_cases d2 : j = S.1 7
      · rw [d2, fn, fo i d] at e; exact absurd e (hne i i0 (by omega))
      · rw [fo i d, fo j d2] at e; exact h.2.2.1 i j i0 (by omega) j0 (by omega) e
  · rw [PUSH_g, PUSH_n]
    unfold q_up
    by_cases d : v = 12 * y + x
    · rw [if_pos d]
      exact ⟨fun _ => Or.inr ⟨S.1 7, by omega, by rw [PUSH_f, fn, d]⟩, fun _ => by omega⟩
    · rw [if_neg d]
      refine (h.2.2.2 v v0 v1).trans ⟨fun q => q.imp id (fun ⟨i, i0, i1⟩ => ⟨i, by omega, by rw [PUSH_f, fo i (by omega)]; exact i1⟩), fun q => q.imp id (fun ⟨i, i0, i1⟩ => ?_)⟩
      rw [PUSH_f] at i1
      by_cases d2 : i = S.1 7
      · rw [d2, fn] at i1; exact absurd i1.symm d
      · rw [fo i d2] at i1; exact ⟨i, by omega, i1⟩
theorem NA_n {a : Int → Int} {k z x0 y0 x y : Int} {old : Int → Prop} {S T U : q_Sg} (h : NA a k z x0 y0 old S T) (hn : NTE T U k z x y) (ha : T.2.1 0 = a) (hp : PC a k z x y → RCH k (PC a k z) x0 y0 x y ∧ ¬ old (12 * y + x)) : NA a k z x0 y0 old S U ∧ (PC a k z x y → ¬ U.2.1 6 (12 * y + x) = 0) ∧ ∀ v, ¬ T.2.1 6 v = 0 → ¬ U.2.1 6 v = 0 := by
  obtain ⟨h1, h2, h3, h4, h5, h6⟩ := h
  by_cases c : NC T k z x y
  · have e := hn.1 c
    unfold NC at c
    rw [ha] at c
    obtain ⟨c1, c2, c3⟩ := c
    have hb := c1.1
    have hm : ∀ v, ¬ T.2.1 6 v = 0 → ¬ U.2.1 6 v = 0 := fun v hv => by
      rw [e, PUSH_g]; unfold q_up; split
      · omega
      · exact hv
    have h30 := h3.1
    refine ⟨⟨by rw [e]; exact PUSH_ok h1 (by omega) (by omega), by rw [e]; exact r_frm (r_frt h2 PUSH_fr) (by decide) (by decide) (by decide), by rw [e]; exact BF_p h3 c1 (hp c1).1 (hp c1).2 c2 c3, fun i hi => ?_, by rw [e, PUSH_n]; omega, fun v hv => hm v (h6 v hv)⟩, fun _ => ?_, hm⟩
    · rw [e, PUSH_f]; unfold q_up; rw [if_neg (by omega)]; exact h4 i hi
    · rw [e, PUSH_g]; unfold q_up; rw [if_pos rfl]; omega
  · have e := hn.2 c
    rw [e]
    refine ⟨⟨h1, h2, h3, h4, h5, h6⟩, fun hq hz => ?_, fun v hv => hv⟩
    have hb := hq.1
    exact c ⟨by rw [ha]; exact hq, hz, BF_c h3 (by omega) hz⟩
def BRD (s t : Int) : Prop := (s = 0 ∨ s = 11) ∨ (t = 0 ∨ t = 11)
def OLD (a : Int → Int) (k z u v : Int) : Prop := ∃ w, (0 ≤ w ∧ w < u) ∧ PC a k z (w % 12) (w / 12) ∧ RCH k (PC a k z) (w % 12) (w / 12) (v % 12) (v / 12)
def CLS (a : Int → Int) (k z u : Int) : Prop := PC a k z (u % 12) (u / 12) ∧ ¬ OLD a k z u u ∧ (k = 1 ∨ ¬ ∃ s t, PC a k z s t ∧ RCH k (PC a k z) (u % 12) (u / 12) s t ∧ BRD s t)
theorem OLD_c {a : Int → Int} {k z u s t s' t' : Int} (h1 : PC a k z s t) (h2 : PC a k z s' t') (h3 : AJ k s t s' t') (ho : OLD a k z u (12 * t' + s')) : OLD a k z u (12 * t + s) := by
  obtain ⟨w, w1, w2, w3⟩ := ho
  have b1 := h1.1
  have b2 := h2.1
  rw [show (12 * t' + s') % 12 = s' by omega, show (12 * t' + s') / 12 = t' by omega] at w3
  exact ⟨w, w1, w2, by rw [show (12 * t + s) % 12 = s by omega, show (12 * t + s) / 12 = t by omega]; exact RCH_n w3 h1 (AJ_s h3)⟩
theorem OLD_s {a : Int → Int} {k z u v : Int} (h0 : 0 ≤ u) : OLD a k z (u + 1) v ↔ OLD a k z u v ∨ (PC a k z (u % 12) (u / 12) ∧ RCH k (PC a k z) (u % 12) (u / 12) (v % 12) (v / 12)) :=
  ⟨fun ⟨w, w1, w2, w3⟩ => by
    by_cases e : w = u
    · rw [e] at w2 w3; exact Or.inr ⟨w2, w3⟩
    · exact Or.inl ⟨w, by omega, w2, w3⟩, fun h => h.elim (fun ⟨w, w1, w2⟩ => ⟨w, by omega, w2⟩) (fun h => ⟨u, by omega, h⟩)⟩
theorem OLD_d {a : Int → Int} {k z u v : Int} (h : OLD a k z u u) (hv : RCH k (PC a k z) (u % 12) (u / 12) (v % 12) (v / 12)) : OLD a k z u v := by
  obtain ⟨w, w1, w2, w3⟩ := h
  exact ⟨w, w1, w2, RCH_t w3 hv⟩
theorem AJ_9 {Q : Int → Int → Prop} {k x y s t : Int} (hk : 0 ≤ k ∧ k ≤ 1) (hA : AJ k x y s t) (h0 : Q x y) (h4 : ∀ j, 0 ≤ j → j < 4 → Q (x + r_t1 j) (y + r_t2 j)) (h8 : k = 0 → ∀ j, 0 ≤ j → j < 4 → Q (x + r_t1 j + r_t1 ((j + 1) % 4)) (y + r_t2 j + r_t2 ((j + 1) % 4))) : Q s t := by
  unfold AJ at hA
  have a0 := h4 0 (by omega) (by omega)
  have a1 := h4 1 (by omega) (by omega)
  have a2 := h4 2 (by omega) (by omega)
  have a3 := h4 3 (by omega) (by omega)
  change Q (x + 1) (y + 0) at a0
  change Q (x + 0) (y + 1) at a1
  change Q (x + -1) (y + 0) at a2
  change Q (x + 0) (y + -1) at a3
  by_cases e : k = 1
  · rcases hA.2 e with e1 | e1
    · rcases (show t = y + 0 ∨ t = y + 1 ∨ t = y + -1 by omega) with e2 | e2 | e2
      · rw [e1, e2, Int.add_zero]; exact h0
      · rw [show s = x + 0 by omega, e2]; exact a1
      · rw [show s = x + 0 by omega, e2]; exact a3
    · rcases (show s = x + 0 ∨ s = x + 1 ∨ s = x + -1 by omega) with e2 | e2 | e2
      · rw [e1, e2, Int.add_zero]; exact h0
      · rw [show t = y + 0 by omega, e2]; exact a0
      · rw [show t = y + 0 by omega, e2]; exact a2
  · have b0 := h8 (by omega) 0 (by omega) (by omega)
    have b1 := h8 (by omega) 1 (by omega) (by omega)
    have b2 := h8 (by omega) 2 (by omega) (by omega)
    have b3 := h8 (by omega) 3 (by omega) (by omega)
    change Q (x + 1 + 0) (y + 0 + 1) at b0
    change Q (x + 0 + -1) (y + 1 + 0) at b1
    change Q (x + -1 + 0) (y + 0 + -1) at b2
    change Q (x + 0 + 1) (y + -1 + 0) at b3
    rcases (show (s = x ∧ t = y) ∨ (s = x + 1 ∧ t = y + 0) ∨ (s = x + 0 ∧ t = y + 1) ∨ (s = x + -1 ∧ t = y + 0) ∨ (s = x + 0 ∧ t = y + -1) ∨ (s = x + 1 + 0 ∧ t = y + 0 + 1) ∨ (s = x + 0 + -1 ∧ t = y + 1 + 0) ∨ (s = x + -1 + 0 ∧ t = y + 0 + -1) ∨ (s = x + 0 + 1 ∧ t = y + -1 + 0) by omega) with ⟨e1, e2⟩ | ⟨e1, e2⟩ | ⟨e1, e2⟩ | ⟨e1, e2⟩ | ⟨e1, e2⟩ | ⟨e1, e2⟩ | ⟨e1, e2⟩ | ⟨e1, e2⟩ | ⟨e1, e2⟩ <;> rw [e1, e2] <;> assumption
/-- what is found when nothing is left to look at is the whole set -/
theorem BF_e {a : Int → Int} {k z x0 y0 : Int} {old : Int → Prop} {T : q_Sg} (h : BF a k z x0 y0 old T) (hp : PC a k z x0 y0) (h0 : 0 < T.1 7 ∧ T.2.1 7 0 = 12 * y0 + x0) (ho : ∀ s t s' t', PC a k z s t → PC a k z s' t' → AJ k s t s' t' → old (12 * t' + s') → old (12 * t + s)) (hc : ∀ j, 0 ≤ j → j < T.1 7 → ∀ s t, PC a k z s t → AJ k (T.2.1 7 j % 12) (T.2.1 7 j / 12) s t → ¬ T.2.1 6 (12 * t + s) = 0) : ∀ s t, RCH k (PC a k z) x0 y0 s t → ∃ j, (0 ≤ j ∧ j < T.1 7) ∧ T.2.1 7 j = 12 * t + s := fun s t hr =>
  (hr (fun s t => PC a k z s t ∧ ∃ j, (0 ≤ j ∧ j < T.1 7) ∧ T.2.1 7 j = 12 * t + s) ⟨hp, 0, ⟨by omega, h0.1⟩, h0.2⟩ (fun s t s' t' ⟨q1, j, j1, j2⟩ hP hA => by
    refine ⟨hP, ?_⟩
    have b1 := q1.1
    have b2 := hP.1
    have hx : T.2.1 7 j % 12 = s := by omega
    have hy : T.2.1 7 j / 12 = t := by omega
    have hg := hc j j1.1 j1.2 s' t' hP (by rw [hx, hy]; exact hA)
    rcases (h.2.2.2 _ (by omega) (by omega)).mp hg with q | ⟨i, i1, i2⟩
    · exact absurd (by rw [j2]; exact ho s t s' t' q1 hP hA q) (h.2.1 j j1.1 j1.2).2.2.2
    · exact ⟨i, i1, i2⟩)).2
