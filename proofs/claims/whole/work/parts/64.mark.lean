/-! marks that spread: the sets of the reference -/
theorem r_slocOA {L : qL} {h : qH} {Q : qQ} {i : Nat} {e : qE} {B D : qB} {p q : Prop} {R : Value → qH → Prop} (k0 : r_B B L h p) (k : p → r_C e L h R) (kd : ∀ h2, r_B D L h2 q) (k1 : p → ∀ v h2, R v h2 → ∃ z, v = iv z ∧ rg z ∧ Q (0, .null) (q_stL L i (r_b (¬ z = 0 ∨ q))) h2) (k2 : ¬ p → Q (0, .null) (q_stL L i (r_b q)) h) : wS (q_sLoc 0 i (q_eIf (q_cOr (q_cAnd B (q_cCmp0 q_zne e)) D) (q_eLit (.int 1)) (q_eLit (.int 0)))) L h Q := by
  have fin : ∀ (h2 : qH) (pp : Prop) (b : Bool), (b = true ↔ pp) → q_cOr (q_cAnd B (q_cCmp0 q_zne e)) D L h = some (.inl b, h2) → Q (0, .null) (q_stL L i (r_b pp)) h2 → wS (q_sLoc 0 i (q_eIf (q_cOr (q_cAnd B (q_cCmp0 q_zne e)) D) (q_eLit (.int 1)) (q_eLit (.int 0)))) L h Q := by
    intro h2 pp b hb e0 hq
    refine r_slocC (R := fun v h3 => v = r_b pp ∧ h3 = h2) ⟨r_b pp, h2, ?_, rfl, rfl⟩ ?_
    · show q_bB (q_cOr (q_cAnd B (q_cCmp0 q_zne e)) D L h) _ = _
      rw [e0]
      cases b
      · rw [← r_b0 (fun d => by cases hb.mpr d)]; rfl
      · rw [← r_b1 (hb.mp rfl)]; rfl
    · rintro _ _ ⟨rfl, rfl⟩; exact ⟨rfl, hq⟩
  obtain ⟨t, e1, ht⟩ := k0
  cases t
  · have hp : ¬ p := fun d => by cases ht.mpr d
    obtain ⟨t2, e2, ht2⟩ := kd h
    refine fin h q t2 ht2 ?_ (k2 hp)
    show q_bB (q_bB (B L h) _) _ = _
    rw [e1]; exact e2
  · have hp := ht.mp rfl
    obtain ⟨v, h2, e2, r⟩ := k hp
    obtain ⟨z, rfl, hz, hq⟩ := k1 hp v h2 r
    obtain ⟨t3, e3, ht3⟩ := r_z_ne (a := q_eLit (iv z)) (L := L) (h := h2) rfl hz
    have e4 : q_cAnd B (q_cCmp0 q_zne e) L h = some (.inl t3, h2) := by
      show q_bB (B L h) _ = _
      rw [e1]
      show q_bE (e L h) _ = _
      rw [e2]; exact e3
    cases t3
    · obtain ⟨t5, e5, ht5⟩ := kd h2
      refine fin h2 _ t5 (ht5.trans ⟨Or.inr, fun d => d.elim (fun d => by cases ht3.mpr d) id⟩) ?_ hq
      show q_bB (q_cAnd B (q_cCmp0 q_zne e) L h) _ = _
      rw [e4]; exact e5
    · refine fin h2 _ true ⟨fun _ => Or.inl (ht3.mp rfl), fun _ => rfl⟩ ?_ hq
      show q_bB (q_cAnd B (q_cCmp0 q_zne e) L h) _ = _
      rw [e4]; rfl
noncomputable def lowr (C : Prop) (gi gk : Int) : Int := r_i (¬ r_i C gi (-1) = -1 ∧ r_i C gi (-1) < gk) (r_i C gi (-1)) gk
theorem lowr_s (C : Prop) (gi gk : Int) : (lowr C gi gk = gk ∨ (C ∧ ¬ gi = -1 ∧ lowr C gi gk = gi)) ∧ lowr C gi gk ≤ gk ∧ (C → ¬ gi = -1 → lowr C gi gk ≤ gi) := by
  unfold lowr
  rcases r_id C gi (-1) with ⟨e, c⟩ | ⟨e, c⟩
  · rw [e]
    rcases r_id (¬ gi = -1 ∧ gi < gk) gi gk with ⟨e2, c2⟩ | ⟨e2, c2⟩
    · rw [e2]; exact ⟨Or.inr ⟨c, c2.1, rfl⟩, by omega, fun _ _ => by omega⟩
    · rw [e2]; exact ⟨Or.inl rfl, by omega, fun _ d => by omega⟩
  · rw [e, r_i0 (fun d => d.1 rfl)]; exact ⟨Or.inl rfl, by omega, fun d => absurd d c⟩
def NBR (s k j : Int) : Prop := (0 ≤ j ∧ j < 196) ∧ AJ s (k % 14) (k / 14) (j % 14) (j / 14)
def SPR (s k : Int) (M g : Int → Int) : Prop := (∀ j, ¬ j = k → g j = M j) ∧ (g k = M k ∨ ∃ j, NBR s k j ∧ ¬ M j = -1 ∧ g k = M j) ∧ g k ≤ M k ∧ (∀ j, NBR s k j → ¬ M j = -1 → g k ≤ M j) ∧ ∀ j, rg (g j)
def cxT (s k t : Int) : Prop := ((0 ≤ k % 14 + t % 3 - 1 ∧ k % 14 + t % 3 - 1 ≤ 13) ∧ (0 ≤ k / 14 + t / 3 - 1 ∧ k / 14 + t / 3 - 1 ≤ 13)) ∧ (¬ ¬ s = 0 ∨ t % 2 = 1)
def ixT (k t : Int) : Int := 14 * (k / 14 + t / 3 - 1) + (k % 14 + t % 3 - 1)
theorem cxT_n {s k t : Int} (hs : 0 ≤ s ∧ s ≤ 1) (ht : 0 ≤ t ∧ t < 9) (h : cxT s k t) : NBR s k (ixT k t) := by
  unfold cxT at h
  unfold NBR ixT AJ
  obtain ⟨⟨h1, h2⟩, h3⟩ := h
  rw [show (14 * (k / 14 + t / 3 - 1) + (k % 14 + t % 3 - 1)) % 14 = k % 14 + t % 3 - 1 by omega, show (14 * (k / 14 + t / 3 - 1) + (k % 14 + t % 3 - 1)) / 14 = k / 14 + t / 3 - 1 by omega]
  refine ⟨by omega, by omega, fun e => ?_⟩
  rcases (show t = 0 ∨ t = 1 ∨ t = 2 ∨ t = 3 ∨ t = 4 ∨ t = 5 ∨ t = 6 ∨ t = 7 ∨ t = 8 by omega) with d | d | d | d | d | d | d | d | d <;> subst d <;> omega
theorem cxT_e {s k j : Int} (hs : 0 ≤ s ∧ s ≤ 1) (hn : NBR s k j) : j = k ∨ ∃ t, (0 ≤ t ∧ t < 9) ∧ cxT s k t ∧ ixT k t = j := by
  obtain ⟨h1, h2, h3⟩ := hn
  by_cases e : j = k
  · exact Or.inl e
  · refine Or.inr ⟨3 * (j / 14 - k / 14 + 1) + (j % 14 - k % 14 + 1), by omega, ?_, ?_⟩
    · unfold cxT
      rw [show (3 * (j / 14 - k / 14 + 1) + (j % 14 - k % 14 + 1)) % 3 = j % 14 - k % 14 + 1 by omega, show (3 * (j / 14 - k / 14 + 1) + (j % 14 - k % 14 + 1)) / 3 = j / 14 - k / 14 + 1 by omega]
      refine ⟨by omega, ?_⟩
      by_cases d : s = 0
      · exact Or.inl (fun q => q d)
      · have := h3 (by omega)
        exact Or.inr (by omega)
    · unfold ixT; omega
def PR (a : Int → Int) (k z s t : Int) : Prop := ((0 ≤ s ∧ s < 14) ∧ (0 ≤ t ∧ t < 14)) ∧ r_z (SOL a (s - 1) (t - 1) z) = k
def MK (a : Int → Int) (k z : Int) (M : Int → Int) : Prop := ∀ j, 0 ≤ j → j < 196 → (PR a k z (j % 14) (j / 14) → (0 ≤ M j ∧ M j ≤ j) ∧ PR a k z (M j % 14) (M j / 14) ∧ RCH k (PR a k z) (M j % 14) (M j / 14) (j % 14) (j / 14)) ∧ (¬ PR a k z (j % 14) (j / 14) → M j = -1)
def FIX (a : Int → Int) (k z : Int) (M : Int → Int) (n : Int) : Prop := ∀ j, 0 ≤ j → j < n → PR a k z (j % 14) (j / 14) → ∀ i, NBR k j i → ¬ M i = -1 → M j ≤ M i
theorem MK_p {a : Int → Int} {k z : Int} {M : Int → Int} (h : MK a k z M) {j : Int} (h0 : 0 ≤ j ∧ j < 196) : ¬ M j = -1 ↔ PR a k z (j % 14) (j / 14) := by
  have hj := h j h0.1 h0.2
  by_cases c : PR a k z (j % 14) (j / 14)
  · have := (hj.1 c).1
    exact ⟨fun _ => c, fun _ => by omega⟩
  · exact ⟨fun d => absurd (hj.2 c) d, fun d => absurd d c⟩
theorem MK_b {a : Int → Int} {k z : Int} {M : Int → Int} (h : MK a k z M) {j : Int} (h0 : 0 ≤ j ∧ j < 196) : -1 ≤ M j ∧ M j ≤ 195 := by
  have hj := h j h0.1 h0.2
  by_cases c : PR a k z (j % 14) (j / 14)
  · have := (hj.1 c).1; omega
  · have := hj.2 c; omega
theorem MK_s {a : Int → Int} {k z j : Int} {M g : Int → Int} (hM : MK a k z M) (h0 : 0 ≤ j ∧ j < 196) (hn : ¬ M j = -1) (hs : SPR k j M g) : MK a k z g := fun i i0 i1 => by
  by_cases e : i = j
  · have hp := (MK_p hM h0).mp hn
    have hj := (hM j h0.1 h0.2).1 hp
    rw [e]
    refine ⟨fun _ => ?_, fun d => absurd hp d⟩
    rcases hs.2.1 with d | ⟨u, ⟨u1, u2⟩, u3, u4⟩
    · rw [d]; exact hj
    · have hpu := (MK_p hM u1).mp u3
      have hu := (hM u u1.1 u1.2).1 hpu
      have hle := hs.2.2.1
      rw [u4] at hle ⊢
      exact ⟨⟨hu.1.1, by omega⟩, hu.2.1, RCH_n hu.2.2 hp (AJ_s u2)⟩
  · rw [hs.1 i e]; exact hM i i0 i1
def LSC (a : Int → Int) (k z j : Int) : Prop := PR a k z (j % 14) (j / 14) ∧ ∀ i, 0 ≤ i → i < j → PR a k z (i % 14) (i / 14) → ¬ RCH k (PR a k z) (i % 14) (i / 14) (j % 14) (j / 14)
/-- when nothing spreads any more, the least of each set bears its own number, and no other cell does -/
theorem MK_e {a : Int → Int} {k z : Int} {M : Int → Int} (hM : MK a k z M) (hF : FIX a k z M 196) {j : Int} (h0 : 0 ≤ j ∧ j < 196) : M j = j ↔ LSC a k z j := by
  have hle : ∀ i u, 0 ≤ i → i < 196 → 0 ≤ u → u < 196 → PR a k z (i % 14) (i / 14) → RCH k (PR a k z) (i % 14) (i / 14) (u % 14) (u / 14) → M u ≤ M i := fun i u i0 i1 u0 u1 hi hr => by
    have hq := (hr (fun s t => PR a k z s t ∧ M (14 * t + s) ≤ M i) ⟨hi, by rw [show 14 * (i / 14) + i % 14 = i by omega]; exact Int.le_refl _⟩ (fun s t s' t' ⟨q1, q2⟩ hP hA => by
      have b1 := q1.1
      have b2 := hP.1
      refine ⟨hP, ?_⟩
      have hx : (14 * t' + s') % 14 = s' := by omega
      have hy : (14 * t' + s') / 14 = t' := by omega
      have hx2 : (14 * t + s) % 14 = s := by omega
      have hy2 : (14 * t + s) / 14 = t := by omega
      have := hF (14 * t' + s') (by omega) (by omega) (by rw [hx, hy]; exact hP) (14 * t + s) ⟨by omega, by rw [hx, hy, hx2, hy2]; exact AJ_s hA⟩ ((MK_p hM (by omega)).mpr (by rw [hx2, hy2]; exact q1))
      omega)).2
    rw [show 14 * (u / 14) + u % 14 = u by omega] at hq; exact hq
  constructor
  · intro e
    have hp := (MK_p hM h0).mp (by omega)
    refine ⟨hp, fun i i0 i1 hi hr => ?_⟩
    have h1 := hle i j i0 (by omega) h0.1 h0.2 hi hr
    have h2 := ((hM i i0 (by omega)).1 hi).1
    omega
  · intro hl
    have hj := (hM j h0.1 h0.2).1 hl.1
    by_cases e : M j = j
    · exact e
    · exact absurd hj.2.2 (hl.2 (M j) hj.1.1 (by omega) hj.2.1)
theorem suml_b {g : Int → Int} : ∀ n : Nat, (∀ j : Int, 0 ≤ j → j < n → -1 ≤ g j ∧ g j ≤ 195) → -(n : Int) ≤ suml g n ∧ suml g n ≤ 195 * (n : Int)
  | 0, _ => by constructor <;> exact Int.le_refl _
  | n + 1, h => by
    have h1 := suml_b n (fun j j0 j1 => h j j0 (by omega))
    have h2 := h n (by omega) (by omega)
    show -((n + 1 : Nat) : Int) ≤ suml g n + g n ∧ suml g n + g n ≤ 195 * ((n + 1 : Nat) : Int)
    omega
theorem suml_p {s j : Int} {M g : Int → Int} (h : SPR s j M g) (h0 : 0 ≤ j ∧ j < 196) : suml g 196 = suml M 196 + (g j - M j) := by
  have e : g = q_up M j (g j) := funext fun i => by
    unfold q_up
    by_cases c : i = j
    · rw [if_pos c, c]
    · rw [if_neg c]; exact h.1 i c
  rw [e, suml_u]
  have : q_up M j (g j) j = g j := by unfold q_up; exact if_pos rfl
  rw [this, if_pos (by omega)]
