/-! the document's words over a body: a solid cell is one whose number is not 0 -/
abbrev inc (x y z : Int) : Prop := (0 ≤ x ∧ x < 12) ∧ (0 ≤ y ∧ y < 12) ∧ (0 ≤ z ∧ z < 12)
def SOL (a : Int → Int) (x y z : Int) : Prop := inc x y z ∧ ¬ a (144 * z + 12 * y + x) = 0
def HNG (a : Int → Int) (x y z : Int) : Prop := ¬ z = 0 ∧ SOL a x y z ∧ ¬ SOL a x y (z - 1) ∧ ¬ SOL a (x + 1) y (z - 1) ∧ ¬ SOL a x (y + 1) (z - 1) ∧ ¬ SOL a (x - 1) y (z - 1) ∧ ¬ SOL a x (y - 1) (z - 1)
noncomputable def cnt (p : Int → Prop) : Nat → Int
  | 0 => 0
  | n + 1 => cnt p n + r_z (p n)
theorem cnt_0 {p : Int → Prop} : cnt p 0 = 0 := rfl
theorem cnt_s {p : Int → Prop} {k : Int} (h : 0 ≤ k) : cnt p (k + 1).toNat = cnt p k.toNat + r_z (p k) := by
  have e : (k + 1).toNat = k.toNat + 1 := by omega
  rw [e]
  show cnt p k.toNat + r_z (p (k.toNat : Int)) = _
  rw [Int.toNat_of_nonneg h]
theorem cnt_t {p : Int → Prop} {k : Int} (h : 0 ≤ k) (c : p k) : cnt p (k + 1).toNat = cnt p k.toNat + 1 := by rw [cnt_s h, r_z1 c]
theorem cnt_f {p : Int → Prop} {k : Int} (h : 0 ≤ k) (c : ¬ p k) : cnt p (k + 1).toNat = cnt p k.toNat := by rw [cnt_s h, r_z0 c]; omega
theorem cnt_b {p : Int → Prop} : ∀ n : Nat, 0 ≤ cnt p n ∧ cnt p n ≤ n
  | 0 => ⟨Int.le_refl _, Int.le_refl _⟩
  | n + 1 => by
    have h := cnt_b (p := p) n
    show 0 ≤ cnt p n + r_z (p n) ∧ cnt p n + r_z (p n) ≤ ((n + 1 : Nat) : Int)
    rcases r_zd (p n) with ⟨a, _⟩ | ⟨a, _⟩ <;> omega
theorem cnt_c {p q : Int → Prop} : ∀ n : Nat, (∀ k : Int, 0 ≤ k → k < n → (p k ↔ q k)) → cnt p n = cnt q n
  | 0, _ => rfl
  | n + 1, h => by
    show cnt p n + r_z (p n) = cnt q n + r_z (q n)
    rw [cnt_c n (fun k h0 h1 => h k h0 (by omega)), r_zc (h n (by omega) (by omega))]
theorem r_t1b (k : Int) : -1 ≤ r_t1 k ∧ r_t1 k ≤ 1 := by unfold r_t1; repeat' split <;> omega
theorem r_t2b (k : Int) : -1 ≤ r_t2 k ∧ r_t2 k ≤ 1 := by unfold r_t2; repeat' split <;> omega
theorem r_t3b (k : Int) : -1 ≤ r_t3 k ∧ r_t3 k ≤ 1 := by unfold r_t3; repeat' split <;> omega
theorem r_t4b (k : Int) : -1 ≤ r_t4 k ∧ r_t4 k ≤ 1 := by unfold r_t4; repeat' split <;> omega
theorem cnt_k {p : Int → Prop} {m : Nat} : ∀ n : Nat, m ≤ n → (∀ k : Int, m ≤ k → k < n → ¬ p k) → cnt p n = cnt p m
  | 0, h, _ => by rw [Nat.le_zero.mp h]
  | n + 1, h, hk => by
    by_cases e : m = n + 1
    · rw [e]
    · show cnt p n + r_z (p n) = _
      rw [cnt_k n (by omega) (fun k h0 h1 => hk k h0 (by omega)), r_z0 (hk n (by omega) (by omega))]
      omega
/-- the first place from s on, before e, or e -/
def isF (p : Int → Prop) (s e r : Int) : Prop := (s ≤ r ∧ r ≤ e) ∧ (∀ k, s ≤ k → k < r → ¬ p k) ∧ (r < e → p r)
theorem isF_u {p : Int → Prop} {s e r t : Int} (h : isF p s e r) (k : isF p s e t) : r = t := by
  obtain ⟨⟨h1, h2⟩, h3, h4⟩ := h
  obtain ⟨⟨k1, k2⟩, k3, k4⟩ := k
  by_cases c : r < t
  · exact absurd (h4 (by omega)) (k3 r h1 c)
  · by_cases d : t < r
    · exact absurd (k4 (by omega)) (h3 t k1 d)
    · omega
noncomputable def srch (p : Int → Prop) (s : Int) : Nat → Int
  | 0 => s
  | n + 1 => r_i (p s) s (srch p (s + 1) n)
theorem srch_F {p : Int → Prop} : ∀ (n : Nat) (s : Int), isF p s (s + n) (srch p s n)
  | 0, s => ⟨⟨Int.le_refl _, by show s ≤ s + 0; omega⟩, fun k h0 h1 => by have h1 : k < s := h1; omega, fun h => by have h : s < s + (0 : Nat) := h; omega⟩
  | n + 1, s => by
    show isF p s _ (r_i (p s) s (srch p (s + 1) n))
    rcases r_id (p s) s (srch p (s + 1) n) with ⟨e, h⟩ | ⟨e, h⟩
    · rw [e]; exact ⟨by omega, fun k h0 h1 => by omega, fun _ => h⟩
    · rw [e]
      obtain ⟨⟨h1, h2⟩, h3, h4⟩ := srch_F (p := p) n (s + 1)
      refine ⟨by omega, fun k k0 k1 => ?_, fun c => h4 (by omega)⟩
      by_cases d : k = s
      · rw [d]; exact h
      · exact h3 k (by omega) k1
noncomputable def fst (p : Int → Prop) (s e : Int) : Int := srch p s (e - s).toNat
theorem fst_F {p : Int → Prop} {s e : Int} (h : s ≤ e) : isF p s e (fst p s e) := by
  have k := srch_F (p := p) (e - s).toNat s
  rw [show s + ((e - s).toNat : Int) = e by omega] at k
  exact k
theorem fst_e {p : Int → Prop} {s e r : Int} (h : isF p s e r) : r = fst p s e := isF_u h (fst_F (by have := h.1; omega))
theorem nb4 {P : Int → Int → Prop} {x y : Int} : (∀ j, 0 ≤ j → j < 4 → P (x + r_t1 j) (y + r_t2 j)) ↔ P (x + 1) y ∧ P x (y + 1) ∧ P (x - 1) y ∧ P x (y - 1) := by
  have e0 : r_t1 0 = 1 ∧ r_t2 0 = 0 := ⟨rfl, rfl⟩
  have e1 : r_t1 1 = 0 ∧ r_t2 1 = 1 := ⟨rfl, rfl⟩
  have e2 : r_t1 2 = -1 ∧ r_t2 2 = 0 := ⟨rfl, rfl⟩
  have e3 : r_t1 3 = 0 ∧ r_t2 3 = -1 := ⟨rfl, rfl⟩
  constructor
  · intro h
    have h0 := h 0 (by decide) (by decide)
    have h1 := h 1 (by decide) (by decide)
    have h2 := h 2 (by decide) (by decide)
    have h3 := h 3 (by decide) (by decide)
    rw [e0.1, e0.2] at h0; rw [e1.1, e1.2] at h1; rw [e2.1, e2.2] at h2; rw [e3.1, e3.2] at h3
    rw [Int.add_zero] at h0 h1 h2 h3
    exact ⟨h0, h1, h2, h3⟩
  · rintro ⟨h0, h1, h2, h3⟩ j hj0 hj1
    rcases (show j = 0 ∨ j = 1 ∨ j = 2 ∨ j = 3 by omega) with rfl | rfl | rfl | rfl
    · rw [e0.1, e0.2, Int.add_zero]; exact h0
    · rw [e1.1, e1.2, Int.add_zero]; exact h1
    · rw [e2.1, e2.2, Int.add_zero]; exact h2
    · rw [e3.1, e3.2, Int.add_zero]; exact h3
def OPN (a : Int → Int) (x y z d n : Int) : Prop := ∃ i, (1 ≤ i ∧ i ≤ n) ∧ ¬ SOL a x y (z + i * d)
def r01 (a : Int → Int) : Prop := ∀ k, a k = 0 ∨ a k = 1
def r_s1 (j : Int) : Int := if j = 0 then 1 else if j = 1 then -1 else 0
def r_s2 (j : Int) : Int := if j = 2 then 1 else if j = 3 then -1 else 0
theorem r_s1b (k : Int) : -1 ≤ r_s1 k ∧ r_s1 k ≤ 1 := by unfold r_s1; repeat' split <;> omega
theorem r_s2b (k : Int) : -1 ≤ r_s2 k ∧ r_s2 k ≤ 1 := by unfold r_s2; repeat' split <;> omega
/-! settings: the numbers from the field b on are walls, skins, spread, supports, gap, reach -/
noncomputable def stg (f : Nat → Int) (b : Nat) (s : Int) : Int := r_i (s = 119) (f b) (r_i (s = 107) (f (b + 1)) (r_i (s = 100) (f (b + 2)) (r_i (s = 115) (f (b + 3)) (r_i (s = 103) (f (b + 4)) (f (b + 5))))))
noncomputable def gst (s : Int) : Int := r_i (s = 119 ∨ s = 107) 3 (r_i (s = 100) 6 (r_i (s = 115) 1 (r_i (s = 103) 2 (r_i (s = 114) 22 (-1)))))
abbrev ALW (s v : Int) : Prop := (s = 119 ∧ 1 ≤ v ∧ v ≤ 3) ∨ (s = 107 ∧ 0 ≤ v ∧ v ≤ 3) ∨ (s = 100 ∧ 1 ≤ v ∧ v ≤ 6) ∨ (s = 115 ∧ 0 ≤ v ∧ v ≤ 1) ∨ (s = 103 ∧ 0 ≤ v ∧ v ≤ 2) ∨ (s = 114 ∧ 0 ≤ v ∧ v ≤ 22)
def STS (b : Nat) (s v : Int) (S T : q_Sg) : Prop := T.1 b = r_i (s = 119) v (S.1 b) ∧ T.1 (b + 1) = r_i (s = 107) v (S.1 (b + 1)) ∧ T.1 (b + 2) = r_i (s = 100) v (S.1 (b + 2)) ∧ T.1 (b + 3) = r_i (s = 115) v (S.1 (b + 3)) ∧ T.1 (b + 4) = r_i (s = 103) v (S.1 (b + 4)) ∧ T.1 (b + 5) = r_i (s = 114) v (S.1 (b + 5))
/-- the settings from the field b on are within their ranges; the pattern behind them -/
def SOK (f : Nat → Int) (b : Nat) : Prop := (1 ≤ f b ∧ f b ≤ 3) ∧ (0 ≤ f (b + 1) ∧ f (b + 1) ≤ 3) ∧ (1 ≤ f (b + 2) ∧ f (b + 2) ≤ 6) ∧ (0 ≤ f (b + 3) ∧ f (b + 3) ≤ 1) ∧ (0 ≤ f (b + 4) ∧ f (b + 4) ≤ 2) ∧ (0 ≤ f (b + 5) ∧ f (b + 5) ≤ 22)
def WAV (d w : Int) : Int := if d - w % (2 * d) < 0 then -(d - w % (2 * d)) else d - w % (2 * d)
def FIL (p d x y z : Int) : Prop := (p = 108 ∧ (z % 2 = 0 ∧ y % d = 0 ∨ ¬ z % 2 = 0 ∧ x % d = 0)) ∨ (p = 103 ∧ (x % d = 0 ∨ y % d = 0)) ∨ (¬ p = 108 ∧ ¬ p = 103 ∧ (x + WAV d (y + z)) % d = 0)
theorem WAV_b {d w : Int} (hd : 1 ≤ d ∧ d ≤ 6) : 0 ≤ WAV d w ∧ WAV d w ≤ 6 := by
  have h1 := Int.emod_nonneg w (b := 2 * d) (by omega)
  have h2 := Int.emod_lt_of_pos w (b := 2 * d) (by omega)
  unfold WAV; split <;> omega
/-! walls by distances, kinds -/
abbrev nrm (i j n : Int) : Prop := i + j ≤ n ∧ -(i + j) ≤ n ∧ i - j ≤ n ∧ j - i ≤ n
def DST (a : Int → Int) (x y z n : Int) : Prop := ∃ i j, nrm i j n ∧ ¬ SOL a (x + i) (y + j) z
theorem DST_m {a : Int → Int} {x y z n m : Int} (h : n ≤ m) (k : DST a x y z n) : DST a x y z m := by
  obtain ⟨i, j, h1, h2⟩ := k; exact ⟨i, j, by omega, h2⟩
theorem DST_0 {a : Int → Int} {x y z : Int} : DST a x y z 0 ↔ ¬ SOL a x y z := by
  constructor
  · rintro ⟨i, j, h1, h2⟩
    rw [show x + i = x by omega, show y + j = y by omega] at h2; exact h2
  · intro h; exact ⟨0, 0, by omega, by rw [Int.add_zero, Int.add_zero]; exact h⟩
theorem DST_s {a : Int → Int} {x y z n k : Int} (hk : 0 ≤ k ∧ k < 4) (h : DST a (x + r_t1 k) (y + r_t2 k) z n) : DST a x y z (n + 1) := by
  obtain ⟨i, j, h1, h2⟩ := h
  refine ⟨r_t1 k + i, r_t2 k + j, ?_, ?_⟩
  · rcases (show k = 0 ∨ k = 1 ∨ k = 2 ∨ k = 3 by omega) with rfl | rfl | rfl | rfl <;> (unfold r_t1 r_t2; simp; omega)
  · rw [← Int.add_assoc, ← Int.add_assoc]; exact h2
theorem DST_p {a : Int → Int} {x y z n : Int} (hn : 0 ≤ n) (h : DST a x y z (n + 1)) : DST a x y z n ∨ ∃ k, (0 ≤ k ∧ k < 4) ∧ DST a (x + r_t1 k) (y + r_t2 k) z n := by
  obtain ⟨i, j, h1, h2⟩ := h
  by_cases c : nrm i j n
  · exact Or.inl ⟨i, j, c, h2⟩
  · refine Or.inr ?_
    by_cases c0 : 0 < i
    · exact ⟨0, by omega, i - 1, j, by omega, by rw [show x + r_t1 0 + (i - 1) = x + i by (show x + 1 + (i - 1) = _; omega), show y + r_t2 0 + j = y + j by (show y + 0 + j = _; omega)]; exact h2⟩
    · by_cases c1 : i < 0
      · exact ⟨2, by omega, i + 1, j, by omega, by rw [show x + r_t1 2 + (i + 1) = x + i by (show x + -1 + (i + 1) = _; omega), show y + r_t2 2 + j = y + j by (show y + 0 + j = _; omega)]; exact h2⟩
      · by_cases c2 : 0 < j
        · exact ⟨1, by omega, i, j - 1, by omega, by rw [show x + r_t1 1 + i = x + i by (show x + 0 + i = _; omega), show y + r_t2 1 + (j - 1) = y + j by (show y + 1 + (j - 1) = _; omega)]; exact h2⟩
        · exact ⟨3, by omega, i, j + 1, by omega, by rw [show x + r_t1 3 + i = x + i by (show x + 0 + i = _; omega), show y + r_t2 3 + (j + 1) = y + j by (show y + -1 + (j + 1) = _; omega)]; exact h2⟩
/-- v is the number of the wall as far as walls up to n are known -/
def isW (a : Int → Int) (x y z n v : Int) : Prop := (v = 0 ∧ (¬ SOL a x y z ∨ ¬ DST a x y z n)) ∨ ((1 ≤ v ∧ v ≤ n) ∧ SOL a x y z ∧ DST a x y z v ∧ ¬ DST a x y z (v - 1))
noncomputable def wat (g : Int → Int) (x y : Int) : Int := r_i (inc x y 0) (g (12 * y + x)) 0
def TCH (a g : Int → Int) (x y z m : Int) : Prop := ∃ j, (0 ≤ j ∧ j < 4) ∧ (m = 0 → ¬ SOL a (x + r_t1 j) (y + r_t2 j) z) ∧ (¬ m = 0 → wat g (x + r_t1 j) (y + r_t2 j) = m)
theorem isW_0 {a : Int → Int} {x y z : Int} : isW a x y z 0 0 := by
  refine Or.inl ⟨rfl, ?_⟩
  by_cases h : SOL a x y z
  · exact Or.inr (fun c => DST_0.mp c h)
  · exact Or.inl h
theorem SOL_i {a : Int → Int} {x y z : Int} (h : SOL a x y z) : inc x y z := h.1
/-- the pass m + 1 at a cell -/
theorem isW_t {a g : Int → Int} {x y z m : Int} (hm : 0 ≤ m) (hz : 0 ≤ z ∧ z < 12) (hg : ∀ u v, (0 ≤ u ∧ u < 12) → (0 ≤ v ∧ v < 12) → isW a u v z m (g (12 * v + u)) ∨ isW a u v z (m + 1) (g (12 * v + u))) (hs : SOL a x y z) (h0 : isW a x y z m 0) : TCH a g x y z m ↔ DST a x y z (m + 1) := by
  have hd : ¬ DST a x y z m := by
    rcases h0 with ⟨_, c | c⟩ | ⟨c, _⟩
    · exact absurd hs c
    · exact c
    · omega
  constructor
  · rintro ⟨j, hj, k1, k2⟩
    refine DST_s hj ?_
    by_cases c : m = 0
    · subst c; exact DST_0.mpr (k1 rfl)
    · have k := k2 c
      unfold wat at k
      rcases r_id (inc (x + r_t1 j) (y + r_t2 j) 0) (g (12 * (y + r_t2 j) + (x + r_t1 j))) 0 with ⟨e, hi⟩ | ⟨e, _⟩
      · rw [e] at k
        rcases hg _ _ hi.1 hi.2.1 with (⟨c1, _⟩ | ⟨_, _, c2, _⟩) | (⟨c1, _⟩ | ⟨_, _, c2, _⟩)
        · omega
        · rw [k] at c2; exact c2
        · omega
        · rw [k] at c2; exact c2
      · omega
  · intro h
    rcases DST_p hm h with c | ⟨k, hk, c⟩
    · exact absurd c hd
    · refine ⟨k, hk, fun e => by subst e; exact DST_0.mp c, fun e => ?_⟩
      have hs2 : SOL a (x + r_t1 k) (y + r_t2 k) z := Classical.byContradiction fun d => hd (DST_m (by omega) (DST_s hk (DST_0.mpr d)))
      have hd2 : ¬ DST a (x + r_t1 k) (y + r_t2 k) z (m - 1) := fun d => hd (by have := DST_s hk d; rw [show m - 1 + 1 = m by omega] at this; exact this)
      have hi := SOL_i hs2
      unfold wat
      rw [r_i1 ⟨hi.1, hi.2.1, by omega⟩]
      rcases hg _ _ hi.1 hi.2.1 with (⟨_, c1⟩ | ⟨c0, _, c2, c3⟩) | (⟨_, c1⟩ | ⟨c0, _, c2, c3⟩)
      · rcases c1 with c1 | c1
        · exact absurd hs2 c1
        · exact absurd c c1
      · by_cases d : g (12 * (y + r_t2 k) + (x + r_t1 k)) = m
        · exact d
        · exact absurd (DST_m (by omega) c2) hd2
      · rcases c1 with c1 | c1
        · exact absurd hs2 c1
        · exact absurd (DST_m (by omega) c) c1
      · by_cases d : g (12 * (y + r_t2 k) + (x + r_t1 k)) ≤ m - 1
        · exact absurd (DST_m d c2) hd2
        · by_cases d2 : g (12 * (y + r_t2 k) + (x + r_t1 k)) = m
          · exact d2
          · exact absurd (DST_m (by omega) c) c3
theorem isW_n {a : Int → Int} {x y z m v : Int} (h : isW a x y z m v) (k : ¬ SOL a x y z ∨ ¬ v = 0 ∨ ¬ DST a x y z (m + 1)) : isW a x y z (m + 1) v := by
  rcases h with ⟨h1, h2⟩ | ⟨h1, h2, h3, h4⟩
  · refine Or.inl ⟨h1, ?_⟩
    rcases k with k | k | k
    · exact Or.inl k
    · exact absurd h1 k
    · exact Or.inr k
  · exact Or.inr ⟨by omega, h2, h3, h4⟩
theorem isW_y {a : Int → Int} {x y z m : Int} (hm : 0 ≤ m) (hs : SOL a x y z) (h : isW a x y z m 0) (k : DST a x y z (m + 1)) : isW a x y z (m + 1) (m + 1) := by
  refine Or.inr ⟨by omega, hs, k, ?_⟩
  rw [show m + 1 - 1 = m by omega]
  rcases h with ⟨_, c | c⟩ | ⟨c, _⟩
  · exact absurd hs c
  · exact c
  · omega
def SUP (a : Int → Int) (f : Nat → Int) (b : Nat) (x y z : Int) : Prop := ¬ f (b + 3) = 0 ∧ HNG a x y (fst (fun k => SOL a x y k) (z + 1) 12) ∧ f (b + 4) < fst (fun k => SOL a x y k) (z + 1) 12 - z
noncomputable def KSO (a : Int → Int) (f : Nat → Int) (b : Nat) (x y z : Int) : Int := r_i (DST a x y z (f b)) 119 (r_i (OPN a x y z (-1) (f (b + 1))) 98 (r_i (OPN a x y z 1 (f (b + 1))) 116 (r_i (FIL (f (b + 6)) (f (b + 2)) x y z) 105 101)))
noncomputable def KND (a : Int → Int) (f : Nat → Int) (b : Nat) (x y z : Int) : Int := r_i (SOL a x y z) (KSO a f b x y z) (r_i (SUP a f b x y z) 115 46)
theorem KSO_b (a : Int → Int) (f : Nat → Int) (b : Nat) (x y z : Int) : 98 ≤ KSO a f b x y z ∧ KSO a f b x y z ≤ 119 := by
  unfold KSO r_i; (repeat' split) <;> omega
theorem KND_b (a : Int → Int) (f : Nat → Int) (b : Nat) (x y z : Int) : 46 ≤ KND a f b x y z ∧ KND a f b x y z ≤ 119 := by
  have := KSO_b a f b x y z
  unfold KND r_i; (repeat' split) <;> omega
/-- the kinds kept: each number is a char, and a layer known is found -/
def KCI (S : q_Sg) : Prop := (∀ j, 0 ≤ S.2.1 3 j ∧ S.2.1 3 j < 65536) ∧ ∀ z, (0 ≤ z ∧ z < 12) → ¬ S.2.1 4 z = 0 → ∀ x y, (0 ≤ x ∧ x < 12) → (0 ≤ y ∧ y < 12) → S.2.1 3 (144 * z + 12 * y + x) = KND (S.2.1 0) S.1 0 x y z
theorem SOK_f {As Js : List Nat} {S T : q_Sg} (h : r_fr [] As Js S T) : SOK T.1 0 = SOK S.1 0 := by
  have e : T.1 = S.1 := funext fun k => h.1 k (by simp)
  rw [e]
theorem r_ieqv {p q : Prop} {x y : Int} (h : p ↔ q) : r_i p x y = r_i q x y := by rw [propext h]
