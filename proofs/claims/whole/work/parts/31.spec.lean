/-! the document's words over a body: a solid cell is one whose number is not 0 -/
abbrev inc (x y z : Int) : Prop := (0 ≤ x ∧ x < 12) ∧ (0 ≤ y ∧ y < 12) ∧ (0 ≤ z ∧ z < 12)
def SOL (a : Int → Int) (x y z : Int) : Prop := inc x y z ∧ ¬ a (144 * z + 12 * y + x) = 0
def HNG (a : Int → Int) (x y z : Int) : Prop := ¬ z = 0 ∧ SOL a x y z ∧ ¬ SOL a x y (z - 1) ∧ ¬ SOL a (x + 1) y (z - 1) ∧ ¬ SOL a x (y + 1) (z - 1) ∧ ¬ SOL a (x - 1) y (z - 1) ∧ ¬ SOL a x (y - 1) (z - 1)
noncomputable def cnt (p : Int → Prop) : Nat → Int
  | 0 => 0
  | n + 1 => cnt p n + r_z (p n)
theorem cnt_0 {p : Int → Prop} : cnt p 0 = 0 := rfl
theorem cnt_s {p : Int → Prop} {k : Int} (h : 0 ≤ k) : cnt p (k + 1).toNat = cnt p k.toNat + r_z (p k) := by
  have e : (k + 1).toNat = k.toNat + 1 := by omega
  rw [e]
  show cnt p k.toNat + r_z (p (k.toNat : Int)) = _
  rw [Int.toNat_of_nonneg h]
theorem cnt_t {p : Int → Prop} {k : Int} (h : 0 ≤ k) (c : p k) : cnt p (k + 1).toNat = cnt p k.toNat + 1 := by rw [cnt_s h, r_z1 c]
theorem cnt_f {p : Int → Prop} {k : Int} (h : 0 ≤ k) (c : ¬ p k) : cnt p (k + 1).toNat = cnt p k.toNat := by rw [cnt_s h, r_z0 c]; omega
theorem cnt_b {p : Int → Prop} : ∀ n : Nat, 0 ≤ cnt p n ∧ cnt p n ≤ n
  | 0 => ⟨Int.le_refl _, Int.le_refl _⟩
  | n + 1 => by
    have h := cnt_b (p := p) n
    show 0 ≤ cnt p n + r_z (p n) ∧ cnt p n + r_z (p n) ≤ ((n + 1 : Nat) : Int)
    rcases r_zd (p n) with ⟨a, _⟩ | ⟨a, _⟩ <;> omega
theorem cnt_c {p q : Int → Prop} : ∀ n : Nat, (∀ k : Int, 0 ≤ k → k < n → (p k ↔ q k)) → cnt p n = cnt q n
  | 0, _ => rfl
  | n + 1, h => by
    show cnt p n + r_z (p n) = cnt q n + r_z (q n)
    rw [cnt_c n (fun k h0 h1 => h k h0 (by omega)), r_zc (h n (by omega) (by omega))]
theorem r_t1b (k : Int) : -1 ≤ r_t1 k ∧ r_t1 k ≤ 1 := by unfold r_t1; repeat' split <;> omega
theorem r_t2b (k : Int) : -1 ≤ r_t2 k ∧ r_t2 k ≤ 1 := by unfold r_t2; repeat' split <;> omega
theorem r_t3b (k : Int) : -1 ≤ r_t3 k ∧ r_t3 k ≤ 1 := by unfold r_t3; repeat' split <;> omega
theorem r_t4b (k : Int) : -1 ≤ r_t4 k ∧ r_t4 k ≤ 1 := by unfold r_t4; repeat' split <;> omega
theorem cnt_k {p : Int → Prop} {m : Nat} : ∀ n : Nat, m ≤ n → (∀ k : Int, m ≤ k → k < n → ¬ p k) → cnt p n = cnt p m
  | 0, h, _ => by rw [Nat.le_zero.mp h]
  | n + 1, h, hk => by
    by_cases e : m = n + 1
    · rw [e]
    · show cnt p n + r_z (p n) = _
      rw [cnt_k n (by omega) (fun k h0 h1 => hk k h0 (by omega)), r_z0 (hk n (by omega) (by omega))]
      omega
/-- the first place from s on, before e, or e -/
def isF (p : Int → Prop) (s e r : Int) : Prop := (s ≤ r ∧ r ≤ e) ∧ (∀ k, s ≤ k → k < r → ¬ p k) ∧ (r < e → p r)
theorem isF_u {p : Int → Prop} {s e r t : Int} (h : isF p s e r) (k : isF p s e t) : r = t := by
  obtain ⟨⟨h1, h2⟩, h3, h4⟩ := h
  obtain ⟨⟨k1, k2⟩, k3, k4⟩ := k
  by_cases c : r < t
  · exact absurd (h4 (by omega)) (k3 r h1 c)
  · by_cases d : t < r
    · exact absurd (k4 (by omega)) (h3 t k1 d)
    · omega
noncomputable def srch (p : Int → Prop) (s : Int) : Nat → Int
  | 0 => s
  | n + 1 => r_i (p s) s (srch p (s + 1) n)
theorem srch_F {p : Int → Prop} : ∀ (n : Nat) (s : Int), isF p s (s + n) (srch p s n)
  | 0, s => ⟨⟨Int.le_refl _, by show s ≤ s + 0; omega⟩, fun k h0 h1 => by have h1 : k < s := h1; omega, fun h => by have h : s < s + (0 : Nat) := h; omega⟩
  | n + 1, s => by
    show isF p s _ (r_i (p s) s (srch p (s + 1) n))
    rcases r_id (p s) s (srch p (s + 1) n) with ⟨e, h⟩ | ⟨e, h⟩
    · rw [e]; exact ⟨by omega, fun k h0 h1 => by omega, fun _ => h⟩
    · rw [e]
      obtain ⟨⟨h1, h2⟩, h3, h4⟩ := srch_F (p := p) n (s + 1)
      refine ⟨by omega, fun k k0 k1 => ?_, fun c => h4 (by omega)⟩
      by_cases d : k = s
      · rw [d]; exact h
      · exact h3 k (by omega) k1
noncomputable def fst (p : Int → Prop) (s e : Int) : Int := srch p s (e - s).toNat
theorem fst_F {p : Int → Prop} {s e : Int} (h : s ≤ e) : isF p s e (fst p s e) := by
  have k := srch_F (p := p) (e - s).toNat s
  rw [show s + ((e - s).toNat : Int) = e by omega] at k
  exact k
theorem fst_e {p : Int → Prop} {s e r : Int} (h : isF p s e r) : r = fst p s e := isF_u h (fst_F (by have := h.1; omega))
theorem nb4 {P : Int → Int → Prop} {x y : Int} : (∀ j, 0 ≤ j → j < 4 → P (x + r_t1 j) (y + r_t2 j)) ↔ P (x + 1) y ∧ P x (y + 1) ∧ P (x - 1) y ∧ P x (y - 1) := by
  have e0 : r_t1 0 = 1 ∧ r_t2 0 = 0 := ⟨rfl, rfl⟩
  have e1 : r_t1 1 = 0 ∧ r_t2 1 = 1 := ⟨rfl, rfl⟩
  have e2 : r_t1 2 = -1 ∧ r_t2 2 = 0 := ⟨rfl, rfl⟩
  have e3 : r_t1 3 = 0 ∧ r_t2 3 = -1 := ⟨rfl, rfl⟩
  constructor
  · intro h
    have h0 := h 0 (by decide) (by decide)
    have h1 := h 1 (by decide) (by decide)
    have h2 := h 2 (by decide) (by decide)
    have h3 := h 3 (by decide) (by decide)
    rw [e0.1, e0.2] at h0; rw [e1.1, e1.2] at h1; rw [e2.1, e2.2] at h2; rw [e3.1, e3.2] at h3
    rw [Int.add_zero] at h0 h1 h2 h3
    exact ⟨h0, h1, h2, h3⟩
  · rintro ⟨h0, h1, h2, h3⟩ j hj0 hj1
    rcases (show j = 0 ∨ j = 1 ∨ j = 2 ∨ j = 3 by omega) with rfl | rfl | rfl | rfl
    · rw [e0.1, e0.2, Int.add_zero]; exact h0
    · rw [e1.1, e1.2, Int.add_zero]; exact h1
    · rw [e2.1, e2.2, Int.add_zero]; exact h2
    · rw [e3.1, e3.2, Int.add_zero]; exact h3
def OPN (a : Int → Int) (x y z d n : Int) : Prop := ∃ i, (1 ≤ i ∧ i ≤ n) ∧ ¬ SOL a x y (z + i * d)
def r01 (a : Int → Int) : Prop := ∀ k, a k = 0 ∨ a k = 1
