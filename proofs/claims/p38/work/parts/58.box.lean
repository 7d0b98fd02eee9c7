/-! a box, cell by cell in the order of their numbers -/
def BXP (x y z dx dy dz k : Int) : Prop := (z ≤ k / 144 ∧ k / 144 < z + dz) ∧ (x ≤ k % 12 ∧ k % 12 < x + dx) ∧ (y ≤ k / 12 % 12 ∧ k / 12 % 12 < y + dy)
/-- the cells below m are done -/
def BINV (a : Int → Int) (v : Int) (P : Int → Prop) (g : Int → Int) (n m : Int) : Prop := (∀ k, g k = r_i (P k ∧ k < m) v (a k)) ∧ n = cnt (fun k => P k ∧ ¬ a k = v) m.toNat
theorem BINV_s {a g : Int → Int} {v n m m2 : Int} {P : Int → Prop} (h : BINV a v P g n m) (h0 : 0 ≤ m) (hm : m ≤ m2) (hk : ∀ k, m ≤ k → k < m2 → ¬ P k) : BINV a v P g n m2 := by
  refine ⟨fun k => ?_, ?_⟩
  · rw [h.1 k]
    refine r_ieq ⟨fun c => ⟨c.1, by omega⟩, fun c => ⟨c.1, ?_⟩⟩
    by_cases d : k < m
    · exact d
    · exact absurd c.1 (hk k (by omega) c.2)
  · rw [h.2]
    exact (cnt_k (m := m.toNat) m2.toNat (by omega) (fun k k0 k1 c => hk k (by omega) (by omega) c.1)).symm
theorem BINV_d {a g : Int → Int} {v n m : Int} {P : Int → Prop} (h : BINV a v P g n m) (h0 : 0 ≤ m) (hP : P m) : BINV a v P (q_up g m v) (n + r_z (¬ g m = v)) (m + 1) := by
  have hg : g m = a m := by rw [h.1 m, r_i0 (fun c => by omega)]
  refine ⟨fun k => ?_, ?_⟩
  · unfold q_up
    by_cases e : k = m
    · rw [if_pos e, r_i1 ⟨by rw [e]; exact hP, by omega⟩]
    · rw [if_neg e, h.1 k]
      exact r_ieq ⟨fun c => ⟨c.1, by omega⟩, fun c => ⟨c.1, by omega⟩⟩
  · rw [cnt_s h0, ← h.2, hg]
    congr 1
    exact r_zc ⟨fun c => ⟨hP, c⟩, fun c => c.2⟩
theorem BINV_n {a g : Int → Int} {v n m : Int} {P : Int → Prop} (h : BINV a v P g n m) (h0 : 0 ≤ m) (hP : P m) (hv : g m = v) : BINV a v P g n (m + 1) := by
  have k := BINV_d h h0 hP
  rw [r_z0 (fun c => c hv), Int.add_zero] at k
  have e : q_up g m v = g := funext fun z => by
    unfold q_up
    by_cases d : z = m
    · rw [if_pos d, d, hv]
    · rw [if_neg d]
  rw [e] at k; exact k
theorem BINV_u {a g g2 : Int → Int} {v n n2 m : Int} {P : Int → Prop} (h : BINV a v P g n m) (k : BINV a v P g2 n2 m) : g = g2 ∧ n = n2 := ⟨funext fun j => by rw [h.1, k.1], by rw [h.2, k.2]⟩
theorem BINV_0 {a : Int → Int} {v : Int} {P : Int → Prop} : BINV a v P a 0 0 → True := fun _ => trivial
theorem BINV_i {a : Int → Int} {v : Int} {P : Int → Prop} (hP : ∀ k, k < 0 → ¬ P k) : BINV a v P a 0 0 := ⟨fun k => by
  rw [r_i0 (fun c => hP k c.2 c.1)], rfl⟩
theorem BXP_i {x y z dx dy dz u v t : Int} (hu : 0 ≤ u ∧ u < 12) (hv : 0 ≤ v ∧ v < 12) : BXP x y z dx dy dz (144 * t + 12 * v + u) ↔ (z ≤ t ∧ t < z + dz) ∧ (x ≤ u ∧ u < x + dx) ∧ (y ≤ v ∧ v < y + dy) := by
  unfold BXP
  rw [show (144 * t + 12 * v + u) / 144 = t by omega, show (144 * t + 12 * v + u) % 12 = u by omega, show (144 * t + 12 * v + u) / 12 % 12 = v by omega]
theorem BINV_01 {a g : Int → Int} {v n m : Int} {P : Int → Prop} (h : BINV a v P g n m) (ha : r01 a) (hv : v = 0 ∨ v = 1) : r01 g := fun k => by
  rw [h.1 k]; unfold r_i; split
  · exact hv
  · exact ha k
theorem r01_r {a : Int → Int} (h : r01 a) : ∀ j, rg (a j) := fun j => by rcases h j with e | e <;> omega
/-- the k-th cell of a box -/
theorem box_k {dx dy i j t : Int} (hx : 0 ≤ i ∧ i < dx) (hy : 0 ≤ j ∧ j < dy) : ((t * dy + j) * dx + i) % dx = i ∧ ((t * dy + j) * dx + i) / dx % dy = j ∧ ((t * dy + j) * dx + i) / (dx * dy) = t := by
  have e1 : ((t * dy + j) * dx + i) / dx = t * dy + j := by
    rw [Int.add_comm, Int.add_mul_ediv_right _ _ (by omega), Int.ediv_eq_zero_of_lt hx.1 hx.2, Int.zero_add]
  refine ⟨?_, ?_, ?_⟩
  · rw [Int.add_comm, Int.add_mul_emod_self_right, Int.emod_eq_of_lt hx.1 hx.2]
  · rw [e1, Int.add_comm, Int.add_mul_emod_self_right, Int.emod_eq_of_lt hy.1 hy.2]
  · rw [← Int.ediv_ediv_of_nonneg (by omega), e1, Int.add_comm, Int.add_mul_ediv_right _ _ (by omega), Int.ediv_eq_zero_of_lt hy.1 hy.2, Int.zero_add]
theorem box_d {dx dy i j t : Int} (hx : 0 ≤ i ∧ i < dx) : ((t * dy + j) * dx + i) / dx = t * dy + j := by
  rw [Int.add_comm, Int.add_mul_ediv_right _ _ (by omega), Int.ediv_eq_zero_of_lt hx.1 hx.2, Int.zero_add]
theorem BINV_r {a g : Int → Int} {v n m m2 : Int} {P : Int → Prop} (h : BINV a v P g n m) (h0 : 0 ≤ m2) (hm : m2 ≤ m) (hk : ∀ k, m2 ≤ k → k < m → ¬ P k) : BINV a v P g n m2 := by
  refine ⟨fun k => ?_, ?_⟩
  · rw [h.1 k]
    refine r_ieq ⟨fun c => ⟨c.1, ?_⟩, fun c => ⟨c.1, by omega⟩⟩
    by_cases d : k < m2
    · exact d
    · exact absurd c.1 (hk k (by omega) c.2)
  · rw [h.2]
    exact cnt_k (m := m2.toNat) m.toNat (by omega) (fun k k0 k1 c => hk k (by omega) (by omega) c.1)
