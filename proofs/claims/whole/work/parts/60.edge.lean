/-! edges of outlines: from a corner, by a way, with a solid cell to the left -/
def EDG (a : Int → Int) (z x y k : Int) : Prop := SOL a (x + r_t3 k) (y + r_t4 k) z ∧ ¬ SOL a (x + r_t3 ((k + -1) % 4)) (y + r_t4 ((k + -1) % 4)) z
noncomputable def nxw (a : Int → Int) (z x y k : Int) : Int := r_i (EDG a z x y ((k + 1) % 4)) ((k + 1) % 4) (r_i (EDG a z x y k) k (r_i (EDG a z x y ((k + -1) % 4)) ((k + -1) % 4) k))
theorem EDG_0 {a : Int → Int} {z x y : Int} : EDG a z x y 0 ↔ SOL a x y z ∧ ¬ SOL a x (y - 1) z := by
  show (SOL a (x + 0) (y + 0) z ∧ ¬ SOL a (x + 0) (y + -1) z) ↔ _
  rw [Int.add_zero, Int.add_zero]; exact Iff.rfl
theorem EDG_1 {a : Int → Int} {z x y : Int} : EDG a z x y 1 ↔ SOL a (x - 1) y z ∧ ¬ SOL a x y z := by
  show (SOL a (x + -1) (y + 0) z ∧ ¬ SOL a (x + 0) (y + 0) z) ↔ _
  rw [Int.add_zero, Int.add_zero]; exact Iff.rfl
theorem EDG_2 {a : Int → Int} {z x y : Int} : EDG a z x y 2 ↔ SOL a (x - 1) (y - 1) z ∧ ¬ SOL a (x - 1) y z := by
  show (SOL a (x + -1) (y + -1) z ∧ ¬ SOL a (x + -1) (y + 0) z) ↔ _
  rw [Int.add_zero]; exact Iff.rfl
theorem EDG_3 {a : Int → Int} {z x y : Int} : EDG a z x y 3 ↔ SOL a x (y - 1) z ∧ ¬ SOL a (x - 1) (y - 1) z := by
  show (SOL a (x + 0) (y + -1) z ∧ ¬ SOL a (x + -1) (y + -1) z) ↔ _
  rw [Int.add_zero]; exact Iff.rfl
/-- an edge as a cell and a side: the number of the cell times 4 and the side -/
def e2s (e : Int) : Int :=
  if e % 4 = 0 then 4 * (12 * (e / 52) + e / 4 % 13) + 3
  else if e % 4 = 1 then 4 * (12 * (e / 52) + (e / 4 % 13 - 1)) + 0
  else if e % 4 = 2 then 4 * (12 * (e / 52 - 1) + (e / 4 % 13 - 1)) + 2
  else 4 * (12 * (e / 52 - 1) + e / 4 % 13) + 1
def s2e (k : Int) : Int :=
  if k % 4 = 3 then 4 * (13 * (k / 48) + k / 4 % 12) + 0
  else if k % 4 = 0 then 4 * (13 * (k / 48) + (k / 4 % 12 + 1)) + 1
  else if k % 4 = 2 then 4 * (13 * (k / 48 + 1) + (k / 4 % 12 + 1)) + 2
  else 4 * (13 * (k / 48 + 1) + k / 4 % 12) + 3
theorem SOL_b {a : Int → Int} {x y z : Int} (h : SOL a x y z) : (0 ≤ x ∧ x < 12) ∧ (0 ≤ y ∧ y < 12) := ⟨h.1.1, h.1.2.1⟩
theorem edges_eq {a : Int → Int} {z : Int} : cnt (fun e => EDG a z (e / 4 % 13) (e / 52) (e % 4)) 676 = cnt (fun k => SOL a (k / 4 % 12) (k / 48) z ∧ ¬ SOL a (k / 4 % 12 + r_s1 (k % 4)) (k / 48 + r_s2 (k % 4)) z) 576 := by
  have h1 : cnt (fun e => EDG a z (e / 4 % 13) (e / 52) (e % 4)) 676 ≤ cnt (fun k => SOL a (k / 4 % 12) (k / 48) z ∧ ¬ SOL a (k / 4 % 12 + r_s1 (k % 4)) (k / 48 + r_s2 (k % 4)) z) 576 := by
    refine cnt_inj e2s 676 _ 576 (fun e h0 h1 he => ?_) (fun e f e0 e1 f0 f1 he hf h => ?_)
    · have he : EDG a z (e / 4 % 13) (e / 52) (e % 4) := he
      rcases (show e % 4 = 0 ∨ e % 4 = 1 ∨ e % 4 = 2 ∨ e % 4 = 3 by omega) with c | c | c | c
      · rw [c, EDG_0] at he
        have hb := SOL_b he.1
        have e1 : e2s e = 4 * (12 * (e / 52) + e / 4 % 13) + 3 := by unfold e2s; rw [if_pos c]
        refine ⟨by rw [e1]; omega, ?_⟩
        rw [e1]
        show SOL a _ _ z ∧ ¬ SOL a _ _ z
        rw [show (4 * (12 * (e / 52) + e / 4 % 13) + 3) / 4 % 12 = e / 4 % 13 by omega, show (4 * (12 * (e / 52) + e / 4 % 13) + 3) / 48 = e / 52 by omega, show (4 * (12 * (e / 52) + e / 4 % 13) + 3) % 4 = 3 by omega]
        show _ ∧ ¬ SOL a (e / 4 % 13 + 0) (e / 52 + -1) z
        rw [Int.add_zero]; exact he
      · rw [c, EDG_1] at he
        have hb := SOL_b he.1
        have e1 : e2s e = 4 * (12 * (e / 52) + (e / 4 % 13 - 1)) + 0 := by unfold e2s; rw [if_neg (by omega), if_pos c]
        refine ⟨by rw [e1]; omega, ?_⟩
        rw [e1]
        show SOL a _ _ z ∧ ¬ SOL a _ _ z
        rw [show (4 * (12 * (e / 52) + (e / 4 % 13 - 1)) + 0) / 4 % 12 = e / 4 % 13 - 1 by omega, show (4 * (12 * (e / 52) + (e / 4 % 13 - 1)) + 0) / 48 = e / 52 by omega, show (4 * (12 * (e / 52) + (e / 4 % 13 - 1)) + 0) % 4 = 0 by omega]
        show _ ∧ ¬ SOL a (e / 4 % 13 - 1 + 1) (e / 52 + 0) z
        rw [Int.add_zero, show e / 4 % 13 - 1 + 1 = e / 4 % 13 by omega]; exact he
      · rw [c, EDG_2] at he
        have hb := SOL_b he.1
        have e1 : e2s e = 4 * (12 * (e / 52 - 1) + (e / 4 % 13 - 1)) + 2 := by unfold e2s; rw [if_neg (by omega), if_neg (by omega), if_pos c]
        refine ⟨by rw [e1]; omega, ?_⟩
        rw [e1]
        show SOL a _ _ z ∧ ¬ SOL a _ _ z
        rw [show (4 * (12 * (e / 52 - 1) + (e / 4 % 13 - 1)) + 2) / 4 % 12 = e / 4 % 13 - 1 by omega, show (4 * (12 * (e / 52 - 1) + (e / 4 % 13 - 1)) + 2) / 48 = e / 52 - 1 by omega, show (4 * (12 * (e / 52 - 1) + (e / 4 % 13 - 1)) + 2) % 4 = 2 by omega]
        show _ ∧ ¬ SOL a (e / 4 % 13 - 1 + 0) (e / 52 - 1 + 1) z
        rw [Int.add_zero, show e / 52 - 1 + 1 = e / 52 by omega]; exact he
      · rw [c, EDG_3] at he
        have hb := SOL_b he.1
        have e1 : e2s e = 4 * (12 * (e / 52 - 1) + e / 4 % 13) + 1 := by unfold e2s; rw [if_neg (by omega), if_neg (by omega), if_neg (by omega)]
        refine ⟨by rw [e1]; omega, ?_⟩
        rw [e1]
        show SOL a _ _ z ∧ ¬ SOL a _ _ z
        rw [show (4 * (12 * (e / 52 - 1) + e / 4 % 13) + 1) / 4 % 12 = e / 4 % 13 by omega, show (4 * (12 * (e / 52 - 1) + e / 4 % 13) + 1) / 48 = e / 52 - 1 by omega, show (4 * (12 * (e / 52 - 1) + e / 4 % 13) + 1) % 4 = 1 by omega]
        show _ ∧ ¬ SOL a (e / 4 % 13 + -1) (e / 52 - 1 + 0) z
        rw [Int.add_zero]; exact he
    · have bE : ∀ e, EDG a z (e / 4 % 13) (e / 52) (e % 4) → (e % 4 = 0 ∧ e / 4 % 13 < 12) ∨ (e % 4 = 1 ∧ 1 ≤ e / 4 % 13) ∨ (e % 4 = 2 ∧ 1 ≤ e / 4 % 13) ∨ (e % 4 = 3 ∧ e / 4 % 13 < 12) := fun e he => by
        rcases (show e % 4 = 0 ∨ e % 4 = 1 ∨ e % 4 = 2 ∨ e % 4 = 3 by omega) with c | c | c | c
        · rw [c, EDG_0] at he; have := SOL_b he.1; omega
        · rw [c, EDG_1] at he; have := SOL_b he.1; omega
        · rw [c, EDG_2] at he; have := SOL_b he.1; omega
        · rw [c, EDG_3] at he; have := SOL_b he.1; omega
      have k1 := bE e he
      have k2 := bE f hf
      unfold e2s at h
      split at h <;> split at h <;> first | omega | (split at h <;> first | omega | (split at h <;> first | omega | (split at h <;> first | omega | (split at h <;> omega))))
  have h2 : cnt (fun k => SOL a (k / 4 % 12) (k / 48) z ∧ ¬ SOL a (k / 4 % 12 + r_s1 (k % 4)) (k / 48 + r_s2 (k % 4)) z) 576 ≤ cnt (fun e => EDG a z (e / 4 % 13) (e / 52) (e % 4)) 676 := by
    refine cnt_inj s2e 576 _ 676 (fun k h0 h1 hk => ?_) (fun k l k0 k1 l0 l1 _ _ h => ?_)
    · have hk : SOL a (k / 4 % 12) (k / 48) z ∧ ¬ SOL a (k / 4 % 12 + r_s1 (k % 4)) (k / 48 + r_s2 (k % 4)) z := hk
      rcases (show k % 4 = 3 ∨ k % 4 = 0 ∨ k % 4 = 2 ∨ k % 4 = 1 by omega) with c | c | c | c
      · have e1 : s2e k = 4 * (13 * (k / 48) + k / 4 % 12) + 0 := by unfold s2e; rw [if_pos c]
        rw [c] at hk
        have hk2 : ¬ SOL a (k / 4 % 12 + 0) (k / 48 + -1) z := hk.2
        rw [Int.add_zero] at hk2
        refine ⟨by rw [e1]; omega, ?_⟩
        rw [e1]
        show EDG a z _ _ _
        rw [show (4 * (13 * (k / 48) + k / 4 % 12) + 0) / 4 % 13 = k / 4 % 12 by omega, show (4 * (13 * (k / 48) + k / 4 % 12) + 0) / 52 = k / 48 by omega, show (4 * (13 * (k / 48) + k / 4 % 12) + 0) % 4 = 0 by omega, EDG_0]
        exact ⟨hk.1, hk2⟩
      · have e1 : s2e k = 4 * (13 * (k / 48) + (k / 4 % 12 + 1)) + 1 := by unfold s2e; rw [if_neg (by omega), if_pos c]
        rw [c] at hk
        have hk2 : ¬ SOL a (k / 4 % 12 + 1) (k / 48 + 0) z := hk.2
        rw [Int.add_zero] at hk2
        refine ⟨by rw [e1]; omega, ?_⟩
        rw [e1]
        show EDG a z _ _ _
        rw [show (4 * (13 * (k / 48) + (k / 4 % 12 + 1)) + 1) / 4 % 13 = k / 4 % 12 + 1 by omega, show (4 * (13 * (k / 48) + (k / 4 % 12 + 1)) + 1) / 52 = k / 48 by omega, show (4 * (13 * (k / 48) + (k / 4 % 12 + 1)) + 1) % 4 = 1 by omega, EDG_1, show k / 4 % 12 + 1 - 1 = k / 4 % 12 by omega]
        exact ⟨hk.1, hk2⟩
      · have e1 : s2e k = 4 * (13 * (k / 48 + 1) + (k / 4 % 12 + 1)) + 2 := by unfold s2e; rw [if_neg (by omega), if_neg (by omega), if_pos c]
        rw [c] at hk
        have hk2 : ¬ SOL a (k / 4 % 12 + 0) (k / 48 + 1) z := hk.2
        rw [Int.add_zero] at hk2
        refine ⟨by rw [e1]; omega, ?_⟩
        rw [e1]
        show EDG a z _ _ _
        rw [show (4 * (13 * (k / 48 + 1) + (k / 4 % 12 + 1)) + 2) / 4 % 13 = k / 4 % 12 + 1 by omega, show (4 * (13 * (k / 48 + 1) + (k / 4 % 12 + 1)) + 2) / 52 = k / 48 + 1 by omega, show (4 * (13 * (k / 48 + 1) + (k / 4 % 12 + 1)) + 2) % 4 = 2 by omega, EDG_2, show k / 4 % 12 + 1 - 1 = k / 4 % 12 by omega, show k / 48 + 1 - 1 = k / 48 by omega]
        exact ⟨hk.1, hk2⟩
      · have e1 : s2e k = 4 * (13 * (k / 48 + 1) + k / 4 % 12) + 3 := by unfold s2e; rw [if_neg (by omega), if_neg (by omega), if_neg (by omega)]
        rw [c] at hk
        have hk2 : ¬ SOL a (k / 4 % 12 + -1) (k / 48 + 0) z := hk.2
        rw [Int.add_zero] at hk2
        refine ⟨by rw [e1]; omega, ?_⟩
        rw [e1]
        show EDG a z _ _ _
        rw [show (4 * (13 * (k / 48 + 1) + k / 4 % 12) + 3) / 4 % 13 = k / 4 % 12 by omega, show (4 * (13 * (k / 48 + 1) + k / 4 % 12) + 3) / 52 = k / 48 + 1 by omega, show (4 * (13 * (k / 48 + 1) + k / 4 % 12) + 3) % 4 = 3 by omega, EDG_3, show k / 48 + 1 - 1 = k / 48 by omega]
        exact ⟨hk.1, hk2⟩
    · unfold s2e at h
      split at h <;> split at h <;> first | omega | (split at h <;> first | omega | (split at h <;> first | omega | (split at h <;> first | omega | (split at h <;> omega))))
  omega
