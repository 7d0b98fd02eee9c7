/-! the machine, over the list of commands -/
def MV (l : List qCmd) (i : Int) : Prop := (cg l i).1 = 103 ∨ (cg l i).1 = 100
def LEN (l : List qCmd) (i : Int) : Int := 10 * (if iab (dY l i) ≤ iab (dX l i) then iab (dX l i) else iab (dY l i))
def GRT (l : List qCmd) (i : Int) : Int := if (cg l i).1 = 103 then 8 else 4
def sgn (x : Int) : Int := if 0 < x then 1 else if x < 0 then -1 else 0
theorem sgn_r (x : Int) : r_i (0 < x) 1 (r_i (x < 0) (-1) 0) = sgn x := by unfold r_i sgn; (repeat' split) <;> rfl
theorem sgn_b (x : Int) : (sgn x = 1 ∧ 0 < x) ∨ (sgn x = -1 ∧ x < 0) ∨ (sgn x = 0 ∧ x = 0) := by unfold sgn; (repeat' split) <;> omega
def GON (l : List qCmd) (i : Int) : Prop := MV l i ∧ MV l (i + 1) ∧ ¬ (dX l i = 0 ∧ dY l i = 0) ∧ sgn (dX l i) = sgn (dX l (i + 1)) ∧ sgn (dY l i) = sgn (dY l (i + 1))
noncomputable def LST (l : List qCmd) (i : Int) : Int := r_i (GON l i) (if GRT l i ≤ GRT l (i + 1) then GRT l i else GRT l (i + 1)) 1
theorem GRT_b (l : List qCmd) (i : Int) : 4 ≤ GRT l i ∧ GRT l i ≤ 8 := by unfold GRT; split <;> omega
theorem LST_b (l : List qCmd) (i : Int) : 1 ≤ LST l i ∧ LST l i ≤ 8 := by
  have h1 := GRT_b l i
  have h2 := GRT_b l (i + 1)
  unfold LST r_i; split
  · split <;> omega
  · omega
theorem dX_b {l : List qCmd} (h : COK l) (i : Int) : (-11 ≤ dX l i ∧ dX l i ≤ 11) ∧ (-11 ≤ dY l i ∧ dY l i ≤ 11) := by
  have h1 := h i
  have h2 := h (i - 1)
  unfold dX dY
  omega
theorem LEN_b {l : List qCmd} (h : COK l) (i : Int) : 0 ≤ LEN l i ∧ LEN l i ≤ 110 := by
  have h1 := dX_b h i
  have k1 := iab_b (dX l i)
  have k2 := iab_b (dY l i)
  unfold LEN; split <;> omega
theorem LEN_0 {l : List qCmd} {i : Int} : LEN l i = 0 ↔ dX l i = 0 ∧ dY l i = 0 := by
  have k1 := iab_b (dX l i)
  have k2 := iab_b (dY l i)
  unfold LEN; split <;> omega
theorem cC_b {l : List qCmd} (h : COK l) (i : Int) : 1 ≤ cC l i ∧ cC l i ≤ 23 := by
  have h1 := dX_b h i
  have k1 := iab_b (dX l i)
  have k2 := iab_b (dY l i)
  unfold cC; omega
/-- the sum of the numbers from the last speed on, n of them -/
def smf (last : Int) : Nat → Int
  | 0 => 0
  | n + 1 => smf last n + (last + n)
def NED (last n : Int) : Int := smf last (n - last).toNat
theorem NED_0 {last n : Int} (h : n ≤ last) : NED last n = 0 := by unfold NED; rw [show (n - last).toNat = 0 by omega]; rfl
theorem NED_s {last n : Int} (h : last ≤ n) : NED last (n + 1) = NED last n + n := by
  unfold NED
  rw [show (n + 1 - last).toNat = (n - last).toNat + 1 by omega]
  show smf last (n - last).toNat + (last + ((n - last).toNat : Int)) = _
  omega
theorem NED_b {last n : Int} (h0 : 1 ≤ last) (h1 : n ≤ 9) : 0 ≤ NED last n ∧ NED last n ≤ 100 := by
  by_cases c : n ≤ last
  · rw [NED_0 c]; omega
  · unfold NED
    have e : ∀ k : Nat, last + k ≤ 9 → 0 ≤ smf last k ∧ smf last k ≤ 8 * k := by
      intro k
      induction k with
      | zero => intro _; exact ⟨Int.le_refl _, Int.le_refl _⟩
      | succ k ih =>
        intro hk
        have := ih (by omega)
        show 0 ≤ smf last k + (last + k) ∧ smf last k + (last + k) ≤ 8 * ((k + 1 : Nat) : Int)
        omega
    have := e (n - last).toNat (by omega)
    omega
/-- the greatest speed from which the move can still end, at most m, or 1 -/
def isS (last left m v : Int) : Prop := 1 ≤ v ∧ (v = 1 ∨ (v ≤ m ∧ NED last v ≤ left - v)) ∧ ∀ k, v < k → k ≤ m → ¬ NED last k ≤ left - k
theorem isS_u {last left m v w : Int} (h : isS last left m v) (k : isS last left m w) : v = w := by
  obtain ⟨h1, h2, h3⟩ := h
  obtain ⟨k1, k2, k3⟩ := k
  by_cases c : v < w
  · rcases k2 with k2 | k2
    · omega
    · exact absurd k2.2 (h3 w c k2.1)
  · by_cases d : w < v
    · rcases h2 with h2 | h2
      · omega
      · exact absurd h2.2 (k3 v d h2.1)
    · omega
noncomputable def spd (last left m : Int) : Int := @Classical.epsilon Int ⟨0⟩ (isS last left m)
theorem spd_e {last left m v : Int} (h : isS last left m v) : v = spd last left m := isS_u h (@Classical.epsilon_spec_aux Int ⟨0⟩ (isS last left m) ⟨v, h⟩)
noncomputable def SPD (l : List qCmd) (i sp left : Int) : Int := spd (LST l i) left (r_i (sp + 1 ≤ r_i (GRT l i ≤ left) (GRT l i) left) (sp + 1) (r_i (GRT l i ≤ left) (GRT l i) left))
/-- aligned strokes; what is no move stays where it is -/
def CLK (l : List qCmd) : Prop := ∀ i, (¬ MV l i → 0 ≤ i → i < l.length → dX l i = 0 ∧ dY l i = 0) ∧ ((cg l i).1 = 100 → dX l i = 0 ∨ dY l i = 0)
theorem CLK_0 : CLK [] := fun i => ⟨fun _ h0 h1 => by have h1 : i < ((0 : Nat) : Int) := h1; omega, fun h => by
  have : cg [] i = (0, 0, 0, 0) := by unfold cg; split <;> rfl
  rw [this] at h; exact absurd h (by decide)⟩
theorem CLK_a {l : List qCmd} {c : qCmd} (h : CLK l) (h1 : ¬ c.1 = 103 → ¬ c.1 = 100 → c.2.1 = hX l ∧ c.2.2.1 = hY l) (h2 : c.1 = 100 → c.2.1 = hX l ∨ c.2.2.1 = hY l) : CLK (l ++ [c]) := fun i => by
  by_cases d : i < l.length
  · unfold MV
    rw [dX_app d, dY_app d, cg_app d]
    exact ⟨fun a b e => (h i).1 a b d, (h i).2⟩
  · by_cases e : i = l.length
    · unfold MV
      rw [e, dX_end, dY_end, cg_end]
      refine ⟨fun a b _ => ?_, fun a => ?_⟩
      · have := h1 (fun f => a (Or.inl f)) (fun f => a (Or.inr f)); omega
      · have := h2 a; omega
    · refine ⟨fun _ _ f => by simp at f; omega, fun f => ?_⟩
      rw [cg_out (by simp; omega)] at f
      exact absurd f (by decide)
theorem CLK_m {l : List qCmd} {k x y z : Int} (h : CLK l) (hk : ¬ k = 103 ∧ ¬ k = 100) (hx : x = hX l) (hy : y = hY l) : CLK (l ++ [(k, x, y, z)]) := CLK_a h (fun _ _ => ⟨hx, hy⟩) (fun e => absurd e hk.2)
theorem CLK_g {l : List qCmd} {x y z : Int} (h : CLK l) : CLK (l ++ [(103, x, y, z)]) := CLK_a h (fun e => absurd rfl e) (fun e => absurd e (by show ¬ (103 : Int) = 100; decide))
theorem CLK_dd {l : List qCmd} {x y z : Int} (h : CLK l) (ha : x = hX l ∨ y = hY l) : CLK (l ++ [(100, x, y, z)]) := CLK_a h (fun _ e => absurd rfl e) (fun _ => ha)
theorem CLK_d {l : List qCmd} {rc z : Int} {q : Int × Int × Int × Int} (h : CLK l) (hq : sG q) (hO : COK l) (hrc : 0 ≤ rc) : CLK (l ++ dcm rc z (hX l) (hY l) q) := by
  have hb := COK_h hO
  have hnb := nrr_b hb.1 hb.2 hq
  have hni := nrr_i (hX l) (hY l) q
  have hal : ∀ p : Prop, r_i (¬ p) q.1 q.2.2.1 = r_i p q.1 q.2.2.1 ∨ r_i (¬ p) q.2.1 q.2.2.2 = r_i p q.2.1 q.2.2.2 := fun p => by
    rcases hq.2.2.2.2 with h5 | h5
    · refine Or.inl ?_
      rw [← h5.1, r_ii, r_ii]
    · refine Or.inr ?_
      rw [← h5.1, r_ii, r_ii]
  by_cases h2 : 0 < nrr (hX l) (hY l) q
  · by_cases h1 : rc < nrr (hX l) (hY l) q
    · rw [dcm_1 h1 h2]
      exact CLK_dd (CLK_m (CLK_g (CLK_m h (by decide) rfl rfl)) (by decide) (by rw [hX_end]) (by rw [hY_end])) (by rw [hX_end, hY_end]; exact hal _)
    · rw [dcm_2 h1 h2]
      exact CLK_dd (CLK_g h) (by rw [hX_end, hY_end]; exact hal _)
  · rw [dcm_3 (by omega) h2]
    have k := dst_0 (hni.trans (show nrr (hX l) (hY l) q = 0 by omega))
    have k2 := hal (dst (hX l) (hY l) q.1 q.2.1 ≤ dst (hX l) (hY l) q.2.2.1 q.2.2.2)
    rw [k.1, k.2] at k2
    exact CLK_dd h k2
abbrev cOK (c : qCmd) : Prop := (0 ≤ c.2.1 ∧ c.2.1 < 12) ∧ (0 ≤ c.2.2.1 ∧ c.2.2.1 < 12) ∧ (0 ≤ c.2.2.2 ∧ c.2.2.2 < 12) ∧ (0 ≤ c.1 ∧ c.1 < 65536)
theorem COK_app {l : List qCmd} : ∀ {m : List qCmd}, COK l → (∀ c ∈ m, cOK c) → COK (l ++ m)
  | [], h, _ => by rw [List.append_nil]; exact h
  | c :: m, h, hm => by
    have hc := hm c List.mem_cons_self
    rw [show l ++ c :: m = (l ++ [c]) ++ m by simp]
    exact COK_app (COK_a h hc.2.2.2 hc.1 hc.2.1 hc.2.2.1) (fun d hd => hm d (List.mem_cons_of_mem _ hd))
theorem dcm_m {rc z hx hy : Int} {q : Int × Int × Int × Int} (hz : 0 ≤ z ∧ z < 12) (h1 : 0 ≤ hx ∧ hx < 12) (h2 : 0 ≤ hy ∧ hy < 12) (hq : sG q) : ∀ c ∈ dcm rc z hx hy q, cOK c := by
  intro c hc
  obtain ⟨q1, q2, q3, q4, _⟩ := hq
  unfold dcm at hc
  simp only [List.mem_append] at hc
  rcases hc with ((hc | hc) | hc) | hc
  · split at hc
    · rw [List.mem_singleton] at hc; subst hc; exact ⟨h1, h2, hz, by show 0 ≤ (114 : Int) ∧ (114 : Int) < 65536; decide⟩
    · cases hc
  · split at hc
    · rw [List.mem_singleton] at hc; subst hc; exact ⟨r_i12 q1 q3, r_i12 q2 q4, hz, by show 0 ≤ (103 : Int) ∧ (103 : Int) < 65536; decide⟩
    · cases hc
  · split at hc
    · rw [List.mem_singleton] at hc; subst hc; exact ⟨r_i12 q1 q3, r_i12 q2 q4, hz, by show 0 ≤ (117 : Int) ∧ (117 : Int) < 65536; decide⟩
    · cases hc
  · rw [List.mem_singleton] at hc; subst hc; exact ⟨r_i12 q1 q3, r_i12 q2 q4, hz, by show 0 ≤ (100 : Int) ∧ (100 : Int) < 65536; decide⟩
theorem pst_P {ko : Int → Int} {sd : Int → Int × Int × Int × Int} {n rc z : Int} {l : List qCmd} (hz : 0 ≤ z ∧ z < 12) (hrc : 0 ≤ rc) (hs : ∀ i, sG (sd i)) (hC : CLK l) (hO : COK l) : ∀ m : Nat, CLK (pst ko sd n rc z l m).1 ∧ COK (pst ko sd n rc z l m).1
  | 0 => ⟨hC, hO⟩
  | m + 1 => by
    obtain ⟨k1, k2⟩ := pst_P (ko := ko) (n := n) hz hrc hs hC hO m
    have hb := COK_h k2
    exact ⟨CLK_d k1 (hs _) k2 hrc, COK_app k2 (dcm_m hz hb.1 hb.2 (hs _))⟩
theorem lay1_P {K : Int → Int → Int} {pz : Prop} {rc z : Int} {l : List qCmd} (hK : ∀ al ac kk, ¬ (0 ≤ al ∧ al < 12) → ¬ K al ac = r_t5 kk) (hz : 0 ≤ z ∧ z < 12) (hrc : 0 ≤ rc) (hC : CLK l) (hO : COK l) : CLK (lay1 K pz rc z l) ∧ COK (lay1 K pz rc z l) := by
  unfold lay1
  have hb := COK_h hO
  split
  · exact ⟨hC, hO⟩
  · refine pst_P hz hrc (fun i => sT_g hK z i) ?_ ?_ _
    · have h1 : CLK (l ++ [(122, hX l, hY l, z)]) := CLK_m hC (by decide) rfl rfl
      split
      · exact CLK_m h1 (by decide) (by rw [hX_end]) (by rw [hY_end])
      · rw [List.append_nil]; exact h1
    · refine COK_app (COK_app hO (fun c hc => ?_)) (fun c hc => ?_)
      · rw [List.mem_singleton] at hc; subst hc; exact ⟨hb.1, hb.2, hz, by show 0 ≤ (122 : Int) ∧ (122 : Int) < 65536; decide⟩
      · split at hc
        · rw [List.mem_singleton] at hc; subst hc; exact ⟨hb.1, hb.2, hz, by show 0 ≤ (112 : Int) ∧ (112 : Int) < 65536; decide⟩
        · cases hc
theorem PLN_P {a : Int → Int} {f : Nat → Int} {b : Nat} {pz : Int → Int} (hrc : 0 ≤ f (b + 5)) : ∀ z : Nat, z ≤ 12 → CLK (PLN a f b pz z) ∧ COK (PLN a f b pz z)
  | 0, _ => ⟨CLK_0, COK_0⟩
  | z + 1, hz => by
    obtain ⟨k1, k2⟩ := PLN_P (a := a) (pz := pz) hrc z (by omega)
    exact lay1_P (fun al ac kk h => KL_o h) (by omega) hrc k1 k2
/-! a tick, as a relation between the numbers of the machine -/
def TKR (l : List qCmd) (hot : Prop) (nx gn sp st' nx' gn' sp' kz ov : Int) : Prop :=
  ((cg l nx).1 = 100 ∧ ¬ hot ∧ st' = 119 ∧ nx' = nx ∧ gn' = gn ∧ sp' = 0 ∧ kz = -2 ∧ ov = 0) ∨
  (((cg l nx).1 = 100 → hot) ∧ (gn < LEN l nx ∧ SPD l nx sp (LEN l nx - gn) < LEN l nx - gn) ∧ st' = 114 ∧ nx' = nx ∧ gn' = gn + SPD l nx sp (LEN l nx - gn) ∧ sp' = SPD l nx sp (LEN l nx - gn) ∧ kz = -2 ∧ ov = 0) ∨
  (((cg l nx).1 = 100 → hot) ∧ ¬ (gn < LEN l nx ∧ SPD l nx sp (LEN l nx - gn) < LEN l nx - gn) ∧ ov = 1 ∧ nx' = nx + 1 ∧ gn' = 0 ∧
    (∃ s1, (gn < LEN l nx ∧ s1 = SPD l nx sp (LEN l nx - gn) ∨ ¬ gn < LEN l nx ∧ s1 = sp) ∧ (GON l nx ∧ sp' = (if s1 ≤ GRT l (nx + 1) then s1 else GRT l (nx + 1)) ∨ ¬ GON l nx ∧ sp' = 0)) ∧
    ((cg l nx).1 = 122 ∧ kz = nx ∨ ¬ (cg l nx).1 = 122 ∧ kz = -2) ∧
    (nx + 1 = l.length ∧ st' = 100 ∨ ¬ nx + 1 = l.length ∧ (cg l nx).1 = 112 ∧ st' = 112 ∨ ¬ nx + 1 = l.length ∧ ¬ (cg l nx).1 = 112 ∧ st' = 114))
theorem TKR_u {l : List qCmd} {hot : Prop} {nx gn sp a1 a2 a3 a4 a5 a6 b1 b2 b3 b4 b5 b6 : Int} (h : TKR l hot nx gn sp a1 a2 a3 a4 a5 a6) (k : TKR l hot nx gn sp b1 b2 b3 b4 b5 b6) : a1 = b1 ∧ a2 = b2 ∧ a3 = b3 ∧ a4 = b4 ∧ a5 = b5 ∧ a6 = b6 := by
  have hsp : ∀ s1 s2 u v : Int, (gn < LEN l nx ∧ s1 = SPD l nx sp (LEN l nx - gn) ∨ ¬ gn < LEN l nx ∧ s1 = sp) → (gn < LEN l nx ∧ s2 = SPD l nx sp (LEN l nx - gn) ∨ ¬ gn < LEN l nx ∧ s2 = sp) → (GON l nx ∧ u = (if s1 ≤ GRT l (nx + 1) then s1 else GRT l (nx + 1)) ∨ ¬ GON l nx ∧ u = 0) → (GON l nx ∧ v = (if s2 ≤ GRT l (nx + 1) then s2 else GRT l (nx + 1)) ∨ ¬ GON l nx ∧ v = 0) → u = v := by
    intro s1 s2 u v h1 h2 h3 h4
    have e : s1 = s2 := by omega
    subst e
    rcases h3 with ⟨c, rfl⟩ | ⟨c, rfl⟩ <;> rcases h4 with ⟨d, rfl⟩ | ⟨d, rfl⟩ <;> first | rfl | contradiction
  rcases h with ⟨h1, h2, rfl, rfl, rfl, rfl, rfl, rfl⟩ | ⟨h1, h2, rfl, rfl, rfl, rfl, rfl, rfl⟩ | ⟨h1, h2, rfl, rfl, rfl, ⟨s1, h3, h4⟩, h5, h6⟩ <;>
  rcases k with ⟨k1, k2, rfl, rfl, rfl, rfl, rfl, rfl⟩ | ⟨k1, k2, rfl, rfl, rfl, rfl, rfl, rfl⟩ | ⟨k1, k2, rfl, rfl, rfl, ⟨s2, k3, k4⟩, k5, k6⟩
  · exact ⟨rfl, rfl, rfl, rfl, rfl, rfl⟩
  · exact absurd (k1 h1) h2
  · exact absurd (k1 h1) h2
  · exact absurd (h1 k1) k2
  · exact ⟨rfl, rfl, rfl, rfl, rfl, rfl⟩
  · exact absurd h2 k2
  · exact absurd (h1 k1) k2
  · exact absurd k2 h2
  · exact ⟨by omega, rfl, rfl, hsp _ _ _ _ h3 k3 h4 k4, by omega, rfl⟩
/-- the cells of a stroke -/
def OnS (l : List qCmd) (i j : Int) : Prop := ∃ t, (0 ≤ t ∧ t < cC l i) ∧ j = 144 * (cg l i).2.2.2 + 12 * ((cg l i).2.2.1 - t * sgn (dY l i)) + ((cg l i).2.1 - t * sgn (dX l i))
/-- what lies behind a tick -/
def LYR (l : List qCmd) (th : Int → Int) (nx ov : Int) (g g' : Int → Int) : Prop := (ov = 1 ∧ (cg l nx).1 = 100 ∧ ∀ j, g' j = g j + r_i (OnS l nx j) (10 * th (cg l nx).2.2.2) 0) ∨ (¬ (ov = 1 ∧ (cg l nx).1 = 100) ∧ g' = g)
theorem LYR_u {l : List qCmd} {th : Int → Int} {nx ov : Int} {g a b : Int → Int} (h : LYR l th nx ov g a) (k : LYR l th nx ov g b) : a = b := by
  rcases h with ⟨h1, h2, h3⟩ | ⟨h1, rfl⟩ <;> rcases k with ⟨k1, k2, k3⟩ | ⟨k1, rfl⟩
  · exact funext fun j => by rw [h3, k3]
  · exact absurd ⟨h1, h2⟩ k1
  · exact absurd ⟨k1, k2⟩ h1
  · rfl
/-- the heater in a tick -/
def HTR (tg tp on tp' on' : Int) : Prop := (tp < tg - 2 ∧ on' = 1 ∨ ¬ tp < tg - 2 ∧ tp > tg + 2 ∧ on' = 0 ∨ ¬ tp < tg - 2 ∧ ¬ tp > tg + 2 ∧ on' = on) ∧ (¬ on' = 0 ∧ tp' = tp + 3 ∨ on' = 0 ∧ 20 < tp ∧ tp' = tp - 1 ∨ on' = 0 ∧ ¬ 20 < tp ∧ tp' = 20)
theorem HTR_u {tg tp on a b c d : Int} (h : HTR tg tp on a b) (k : HTR tg tp on c d) : a = c ∧ b = d := by
  unfold HTR at *; omega
