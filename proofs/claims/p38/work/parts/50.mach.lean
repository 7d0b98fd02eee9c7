/-! the machine, over the list of commands -/
def MV (l : List qCmd) (i : Int) : Prop := (cg l i).1 = 103 ∨ (cg l i).1 = 100
def LEN (l : List qCmd) (i : Int) : Int := 10 * (if iab (dY l i) ≤ iab (dX l i) then iab (dX l i) else iab (dY l i))
def GRT (l : List qCmd) (i : Int) : Int := if (cg l i).1 = 103 then 8 else 4
def sgn (x : Int) : Int := if 0 < x then 1 else if x < 0 then -1 else 0
theorem sgn_r (x : Int) : r_i (0 < x) 1 (r_i (x < 0) (-1) 0) = sgn x := by unfold r_i sgn; (repeat' split) <;> rfl
theorem sgn_b (x : Int) : (sgn x = 1 ∧ 0 < x) ∨ (sgn x = -1 ∧ x < 0) ∨ (sgn x = 0 ∧ x = 0) := by unfold sgn; (repeat' split) <;> omega
def GON (l : List qCmd) (i : Int) : Prop := MV l i ∧ MV l (i + 1) ∧ ¬ (dX l i = 0 ∧ dY l i = 0) ∧ sgn (dX l i) = sgn (dX l (i + 1)) ∧ sgn (dY l i) = sgn (dY l (i + 1))
noncomputable def LST (l : List qCmd) (i : Int) : Int := r_i (GON l i) (if GRT l i ≤ GRT l (i + 1) then GRT l i else GRT l (i + 1)) 1
theorem GRT_b (l : List qCmd) (i : Int) : 4 ≤ GRT l i ∧ GRT l i ≤ 8 := by unfold GRT; split <;> omega
theorem LST_b (l : List qCmd) (i : Int) : 1 ≤ LST l i ∧ LST l i ≤ 8 := by
  have h1 := GRT_b l i
  have h2 := GRT_b l (i + 1)
  unfold LST r_i; split
  · split <;> omega
  · omega
theorem dX_b {l : List qCmd} (h : COK l) (i : Int) : (-11 ≤ dX l i ∧ dX l i ≤ 11) ∧ (-11 ≤ dY l i ∧ dY l i ≤ 11) := by
  have h1 := h i
  have h2 := h (i - 1)
  unfold dX dY
  omega
theorem LEN_b {l : List qCmd} (h : COK l) (i : Int) : 0 ≤ LEN l i ∧ LEN l i ≤ 110 := by
  have h1 := dX_b h i
  have k1 := iab_b (dX l i)
  have k2 := iab_b (dY l i)
  unfold LEN; split <;> omega
theorem LEN_0 {l : List qCmd} {i : Int} : LEN l i = 0 ↔ dX l i = 0 ∧ dY l i = 0 := by
  have k1 := iab_b (dX l i)
  have k2 := iab_b (dY l i)
  unfold LEN; split <;> omega
theorem cC_b {l : List qCmd} (h : COK l) (i : Int) : 1 ≤ cC l i ∧ cC l i ≤ 23 := by
  have h1 := dX_b h i
  have k1 := iab_b (dX l i)
  have k2 := iab_b (dY l i)
  unfold cC; omega
/-- the sum of the numbers from the last speed on, n of them -/
def smf (last : Int) : Nat → Int
  | 0 => 0
  | n + 1 => smf last n + (last + n)
def NED (last n : Int) : Int := smf last (n - last).toNat
theorem NED_0 {last n : Int} (h : n ≤ last) : NED last n = 0 := by unfold NED; rw [show (n - last).toNat = 0 by omega]; rfl
theorem NED_s {last n : Int} (h : last ≤ n) : NED last (n + 1) = NED last n + n := by
  unfold NED
  rw [show (n + 1 - last).toNat = (n - last).toNat + 1 by omega]
  show smf last (n - last).toNat + (last + ((n - last).toNat : Int)) = _
  omega
theorem NED_b {last n : Int} (h0 : 1 ≤ last) (h1 : n ≤ 9) : 0 ≤ NED last n ∧ NED last n ≤ 100 := by
  by_cases c : n ≤ last
  · rw [NED_0 c]; omega
  · unfold NED
    have e : ∀ k : Nat, last + k ≤ 9 → 0 ≤ smf last k ∧ smf last k ≤ 8 * k := by
      intro k
      induction k with
      | zero => intro _; exact ⟨Int.le_refl _, Int.le_refl _⟩
      | succ k ih =>
        intro hk
        have := ih (by omega)
        show 0 ≤ smf last k + (last + k) ∧ smf last k + (last + k) ≤ 8 * ((k + 1 : Nat) : Int)
        omega
    have := e (n - last).toNat (by omega)
    omega
/-- the greatest speed from which the move can still end, at most m, or 1 -/
def isS (last left m v : Int) : Prop := 1 ≤ v ∧ (v = 1 ∨ (v ≤ m ∧ NED last v ≤ left - v)) ∧ ∀ k, v < k → k ≤ m → ¬ NED last k ≤ left - k
theorem isS_u {last left m v w : Int} (h : isS last left m v) (k : isS last left m w) : v = w := by
  obtain ⟨h1, h2, h3⟩ := h
  obtain ⟨k1, k2, k3⟩ := k
  by_cases c : v < w
  · rcases k2 with k2 | k2
    · omega
    · exact absurd k2.2 (h3 w c k2.1)
  · by_cases d : w < v
    · rcases h2 with h2 | h2
      · omega
      · exact absurd h2.2 (k3 v d h2.1)
    · omega
noncomputable def spd (last left m : Int) : Int := @Classical.epsilon Int ⟨0⟩ (isS last left m)
theorem spd_e {last left m v : Int} (h : isS last left m v) : v = spd last left m := isS_u h (@Classical.epsilon_spec_aux Int ⟨0⟩ (isS last left m) ⟨v, h⟩)
noncomputable def SPD (l : List qCmd) (i sp left : Int) : Int := spd (LST l i) left (r_i (sp + 1 ≤ r_i (GRT l i ≤ left) (GRT l i) left) (sp + 1) (r_i (GRT l i ≤ left) (GRT l i) left))
/-- aligned strokes; what is no move stays where it is -/
def CLK (l : List qCmd) : Prop := ∀ i, (¬ MV l i → 0 ≤ i → i < l.length → dX l i = 0 ∧ dY l i = 0) ∧ ((cg l i).1 = 100 → dX l i = 0 ∨ dY l i = 0)
theorem CLK_0 : CLK [] := fun i => ⟨fun _ h0 h1 => by have h1 : i < ((0 : Nat) : Int) := h1; omega, fun h => by
  have : cg [] i = (0, 0, 0, 0) := by unfold cg; split <;> rfl
  rw [this] at h; exact absurd h (by decide)⟩
theorem CLK_a {l : List qCmd} {c : qCmd} (h : CLK l) (h1 : ¬ c.1 = 103 → ¬ c.1 = 100 → c.2.1 = hX l ∧ c.2.2.1 = hY l) (h2 : c.1 = 100 → c.2.1 = hX l ∨ c.2.2.1 = hY l) : CLK (l ++ [c]) := fun i => by
  by_cases d : i < l.length
  · unfold MV
    rw [dX_app d, dY_app d, cg_app d]
    exact ⟨fun a b e => (h i).1 a b d, (h i).2⟩
  · by_cases e : i = l.length
    · unfold MV
      rw [e, dX_end, dY_end, cg_end]
      refine ⟨fun a b _ => ?_, fun a => ?_⟩
      · have := h1 (fun f => a (Or.inl f)) (fun f => a (Or.inr f)); omega
      · have := h2 a; omega
    · refine ⟨fun _ _ f => by simp at f; omega, fun f => ?_⟩
      rw [cg_out (by simp; omega)] at f
      exact absurd f (by decide)
theorem CLK_m {l : List qCmd} {k x y z : Int} (h : CLK l) (hk : ¬ k = 103 ∧ ¬ k = 100) (hx : x = hX l) (hy : y = hY l) : CLK (l ++ [(k, x, y, z)]) := CLK_a h (fun _ _ => ⟨hx, hy⟩) (fun e => absurd e hk.2)
theorem CLK_g {l : List qCmd} {x y z : Int} (h : CLK l) : CLK (l ++ [(103, x, y, z)]) := CLK_a h (fun e => absurd rfl e) (fun e => absurd e (by show ¬ (103 : Int) = 100; decide))
theorem CLK_dd {l : List qCmd} {x y z : Int} (h : CLK l) (ha : x = hX l ∨ y = hY l) : CLK (l ++ [(100, x, y, z)]) := CLK_a h (fun _ e => absurd rfl e) (fun _ => ha)
theorem CLK_d {l : List qCmd} {rc z : Int} {q : Int × Int × Int × Int} (h : CLK l) (hq : sG q) (hO : COK l) (hrc : 0 ≤ rc) : CLK (l ++ dcm rc z (hX l) (hY l) q) := by
  have hb := COK_h hO
  have hnb := nrr_b hb.1 hb.2 hq
  have hni := nrr_i (hX l) (hY l) q
  have hal : ∀ p : Prop, r_i (¬ p) q.1 q.2.2.1 = r_i p q.1 q.2.2.1 ∨ r_i (¬ p) q.2.1 q.2.2.2 = r_i p q.2.1 q.2.2.2 := fun p => by
    rcases hq.2.2.2.2 with h5 | h5
    · refine Or.inl ?_
      rw [← h5.1, r_ii, r_ii]
    · refine Or.inr ?_
      rw [← h5.1, r_ii, r_ii]
  by_cases h2 : 0 < nrr (hX l) (hY l) q
  · by_cases h1 : rc < nrr (hX l) (hY l) q
    · rw [dcm_1 h1 h2]
      exact CLK_dd (CLK_m (CLK_g (CLK_m h (by decide) rfl rfl)) (by decide) (by rw [hX_end]) (by rw [hY_end])) (by rw [hX_end, hY_end]; exact hal _)
    · rw [dcm_2 h1 h2]
      exact CLK_dd (CLK_g h) (by rw [hX_end, hY_end]; exact hal _)
  · rw [dcm_3 (by omega) h2]
    have k := dst_0 (hni.trans (show nrr (hX l) (hY l) q = 0 by omega))
    have k2 := hal (dst (hX l) (hY l) q.1 q.2.1 ≤ dst (hX l) (hY l) q.2.2.1 q.2.2.2)
    rw [k.1, k.2] at k2
    exact CLK_dd h k2
abbrev cOK (c : qCmd) : Prop := (0 ≤ c.2.1 ∧ c.2.1 < 12) ∧ (0 ≤ c.2.2.1 ∧ c.2.2.1 < 12) ∧ (0 ≤ c.2.2.2 ∧ c.2.2.2 < 12) ∧ (0 ≤ c.1 ∧ c.1 < 65536)
theorem COK_app {l : List qCmd} : ∀ {m : List qCmd}, COK l → (∀ c ∈ m, cOK c) → COK (l ++ m)
  | [], h, _ => by rw [List.append_nil]; exact h
  | c :: m, h, hm => by
    have hc := hm c List.mem_cons_self
    rw [show l ++ c :: m = (l ++ [c]) ++ m by simp]
    exact COK_app (COK_a h hc.2.2.2 hc.1 hc.2.1 hc.2.2.1) (fun d hd => hm d (List.mem_cons_of_mem _ hd))
theorem dcm_m {rc z hx hy : Int} {q : Int × Int × Int × Int} (hz : 0 ≤ z ∧ z < 12) (h1 : 0 ≤ hx ∧ hx < 12) (h2 : 0 ≤ hy ∧ hy < 12) (hq : sG q) : ∀ c ∈ dcm rc z hx hy q, cOK c := by
  intro c hc
  obtain ⟨q1, q2, q3, q4, _⟩ := hq
  unfold dcm at hc
  simp only [List.mem_append] at hc
  rcases hc with ((hc | hc) | hc) | hc
  · split at hc
    · rw [List.mem_singleton] at hc; subst hc; exact ⟨h1, h2, hz, by show 0 ≤ (114 : Int) ∧ (114 : Int) < 65536; decide⟩
    · cases hc
  · split at hc
    · rw [List.mem_singleton] at hc; subst hc; exact ⟨r_i12 q1 q3, r_i12 q2 q4, hz, by show 0 ≤ (103 : Int) ∧ (103 : Int) < 65536; decide⟩
    · cases hc
  · split at hc
    · rw [List.mem_singleton] at hc; subst hc; exact ⟨r_i12 q1 q3, r_i12 q2 q4, hz, by show 0 ≤ (117 : Int) ∧ (117 : Int) < 65536; decide⟩
    · cases hc
  · rw [List.mem_singleton] at hc; subst hc; exact ⟨r_i12 q1 q3, r_i12 q2 q4, hz, by show 0 ≤ (100 : Int) ∧ (100 : Int) < 65536; decide⟩
theorem pst_P {ko : Int → Int} {sd : Int → Int × Int × Int × Int} {n rc z : Int} {l : List qCmd} (hz : 0 ≤ z ∧ z < 12) (hrc : 0 ≤ rc) (hs : ∀ i, sG (sd i)) (hC : CLK l) (hO : COK l) : ∀ m : Nat, CLK (pst ko sd n rc z l m).1 ∧ COK (pst ko sd n rc z l m).1
  | 0 => ⟨hC, hO⟩
  | m + 1 => by
    obtain ⟨k1, k2⟩ := pst_P (ko := ko) (n := n) hz hrc hs hC hO m
    have hb := COK_h k2
    exact ⟨CLK_d k1 (hs _) k2 hrc, COK_app k2 (dcm_m hz hb.1 hb.2 (hs _))⟩
theorem lay1_P {K : Int → Int → Int} {pz : Prop} {rc z : Int} {l : List qCmd} (hK : ∀ al ac kk, ¬ (0 ≤ al ∧ al < 12) → ¬ K al ac = r_t5 kk) (hz : 0 ≤ z ∧ z < 12) (hrc : 0 ≤ rc) (hC : CLK l) (hO : COK l) : CLK (lay1 K pz rc z l) ∧ COK (lay1 K pz rc z l) := by
  unfold lay1
  have hb := COK_h hO
  split
  · exact ⟨hC, hO⟩
  · refine pst_P hz hrc (fun i => sT_g hK z i) ?_ ?_ _
    · have h1 : CLK (l ++ [(122, hX l, hY l, z)]) := CLK_m hC (by decide) rfl rfl
      split
      · exact CLK_m h1 (by decide) (by rw [hX_end]) (by rw [hY_end])
      · rw [List.append_nil]; exact h1
    · refine COK_app (COK_app hO (fun c hc => ?_)) (fun c hc => ?_)
      · rw [List.mem_singleton] at hc; subst hc; exact ⟨hb.1, hb.2, hz, by show 0 ≤ (122 : Int) ∧ (122 : Int) < 65536; decide⟩
      · split at hc
        · rw [List.mem_singleton] at hc; subst hc; exact ⟨hb.1, hb.2, hz, by show 0 ≤ (112 : Int) ∧ (112 : Int) < 65536; decide⟩
        · cases hc
theorem PLN_P {a : Int → Int} {f : Nat → Int} {b : Nat} {pz : Int → Int} (hrc : 0 ≤ f (b + 5)) : ∀ z : Nat, z ≤ 12 → CLK (PLN a f b pz z) ∧ COK (PLN a f b pz z)
  | 0, _ => ⟨CLK_0, COK_0⟩
  | z + 1, hz => by
    obtain ⟨k1, k2⟩ := PLN_P (a := a) (pz := pz) hrc z (by omega)
    exact lay1_P (fun al ac kk h => KL_o h) (by omega) hrc k1 k2
/-! a tick, as a relation between the numbers of the machine -/
def TKR (l : List qCmd) (hot : Prop) (nx gn sp st' nx' gn' sp' kz ov : Int) : Prop :=
  ((cg l nx).1 = 100 ∧ ¬ hot ∧ st' = 119 ∧ nx' = nx ∧ gn' = gn ∧ sp' = 0 ∧ kz = -2 ∧ ov = 0) ∨
  (((cg l nx).1 = 100 → hot) ∧ (gn < LEN l nx ∧ SPD l nx sp (LEN l nx - gn) < LEN l nx - gn) ∧ st' = 114 ∧ nx' = nx ∧ gn' = gn + SPD l nx sp (LEN l nx - gn) ∧ sp' = SPD l nx sp (LEN l nx - gn) ∧ kz = -2 ∧ ov = 0) ∨
  (((cg l nx).1 = 100 → hot) ∧ ¬ (gn < LEN l nx ∧ SPD l nx sp (LEN l nx - gn) < LEN l nx - gn) ∧ ov = 1 ∧ nx' = nx + 1 ∧ gn' = 0 ∧
    (∃ s1, (gn < LEN l nx ∧ s1 = SPD l nx sp (LEN l nx - gn) ∨ ¬ gn < LEN l nx ∧ s1 = sp) ∧ (GON l nx ∧ sp' = (if s1 ≤ GRT l (nx + 1) then s1 else GRT l (nx + 1)) ∨ ¬ GON l nx ∧ sp' = 0)) ∧
    ((cg l nx).1 = 122 ∧ kz = nx ∨ ¬ (cg l nx).1 = 122 ∧ kz = -2) ∧
    (nx + 1 = l.length ∧ st' = 100 ∨ ¬ nx + 1 = l.length ∧ (cg l nx).1 = 112 ∧ st' = 112 ∨ ¬ nx + 1 = l.length ∧ ¬ (cg l nx).1 = 112 ∧ st' = 114))
theorem TKR_u {l : List qCmd} {hot : Prop} {nx gn sp a1 a2 a3 a4 a5 a6 b1 b2 b3 b4 b5 b6 : Int} (h : TKR l hot nx gn sp a1 a2 a3 a4 a5 a6) (k : TKR l hot nx gn sp b1 b2 b3 b4 b5 b6) : a1 = b1 ∧ a2 = b2 ∧ a3 = b3 ∧ a4 = b4 ∧ a5 = b5 ∧ a6 = b6 := by
  have hsp : ∀ s1 s2 u v : Int, (gn < LEN l nx ∧ s1 = SPD l nx sp (LEN l nx - gn) ∨ ¬ gn < LEN l nx ∧ s1 = sp) → (gn < LEN l nx ∧ s2 = SPD l nx sp (LEN l nx - gn) ∨ ¬ gn < LEN l nx ∧ s2 = sp) → (GON l nx ∧ u = (if s1 ≤ GRT l (nx + 1) then s1 else GRT l (nx + 1)) ∨ ¬ GON l nx ∧ u = 0) → (GON l nx ∧ v = (if s2 ≤ GRT l (nx + 1) then s2 else GRT l (nx + 1)) ∨ ¬ GON l nx ∧ v = 0) → u = v := by
    intro s1 s2 u v h1 h2 h3 h4
    have e : s1 = s2 := by omega
    subst e
    rcases h3 with ⟨c, rfl⟩ | ⟨c, rfl⟩ <;> rcases h4 with ⟨d, rfl⟩ | ⟨d, rfl⟩ <;> first | rfl | contradiction
  rcases h with ⟨h1, h2, rfl, rfl, rfl, rfl, rfl, rfl⟩ | ⟨h1, h2, rfl, rfl, rfl, rfl, rfl, rfl⟩ | ⟨h1, h2, rfl, rfl, rfl, ⟨s1, h3, h4⟩, h5, h6⟩ <;>
  rcases k with ⟨k1, k2, rfl, rfl, rfl, rfl, rfl, rfl⟩ | ⟨k1, k2, rfl, rfl, rfl, rfl, rfl, rfl⟩ | ⟨k1, k2, rfl, rfl, rfl, ⟨s2, k3, k4⟩, k5, k6⟩
  · exact ⟨rfl, rfl, rfl, rfl, rfl, rfl⟩
  · exact absurd (k1 h1) h2
  · exact absurd (k1 h1) h2
  · exact absurd (h1 k1) k2
  · exact ⟨rfl, rfl, rfl, rfl, rfl, rfl⟩
  · exact absurd h2 k2
  · exact absurd (h1 k1) k2
  · exact absurd k2 h2
  · exact ⟨by omega, rfl, rfl, hsp _ _ _ _ h3 k3 h4 k4, by omega, rfl⟩
/-- the cells of a stroke -/
def OnS (l : List qCmd) (i j : Int) : Prop := ∃ t, (0 ≤ t ∧ t < cC l i) ∧ j = 144 * (cg l i).2.2.2 + 12 * ((cg l i).2.2.1 - t * sgn (dY l i)) + ((cg l i).2.1 - t * sgn (dX l i))
/-- what lies behind a tick -/
def LYR (l : List qCmd) (th : Int → Int) (nx ov : Int) (g g' : Int → Int) : Prop := (ov = 1 ∧ (cg l nx).1 = 100 ∧ ∀ j, g' j = g j + r_i (OnS l nx j) (10 * th (cg l nx).2.2.2) 0) ∨ (¬ (ov = 1 ∧ (cg l nx).1 = 100) ∧ g' = g)
theorem LYR_u {l : List qCmd} {th : Int → Int} {nx ov : Int} {g a b : Int → Int} (h : LYR l th nx ov g a) (k : LYR l th nx ov g b) : a = b := by
  rcases h with ⟨h1, h2, h3⟩ | ⟨h1, rfl⟩ <;> rcases k with ⟨k1, k2, k3⟩ | ⟨k1, rfl⟩
  · exact funext fun j => by rw [h3, k3]
  · exact absurd ⟨h1, h2⟩ k1
  · exact absurd ⟨k1, k2⟩ h1
  · rfl
/-- the heater in a tick -/
def HTR (tg tp on tp' on' : Int) : Prop := (tp < tg - 2 ∧ on' = 1 ∨ ¬ tp < tg - 2 ∧ tp > tg + 2 ∧ on' = 0 ∨ ¬ tp < tg - 2 ∧ ¬ tp > tg + 2 ∧ on' = on) ∧ (¬ on' = 0 ∧ tp' = tp + 3 ∨ on' = 0 ∧ 20 < tp ∧ tp' = tp - 1 ∨ on' = 0 ∧ ¬ 20 < tp ∧ tp' = 20)
theorem HTR_u {tg tp on a b c d : Int} (h : HTR tg tp on a b) (k : HTR tg tp on c d) : a = c ∧ b = d := by
  unfold HTR at *; omega
def HOTP (tg tp : Int) : Prop := 150 ≤ tg ∧ tg - 10 ≤ tp
abbrev PRN (s : Int) : Prop := s = 114 ∨ s = 119 ∨ s = 112
abbrev BSY (s : Int) : Prop := (s = 114 ∨ s = 119 ∨ s = 112) ∨ s = 102
def suml (g : Int → Int) : Nat → Int
  | 0 => 0
  | n + 1 => suml g n + g n
theorem suml_u {g : Int → Int} {j v : Int} : ∀ n : Nat, suml (q_up g j v) n = suml g n + (if 0 ≤ j ∧ j < n then v - g j else 0)
  | 0 => by
    rw [if_neg (by omega)]; rfl
  | n + 1 => by
    unfold suml
    rw [suml_u n]
    unfold q_up
    by_cases c : (n : Int) = j
    · rw [if_pos c, if_neg (by omega), if_pos (by omega), c]; omega
    · rw [if_neg c]
      by_cases d : 0 ≤ j ∧ j < n
      · rw [if_pos d, if_pos (by omega)]; omega
      · rw [if_neg d, if_neg (by omega)]; omega
theorem onS_b {l : List qCmd} {i t : Int} (hO : COK l) (hC : CLK l) (hk : (cg l i).1 = 100) (ht : 0 ≤ t ∧ t < cC l i) : inc ((cg l i).2.1 - t * sgn (dX l i)) ((cg l i).2.2.1 - t * sgn (dY l i)) (cg l i).2.2.2 := by
  have h1 := hO i
  have h2 := hO (i - 1)
  have h3 := (hC i).2 hk
  have k1 := iab_b (dX l i)
  have k2 := iab_b (dY l i)
  have s1 := sgn_b (dX l i)
  have s2 := sgn_b (dY l i)
  unfold cC at ht
  have e1 : dX l i = (cg l i).2.1 - (cg l (i - 1)).2.1 := rfl
  have e2 : dY l i = (cg l i).2.2.1 - (cg l (i - 1)).2.2.1 := rfl
  rcases s1 with ⟨a, b⟩ | ⟨a, b⟩ | ⟨a, b⟩ <;> rcases s2 with ⟨c, d⟩ | ⟨c, d⟩ | ⟨c, d⟩ <;> rw [a, c] <;> omega
/-- one place of a stroke is met once -/
theorem onS_i {l : List qCmd} {i t u : Int} (hO : COK l) (hC : CLK l) (hk : (cg l i).1 = 100) (ht : 0 ≤ t ∧ t < cC l i) (hu : 0 ≤ u ∧ u < cC l i) (e : 144 * (cg l i).2.2.2 + 12 * ((cg l i).2.2.1 - t * sgn (dY l i)) + ((cg l i).2.1 - t * sgn (dX l i)) = 144 * (cg l i).2.2.2 + 12 * ((cg l i).2.2.1 - u * sgn (dY l i)) + ((cg l i).2.1 - u * sgn (dX l i))) : t = u := by
  have h3 := (hC i).2 hk
  have k1 := iab_b (dX l i)
  have k2 := iab_b (dY l i)
  have s1 := sgn_b (dX l i)
  have s2 := sgn_b (dY l i)
  unfold cC at ht hu
  rcases s1 with ⟨a, b⟩ | ⟨a, b⟩ | ⟨a, b⟩ <;> rcases s2 with ⟨c, d⟩ | ⟨c, d⟩ | ⟨c, d⟩ <;> rw [a, c] at e <;> omega
theorem HTE {tg tp on o2 : Int} (h14 : 20 ≤ tp ∧ tp ≤ 305) (h13 : 0 ≤ tg ∧ tg ≤ 300) (h15 : 0 ≤ on ∧ on < 2) (hh : tp < tg - 2 ∧ o2 = 1 ∨ ¬ tp < tg - 2 ∧ tp > tg + 2 ∧ o2 = 0 ∨ ¬ tp < tg - 2 ∧ ¬ tp > tg + 2 ∧ o2 = on) : HTR tg tp on (r_i (¬ o2 = 0) (tp + 3) (r_i (20 ≤ tp - 1) (tp - 1) 20)) o2 ∧ (20 ≤ r_i (¬ o2 = 0) (tp + 3) (r_i (20 ≤ tp - 1) (tp - 1) 20) ∧ r_i (¬ o2 = 0) (tp + 3) (r_i (20 ≤ tp - 1) (tp - 1) 20) ≤ 305) ∧ (0 ≤ o2 ∧ o2 < 2) := by
  have k : (¬ o2 = 0 ∧ r_i (¬ o2 = 0) (tp + 3) (r_i (20 ≤ tp - 1) (tp - 1) 20) = tp + 3) ∨ (o2 = 0 ∧ 20 ≤ tp - 1 ∧ r_i (¬ o2 = 0) (tp + 3) (r_i (20 ≤ tp - 1) (tp - 1) 20) = tp - 1) ∨ (o2 = 0 ∧ ¬ 20 ≤ tp - 1 ∧ r_i (¬ o2 = 0) (tp + 3) (r_i (20 ≤ tp - 1) (tp - 1) 20) = 20) := by
    by_cases c : o2 = 0
    · rw [r_i0 (fun d => d c)]
      by_cases d : 20 ≤ tp - 1
      · rw [r_i1 d]; omega
      · rw [r_i0 d]; omega
    · rw [r_i1 c]; omega
  unfold HTR
  omega
theorem rg2 {x : Int} (h : 20 ≤ x ∧ x ≤ 305) : rg x := by omega
theorem isS_x {last left : Int} : ∀ n : Nat, ∃ v, isS last left n v ∧ (v = 1 ∨ v ≤ n)
  | 0 => ⟨1, ⟨Int.le_refl _, Or.inl rfl, fun k h0 h1 => by omega⟩, Or.inl rfl⟩
  | n + 1 => by
    obtain ⟨v, ⟨h1, h2, h3⟩, h4⟩ := isS_x (last := last) (left := left) n
    by_cases c : NED last ((n + 1 : Nat) : Int) ≤ left - ((n + 1 : Nat) : Int)
    · exact ⟨((n + 1 : Nat) : Int), ⟨by omega, Or.inr ⟨Int.le_refl _, c⟩, fun k k0 k1 => by omega⟩, Or.inr (Int.le_refl _)⟩
    · refine ⟨v, ⟨h1, ?_, fun k k0 k1 => ?_⟩, by omega⟩
      · rcases h2 with h2 | h2
        · exact Or.inl h2
        · exact Or.inr ⟨by omega, h2.2⟩
      · by_cases d : k = ((n + 1 : Nat) : Int)
        · rw [d]; exact c
        · exact h3 k k0 (by omega)
theorem SPD_b {l : List qCmd} {i sp left : Int} (hs : 0 ≤ sp) (hl : 1 ≤ left) : 1 ≤ SPD l i sp left ∧ SPD l i sp left ≤ 8 ∧ SPD l i sp left ≤ left := by
  have hg := GRT_b l i
  obtain ⟨m, hm⟩ : ∃ m, m = r_i (sp + 1 ≤ r_i (GRT l i ≤ left) (GRT l i) left) (sp + 1) (r_i (GRT l i ≤ left) (GRT l i) left) := ⟨_, rfl⟩
  have hmb : 1 ≤ m ∧ m ≤ 8 ∧ m ≤ left := by rw [hm]; unfold r_i; (repeat' split) <;> omega
  obtain ⟨v, hv, hv2⟩ := isS_x (last := LST l i) (left := left) m.toNat
  rw [Int.toNat_of_nonneg (by omega)] at hv hv2
  have e := spd_e hv
  unfold SPD; rw [← hm, ← e]
  have := hv.1
  omega
abbrev MT : Type := Int × Int × Int × Int × Int × Int × (Int → Int)
def TK1 (l : List qCmd) (th : Int → Int) (tg : Int) (m n : MT) (kz ov : Int) : Prop :=
  HTR tg m.2.2.2.2.1 m.2.2.2.2.2.1 n.2.2.2.2.1 n.2.2.2.2.2.1 ∧
  ((¬ (m.1 = 114 ∨ m.1 = 119) ∧ n.1 = m.1 ∧ n.2.1 = m.2.1 ∧ n.2.2.1 = m.2.2.1 ∧ n.2.2.2.1 = m.2.2.2.1 ∧ n.2.2.2.2.2.2 = m.2.2.2.2.2.2 ∧ kz = -2 ∧ ov = 0) ∨
   ((m.1 = 114 ∨ m.1 = 119) ∧ TKR l (HOTP tg n.2.2.2.2.1) m.2.1 m.2.2.1 m.2.2.2.1 n.1 n.2.1 n.2.2.1 n.2.2.2.1 kz ov ∧ LYR l th m.2.1 ov m.2.2.2.2.2.2 n.2.2.2.2.2.2))
theorem TK1_u {l : List qCmd} {th : Int → Int} {tg : Int} {m n n2 : MT} {kz ov kz2 ov2 : Int} (h : TK1 l th tg m n kz ov) (k : TK1 l th tg m n2 kz2 ov2) : n = n2 ∧ kz = kz2 ∧ ov = ov2 := by
  obtain ⟨n1, n3, n4, n5, n6, n7, n8⟩ := n
  obtain ⟨p1, p3, p4, p5, p6, p7, p8⟩ := n2
  obtain ⟨h1, h2⟩ := h
  obtain ⟨k1, k2⟩ := k
  obtain ⟨e1, e2⟩ := HTR_u h1 k1
  dsimp only at e1 e2 h2 k2
  subst e1 e2
  rcases h2 with ⟨a, rfl, rfl, rfl, rfl, rfl, rfl, rfl⟩ | ⟨a, h3, h4⟩ <;> rcases k2 with ⟨b, rfl, rfl, rfl, rfl, rfl, rfl, rfl⟩ | ⟨b, k3, k4⟩
  · exact ⟨rfl, rfl, rfl⟩
  · exact absurd b a
  · exact absurd a b
  · obtain ⟨rfl, rfl, rfl, rfl, rfl, rfl⟩ := TKR_u h3 k3
    have := LYR_u h4 k4
    subst this
    exact ⟨rfl, rfl, rfl⟩
def TKN (l : List qCmd) (th : Int → Int) (tg : Int) : Nat → MT → MT → Int → Int → Prop
  | 0, m, n, kz, ov => n = m ∧ kz = -2 ∧ ov = 0
  | k + 1, m, n, kz, ov => ∃ m1 kz1 ov1 kz2 ov2, TKN l th tg k m m1 kz1 ov1 ∧ TK1 l th tg m1 n kz2 ov2 ∧ kz = (if kz2 = -2 then kz1 else kz2) ∧ ov = ov1 + ov2
theorem TKN_u {l : List qCmd} {th : Int → Int} {tg : Int} : ∀ (k : Nat) {m n n2 : MT} {kz ov kz2 ov2 : Int}, TKN l th tg k m n kz ov → TKN l th tg k m n2 kz2 ov2 → n = n2 ∧ kz = kz2 ∧ ov = ov2
  | 0, m, n, n2, kz, ov, kz2, ov2, ⟨h1, h2, h3⟩, ⟨k1, k2, k3⟩ => ⟨h1.trans k1.symm, h2.trans k2.symm, h3.trans k3.symm⟩
  | k + 1, m, n, n2, kz, ov, kz2, ov2, ⟨m1, a1, a2, a3, a4, h1, h2, h3, h4⟩, ⟨m2, b1, b2, b3, b4, k1, k2, k3, k4⟩ => by
    obtain ⟨rfl, rfl, rfl⟩ := TKN_u k h1 k1
    obtain ⟨rfl, rfl, rfl⟩ := TK1_u h2 k2
    exact ⟨rfl, h3.trans k3.symm, h4.trans k4.symm⟩
/-- the numbers of the machine are within their ranges -/
def MI (l : List qCmd) (m : MT) : Prop := (0 ≤ m.2.1 ∧ m.2.1 ≤ l.length) ∧ (PRN m.1 → m.2.1 < l.length) ∧ 0 ≤ m.2.2.1 ∧ (m.2.2.1 = 0 ∨ m.2.2.1 < LEN l m.2.1) ∧ (0 ≤ m.2.2.2.1 ∧ m.2.2.2.1 ≤ 8) ∧ (20 ≤ m.2.2.2.2.1 ∧ m.2.2.2.2.1 ≤ 305) ∧ (0 ≤ m.2.2.2.2.2.1 ∧ m.2.2.2.2.2.1 < 2)
theorem TKR_MI {l : List qCmd} {hot : Prop} {nx gn sp a1 a2 a3 a4 a5 a6 : Int} (h0 : 0 ≤ nx ∧ nx < l.length) (h1 : 0 ≤ gn) (h2 : 0 ≤ sp ∧ sp ≤ 8) (h3 : gn = 0 ∨ gn < LEN l nx) (h : TKR l hot nx gn sp a1 a2 a3 a4 a5 a6) : (0 ≤ a2 ∧ a2 ≤ l.length) ∧ (PRN a1 → a2 < l.length) ∧ 0 ≤ a3 ∧ (a3 = 0 ∨ a3 < LEN l a2) ∧ (0 ≤ a4 ∧ a4 ≤ 8) ∧ (a6 = 0 ∨ a6 = 1) ∧ (a5 = -2 ∨ a5 = nx) ∧ (a1 = 114 ∨ a1 = 119 ∨ a1 = 112 ∨ a1 = 100) := by
  rcases h with ⟨k1, k2, rfl, rfl, rfl, rfl, rfl, rfl⟩ | ⟨k1, k2, rfl, rfl, rfl, rfl, rfl, rfl⟩ | ⟨k1, k2, rfl, rfl, rfl, ⟨s1, k3, k4⟩, k5, k6⟩
  · exact ⟨by omega, fun _ => h0.2, h1, h3, by omega, by omega, by omega, by omega⟩
  · have hb := SPD_b (l := l) (i := a2) (sp := sp) (left := LEN l a2 - gn) h2.1 (by omega)
    exact ⟨by omega, fun _ => h0.2, by omega, by omega, by omega, by omega, by omega, by omega⟩
  · have hg := GRT_b l (nx + 1)
    have hs : 0 ≤ s1 ∧ s1 ≤ 8 := by
      rcases k3 with ⟨c, d⟩ | ⟨c, d⟩
      · have hb := SPD_b (l := l) (i := nx) (sp := sp) (left := LEN l nx - gn) h2.1 (by omega)
        omega
      · omega
    refine ⟨by omega, fun c => by omega, by omega, by omega, ?_, by omega, by omega, by omega⟩
    rcases k4 with ⟨_, k4⟩ | ⟨_, k4⟩
    · split at k4 <;> omega
    · omega
theorem TK1_MI {l : List qCmd} {th : Int → Int} {tg : Int} {m n : MT} {kz ov : Int} (ht : 0 ≤ tg ∧ tg ≤ 300) (hm : MI l m) (h : TK1 l th tg m n kz ov) : MI l n ∧ (ov = 0 ∨ ov = 1) ∧ (kz = -2 ∨ kz = m.2.1) := by
  obtain ⟨h1, h2⟩ := h
  obtain ⟨m1, m2, m3, m4, m5, m6, m7⟩ := hm
  unfold HTR at h1
  rcases h2 with ⟨a, b1, b2, b3, b4, b5, b6, b7⟩ | ⟨a, h3, h4⟩
  · refine ⟨⟨by omega, fun c => ?_, by omega, by rw [b2, b3]; exact m4, by omega, by omega, by omega⟩, by omega, by omega⟩
    rw [b2]; exact m2 (by rw [← b1]; exact c)
  · obtain ⟨c1, c2, c3, c4, c5, c6, c7, _⟩ := TKR_MI ⟨m1.1, m2 (by omega)⟩ m3 m5 m4 h3
    exact ⟨⟨c1, c2, c3, c4, c5, by omega, by omega⟩, c6, c7⟩
theorem LYR_b {l : List qCmd} {th : Int → Int} {nx ov b : Int} {g g' : Int → Int} (ht : 0 ≤ th (cg l nx).2.2.2 ∧ th (cg l nx).2.2.2 ≤ 3) (hg : ∀ j, 0 ≤ g j ∧ g j ≤ b) (h : LYR l th nx ov g g') : ∀ j, 0 ≤ g' j ∧ g' j ≤ b + 30 := by
  intro j
  have := hg j
  rcases h with ⟨_, _, h⟩ | ⟨_, rfl⟩
  · rw [h j]; unfold r_i; split <;> omega
  · omega
def mC (S : q_Sg) : MT := (S.1 16, S.1 18, S.1 19, S.1 20, S.1 14, S.1 15, S.2.1 20)
def mR (S : q_Sg) : MT := (S.1 32, S.1 35, S.1 37, S.1 38, S.1 40, S.1 41, S.2.1 32)
theorem TK1_b {l : List qCmd} {th : Int → Int} {tg b : Int} {m n : MT} {kz ov : Int} (ht : 0 ≤ th (cg l m.2.1).2.2.2 ∧ th (cg l m.2.1).2.2.2 ≤ 3) (hg : ∀ j, 0 ≤ m.2.2.2.2.2.2 j ∧ m.2.2.2.2.2.2 j ≤ b) (h : TK1 l th tg m n kz ov) : ∀ j, 0 ≤ n.2.2.2.2.2.2 j ∧ n.2.2.2.2.2.2 j ≤ b + 30 := by
  intro j
  rcases h.2 with ⟨_, _, _, _, _, e, _⟩ | ⟨_, _, h4⟩
  · rw [e]; have := hg j; omega
  · exact LYR_b ht hg h4 j
theorem r_litl1 {L : qL} {h : qH} : r_E (q_eLit (.long 1)) L h (.long (Int64.ofInt 1)) := rfl
theorem r_spopG {e : qE} {L : qL} {h h2 : qH} {v : Value} {Q : qQ} (k : r_K e L h v h2) (q : Q (0, .null) L h2) : wS (q_sPop e) L h Q := wS_pop ⟨v, h2, k, q⟩
/-- the beginning of a stroke, counted from its end -/
theorem OnS_w {l : List qCmd} {i : Int} (hC : CLK l) (hk : (cg l i).1 = 100) : (cC l i - 1) * sgn (dX l i) = dX l i ∧ (cC l i - 1) * sgn (dY l i) = dY l i := by
  have h3 := (hC i).2 hk
  have k1 := iab_b (dX l i)
  have k2 := iab_b (dY l i)
  have s1 := sgn_b (dX l i)
  have s2 := sgn_b (dY l i)
  unfold cC
  rcases s1 with ⟨a, b⟩ | ⟨a, b⟩ | ⟨a, b⟩ <;> rcases s2 with ⟨c, d⟩ | ⟨c, d⟩ | ⟨c, d⟩ <;> rw [a, c] <;> omega
theorem OnS_m {l : List qCmd} {i w : Int} (hC : CLK l) (hk : (cg l i).1 = 100) (hw : 0 ≤ w ∧ w < cC l i) : ((¬ w * sgn (dX l i) = 0 ∨ ¬ w * sgn (dY l i) = 0) ↔ 0 < w) ∧ sgn (w * sgn (dX l i)) = (if 0 < w then sgn (dX l i) else 0) ∧ sgn (w * sgn (dY l i)) = (if 0 < w then sgn (dY l i) else 0) := by
  have h3 := (hC i).2 hk
  have k1 := iab_b (dX l i)
  have k2 := iab_b (dY l i)
  have s1 := sgn_b (dX l i)
  have s2 := sgn_b (dY l i)
  unfold cC at hw
  have hs : ∀ v, sgn v = (if 0 < v then 1 else if v < 0 then -1 else 0) := fun v => rfl
  by_cases c0 : 0 < w
  · rw [if_pos c0, if_pos c0]
    rcases s1 with ⟨a, b⟩ | ⟨a, b⟩ | ⟨a, b⟩ <;> rcases s2 with ⟨c, d⟩ | ⟨c, d⟩ | ⟨c, d⟩ <;> rw [a, c] <;> (refine ⟨by omega, ?_, ?_⟩ <;> (rw [hs]; (repeat' split) <;> omega))
  · have e : w = 0 := by omega
    rw [e, Int.zero_mul, Int.zero_mul]
    exact ⟨by omega, rfl, rfl⟩
theorem stv_c (p q : Prop) : rg (r_i p 100 (r_i q 112 114)) := by unfold r_i; (repeat' split) <;> omega
theorem stv_c2 (p q : Prop) : 0 ≤ r_i p 100 (r_i q 112 114) ∧ r_i p 100 (r_i q 112 114) < 65536 := by unfold r_i; (repeat' split) <;> omega
theorem r_saddC {i : Nat} {e : qE} {x : Int} {L : qL} {h : qH} {Q : qQ} {R : Value → qH → Prop} (hx : L[i]? = some (some (iv x))) (k : r_C e L h R) (q : ∀ v h2, R v h2 → ∃ z, v = iv z ∧ (z = 0 ∨ z = 1) ∧ Q (0, .null) (q_stL L i (iv (x + z))) h2) : wS (q_sLoc 0 i (q_eH2 (fun _ => q_iadd) (q_eLoc 0 i) (q_eIf (q_cCmp0 q_zne e) (q_eLit (.int 1)) (q_eLit (.int 0))))) L h Q := by
  obtain ⟨v, h2, e1, r⟩ := k
  obtain ⟨z, rfl, hz, q⟩ := q v h2 r
  have hzr : rg z := by omega
  refine wS_loc (wE_h2 (wE_loc hx rfl (wE_if (wB_cmp0 ⟨_, h2, e1, wc0_ne hzr (fun c => ?_) (fun c => ?_)⟩))))
  · refine ⟨fun _ => wE_lit (w2_iadd (a := x) (b := 1) ⟨rfl, ?_⟩), fun d => by cases d⟩
    rw [show (1 : Int) = z by omega]; exact q
  · refine ⟨fun d => (by cases d), fun _ => wE_lit (w2_iadd (a := x) (b := 0) ⟨rfl, ?_⟩)⟩
    rw [show (0 : Int) = z by omega]; exact q
theorem q_sAz {S : q_Sg} {k : Nat} {g : Int → Int} (h : S.2.1 k = g) : q_sA S k g = S := by subst h; exact q_sAs
theorem r_z01 (p : Prop) : 0 ≤ r_z p ∧ r_z p < 2 := by have := r_zd p; omega
