/-! what the list of commands is made of, told one command behind another -/
def lK (l : List qCmd) : Int := (cg l ((l.length : Int) - 1)).1
def lZ (l : List qCmd) : Int := (cg l ((l.length : Int) - 1)).2.2.2
theorem lK_end {l : List qCmd} {c : qCmd} : lK (l ++ [c]) = c.1 := by
  unfold lK
  rw [show (((l ++ [c]).length : Nat) : Int) - 1 = l.length by simp, cg_end]
theorem lZ_end {l : List qCmd} {c : qCmd} : lZ (l ++ [c]) = c.2.2.2 := by
  unfold lZ
  rw [show (((l ++ [c]).length : Nat) : Int) - 1 = l.length by simp, cg_end]
/-- a command behind a list; rc: the reach -/
def WFN (rc : Int) (l : List qCmd) (c : qCmd) : Prop :=
  (c.1 = 122 ∨ c.1 = 112 ∨ c.1 = 114 ∨ c.1 = 103 ∨ c.1 = 117 ∨ c.1 = 100) ∧
  (c.1 = 122 → 0 ≤ c.2.2.2 ∧ (l = [] ∨ lZ l < c.2.2.2)) ∧
  (¬ c.1 = 122 → ¬ l = [] ∧ c.2.2.2 = lZ l) ∧
  (c.1 = 100 → (c.2.2.2 % 2 = 0 → c.2.2.1 = hY l) ∧ (¬ c.2.2.2 % 2 = 0 → c.2.1 = hX l)) ∧
  (c.1 = 103 → 0 < dst (hX l) (hY l) c.2.1 c.2.2.1 ∧ (lK l = 114 ↔ rc < dst (hX l) (hY l) c.2.1 c.2.2.1)) ∧
  (lK l = 103 → (c.1 = 117 ↔ rc < iab (dX l ((l.length : Int) - 1)) + iab (dY l ((l.length : Int) - 1))))
def WFL (rc : Int) (l : List qCmd) : Prop := ∀ i : Nat, i < l.length → WFN rc (l.take i) (cg l i)
theorem WFL_0 {rc : Int} : WFL rc [] := fun i h => absurd h (Nat.not_lt_zero i)
theorem WFL_a {rc : Int} {l : List qCmd} {c : qCmd} (h : WFL rc l) (hc : WFN rc l c) : WFL rc (l ++ [c]) := fun i hi => by
  by_cases d : i < l.length
  · rw [List.take_append_of_le_length (by omega), cg_app (by omega)]
    exact h i d
  · have e : i = l.length := by simp at hi; omega
    subst e
    rw [List.take_append_of_le_length (Nat.le_refl _), List.take_length, cg_end]
    exact hc
theorem app_ne {l : List qCmd} {c : qCmd} : ¬ l ++ [c] = [] := fun e => by
  have := congrArg List.length e
  simp at this
/-- what holds behind a stroke, or behind the head of a layer -/
def WFS (rc z : Int) (l : List qCmd) : Prop := WFL rc l ∧ ¬ l = [] ∧ lZ l = z ∧ ¬ lK l = 114 ∧ ¬ lK l = 103
theorem WFS_r {rc z : Int} {l : List qCmd} (h : WFS rc z l) : WFL rc (l ++ [(114, hX l, hY l, z)]) := by
  refine WFL_a h.1 ⟨by simp, fun e => absurd e (by simp), fun _ => ⟨h.2.1, h.2.2.1.symm⟩, fun e => absurd e (by simp), fun e => absurd e (by simp), fun e => absurd e h.2.2.2.2⟩
theorem WFN_d {rc z x y : Int} {l : List qCmd} (hn : ¬ l = []) (hz : lZ l = z) (ha : (z % 2 = 0 → y = hY l) ∧ (¬ z % 2 = 0 → x = hX l)) (hg : lK l = 103 → ¬ rc < iab (dX l ((l.length : Int) - 1)) + iab (dY l ((l.length : Int) - 1))) : WFN rc l (100, x, y, z) :=
  ⟨Or.inr (Or.inr (Or.inr (Or.inr (Or.inr rfl)))), fun e => absurd e (by simp), fun _ => ⟨hn, hz.symm⟩, fun _ => ha, fun e => absurd e (by simp), fun e => ⟨fun c => absurd c (by simp), fun c => absurd c (hg e)⟩⟩
theorem WFN_g {rc z x y : Int} {l : List qCmd} (hn : ¬ l = []) (hz : lZ l = z) (h0 : 0 < dst (hX l) (hY l) x y) (hr : lK l = 114 ↔ rc < dst (hX l) (hY l) x y) (hg : ¬ lK l = 103) : WFN rc l (103, x, y, z) :=
  ⟨Or.inr (Or.inr (Or.inr (Or.inl rfl))), fun e => absurd e (by simp), fun _ => ⟨hn, hz.symm⟩, fun e => absurd e (by simp), fun _ => ⟨h0, hr⟩, fun e => absurd e hg⟩
theorem WFN_u {rc z x y : Int} {l : List qCmd} (hn : ¬ l = []) (hz : lZ l = z) (hg : lK l = 103 → rc < iab (dX l ((l.length : Int) - 1)) + iab (dY l ((l.length : Int) - 1))) : WFN rc l (117, x, y, z) :=
  ⟨Or.inr (Or.inr (Or.inr (Or.inr (Or.inl rfl)))), fun e => absurd e (by simp), fun _ => ⟨hn, hz.symm⟩, fun e => absurd e (by simp), fun e => absurd e (by simp), fun e => ⟨fun _ => hg e, fun _ => rfl⟩⟩
theorem lD_end {l : List qCmd} {c : qCmd} : dX (l ++ [c]) (((l ++ [c]).length : Int) - 1) = c.2.1 - hX l ∧ dY (l ++ [c]) (((l ++ [c]).length : Int) - 1) = c.2.2.1 - hY l := by
  rw [show (((l ++ [c]).length : Nat) : Int) - 1 = l.length by simp, dX_end, dY_end]
  exact ⟨rfl, rfl⟩
/-- the strokes of a layer lie as the layer has them -/
def sA (z : Int) (q : Int × Int × Int × Int) : Prop := (z % 2 = 0 → q.2.1 = q.2.2.2) ∧ (¬ z % 2 = 0 → q.1 = q.2.2.1)
theorem sT_a {K : Int → Int → Int} (z i : Int) : sA z (sT K z i) := by
  unfold sA sT
  refine ⟨fun e => ?_, fun e => ?_⟩
  · show r_i _ _ _ = r_i _ _ _
    rw [r_i1 e, r_i1 e]
  · show r_i _ _ _ = r_i _ _ _
    rw [r_i0 e, r_i0 e]
theorem sA_e {z : Int} {q : Int × Int × Int × Int} (h : sA z q) (p : Prop) : (z % 2 = 0 → r_i (¬ p) q.2.1 q.2.2.2 = r_i p q.2.1 q.2.2.2) ∧ (¬ z % 2 = 0 → r_i (¬ p) q.1 q.2.2.1 = r_i p q.1 q.2.2.1) :=
  ⟨fun e => by rw [h.1 e, r_ii, r_ii], fun e => by rw [h.2 e, r_ii, r_ii]⟩
theorem WFS_d {rc z : Int} {q : Int × Int × Int × Int} {l : List qCmd} (hrc : 0 ≤ rc) (h : WFS rc z l) (hq : sA z q) : WFS rc z (l ++ dcm rc z (hX l) (hY l) q) ∧ lK (l ++ dcm rc z (hX l) (hY l) q) = 100 := by
  have hni := nrr_i (hX l) (hY l) q
  have hal := sA_e hq (dst (hX l) (hY l) q.1 q.2.1 ≤ dst (hX l) (hY l) q.2.2.1 q.2.2.2)
  obtain ⟨w1, w2, w3, w4, w5⟩ := id h
  by_cases h2 : 0 < nrr (hX l) (hY l) q
  · by_cases h1 : rc < nrr (hX l) (hY l) q
    · rw [dcm_1 h1 h2]
      refine ⟨⟨WFL_a (WFL_a (WFL_a (WFS_r h) (WFN_g app_ne lZ_end ?_ ?_ ?_)) (WFN_u app_ne lZ_end ?_)) (WFN_d app_ne lZ_end ?_ ?_), app_ne, lZ_end, by rw [lK_end]; simp, by rw [lK_end]; simp⟩, lK_end⟩
      · rw [hX_end, hY_end]; dsimp only; omega
      · rw [lK_end, hX_end, hY_end]; dsimp only; rw [hni]; exact ⟨fun _ => h1, fun _ => rfl⟩
      · rw [lK_end]; simp
      · intro _
        rw [lD_end.1, lD_end.2, hX_end, hY_end]
        dsimp only
        have k : iab (r_i (dst (hX l) (hY l) q.1 q.2.1 ≤ dst (hX l) (hY l) q.2.2.1 q.2.2.2) q.1 q.2.2.1 - hX l) + iab (r_i (dst (hX l) (hY l) q.1 q.2.1 ≤ dst (hX l) (hY l) q.2.2.1 q.2.2.2) q.2.1 q.2.2.2 - hY l) = nrr (hX l) (hY l) q := hni
        rw [k]; exact h1
      · rw [hX_end, hY_end]; exact hal
      · rw [lK_end]; intro e; exact absurd e (by simp)
    · rw [dcm_2 h1 h2]
      refine ⟨⟨WFL_a (WFL_a w1 (WFN_g w2 w3 ?_ ?_ w5)) (WFN_d app_ne lZ_end ?_ ?_), app_ne, lZ_end, by rw [lK_end]; simp, by rw [lK_end]; simp⟩, lK_end⟩
      · omega
      · rw [hni]; exact ⟨fun e => absurd e w4, fun e => absurd e h1⟩
      · rw [hX_end, hY_end]; exact hal
      · intro _
        rw [lD_end.1, lD_end.2]
        dsimp only
        have k : iab (r_i (dst (hX l) (hY l) q.1 q.2.1 ≤ dst (hX l) (hY l) q.2.2.1 q.2.2.2) q.1 q.2.2.1 - hX l) + iab (r_i (dst (hX l) (hY l) q.1 q.2.1 ≤ dst (hX l) (hY l) q.2.2.1 q.2.2.2) q.2.1 q.2.2.2 - hY l) = nrr (hX l) (hY l) q := hni
        rw [k]; exact h1
  · have h3 : ¬ rc < nrr (hX l) (hY l) q := by omega
    rw [dcm_3 h3 h2]
    have k0 : 0 ≤ nrr (hX l) (hY l) q := by
      have k1 := iab_b (q.1 - hX l); have k2 := iab_b (q.2.1 - hY l); have k3 := iab_b (q.2.2.1 - hX l); have k4 := iab_b (q.2.2.2 - hY l)
      unfold nrr dst; split <;> omega
    have k := dst_0 (hni.trans (show nrr (hX l) (hY l) q = 0 by omega))
    rw [k.1, k.2] at hal
    exact ⟨⟨WFL_a w1 (WFN_d w2 w3 hal (fun e => absurd e w5)), app_ne, lZ_end, by rw [lK_end]; simp, by rw [lK_end]; simp⟩, lK_end⟩
theorem WFS_p {ko : Int → Int} {sd : Int → Int × Int × Int × Int} {n rc z : Int} {l : List qCmd} (hrc : 0 ≤ rc) (hs : ∀ i, sA z (sd i)) (h : WFS rc z l) : ∀ m : Nat, WFS rc z (pst ko sd n rc z l m).1 ∧ (0 < m → lK (pst ko sd n rc z l m).1 = 100)
  | 0 => ⟨h, fun c => absurd c (Nat.lt_irrefl 0)⟩
  | m + 1 => by
    have k := WFS_d hrc (WFS_p (ko := ko) (n := n) hrc hs h m).1 (hs (bst ko (fun i => nrr (hX (pst ko sd n rc z l m).1) (hY (pst ko sd n rc z l m).1) (sd i)) n (pst ko sd n rc z l m).2))
    exact ⟨k.1, fun _ => k.2⟩
/-- what holds ahead of the layer z -/
def WFZ (rc z : Int) (l : List qCmd) : Prop := WFL rc l ∧ (l = [] ∨ (lZ l < z ∧ lK l = 100))
theorem WFZ_l {K : Int → Int → Int} {pz : Prop} {rc z : Int} {l : List qCmd} (hrc : 0 ≤ rc) (hz : 0 ≤ z) (h : WFZ rc z l) : WFZ rc (z + 1) (lay1 K pz rc z l) := by
  unfold lay1
  split
  · exact ⟨h.1, h.2.imp id (fun c => ⟨by omega, c.2⟩)⟩
  · rename_i hn
    have hg : ¬ lK l = 103 := by
      rcases h.2 with e | ⟨_, e⟩
      · rw [e]; unfold lK; rw [cg_neg (by simp)]; decide
      · rw [e]; decide
    have h1 : WFL rc (l ++ [(122, hX l, hY l, z)]) := WFL_a h.1 ⟨Or.inl rfl, fun _ => ⟨hz, h.2.imp id (fun c => c.1)⟩, fun e => absurd rfl e, fun e => absurd e (by simp), fun e => absurd e (by simp), fun e => absurd e hg⟩
    have hS : WFS rc z (l ++ [(122, hX l, hY l, z)] ++ @ite _ pz (Classical.propDecidable _) [(112, hX l, hY l, z)] []) := by
      split
      · refine ⟨WFL_a h1 ⟨Or.inr (Or.inl rfl), fun e => absurd e (by simp), fun _ => ⟨app_ne, (lZ_end (l := l) (c := (122, hX l, hY l, z))).symm⟩, fun e => absurd e (by simp), fun e => absurd e (by simp), fun e => ?_⟩, app_ne, lZ_end (l := l ++ [(122, hX l, hY l, z)]) (c := (112, hX l, hY l, z)), by rw [lK_end]; simp, by rw [lK_end]; simp⟩
        rw [lK_end] at e; exact absurd e (by simp)
      · rw [List.append_nil]
        exact ⟨h1, app_ne, lZ_end (l := l) (c := (122, hX l, hY l, z)), by rw [lK_end]; simp, by rw [lK_end]; simp⟩
    have k := WFS_p (ko := sK K) (sd := sT K z) (n := sI K 720) hrc (sT_a z) hS (sI K 720).toNat
    have h0 : 0 ≤ sI K 720 := (cnt_b (p := STT K) (720 : Int).toNat).1
    exact ⟨k.1.1, Or.inr ⟨by rw [k.1.2.2.1]; omega, k.2 (by omega)⟩⟩
theorem WFZ_P {a : Int → Int} {f : Nat → Int} {b : Nat} {pz : Int → Int} (hrc : 0 ≤ f (b + 5)) : ∀ z : Nat, WFZ (f (b + 5)) z (PLN a f b pz z)
  | 0 => ⟨WFL_0, Or.inl rfl⟩
  | z + 1 => by
    have k := WFZ_l (K := KL a f b z) (pz := ¬ pz z = 0) hrc (show (0 : Int) ≤ (z : Int) by omega) (WFZ_P (a := a) (pz := pz) hrc z)
    exact k
/-! taken at a place -/
theorem cg_take {l : List qCmd} {k : Nat} {i : Int} (hk : k ≤ l.length) (hi : i < k) : cg (l.take k) i = cg l i := by
  have h : cg (l.take k ++ l.drop k) i = cg (l.take k) i := cg_app (by rw [List.length_take]; omega)
  rw [List.take_append_drop] at h
  exact h.symm
theorem len_take {l : List qCmd} {k : Nat} (hk : k ≤ l.length) : ((l.take k).length : Int) = k := by rw [List.length_take]; omega
theorem hX_take {l : List qCmd} {k : Nat} (hk : k ≤ l.length) : hX (l.take k) = (cg l ((k : Int) - 1)).2.1 ∧ hY (l.take k) = (cg l ((k : Int) - 1)).2.2.1 ∧ lK (l.take k) = (cg l ((k : Int) - 1)).1 ∧ lZ (l.take k) = (cg l ((k : Int) - 1)).2.2.2 := by
  unfold hX hY lK lZ
  rw [len_take hk, cg_take hk (by omega)]
  exact ⟨rfl, rfl, rfl, rfl⟩
theorem take_ne {l : List qCmd} {k : Nat} (hk : k ≤ l.length) : l.take k = [] ↔ k = 0 := by
  constructor
  · intro e
    have h : (l.take k).length = 0 := by rw [e]; rfl
    rw [List.length_take] at h
    omega
  · intro e; rw [e]; rfl
/-- a command of a good list -/
def WFC (rc : Int) (l : List qCmd) (i : Int) : Prop :=
  ((cg l i).1 = 122 ∨ (cg l i).1 = 112 ∨ (cg l i).1 = 114 ∨ (cg l i).1 = 103 ∨ (cg l i).1 = 117 ∨ (cg l i).1 = 100) ∧
  ((cg l i).1 = 122 → 0 ≤ (cg l i).2.2.2 ∧ (i = 0 ∨ (cg l (i - 1)).2.2.2 < (cg l i).2.2.2)) ∧
  (¬ (cg l i).1 = 122 → 0 < i ∧ (cg l i).2.2.2 = (cg l (i - 1)).2.2.2) ∧
  ((cg l i).1 = 100 → ((cg l i).2.2.2 % 2 = 0 → dY l i = 0) ∧ (¬ (cg l i).2.2.2 % 2 = 0 → dX l i = 0)) ∧
  ((cg l i).1 = 103 → i + 1 < l.length ∧ 0 < iab (dX l i) + iab (dY l i) ∧ ((cg l (i - 1)).1 = 114 ↔ rc < iab (dX l i) + iab (dY l i)) ∧ ((cg l (i + 1)).1 = 117 ↔ rc < iab (dX l i) + iab (dY l i)))
theorem WFZ_C {rc z : Int} {l : List qCmd} (h : WFZ rc z l) : ∀ i : Nat, i < l.length → WFC rc l i := fun i hi => by
  obtain ⟨h1, h2, h3, h4, h5, h6⟩ := h.1 i hi
  obtain ⟨e1, e2, e3, e4⟩ := hX_take (l := l) (k := i) (by omega)
  have en := take_ne (l := l) (k := i) (by omega)
  rw [en] at h2 h3
  rw [e4] at h2 h3
  rw [e1, e2] at h4
  rw [e1, e2, e3] at h5
  refine ⟨h1, fun e => ⟨(h2 e).1, (h2 e).2.imp (fun c => by omega) id⟩, fun e => ⟨by have := (h3 e).1; omega, (h3 e).2⟩, fun e => ?_, fun e => ?_⟩
  · have k := h4 e
    unfold dX dY
    exact ⟨fun c => by have := k.1 c; omega, fun c => by have := k.2 c; omega⟩
  · have k := h5 e
    have hl : i + 1 < l.length := by
      by_cases d : i + 1 < l.length
      · exact d
      · exfalso
        have e7 : (l.length : Int) - 1 = i := by omega
        rcases h.2 with e8 | ⟨_, e8⟩
        · rw [e8] at hi; exact absurd hi (Nat.not_lt_zero i)
        · unfold lK at e8
          rw [e7, e] at e8
          exact absurd e8 (by simp)
    obtain ⟨_, _, _, _, _, g6⟩ := h.1 (i + 1) hl
    obtain ⟨f1, f2, f3, f4⟩ := hX_take (l := l) (k := i + 1) (by omega)
    have e9 : ((i + 1 : Nat) : Int) - 1 = i := by omega
    rw [len_take (by omega), e9] at g6
    rw [f3, e9] at g6
    have g7 := g6 e
    have d1 : dX (l.take (i + 1)) i = dX l i := by unfold dX; rw [cg_take (by omega) (by omega), cg_take (by omega) (by omega)]
    have d2 : dY (l.take (i + 1)) i = dY l i := by unfold dY; rw [cg_take (by omega) (by omega), cg_take (by omega) (by omega)]
    rw [d1, d2] at g7
    exact ⟨by omega, k.1, k.2, g7⟩
