/-! commands as a list: kind, the place of the head behind it, layer -/
abbrev qCmd : Type := Int × Int × Int × Int
def cg (l : List qCmd) (i : Int) : qCmd := if i < 0 then (0, 0, 0, 0) else l.getD i.toNat (0, 0, 0, 0)
def iab (x : Int) : Int := if x < 0 then -x else x
theorem iab_r (x : Int) : r_i (x < 0) (-x) x = iab x := by unfold r_i iab; split <;> rfl
theorem iab_b (x : Int) : (iab x = x ∧ 0 ≤ x) ∨ (iab x = -x ∧ x < 0) := by unfold iab; split <;> omega
def dst (hx hy x y : Int) : Int := iab (x - hx) + iab (y - hy)
def hX (l : List qCmd) : Int := (cg l ((l.length : Int) - 1)).2.1
def hY (l : List qCmd) : Int := (cg l ((l.length : Int) - 1)).2.2.1
def dX (l : List qCmd) (i : Int) : Int := (cg l i).2.1 - (cg l (i - 1)).2.1
def dY (l : List qCmd) (i : Int) : Int := (cg l i).2.2.1 - (cg l (i - 1)).2.2.1
def cC (l : List qCmd) (i : Int) : Int := iab (dX l i) + iab (dY l i) + 1
theorem cg_neg {l : List qCmd} {i : Int} (h : i < 0) : cg l i = (0, 0, 0, 0) := by unfold cg; rw [if_pos h]
theorem cg_out {l : List qCmd} {i : Int} (h : (l.length : Int) ≤ i) : cg l i = (0, 0, 0, 0) := by
  unfold cg; rw [if_neg (by omega), List.getD_eq_getElem?_getD, List.getElem?_eq_none (by omega)]; rfl
theorem cg_app {l m : List qCmd} {i : Int} (h : i < l.length) : cg (l ++ m) i = cg l i := by
  unfold cg
  split
  · rfl
  · rw [List.getD_eq_getElem?_getD, List.getD_eq_getElem?_getD, List.getElem?_append_left (by omega)]
theorem cg_end {l : List qCmd} {c : qCmd} : cg (l ++ [c]) l.length = c := by
  unfold cg
  rw [if_neg (by omega), List.getD_eq_getElem?_getD, Int.toNat_natCast, List.getElem?_append_right (Nat.le_refl _)]
  simp
theorem hX_end {l : List qCmd} {c : qCmd} : hX (l ++ [c]) = c.2.1 := by
  unfold hX
  rw [show (((l ++ [c]).length : Nat) : Int) - 1 = l.length by simp, cg_end]
theorem hY_end {l : List qCmd} {c : qCmd} : hY (l ++ [c]) = c.2.2.1 := by
  unfold hY
  rw [show (((l ++ [c]).length : Nat) : Int) - 1 = l.length by simp, cg_end]
/-- places within the layers -/
def COK (l : List qCmd) : Prop := ∀ i, (0 ≤ (cg l i).2.1 ∧ (cg l i).2.1 < 12) ∧ (0 ≤ (cg l i).2.2.1 ∧ (cg l i).2.2.1 < 12) ∧ (0 ≤ (cg l i).2.2.2 ∧ (cg l i).2.2.2 < 12) ∧ (0 ≤ (cg l i).1 ∧ (cg l i).1 < 65536)
theorem COK_0 : COK [] := fun i => by
  have : cg [] i = (0, 0, 0, 0) := by unfold cg; split <;> rfl
  rw [this]; decide
theorem COK_a {l : List qCmd} {k x y z : Int} (h : COK l) (hk : 0 ≤ k ∧ k < 65536) (hx : 0 ≤ x ∧ x < 12) (hy : 0 ≤ y ∧ y < 12) (hz : 0 ≤ z ∧ z < 12) : COK (l ++ [(k, x, y, z)]) := fun i => by
  by_cases c : i < l.length
  · rw [cg_app c]; exact h i
  · by_cases d : i = l.length
    · rw [d, cg_end]; exact ⟨hx, hy, hz, hk⟩
    · rw [cg_out (by simp; omega)]; decide
theorem COK_h {l : List qCmd} (h : COK l) : (0 ≤ hX l ∧ hX l < 12) ∧ (0 ≤ hY l ∧ hY l < 12) := ⟨(h _).1, (h _).2.1⟩
def trn (l : List qCmd) : Nat → Int
  | 0 => 0
  | n + 1 => trn l n + (if (cg l n).1 = 103 then iab (dX l n) + iab (dY l n) else 0)
def amn (l : List qCmd) (th : Int → Int) : Nat → Int
  | 0 => 0
  | n + 1 => amn l th n + (if (cg l n).1 = 100 then cC l n * (10 * th (cg l n).2.2.2) else 0)
theorem dX_app {l m : List qCmd} {i : Int} (h : i < l.length) : dX (l ++ m) i = dX l i := by unfold dX; rw [cg_app h, cg_app (by omega)]
theorem dY_app {l m : List qCmd} {i : Int} (h : i < l.length) : dY (l ++ m) i = dY l i := by unfold dY; rw [cg_app h, cg_app (by omega)]
theorem dX_end {l : List qCmd} {c : qCmd} : dX (l ++ [c]) l.length = c.2.1 - hX l := by unfold dX hX; rw [cg_end, cg_app (by omega)]
theorem dY_end {l : List qCmd} {c : qCmd} : dY (l ++ [c]) l.length = c.2.2.1 - hY l := by unfold dY hY; rw [cg_end, cg_app (by omega)]
theorem trn_app {l m : List qCmd} : ∀ n : Nat, n ≤ l.length → trn (l ++ m) n = trn l n
  | 0, _ => rfl
  | n + 1, h => by
    unfold trn
    rw [trn_app n (by omega), cg_app (by omega), dX_app (by omega), dY_app (by omega)]
theorem amn_app {l m : List qCmd} {th : Int → Int} : ∀ n : Nat, n ≤ l.length → amn (l ++ m) th n = amn l th n
  | 0, _ => rfl
  | n + 1, h => by
    unfold amn cC
    rw [amn_app n (by omega), cg_app (by omega), dX_app (by omega), dY_app (by omega)]
theorem trn_end {l : List qCmd} {c : qCmd} : trn (l ++ [c]) (l ++ [c]).length = trn l l.length + (if c.1 = 103 then dst (hX l) (hY l) c.2.1 c.2.2.1 else 0) := by
  rw [show (l ++ [c]).length = l.length + 1 by simp]
  show trn (l ++ [c]) l.length + _ = _
  rw [trn_app _ (Nat.le_refl _), cg_end, dX_end, dY_end]; rfl
theorem amn_end {l : List qCmd} {c : qCmd} {th : Int → Int} : amn (l ++ [c]) th (l ++ [c]).length = amn l th l.length + (if c.1 = 100 then (dst (hX l) (hY l) c.2.1 c.2.2.1 + 1) * (10 * th c.2.2.2) else 0) := by
  rw [show (l ++ [c]).length = l.length + 1 by simp]
  show amn (l ++ [c]) th l.length + _ = _
  unfold cC
  rw [amn_app _ (Nat.le_refl _), cg_end, dX_end, dY_end]; rfl
theorem trn_b {l : List qCmd} (h : COK l) : ∀ n : Nat, 0 ≤ trn l n ∧ trn l n ≤ 22 * n
  | 0 => ⟨Int.le_refl _, Int.le_refl _⟩
  | n + 1 => by
    have h1 := trn_b h n
    have h2 := h n
    have h3 := h ((n : Int) - 1)
    have k1 := iab_b (dX l n)
    have k2 := iab_b (dY l n)
    unfold trn
    unfold dX dY at *
    split <;> omega
/-- the class's commands -/
def CREP (S : q_Sg) (l : List qCmd) (th : Int → Int) : Prop := S.1 9 = l.length ∧ (∀ i : Int, 0 ≤ i → i < l.length → S.2.1 14 i = (cg l i).1 ∧ S.2.1 15 i = (cg l i).2.1 ∧ S.2.1 16 i = (cg l i).2.2.1 ∧ S.2.1 17 i = (cg l i).2.2.2) ∧ S.1 10 = trn l l.length ∧ S.2.2.1 0 = amn l th l.length
/-- the reference's commands -/
def RREP (S : q_Sg) (l : List qCmd) (th : Int → Int) : Prop := S.1 31 = l.length ∧ (∀ i : Int, 0 ≤ i → i < l.length → S.2.1 24 i = (cg l i).1 ∧ S.2.1 25 i = (cg l i).2.1 ∧ S.2.1 26 i = (cg l i).2.2.1 ∧ S.2.1 27 i = (if (cg l i).1 = 100 then cC l i * (10 * th (cg l i).2.2.2) else 0) ∧ S.2.1 28 i = (cg l i).2.2.2 ∧ S.2.1 29 i = th (cg l i).2.2.2 ∧ S.2.1 30 i = (cg l (i - 1)).2.1 ∧ S.2.1 31 i = (cg l (i - 1)).2.2.1)
theorem CREP_f {Is As Js : List Nat} {S T : q_Sg} {l : List qCmd} {th : Int → Int} (h : r_fr Is As Js S T) (h1 : 9 ∉ Is) (h2 : 10 ∉ Is) (h3 : ∀ k ∈ [14, 15, 16, 17], k ∉ As) (h4 : 0 ∉ Js) (c : CREP S l th) : CREP T l th := by
  unfold CREP
  rw [h.1 9 h1, h.1 10 h2, h.2.1 14 (h3 14 (by decide)), h.2.1 15 (h3 15 (by decide)), h.2.1 16 (h3 16 (by decide)), h.2.1 17 (h3 17 (by decide)), h.2.2.1 0 h4]
  exact c
theorem RREP_f {Is As Js : List Nat} {S T : q_Sg} {l : List qCmd} {th : Int → Int} (h : r_fr Is As Js S T) (h1 : 31 ∉ Is) (h3 : ∀ k ∈ [24, 25, 26, 27, 28, 29, 30, 31], k ∉ As) (c : RREP S l th) : RREP T l th := by
  unfold RREP
  rw [h.1 31 h1, h.2.1 24 (h3 24 (by decide)), h.2.1 25 (h3 25 (by decide)), h.2.1 26 (h3 26 (by decide)), h.2.1 27 (h3 27 (by decide)), h.2.1 28 (h3 28 (by decide)), h.2.1 29 (h3 29 (by decide)), h.2.1 30 (h3 30 (by decide)), h.2.1 31 (h3 31 (by decide))]
  exact c
/-! the strokes of a layer by their numbers -/
noncomputable def plc (K : Int → Int → Int) (i : Int) : Int := @Classical.epsilon Int ⟨0⟩ (fun p => (0 ≤ p ∧ p < 720) ∧ STT K p ∧ sI K p = i)
theorem plc_s {K : Int → Int → Int} {i : Int} (h : 0 ≤ i ∧ i < sI K 720) : (0 ≤ plc K i ∧ plc K i < 720) ∧ STT K (plc K i) ∧ sI K (plc K i) = i := by
  have he : ∃ p : Int, (0 ≤ p ∧ p < 720) ∧ STT K p ∧ sI K p = i := by
    obtain ⟨k, k1, k2, k3⟩ := cnt_at 720 i h.1 h.2
    exact ⟨k, by omega, k2, by unfold sI; rw [Int.toNat_natCast]; exact k3⟩
  exact @Classical.epsilon_spec_aux Int ⟨0⟩ (fun p => (0 ≤ p ∧ p < 720) ∧ STT K p ∧ sI K p = i) he
noncomputable def sT (K : Int → Int → Int) (z : Int) (i : Int) : Int × Int × Int × Int := (r_i (z % 2 = 0) (plc K i % 12) (plc K i / 12 % 12), r_i (z % 2 = 0) (plc K i / 12 % 12) (plc K i % 12), r_i (z % 2 = 0) (sE K (plc K i)) (plc K i / 12 % 12), r_i (z % 2 = 0) (plc K i / 12 % 12) (sE K (plc K i)))
noncomputable def sK (K : Int → Int → Int) (i : Int) : Int := plc K i / 144
theorem SREC_g {A : Nat → Int → Int} {b : Nat} {z : Int} {K : Int → Int → Int} (h : SREC A b z K 720) {i : Int} (hi : 0 ≤ i ∧ i < sI K 720) : A b i = r_t5 (sK K i) ∧ A (b + 1) i = (sT K z i).1 ∧ A (b + 2) i = (sT K z i).2.1 ∧ A (b + 3) i = (sT K z i).2.2.1 ∧ A (b + 4) i = (sT K z i).2.2.2 := by
  obtain ⟨k1, k2, k3⟩ := plc_s hi
  have k := h _ k1.1 k1.2 k2
  rw [k3] at k
  exact k
theorem sK_b {K : Int → Int → Int} {i : Int} (h : 0 ≤ i ∧ i < sI K 720) : 0 ≤ sK K i ∧ sK K i < 5 := by
  have := (plc_s h).1; unfold sK; omega
theorem sK_m {K : Int → Int → Int} {i j : Int} (h : 0 ≤ i ∧ i ≤ j ∧ j < sI K 720) : sK K i ≤ sK K j := by
  obtain ⟨a1, a2, a3⟩ := plc_s (K := K) (i := i) (by omega)
  obtain ⟨b1, b2, b3⟩ := plc_s (K := K) (i := j) (by omega)
  unfold sK
  by_cases c : plc K i ≤ plc K j
  · omega
  · have := sI_lt (K := K) b1.1 (show plc K j < plc K i by omega) b2
    omega
/-- a stroke lies along one direction, within the layer -/
theorem sE_b {K : Int → Int → Int} (hK : ∀ al ac kk, ¬ (0 ≤ al ∧ al < 12) → ¬ K al ac = r_t5 kk) (p : Int) : p % 12 ≤ sE K p ∧ sE K p < 12 := by
  obtain ⟨h1, h2, h3⟩ := fst_F (p := fun t => ¬ K (t + 1) (p / 12 % 12) = r_t5 (p / 144)) (s := p % 12) (e := 12) (by omega)
  have e : fst (fun t => ¬ K (t + 1) (p / 12 % 12) = r_t5 (p / 144)) (p % 12) 12 = sE K p := rfl
  rw [e] at h1 h2 h3
  refine ⟨h1.1, ?_⟩
  by_cases c : sE K p < 12
  · exact c
  · exact absurd (hK (11 + 1) (p / 12 % 12) (p / 144) (by omega)) (h2 11 (by omega) (by omega))
def sG (q : Int × Int × Int × Int) : Prop := (0 ≤ q.1 ∧ q.1 < 12) ∧ (0 ≤ q.2.1 ∧ q.2.1 < 12) ∧ (0 ≤ q.2.2.1 ∧ q.2.2.1 < 12) ∧ (0 ≤ q.2.2.2 ∧ q.2.2.2 < 12) ∧ (q.1 = q.2.2.1 ∧ q.2.1 ≤ q.2.2.2 ∨ q.2.1 = q.2.2.2 ∧ q.1 ≤ q.2.2.1)
theorem sT_g {K : Int → Int → Int} (hK : ∀ al ac kk, ¬ (0 ≤ al ∧ al < 12) → ¬ K al ac = r_t5 kk) (z i : Int) : sG (sT K z i) := by
  have h := sE_b hK (plc K i)
  unfold sG sT r_i
  dsimp only
  split <;> omega
/-! the order of strokes -/
def nrr (hx hy : Int) (q : Int × Int × Int × Int) : Int := if dst hx hy q.1 q.2.1 ≤ dst hx hy q.2.2.1 q.2.2.2 then dst hx hy q.1 q.2.1 else dst hx hy q.2.2.1 q.2.2.2
def isB (ko nr : Int → Int) (n : Int) (D : Int → Prop) (i : Int) : Prop := (0 ≤ i ∧ i < n) ∧ ¬ D i ∧ (∀ j, 0 ≤ j → j < n → ¬ D j → ko i ≤ ko j) ∧ (∀ j, 0 ≤ j → j < n → ¬ D j → ko j = ko i → nr i ≤ nr j ∧ (j < i → nr i < nr j))
theorem isB_u {ko nr : Int → Int} {n : Int} {D : Int → Prop} {i j : Int} (h : isB ko nr n D i) (k : isB ko nr n D j) : i = j := by
  obtain ⟨h1, h2, h3, h4⟩ := h
  obtain ⟨k1, k2, k3, k4⟩ := k
  have e1 := h3 j k1.1 k1.2 k2
  have e2 := k3 i h1.1 h1.2 h2
  have e3 := h4 j k1.1 k1.2 k2 (by omega)
  have e4 := k4 i h1.1 h1.2 h2 (by omega)
  by_cases c : i < j
  · have := e4.2 c; omega
  · by_cases d : j < i
    · have := e3.2 d; omega
    · omega
noncomputable def bst (ko nr : Int → Int) (n : Int) (D : Int → Prop) : Int := @Classical.epsilon Int ⟨0⟩ (isB ko nr n D)
theorem bst_e {ko nr : Int → Int} {n : Int} {D : Int → Prop} {i : Int} (h : isB ko nr n D i) : i = bst ko nr n D := isB_u h (@Classical.epsilon_spec_aux Int ⟨0⟩ (isB ko nr n D) ⟨i, h⟩)
theorem bst_s {ko nr : Int → Int} {n : Int} {D : Int → Prop} {i : Int} (h : isB ko nr n D i) : isB ko nr n D (bst ko nr n D) := by rw [← bst_e h]; exact h
/-- what is drawn of one stroke -/
noncomputable def dcm (rc z hx hy : Int) (q : Int × Int × Int × Int) : List qCmd :=
  (if rc < nrr hx hy q then [(114, hx, hy, z)] else []) ++
  (if 0 < nrr hx hy q then [(103, r_i (dst hx hy q.1 q.2.1 ≤ dst hx hy q.2.2.1 q.2.2.2) q.1 q.2.2.1, r_i (dst hx hy q.1 q.2.1 ≤ dst hx hy q.2.2.1 q.2.2.2) q.2.1 q.2.2.2, z)] else []) ++
  (if rc < nrr hx hy q then [(117, r_i (dst hx hy q.1 q.2.1 ≤ dst hx hy q.2.2.1 q.2.2.2) q.1 q.2.2.1, r_i (dst hx hy q.1 q.2.1 ≤ dst hx hy q.2.2.1 q.2.2.2) q.2.1 q.2.2.2, z)] else []) ++
  [(100, r_i (¬ dst hx hy q.1 q.2.1 ≤ dst hx hy q.2.2.1 q.2.2.2) q.1 q.2.2.1, r_i (¬ dst hx hy q.1 q.2.1 ≤ dst hx hy q.2.2.1 q.2.2.2) q.2.1 q.2.2.2, z)]
theorem dcm_1 {rc z hx hy : Int} {q : Int × Int × Int × Int} {l : List qCmd} (h1 : rc < nrr hx hy q) (h2 : 0 < nrr hx hy q) : l ++ dcm rc z hx hy q = l ++ [(114, hx, hy, z)] ++ [(103, r_i (dst hx hy q.1 q.2.1 ≤ dst hx hy q.2.2.1 q.2.2.2) q.1 q.2.2.1, r_i (dst hx hy q.1 q.2.1 ≤ dst hx hy q.2.2.1 q.2.2.2) q.2.1 q.2.2.2, z)] ++ [(117, r_i (dst hx hy q.1 q.2.1 ≤ dst hx hy q.2.2.1 q.2.2.2) q.1 q.2.2.1, r_i (dst hx hy q.1 q.2.1 ≤ dst hx hy q.2.2.1 q.2.2.2) q.2.1 q.2.2.2, z)] ++ [(100, r_i (¬ dst hx hy q.1 q.2.1 ≤ dst hx hy q.2.2.1 q.2.2.2) q.1 q.2.2.1, r_i (¬ dst hx hy q.1 q.2.1 ≤ dst hx hy q.2.2.1 q.2.2.2) q.2.1 q.2.2.2, z)] := by
  unfold dcm; rw [if_pos h1, if_pos h2, if_pos h1]
  simp only [List.append_assoc]
theorem dcm_2 {rc z hx hy : Int} {q : Int × Int × Int × Int} {l : List qCmd} (h1 : ¬ rc < nrr hx hy q) (h2 : 0 < nrr hx hy q) : l ++ dcm rc z hx hy q = l ++ [(103, r_i (dst hx hy q.1 q.2.1 ≤ dst hx hy q.2.2.1 q.2.2.2) q.1 q.2.2.1, r_i (dst hx hy q.1 q.2.1 ≤ dst hx hy q.2.2.1 q.2.2.2) q.2.1 q.2.2.2, z)] ++ [(100, r_i (¬ dst hx hy q.1 q.2.1 ≤ dst hx hy q.2.2.1 q.2.2.2) q.1 q.2.2.1, r_i (¬ dst hx hy q.1 q.2.1 ≤ dst hx hy q.2.2.1 q.2.2.2) q.2.1 q.2.2.2, z)] := by
  unfold dcm; rw [if_neg h1, if_pos h2, if_neg h1]
  simp only [List.append_assoc, List.nil_append]
theorem dcm_3 {rc z hx hy : Int} {q : Int × Int × Int × Int} {l : List qCmd} (h1 : ¬ rc < nrr hx hy q) (h2 : ¬ 0 < nrr hx hy q) : l ++ dcm rc z hx hy q = l ++ [(100, r_i (¬ dst hx hy q.1 q.2.1 ≤ dst hx hy q.2.2.1 q.2.2.2) q.1 q.2.2.1, r_i (¬ dst hx hy q.1 q.2.1 ≤ dst hx hy q.2.2.1 q.2.2.2) q.2.1 q.2.2.2, z)] := by
  unfold dcm; rw [if_neg h1, if_neg h2, if_neg h1]
  simp only [List.append_assoc, List.nil_append]
theorem dcm_n {rc z hx hy : Int} {q : Int × Int × Int × Int} : 1 ≤ (dcm rc z hx hy q).length ∧ (dcm rc z hx hy q).length ≤ 4 := by
  unfold dcm
  split <;> split <;> simp
theorem r_i12 {p : Prop} {x y : Int} (hx : 0 ≤ x ∧ x < 12) (hy : 0 ≤ y ∧ y < 12) : 0 ≤ r_i p x y ∧ r_i p x y < 12 := by unfold r_i; split; exact hx; exact hy
noncomputable def pst (ko : Int → Int) (sd : Int → Int × Int × Int × Int) (n rc z : Int) (l : List qCmd) : Nat → List qCmd × (Int → Prop)
  | 0 => (l, fun _ => False)
  | m + 1 => ((pst ko sd n rc z l m).1 ++ dcm rc z (hX (pst ko sd n rc z l m).1) (hY (pst ko sd n rc z l m).1) (sd (bst ko (fun i => nrr (hX (pst ko sd n rc z l m).1) (hY (pst ko sd n rc z l m).1) (sd i)) n (pst ko sd n rc z l m).2)),
    fun j => (pst ko sd n rc z l m).2 j ∨ j = bst ko (fun i => nrr (hX (pst ko sd n rc z l m).1) (hY (pst ko sd n rc z l m).1) (sd i)) n (pst ko sd n rc z l m).2)
noncomputable def lay1 (K : Int → Int → Int) (pz : Prop) (rc z : Int) (l : List qCmd) : List qCmd :=
  @ite _ (sI K 720 = 0) (Classical.propDecidable _) l (pst (sK K) (sT K z) (sI K 720) rc z (l ++ [(122, hX l, hY l, z)] ++ @ite _ pz (Classical.propDecidable _) [(112, hX l, hY l, z)] []) (sI K 720).toNat).1
noncomputable def PLN (a : Int → Int) (f : Nat → Int) (b : Nat) (pz : Int → Int) : Nat → List qCmd
  | 0 => []
  | z + 1 => lay1 (KL a f b z) (¬ pz z = 0) (f (b + 5)) z (PLN a f b pz z)
theorem CREP_w {S T : q_Sg} {l : List qCmd} {th : Int → Int} {c : qCmd} (h : CREP S l th) (h9 : T.1 9 = S.1 9 + 1) (a14 : T.2.1 14 = q_up (S.2.1 14) (S.1 9) c.1) (a15 : T.2.1 15 = q_up (S.2.1 15) (S.1 9) c.2.1) (a16 : T.2.1 16 = q_up (S.2.1 16) (S.1 9) c.2.2.1) (a17 : T.2.1 17 = q_up (S.2.1 17) (S.1 9) c.2.2.2) (h10 : T.1 10 = S.1 10 + (if c.1 = 103 then dst (hX l) (hY l) c.2.1 c.2.2.1 else 0)) (hJ : T.2.2.1 0 = S.2.2.1 0 + (if c.1 = 100 then (dst (hX l) (hY l) c.2.1 c.2.2.1 + 1) * (10 * th c.2.2.2) else 0)) : CREP T (l ++ [c]) th := by
  obtain ⟨e9, ea, e10, eJ⟩ := h
  refine ⟨by rw [h9, e9]; simp, fun i i0 i1 => ?_, by rw [trn_end, h10, e10], by rw [amn_end, hJ, eJ]⟩
  rw [a14, a15, a16, a17, e9]
  unfold q_up
  by_cases d : i = l.length
  · rw [if_pos d, if_pos d, if_pos d, if_pos d, d, cg_end]; exact ⟨rfl, rfl, rfl, rfl⟩
  · have d2 : i < l.length := by simp at i1; omega
    rw [if_neg d, if_neg d, if_neg d, if_neg d, cg_app d2]; exact ea i i0 d2
theorem CREP_h {S : q_Sg} {l : List qCmd} {th : Int → Int} (h : CREP S l th) : (cg l (S.1 9 - 1)).2.1 = hX l ∧ (cg l (S.1 9 - 1)).2.2.1 = hY l := by rw [h.1]; exact ⟨rfl, rfl⟩
theorem dst_b {hx hy x y : Int} (h1 : 0 ≤ hx ∧ hx < 12) (h2 : 0 ≤ hy ∧ hy < 12) (h3 : 0 ≤ x ∧ x < 12) (h4 : 0 ≤ y ∧ y < 12) : 0 ≤ dst hx hy x y ∧ dst hx hy x y ≤ 22 := by
  have k1 := iab_b (x - hx)
  have k2 := iab_b (y - hy)
  unfold dst; omega
theorem nrr_b {hx hy : Int} {q : Int × Int × Int × Int} (h1 : 0 ≤ hx ∧ hx < 12) (h2 : 0 ≤ hy ∧ hy < 12) (h3 : sG q) : 0 ≤ nrr hx hy q ∧ nrr hx hy q ≤ 22 := by
  have k1 := dst_b h1 h2 h3.1 h3.2.1
  have k2 := dst_b h1 h2 h3.2.2.1 h3.2.2.2.1
  unfold nrr; split <;> omega
theorem r_imul (a b : Int) : a * (10 * b) = 10 * (a * b) := by rw [← Int.mul_assoc, Int.mul_comm a 10, Int.mul_assoc]
theorem amt_r {a b : Int} (ha : 0 ≤ a ∧ a ≤ 30) (hb : 1 ≤ b ∧ b ≤ 3) : rg (a * (10 * b)) := by
  rcases (show b = 1 ∨ b = 2 ∨ b = 3 by omega) with rfl | rfl | rfl <;> omega
theorem dst_g1 {hx hy : Int} {q : Int × Int × Int × Int} (h1 : 0 ≤ hx ∧ hx < 12) (h2 : 0 ≤ hy ∧ hy < 12) (h3 : sG q) : rg (dst hx hy q.1 q.2.1) := by
  have := dst_b h1 h2 h3.1 h3.2.1; omega
theorem dst_g2 {hx hy : Int} {q : Int × Int × Int × Int} (h1 : 0 ≤ hx ∧ hx < 12) (h2 : 0 ≤ hy ∧ hy < 12) (h3 : sG q) : rg (dst hx hy q.2.2.1 q.2.2.2) := by
  have := dst_b h1 h2 h3.2.2.1 h3.2.2.2.1; omega
theorem isB_c {ko nr : Int → Int} {n : Int} {D E : Int → Prop} (h : ∀ j, 0 ≤ j → j < n → (D j ↔ E j)) (i : Int) : isB ko nr n D i ↔ isB ko nr n E i := by
  unfold isB
  constructor
  · rintro ⟨h1, h2, h3, h4⟩
    exact ⟨h1, fun c => h2 ((h i h1.1 h1.2).mpr c), fun j j0 j1 c => h3 j j0 j1 (fun d => c ((h j j0 j1).mp d)), fun j j0 j1 c => h4 j j0 j1 (fun d => c ((h j j0 j1).mp d))⟩
  · rintro ⟨h1, h2, h3, h4⟩
    exact ⟨h1, fun c => h2 ((h i h1.1 h1.2).mp c), fun j j0 j1 c => h3 j j0 j1 (fun d => c ((h j j0 j1).mpr d)), fun j j0 j1 c => h4 j j0 j1 (fun d => c ((h j j0 j1).mpr d))⟩
theorem bst_c {ko nr : Int → Int} {n : Int} {D E : Int → Prop} (h : ∀ j, 0 ≤ j → j < n → (D j ↔ E j)) : bst ko nr n D = bst ko nr n E := by
  unfold bst
  rw [funext (fun i => propext (isB_c (ko := ko) (nr := nr) h i))]
theorem isB_x {ko nr : Int → Int} {D : Int → Prop} : ∀ n : Nat, (∃ j : Int, (0 ≤ j ∧ j < n) ∧ ¬ D j) → ∃ i, isB ko nr n D i
  | 0, ⟨j, h, _⟩ => by omega
  | n + 1, hx => by
    by_cases c : ∃ j : Int, (0 ≤ j ∧ j < n) ∧ ¬ D j
    · obtain ⟨i, h1, h2, h3, h4⟩ := isB_x (ko := ko) (nr := nr) n c
      by_cases d : D n
      · refine ⟨i, by omega, h2, fun j j0 j1 hj => ?_, fun j j0 j1 hj => ?_⟩
        · by_cases e : j = n
          · rw [e] at hj; exact absurd d hj
          · exact h3 j j0 (by omega) hj
        · by_cases e : j = n
          · rw [e] at hj; exact absurd d hj
          · exact h4 j j0 (by omega) hj
      · by_cases f : ko n < ko i ∨ (ko n = ko i ∧ nr n < nr i)
        · refine ⟨n, by omega, d, fun j j0 j1 hj => ?_, fun j j0 j1 hj ej => ?_⟩
          · by_cases e : j = n
            · rw [e]; exact Int.le_refl _
            · have := h3 j j0 (by omega) hj; omega
          · by_cases e : j = n
            · rw [e]; exact ⟨Int.le_refl _, fun c => by omega⟩
            · have k1 := h3 j j0 (by omega) hj
              have k2 := h4 j j0 (by omega) hj (by omega)
              omega
        · refine ⟨i, by omega, h2, fun j j0 j1 hj => ?_, fun j j0 j1 hj ej => ?_⟩
          · by_cases e : j = n
            · rw [e]; omega
            · exact h3 j j0 (by omega) hj
          · by_cases e : j = n
            · rw [e]; rw [e] at ej; exact ⟨by omega, fun c => by omega⟩
            · exact h4 j j0 (by omega) hj ej
    · obtain ⟨j, hj, hd⟩ := hx
      have e : j = n := by
        by_cases d : j = n
        · exact d
        · exact absurd ⟨j, by omega, hd⟩ c
      rw [e] at hd
      have hall : ∀ j : Int, 0 ≤ j → j < n → ¬ ¬ D j := fun j j0 j1 hj => c ⟨j, ⟨j0, j1⟩, hj⟩
      refine ⟨n, by omega, hd, fun j j0 j1 hj => ?_, fun j j0 j1 hj ej => ?_⟩
      · by_cases e : j = n
        · rw [e]; exact Int.le_refl _
        · exact absurd hj (hall j j0 (by omega))
      · by_cases e : j = n
        · rw [e]; exact ⟨Int.le_refl _, fun c => by omega⟩
        · exact absurd hj (hall j j0 (by omega))
theorem cnt_all {p : Int → Prop} : ∀ n : Nat, (∀ k : Int, 0 ≤ k → k < n → p k) → cnt p n = n
  | 0, _ => rfl
  | n + 1, h => by
    rw [cnt_n, cnt_all n (fun k a b => h k a (by omega)), r_z1 (h n (by omega) (by omega))]; rfl
/-- by m strokes drawn there are m; while m is less than all, one is left -/
theorem pst_cnt {ko : Int → Int} {sd : Int → Int × Int × Int × Int} {n : Nat} {rc z : Int} {l : List qCmd} : ∀ m : Nat, m ≤ n → cnt (pst ko sd n rc z l m).2 n = m ∧ (m < n → isB ko (fun i => nrr (hX (pst ko sd n rc z l m).1) (hY (pst ko sd n rc z l m).1) (sd i)) n (pst ko sd n rc z l m).2 (bst ko (fun i => nrr (hX (pst ko sd n rc z l m).1) (hY (pst ko sd n rc z l m).1) (sd i)) n (pst ko sd n rc z l m).2)) := by
  intro m hm
  have key : ∀ m : Nat, cnt (pst ko sd n rc z l m).2 n = m → m < n → isB ko (fun i => nrr (hX (pst ko sd n rc z l m).1) (hY (pst ko sd n rc z l m).1) (sd i)) n (pst ko sd n rc z l m).2 (bst ko (fun i => nrr (hX (pst ko sd n rc z l m).1) (hY (pst ko sd n rc z l m).1) (sd i)) n (pst ko sd n rc z l m).2) := by
    intro m hc hlt
    have hx : ∃ j : Int, (0 ≤ j ∧ j < n) ∧ ¬ (pst ko sd n rc z l m).2 j := Classical.byContradiction fun d => by
      have := cnt_all (p := (pst ko sd n rc z l m).2) n (fun k a b => Classical.byContradiction fun e => d ⟨k, ⟨a, b⟩, e⟩)
      omega
    obtain ⟨i, hi⟩ := isB_x (ko := ko) (nr := fun i => nrr (hX (pst ko sd n rc z l m).1) (hY (pst ko sd n rc z l m).1) (sd i)) n hx
    exact bst_s hi
  have h1 : ∀ m : Nat, m ≤ n → cnt (pst ko sd n rc z l m).2 n = m := by
    intro m
    induction m with
    | zero =>
      intro _
      have h2 : cnt (fun _ : Int => False) n = cnt (fun _ : Int => False) 0 := cnt_k n (by omega) (fun k _ _ c => c)
      exact h2
    | succ m ih =>
      intro hm
      have hb := key m (ih (by omega)) (by omega)
      have hc := cnt_rm (q := (pst ko sd n rc z l (m + 1)).2) (m := n) hb.1 (Or.inr rfl)
      have hd : cnt (fun k => (pst ko sd n rc z l (m + 1)).2 k ∧ ¬ k = bst ko (fun i => nrr (hX (pst ko sd n rc z l m).1) (hY (pst ko sd n rc z l m).1) (sd i)) n (pst ko sd n rc z l m).2) n = cnt (pst ko sd n rc z l m).2 n := cnt_c n (fun k a b => ⟨fun c => c.1.resolve_right c.2, fun c => ⟨Or.inl c, fun e => hb.2.1 (by rw [← e]; exact c)⟩⟩)
      rw [hd, ih (by omega)] at hc
      omega
  exact ⟨h1 m hm, key m (h1 m hm)⟩
theorem pst_len {ko : Int → Int} {sd : Int → Int × Int × Int × Int} {n rc z : Int} {l : List qCmd} : ∀ m : Nat, (pst ko sd n rc z l m).1.length ≤ l.length + 4 * m
  | 0 => Nat.le_refl _
  | m + 1 => by
    have h := pst_len (ko := ko) (sd := sd) (n := n) (rc := rc) (z := z) (l := l) m
    show ((pst ko sd n rc z l m).1 ++ _).length ≤ _
    rw [List.length_append]
    have := (dcm_n (rc := rc) (z := z) (hx := hX (pst ko sd n rc z l m).1) (hy := hY (pst ko sd n rc z l m).1) (q := sd (bst ko (fun i => nrr (hX (pst ko sd n rc z l m).1) (hY (pst ko sd n rc z l m).1) (sd i)) n (pst ko sd n rc z l m).2))).2
    omega
theorem lay1_len {K : Int → Int → Int} {pz : Prop} {rc z : Int} {l : List qCmd} : (lay1 K pz rc z l).length ≤ l.length + 578 := by
  unfold lay1
  split
  · omega
  · have h := pst_len (ko := sK K) (sd := sT K z) (n := sI K 720) (rc := rc) (z := z) (l := l ++ [(122, hX l, hY l, z)] ++ @ite _ pz (Classical.propDecidable _) [(112, hX l, hY l, z)] []) (sI K 720).toNat
    have h2 := sI_144 (K := K) (p := 720) (by omega)
    have h3 : (l ++ [(122, hX l, hY l, z)] ++ @ite _ pz (Classical.propDecidable _) [(112, hX l, hY l, z)] []).length ≤ l.length + 2 := by
      split <;> simp
    omega
theorem PLN_len {a : Int → Int} {f : Nat → Int} {b : Nat} {pz : Int → Int} : ∀ z : Nat, (PLN a f b pz z).length ≤ 578 * z
  | 0 => Nat.le_refl _
  | z + 1 => by
    have h := PLN_len (a := a) (f := f) (b := b) (pz := pz) z
    have h2 := lay1_len (K := KL a f b z) (pz := ¬ pz z = 0) (rc := f (b + 5)) (z := z) (l := PLN a f b pz z)
    show (lay1 _ _ _ _ _).length ≤ _
    omega
theorem SREC_q {A : Nat → Int → Int} {b : Nat} {z : Int} {K : Int → Int → Int} (h : SREC A b z K 720) {i : Int} (hi : 0 ≤ i ∧ i < sI K 720) : (A (b + 1) i, A (b + 2) i, A (b + 3) i, A (b + 4) i) = sT K z i := by
  obtain ⟨_, k1, k2, k3, k4⟩ := SREC_g h hi
  rw [k1, k2, k3, k4]
theorem r_litl0 {L : qL} {h : qH} : r_E (q_eLit (.long 0)) L h (.long (Int64.ofInt 0)) := rfl
theorem RREP_w {S T : q_Sg} {l : List qCmd} {th : Int → Int} {c : qCmd} (h : RREP S l th) (h9 : T.1 31 = S.1 31 + 1) (a24 : T.2.1 24 = q_up (S.2.1 24) (S.1 31) c.1) (a25 : T.2.1 25 = q_up (S.2.1 25) (S.1 31) c.2.1) (a26 : T.2.1 26 = q_up (S.2.1 26) (S.1 31) c.2.2.1) (a27 : T.2.1 27 = q_up (S.2.1 27) (S.1 31) (if c.1 = 100 then (dst (hX l) (hY l) c.2.1 c.2.2.1 + 1) * (10 * th c.2.2.2) else 0)) (a28 : T.2.1 28 = q_up (S.2.1 28) (S.1 31) c.2.2.2) (a29 : T.2.1 29 = q_up (S.2.1 29) (S.1 31) (th c.2.2.2)) (a30 : T.2.1 30 = q_up (S.2.1 30) (S.1 31) (hX l)) (a31 : T.2.1 31 = q_up (S.2.1 31) (S.1 31) (hY l)) : RREP T (l ++ [c]) th := by
  obtain ⟨e9, ea⟩ := h
  refine ⟨by rw [h9, e9]; simp, fun i i0 i1 => ?_⟩
  rw [a24, a25, a26, a27, a28, a29, a30, a31, e9]
  unfold q_up
  by_cases d : i = l.length
  · rw [if_pos d, if_pos d, if_pos d, if_pos d, if_pos d, if_pos d, if_pos d, if_pos d, d, cg_end]
    unfold cC
    rw [dX_end, dY_end, cg_app (by omega)]
    exact ⟨rfl, rfl, rfl, rfl, rfl, rfl, rfl, rfl⟩
  · have d2 : i < l.length := by simp at i1; omega
    rw [if_neg d, if_neg d, if_neg d, if_neg d, if_neg d, if_neg d, if_neg d, if_neg d, cg_app d2, cg_app (by omega)]
    unfold cC
    rw [dX_app d2, dY_app d2]
    exact ea i i0 d2
theorem r_ineg {p q : Prop} {x y : Int} (h : p ↔ ¬ q) : r_i p x y = r_i q y x := by
  by_cases c : q
  · rw [r_i0 (fun d => h.mp d c), r_i1 c]
  · rw [r_i1 (h.mpr c), r_i0 c]
theorem r_ieq {p q : Prop} {x y : Int} (h : p ↔ q) : r_i p x y = r_i q x y := by rw [propext h]
theorem nrr_i (hx hy : Int) (q : Int × Int × Int × Int) : dst hx hy (r_i (dst hx hy q.1 q.2.1 ≤ dst hx hy q.2.2.1 q.2.2.2) q.1 q.2.2.1) (r_i (dst hx hy q.1 q.2.1 ≤ dst hx hy q.2.2.1 q.2.2.2) q.2.1 q.2.2.2) = nrr hx hy q := by
  unfold nrr
  by_cases c : dst hx hy q.1 q.2.1 ≤ dst hx hy q.2.2.1 q.2.2.2
  · rw [r_i1 c, r_i1 c, if_pos c]
  · rw [r_i0 c, r_i0 c, if_neg c]
/-- from one end of a stroke to the other -/
theorem dst_e {q : Int × Int × Int × Int} (h : sG q) (p : Prop) : dst (r_i p q.1 q.2.2.1) (r_i p q.2.1 q.2.2.2) (r_i (¬ p) q.1 q.2.2.1) (r_i (¬ p) q.2.1 q.2.2.2) = q.2.2.1 - q.1 + q.2.2.2 - q.2.1 := by
  obtain ⟨_, _, _, _, h5⟩ := h
  unfold dst
  by_cases c : p
  · rw [r_i1 c, r_i1 c, r_i0 (fun d => d c), r_i0 (fun d => d c)]
    have k1 := iab_b (q.2.2.1 - q.1); have k2 := iab_b (q.2.2.2 - q.2.1)
    omega
  · rw [r_i0 c, r_i0 c, r_i1 c, r_i1 c]
    have k1 := iab_b (q.1 - q.2.2.1); have k2 := iab_b (q.2.1 - q.2.2.2)
    omega
def nxt (ko nr : Int → Int) (n : Int) (D : Int → Prop) (k i : Int) : Prop := (i = -1 ∧ ∀ j, 0 ≤ j → j < n → ¬ D j → ¬ ko j = k) ∨ ((0 ≤ i ∧ i < n) ∧ ¬ D i ∧ ko i = k ∧ ∀ j, 0 ≤ j → j < n → ¬ D j → ko j = k → nr i ≤ nr j ∧ (j < i → nr i < nr j))
theorem dst_0 {hx hy x y : Int} (h : dst hx hy x y = 0) : x = hx ∧ y = hy := by
  have k1 := iab_b (x - hx); have k2 := iab_b (y - hy)
  unfold dst at h
  omega
theorem cnt_le {p q : Int → Prop} {n : Nat} (h : ∀ k : Int, 0 ≤ k → k < n → p k → q k) : cnt p n ≤ cnt q n := cnt_inj (fun k => k) n q n (fun k a b c => ⟨⟨a, b⟩, h k a b c⟩) (fun k l _ _ _ _ _ _ e => e)
theorem cnt_less {p : Int → Prop} {n : Nat} {j : Int} (hj : 0 ≤ j ∧ j < n) (hp : ¬ p j) : cnt p n < n := by
  have h1 := cnt_le (p := p) (q := fun k => True ∧ ¬ k = j) (n := n) (fun k _ _ c => ⟨trivial, fun e => hp (by rw [← e]; exact c)⟩)
  rw [cnt_rm hj trivial, cnt_all n (fun _ _ _ => trivial)] at h1
  omega
theorem nxt_B {ko nr : Int → Int} {n : Int} {D : Int → Prop} {k i : Int} (h : nxt ko nr n D k i) (hi : ¬ i = -1) (hk : ∀ j, 0 ≤ j → j < n → ¬ D j → k ≤ ko j) : isB ko nr n D i := by
  rcases h with ⟨h, _⟩ | ⟨h1, h2, h3, h4⟩
  · exact absurd h hi
  · exact ⟨h1, h2, fun j j0 j1 hj => by rw [h3]; exact hk j j0 j1 hj, fun j j0 j1 hj ej => h4 j j0 j1 hj (by omega)⟩
