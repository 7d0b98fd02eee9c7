/-! sums over cells; how many ticks a list takes at most -/
theorem suml_0 {n : Nat} : suml (fun _ => 0) n = 0 := by
  induction n with
  | zero => rfl
  | succ n ih => show suml (fun _ => 0) n + 0 = 0; rw [ih]; rfl
theorem suml_a {f g : Int → Int} : ∀ n : Nat, suml (fun j => f j + g j) n = suml f n + suml g n
  | 0 => rfl
  | n + 1 => by
    show suml (fun j => f j + g j) n + (f n + g n) = (suml f n + f n) + (suml g n + g n)
    rw [suml_a n]; omega
theorem suml_c {f g : Int → Int} : ∀ n : Nat, (∀ j : Int, 0 ≤ j → j < n → f j = g j) → suml f n = suml g n
  | 0, _ => rfl
  | n + 1, h => by
    show suml f n + f n = suml g n + g n
    rw [suml_c n (fun j a b => h j a (by omega)), h n (by omega) (by omega)]
theorem suml_p {p : Int → Prop} {v : Int} : ∀ n : Nat, suml (fun j => r_i (p j) v 0) n = v * cnt p n
  | 0 => (Int.mul_zero v).symm
  | n + 1 => by
    show suml (fun j => r_i (p j) v 0) n + r_i (p n) v 0 = v * cnt p (n + 1)
    rw [suml_p n, cnt_n, Int.mul_add]
    by_cases c : p n
    · rw [r_i1 c, r_z1 c, Int.mul_one]
    · rw [r_i0 c, r_z0 c, Int.mul_zero]
theorem OnS_s {l : List qCmd} {i v : Int} (hO : COK l) (hC : CLK l) (hk : (cg l i).1 = 100) : suml (fun j => r_i (OnS l i j) v 0) 1728 = cC l i * v := by
  have hcb := cC_b hO i
  have key : ∀ t : Nat, (t : Int) ≤ cC l i → suml (fun j => r_i (∃ u, (0 ≤ u ∧ u < (t : Int)) ∧ j = 144 * (cg l i).2.2.2 + 12 * ((cg l i).2.2.1 - u * sgn (dY l i)) + ((cg l i).2.1 - u * sgn (dX l i))) v 0) 1728 = t * v := by
    intro t
    induction t with
    | zero =>
      intro _
      have e : (fun j => r_i (∃ u, (0 ≤ u ∧ u < ((0 : Nat) : Int)) ∧ j = 144 * (cg l i).2.2.2 + 12 * ((cg l i).2.2.1 - u * sgn (dY l i)) + ((cg l i).2.1 - u * sgn (dX l i))) v 0) = fun _ => 0 := funext fun j => r_i0 (fun ⟨u, hu, _⟩ => by omega)
      rw [e, suml_0]; exact (Int.zero_mul v).symm
    | succ t ih =>
      intro ht
      have ih := ih (by omega)
      have hin := onS_b hO hC hk (t := (t : Int)) (by omega)
      obtain ⟨x, hx⟩ : ∃ x, x = 144 * (cg l i).2.2.2 + 12 * ((cg l i).2.2.1 - (t : Int) * sgn (dY l i)) + ((cg l i).2.1 - (t : Int) * sgn (dX l i)) := ⟨_, rfl⟩
      have e : (fun j => r_i (∃ u, (0 ≤ u ∧ u < ((t + 1 : Nat) : Int)) ∧ j = 144 * (cg l i).2.2.2 + 12 * ((cg l i).2.2.1 - u * sgn (dY l i)) + ((cg l i).2.1 - u * sgn (dX l i))) v 0) = q_up (fun j => r_i (∃ u, (0 ≤ u ∧ u < (t : Int)) ∧ j = 144 * (cg l i).2.2.2 + 12 * ((cg l i).2.2.1 - u * sgn (dY l i)) + ((cg l i).2.1 - u * sgn (dX l i))) v 0) x v := funext fun j => by
        unfold q_up
        by_cases d : j = x
        · rw [if_pos d, r_i1 ⟨(t : Int), by omega, by rw [d]; exact hx⟩]
        · rw [if_neg d]
          refine r_ieq ⟨fun ⟨u, hu, eu⟩ => ⟨u, ?_, eu⟩, fun ⟨u, hu, eu⟩ => ⟨u, by omega, eu⟩⟩
          by_cases d2 : u = (t : Int)
          · rw [d2, ← hx] at eu; exact absurd eu d
          · omega
      have h0 : r_i (∃ u, (0 ≤ u ∧ u < (t : Int)) ∧ x = 144 * (cg l i).2.2.2 + 12 * ((cg l i).2.2.1 - u * sgn (dY l i)) + ((cg l i).2.1 - u * sgn (dX l i))) v 0 = 0 := r_i0 (fun ⟨u, hu, eu⟩ => by
        have := onS_i hO hC hk (t := (t : Int)) (u := u) (by omega) (by omega) (by rw [← hx]; exact eu)
        omega)
      rw [e, suml_u, ih, if_pos (by obtain ⟨q1, q2, q3⟩ := hin; omega), h0]
      rw [show ((t + 1 : Nat) : Int) = (t : Int) + 1 by omega, Int.add_mul, Int.one_mul]; omega
  have k := key (cC l i).toNat (by omega)
  rw [Int.toNat_of_nonneg (by omega)] at k
  exact k
theorem amn_s {l : List qCmd} {th : Int → Int} (hO : COK l) (hC : CLK l) : ∀ n : Nat, amn l th n = suml (LAD l th n) 1728
  | 0 => by
    have e : LAD l th 0 = fun _ => 0 := rfl
    rw [e, suml_0]; rfl
  | n + 1 => by
    have e : LAD l th (n + 1) = fun j => LAD l th n j + (if (cg l n).1 = 100 then r_i (OnS l n j) (10 * th (cg l n).2.2.2) 0 else 0) := rfl
    rw [e, suml_a, ← amn_s hO hC n]
    show amn l th n + _ = amn l th n + _
    by_cases c : (cg l n).1 = 100
    · rw [if_pos c]
      have e2 : (fun j => if (cg l n).1 = 100 then r_i (OnS l n j) (10 * th (cg l n).2.2.2) 0 else 0) = fun j => r_i (OnS l n j) (10 * th (cg l n).2.2.2) 0 := funext fun j => if_pos c
      rw [e2, OnS_s hO hC c]
    · rw [if_neg c]
      have e2 : (fun j => if (cg l n).1 = 100 then r_i (OnS l n j) (10 * th (cg l n).2.2.2) 0 else 0) = fun _ => 0 := funext fun j => if_neg c
      rw [e2, suml_0]
/-! ticks -/
def cst (l : List qCmd) (i : Int) : Int := if LEN l i = 0 then 1 else LEN l i
def CST (l : List qCmd) : Nat → Int
  | 0 => 0
  | n + 1 => CST l n + cst l n
/-- the length of a move from the head -/
def LNT (hx hy x y : Int) : Int := 10 * (if iab (y - hy) ≤ iab (x - hx) then iab (x - hx) else iab (y - hy))
theorem LEN_app {l m : List qCmd} {i : Int} (h : i < l.length) : LEN (l ++ m) i = LEN l i := by unfold LEN; rw [dX_app h, dY_app h]
theorem CST_app {l m : List qCmd} : ∀ n : Nat, n ≤ l.length → CST (l ++ m) n = CST l n
  | 0, _ => rfl
  | n + 1, h => by
    unfold CST cst
    rw [CST_app n (by omega), LEN_app (by omega)]
theorem CST_end {l : List qCmd} {c : qCmd} : CST (l ++ [c]) (l ++ [c]).length = CST l l.length + (if LNT (hX l) (hY l) c.2.1 c.2.2.1 = 0 then 1 else LNT (hX l) (hY l) c.2.1 c.2.2.1) := by
  rw [show (l ++ [c]).length = l.length + 1 by simp]
  show CST (l ++ [c]) l.length + cst (l ++ [c]) l.length = _
  unfold cst LEN
  rw [CST_app _ (Nat.le_refl _), dX_end, dY_end]; rfl
theorem LNT_b {hx hy x y : Int} (h1 : 0 ≤ hx ∧ hx < 12) (h2 : 0 ≤ hy ∧ hy < 12) (h3 : 0 ≤ x ∧ x < 12) (h4 : 0 ≤ y ∧ y < 12) : 0 ≤ LNT hx hy x y ∧ LNT hx hy x y ≤ 110 ∧ LNT hx hy x y ≤ 10 * dst hx hy x y := by
  have k1 := iab_b (x - hx); have k2 := iab_b (y - hy)
  unfold LNT dst
  split <;> omega
theorem LNT_0 {x y : Int} : LNT x y x y = 0 := by
  unfold LNT
  rw [Int.sub_self, Int.sub_self]; rfl
/-- what a list takes, against the cells that it draws -/
def PHI (l : List qCmd) : Int := 10 * CST l l.length - 122 * amn l (fun _ => 1) l.length
theorem PHI_m {l : List qCmd} {k x y z : Int} (h1 : x = hX l) (h2 : y = hY l) (hk : ¬ k = 100) : PHI (l ++ [(k, x, y, z)]) = PHI l + 10 := by
  unfold PHI
  rw [CST_end, amn_end, if_neg (show ¬ (k, x, y, z).1 = 100 from hk)]
  dsimp only
  rw [h1, h2, LNT_0, if_pos rfl]; omega
theorem PHI_g {l : List qCmd} {x y z : Int} (hO : COK l) (hx : 0 ≤ x ∧ x < 12) (hy : 0 ≤ y ∧ y < 12) : PHI (l ++ [(103, x, y, z)]) ≤ PHI l + 1100 := by
  have hb := COK_h hO
  have k := LNT_b hb.1 hb.2 hx hy
  unfold PHI
  rw [CST_end, amn_end, if_neg (show ¬ (103 : Int) = 100 by decide)]
  dsimp only
  split <;> omega
theorem PHI_d {l : List qCmd} {x y z : Int} (hO : COK l) (hx : 0 ≤ x ∧ x < 12) (hy : 0 ≤ y ∧ y < 12) : PHI (l ++ [(100, x, y, z)]) ≤ PHI l - 1120 := by
  have hb := COK_h hO
  have k := LNT_b hb.1 hb.2 hx hy
  have k2 := dst_b hb.1 hb.2 hx hy
  unfold PHI
  rw [CST_end, amn_end, if_pos (show (100 : Int) = 100 from rfl)]
  dsimp only
  split <;> omega
theorem PHI_s {rc z : Int} {q : Int × Int × Int × Int} {l : List qCmd} (hO : COK l) (hz : 0 ≤ z ∧ z < 12) (hrc : 0 ≤ rc) (hq : sG q) : PHI (l ++ dcm rc z (hX l) (hY l) q) ≤ PHI l := by
  have hb := COK_h hO
  obtain ⟨q1, q2, q3, q4, _⟩ := id hq
  have ex : ∀ p : Prop, 0 ≤ r_i p q.1 q.2.2.1 ∧ r_i p q.1 q.2.2.1 < 12 := fun p => r_i12 q1 q3
  have ey : ∀ p : Prop, 0 ≤ r_i p q.2.1 q.2.2.2 ∧ r_i p q.2.1 q.2.2.2 < 12 := fun p => r_i12 q2 q4
  have hni := nrr_b hb.1 hb.2 hq
  have hO1 : COK (l ++ [(114, hX l, hY l, z)]) := COK_a hO (by decide) hb.1 hb.2 hz
  by_cases h2 : 0 < nrr (hX l) (hY l) q
  · by_cases h1 : rc < nrr (hX l) (hY l) q
    · rw [dcm_1 h1 h2]
      have hO2 : COK (l ++ [(114, hX l, hY l, z)] ++ [(103, r_i (dst (hX l) (hY l) q.1 q.2.1 ≤ dst (hX l) (hY l) q.2.2.1 q.2.2.2) q.1 q.2.2.1, r_i (dst (hX l) (hY l) q.1 q.2.1 ≤ dst (hX l) (hY l) q.2.2.1 q.2.2.2) q.2.1 q.2.2.2, z)]) := COK_a hO1 (by decide) (ex _) (ey _) hz
      have hO3 := COK_a (k := 117) (x := r_i (dst (hX l) (hY l) q.1 q.2.1 ≤ dst (hX l) (hY l) q.2.2.1 q.2.2.2) q.1 q.2.2.1) (y := r_i (dst (hX l) (hY l) q.1 q.2.1 ≤ dst (hX l) (hY l) q.2.2.1 q.2.2.2) q.2.1 q.2.2.2) (z := z) hO2 (by decide) (ex _) (ey _) hz
      have k1 := PHI_m (l := l) (k := 114) (z := z) rfl rfl (by decide)
      have k2 := PHI_g (z := z) hO1 (ex (dst (hX l) (hY l) q.1 q.2.1 ≤ dst (hX l) (hY l) q.2.2.1 q.2.2.2)) (ey (dst (hX l) (hY l) q.1 q.2.1 ≤ dst (hX l) (hY l) q.2.2.1 q.2.2.2))
      have k3 := PHI_m (l := l ++ [(114, hX l, hY l, z)] ++ [(103, r_i (dst (hX l) (hY l) q.1 q.2.1 ≤ dst (hX l) (hY l) q.2.2.1 q.2.2.2) q.1 q.2.2.1, r_i (dst (hX l) (hY l) q.1 q.2.1 ≤ dst (hX l) (hY l) q.2.2.1 q.2.2.2) q.2.1 q.2.2.2, z)]) (k := 117) (x := r_i (dst (hX l) (hY l) q.1 q.2.1 ≤ dst (hX l) (hY l) q.2.2.1 q.2.2.2) q.1 q.2.2.1) (y := r_i (dst (hX l) (hY l) q.1 q.2.1 ≤ dst (hX l) (hY l) q.2.2.1 q.2.2.2) q.2.1 q.2.2.2) (z := z) (by rw [hX_end]) (by rw [hY_end]) (by decide)
      have k4 := PHI_d (z := z) hO3 (ex (¬ dst (hX l) (hY l) q.1 q.2.1 ≤ dst (hX l) (hY l) q.2.2.1 q.2.2.2)) (ey (¬ dst (hX l) (hY l) q.1 q.2.1 ≤ dst (hX l) (hY l) q.2.2.1 q.2.2.2))
      omega
    · rw [dcm_2 h1 h2]
      have hO2 : COK (l ++ [(103, r_i (dst (hX l) (hY l) q.1 q.2.1 ≤ dst (hX l) (hY l) q.2.2.1 q.2.2.2) q.1 q.2.2.1, r_i (dst (hX l) (hY l) q.1 q.2.1 ≤ dst (hX l) (hY l) q.2.2.1 q.2.2.2) q.2.1 q.2.2.2, z)]) := COK_a hO (by decide) (ex _) (ey _) hz
      have k2 := PHI_g (z := z) hO (ex (dst (hX l) (hY l) q.1 q.2.1 ≤ dst (hX l) (hY l) q.2.2.1 q.2.2.2)) (ey (dst (hX l) (hY l) q.1 q.2.1 ≤ dst (hX l) (hY l) q.2.2.1 q.2.2.2))
      have k4 := PHI_d (z := z) hO2 (ex (¬ dst (hX l) (hY l) q.1 q.2.1 ≤ dst (hX l) (hY l) q.2.2.1 q.2.2.2)) (ey (¬ dst (hX l) (hY l) q.1 q.2.1 ≤ dst (hX l) (hY l) q.2.2.1 q.2.2.2))
      omega
  · rw [dcm_3 (by omega) h2]
    have k4 := PHI_d (z := z) hO (ex (¬ dst (hX l) (hY l) q.1 q.2.1 ≤ dst (hX l) (hY l) q.2.2.1 q.2.2.2)) (ey (¬ dst (hX l) (hY l) q.1 q.2.1 ≤ dst (hX l) (hY l) q.2.2.1 q.2.2.2))
    omega
theorem PHI_p {ko : Int → Int} {sd : Int → Int × Int × Int × Int} {n rc z : Int} {l : List qCmd} (hz : 0 ≤ z ∧ z < 12) (hrc : 0 ≤ rc) (hs : ∀ i, sG (sd i)) (hC : CLK l) (hO : COK l) : ∀ m : Nat, PHI (pst ko sd n rc z l m).1 ≤ PHI l
  | 0 => Int.le_refl _
  | m + 1 => Int.le_trans (PHI_s (pst_P (ko := ko) (n := n) hz hrc hs hC hO m).2 hz hrc (hs _)) (PHI_p hz hrc hs hC hO m)
theorem PHI_l {K : Int → Int → Int} {pz : Prop} {rc z : Int} {l : List qCmd} (hK : ∀ al ac kk, ¬ (0 ≤ al ∧ al < 12) → ¬ K al ac = r_t5 kk) (hz : 0 ≤ z ∧ z < 12) (hrc : 0 ≤ rc) (hC : CLK l) (hO : COK l) : PHI (lay1 K pz rc z l) ≤ PHI l + 20 := by
  have hb := COK_h hO
  unfold lay1
  split
  · omega
  · have h1 : CLK (l ++ [(122, hX l, hY l, z)]) := CLK_m hC (by decide) rfl rfl
    have o1 : COK (l ++ [(122, hX l, hY l, z)]) := COK_a hO (by decide) hb.1 hb.2 hz
    have p1 := PHI_m (l := l) (k := 122) (z := z) rfl rfl (by decide)
    have hh : CLK (l ++ [(122, hX l, hY l, z)] ++ @ite _ pz (Classical.propDecidable _) [(112, hX l, hY l, z)] []) ∧ COK (l ++ [(122, hX l, hY l, z)] ++ @ite _ pz (Classical.propDecidable _) [(112, hX l, hY l, z)] []) ∧ PHI (l ++ [(122, hX l, hY l, z)] ++ @ite _ pz (Classical.propDecidable _) [(112, hX l, hY l, z)] []) ≤ PHI l + 20 := by
      split
      · have p2 := PHI_m (l := l ++ [(122, hX l, hY l, z)]) (k := 112) (x := hX l) (y := hY l) (z := z) (by rw [hX_end]) (by rw [hY_end]) (by decide)
        exact ⟨CLK_m h1 (by decide) (by rw [hX_end]) (by rw [hY_end]), COK_a o1 (by decide) hb.1 hb.2 hz, by omega⟩
      · rw [List.append_nil]; exact ⟨h1, o1, by omega⟩
    exact Int.le_trans (PHI_p hz hrc (fun i => sT_g hK z i) hh.1 hh.2.1 _) hh.2.2
theorem PHI_P {a : Int → Int} {f : Nat → Int} {b : Nat} {pz : Int → Int} (hrc : 0 ≤ f (b + 5)) : ∀ z : Nat, z ≤ 12 → PHI (PLN a f b pz z) ≤ 20 * z
  | 0, _ => Int.le_of_eq rfl
  | z + 1, hz => by
    obtain ⟨k1, k2⟩ := PLN_P (a := a) (pz := pz) hrc z (by omega)
    have k := PHI_l (K := KL a f b z) (pz := ¬ pz z = 0) (rc := f (b + 5)) (z := z) (fun al ac kk h => KL_o h) (by omega) hrc k1 k2
    have ih := PHI_P (a := a) (pz := pz) hrc z (by omega)
    show PHI (lay1 _ _ _ _ _) ≤ _
    omega
/-- pauses -/
noncomputable def NPA (l : List qCmd) (n : Nat) : Int := cnt (fun i => (cg l i).1 = 112) n
theorem NPA_app {l m : List qCmd} {n : Nat} (h : n ≤ l.length) : NPA (l ++ m) n = NPA l n := cnt_c n (fun k k0 k1 => by rw [cg_app (by omega)])
theorem NPA_end {l : List qCmd} {c : qCmd} : NPA (l ++ [c]) (l ++ [c]).length = NPA l l.length + r_z (c.1 = 112) := by
  rw [show (l ++ [c]).length = l.length + 1 by simp]
  show cnt _ l.length + r_z _ = _
  have h : NPA (l ++ [c]) l.length = NPA l l.length := NPA_app (Nat.le_refl _)
  unfold NPA at h
  rw [h]
  dsimp only
  rw [cg_end]; rfl
theorem NPA_d {rc z : Int} {q : Int × Int × Int × Int} {l : List qCmd} (hrc : 0 ≤ rc) : NPA (l ++ dcm rc z (hX l) (hY l) q) (l ++ dcm rc z (hX l) (hY l) q).length = NPA l l.length := by
  have e1 : r_z ((114 : Int) = 112) = 0 := r_z0 (by decide)
  have e2 : r_z ((103 : Int) = 112) = 0 := r_z0 (by decide)
  have e3 : r_z ((117 : Int) = 112) = 0 := r_z0 (by decide)
  have e4 : r_z ((100 : Int) = 112) = 0 := r_z0 (by decide)
  by_cases h2 : 0 < nrr (hX l) (hY l) q
  · by_cases h1 : rc < nrr (hX l) (hY l) q
    · rw [dcm_1 h1 h2, NPA_end, NPA_end, NPA_end, NPA_end]
      dsimp only
      rw [e1, e2, e3, e4]; omega
    · rw [dcm_2 h1 h2, NPA_end, NPA_end]
      dsimp only
      rw [e2, e4]; omega
  · rw [dcm_3 (by omega) h2, NPA_end]
    dsimp only
    rw [e4]; omega
theorem NPA_p {ko : Int → Int} {sd : Int → Int × Int × Int × Int} {n rc z : Int} {l : List qCmd} (hrc : 0 ≤ rc) : ∀ m : Nat, NPA (pst ko sd n rc z l m).1 (pst ko sd n rc z l m).1.length = NPA l l.length
  | 0 => rfl
  | m + 1 => (NPA_d hrc).trans (NPA_p hrc m)
theorem NPA_P {a : Int → Int} {f : Nat → Int} {b : Nat} {pz : Int → Int} (hrc : 0 ≤ f (b + 5)) : ∀ z : Nat, NPA (PLN a f b pz z) (PLN a f b pz z).length ≤ z
  | 0 => by show cnt _ 0 ≤ _; rw [cnt_0]; omega
  | z + 1 => by
    have ih := NPA_P (a := a) (pz := pz) hrc z
    show NPA (lay1 _ _ _ _ _) (lay1 _ _ _ _ _).length ≤ _
    unfold lay1
    split
    · omega
    · rw [NPA_p hrc]
      split
      · rw [NPA_end, NPA_end]
        dsimp only
        have e1 : r_z ((122 : Int) = 112) = 0 := r_z0 (by decide)
        have e2 : r_z ((112 : Int) = 112) = 1 := r_z1 rfl
        rw [e1, e2]; omega
      · rw [List.append_nil, NPA_end]
        dsimp only
        have e1 : r_z ((122 : Int) = 112) = 0 := r_z0 (by decide)
        rw [e1]; omega
/-! a body within few columns -/
theorem cnt_add {p : Int → Prop} (m : Nat) : ∀ n : Nat, cnt p (m + n) = cnt p m + cnt (fun k => p (m + k)) n
  | 0 => by rw [cnt_0, Int.add_zero]; rfl
  | n + 1 => by
    show cnt p (m + n) + r_z (p ((m + n : Nat) : Int)) = _
    rw [cnt_add m n, cnt_n]
    have e : ((m + n : Nat) : Int) = (m : Int) + (n : Int) := by omega
    rw [e]; omega
/-- columns with a solid cell; q: 12 * y + x -/
def COL (a : Int → Int) (q : Int) : Prop := ∃ z, (0 ≤ z ∧ z < 12) ∧ ¬ a (144 * z + q) = 0
/-- k boxes at most have been made solid: few columns, and nothing from the layer 6 on -/
def FEW (a : Int → Int) (k : Int) : Prop := cnt (COL a) 144 ≤ 25 * k ∧ ∀ j, 864 ≤ j → j < 1728 → a j = 0
theorem FEW_0 {a : Int → Int} (h : ∀ j, 0 ≤ j → j < 1728 → a j = 0) : FEW a 0 := by
  refine ⟨?_, fun j j0 j1 => h j (by omega) j1⟩
  rw [cnt_non (fun k k0 k1 ⟨z, hz, c⟩ => c (h _ (by omega) (by omega)))]; omega
theorem rct_c {x y dx dy : Int} (hx : 0 ≤ x) (hy : 0 ≤ y) (hdx : 1 ≤ dx ∧ dx ≤ 5) (hdy : 1 ≤ dy ∧ dy ≤ 5) : cnt (fun q => (x ≤ q % 12 ∧ q % 12 < x + dx) ∧ (y ≤ q / 12 ∧ q / 12 < y + dy)) 144 ≤ 25 := by
  have h := cnt_inj (p := fun q => (x ≤ q % 12 ∧ q % 12 < x + dx) ∧ (y ≤ q / 12 ∧ q / 12 < y + dy)) (fun q => (q / 12 - y) * 5 + (q % 12 - x)) 144 (fun _ => True) 25 (fun k k0 k1 hk => ⟨by omega, trivial⟩) (fun k l k0 k1 l0 l1 hk hl e => by omega)
  have h2 := (cnt_b (p := fun _ : Int => True) 25).2
  omega
theorem FEW_b {a g : Int → Int} {n k v x y z dx dy dz : Int} (h : FEW a k) (hv : v = 0 ∨ v = 1) (hg : BINV a v (BXP x y z dx dy dz) g n 1728) (hx : 0 ≤ x) (hy : 0 ≤ y) (hdx : 1 ≤ dx ∧ dx ≤ 5) (hdy : 1 ≤ dy ∧ dy ≤ 5) (hz : 0 ≤ z ∧ z + dz ≤ 6) : FEW g (k + 1) := by
  have hk : ∀ j, ¬ g j = 0 → ¬ a j = 0 ∨ BXP x y z dx dy dz j := fun j hj => by
    rw [hg.1 j] at hj
    rcases r_id (BXP x y z dx dy dz j ∧ j < 1728) v (a j) with ⟨e, c⟩ | ⟨e, c⟩
    · exact Or.inr c.1
    · rw [e] at hj; exact Or.inl hj
  refine ⟨?_, fun j j0 j1 => Classical.byContradiction fun c => ?_⟩
  · have h1 : cnt (COL g) 144 ≤ cnt (fun q => COL a q ∨ ((x ≤ q % 12 ∧ q % 12 < x + dx) ∧ (y ≤ q / 12 ∧ q / 12 < y + dy))) 144 := cnt_le (fun q q0 q1 ⟨t, ht, c⟩ => by
      rcases hk _ c with d | d
      · exact Or.inl ⟨t, ht, d⟩
      · obtain ⟨d1, d2, d3⟩ := d
        exact Or.inr (by omega))
    have h2 : ∀ m : Nat, cnt (fun q => COL a q ∨ ((x ≤ q % 12 ∧ q % 12 < x + dx) ∧ (y ≤ q / 12 ∧ q / 12 < y + dy))) m ≤ cnt (COL a) m + cnt (fun q => (x ≤ q % 12 ∧ q % 12 < x + dx) ∧ (y ≤ q / 12 ∧ q / 12 < y + dy)) m := by
      intro m
      induction m with
      | zero => exact Int.le_refl _
      | succ m ih =>
        rw [cnt_n, cnt_n, cnt_n]
        have e1 := r_zd (COL a m ∨ ((x ≤ (m : Int) % 12 ∧ (m : Int) % 12 < x + dx) ∧ (y ≤ (m : Int) / 12 ∧ (m : Int) / 12 < y + dy)))
        have e2 := r_zd (COL a m)
        have e3 := r_zd ((x ≤ (m : Int) % 12 ∧ (m : Int) % 12 < x + dx) ∧ (y ≤ (m : Int) / 12 ∧ (m : Int) / 12 < y + dy))
        rcases e1 with ⟨e1, c1⟩ | ⟨e1, c1⟩
        · rcases e2 with ⟨e2, _⟩ | ⟨e2, _⟩ <;> rcases e3 with ⟨e3, _⟩ | ⟨e3, _⟩ <;> omega
        · rcases e2 with ⟨e2, c2⟩ | ⟨e2, c2⟩ <;> rcases e3 with ⟨e3, c3⟩ | ⟨e3, c3⟩
          · exact absurd c1 (fun d => d.elim c2 c3)
          all_goals omega
    have h3 := h2 144
    have h4 := rct_c hx hy hdx hdy
    have h5 := h.1
    omega
  · rcases hk j c with d | d
    · exact d (h.2 j j0 j1)
    · obtain ⟨d1, d2, d3⟩ := d
      omega
/-- few cells are drawn -/
theorem FEW_c {a : Int → Int} {f : Nat → Int} {k : Int} (h : FEW a k) : cnt (fun j => DRK (KND a f 0 (j % 12) (j / 12 % 12) (j / 144))) 1728 ≤ 150 * k := by
  have hd : ∀ j, 0 ≤ j → j < 1728 → DRK (KND a f 0 (j % 12) (j / 12 % 12) (j / 144)) → j < 864 ∧ COL a (j % 144) := fun j j0 j1 c => by
    have hcol : ∃ z, (j / 144 ≤ z ∧ z < 12) ∧ SOL a (j % 12) (j / 12 % 12) z := by
      by_cases s : SOL a (j % 12) (j / 12 % 12) (j / 144)
      · exact ⟨j / 144, by omega, s⟩
      · unfold KND at c
        rw [r_i0 s] at c
        by_cases t : SUP a f 0 (j % 12) (j / 12 % 12) (j / 144)
        · have hf := (fst_F (p := fun k => SOL a (j % 12) (j / 12 % 12) k) (s := j / 144 + 1) (e := 12) (by omega)).1
          have hs := t.2.1.2.1
          exact ⟨_, ⟨by omega, hs.1.2.2.2⟩, hs⟩
        · rw [r_i0 t] at c
          unfold DRK at c; omega
    obtain ⟨z, hz, hs⟩ := hcol
    have hs2 := hs.2
    have e : 144 * z + 12 * (j / 12 % 12) + j % 12 = 144 * z + j % 144 := by omega
    rw [e] at hs2
    refine ⟨?_, z, by omega, hs2⟩
    by_cases d : j < 864
    · exact d
    · exact absurd (h.2 _ (by omega) (by omega)) hs2
  have h6 : ∀ n : Nat, n ≤ 12 → cnt (fun j => DRK (KND a f 0 (j % 12) (j / 12 % 12) (j / 144))) (144 * n) ≤ (if n ≤ 6 then 25 * k * n else 25 * k * 6) := by
    intro n
    induction n with
    | zero => intro _; show cnt _ 0 ≤ _; rw [cnt_0, if_pos (by omega)]; exact Int.le_of_eq (Int.mul_zero _).symm
    | succ n ih =>
      intro hn
      have ih := ih (by omega)
      rw [show 144 * (n + 1) = 144 * n + 144 by omega, cnt_add]
      have hle : cnt (fun q => DRK (KND a f 0 ((((144 * n : Nat) : Int) + q) % 12) ((((144 * n : Nat) : Int) + q) / 12 % 12) ((((144 * n : Nat) : Int) + q) / 144))) 144 ≤ (if n < 6 then 25 * k else 0) := by
        by_cases c : n < 6
        · rw [if_pos c]
          refine Int.le_trans (cnt_le (q := COL a) (fun q q0 q1 hq => ?_)) h.1
          have := (hd _ (by omega) (by omega) hq).2
          rw [show (((144 * n : Nat) : Int) + q) % 144 = q by omega] at this
          exact this
        · rw [if_neg c, cnt_non (fun q q0 q1 hq => ?_)]
          · exact Int.le_refl _
          · have := (hd _ (by omega) (by omega) hq).1
            omega
      by_cases c : n < 6
      · rw [if_pos c] at hle
        rw [if_pos (by omega)] at ih
        rw [if_pos (by omega), show ((n + 1 : Nat) : Int) = (n : Int) + 1 by omega, Int.mul_add, Int.mul_one]
        omega
      · rw [if_neg c] at hle
        rw [if_neg (show ¬ n + 1 ≤ 6 by omega)]
        by_cases d : n = 6
        · rw [if_pos (by omega), d] at ih
          have ih : cnt (fun j => DRK (KND a f 0 (j % 12) (j / 12 % 12) (j / 144))) (144 * 6) ≤ 25 * k * 6 := ih
          rw [d]
          rw [d] at hle
          omega
        · rw [if_neg (by omega)] at ih
          omega
  have h7 := h6 12 (Nat.le_refl _)
  rw [if_neg (by omega)] at h7
  have h7 : cnt (fun j => DRK (KND a f 0 (j % 12) (j / 12 % 12) (j / 144))) 1728 ≤ 25 * k * 6 := h7
  omega
/-- the ticks of a whole print, at four boxes -/
theorem CST_F {a : Int → Int} {f : Nat → Int} {pz : Int → Int} (hrc : 0 ≤ f 5) (h : FEW a 4) : CST (PLN a f 0 pz 12) (PLN a f 0 pz 12).length ≤ 73224 := by
  have h1 := PHI_P (a := a) (f := f) (b := 0) (pz := pz) hrc 12 (Nat.le_refl _)
  obtain ⟨k1, k2⟩ := PLN_P (a := a) (f := f) (b := 0) (pz := pz) hrc 12 (Nat.le_refl _)
  have h2 := amn_s (th := fun _ => 1) k2 k1 (PLN a f 0 pz 12).length
  have h3 : suml (LAD (PLN a f 0 pz 12) (fun _ => 1) (PLN a f 0 pz 12).length) 1728 = suml (fun j => r_i (DRK (KND a f 0 (j % 12) (j / 12 % 12) (j / 144))) 10 0) 1728 := suml_c 1728 (fun j j0 j1 => LAD_F (th := fun _ => 1) hrc ⟨j0, j1⟩)
  rw [h3, suml_p] at h2
  have h4 := FEW_c (f := f) h
  unfold PHI at h1
  rw [h2] at h1
  have h1 : 10 * CST (PLN a f 0 pz 12) (PLN a f 0 pz 12).length - 122 * (10 * cnt (fun j => DRK (KND a f 0 (j % 12) (j / 12 % 12) (j / 144))) 1728) ≤ 240 := h1
  omega
