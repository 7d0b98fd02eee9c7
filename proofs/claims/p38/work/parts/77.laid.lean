/-! what the strokes of a list lay, cell by cell -/
noncomputable def LAD (l : List qCmd) (th : Int → Int) : Nat → Int → Int
  | 0, _ => 0
  | n + 1, j => LAD l th n j + (if (cg l n).1 = 100 then r_i (OnS l n j) (10 * th (cg l n).2.2.2) 0 else 0)
/-- the cells between the head and the place of a command -/
def ONT (hx hy : Int) (c : qCmd) (j : Int) : Prop := ∃ t, (0 ≤ t ∧ t < iab (c.2.1 - hx) + iab (c.2.2.1 - hy) + 1) ∧ j = 144 * c.2.2.2 + 12 * (c.2.2.1 - t * sgn (c.2.2.1 - hy)) + (c.2.1 - t * sgn (c.2.1 - hx))
theorem OnS_app {l m : List qCmd} {i j : Int} (h : i < l.length) : OnS (l ++ m) i j ↔ OnS l i j := by
  unfold OnS cC
  rw [dX_app h, dY_app h, cg_app h]
theorem OnS_end {l : List qCmd} {c : qCmd} {j : Int} : OnS (l ++ [c]) l.length j ↔ ONT (hX l) (hY l) c j := by
  unfold OnS ONT cC
  rw [dX_end, dY_end, cg_end]
theorem LAD_app {l m : List qCmd} {th : Int → Int} {j : Int} : ∀ n : Nat, n ≤ l.length → LAD (l ++ m) th n j = LAD l th n j
  | 0, _ => rfl
  | n + 1, h => by
    unfold LAD
    rw [LAD_app n (by omega), cg_app (by omega), r_ieq (OnS_app (by omega))]
theorem LAD_end {l : List qCmd} {c : qCmd} {th : Int → Int} {j : Int} : LAD (l ++ [c]) th (l ++ [c]).length j = LAD l th l.length j + (if c.1 = 100 then r_i (ONT (hX l) (hY l) c j) (10 * th c.2.2.2) 0 else 0) := by
  rw [show (l ++ [c]).length = l.length + 1 by simp]
  show LAD (l ++ [c]) th l.length j + _ = _
  rw [LAD_app _ (Nat.le_refl _), cg_end, r_ieq OnS_end]
/-- the cells of a stroke of the layer z -/
def ONQ (z : Int) (q : Int × Int × Int × Int) (j : Int) : Prop := j / 144 = z ∧ (q.1 ≤ j % 12 ∧ j % 12 ≤ q.2.2.1) ∧ (q.2.1 ≤ j / 12 % 12 ∧ j / 12 % 12 ≤ q.2.2.2)
theorem ONT_q {z j : Int} {q : Int × Int × Int × Int} (hq : sG q) (p : Prop) : ONT (r_i p q.1 q.2.2.1) (r_i p q.2.1 q.2.2.2) (100, r_i (¬ p) q.1 q.2.2.1, r_i (¬ p) q.2.1 q.2.2.2, z) j ↔ ONQ z q j := by
  obtain ⟨h1, h2, h3, h4, h5⟩ := hq
  unfold ONT ONQ
  dsimp only
  by_cases c : p
  · rw [r_i1 c, r_i1 c, r_i0 (fun d => d c), r_i0 (fun d => d c)]
    have k1 := iab_b (q.2.2.1 - q.1); have k2 := iab_b (q.2.2.2 - q.2.1)
    have s1 := sgn_b (q.2.2.1 - q.1); have s2 := sgn_b (q.2.2.2 - q.2.1)
    constructor
    · rintro ⟨t, ht, e⟩
      rcases s1 with ⟨a, b⟩ | ⟨a, b⟩ | ⟨a, b⟩ <;> rcases s2 with ⟨a2, b2⟩ | ⟨a2, b2⟩ | ⟨a2, b2⟩ <;> rw [a, a2] at e <;> omega
    · rintro ⟨e1, e2, e3⟩
      refine ⟨(q.2.2.1 - j % 12) + (q.2.2.2 - j / 12 % 12), by omega, ?_⟩
      rcases s1 with ⟨a, b⟩ | ⟨a, b⟩ | ⟨a, b⟩ <;> rcases s2 with ⟨a2, b2⟩ | ⟨a2, b2⟩ | ⟨a2, b2⟩ <;> rw [a, a2] <;> omega
  · rw [r_i0 c, r_i0 c, r_i1 c, r_i1 c]
    have k1 := iab_b (q.1 - q.2.2.1); have k2 := iab_b (q.2.1 - q.2.2.2)
    have s1 := sgn_b (q.1 - q.2.2.1); have s2 := sgn_b (q.2.1 - q.2.2.2)
    constructor
    · rintro ⟨t, ht, e⟩
      rcases s1 with ⟨a, b⟩ | ⟨a, b⟩ | ⟨a, b⟩ <;> rcases s2 with ⟨a2, b2⟩ | ⟨a2, b2⟩ | ⟨a2, b2⟩ <;> rw [a, a2] at e <;> omega
    · rintro ⟨e1, e2, e3⟩
      refine ⟨(j % 12 - q.1) + (j / 12 % 12 - q.2.1), by omega, ?_⟩
      rcases s1 with ⟨a, b⟩ | ⟨a, b⟩ | ⟨a, b⟩ <;> rcases s2 with ⟨a2, b2⟩ | ⟨a2, b2⟩ | ⟨a2, b2⟩ <;> rw [a, a2] <;> omega
/-- a stroke that is drawn -/
theorem LAD_d {rc z j : Int} {q : Int × Int × Int × Int} {l : List qCmd} {th : Int → Int} (hrc : 0 ≤ rc) (hq : sG q) : LAD (l ++ dcm rc z (hX l) (hY l) q) th (l ++ dcm rc z (hX l) (hY l) q).length j = LAD l th l.length j + r_i (ONQ z q j) (10 * th z) 0 := by
  have hni := nrr_i (hX l) (hY l) q
  have k0 : 0 ≤ nrr (hX l) (hY l) q := by
    have k1 := iab_b (q.1 - hX l); have k2 := iab_b (q.2.1 - hY l); have k3 := iab_b (q.2.2.1 - hX l); have k4 := iab_b (q.2.2.2 - hY l)
    unfold nrr dst; split <;> omega
  by_cases h2 : 0 < nrr (hX l) (hY l) q
  · by_cases h1 : rc < nrr (hX l) (hY l) q
    · rw [dcm_1 h1 h2, LAD_end, LAD_end, LAD_end, LAD_end]
      rw [if_neg (by show ¬ (114 : Int) = 100; decide), if_neg (by show ¬ (103 : Int) = 100; decide), if_neg (by show ¬ (117 : Int) = 100; decide), if_pos rfl]
      rw [Int.add_zero, Int.add_zero, Int.add_zero, hX_end, hY_end]
      rw [r_ieq (ONT_q hq _)]
    · rw [dcm_2 h1 h2, LAD_end, LAD_end, hX_end, hY_end]
      rw [if_pos rfl, if_neg (by show ¬ (103 : Int) = 100; decide)]
      rw [Int.add_zero]
      rw [r_ieq (ONT_q hq _)]
  · rw [dcm_3 (by omega) h2, LAD_end, if_pos rfl]
    have k := dst_0 (hni.trans (show nrr (hX l) (hY l) q = 0 by omega))
    have k2 := ONT_q (z := z) (j := j) hq (dst (hX l) (hY l) q.1 q.2.1 ≤ dst (hX l) (hY l) q.2.2.1 q.2.2.2)
    rw [k.1, k.2] at k2
    rw [r_ieq k2]
theorem cnt_new {p q : Int → Prop} {n : Nat} {j : Int} (hj : 0 ≤ j ∧ j < n) (hq : q j) (hp : ¬ p j) (h : ∀ k, ¬ k = j → (q k ↔ p k)) : cnt q n = cnt p n + 1 := by
  have h1 := cnt_rm (q := q) (m := n) hj hq
  rw [cnt_c (q := p) n (fun k _ _ => ⟨fun c => (h k c.2).mp c.1, fun c => by
    have d : ¬ k = j := fun e => hp (by rw [← e]; exact c)
    exact ⟨(h k d).mpr c, d⟩⟩)] at h1
  omega
/-- by m strokes: a cell gets as much for each of them that it lies on -/
theorem LAD_p {ko : Int → Int} {sd : Int → Int × Int × Int × Int} {n : Nat} {rc z j : Int} {l : List qCmd} {th : Int → Int} (hrc : 0 ≤ rc) (hs : ∀ i, sG (sd i)) : ∀ m : Nat, m ≤ n → LAD (pst ko sd n rc z l m).1 th (pst ko sd n rc z l m).1.length j = LAD l th l.length j + 10 * th z * cnt (fun i => (pst ko sd n rc z l m).2 i ∧ ONQ z (sd i) j) n
  | 0, _ => by
    have h2 : cnt (fun i => (pst ko sd n rc z l 0).2 i ∧ ONQ z (sd i) j) n = cnt (fun i => (pst ko sd n rc z l 0).2 i ∧ ONQ z (sd i) j) 0 := cnt_k n (by omega) (fun k _ _ c => c.1)
    rw [h2, cnt_0, Int.mul_zero, Int.add_zero]; rfl
  | m + 1, hm => by
    have ih := LAD_p (ko := ko) (sd := sd) (n := n) (rc := rc) (l := l) (th := th) (j := j) (z := z) hrc hs m (by omega)
    have hb := (pst_cnt (ko := ko) (sd := sd) (n := n) (rc := rc) (z := z) (l := l) m (by omega)).2 (by omega)
    obtain ⟨b, eb⟩ : ∃ b, b = bst ko (fun i => nrr (hX (pst ko sd n rc z l m).1) (hY (pst ko sd n rc z l m).1) (sd i)) n (pst ko sd n rc z l m).2 := ⟨_, rfl⟩
    rw [← eb] at hb
    have e1 : (pst ko sd n rc z l (m + 1)).1 = (pst ko sd n rc z l m).1 ++ dcm rc z (hX (pst ko sd n rc z l m).1) (hY (pst ko sd n rc z l m).1) (sd b) := by rw [eb]; rfl
    have e2 : ∀ i, (pst ko sd n rc z l (m + 1)).2 i ↔ ((pst ko sd n rc z l m).2 i ∨ i = b) := fun i => by rw [eb]; exact Iff.rfl
    rw [e1, LAD_d hrc (hs b), ih]
    by_cases c : ONQ z (sd b) j
    · rw [r_i1 c]
      have k : cnt (fun i => (pst ko sd n rc z l (m + 1)).2 i ∧ ONQ z (sd i) j) n = cnt (fun i => (pst ko sd n rc z l m).2 i ∧ ONQ z (sd i) j) n + 1 := cnt_new hb.1 ⟨(e2 b).mpr (Or.inr rfl), c⟩ (fun d => hb.2.1 d.1) (fun i hi => ⟨fun d => ⟨((e2 i).mp d.1).resolve_right hi, d.2⟩, fun d => ⟨(e2 i).mpr (Or.inl d.1), d.2⟩⟩)
      rw [k, Int.mul_add, Int.mul_one]; omega
    · rw [r_i0 c]
      have k : cnt (fun i => (pst ko sd n rc z l (m + 1)).2 i ∧ ONQ z (sd i) j) n = cnt (fun i => (pst ko sd n rc z l m).2 i ∧ ONQ z (sd i) j) n := cnt_c n (fun i _ _ => ⟨fun d => ⟨((e2 i).mp d.1).resolve_right (fun e => c (by rw [← e]; exact d.2)), d.2⟩, fun d => ⟨(e2 i).mpr (Or.inl d.1), d.2⟩⟩)
      rw [k]; omega
theorem LAD_q {ko : Int → Int} {sd : Int → Int × Int × Int × Int} {n : Nat} {rc z j : Int} {l : List qCmd} {th : Int → Int} (hrc : 0 ≤ rc) (hs : ∀ i, sG (sd i)) : LAD (pst ko sd n rc z l n).1 th (pst ko sd n rc z l n).1.length j = LAD l th l.length j + 10 * th z * cnt (fun i => ONQ z (sd i) j) n := by
  have k := LAD_p (ko := ko) (sd := sd) (n := n) (rc := rc) (l := l) (th := th) (j := j) (z := z) hrc hs n (Nat.le_refl _)
  have kc := (pst_cnt (ko := ko) (sd := sd) (n := n) (rc := rc) (z := z) (l := l) n (Nat.le_refl _)).1
  have hall : ∀ i : Int, 0 ≤ i → i < (n : Int) → (pst ko sd n rc z l n).2 i := fun i i0 i1 => Classical.byContradiction fun d => by
    have := cnt_less (n := n) ⟨i0, i1⟩ d
    omega
  have kd := cnt_c (p := fun i => (pst ko sd n rc z l n).2 i ∧ ONQ z (sd i) j) (q := fun i => ONQ z (sd i) j) n (fun i i0 i1 => ⟨fun d => d.2, fun d => ⟨hall i i0 i1, d⟩⟩)
  rw [kd] at k
  exact k
/-! each drawn cell lies on one stroke -/
def DRW (k : Int) : Prop := ∃ kk, (0 ≤ kk ∧ kk < 5) ∧ k = r_t5 kk
theorem run_b {K : Int → Int → Int} {ac kk : Int} (hK : ¬ K (-1) ac = r_t5 kk) : ∀ n : Nat, K n ac = r_t5 kk → ∃ b : Int, (0 ≤ b ∧ b ≤ n) ∧ ¬ K (b - 1) ac = r_t5 kk ∧ ∀ t, b ≤ t → t ≤ n → K t ac = r_t5 kk
  | 0, h => ⟨0, ⟨Int.le_refl _, Int.le_refl _⟩, hK, fun t t0 t1 => by
    have t1 : t ≤ 0 := t1
    rw [show t = ((0 : Nat) : Int) by omega]; exact h⟩
  | n + 1, h => by
    by_cases c : K n ac = r_t5 kk
    · obtain ⟨b, h1, h2, h3⟩ := run_b hK n c
      refine ⟨b, by omega, h2, fun t t0 t1 => ?_⟩
      by_cases d : t = ((n + 1 : Nat) : Int)
      · rw [d]; exact h
      · exact h3 t t0 (by omega)
    · refine ⟨((n + 1 : Nat) : Int), by omega, by rw [show ((n + 1 : Nat) : Int) - 1 = n by omega]; exact c, fun t t0 t1 => by rw [show t = ((n + 1 : Nat) : Int) by omega]; exact h⟩
/-- a stroke holds cells of its kind -/
theorem sE_r {K : Int → Int → Int} {p t : Int} (hs : STT K p) (h : p % 12 ≤ t ∧ t ≤ sE K p) : K t (p / 12 % 12) = r_t5 (p / 144) := by
  obtain ⟨h1, h2, h3⟩ := fst_F (p := fun t => ¬ K (t + 1) (p / 12 % 12) = r_t5 (p / 144)) (s := p % 12) (e := 12) (by omega)
  have e : fst (fun t => ¬ K (t + 1) (p / 12 % 12) = r_t5 (p / 144)) (p % 12) 12 = sE K p := rfl
  rw [e] at h1 h2 h3
  by_cases c : t = p % 12
  · rw [c]; exact hs.1
  · have k := Classical.not_not.mp (h2 (t - 1) (by omega) (by omega))
    rw [show t - 1 + 1 = t by omega] at k
    exact k
theorem sE_l {K : Int → Int → Int} {p t : Int} (ht : p % 12 ≤ t ∧ t < 12) (h : ∀ u, p % 12 ≤ u → u ≤ t → K u (p / 12 % 12) = r_t5 (p / 144)) : t ≤ sE K p := by
  obtain ⟨h1, h2, h3⟩ := fst_F (p := fun t => ¬ K (t + 1) (p / 12 % 12) = r_t5 (p / 144)) (s := p % 12) (e := 12) (by omega)
  have e : fst (fun t => ¬ K (t + 1) (p / 12 % 12) = r_t5 (p / 144)) (p % 12) 12 = sE K p := rfl
  rw [e] at h1 h2 h3
  by_cases c : t ≤ sE K p
  · exact c
  · exact absurd (h (sE K p + 1) (by omega) (by omega)) (h3 (by omega))
theorem cnt_one {p : Int → Prop} {n : Nat} {i : Int} (hi : 0 ≤ i ∧ i < n) (h : p i) (hu : ∀ k : Int, 0 ≤ k → k < n → p k → k = i) : cnt p n = 1 := by
  have h1 := cnt_rm (q := p) (m := n) hi h
  have h2 : cnt (fun k => p k ∧ ¬ k = i) n = 0 := by
    have h3 := cnt_k (p := fun k => p k ∧ ¬ k = i) (m := 0) n (by omega) (fun k k0 k1 c => c.2 (hu k (by omega) k1 c.1))
    rw [h3]; rfl
  omega
theorem cnt_non {p : Int → Prop} {n : Nat} (hu : ∀ k : Int, 0 ≤ k → k < n → ¬ p k) : cnt p n = 0 := by
  have h3 := cnt_k (p := p) (m := 0) n (by omega) (fun k k0 k1 c => hu k (by omega) k1 c)
  rw [h3]; rfl
/-- the place along and across of a cell -/
def alo (z j : Int) : Int := if z % 2 = 0 then j % 12 else j / 12 % 12
def acr (z j : Int) : Int := if z % 2 = 0 then j / 12 % 12 else j % 12
theorem alo_b (z j : Int) : (0 ≤ alo z j ∧ alo z j < 12) ∧ (0 ≤ acr z j ∧ acr z j < 12) := by unfold alo acr; split <;> omega
theorem ONQ_s {K : Int → Int → Int} {z i j : Int} : ONQ z (sT K z i) j ↔ j / 144 = z ∧ plc K i / 12 % 12 = acr z j ∧ plc K i % 12 ≤ alo z j ∧ alo z j ≤ sE K (plc K i) := by
  unfold ONQ sT alo acr
  dsimp only
  by_cases c : z % 2 = 0
  · rw [r_i1 c, r_i1 c, r_i1 c, r_i1 c, if_pos c, if_pos c]; omega
  · rw [r_i0 c, r_i0 c, r_i0 c, r_i0 c, if_neg c, if_neg c]; omega
theorem cnt_q {K : Int → Int → Int} (hK : ∀ al ac kk, ¬ (0 ≤ al ∧ al < 12) → ¬ K al ac = r_t5 kk) {z j : Int} (hj : j / 144 = z) : cnt (fun i => ONQ z (sT K z i) j) (sI K 720).toNat = r_z (DRW (K (alo z j) (acr z j))) := by
  have h0 : 0 ≤ sI K 720 := (cnt_b (p := STT K) (720 : Int).toNat).1
  have hn : ((sI K 720).toNat : Int) = sI K 720 := Int.toNat_of_nonneg h0
  obtain ⟨ha, hc⟩ := alo_b z j
  by_cases d : DRW (K (alo z j) (acr z j))
  · rw [r_z1 d]
    obtain ⟨kk, hk, e⟩ := d
    obtain ⟨b, b1, b2, b3⟩ := run_b (ac := acr z j) (kk := kk) (hK _ _ _ (by omega)) (alo z j).toNat (by rw [Int.toNat_of_nonneg ha.1]; exact e)
    rw [Int.toNat_of_nonneg ha.1] at b1 b3
    have p1 : (144 * kk + 12 * acr z j + b) / 144 = kk := by omega
    have p2 : (144 * kk + 12 * acr z j + b) / 12 % 12 = acr z j := by omega
    have p3 : (144 * kk + 12 * acr z j + b) % 12 = b := by omega
    have hs : STT K (144 * kk + 12 * acr z j + b) := (STT_at hk.1 hc (by omega)).mpr ⟨b3 b (Int.le_refl _) b1.2, b2⟩
    have hi : 0 ≤ sI K (144 * kk + 12 * acr z j + b) := (cnt_b (p := STT K) _).1
    have hl := sI_lt (K := K) (p := 144 * kk + 12 * acr z j + b) (P := 720) (by omega) (by omega) hs
    have hpl := plc_s (K := K) (i := sI K (144 * kk + 12 * acr z j + b)) ⟨hi, hl⟩
    have inj : ∀ p q, (0 ≤ p ∧ p < 720) → (0 ≤ q ∧ q < 720) → STT K p → STT K q → sI K p = sI K q → p = q := fun p q hp hq sp sq e => by
      by_cases c1 : p < q
      · have := sI_lt (K := K) hp.1 c1 sp; omega
      · by_cases c2 : q < p
        · have := sI_lt (K := K) hq.1 c2 sq; omega
        · omega
    have ep : plc K (sI K (144 * kk + 12 * acr z j + b)) = 144 * kk + 12 * acr z j + b := inj _ _ hpl.1 (by omega) hpl.2.1 hs hpl.2.2
    refine cnt_one (i := sI K (144 * kk + 12 * acr z j + b)) ⟨hi, by omega⟩ ?_ (fun i i0 i1 hq => ?_)
    · rw [ONQ_s, ep, p2, p3]
      refine ⟨hj, rfl, b1.2, sE_l ⟨by rw [p3]; exact b1.2, ha.2⟩ (fun u u0 u1 => ?_)⟩
      rw [p2, p1]; rw [p3] at u0; exact b3 u u0 u1
    · rw [ONQ_s] at hq
      obtain ⟨_, q1, q2, q3⟩ := hq
      have hpi := plc_s (K := K) (i := i) (by omega)
      have r1 := sE_r hpi.2.1 ⟨q2, q3⟩
      rw [q1, e] at r1
      have r2 := r_t5_i hk (by have := hpi.1; omega) r1
      by_cases c1 : plc K i % 12 < b
      · have r3 := sE_r (t := b - 1) hpi.2.1 (by omega)
        rw [q1, ← r2] at r3
        exact absurd r3 b2
      · by_cases c2 : b < plc K i % 12
        · have r3 := hpi.2.1.2
          rw [q1, ← r2] at r3
          exact absurd (b3 _ (by omega) (by omega)) r3
        · have e5 : plc K i = 144 * kk + 12 * acr z j + b := by have := hpi.1; omega
          rw [← hpi.2.2, e5]
  · rw [r_z0 d]
    refine cnt_non (fun i i0 i1 hq => d ?_)
    rw [ONQ_s] at hq
    obtain ⟨_, q1, q2, q3⟩ := hq
    have hpi := plc_s (K := K) (i := i) (by omega)
    have r1 := sE_r hpi.2.1 ⟨q2, q3⟩
    rw [q1] at r1
    exact ⟨_, by have := hpi.1; omega, r1⟩
theorem LAD_l {K : Int → Int → Int} (hK : ∀ al ac kk, ¬ (0 ≤ al ∧ al < 12) → ¬ K al ac = r_t5 kk) {pz : Prop} {rc z j : Int} {l : List qCmd} {th : Int → Int} (hrc : 0 ≤ rc) : LAD (lay1 K pz rc z l) th (lay1 K pz rc z l).length j = LAD l th l.length j + r_i (j / 144 = z ∧ DRW (K (alo z j) (acr z j))) (10 * th z) 0 := by
  have h0 : 0 ≤ sI K 720 := (cnt_b (p := STT K) (720 : Int).toNat).1
  have hn : ((sI K 720).toNat : Int) = sI K 720 := Int.toNat_of_nonneg h0
  have hmain : ∀ q : Int, 10 * th z * cnt (fun i => ONQ z (sT K z i) j) (sI K 720).toNat = r_i (j / 144 = z ∧ DRW (K (alo z j) (acr z j))) (10 * th z) 0 := fun _ => by
    by_cases c : j / 144 = z
    · rw [cnt_q hK c]
      by_cases d : DRW (K (alo z j) (acr z j))
      · rw [r_z1 d, r_i1 ⟨c, d⟩, Int.mul_one]
      · rw [r_z0 d, r_i0 (fun e => d e.2), Int.mul_zero]
    · rw [cnt_non (fun i _ _ hq => c hq.1), r_i0 (fun e => c e.1), Int.mul_zero]
  unfold lay1
  split
  · rename_i hz
    have k := hmain 0
    rw [hz] at k
    have k2 : r_i (j / 144 = z ∧ DRW (K (alo z j) (acr z j))) (10 * th z) 0 = 0 := k.symm.trans (Int.mul_zero _)
    rw [k2, Int.add_zero]
  · have hl : LAD (l ++ [(122, hX l, hY l, z)] ++ @ite _ pz (Classical.propDecidable _) [(112, hX l, hY l, z)] []) th (l ++ [(122, hX l, hY l, z)] ++ @ite _ pz (Classical.propDecidable _) [(112, hX l, hY l, z)] []).length j = LAD l th l.length j := by
      split
      · rw [LAD_end, LAD_end, if_neg (by show ¬ (122 : Int) = 100; decide), if_neg (by show ¬ (112 : Int) = 100; decide)]; omega
      · rw [List.append_nil, LAD_end, if_neg (by show ¬ (122 : Int) = 100; decide)]; omega
    have k := LAD_q (ko := sK K) (sd := sT K z) (n := (sI K 720).toNat) (rc := rc) (z := z) (j := j) (th := th) (l := l ++ [(122, hX l, hY l, z)] ++ @ite _ pz (Classical.propDecidable _) [(112, hX l, hY l, z)] []) hrc (sT_g hK z)
    rw [hl, hmain 0, hn] at k
    exact k
theorem LAD_P {a : Int → Int} {f : Nat → Int} {b : Nat} {pz th : Int → Int} (hrc : 0 ≤ f (b + 5)) {j : Int} : ∀ z : Nat, LAD (PLN a f b pz z) th (PLN a f b pz z).length j = r_i ((0 ≤ j / 144 ∧ j / 144 < z) ∧ DRW (KL a f b (j / 144) (alo (j / 144) j) (acr (j / 144) j))) (10 * th (j / 144)) 0
  | 0 => by rw [r_i0 (fun c => by have := c.1; omega)]; rfl
  | z + 1 => by
    have k := LAD_l (K := KL a f b z) (fun al ac kk h => KL_o h) (pz := ¬ pz z = 0) (rc := f (b + 5)) (z := z) (j := j) (l := PLN a f b pz z) (th := th) hrc
    have e : PLN a f b pz (z + 1) = lay1 (KL a f b z) (¬ pz z = 0) (f (b + 5)) z (PLN a f b pz z) := rfl
    rw [e, k, LAD_P hrc z]
    by_cases c : j / 144 = z
    · rw [r_i0 (p := (0 ≤ j / 144 ∧ j / 144 < (z : Int)) ∧ _) (fun d => by have := d.1; omega), Int.zero_add, ← c]
      exact r_ieq ⟨fun d => ⟨by omega, d.2⟩, fun d => ⟨rfl, d.2⟩⟩
    · rw [r_i0 (p := j / 144 = (z : Int) ∧ _) (fun d => c d.1), Int.add_zero]
      exact r_ieq ⟨fun d => ⟨by omega, d.2⟩, fun d => ⟨by omega, d.2⟩⟩
/-- the kinds that are drawn -/
def DRK (k : Int) : Prop := k = 119 ∨ k = 98 ∨ k = 116 ∨ k = 105 ∨ k = 115
theorem DRW_k {k : Int} : DRW k ↔ DRK k := by
  constructor
  · rintro ⟨kk, hk, e⟩
    rcases (show kk = 0 ∨ kk = 1 ∨ kk = 2 ∨ kk = 3 ∨ kk = 4 by omega) with rfl | rfl | rfl | rfl | rfl <;> (rw [e]; unfold DRK r_t5; simp)
  · rintro (e | e | e | e | e)
    · exact ⟨0, by omega, e⟩
    · exact ⟨1, by omega, e⟩
    · exact ⟨2, by omega, e⟩
    · exact ⟨3, by omega, e⟩
    · exact ⟨4, by omega, e⟩
theorem KL_j {a : Int → Int} {f : Nat → Int} {b : Nat} {z j : Int} : KL a f b z (alo z j) (acr z j) = KND a f b (j % 12) (j / 12 % 12) z := by
  have h := alo_b z j
  unfold KL
  rw [r_i1 h.1]
  unfold alo acr
  by_cases c : z % 2 = 0
  · rw [r_i1 c, if_pos c, if_pos c]
  · rw [r_i0 c, if_neg c, if_neg c]
theorem LAD_F {a : Int → Int} {f : Nat → Int} {b : Nat} {pz th : Int → Int} (hrc : 0 ≤ f (b + 5)) {j : Int} (hj : 0 ≤ j ∧ j < 1728) : LAD (PLN a f b pz 12) th (PLN a f b pz 12).length j = r_i (DRK (KND a f b (j % 12) (j / 12 % 12) (j / 144))) (10 * th (j / 144)) 0 := by
  rw [LAD_P hrc 12, KL_j]
  exact r_ieq ⟨fun d => DRW_k.mp d.2, fun d => ⟨by omega, DRW_k.mpr d⟩⟩
