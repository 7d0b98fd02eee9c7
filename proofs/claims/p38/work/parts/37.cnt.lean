/-! counting -/
theorem cnt_n {p : Int → Prop} {n : Nat} : cnt p (n + 1) = cnt p n + r_z (p n) := rfl
theorem cnt_mono {p : Int → Prop} {m n : Nat} (h : m ≤ n) : cnt p m ≤ cnt p n := by
  induction n with
  | zero => rw [Nat.le_zero.mp h]; exact Int.le_refl _
  | succ n ih =>
    by_cases e : m = n + 1
    · rw [e]; exact Int.le_refl _
    · rw [cnt_n]
      have := ih (by omega)
      rcases r_zd (p n) with ⟨a, _⟩ | ⟨a, _⟩ <;> omega
theorem cnt_rm {q : Int → Prop} {m : Nat} {j : Int} (hj : 0 ≤ j ∧ j < m) (hq : q j) : cnt (fun k => q k ∧ ¬ k = j) m = cnt q m - 1 := by
  induction m with
  | zero => omega
  | succ m ih =>
    rw [cnt_n, cnt_n]
    by_cases e : (m : Int) = j
    · rw [r_z0 (fun c => c.2 e), r_z1 (by rw [e]; exact hq)]
      have : cnt (fun k => q k ∧ ¬ k = j) m = cnt q m := cnt_c m (fun k h0 h1 => ⟨fun c => c.1, fun c => ⟨c, by omega⟩⟩)
      omega
    · rw [ih ⟨hj.1, by omega⟩]
      have : r_z (q m ∧ ¬ (m : Int) = j) = r_z (q m) := r_zc ⟨fun c => c.1, fun c => ⟨c, e⟩⟩
      omega
theorem cnt_inj {p : Int → Prop} (f : Int → Int) : ∀ (n : Nat) (q : Int → Prop) (m : Nat), (∀ k : Int, 0 ≤ k → k < n → p k → (0 ≤ f k ∧ f k < m) ∧ q (f k)) → (∀ k l : Int, 0 ≤ k → k < n → 0 ≤ l → l < n → p k → p l → f k = f l → k = l) → cnt p n ≤ cnt q m
  | 0, q, m, _, _ => (cnt_b m).1
  | n + 1, q, m, h1, h2 => by
    rw [cnt_n]
    by_cases c : p n
    · obtain ⟨k1, k2⟩ := h1 n (by omega) (by omega) c
      rw [r_z1 c]
      have h3 := cnt_inj f n (fun k => q k ∧ ¬ k = f n) m (fun k k0 k3 kp => by
        obtain ⟨a, b⟩ := h1 k k0 (by omega) kp
        refine ⟨a, b, fun e => ?_⟩
        have := h2 k n k0 (by omega) (by omega) (by omega) kp c e
        omega) (fun k l a b c d e f g => h2 k l a (by omega) c (by omega) e f g)
      rw [cnt_rm k1 k2] at h3
      omega
    · rw [r_z0 c]
      have h3 := cnt_inj f n q m (fun k a b c => h1 k a (by omega) c) (fun k l a b c d e f g => h2 k l a (by omega) c (by omega) e f g)
      omega
theorem cnt_lt {p : Int → Prop} {m n : Nat} (h : m < n) (hp : p m) : cnt p m < cnt p n := by
  have h1 := cnt_mono (p := p) (show m + 1 ≤ n from h)
  rw [cnt_n, r_z1 hp] at h1
  omega
/-- each number below the count is that of a place -/
theorem cnt_at {p : Int → Prop} : ∀ (n : Nat) (i : Int), 0 ≤ i → i < cnt p n → ∃ k : Nat, k < n ∧ p k ∧ cnt p k = i
  | 0, i, h0, h1 => by have h1 : i < 0 := h1; omega
  | n + 1, i, h0, h1 => by
    rw [cnt_n] at h1
    by_cases c : i < cnt p n
    · obtain ⟨k, k1, k2, k3⟩ := cnt_at n i h0 c
      exact ⟨k, by omega, k2, k3⟩
    · rcases r_zd (p n) with ⟨a, b⟩ | ⟨a, b⟩
      · omega
      · exact ⟨n, by omega, b, by omega⟩
/-! strokes: at the place p = 144 * kind + 12 * across + along begins one -/
noncomputable def KL (a : Int → Int) (f : Nat → Int) (b : Nat) (z al ac : Int) : Int := r_i (0 ≤ al ∧ al < 12) (r_i (z % 2 = 0) (KND a f b al ac z) (KND a f b ac al z)) 46
def STT (K : Int → Int → Int) (p : Int) : Prop := K (p % 12) (p / 12 % 12) = r_t5 (p / 144) ∧ ¬ K (p % 12 - 1) (p / 12 % 12) = r_t5 (p / 144)
noncomputable def sE (K : Int → Int → Int) (p : Int) : Int := fst (fun t => ¬ K (t + 1) (p / 12 % 12) = r_t5 (p / 144)) (p % 12) 12
noncomputable def sI (K : Int → Int → Int) (p : Int) : Int := cnt (STT K) p.toNat
def sR (A : Nat → Int → Int) (b : Nat) (z : Int) (K : Int → Int → Int) (p i : Int) : Prop := A b i = r_t5 (p / 144) ∧ A (b + 1) i = r_i (z % 2 = 0) (p % 12) (p / 12 % 12) ∧ A (b + 2) i = r_i (z % 2 = 0) (p / 12 % 12) (p % 12) ∧ A (b + 3) i = r_i (z % 2 = 0) (sE K p) (p / 12 % 12) ∧ A (b + 4) i = r_i (z % 2 = 0) (p / 12 % 12) (sE K p)
def SREC (A : Nat → Int → Int) (b : Nat) (z : Int) (K : Int → Int → Int) (P : Int) : Prop := ∀ p, 0 ≤ p → p < P → STT K p → sR A b z K p (sI K p)
theorem sI_0 {K : Int → Int → Int} : sI K 0 = 0 := rfl
theorem sI_t {K : Int → Int → Int} {p : Int} (h : 0 ≤ p) (c : STT K p) : sI K (p + 1) = sI K p + 1 := cnt_t h c
theorem sI_f {K : Int → Int → Int} {p : Int} (h : 0 ≤ p) (c : ¬ STT K p) : sI K (p + 1) = sI K p := cnt_f h c
theorem sI_lt {K : Int → Int → Int} {p P : Int} (h : 0 ≤ p) (h2 : p < P) (c : STT K p) : sI K p < sI K P := by
  refine cnt_lt (by omega) ?_
  rw [Int.toNat_of_nonneg h]; exact c
theorem sI_m {K : Int → Int → Int} {p P : Int} (h2 : p ≤ P) : sI K p ≤ sI K P := cnt_mono (by omega)
theorem r_t5_i {i j : Int} (hi : 0 ≤ i ∧ i < 5) (hj : 0 ≤ j ∧ j < 5) (h : r_t5 i = r_t5 j) : i = j := by
  unfold r_t5 at h
  split at h <;> split at h <;> first | omega | (split at h <;> first | omega | (split at h <;> first | omega | (split at h <;> first | omega | (split at h <;> first | omega | (split at h <;> first | omega | (split at h <;> omega))))))
theorem r_t5_b (i : Int) : 98 ≤ r_t5 i ∧ r_t5 i ≤ 119 := by unfold r_t5; (repeat' split) <;> omega
theorem sI_144 {K : Int → Int → Int} {p : Int} (h : p ≤ 720) : sI K p ≤ 144 := by
  have h1 := cnt_inj (p := STT K) (fun k => k % 144) p.toNat (fun _ => True) 144 (fun k h0 h1 _ => ⟨by show 0 ≤ k % 144 ∧ k % 144 < (144 : Nat); omega, trivial⟩) (fun k l k0 k1 l0 l1 hk hl e => by
    have e : k % 144 = l % 144 := e
    have e1 : k % 12 = l % 12 := by omega
    have e2 : k / 12 % 12 = l / 12 % 12 := by omega
    have h5 := hk.1
    rw [e1, e2, hl.1] at h5
    have := r_t5_i (by omega) (by omega) h5
    omega)
  have h2 := (cnt_b (p := fun _ => True) 144).2
  show cnt (STT K) p.toNat ≤ 144
  omega
theorem STT_at {K : Int → Int → Int} {kk ac t : Int} (hk : 0 ≤ kk) (hc : 0 ≤ ac ∧ ac < 12) (ht : 0 ≤ t ∧ t < 12) : STT K (144 * kk + 12 * ac + t) ↔ K t ac = r_t5 kk ∧ ¬ K (t - 1) ac = r_t5 kk := by
  unfold STT
  rw [show (144 * kk + 12 * ac + t) % 12 = t by omega, show (144 * kk + 12 * ac + t) / 12 % 12 = ac by omega, show (144 * kk + 12 * ac + t) / 144 = kk by omega]
theorem SREC_n {A : Nat → Int → Int} {b : Nat} {z P : Int} {K : Int → Int → Int} (h : SREC A b z K P) (c : ¬ STT K P) : SREC A b z K (P + 1) := fun p h0 h1 hs => h p h0 (by
  by_cases e : p = P
  · rw [e] at hs; exact absurd hs c
  · omega) hs
theorem SREC_a {A B : Nat → Int → Int} {b : Nat} {z P : Int} {K : Int → Int → Int} (h0 : 0 ≤ P) (h : SREC A b z K P) (hn : sR B b z K P (sI K P)) (ho : ∀ i, i < sI K P → B b i = A b i ∧ B (b + 1) i = A (b + 1) i ∧ B (b + 2) i = A (b + 2) i ∧ B (b + 3) i = A (b + 3) i ∧ B (b + 4) i = A (b + 4) i) : SREC B b z K (P + 1) := fun p p0 p1 hs => by
  by_cases e : p = P
  · rw [e]; exact hn
  · obtain ⟨k1, k2, k3, k4, k5⟩ := h p p0 (by omega) hs
    obtain ⟨o1, o2, o3, o4, o5⟩ := ho _ (sI_lt p0 (by omega) hs)
    exact ⟨o1.trans k1, o2.trans k2, o3.trans k3, o4.trans k4, o5.trans k5⟩
/-- places behind the beginning that belong to the stroke begin none -/
theorem sI_run {K : Int → Int → Int} {kk ac b : Int} (hk : 0 ≤ kk) (hc : 0 ≤ ac ∧ ac < 12) (hb : 0 ≤ b) (hs : STT K (144 * kk + 12 * ac + b)) : ∀ (n : Nat), b + n < 12 → (∀ t, b ≤ t → t < b + n → K t ac = r_t5 kk) → sI K (144 * kk + 12 * ac + (b + n) + 1) = sI K (144 * kk + 12 * ac + b) + 1
  | 0, h, _ => by
    rw [show b + (0 : Nat) = b by omega]
    exact sI_t (by omega) hs
  | n + 1, h, ht => by
    rw [← sI_run hk hc hb hs n (by omega) (fun t h0 h1 => ht t h0 (by omega))]
    have e : 144 * kk + 12 * ac + (b + ((n + 1 : Nat) : Int)) = 144 * kk + 12 * ac + (b + n) + 1 := by omega
    rw [e]
    refine sI_f (by omega) ?_
    rw [show 144 * kk + 12 * ac + (b + n) + 1 = 144 * kk + 12 * ac + (b + n + 1) by omega, STT_at hk hc (by omega)]
    rintro ⟨_, c⟩
    exact c (by rw [show b + (n : Int) + 1 - 1 = b + n by omega]; exact ht _ (by omega) (by omega))
theorem SREC_run {A : Nat → Int → Int} {bb : Nat} {z : Int} {K : Int → Int → Int} {kk ac b e : Int} (hk : 0 ≤ kk) (hc : 0 ≤ ac ∧ ac < 12) (hb : 0 ≤ b ∧ b < e ∧ e ≤ 12) (h : SREC A bb z K (144 * kk + 12 * ac + b + 1)) (ht : ∀ t, b ≤ t → t < e → K t ac = r_t5 kk) : SREC A bb z K (144 * kk + 12 * ac + e) := fun p p0 p1 hs => by
  refine h p p0 ?_ hs
  by_cases c : p < 144 * kk + 12 * ac + b + 1
  · exact c
  · exfalso
    have e1 : p = 144 * kk + 12 * ac + (p - (144 * kk + 12 * ac)) := by omega
    rw [e1, STT_at hk hc (by omega)] at hs
    exact hs.2 (ht _ (by omega) (by omega))
theorem sE_e {K : Int → Int → Int} {kk ac b e : Int} (hk : 0 ≤ kk) (hc : 0 ≤ ac ∧ ac < 12) (hb : 0 ≤ b ∧ b < 12) (he : b ≤ e ∧ e < 12) (ht : ∀ t, b ≤ t → t ≤ e → K t ac = r_t5 kk) (hn : ¬ K (e + 1) ac = r_t5 kk) : sE K (144 * kk + 12 * ac + b) = e := by
  unfold sE
  rw [show (144 * kk + 12 * ac + b) % 12 = b by omega, show (144 * kk + 12 * ac + b) / 12 % 12 = ac by omega, show (144 * kk + 12 * ac + b) / 144 = kk by omega]
  exact (fst_e ⟨by omega, fun k h0 h1 c => c (ht _ (by omega) (by omega)), fun _ => hn⟩).symm
theorem KL_b (a : Int → Int) (f : Nat → Int) (b : Nat) (z al ac : Int) : 46 ≤ KL a f b z al ac ∧ KL a f b z al ac ≤ 119 := by
  have h1 := KND_b a f b al ac z
  have h2 := KND_b a f b ac al z
  unfold KL r_i; (repeat' split) <;> omega
theorem KL_o {a : Int → Int} {f : Nat → Int} {b : Nat} {z al ac kk : Int} (h : ¬ (0 ≤ al ∧ al < 12)) : ¬ KL a f b z al ac = r_t5 kk := by
  unfold KL; rw [r_i0 h]
  have := r_t5_b kk
  omega
theorem KND_f {a : Int → Int} {f g : Nat → Int} {b : Nat} (h : ∀ i, i ≤ 6 → f (b + i) = g (b + i)) : KND a f b = KND a g b := by
  have h0 : f b = g b := h 0 (by decide)
  funext x y z
  unfold KND KSO SUP
  rw [h0, h 1 (by decide), h 2 (by decide), h 3 (by decide), h 4 (by decide), h 6 (by decide)]
theorem KL_f {a : Int → Int} {f g : Nat → Int} {b : Nat} {z : Int} (h : ∀ i, i ≤ 6 → f (b + i) = g (b + i)) : KL a f b z = KL a g b z := by
  funext al ac
  unfold KL; rw [KND_f h]
/-- the kinds stay found when neither cells nor settings nor kinds are written -/
theorem KCI_f {Is As Js : List Nat} {S T : q_Sg} (h : r_fr Is As Js S T) (h1 : ∀ k, k ≤ 6 → k ∉ Is) (h2 : ∀ k, k ∈ [0, 3, 4] → k ∉ As) (hI : KCI S) : KCI T := by
  have e0 := h.2.1 0 (h2 0 (by decide))
  have e3 := h.2.1 3 (h2 3 (by decide))
  have e4 := h.2.1 4 (h2 4 (by decide))
  have ek := KND_f (a := S.2.1 0) (f := T.1) (g := S.1) (b := 0) (fun i hi => h.1 (0 + i) (h1 _ (by omega)))
  unfold KCI
  rw [e0, e3, e4, ek]
  exact hI
theorem KL_fr {Is As Js : List Nat} {S T : q_Sg} (h : r_fr Is As Js S T) (h1 : ∀ k, k ≤ 6 → k ∉ Is) (h2 : 0 ∉ As) (z : Int) : KL (T.2.1 0) T.1 0 z = KL (S.2.1 0) S.1 0 z := by
  rw [h.2.1 0 h2]; exact KL_f (fun i hi => h.1 (0 + i) (h1 _ (by omega)))
noncomputable def ADDS (S : q_Sg) (b n : Nat) (k f l ac z : Int) : q_Sg := q_sI (q_sA (q_sA (q_sA (q_sA (q_sA S b (q_up (S.2.1 b) (S.1 n) k)) (b + 1) (q_up (S.2.1 (b + 1)) (S.1 n) (r_i (z % 2 = 0) f ac))) (b + 2) (q_up (S.2.1 (b + 2)) (S.1 n) (r_i (z % 2 = 0) ac f))) (b + 3) (q_up (S.2.1 (b + 3)) (S.1 n) (r_i (z % 2 = 0) l ac))) (b + 4) (q_up (S.2.1 (b + 4)) (S.1 n) (r_i (z % 2 = 0) ac l))) n (S.1 n + 1)
theorem r_irg2 {p : Prop} {x y : Int} (hx : rg x) (hy : rg y) : rg (r_i p x y) := by unfold r_i; split; exact hx; exact hy
theorem ADDS_ok {S : q_Sg} {b n : Nat} {k f l ac z : Int} (hS : r_ok S) (hk : rg k) (hf : rg f) (hl : rg l) (ha : rg ac) (hn : rg (S.1 n + 1)) : r_ok (ADDS S b n k f l ac z) :=
  r_okI (r_okA (r_okA (r_okA (r_okA (r_okA hS (r_oku (hS.2 _) hk)) (r_oku (hS.2 _) (r_irg2 hf ha))) (r_oku (hS.2 _) (r_irg2 ha hf))) (r_oku (hS.2 _) (r_irg2 hl ha))) (r_oku (hS.2 _) (r_irg2 ha hl))) hn
theorem ADDS_fr {S : q_Sg} {b n : Nat} {k f l ac z : Int} : r_fr [n] [b + 4, b + 3, b + 2, b + 1, b] [] S (ADDS S b n k f l ac z) := r_frI (r_frA (r_frA (r_frA (r_frA (r_frA r_fr0)))))
theorem ADDS_n {S : q_Sg} {b n : Nat} {k f l ac z : Int} : (ADDS S b n k f l ac z).1 n = S.1 n + 1 := by
  unfold ADDS q_sI; dsimp only; rw [if_pos rfl]
theorem ADDS_a {S : q_Sg} {b n : Nat} {k f l ac z : Int} : (ADDS S b n k f l ac z).2.1 b = q_up (S.2.1 b) (S.1 n) k ∧ (ADDS S b n k f l ac z).2.1 (b + 1) = q_up (S.2.1 (b + 1)) (S.1 n) (r_i (z % 2 = 0) f ac) ∧ (ADDS S b n k f l ac z).2.1 (b + 2) = q_up (S.2.1 (b + 2)) (S.1 n) (r_i (z % 2 = 0) ac f) ∧ (ADDS S b n k f l ac z).2.1 (b + 3) = q_up (S.2.1 (b + 3)) (S.1 n) (r_i (z % 2 = 0) l ac) ∧ (ADDS S b n k f l ac z).2.1 (b + 4) = q_up (S.2.1 (b + 4)) (S.1 n) (r_i (z % 2 = 0) ac l) := by
  unfold ADDS q_sI q_sA; dsimp only
  refine ⟨?_, ?_, ?_, ?_, ?_⟩ <;> simp
/-- the stroke of the place P is written -/
theorem SREC_w {S : q_Sg} {b n : Nat} {k f l ac z : Int} {K : Int → Int → Int} {kk t : Int} (hk : 0 ≤ kk) (hc : 0 ≤ ac ∧ ac < 12) (ht : 0 ≤ t ∧ t < 12) (h : SREC S.2.1 b z K (144 * kk + 12 * ac + t)) (hn : S.1 n = sI K (144 * kk + 12 * ac + t)) (e1 : k = r_t5 kk) (e2 : f = t) (e3 : l = sE K (144 * kk + 12 * ac + t)) : SREC (ADDS S b n k f l ac z).2.1 b z K (144 * kk + 12 * ac + t + 1) := by
  obtain ⟨a0, a1, a2, a3, a4⟩ := ADDS_a (S := S) (b := b) (n := n) (k := k) (f := f) (l := l) (ac := ac) (z := z)
  refine SREC_a (by omega) h ?_ (fun i hi => ?_)
  · unfold sR
    rw [a0, a1, a2, a3, a4, ← hn, show (144 * kk + 12 * ac + t) % 12 = t by omega, show (144 * kk + 12 * ac + t) / 12 % 12 = ac by omega, show (144 * kk + 12 * ac + t) / 144 = kk by omega]
    unfold q_up
    rw [if_pos rfl, if_pos rfl, if_pos rfl, if_pos rfl, if_pos rfl, e1, e2, e3]
    exact ⟨rfl, rfl, rfl, rfl, rfl⟩
  · rw [a0, a1, a2, a3, a4]
    unfold q_up
    rw [if_neg (by omega), if_neg (by omega), if_neg (by omega), if_neg (by omega), if_neg (by omega)]
    exact ⟨rfl, rfl, rfl, rfl, rfl⟩
theorem r_lenR5 {L : qL} {h : qH} {a : qE} (ka : r_E a L h (.ref 5)) : r_E (q_eH1 (q_gLenR q_rs) a) L h (iv 5) := r_h1 ka rfl
def r_t6 (j : Int) : Int := if j = 0 then 108 else if j = 1 then 103 else 119
theorem sp_J0_charAt {j : Int} {h : qH} (hj : 0 ≤ j ∧ j < 3) : r_F f_J0_charAt [.ref 14, iv j] h (iv (r_t6 j)) := by
  rcases (show j = 0 ∨ j = 1 ∨ j = 2 by omega) with rfl | rfl | rfl <;> rfl
theorem r_ii (p : Prop) (x : Int) : r_i p x x = x := by rcases r_id p x x with ⟨h, _⟩ | ⟨h, _⟩ <;> exact h
theorem r_t5_r (i : Int) : rg (r_t5 i) := by have := r_t5_b i; omega
theorem r_t5_c (i : Int) : 0 ≤ r_t5 i ∧ r_t5 i < 65536 := by have := r_t5_b i; omega
theorem KL_r (a : Int → Int) (f : Nat → Int) (b : Nat) (z al ac : Int) : rg (KL a f b z al ac) := by have := KL_b a f b z al ac; omega
theorem KL_r2 (a : Int → Int) (f : Nat → Int) (b : Nat) (z al ac : Int) : 0 ≤ KL a f b z al ac ∧ KL a f b z al ac < 65536 := by have := KL_b a f b z al ac; omega
theorem KND_c (a : Int → Int) (f : Nat → Int) (b : Nat) (x y z : Int) : 0 ≤ KND a f b x y z ∧ KND a f b x y z < 65536 := by have := KND_b a f b x y z; omega
