/-! the ticks of a print that is hot: what is left falls -/
def Wk (l : List qCmd) (m : MT) : Int := CST l l.length - CST l m.2.1.toNat - m.2.2.1
def Hh (m : MT) : Int := if m.2.2.2.2.1 < 190 then 190 - m.2.2.2.2.1 else 0
noncomputable def PP (l : List qCmd) (m : MT) : Int := NPA l l.length - NPA l m.2.1.toNat
theorem nat_s {k : Int} (h : 0 ≤ k) : (k + 1).toNat = k.toNat + 1 := by omega
theorem CST_s {l : List qCmd} {k : Int} (h : 0 ≤ k) : CST l (k + 1).toNat = CST l k.toNat + cst l k := by
  rw [nat_s h]
  show CST l k.toNat + cst l (k.toNat : Int) = _
  rw [Int.toNat_of_nonneg h]
theorem LAD_s {l : List qCmd} {th : Int → Int} {k j : Int} (h : 0 ≤ k) : LAD l th (k + 1).toNat j = LAD l th k.toNat j + (if (cg l k).1 = 100 then r_i (OnS l k j) (10 * th (cg l k).2.2.2) 0 else 0) := by
  rw [nat_s h]
  show LAD l th k.toNat j + (if (cg l (k.toNat : Int)).1 = 100 then r_i (OnS l (k.toNat : Int) j) (10 * th (cg l (k.toNat : Int)).2.2.2) 0 else 0) = _
  rw [Int.toNat_of_nonneg h]
theorem NPA_s {l : List qCmd} {k : Int} (h : 0 ≤ k) : NPA l (k + 1).toNat = NPA l k.toNat + r_z ((cg l k).1 = 112) := cnt_s h
theorem cst_b {l : List qCmd} (hO : COK l) (i : Int) : 1 ≤ cst l i ∧ LEN l i ≤ cst l i := by
  have h := LEN_b hO i
  unfold cst; split <;> omega
theorem CST_m {l : List qCmd} (hO : COK l) {m : Nat} : ∀ n : Nat, CST l m + n ≤ CST l (m + n)
  | 0 => by show CST l m + 0 ≤ CST l m; omega
  | n + 1 => by
    have h := CST_m hO (m := m) n
    have h2 := cst_b hO ((m + n : Nat) : Int)
    show CST l m + ((n + 1 : Nat) : Int) ≤ CST l (m + n) + cst l ((m + n : Nat) : Int)
    omega
theorem NPA_m {l : List qCmd} {m n : Nat} (h : m ≤ n) : NPA l m ≤ NPA l n := cnt_mono h
theorem NPA_b {l : List qCmd} {n : Nat} : 0 ≤ NPA l n := (cnt_b n).1
/-- what a print's numbers keep -/
def RUN (l : List qCmd) (th : Int → Int) (m : MT) : Prop := MI l m ∧ (m.1 = 114 ∨ m.1 = 119 ∨ m.1 = 112 ∨ m.1 = 100) ∧ (m.1 = 100 → m.2.1 = l.length ∧ m.2.2.1 = 0 ∧ m.2.2.2.1 = 0) ∧ (m.1 = 119 → m.2.2.2.1 = 0) ∧ (∀ j, m.2.2.2.2.2.2 j = LAD l th m.2.1.toNat j) ∧ m.2.2.2.2.1 ≤ 205
theorem RUN_n {l : List qCmd} {th : Int → Int} {m : MT} (hO : COK l) (h : RUN l th m) : 0 ≤ Wk l m ∧ Wk l m ≤ CST l l.length ∧ (0 ≤ Hh m ∧ Hh m ≤ 170) ∧ 0 ≤ PP l m ∧ PP l m ≤ NPA l l.length := by
  obtain ⟨⟨m1, m2, m3, m4, m5, m6, m7⟩, s, d, _⟩ := h
  have hn : m.2.1.toNat ≤ l.length := by omega
  have h1 := NPA_m (l := l) hn
  have h2 := NPA_b (l := l) (n := m.2.1.toNat)
  have h3 := CST_m hO (m := 0) m.2.1.toNat
  rw [Nat.zero_add] at h3
  have e0 : CST l 0 = 0 := rfl
  refine ⟨?_, by unfold Wk; omega, by unfold Hh; split <;> omega, by unfold PP; omega, by unfold PP; omega⟩
  unfold Wk
  by_cases c : m.2.1 < l.length
  · have h4 := CST_m hO (m := m.2.1.toNat + 1) (l.length - (m.2.1.toNat + 1))
    rw [show m.2.1.toNat + 1 + (l.length - (m.2.1.toNat + 1)) = l.length by omega] at h4
    have h5 := CST_s (l := l) m1.1
    rw [nat_s m1.1] at h5
    have h6 := cst_b hO m.2.1
    omega
  · have e : m.2.1.toNat = l.length := by omega
    have hg : m.2.2.1 = 0 := by
      by_cases p : PRN m.1
      · exact absurd (m2 p) c
      · refine (d ?_).2.1
        rcases s with s | s | s | s
        · exact absurd (Or.inl s) p
        · exact absurd (Or.inr (Or.inl s)) p
        · exact absurd (Or.inr (Or.inr s)) p
        · exact s
    rw [e]; omega
theorem SPD_1 {l : List qCmd} {i sp left : Int} (hs : 0 ≤ sp) (hl : 1 ≤ left) : SPD l i sp left ≤ sp + 1 := by
  have hg := GRT_b l i
  obtain ⟨m, hm⟩ : ∃ m, m = r_i (sp + 1 ≤ r_i (GRT l i ≤ left) (GRT l i) left) (sp + 1) (r_i (GRT l i ≤ left) (GRT l i) left) := ⟨_, rfl⟩
  have hmb : 1 ≤ m ∧ m ≤ sp + 1 := by rw [hm]; unfold r_i; (repeat' split) <;> omega
  obtain ⟨v, hv, hv2⟩ := isS_x (last := LST l i) (left := left) m.toNat
  rw [Int.toNat_of_nonneg (by omega)] at hv hv2
  have e := spd_e hv
  unfold SPD; rw [← hm, ← e]
  omega
theorem HTR_h {tp on tp' on' : Int} (h : HTR 200 tp on tp' on') (h0 : 20 ≤ tp) : (tp ≤ 205 → tp' ≤ 205) ∧ (190 ≤ tp → 190 ≤ tp') ∧ (tp < 190 → tp' = tp + 3) := by unfold HTR at h; omega
theorem Hh_s {m n : MT} (h : HTR 200 m.2.2.2.2.1 m.2.2.2.2.2.1 n.2.2.2.2.1 n.2.2.2.2.2.1) (h0 : 20 ≤ m.2.2.2.2.1) : Hh n ≤ Hh m ∧ (n.2.2.2.2.1 < 190 → Hh n + 3 ≤ Hh m) := by
  have k := HTR_h h h0
  unfold Hh
  (repeat' split) <;> omega
/-- a tick -/
theorem RUN_s {l : List qCmd} {th : Int → Int} {m n : MT} {kz ov : Int} (hO : COK l) (h : RUN l th m) (hk : TK1 l th 200 m n kz ov) :
    RUN l th n ∧ ov = n.2.1 - m.2.1 ∧ (0 ≤ ov ∧ ov ≤ 1) ∧ n.2.2.2.1 ≤ m.2.2.2.1 + 1 ∧ (Wk l n + Hh n ≤ Wk l m + Hh m ∧ PP l n ≤ PP l m) ∧
    ((m.1 = 114 ∨ m.1 = 119) → n.1 = 100 ∨ (n.1 = 112 ∧ PP l n + 1 ≤ PP l m) ∨ ((n.1 = 114 ∨ n.1 = 119) ∧ Wk l n + Hh n + 1 ≤ Wk l m + Hh m)) ∧
    (¬ (m.1 = 114 ∨ m.1 = 119) → n.1 = m.1) := by
  obtain ⟨hMI, hov, _⟩ := TK1_MI (by omega) h.1 hk
  obtain ⟨⟨m1, m2, m3, m4, m5, m6, m7⟩, s, d, s119, hl, h205⟩ := id h
  obtain ⟨hh, hr⟩ := hk
  have kh := HTR_h hh m6.1
  have kH := Hh_s hh m6.1
  have hN := NPA_s (l := l) m1.1
  have hC := CST_s (l := l) m1.1
  have hz := r_zd ((cg l m.2.1).1 = 112)
  have hcb := cst_b hO m.2.1
  rcases hr with ⟨a, b1, b2, b3, b4, b5, b6, b7⟩ | ⟨a, hT, hL⟩
  · have eW : Wk l n = Wk l m := by unfold Wk; rw [b2, b3]
    have eP : PP l n = PP l m := by unfold PP; rw [b2]
    refine ⟨⟨hMI, by rw [b1]; exact s, fun e => ?_, fun e => ?_, fun j => by rw [b5, b2]; exact hl j, kh.1 h205⟩, by omega, by omega, by omega, ⟨by omega, by omega⟩, fun c => absurd c a, fun _ => b1⟩
    · rw [b2, b3, b4]; exact d (by rw [← b1]; exact e)
    · rw [b4]; exact s119 (by rw [← b1]; exact e)
  · have hlt : m.2.1 < l.length := m2 (a.elim Or.inl (fun e => Or.inr (Or.inl e)))
    rcases hT with ⟨c1, c2, e1, e2, e3, e4, e5, e6⟩ | ⟨c1, c2, e1, e2, e3, e4, e5, e6⟩ | ⟨c1, c2, e1, e2, e3, ⟨s1, e4, e5⟩, e6, e7⟩
    · have hcold : n.2.2.2.2.1 < 190 := by unfold HOTP at c2; omega
      have eW : Wk l n = Wk l m := by unfold Wk; rw [e2, e3]
      have eP : PP l n = PP l m := by unfold PP; rw [e2]
      have hlaid : n.2.2.2.2.2.2 = m.2.2.2.2.2.2 := by
        rcases hL with ⟨q1, _⟩ | ⟨_, q⟩
        · omega
        · exact q
      have k3 := kH.2 hcold
      exact ⟨⟨hMI, by omega, fun e => by omega, fun _ => e4, fun j => by rw [hlaid, e2]; exact hl j, kh.1 h205⟩, by omega, by omega, by omega, ⟨by omega, by omega⟩, fun _ => Or.inr (Or.inr ⟨Or.inr e1, by omega⟩), fun c => absurd a c⟩
    · have hsb := SPD_b (l := l) (i := m.2.1) (sp := m.2.2.2.1) (left := LEN l m.2.1 - m.2.2.1) m5.1 (by omega)
      have hs1 := SPD_1 (l := l) (i := m.2.1) (sp := m.2.2.2.1) (left := LEN l m.2.1 - m.2.2.1) m5.1 (by omega)
      have eW : Wk l n + 1 ≤ Wk l m := by unfold Wk; rw [e2, e3]; omega
      have eP : PP l n = PP l m := by unfold PP; rw [e2]
      have hlaid : n.2.2.2.2.2.2 = m.2.2.2.2.2.2 := by
        rcases hL with ⟨q1, _⟩ | ⟨_, q⟩
        · omega
        · exact q
      exact ⟨⟨hMI, by omega, fun e => by omega, fun e => by omega, fun j => by rw [hlaid, e2]; exact hl j, kh.1 h205⟩, by omega, by omega, by omega, ⟨by omega, by omega⟩, fun _ => Or.inr (Or.inr ⟨Or.inl e1, by omega⟩), fun c => absurd a c⟩
    · have eW : Wk l n + 1 ≤ Wk l m := by unfold Wk; rw [e2, e3, hC]; omega
      have eP : PP l n = PP l m - r_z ((cg l m.2.1).1 = 112) := by unfold PP; rw [e2, hN]; omega
      have hs1 : 0 ≤ s1 ∧ s1 ≤ m.2.2.2.1 + 1 := by
        rcases e4 with ⟨q1, q2⟩ | ⟨q1, q2⟩
        · have hsb := SPD_b (l := l) (i := m.2.1) (sp := m.2.2.2.1) (left := LEN l m.2.1 - m.2.2.1) m5.1 (by omega)
          have hs1 := SPD_1 (l := l) (i := m.2.1) (sp := m.2.2.2.1) (left := LEN l m.2.1 - m.2.2.1) m5.1 (by omega)
          omega
        · omega
      have hsp : n.2.2.2.1 ≤ m.2.2.2.1 + 1 := by
        rcases e5 with ⟨_, q⟩ | ⟨_, q⟩
        · split at q <;> omega
        · omega
      have hlaid : ∀ j, n.2.2.2.2.2.2 j = LAD l th n.2.1.toNat j := fun j => by
        rw [e2, LAD_s m1.1, ← hl j]
        rcases hL with ⟨_, q1, q2⟩ | ⟨q1, q2⟩
        · rw [if_pos q1]; exact q2 j
        · rw [if_neg (fun q => q1 ⟨e1, q⟩), q2, Int.add_zero]
      have hsp0 : n.1 = 100 → n.2.2.2.1 = 0 := fun q => by
        have e : m.2.1 + 1 = l.length := by omega
        rcases e5 with ⟨q1, _⟩ | ⟨_, q1⟩
        · exfalso
          have q2 := q1.2.1
          unfold MV at q2
          rw [cg_out (by omega)] at q2
          rcases q2 with q2 | q2
          · exact absurd q2 (by decide)
          · exact absurd q2 (by decide)
        · exact q1
      refine ⟨⟨hMI, by omega, fun e => ⟨by omega, e3, hsp0 e⟩, fun e => by omega, hlaid, kh.1 h205⟩, by omega, by omega, hsp, ⟨by omega, by omega⟩, fun _ => ?_, fun c => absurd a c⟩
      rcases e7 with ⟨q1, q2⟩ | ⟨q1, q2, q3⟩ | ⟨q1, q2, q3⟩
      · exact Or.inl q2
      · exact Or.inr (Or.inl ⟨q3, by rw [eP, r_z1 q2]; omega⟩)
      · exact Or.inr (Or.inr ⟨Or.inl q3, by omega⟩)
theorem RUN_k {l : List qCmd} {th : Int → Int} (hO : COK l) : ∀ (k : Nat) {m n : MT} {kz ov : Int}, RUN l th m → TKN l th 200 k m n kz ov →
    RUN l th n ∧ ov = n.2.1 - m.2.1 ∧ (Wk l n + Hh n ≤ Wk l m + Hh m ∧ PP l n ≤ PP l m) ∧
    ((m.1 = 114 ∨ m.1 = 119) → n.1 = 100 ∨ (n.1 = 112 ∧ PP l n + 1 ≤ PP l m) ∨ ((n.1 = 114 ∨ n.1 = 119) ∧ Wk l n + Hh n + k ≤ Wk l m + Hh m)) ∧
    (¬ (m.1 = 114 ∨ m.1 = 119) → n.1 = m.1)
  | 0, m, n, kz, ov, h, ⟨h1, h2, h3⟩ => by
    subst h1 h3
    exact ⟨h, by omega, ⟨Int.le_refl _, Int.le_refl _⟩, fun c => Or.inr (Or.inr ⟨c, by omega⟩), fun _ => rfl⟩
  | k + 1, m, n, kz, ov, h, ⟨m1, kz1, ov1, kz2, ov2, h1, h2, h3, h4⟩ => by
    obtain ⟨a1, a2, a3, a4, a5⟩ := RUN_k hO k h h1
    obtain ⟨b1, b2, b3, b4, b5, b6, b7⟩ := RUN_s hO a1 h2
    refine ⟨b1, by omega, ⟨by omega, by omega⟩, fun c => ?_, fun c => ?_⟩
    · rcases a4 c with d | ⟨d1, d2⟩ | ⟨d1, d2⟩
      · exact Or.inl ((b7 (by omega)).trans d)
      · exact Or.inr (Or.inl ⟨(b7 (by omega)).trans d1, by omega⟩)
      · rcases b6 d1 with e | ⟨e1, e2⟩ | ⟨e1, e2⟩
        · exact Or.inl e
        · exact Or.inr (Or.inl ⟨e1, by omega⟩)
        · exact Or.inr (Or.inr ⟨e1, by omega⟩)
    · have := a5 c
      rw [b7 (by rw [this]; exact c), this]
/-- ticks in which nothing is done -/
theorem TKN_o {l : List qCmd} {th : Int → Int} {tg : Int} : ∀ (k : Nat) {m n : MT} {kz ov : Int}, ¬ (m.1 = 114 ∨ m.1 = 119) → TKN l th tg k m n kz ov → n.1 = m.1 ∧ n.2.1 = m.2.1 ∧ n.2.2.1 = m.2.2.1 ∧ n.2.2.2.1 = m.2.2.2.1 ∧ n.2.2.2.2.2.2 = m.2.2.2.2.2.2 ∧ kz = -2 ∧ ov = 0
  | 0, m, n, kz, ov, _, ⟨h1, h2, h3⟩ => by subst h1 h2 h3; exact ⟨rfl, rfl, rfl, rfl, rfl, rfl, rfl⟩
  | k + 1, m, n, kz, ov, hm, ⟨m1, kz1, ov1, kz2, ov2, h1, h2, h3, h4⟩ => by
    obtain ⟨a1, a2, a3, a4, a5, a6, a7⟩ := TKN_o k hm h1
    rcases h2.2 with ⟨_, c1, c2, c3, c4, c5, c6, c7⟩ | ⟨c, _, _⟩
    · exact ⟨c1.trans a1, c2.trans a2, c3.trans a3, c4.trans a4, c5.trans a5, by rw [h3, if_pos c6]; exact a6, by omega⟩
    · rw [a1] at c; exact absurd c hm
/-- the heat of ticks without a target -/
theorem TKN_t {l : List qCmd} {th : Int → Int} : ∀ (k : Nat) {m n : MT} {kz ov : Int}, 20 ≤ m.2.2.2.2.1 → m.2.2.2.2.1 ≤ 205 → TKN l th 0 k m n kz ov → 20 ≤ n.2.2.2.2.1 ∧ n.2.2.2.2.1 ≤ 205
  | 0, m, n, kz, ov, h0, h1, ⟨e, _⟩ => by subst e; exact ⟨h0, h1⟩
  | k + 1, m, n, kz, ov, h0, h1, ⟨m1, kz1, ov1, kz2, ov2, k1, k2, _⟩ => by
    obtain ⟨a1, a2⟩ := TKN_t k h0 h1 k1
    have h := k2.1
    unfold HTR at h
    omega
