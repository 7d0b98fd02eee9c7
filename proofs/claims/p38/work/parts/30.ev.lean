/-! pure pieces of bodies: they answer a value and leave the heap -/
abbrev rg (z : Int) : Prop := -2147483648 ≤ z ∧ z < 2147483648
abbrev iv (z : Int) : Value := .int (Int32.ofInt z)
noncomputable def r_z (p : Prop) : Int := @ite Int p (Classical.propDecidable p) 1 0
noncomputable def r_i (p : Prop) (x y : Int) : Int := @ite Int p (Classical.propDecidable p) x y
noncomputable abbrev r_b (p : Prop) : Value := .int (Int32.ofInt (r_z p))
theorem r_z1 {p : Prop} (h : p) : r_z p = 1 := by unfold r_z; rw [if_pos h]
theorem r_z0 {p : Prop} (h : ¬ p) : r_z p = 0 := by unfold r_z; rw [if_neg h]
theorem r_i1 {p : Prop} {x y : Int} (h : p) : r_i p x y = x := by unfold r_i; rw [if_pos h]
theorem r_i0 {p : Prop} {x y : Int} (h : ¬ p) : r_i p x y = y := by unfold r_i; rw [if_neg h]
theorem r_zd (p : Prop) : r_z p = 0 ∧ ¬ p ∨ r_z p = 1 ∧ p := by
  by_cases h : p
  · exact Or.inr ⟨r_z1 h, h⟩
  · exact Or.inl ⟨r_z0 h, h⟩
theorem r_id (p : Prop) (x y : Int) : r_i p x y = x ∧ p ∨ r_i p x y = y ∧ ¬ p := by
  by_cases h : p
  · exact Or.inl ⟨r_i1 h, h⟩
  · exact Or.inr ⟨r_i0 h, h⟩
theorem r_zne {p : Prop} : r_z p ≠ 0 ↔ p := by rcases r_zd p with ⟨a, b⟩ | ⟨a, b⟩ <;> rw [a] <;> simp [b]
theorem r_zeq0 {p : Prop} : r_z p = 0 ↔ ¬ p := by rcases r_zd p with ⟨a, b⟩ | ⟨a, b⟩ <;> rw [a] <;> simp [b]
theorem r_zeq1 {p : Prop} : r_z p = 1 ↔ p := by rcases r_zd p with ⟨a, b⟩ | ⟨a, b⟩ <;> rw [a] <;> simp [b]
theorem r_zrg (p : Prop) : rg (r_z p) := by rcases r_zd p with ⟨a, b⟩ | ⟨a, b⟩ <;> rw [a] <;> exact ⟨by decide, by decide⟩
theorem r_zc {p q : Prop} (h : p ↔ q) : r_z p = r_z q := by rw [propext h]
theorem r_bc {p q : Prop} (h : p ↔ q) : r_b p = r_b q := by rw [propext h]
theorem r_b1 {q : Prop} (h : q) : iv 1 = r_b q := by show iv 1 = iv (r_z q); rw [r_z1 h]
theorem r_b0 {q : Prop} (h : ¬ q) : iv 0 = r_b q := by show iv 0 = iv (r_z q); rw [r_z0 h]
def r_E (e : qE) (L : qL) (h : qH) (v : Value) : Prop := e L h = some (.inl v, h)
def r_B (B : qB) (L : qL) (h : qH) (p : Prop) : Prop := ∃ t : Bool, B L h = some (.inl t, h) ∧ (t = true ↔ p)
def r_A (as : qAs) (L : qL) (h : qH) (vs : List Value) : Prop := as L h = some (.inl vs, h)
def r_F (F : qF) (vs : List Value) (h : qH) (v : Value) : Prop := F vs h = some (.inl v, h)
def r_X (F : qF) (vs : List Value) (h : qH) (R : Value → qH → Prop) : Prop := ∃ v h2, F vs h = some (.inl v, h2) ∧ R v h2
def r_M (F : qF) (vs : List Value) (h : qH) (R : Value ⊕ Nat → qH → Prop) : Prop := ∃ r h2, F vs h = some (r, h2) ∧ R r h2
section REV
variable {L : qL} {h : qH} {e a b : qE} {B C D : qB} {v w x : Value} {p q r : Prop} {y z : Int}
theorem r_lit {n : Int32} (k : n = Int32.ofInt z) : r_E (q_eLit (.int n)) L h (iv z) := by subst k; rfl
theorem r_litr {n : Nat} : r_E (q_eLit (.ref n)) L h (.ref n) := rfl
theorem r_litl {n : Int64} : r_E (q_eLit (.long n)) L h (.long n) := rfl
theorem r_loc {t i : Nat} (k : L[i]? = some (some v)) (hi : q_is t v = true) : r_E (q_eLoc t i) L h v := by
  unfold r_E q_eLoc; rw [k]; dsimp only; rw [if_pos hi]
theorem r_h1 {G : qH → Value → Option Value} (ka : r_E a L h v) (g : G h v = some x) : r_E (q_eH1 G a) L h x := by
  unfold r_E at *; unfold q_eH1; rw [ka]; unfold q_bE; dsimp only; rw [g]
theorem r_h2 {G : qH → Value → Value → Option Value} (ka : r_E a L h v) (kb : r_E b L h w) (g : G h v w = some x) : r_E (q_eH2 G a b) L h x := by
  unfold r_E at *; unfold q_eH2; rw [ka]; unfold q_bE; dsimp only; rw [kb]; dsimp only; rw [g]
theorem r_add (ka : r_E a L h (iv y)) (kb : r_E b L h (iv z)) : r_E (q_eH2 (fun _ => q_iadd) a b) L h (iv (y + z)) := r_h2 ka kb (by show some _ = some (Value.int (Int32.ofInt (y + z))); rw [Int32.ofInt_add])
theorem r_sub (ka : r_E a L h (iv y)) (kb : r_E b L h (iv z)) : r_E (q_eH2 (fun _ => q_isub) a b) L h (iv (y - z)) := r_h2 ka kb (by show some _ = some (Value.int (Int32.ofInt (y - z))); rw [Int32.ofInt_sub])
theorem r_mul (ka : r_E a L h (iv y)) (kb : r_E b L h (iv z)) : r_E (q_eH2 (fun _ => q_imul) a b) L h (iv (y * z)) := r_h2 ka kb (by show some _ = some (Value.int (Int32.ofInt (y * z))); rw [Int32.ofInt_mul])
theorem r_neg (ka : r_E a L h (iv y)) : r_E (q_eH1 (fun _ => q_ineg) a) L h (iv (-y)) := r_h1 ka (by show some _ = some (Value.int (Int32.ofInt (-y))); rw [Int32.ofInt_neg])
theorem r_w2 {G : qH → Value → Value → Option Value} (ka : r_E a L h v) (kb : r_E b L h w) (g : w2 G h v w (fun u => u = x)) : r_E (q_eH2 G a b) L h x := by
  obtain ⟨u, g, rfl⟩ := g; exact r_h2 ka kb g
theorem r_w1 {G : qH → Value → Option Value} (ka : r_E a L h v) (g : w1 G h v (fun u => u = x)) : r_E (q_eH1 G a) L h x := by
  obtain ⟨u, g, rfl⟩ := g; exact r_h1 ka g
theorem r_div (ka : r_E a L h (iv y)) (kb : r_E b L h (iv z)) (h1 : rg y) (h2 : 0 ≤ y) (h3 : 0 < z) (h4 : z < 2147483648) : r_E (q_eH2 (fun _ => q_idiv) a b) L h (iv (y / z)) := r_w2 ka kb (w2_idiv h1 h2 h3 h4 rfl)
theorem r_rem (ka : r_E a L h (iv y)) (kb : r_E b L h (iv z)) (h1 : rg y) (h2 : 0 ≤ y) (h3 : 0 < z) (h4 : z < 2147483648) : r_E (q_eH2 (fun _ => q_irem) a b) L h (iv (y % z)) := r_w2 ka kb (w2_irem h1 h3 h4 (by rw [Int.tmod_eq_emod_of_nonneg h2]))
theorem r_i2l (ka : r_E a L h (iv y)) (h1 : rg y) : r_E (q_eH1 (fun _ => q_i2l) a) L h (.long (Int64.ofInt y)) := r_w1 ka (w1_i2l h1 rfl)
theorem r_ladd (ka : r_E a L h (.long (Int64.ofInt y))) (kb : r_E b L h (.long (Int64.ofInt z))) : r_E (q_eH2 (fun _ => q_ladd) a b) L h (.long (Int64.ofInt (y + z))) := r_h2 ka kb (by show some _ = some (Value.long (Int64.ofInt (y + z))); rw [Int64.ofInt_add])
theorem r_fld {t ci i : Nat} (ka : r_E a L h v) (g : q_gFld t ci i h v = some x) : r_E (q_eH1 (q_gFld t ci i) a) L h x := r_h1 ka g
theorem r_len {ty : FieldType} {n : Nat} {f} (ka : r_E a L h v) (g : q_arr h v = some (ty, n, f)) : r_E (q_eH1 q_gLen a) L h (iv n) := by
  refine r_h1 ka ?_
  unfold q_gLen; rw [g]
  rfl
theorem r_aget {ty : FieldType} {n : Nat} {g : Int → Int} (ga : q_arr h v = some (ty, n, .inl (fun z => Int32.ofInt (g (z : Nat))))) (ka : r_E a L h v) (kb : r_E b L h (iv y)) (h0 : 0 ≤ y) (h1 : y < n) (hn : n ≤ 2147483647) : r_E (q_eH2 (q_gI ty) a b) L h (iv (g y)) := r_w2 ka kb (w2_gI ga h0 h1 hn rfl)
def r_t1 (j : Int) : Int := if j = 0 then 1 else if j = 2 then -1 else 0
def r_t2 (j : Int) : Int := if j = 1 then 1 else if j = 3 then -1 else 0
def r_t3 (j : Int) : Int := if j = 1 then -1 else if j = 2 then -1 else 0
def r_t4 (j : Int) : Int := if j = 2 then -1 else if j = 3 then -1 else 0
def r_t5 (j : Int) : Int := if j = 0 then 119 else if j = 1 then 98 else if j = 2 then 116 else if j = 3 then 105 else 115
theorem r_ro1 (ka : r_E a L h (.ref 1)) (kb : r_E b L h (iv y)) (h0 : 0 ≤ y) (h1 : y < 4) : r_E (q_eH2 (q_gR q_rs .int) a b) L h (iv (r_t1 y)) := by
  refine r_h2 ka kb ?_
  rcases (show y = 0 ∨ y = 1 ∨ y = 2 ∨ y = 3 by omega) with rfl | rfl | rfl | rfl <;> rfl
theorem r_ro2 (ka : r_E a L h (.ref 2)) (kb : r_E b L h (iv y)) (h0 : 0 ≤ y) (h1 : y < 4) : r_E (q_eH2 (q_gR q_rs .int) a b) L h (iv (r_t2 y)) := by
  refine r_h2 ka kb ?_
  rcases (show y = 0 ∨ y = 1 ∨ y = 2 ∨ y = 3 by omega) with rfl | rfl | rfl | rfl <;> rfl
theorem r_ro5 (ka : r_E a L h (.ref 5)) (kb : r_E b L h (iv y)) (h0 : 0 ≤ y) (h1 : y < 5) : r_E (q_eH2 (q_gR q_rs .char) a b) L h (iv (r_t5 y)) := by
  refine r_h2 ka kb ?_
  rcases (show y = 0 ∨ y = 1 ∨ y = 2 ∨ y = 3 ∨ y = 4 by omega) with rfl | rfl | rfl | rfl | rfl <;> rfl
theorem r_bcp {t : Bool} (hB : B L h = some (.inl t, h)) (ht : t = true ↔ p) : r_B B L h p := ⟨t, hB, ht⟩
theorem r_if (hB : r_B B L h p) (ha : p → r_E a L h (iv y)) (hb : ¬ p → r_E b L h (iv z)) : r_E (q_eIf B a b) L h (iv (r_i p y z)) := by
  obtain ⟨t, e, ht⟩ := hB
  unfold r_E q_eIf; rw [e]; unfold q_bB; dsimp only
  by_cases hp : p
  · rw [if_pos (ht.mpr hp), r_i1 hp]; exact ha hp
  · rw [if_neg (fun c => hp (ht.mp c)), r_i0 hp]; exact hb hp
theorem r_ifv (hB : r_B B L h p) (ha : p → r_E a L h v) (hb : ¬ p → r_E b L h v) : r_E (q_eIf B a b) L h v := by
  obtain ⟨t, e, ht⟩ := hB
  unfold r_E q_eIf; rw [e]; unfold q_bB; dsimp only
  by_cases hp : p
  · rw [if_pos (ht.mpr hp)]; exact ha hp
  · rw [if_neg (fun c => hp (ht.mp c))]; exact hb hp
theorem r_if10 (hB : r_B B L h p) : r_E (q_eIf B (q_eLit (.int 1)) (q_eLit (.int 0))) L h (r_b p) := r_if hB (fun _ => r_lit ql_1) (fun _ => r_lit ql_0)
theorem r_nil : r_A q_aNil L h [] := rfl
theorem r_cons {as : qAs} {vs : List Value} (ke : r_E e L h v) (ka : r_A as L h vs) : r_A (q_aCons e as) L h (v :: vs) := by
  unfold r_A r_E at *; unfold q_aCons; rw [ke]; dsimp only; rw [ka]
theorem r_call {t : Nat} {ci : Option Nat} {F : qF} {as : qAs} {vs : List Value} (ka : r_A as L h vs) (ho : q_obj h vs ci = true) (hf : r_F F vs h v) (ht : q_is t v = true) : r_E (q_eCall t ci F as) L h v := by
  unfold r_E r_A r_F at *; unfold q_eCall; rw [ka]; dsimp only; rw [if_pos ho, hf]; dsimp only; rw [if_pos ht]
theorem r_c0 {op : Value → Option Bool} (ke : r_E e L h v) (k : wc0 op v (fun t => t = true ↔ p)) : r_B (q_cCmp0 op e) L h p := by
  obtain ⟨t, k1, k2⟩ := k
  exact ⟨t, q_cCmp0_e ke k1, k2⟩
theorem r_c2 {op : Value → Value → Option Bool} (ka : r_E a L h v) (kb : r_E b L h w) (k : wc op v w (fun t => t = true ↔ p)) : r_B (q_cCmp op a b) L h p := by
  obtain ⟨t, k1, k2⟩ := k
  exact ⟨t, q_cCmp_e ka kb k1, k2⟩
theorem r_tt (k : p) : true = true ↔ p := ⟨fun _ => k, fun _ => rfl⟩
theorem r_ff (k : ¬ p) : false = true ↔ p := ⟨fun c => (by cases c), fun c => absurd c k⟩
theorem r_lt (ka : r_E a L h (iv y)) (kb : r_E b L h (iv z)) (h1 : rg y) (h2 : rg z) : r_B (q_cCmp q_clt a b) L h (y < z) := r_c2 ka kb (wc_lt h1 h2 (fun c => r_tt c) (fun c => r_ff c))
theorem r_ge (ka : r_E a L h (iv y)) (kb : r_E b L h (iv z)) (h1 : rg y) (h2 : rg z) : r_B (q_cCmp q_cge a b) L h (z ≤ y) := r_c2 ka kb (wc_ge h1 h2 (fun c => r_tt c) (fun c => r_ff c))
theorem r_gt (ka : r_E a L h (iv y)) (kb : r_E b L h (iv z)) (h1 : rg y) (h2 : rg z) : r_B (q_cCmp q_cgt a b) L h (z < y) := r_c2 ka kb (wc_gt h1 h2 (fun c => r_tt c) (fun c => r_ff c))
theorem r_le (ka : r_E a L h (iv y)) (kb : r_E b L h (iv z)) (h1 : rg y) (h2 : rg z) : r_B (q_cCmp q_cle a b) L h (y ≤ z) := r_c2 ka kb (wc_le h1 h2 (fun c => r_tt c) (fun c => r_ff c))
theorem r_eq (ka : r_E a L h (iv y)) (kb : r_E b L h (iv z)) (h1 : rg y) (h2 : rg z) : r_B (q_cCmp q_ceq a b) L h (y = z) := r_c2 ka kb (wc_eq h1 h2 (fun c => r_tt c) (fun c => r_ff c))
theorem r_ne (ka : r_E a L h (iv y)) (kb : r_E b L h (iv z)) (h1 : rg y) (h2 : rg z) : r_B (q_cCmp q_cne a b) L h (¬ y = z) := r_c2 ka kb (wc_ne h1 h2 (fun c => r_tt c) (fun c => r_ff (fun d => d c)))
theorem r_z_lt (ka : r_E a L h (iv y)) (h1 : rg y) : r_B (q_cCmp0 q_zlt a) L h (y < 0) := r_c0 ka (wc0_lt h1 (fun c => r_tt c) (fun c => r_ff c))
theorem r_z_ge (ka : r_E a L h (iv y)) (h1 : rg y) : r_B (q_cCmp0 q_zge a) L h (0 ≤ y) := r_c0 ka (wc0_ge h1 (fun c => r_tt c) (fun c => r_ff c))
theorem r_z_gt (ka : r_E a L h (iv y)) (h1 : rg y) : r_B (q_cCmp0 q_zgt a) L h (0 < y) := r_c0 ka (wc0_gt h1 (fun c => r_tt c) (fun c => r_ff c))
theorem r_z_le (ka : r_E a L h (iv y)) (h1 : rg y) : r_B (q_cCmp0 q_zle a) L h (y ≤ 0) := r_c0 ka (wc0_le h1 (fun c => r_tt c) (fun c => r_ff c))
theorem r_z_eq (ka : r_E a L h (iv y)) (h1 : rg y) : r_B (q_cCmp0 q_zeq a) L h (y = 0) := r_c0 ka (wc0_eq h1 (fun c => r_tt c) (fun c => r_ff c))
theorem r_z_ne (ka : r_E a L h (iv y)) (h1 : rg y) : r_B (q_cCmp0 q_zne a) L h (¬ y = 0) := r_c0 ka (wc0_ne h1 (fun c => r_tt c) (fun c => r_ff (fun d => d c)))
theorem r_Bc (k : r_B B L h p) (c : p ↔ q) : r_B B L h q := by rw [← propext c]; exact k
theorem r_bz (k : r_E e L h (r_b p)) : r_B (q_cCmp0 q_zne e) L h p := r_Bc (r_z_ne k (r_zrg p)) r_zne
theorem r_be (k : r_E e L h (r_b p)) : r_B (q_cCmp0 q_zeq e) L h (¬ p) := r_Bc (r_z_eq k (r_zrg p)) r_zeq0
theorem r_and (k1 : r_B B L h p) (k2 : p → r_B C L h q) : r_B (q_cAnd B C) L h (p ∧ q) := by
  obtain ⟨t, e1, ht⟩ := k1
  unfold r_B q_cAnd; rw [e1]; unfold q_bB; dsimp only
  by_cases hp : p
  · obtain ⟨t2, e2, ht2⟩ := k2 hp
    refine ⟨t2, by rw [if_pos (ht.mpr hp)]; exact e2, ?_⟩
    rw [ht2]; exact ⟨fun c => ⟨hp, c⟩, fun c => c.2⟩
  · exact ⟨false, by rw [if_neg (fun c => hp (ht.mp c))], r_ff (fun c => hp c.1)⟩
theorem r_or (k1 : r_B B L h p) (k2 : ¬ p → r_B C L h q) : r_B (q_cOr B C) L h (p ∨ q) := by
  obtain ⟨t, e1, ht⟩ := k1
  unfold r_B q_cOr; rw [e1]; unfold q_bB; dsimp only
  by_cases hp : p
  · exact ⟨true, by rw [if_pos (ht.mpr hp)], r_tt (Or.inl hp)⟩
  · obtain ⟨t2, e2, ht2⟩ := k2 hp
    refine ⟨t2, by rw [if_neg (fun c => hp (ht.mp c))]; exact e2, ?_⟩
    rw [ht2]; exact ⟨Or.inr, fun c => c.resolve_left hp⟩
theorem r_not (k1 : r_B B L h p) : r_B (q_cNot B) L h (¬ p) := by
  obtain ⟨t, e1, ht⟩ := k1
  unfold r_B q_cNot; rw [e1]; unfold q_bB; dsimp only
  refine ⟨!t, rfl, ?_⟩
  rw [← ht]; cases t <;> simp
theorem r_cif (k1 : r_B D L h p) (k2 : p → r_B B L h q) (k3 : ¬ p → r_B C L h r) : r_B (q_cIf D B C) L h ((p → q) ∧ (¬ p → r)) := by
  obtain ⟨t, e1, ht⟩ := k1
  unfold r_B q_cIf; rw [e1]; unfold q_bB; dsimp only
  by_cases hp : p
  · obtain ⟨t2, e2, ht2⟩ := k2 hp
    refine ⟨t2, by rw [if_pos (ht.mpr hp)]; exact e2, ?_⟩
    rw [ht2]; exact ⟨fun c => ⟨fun _ => c, fun d => absurd hp d⟩, fun c => c.1 hp⟩
  · obtain ⟨t2, e2, ht2⟩ := k3 hp
    refine ⟨t2, by rw [if_neg (fun c => hp (ht.mp c))]; exact e2, ?_⟩
    rw [ht2]; exact ⟨fun c => ⟨fun d => absurd d hp, fun _ => c⟩, fun c => c.2 hp⟩
end REV
/-! statements -/
abbrev qQ : Type := Nat × Value → qL → qH → Prop
def r_sk (s2 : qS) (Q : qQ) : qQ := fun o L h => (o.1 = 0 → wS s2 L h Q) ∧ (o.1 ≠ 0 → Q o L h)
section RST
variable {L L2 : qL} {h h2 : qH} {e a b d : qE} {B C D : qB} {s s1 s2 : qS} {v w x : Value} {p q r : Prop} {y z : Int} {Q : qQ}
theorem r_seq (k : wS s1 L h (r_sk s2 Q)) : wS (q_sSeq s1 s2) L h Q := wS_seq k
theorem r_k0 (k : wS s2 L h Q) : r_sk s2 Q (0, v) L h := ⟨fun _ => k, fun c => absurd rfl c⟩
theorem r_ks {j : Nat} (k : Q (j + 1, v) L h) : r_sk s2 Q (j + 1, v) L h := ⟨fun c => absurd c (Nat.succ_ne_zero j), fun _ => k⟩
theorem r_E.W {QV : Value → qH → Prop} (k : r_E e L h v) (q : QV v h) : wE e L h QV := ⟨v, h, k, q⟩
theorem r_sloc {t i : Nat} (k : r_E e L h v) (hi : q_is t v = true) (hst : q_stL L i v = L2) (q : Q (0, .null) L2 h) : wS (q_sLoc t i e) L h Q := by
  subst hst; exact wS_loc (k.W ⟨hi, q⟩)
theorem r_sinc {i : Nat} {n : Int} (k : L[i]? = some (some (iv z))) (hst : q_stL L i (iv (z + n)) = L2) (q : Q (0, .null) L2 h) : wS (q_sInc i n) L h Q := by
  subst hst; exact wS_inc k q
theorem r_sput {G : qH → Value → Value → Option qH} (ka : r_E a L h v) (kb : r_E b L h w) (g : G h v w = some h2) (q : Q (0, .null) L h2) : wS (q_sH2 G a b) L h Q := wS_h2 (ka.W (kb.W ⟨h2, g, q⟩))
theorem r_sput3 {G : qH → Value → Value → Value → Option qH} (ka : r_E a L h v) (kb : r_E b L h w) (kd : r_E d L h x) (g : G h v w x = some h2) (q : Q (0, .null) L h2) : wS (q_sH3 G a b d) L h Q := wS_h3 (ka.W (kb.W (kd.W ⟨h2, g, q⟩)))
theorem r_sif (k : r_B B L h p) (k1 : p → wS s1 L h Q) (k2 : ¬ p → wS s2 L h Q) : wS (q_sIf B s1 s2) L h Q := by
  obtain ⟨t, e1, ht⟩ := k
  exact wS_if ⟨t, h, e1, fun c => k1 (ht.mp c), fun c => k2 (fun d => by rw [ht.mpr d] at c; cases c)⟩
theorem r_sret (k : r_E e L h v) (q : Q (4, v) L h) : wS (q_sRet e) L h Q := wS_ret (k.W q)
theorem r_spop (k : r_E e L h v) (q : Q (0, .null) L h) : wS (q_sPop e) L h Q := wS_pop (k.W q)
theorem r_sA1 {G1 : qH → Value → Option Value} {op : Value → Value → Option Value} {G2 : qH → Value → Value → Option qH} {u : Value} (ka : r_E a L h v) (g1 : G1 h v = some w) (kb : r_E b L h x) (g2 : op w x = some u) (g3 : G2 h v u = some h2) (q : Q (0, .null) L h2) : wS (q_sA1 G1 op G2 a b) L h Q :=
  wS_a1 (ka.W ⟨w, g1, kb.W ⟨u, g2, h2, g3, q⟩⟩)
theorem r_sA2 {G1 : qH → Value → Value → Option Value} {op : Value → Value → Option Value} {G2 : qH → Value → Value → Value → Option qH} {u w2 : Value} (ka : r_E a L h v) (kd : r_E d L h w) (g1 : G1 h v w = some w2) (kb : r_E b L h x) (g2 : op w2 x = some u) (g3 : G2 h v w u = some h2) (q : Q (0, .null) L h2) : wS (q_sA2 G1 op G2 a d b) L h Q :=
  wS_a2 (ka.W (kd.W ⟨w2, g1, kb.W ⟨u, g2, h2, g3, q⟩⟩))
theorem r_iadd : q_iadd (iv y) (iv z) = some (iv (y + z)) := by show some _ = some (Value.int (Int32.ofInt (y + z))); rw [Int32.ofInt_add]
theorem r_isub : q_isub (iv y) (iv z) = some (iv (y - z)) := by show some _ = some (Value.int (Int32.ofInt (y - z))); rw [Int32.ofInt_sub]
theorem r_ladd2 : q_ladd (.long (Int64.ofInt y)) (.long (Int64.ofInt z)) = some (.long (Int64.ofInt (y + z))) := by show some _ = some (Value.long (Int64.ofInt (y + z))); rw [Int64.ofInt_add]
theorem r_getI {ty : FieldType} {n : Nat} {g : Int → Int} (ga : q_arr h v = some (ty, n, .inl (fun z => Int32.ofInt (g (z : Nat))))) (h0 : 0 ≤ y) (h1 : y < n) (hn : n ≤ 2147483647) : q_gI ty h v (iv y) = some (iv (g y)) := by
  obtain ⟨u, g, rfl⟩ := w2_gI (Q := fun u => u = iv (g y)) ga h0 h1 hn rfl; exact g
theorem r_putI {ty : FieldType} {n : Nat} {g : Int → Int} (ga : q_arr h v = some (ty, n, .inl (fun z => Int32.ofInt (g (z : Nat))))) (gs : q_setA h v (ty, n, .inl (fun u => Int32.ofInt (q_up g y z (u : Nat)))) = h2) (h0 : 0 ≤ y) (h1 : y < n) (hn : n ≤ 2147483647) (hy : vp_nar ty (Int32.ofInt z) = Int32.ofInt z) : q_pI ty h v (iv y) (iv z) = some h2 := by
  rw [q_pI_e ga h0 h1 hn hy, gs]
theorem r_call0 {ci : Option Nat} {F : qF} {as : qAs} {vs : List Value} {R : Value → qH → Prop} (ka : r_A as L h vs) (ho : q_obj h vs ci = true) (hx : r_X F vs h R) (k : ∀ v h2, R v h2 → Q (0, .null) L h2) : wS (q_sCall ci F as) L h Q := by
  obtain ⟨v, h2, e, r⟩ := hx
  exact wS_call ⟨vs, h, ka, ho, v, h2, e, k v h2 r⟩
theorem r_callF {ci : Option Nat} {F : qF} {as : qAs} {vs : List Value} (ka : r_A as L h vs) (ho : q_obj h vs ci = true) (hx : r_F F vs h v) (k : Q (0, .null) L h) : wS (q_sCall ci F as) L h Q :=
  wS_call ⟨vs, h, ka, ho, v, h, hx, k⟩
theorem r_callX {ci : Option Nat} {F : qF} {as : qAs} {vs : List Value} {n : Nat} (ka : r_A as L h vs) (ho : q_obj h vs ci = true) (hx : F vs h = some (.inr n, h2)) (k : Q (n + 5, .null) L h2) : wS (q_sCall ci F as) L h Q :=
  wS_callX ⟨vs, h, ka, ho, n, h2, hx, k⟩
/-- an expression that is a call with an effect -/
def r_C (e : qE) (L : qL) (h : qH) (R : Value → qH → Prop) : Prop := ∃ v h2, e L h = some (.inl v, h2) ∧ R v h2
theorem r_callC {t : Nat} {ci : Option Nat} {F : qF} {as : qAs} {vs : List Value} {R : Value → qH → Prop} (ka : r_A as L h vs) (ho : q_obj h vs ci = true) (hx : r_X F vs h R) (ht : ∀ v h2, R v h2 → q_is t v = true) : r_C (q_eCall t ci F as) L h R := by
  obtain ⟨v, h2, e, r⟩ := hx
  obtain ⟨v, h2, k1, k2⟩ := wE_call (t := t) (ci := ci) (F := F) (as := as) (L := L) (h := h) (Q := R) ⟨vs, h, ka, ho, v, h2, e, ht v h2 r, r⟩
  exact ⟨v, h2, k1, k2⟩
theorem r_slocC {t i : Nat} {R : Value → qH → Prop} (k : r_C e L h R) (q : ∀ v h2, R v h2 → q_is t v = true ∧ Q (0, .null) (q_stL L i v) h2) : wS (q_sLoc t i e) L h Q := by
  obtain ⟨v, h2, e, r⟩ := k
  exact wS_loc ⟨v, h2, e, q v h2 r⟩
theorem r_sretC {R : Value → qH → Prop} (k : r_C e L h R) (q : ∀ v h2, R v h2 → Q (4, v) L h2) : wS (q_sRet e) L h Q := by
  obtain ⟨v, h2, e, r⟩ := k
  exact wS_ret ⟨v, h2, e, q v h2 r⟩
theorem r_spopC {R : Value → qH → Prop} (k : r_C e L h R) (q : ∀ v h2, R v h2 → Q (0, .null) L h2) : wS (q_sPop e) L h Q := by
  obtain ⟨v, h2, e, r⟩ := k
  exact wS_pop ⟨v, h2, e, q v h2 r⟩
theorem r_spAC {G : qH → Value → Value → Option qH} {R : Value → qH → Prop} (ka : r_E a L h v) (kb : r_C b L h R) (q : ∀ w h2, R w h2 → ∃ h3, G h2 v w = some h3 ∧ Q (0, .null) L h3) : wS (q_sH2 G a b) L h Q := by
  obtain ⟨w, h2, e, r⟩ := kb
  exact wS_h2 (ka.W ⟨w, h2, e, q w h2 r⟩)
/-- a condition that is a call with an effect -/
theorem r_sifC {R : Value → qH → Prop} (k : r_C e L h R) (k1 : ∀ v h2, R v h2 → ∃ z, v = iv z ∧ rg z ∧ (¬ z = 0 → wS s1 L h2 Q) ∧ (z = 0 → wS s2 L h2 Q)) : wS (q_sIf (q_cCmp0 q_zne e) s1 s2) L h Q := by
  obtain ⟨v, h2, e, r⟩ := k
  obtain ⟨z, rfl, hz, q1, q2⟩ := k1 v h2 r
  refine wS_if (wB_cmp0 ⟨_, h2, e, wc0_ne hz (fun c => ⟨fun _ => q1 c, fun d => by cases d⟩) (fun c => ⟨fun d => (by cases d), fun _ => q2 c⟩)⟩)
theorem r_sifAC {R : Value → qH → Prop} (k0 : r_B B L h p) (k : p → r_C e L h R) (k1 : p → ∀ v h2, R v h2 → ∃ z, v = iv z ∧ rg z ∧ (¬ z = 0 → wS s1 L h2 Q) ∧ (z = 0 → wS s2 L h2 Q)) (k2 : ¬ p → wS s2 L h Q) : wS (q_sIf (q_cAnd B (q_cCmp0 q_zne e)) s1 s2) L h Q := by
  obtain ⟨t, e1, ht⟩ := k0
  refine wS_if (wB_and ⟨t, h, e1, fun c => ?_, fun c => ⟨fun d => (by cases d), fun _ => k2 (fun d => by rw [ht.mpr d] at c; cases c)⟩⟩)
  have hp := ht.mp c
  obtain ⟨v, h2, e, r⟩ := k hp
  obtain ⟨z, rfl, hz, q1, q2⟩ := k1 hp v h2 r
  exact wB_cmp0 ⟨_, h2, e, wc0_ne hz (fun c => ⟨fun _ => q1 c, fun d => by cases d⟩) (fun c => ⟨fun d => (by cases d), fun _ => q2 c⟩)⟩
/-! a loop over a ghost state -/
def r_en {T : Type} (P : T → Prop) (μ : T → Nat) (Lf : T → qL) (hf : T → qH) (σ : T) : qQ := fun o L h => o.1 = 0 ∧ ∃ σ', L = Lf σ' ∧ h = hf σ' ∧ P σ' ∧ μ σ' < μ σ
def r_lk {T : Type} (s1 : qS) (P : T → Prop) (μ : T → Nat) (Lf : T → qL) (hf : T → qH) (σ : T) (Q : qQ) : qQ := fun o L h => ((o.1 = 0 ∨ o.1 = 2) → wS s1 L h (r_en P μ Lf hf σ)) ∧ (o.1 = 1 → Q (0, .null) L h) ∧ (3 ≤ o.1 → Q o L h)
theorem r_l0 {T : Type} {P : T → Prop} {μ : T → Nat} {Lf : T → qL} {hf : T → qH} {σ : T} (k : wS s1 L h (r_en P μ Lf hf σ)) : r_lk s1 P μ Lf hf σ Q (0, v) L h := ⟨fun _ => k, fun c => (by cases c), fun c => absurd c (by omega)⟩
theorem r_l2 {T : Type} {P : T → Prop} {μ : T → Nat} {Lf : T → qL} {hf : T → qH} {σ : T} (k : wS s1 L h (r_en P μ Lf hf σ)) : r_lk s1 P μ Lf hf σ Q (2, v) L h := ⟨fun _ => k, fun c => (by cases c), fun c => absurd c (by omega)⟩
theorem r_l1 {T : Type} {P : T → Prop} {μ : T → Nat} {Lf : T → qL} {hf : T → qH} {σ : T} (k : Q (0, .null) L h) : r_lk s1 P μ Lf hf σ Q (1, v) L h := ⟨fun c => absurd c (show ¬ ((1 : Nat) = 0 ∨ (1 : Nat) = 2) by decide), fun _ => k, fun c => absurd c (show ¬ 3 ≤ (1 : Nat) by decide)⟩
theorem r_l3 {T : Type} {P : T → Prop} {μ : T → Nat} {Lf : T → qL} {hf : T → qH} {σ : T} {j : Nat} (k : Q (j + 3, v) L h) : r_lk s1 P μ Lf hf σ Q (j + 3, v) L h := ⟨fun c => absurd c (show ¬ (j + 3 = 0 ∨ j + 3 = 2) by omega), fun c => absurd c (show ¬ j + 3 = 1 by omega), fun _ => k⟩
theorem r_lend {T : Type} {P : T → Prop} {μ : T → Nat} {Lf : T → qL} {hf : T → qH} {σ : T} (σ' : T) (e1 : L = Lf σ') (e2 : h = hf σ') (k : P σ') (m : μ σ' < μ σ) : r_en P μ Lf hf σ (0, v) L h := ⟨rfl, σ', e1, e2, k, m⟩
theorem r_loop0 {T : Type} (P : T → Prop) (μ : T → Nat) (Lf : T → qL) (hf : T → qH) (body : ∀ σ, P σ → ∃ p, r_B B (Lf σ) (hf σ) p ∧ (¬ p → Q (0, .null) (Lf σ) (hf σ)) ∧ (p → wS s (Lf σ) (hf σ) (r_lk s1 P μ Lf hf σ Q))) : ∀ (f : Nat) (σ : T), P σ → μ σ < f → wS (q_sLoop f B s s1) (Lf σ) (hf σ) Q
  | 0, σ, _, hm => absurd hm (Nat.not_lt_zero _)
  | f + 1, σ, hP, hm => by
    obtain ⟨p, ⟨t, e1, ht⟩, k0, k1⟩ := body σ hP
    cases t with
    | false => exact ⟨_, Lf σ, hf σ, by unfold q_sLoop; rw [e1], k0 (fun c => by cases ht.mpr c)⟩
    | true =>
      obtain ⟨⟨j, v⟩, L2, h2, e2, k3, k4, k5⟩ := k1 (ht.mp rfl)
      have goOn : (j = 0 ∨ j = 2) → ∃ o L' h', q_sSeq s1 (q_sLoop f B s s1) L2 h2 = some (o, L', h') ∧ Q o L' h' := by
        intro hj
        obtain ⟨⟨j3, v3⟩, L3, h3, e3, ej, σ', rfl, rfl, hP', hm'⟩ := k3 hj
        have ej : j3 = 0 := ej
        subst ej
        obtain ⟨o, L', h', e4, q⟩ := r_loop0 P μ Lf hf body f σ' hP' (by omega)
        exact ⟨o, L', h', by rw [q_sSeq_e e3]; exact e4, q⟩
      match j, e2, k4, k5, goOn with
      | 0, e2, _, _, goOn =>
        obtain ⟨o, L', h', e4, q⟩ := goOn (Or.inl rfl)
        exact ⟨o, L', h', by unfold q_sLoop; rw [e1]; dsimp only; rw [e2]; exact e4, q⟩
      | 1, e2, k4, _, _ => exact ⟨_, L2, h2, by unfold q_sLoop; rw [e1]; dsimp only; rw [e2], k4 rfl⟩
      | 2, e2, _, _, goOn =>
        obtain ⟨o, L', h', e4, q⟩ := goOn (Or.inr rfl)
        exact ⟨o, L', h', by unfold q_sLoop; rw [e1]; dsimp only; rw [e2]; exact e4, q⟩
      | j + 3, e2, _, k5, _ => exact ⟨_, L2, h2, by unfold q_sLoop; rw [e1]; dsimp only; rw [e2], k5 (Nat.le_add_left 3 j)⟩
theorem r_loop {T : Type} (P : T → Prop) (μ : T → Nat) (Lf : T → qL) (hf : T → qH) (σ0 : T) (hL : L = Lf σ0) (hh : h = hf σ0) (h0 : P σ0) (hm : μ σ0 < q_fuel) (body : ∀ σ, P σ → ∃ p, r_B B (Lf σ) (hf σ) p ∧ (¬ p → Q (0, .null) (Lf σ) (hf σ)) ∧ (p → wS s (Lf σ) (hf σ) (r_lk s1 P μ Lf hf σ Q))) : wS (q_sLoop q_fuel B s s1) L h Q := by
  subst hL hh; exact r_loop0 P μ Lf hf body _ σ0 h0 hm
/-! the method -/
def r_po (rt : Option FieldType) (h0 : qH) (R : Value ⊕ Nat → qH → Prop) : qQ := fun o _ h2 => ∃ r, q_chk h0 (q_run0 rt (some (o, [], h2))) = some (r, h2) ∧ R r h2
theorem r_run {body : qS} {maxL : Nat} {rt : Option FieldType} {vs : List Value} {R : Value ⊕ Nat → qH → Prop} (hc : (vs.all fun v => v.category == 1) = true ∧ vs.length ≤ maxL) (hL : vs.map some ++ List.replicate (maxL - vs.length) none = L) (k : wS body L h (r_po rt h R)) : r_M (q_run body maxL rt) vs h R := by
  subst hL
  obtain ⟨o, L', h2, e, r, k1, k2⟩ := k
  refine ⟨r, h2, q_run_w (r := r) (h' := h2) hc ⟨o, L', h2, e, k1⟩, k2⟩
theorem r_pret {ty : FieldType} {h0 : qH} {R : Value ⊕ Nat → qH → Prop} (hf : q_fit ty v = true) (hle : h0.2.1 ≤ h.2.1 ∧ h0.2.2 ≤ h.2.2) (k : R (.inl v) h) : r_po (some ty) h0 R (4, v) L h := ⟨_, q_finV hf hle rfl, k⟩
theorem r_pretv {h0 : qH} {R : Value ⊕ Nat → qH → Prop} (hle : h0.2.1 ≤ h.2.1 ∧ h0.2.2 ≤ h.2.2) (k : R (.inl .null) h) : r_po none h0 R (3, v) L h := ⟨_, q_fin0 hle, k⟩
theorem r_pthr {rt : Option FieldType} {h0 : qH} {R : Value ⊕ Nat → qH → Prop} {n : Nat} (hle : h0.2.1 ≤ h.2.1 ∧ h0.2.2 ≤ h.2.2) (k : R (.inr n) h) : r_po rt h0 R (n + 5, v) L h := ⟨_, q_finX hle, k⟩
theorem r_Fof {F : qF} {vs : List Value} (k : r_M F vs h (fun r h2 => r = .inl v ∧ h2 = h)) : r_F F vs h v := by
  obtain ⟨r, h2, e, rfl, rfl⟩ := k; exact e
theorem r_Xof {F : qF} {vs : List Value} {R : Value → qH → Prop} (k : r_M F vs h (fun r h2 => ∃ v, r = .inl v ∧ R v h2)) : r_X F vs h R := by
  obtain ⟨r, h2, e, v, rfl, k⟩ := k; exact ⟨v, h2, e, k⟩
theorem r_fitb (p : Prop) : q_fit .boolean (r_b p) = true := by
  rcases r_zd p with ⟨a, _⟩ | ⟨a, _⟩ <;> (unfold r_b; rw [a]; decide +kernel)
theorem r_le0 : h.2.1 ≤ h.2.1 ∧ h.2.2 ≤ h.2.2 := ⟨Nat.le_refl _, Nat.le_refl _⟩
theorem r_fit0 : q_fit .boolean (iv 0) = true := by decide +kernel
theorem r_fit1 : q_fit .boolean (iv 1) = true := by decide +kernel
theorem r_callT {ci : Option Nat} {F : qF} {as : qAs} {vs : List Value} {n : Nat} (ka : r_A as L h vs) (ho : q_obj h vs ci = true) (hx : (p → r_F F vs h v) ∧ (¬ p → F vs h = some (.inr n, h2))) (k1 : p → Q (0, .null) L h) (k2 : ¬ p → Q (n + 5, .null) L h2) : wS (q_sCall ci F as) L h Q := by
  by_cases hp : p
  · exact r_callF ka ho (hx.1 hp) (k1 hp)
  · exact r_callX ka ho (hx.2 hp) (k2 hp)
theorem r_Tof {F : qF} {vs : List Value} {n : Nat} (k : r_M F vs h (fun r h3 => (p ∧ r = .inl v ∧ h3 = h) ∨ (¬ p ∧ r = .inr n ∧ h3 = h2))) : (p → r_F F vs h v) ∧ (¬ p → F vs h = some (.inr n, h2)) := by
  obtain ⟨r, h3, e, ⟨a, rfl, rfl⟩ | ⟨a, rfl, rfl⟩⟩ := k
  · exact ⟨fun _ => e, fun c => absurd a c⟩
  · exact ⟨fun c => absurd c a, fun _ => e⟩
theorem r_i2c {e : qE} {y : Int} (ka : r_E e L h (iv y)) (h1 : rg y) : r_E (q_eH1 (fun _ => q_i2c) e) L h (iv (y % 65536)) := by
  refine r_h1 ka ?_
  show some _ = some _
  congr 2
  apply Int32.toBitVec_inj.mp
  apply BitVec.eq_of_toNat_eq
  show ((BitVec.ofInt 32 y) % 65536#32).toNat = (BitVec.ofInt 32 (y % 65536)).toNat
  rw [BitVec.toNat_umod, BitVec.toNat_ofInt, BitVec.toNat_ofInt]
  show (y % 4294967296).toNat % 65536 = (y % 65536 % 4294967296).toNat
  omega
theorem r_iandk {e : qE} {y : Int} (n : Nat) (hn : n < 32) {m : Int32} (hm : m = Int32.ofInt (2 ^ n - 1 : Nat)) (ka : r_E e L h (iv y)) (h1 : rg y) : r_E (q_eH2 (fun _ => q_iand) e (q_eLit (.int m))) L h (iv (y % (2 ^ n : Nat))) := by
  refine r_h2 ka (r_lit hm) ?_
  show some _ = some _
  congr 2
  apply Int32.toBitVec_inj.mp
  apply BitVec.eq_of_toNat_eq
  show ((BitVec.ofInt 32 y) &&& (BitVec.ofInt 32 (2 ^ n - 1 : Nat))).toNat = (BitVec.ofInt 32 (y % (2 ^ n : Nat))).toNat
  have hp : 2 ^ n < 2 ^ 32 := Nat.pow_lt_pow_right (by decide) hn
  have hp1 : 0 < 2 ^ n := Nat.two_pow_pos n
  have hd : 2 ^ n ∣ 2 ^ 32 := Nat.pow_dvd_pow 2 (by omega)
  rw [BitVec.toNat_and, BitVec.toNat_ofInt, BitVec.toNat_ofInt, BitVec.toNat_ofInt]
  have e1 : (((2 ^ n - 1 : Nat) : Int) % (2 ^ 32 : Nat)).toNat = 2 ^ n - 1 := by omega
  rw [e1, Nat.and_two_pow_sub_one_eq_mod]
  have e2 : ((y % (2 ^ 32 : Nat)).toNat % 2 ^ n : Nat) = (((y % (2 ^ 32 : Nat)) % (2 ^ n : Nat) : Int)).toNat := by
    have h0 : 0 ≤ y % (2 ^ 32 : Nat) := Int.emod_nonneg _ (by decide)
    obtain ⟨u, hu⟩ := Int.eq_ofNat_of_zero_le h0
    rw [hu]; rfl
  rw [e2, Int.emod_emod_of_dvd _ (Int.natCast_dvd_natCast.mpr hd)]
  have h3 : 0 ≤ y % (2 ^ n : Nat) := Int.emod_nonneg _ (by omega)
  have h4 : y % (2 ^ n : Nat) < (2 ^ n : Nat) := Int.emod_lt_of_pos _ (by omega)
  omega
theorem r_iand3 {e : qE} {y : Int} (ka : r_E e L h (iv y)) (h1 : rg y) : r_E (q_eH2 (fun _ => q_iand) e (q_eLit (.int 3))) L h (iv (y % 4)) := r_iandk 2 (by decide) (by decide) ka h1
theorem r_iand63 {e : qE} {y : Int} (ka : r_E e L h (iv y)) (h1 : rg y) : r_E (q_eH2 (fun _ => q_iand) e (q_eLit (.int 63))) L h (iv (y % 64)) := r_iandk 6 (by decide) (by decide) ka h1
/-! switch -/
def r_sw (Q : qQ) : qQ := fun o L h => (o.1 = 1 → Q (0, .null) L h) ∧ (o.1 ≠ 1 → Q o L h)
theorem r_ssw {cs : List (Int × qS)} {d : qS} (k : r_E e L h (iv z)) (hz : rg z) (q : wS (q_pick cs d z) L h (r_sw Q)) : wS (q_sSw e cs d) L h Q := by
  obtain ⟨⟨j, v⟩, L2, h2, e2, k1, k2⟩ := q
  have hz2 : (Int32.ofInt z).toInt = z := q_toI hz
  by_cases hj : j = 1
  · subst hj
    exact ⟨_, L2, h2, by unfold q_sSw; rw [k]; unfold q_bS; dsimp only; rw [hz2, e2]; rfl, k1 rfl⟩
  · refine ⟨(j, v), L2, h2, ?_, k2 hj⟩
    unfold q_sSw; rw [k]; unfold q_bS; dsimp only; rw [hz2, e2]
    match j, hj with
    | 0, _ => rfl
    | 1, hj => exact absurd rfl hj
    | j + 2, _ => rfl
theorem r_pkc {cs : List (Int × qS)} {d s : qS} {k : Int} (k1 : z = k → wS s L h Q) (k2 : ¬ z = k → wS (q_pick cs d z) L h Q) : wS (q_pick ((k, s) :: cs) d z) L h Q := by
  unfold q_pick
  by_cases hz : z = k
  · rw [if_pos hz]; exact k1 hz
  · rw [if_neg hz]; exact k2 hz
theorem r_pkn {d : qS} (k : wS d L h Q) : wS (q_pick [] d z) L h Q := k
theorem r_wb (k : Q (0, .null) L h) : r_sw Q (1, v) L h := ⟨fun _ => k, fun c => absurd rfl c⟩
theorem r_wn (k : Q (0, v) L h) : r_sw Q (0, v) L h := ⟨fun c => absurd c (show ¬ (0 : Nat) = 1 by decide), fun _ => k⟩
theorem r_ws {j : Nat} (k : Q (j + 2, v) L h) : r_sw Q (j + 2, v) L h := ⟨fun c => absurd c (by show ¬ j + 2 = 1; omega), fun _ => k⟩
/-! calls with an effect that is known -/
def r_G (F : qF) (vs : List Value) (h : qH) (v : Value) (h2 : qH) : Prop := F vs h = some (.inl v, h2)
def r_K (e : qE) (L : qL) (h : qH) (v : Value) (h2 : qH) : Prop := e L h = some (.inl v, h2)
def r_D (B : qB) (L : qL) (h : qH) (p : Prop) (h2 : qH) : Prop := ∃ t : Bool, B L h = some (.inl t, h2) ∧ (t = true ↔ p)
theorem r_Gof {F : qF} {vs : List Value} (k : r_M F vs h (fun r h3 => r = .inl v ∧ h3 = h2)) : r_G F vs h v h2 := by
  obtain ⟨r, h3, e, rfl, rfl⟩ := k; exact e
theorem r_callG {t : Nat} {ci : Option Nat} {F : qF} {as : qAs} {vs : List Value} (ka : r_A as L h vs) (ho : q_obj h vs ci = true) (hf : r_G F vs h v h2) (ht : q_is t v = true) : r_K (q_eCall t ci F as) L h v h2 := by
  unfold r_A r_G at *; unfold r_K q_eCall; rw [ka]; dsimp only; rw [if_pos ho, hf]; dsimp only; rw [if_pos ht]
theorem r_Dz (k : r_K e L h (r_b p) h2) : r_D (q_cCmp0 q_zne e) L h p h2 := by
  obtain ⟨t, k1, k2⟩ := wc0_ne (QB := fun t => t = true ↔ p) (r_zrg p) (fun c => r_tt (r_zne.mp c)) (fun c => r_ff (r_zeq0.mp c))
  exact ⟨t, q_cCmp0_e k k1, k2⟩
theorem r_Dn (k : r_D B L h p h2) : r_D (q_cNot B) L h (¬ p) h2 := by
  obtain ⟨t, e1, ht⟩ := k
  unfold r_D q_cNot; rw [e1]; unfold q_bB; dsimp only
  refine ⟨!t, rfl, ?_⟩
  rw [← ht]; cases t <;> simp
theorem r_sifD (k : r_D B L h p h2) (k1 : p → wS s1 L h2 Q) (k2 : ¬ p → wS s2 L h2 Q) : wS (q_sIf B s1 s2) L h Q := by
  obtain ⟨t, e1, ht⟩ := k
  exact wS_if ⟨t, h2, e1, fun c => k1 (ht.mp c), fun c => k2 (fun d => by rw [ht.mpr d] at c; cases c)⟩
theorem r_sretD (k : r_D B L h p h2) (k1 : p → wS (q_sRet a) L h2 Q) (k2 : ¬ p → wS (q_sRet b) L h2 Q) : wS (q_sRet (q_eIf B a b)) L h Q := by
  obtain ⟨t, e1, ht⟩ := k
  by_cases hp : p
  · obtain ⟨o, L', h', e2, q⟩ := k1 hp
    refine ⟨o, L', h', ?_, q⟩
    rw [← e2]
    unfold q_sRet q_eIf
    simp only [e1, q_bB, ht.mpr hp, if_true]
  · obtain ⟨o, L', h', e2, q⟩ := k2 hp
    refine ⟨o, L', h', ?_, q⟩
    have ht2 : t = false := by cases t with
      | false => rfl
      | true => exact absurd (ht.mp rfl) hp
    rw [← e2]
    unfold q_sRet q_eIf
    simp only [e1, q_bB, ht2, Bool.false_eq_true, if_false]
/-- the same value by either way -/
theorem r_sretI (k : r_B B L h p) (k1 : p → wS (q_sRet a) L h Q) (k2 : ¬ p → wS (q_sRet b) L h Q) : wS (q_sRet (q_eIf B a b)) L h Q := r_sretD k k1 k2
theorem r_slocG {t i : Nat} (k : r_K e L h v h2) (hi : q_is t v = true) (hst : q_stL L i v = L2) (q : Q (0, .null) L2 h2) : wS (q_sLoc t i e) L h Q := by
  subst hst; exact wS_loc ⟨v, h2, k, hi, q⟩
theorem r_sretG (k : r_K e L h v h2) (q : Q (4, v) L h2) : wS (q_sRet e) L h Q := wS_ret ⟨v, h2, k, q⟩
theorem r_scallG {ci : Option Nat} {F : qF} {as : qAs} {vs : List Value} (ka : r_A as L h vs) (ho : q_obj h vs ci = true) (hx : r_G F vs h v h2) (k : Q (0, .null) L h2) : wS (q_sCall ci F as) L h Q :=
  wS_call ⟨vs, h, ka, ho, v, h2, hx, k⟩
end RST
/-! what a state keeps -/
def r_ok (S : q_Sg) : Prop := (∀ k, rg (S.1 k)) ∧ (∀ k j, rg (S.2.1 k j))
theorem r_okI {S : q_Sg} {k : Nat} {v : Int} (hS : r_ok S) (hv : rg v) : r_ok (q_sI S k v) :=
  ⟨fun j => by show rg (if j = k then v else S.1 j); split; exact hv; exact hS.1 j, hS.2⟩
theorem r_okA {S : q_Sg} {k : Nat} {g : Int → Int} (hS : r_ok S) (hg : ∀ j, rg (g j)) : r_ok (q_sA S k g) :=
  ⟨hS.1, fun i j => by show rg ((if i = k then g else S.2.1 i) j); split; exact hg j; exact hS.2 i j⟩
theorem r_okJ {S : q_Sg} {k : Nat} {v : Int} (hS : r_ok S) : r_ok (q_sJ S k v) := hS
theorem r_okD {S : q_Sg} {v : List qC} (hS : r_ok S) : r_ok (q_sD S v) := hS
theorem r_oku {g : Int → Int} {i v : Int} (hg : ∀ j, rg (g j)) (hv : rg v) : ∀ j, rg (q_up g i v j) := fun j => by unfold q_up; split; exact hv; exact hg j
def r_fr (Is As Js : List Nat) (S T : q_Sg) : Prop := (∀ k, k ∉ Is → T.1 k = S.1 k) ∧ (∀ k, k ∉ As → T.2.1 k = S.2.1 k) ∧ (∀ k, k ∉ Js → T.2.2.1 k = S.2.2.1 k) ∧ T.2.2.2 = S.2.2.2
theorem r_fr0 {S : q_Sg} : r_fr [] [] [] S S := ⟨fun _ _ => rfl, fun _ _ => rfl, fun _ _ => rfl, rfl⟩
theorem r_frI {Is As Js : List Nat} {S T : q_Sg} {k : Nat} {v : Int} (h : r_fr Is As Js S T) : r_fr (k :: Is) As Js S (q_sI T k v) :=
  ⟨fun j hj => by
    rw [List.mem_cons, not_or] at hj
    show (if j = k then v else T.1 j) = _
    rw [if_neg hj.1]; exact h.1 j hj.2, h.2⟩
theorem r_frA {Is As Js : List Nat} {S T : q_Sg} {k : Nat} {g : Int → Int} (h : r_fr Is As Js S T) : r_fr Is (k :: As) Js S (q_sA T k g) :=
  ⟨h.1, fun j hj => by
    rw [List.mem_cons, not_or] at hj
    show (if j = k then g else T.2.1 j) = _
    rw [if_neg hj.1]; exact h.2.1 j hj.2, h.2.2⟩
theorem r_frJ {Is As Js : List Nat} {S T : q_Sg} {k : Nat} {v : Int} (h : r_fr Is As Js S T) : r_fr Is As (k :: Js) S (q_sJ T k v) :=
  ⟨h.1, h.2.1, fun j hj => by
    rw [List.mem_cons, not_or] at hj
    show (if j = k then v else T.2.2.1 j) = _
    rw [if_neg hj.1]; exact h.2.2.1 j hj.2, h.2.2.2⟩
theorem r_frm {Is As Js Is' As' Js' : List Nat} {S T : q_Sg} (h : r_fr Is As Js S T) (h1 : Is ⊆ Is') (h2 : As ⊆ As') (h3 : Js ⊆ Js') : r_fr Is' As' Js' S T :=
  ⟨fun k hk => h.1 k (fun c => hk (h1 c)), fun k hk => h.2.1 k (fun c => hk (h2 c)), fun k hk => h.2.2.1 k (fun c => hk (h3 c)), h.2.2.2⟩
theorem r_frt {Is As Js Is' As' Js' : List Nat} {S T U : q_Sg} (h : r_fr Is As Js S T) (h' : r_fr Is' As' Js' T U) : r_fr (Is ++ Is') (As ++ As') (Js ++ Js') S U :=
  ⟨fun k hk => by rw [List.mem_append, not_or] at hk; rw [h'.1 k hk.2, h.1 k hk.1], fun k hk => by rw [List.mem_append, not_or] at hk; rw [h'.2.1 k hk.2, h.2.1 k hk.1], fun k hk => by rw [List.mem_append, not_or] at hk; rw [h'.2.2.1 k hk.2, h.2.2.1 k hk.1], by rw [h'.2.2.2, h.2.2.2]⟩
theorem q_sAA {S : q_Sg} {k : Nat} {g g2 : Int → Int} : q_sA (q_sA S k g) k g2 = q_sA S k g2 := by
  unfold q_sA; dsimp only
  refine Prod.ext rfl (Prod.ext (funext fun j => ?_) rfl)
  dsimp only
  split <;> rfl
theorem q_sII {S : q_Sg} {k : Nat} {v v2 : Int} : q_sI (q_sI S k v) k v2 = q_sI S k v2 := by
  unfold q_sI; dsimp only
  refine Prod.ext (funext fun j => ?_) rfl
  dsimp only
  split <;> rfl
theorem q_sAs {S : q_Sg} {k : Nat} : q_sA S k (S.2.1 k) = S := by
  unfold q_sA
  refine Prod.ext rfl (Prod.ext (funext fun j => ?_) rfl)
  dsimp only
  split
  · rename_i e; rw [e]
  · rfl
theorem q_sIs {S : q_Sg} {k : Nat} : q_sI S k (S.1 k) = S := by
  unfold q_sI
  refine Prod.ext (funext fun j => ?_) rfl
  dsimp only
  split
  · rename_i e; rw [e]
  · rfl
theorem q_sJs {S : q_Sg} {k : Nat} : q_sJ S k (S.2.2.1 k) = S := by
  unfold q_sJ
  refine Prod.ext rfl (Prod.ext rfl (Prod.ext (funext fun j => ?_) rfl))
  dsimp only
  split
  · rename_i e; rw [e]
  · rfl
theorem q_sJJ {S : q_Sg} {k : Nat} {v v2 : Int} : q_sJ (q_sJ S k v) k v2 = q_sJ S k v2 := by
  unfold q_sJ; dsimp only
  refine Prod.ext rfl (Prod.ext rfl (Prod.ext (funext fun j => ?_) rfl))
  dsimp only
  split <;> rfl
theorem q_sAJ {S : q_Sg} {k i : Nat} {v : Int} {g : Int → Int} : q_sA (q_sJ S k v) i g = q_sJ (q_sA S i g) k v := rfl
