/-! the operations over whole numbers -/
section QWS
variable {L L1 : qL} {h h1 : qH} {e a b d : qE} {B C : qB} {s s1 s2 : qS} {Q : Value → qH → Prop} {QB : Bool → qH → Prop} {QA : List Value → qH → Prop} {QS : Nat × Value → qL → qH → Prop}
theorem wS_loc {t i : Nat} (k : wE e L h (fun v h1 => q_is t v = true ∧ QS (0, .null) (q_stL L i v) h1)) : wS (q_sLoc t i e) L h QS := by
  obtain ⟨v, h1, e1, k1, k⟩ := k
  refine ⟨_, _, h1, ?_, k⟩
  unfold q_sLoc; rw [e1]; unfold q_bS; dsimp only; rw [if_pos k1]
theorem wS_inc {i : Nat} {n z : Int} (e : L[i]? = some (some (.int (Int32.ofInt z)))) (k : QS (0, .null) (q_stL L i (.int (Int32.ofInt (z + n)))) h) : wS (q_sInc i n) L h QS := by
  refine ⟨_, _, h, ?_, k⟩
  unfold q_sInc; rw [e]; dsimp only; rw [Int32.ofInt_add]
theorem wS_h2 {G : qH → Value → Value → Option qH} (k : wE a L h (fun v h1 => wE b L h1 (fun w h2 => ∃ h3, G h2 v w = some h3 ∧ QS (0, .null) L h3))) : wS (q_sH2 G a b) L h QS := by
  obtain ⟨v, h1, e1, w, h2, e2, h3, e3, k⟩ := k
  refine ⟨_, _, h3, ?_, k⟩
  unfold q_sH2; rw [e1]; unfold q_bS; dsimp only; rw [e2]; dsimp only; rw [e3]
theorem wS_h3 {G : qH → Value → Value → Value → Option qH} (k : wE a L h (fun v h1 => wE b L h1 (fun w h2 => wE d L h2 (fun x h3 => ∃ h4, G h3 v w x = some h4 ∧ QS (0, .null) L h4)))) : wS (q_sH3 G a b d) L h QS := by
  obtain ⟨v, h1, e1, w, h2, e2, x, h3, e3, h4, e4, k⟩ := k
  refine ⟨_, _, h4, ?_, k⟩
  unfold q_sH3; rw [e1]; unfold q_bS; dsimp only; rw [e2]; dsimp only; rw [e3]; dsimp only; rw [e4]
theorem wS_a1 {G1 : qH → Value → Option Value} {op : Value → Value → Option Value} {G2 : qH → Value → Value → Option qH} (k : wE a L h (fun v h1 => w1 G1 h1 v (fun x => wE b L h1 (fun y h2 => w2 (fun _ => op) h2 x y (fun z => ∃ h3, G2 h2 v z = some h3 ∧ QS (0, .null) L h3))))) : wS (q_sA1 G1 op G2 a b) L h QS := by
  obtain ⟨v, h1, e1, x, e2, y, h2, e3, z, e4, h3, e5, k⟩ := k
  have e4 : op x y = some z := e4
  refine ⟨_, _, h3, ?_, k⟩
  unfold q_sA1; rw [e1]; unfold q_bS; dsimp only; rw [e2]; dsimp only; rw [e3]; dsimp only; rw [e4]; dsimp only; rw [e5]
theorem wS_a2 {G1 : qH → Value → Value → Option Value} {op : Value → Value → Option Value} {G2 : qH → Value → Value → Value → Option qH} (k : wE a L h (fun v h1 => wE d L h1 (fun w h2 => w2 G1 h2 v w (fun x => wE b L h2 (fun y h3 => w2 (fun _ => op) h3 x y (fun z => ∃ h4, G2 h3 v w z = some h4 ∧ QS (0, .null) L h4)))))) : wS (q_sA2 G1 op G2 a d b) L h QS := by
  obtain ⟨v, h1, e1, w, h2, e2, x, e3, y, h3, e4, z, e5, h4, e6, k⟩ := k
  have e5 : op x y = some z := e5
  refine ⟨_, _, h4, ?_, k⟩
  unfold q_sA2; rw [e1]; unfold q_bS; dsimp only; rw [e2]; dsimp only; rw [e3]; dsimp only; rw [e4]; dsimp only; rw [e5]; dsimp only; rw [e6]
/-- a loop: an invariant over the count of its rounds -/
theorem wS_loop {n : Nat} (Inv : Nat → qL → qH → Prop) (k : ∀ i L h, i ≤ n → Inv i L h → wB B L h (fun t h1 => (t = false → QS (0, .null) L h1) ∧ (t = true → i < n ∧ wS s L h1 (fun o L2 h2 => (o.1 = 0 ∨ o.1 = 2 → wS s1 L2 h2 (fun o3 L3 h3 => o3.1 = 0 ∧ Inv (i + 1) L3 h3)) ∧ (o.1 = 1 → QS (0, .null) L2 h2) ∧ (3 ≤ o.1 → QS o L2 h2))))) : ∀ (f i : Nat) L h, i ≤ n → n - i < f → Inv i L h → wS (q_sLoop f B s s1) L h QS
  | 0, i, L, h, hi, hf, hI => absurd hf (Nat.not_lt_zero _)
  | f + 1, i, L, h, hi, hf, hI => by
    obtain ⟨t, h1, e1, k1, k2⟩ := k i L h hi hI
    cases t with
    | false =>
      refine ⟨_, L, h1, ?_, k1 rfl⟩
      unfold q_sLoop; rw [e1]
    | true =>
      obtain ⟨hin, ⟨j, v⟩, L2, h2, e2, k3, k4, k5⟩ := k2 rfl
      have goOn : (j = 0 ∨ j = 2) → ∃ o L' h', q_sSeq s1 (q_sLoop f B s s1) L2 h2 = some (o, L', h') ∧ QS o L' h' := by
        intro hj
        obtain ⟨⟨j3, v3⟩, L3, h3, e3, ej, hI3⟩ := k3 hj
        have ej : j3 = 0 := ej
        subst ej
        obtain ⟨o, L', h', e4, q⟩ := wS_loop Inv k f (i + 1) L3 h3 hin (by omega) hI3
        exact ⟨o, L', h', by rw [q_sSeq_e e3]; exact e4, q⟩
      match j, e2, k4, k5, goOn with
      | 0, e2, _, _, goOn =>
        obtain ⟨o, L', h', e4, q⟩ := goOn (Or.inl rfl)
        exact ⟨o, L', h', by unfold q_sLoop; rw [e1]; dsimp only; rw [e2]; exact e4, q⟩
      | 1, e2, k4, _, _ => exact ⟨_, L2, h2, by unfold q_sLoop; rw [e1]; dsimp only; rw [e2], k4 rfl⟩
      | 2, e2, _, _, goOn =>
        obtain ⟨o, L', h', e4, q⟩ := goOn (Or.inr rfl)
        exact ⟨o, L', h', by unfold q_sLoop; rw [e1]; dsimp only; rw [e2]; exact e4, q⟩
      | j + 3, e2, _, k5, _ => exact ⟨_, L2, h2, by unfold q_sLoop; rw [e1]; dsimp only; rw [e2], k5 (Nat.le_add_left 3 j)⟩
end QWS
/-- in the range of an int -/
def q_rg (z : Int) : Prop := -2147483648 ≤ z ∧ z < 2147483648
theorem q_toI {z : Int} (h : q_rg z) : (Int32.ofInt z).toInt = z := Int32.toInt_ofInt_of_le (by have := h.1; omega) (by have := h.2; omega)
theorem q_ltI {a b : Int} (ha : q_rg a) (hb : q_rg b) : Int32.ofInt a < Int32.ofInt b ↔ a < b := by rw [Int32.lt_iff_toInt_lt, q_toI ha, q_toI hb]
theorem q_leI {a b : Int} (ha : q_rg a) (hb : q_rg b) : Int32.ofInt a ≤ Int32.ofInt b ↔ a ≤ b := by rw [Int32.le_iff_toInt_le, q_toI ha, q_toI hb]
theorem q_eqI {a b : Int} (ha : q_rg a) (hb : q_rg b) : Int32.ofInt a = Int32.ofInt b ↔ a = b := by rw [← Int32.toInt_inj, q_toI ha, q_toI hb]
section QWO
variable {h : qH} {a b : Int} {Q : Value → Prop} {QB : Bool → Prop}
theorem w2_iadd (k : Q (.int (Int32.ofInt (a + b)))) : w2 (fun _ => q_iadd) h (.int (Int32.ofInt a)) (.int (Int32.ofInt b)) Q := ⟨_, rfl, by rw [Int32.ofInt_add] at k; exact k⟩
theorem w2_isub (k : Q (.int (Int32.ofInt (a - b)))) : w2 (fun _ => q_isub) h (.int (Int32.ofInt a)) (.int (Int32.ofInt b)) Q := ⟨_, rfl, by rw [Int32.ofInt_sub] at k; exact k⟩
theorem w2_imul (k : Q (.int (Int32.ofInt (a * b)))) : w2 (fun _ => q_imul) h (.int (Int32.ofInt a)) (.int (Int32.ofInt b)) Q := ⟨_, rfl, by rw [Int32.ofInt_mul] at k; exact k⟩
theorem w1_ineg (k : Q (.int (Int32.ofInt (-a)))) : w1 (fun _ => q_ineg) h (.int (Int32.ofInt a)) Q := ⟨_, rfl, by rw [Int32.ofInt_neg] at k; exact k⟩
theorem wc_lt (ha : q_rg a) (hb : q_rg b) (k1 : a < b → QB true) (k2 : ¬ a < b → QB false) : wc q_clt (.int (Int32.ofInt a)) (.int (Int32.ofInt b)) QB := by
  refine ⟨_, rfl, ?_⟩
  by_cases hq : a < b
  · rw [decide_eq_true ((q_ltI ha hb).mpr hq)]; exact k1 hq
  · rw [decide_eq_false (fun z => hq ((q_ltI ha hb).mp z))]; exact k2 hq
theorem wc_ge (ha : q_rg a) (hb : q_rg b) (k1 : b ≤ a → QB true) (k2 : ¬ b ≤ a → QB false) : wc q_cge (.int (Int32.ofInt a)) (.int (Int32.ofInt b)) QB := by
  refine ⟨_, rfl, ?_⟩
  by_cases hq : b ≤ a
  · rw [decide_eq_true ((q_leI hb ha).mpr hq)]; exact k1 hq
  · rw [decide_eq_false (fun z => hq ((q_leI hb ha).mp z))]; exact k2 hq
theorem wc_gt (ha : q_rg a) (hb : q_rg b) (k1 : b < a → QB true) (k2 : ¬ b < a → QB false) : wc q_cgt (.int (Int32.ofInt a)) (.int (Int32.ofInt b)) QB := by
  refine ⟨_, rfl, ?_⟩
  by_cases hq : b < a
  · rw [decide_eq_true ((q_ltI hb ha).mpr hq)]; exact k1 hq
  · rw [decide_eq_false (fun z => hq ((q_ltI hb ha).mp z))]; exact k2 hq
theorem wc_le (ha : q_rg a) (hb : q_rg b) (k1 : a ≤ b → QB true) (k2 : ¬ a ≤ b → QB false) : wc q_cle (.int (Int32.ofInt a)) (.int (Int32.ofInt b)) QB := by
  refine ⟨_, rfl, ?_⟩
  by_cases hq : a ≤ b
  · rw [decide_eq_true ((q_leI ha hb).mpr hq)]; exact k1 hq
  · rw [decide_eq_false (fun z => hq ((q_leI ha hb).mp z))]; exact k2 hq
theorem wc_eq (ha : q_rg a) (hb : q_rg b) (k1 : a = b → QB true) (k2 : ¬ a = b → QB false) : wc q_ceq (.int (Int32.ofInt a)) (.int (Int32.ofInt b)) QB := by
  refine ⟨_, rfl, ?_⟩
  by_cases hq : a = b
  · rw [decide_eq_true ((q_eqI ha hb).mpr hq)]; exact k1 hq
  · rw [decide_eq_false (fun z => hq ((q_eqI ha hb).mp z))]; exact k2 hq
theorem wc_ne (ha : q_rg a) (hb : q_rg b) (k1 : ¬ a = b → QB true) (k2 : a = b → QB false) : wc q_cne (.int (Int32.ofInt a)) (.int (Int32.ofInt b)) QB := by
  refine ⟨_, rfl, ?_⟩
  by_cases hq : a = b
  · rw [decide_eq_false (show ¬ ¬ Int32.ofInt a = Int32.ofInt b from fun z => z ((q_eqI ha hb).mpr hq))]; exact k2 hq
  · rw [decide_eq_true (show ¬ Int32.ofInt a = Int32.ofInt b from fun z => hq ((q_eqI ha hb).mp z))]; exact k1 hq
theorem q_rg0 : q_rg 0 := ⟨by decide, by decide⟩
theorem wc0_lt (ha : q_rg a) (k1 : a < 0 → QB true) (k2 : ¬ a < 0 → QB false) : wc0 q_zlt (.int (Int32.ofInt a)) QB := by
  refine ⟨_, rfl, ?_⟩
  have e : Int32.ofInt a < 0 ↔ a < 0 := q_ltI ha q_rg0
  by_cases hq : a < 0
  · rw [decide_eq_true (e.mpr hq)]; exact k1 hq
  · rw [decide_eq_false (fun z => hq (e.mp z))]; exact k2 hq
theorem wc0_ge (ha : q_rg a) (k1 : 0 ≤ a → QB true) (k2 : ¬ 0 ≤ a → QB false) : wc0 q_zge (.int (Int32.ofInt a)) QB := by
  refine ⟨_, rfl, ?_⟩
  have e : (0 : Int32) ≤ Int32.ofInt a ↔ 0 ≤ a := q_leI q_rg0 ha
  by_cases hq : 0 ≤ a
  · rw [decide_eq_true (e.mpr hq)]; exact k1 hq
  · rw [decide_eq_false (fun z => hq (e.mp z))]; exact k2 hq
theorem wc0_gt (ha : q_rg a) (k1 : 0 < a → QB true) (k2 : ¬ 0 < a → QB false) : wc0 q_zgt (.int (Int32.ofInt a)) QB := by
  refine ⟨_, rfl, ?_⟩
  have e : (0 : Int32) < Int32.ofInt a ↔ 0 < a := q_ltI q_rg0 ha
  by_cases hq : 0 < a
  · rw [decide_eq_true (e.mpr hq)]; exact k1 hq
  · rw [decide_eq_false (fun z => hq (e.mp z))]; exact k2 hq
theorem wc0_le (ha : q_rg a) (k1 : a ≤ 0 → QB true) (k2 : ¬ a ≤ 0 → QB false) : wc0 q_zle (.int (Int32.ofInt a)) QB := by
  refine ⟨_, rfl, ?_⟩
  have e : Int32.ofInt a ≤ 0 ↔ a ≤ 0 := q_leI ha q_rg0
  by_cases hq : a ≤ 0
  · rw [decide_eq_true (e.mpr hq)]; exact k1 hq
  · rw [decide_eq_false (fun z => hq (e.mp z))]; exact k2 hq
theorem wc0_eq (ha : q_rg a) (k1 : a = 0 → QB true) (k2 : ¬ a = 0 → QB false) : wc0 q_zeq (.int (Int32.ofInt a)) QB := by
  refine ⟨_, rfl, ?_⟩
  have e : Int32.ofInt a = 0 ↔ a = 0 := q_eqI ha q_rg0
  by_cases hq : a = 0
  · rw [decide_eq_true (e.mpr hq)]; exact k1 hq
  · rw [decide_eq_false (fun z => hq (e.mp z))]; exact k2 hq
theorem wc0_ne (ha : q_rg a) (k1 : ¬ a = 0 → QB true) (k2 : a = 0 → QB false) : wc0 q_zne (.int (Int32.ofInt a)) QB := by
  refine ⟨_, rfl, ?_⟩
  have e : Int32.ofInt a = 0 ↔ a = 0 := q_eqI ha q_rg0
  by_cases hq : a = 0
  · rw [decide_eq_false (show ¬ ¬ Int32.ofInt a = 0 from fun z => z (e.mpr hq))]; exact k2 hq
  · rw [decide_eq_true (show ¬ Int32.ofInt a = 0 from fun z => hq (e.mp z))]; exact k1 hq
end QWO
/-- a method out of its body -/
theorem q_run_w {body : qS} {maxL : Nat} {rt : Option FieldType} {vs : List Value} {h : qH} {r : Value ⊕ Nat} {h' : qH} (hc : (vs.all fun v => v.category == 1) = true ∧ vs.length ≤ maxL) (k : wS body (vs.map some ++ List.replicate (maxL - vs.length) none) h (fun o _ h2 => q_chk h (q_run0 rt (some (o, [], h2))) = some (r, h'))) : q_run body maxL rt vs h = some (r, h') := by
  obtain ⟨o, L', h2, e, k⟩ := k
  unfold q_run
  rw [if_pos hc, e]
  have e9 : q_run0 rt (some (o, L', h2)) = q_run0 rt (some (o, [], h2)) := by
    obtain ⟨j, v⟩ := o
    match j with
    | 0 => rfl
    | 1 => rfl
    | 2 => rfl
    | 3 => rfl
    | 4 => rfl
    | j + 5 => rfl
  rw [e9]; exact k
