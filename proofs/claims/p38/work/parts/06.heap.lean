/-! cells: fields, arrays, new -/
def q_sub (a b : qRO) : Prop := ∀ (k : Nat) (x : FieldType × Nat × (Nat → Int32)), a k = some x → b k = some x
def q_fld (h : qH) (v : Value) (ci i : Nat) : Option Value := match v with
  | .ref a => if a < 16 then none else match h.1[a - 16]? with
    | some (.inr (c, fs)) => if c = ci then fs[i]? else none
    | _ => none
  | _ => none
def q_fit (ty : FieldType) (v : Value) : Bool := decide (narrow ty v = v) && fits ty v
def q_setF (h : qH) (v : Value) (ci i : Nat) (x : Value) : Option qH := match v with
  | .ref a => if a < 16 then none else match h.1[a - 16]? with
    | some (.inr (c, fs)) => if c = ci ∧ i < fs.length then some (h.1.set (a - 16) (.inr (c, fs.set i x)), h.2) else none
    | _ => none
  | _ => none
def q_arr (h : qH) (v : Value) : Option (FieldType × vp_A) := match v with
  | .ref a => if a < 16 then none else match h.1[a - 16]? with
    | some (.inl x) => some x
    | _ => none
  | _ => none
def q_setA (h : qH) (v : Value) (x : FieldType × vp_A) : qH := match v with
  | .ref a => (h.1.set (a - 16) (.inl x), h.2)
  | _ => h
def q_in (j : Int32) (n : Nat) : Bool := decide (¬ j < 0 ∧ j.toNatClampNeg < n)
theorem q_in_vp {j : Int32} {n : Nat} (h : q_in j n = true) : vp_in j n := by
  unfold q_in at h
  have h := of_decide_eq_true h
  unfold vp_in
  rintro (h1 | h1)
  · exact h.1 h1
  · have := h.2; omega
theorem q_fld_spec {h : qH} {v x : Value} {ci i : Nat} (e : q_fld h v ci i = some x) : ∃ a fs, v = .ref a ∧ 16 ≤ a ∧ h.1[a - 16]? = some (.inr (ci, fs)) ∧ fs[i]? = some x := by
  unfold q_fld at e
  split at e
  · rename_i a
    split at e
    · cases e
    · rename_i ha
      split at e
      · rename_i c fs hc
        split at e
        · rename_i hci
          subst hci
          exact ⟨a, fs, rfl, Nat.not_lt.mp ha, hc, e⟩
        · cases e
      · cases e
  · cases e
theorem q_setF_spec {h h' : qH} {v x : Value} {ci i : Nat} (e : q_setF h v ci i x = some h') : ∃ a fs, v = .ref a ∧ 16 ≤ a ∧ h.1[a - 16]? = some (.inr (ci, fs)) ∧ i < fs.length ∧ h' = (h.1.set (a - 16) (.inr (ci, fs.set i x)), h.2) := by
  unfold q_setF at e
  split at e
  · rename_i a
    split at e
    · cases e
    · rename_i ha
      split at e
      · rename_i c fs hc
        split at e
        · rename_i hci
          obtain ⟨rfl, hi⟩ := hci
          cases e
          exact ⟨a, fs, rfl, Nat.not_lt.mp ha, hc, hi, rfl⟩
        · cases e
      · cases e
  · cases e
theorem q_arr_spec {h : qH} {v : Value} {x : FieldType × vp_A} (e : q_arr h v = some x) : ∃ a, v = .ref a ∧ 16 ≤ a ∧ h.1[a - 16]? = some (.inl x) := by
  unfold q_arr at e
  split at e
  · rename_i a
    split at e
    · cases e
    · rename_i ha
      split at e
      · rename_i c hc
        cases e
        exact ⟨a, rfl, Nat.not_lt.mp ha, hc⟩
      · cases e
  · cases e
theorem q_cell {ro : Nat → Nat} {tys : List (ClassId × FieldType)} {cs : List qC} {α : List Nat} {ws : va_W} {a : Nat} {w : Value} {c : qC} (h : q_hr ro tys cs α ws) (hv : q_vr ro α (.ref a) w) (ha : 16 ≤ a) (hc : cs[a - 16]? = some c) :
    ∃ b e, w = .ref b ∧ ws[a - 16]? = some (b, e) ∧ q_cr ro α tys c e := by
  obtain ⟨b, h1, h2⟩ := hv
  obtain ⟨q, h3, h4⟩ := h.2.2 _ _ hc
  rcases h2 with ⟨h2, -⟩ | ⟨-, h2⟩
  · exact absurd h2 (Nat.not_lt.mpr ha)
  · rw [← h.1, List.getElem?_map, h3] at h2
    have h2 : q.1 = b := Option.some.inj h2
    exact ⟨b, q.2, h1, by rw [h3, ← h2], h4⟩
theorem q_hr.set {ro : Nat → Nat} {tys : List (ClassId × FieldType)} {cs : List qC} {α : List Nat} {ws : va_W} {k b : Nat} {e e' : va_E} {c' : qC} (h : q_hr ro tys cs α ws) (hk : ws[k]? = some (b, e)) (hcr : q_cr ro α tys c' e') : q_hr ro tys (cs.set k c') α (ws.set k (b, e')) := by
  obtain ⟨h1, h2, h3⟩ := h
  have hkl : k < ws.length := (List.getElem?_eq_some_iff.mp hk).1
  refine ⟨?_, by simp [h2], fun j c hj => ?_⟩
  · rw [List.map_set]
    have hb : α[k]? = some b := by rw [← h1, List.getElem?_map, hk]; rfl
    apply List.ext_getElem?
    intro i
    rw [List.getElem?_set]
    split
    · rename_i hi
      subst hi
      rw [List.length_map, if_pos hkl, hb]
    · rw [h1]
  · rw [List.getElem?_set] at hj
    by_cases hkj : k = j
    · subst hkj
      rw [if_pos rfl] at hj
      split at hj
      · cases hj
        exact ⟨(b, e'), by rw [List.getElem?_set, if_pos rfl, if_pos hkl], hcr⟩
      · cases hj
    · rw [if_neg hkj] at hj
      obtain ⟨q, h4, h5⟩ := h3 j c hj
      exact ⟨q, by rw [List.getElem?_set, if_neg hkj]; exact h4, h5⟩
theorem q_hr.push {ro : Nat → Nat} {tys t2 : List (ClassId × FieldType)} {cs : List qC} {α : List Nat} {ws : va_W} {b : Nat} {e : va_E} {c : qC} (h : q_hr ro tys cs α ws) (hcr : q_cr ro (α ++ [b]) (tys ++ t2) c e) : q_hr ro (tys ++ t2) (cs ++ [c]) (α ++ [b]) (ws ++ [(b, e)]) := by
  obtain ⟨h1, h2, h3⟩ := h
  refine ⟨by simp [h1], by simp [h2], fun j x hj => ?_⟩
  by_cases hl : j < cs.length
  · rw [List.getElem?_append_left hl] at hj
    obtain ⟨q, h4, h5⟩ := h3 j x hj
    exact ⟨q, by rw [List.getElem?_append_left (by omega)]; exact h4, (h5.mono (List.prefix_append _ _)).tys⟩
  · rw [List.getElem?_append_right (by omega)] at hj
    have hz : j - cs.length < 1 := (List.getElem?_eq_some_iff.mp hj).1
    have hj0 : j = cs.length := by omega
    subst hj0
    simp at hj
    subst hj
    exact ⟨(b, e), by rw [List.getElem?_append_right (by omega), h2]; simp, hcr⟩
theorem q_hr.len {ro : Nat → Nat} {tys : List (ClassId × FieldType)} {cs : List qC} {α : List Nat} {ws : va_W} (h : q_hr ro tys cs α ws) : α.length = cs.length := by rw [← h.1, List.length_map, h.2.1]
theorem q_fit_ok {ro : Nat → Nat} {α : List Nat} {ty : FieldType} {v w : Value} (h : q_fit ty v = true) (hr : q_vr ro α v w) : narrow ty w = w ∧ fits ty w = true := by
  unfold q_fit at h
  simp only [Bool.and_eq_true, decide_eq_true_eq] at h
  cases v with
  | ref k =>
    obtain ⟨a, rfl, -⟩ := hr
    obtain ⟨-, h2⟩ := h
    cases ty <;> first | exact ⟨rfl, rfl⟩ | cases h2
  | retAddr k => exact hr.elim
  | _ => rw [show w = _ from hr]; exact h
def q_eH1 (G : qH → Value → Option Value) (a : qE) : qE := fun L h => q_bE (a L h) fun v h1 => match G h1 v with
  | some x => some (.inl x, h1)
  | none => none
def q_eH2 (G : qH → Value → Value → Option Value) (a b : qE) : qE := fun L h => q_bE (a L h) fun v h1 => q_bE (b L h1) fun w h2 => match G h2 v w with
  | some x => some (.inl x, h2)
  | none => none
def q_bS (x : Option ((Value ⊕ Nat) × qH)) (L : qL) (f : Value → qH → Option ((Nat × Value) × qL × qH)) : Option ((Nat × Value) × qL × qH) :=
  match x with
  | none => none
  | some (.inr e, h) => some ((e + 5, .null), L, h)
  | some (.inl v, h) => f v h
def q_sH2 (G : qH → Value → Value → Option qH) (a b : qE) : qS := fun L h => q_bS (a L h) L fun v h1 => q_bS (b L h1) L fun w h2 => match G h2 v w with
  | some h3 => some ((0, .null), L, h3)
  | none => none
def q_sH3 (G : qH → Value → Value → Value → Option qH) (a b c : qE) : qS := fun L h => q_bS (a L h) L fun v h1 => q_bS (b L h1) L fun w h2 => q_bS (c L h2) L fun x h3 => match G h3 v w x with
  | some h4 => some ((0, .null), L, h4)
  | none => none
/-- o.f op= e -/
def q_sA1 (G1 : qH → Value → Option Value) (op : Value → Value → Option Value) (G2 : qH → Value → Value → Option qH) (a b : qE) : qS := fun L h => q_bS (a L h) L fun v h1 => match G1 h1 v with
  | none => none
  | some x => q_bS (b L h1) L fun y h2 => match op x y with
    | none => none
    | some z => match G2 h2 v z with
      | some h3 => some ((0, .null), L, h3)
      | none => none
/-- a[i] op= e -/
def q_sA2 (G1 : qH → Value → Value → Option Value) (op : Value → Value → Option Value) (G2 : qH → Value → Value → Value → Option qH) (a i b : qE) : qS := fun L h => q_bS (a L h) L fun v h1 => q_bS (i L h1) L fun w h2 => match G1 h2 v w with
  | none => none
  | some x => q_bS (b L h2) L fun y h3 => match op x y with
    | none => none
    | some z => match G2 h3 v w z with
      | some h4 => some ((0, .null), L, h4)
      | none => none
-- what the instructions do to cells
def q_gFld (t ci i : Nat) : qH → Value → Option Value := fun h v => match q_fld h v ci i with
  | some x => if q_is t x then some x else none
  | none => none
def q_pFld (ty : FieldType) (ci i : Nat) : qH → Value → Value → Option qH := fun h v x => if q_fit ty x then q_setF h v ci i x else none
def q_gI (ty : FieldType) : qH → Value → Value → Option Value := fun h v w => match w, q_arr h v with
  | .int j, some (ty', n, .inl f) => if ty' = ty ∧ q_in j n = true then some (.int (f j.toNatClampNeg)) else none
  | _, _ => none
def q_gL : qH → Value → Value → Option Value := fun h v w => match w, q_arr h v with
  | .int j, some (ty', n, .inr (.inl f)) => if ty' = .long ∧ q_in j n = true then some (.long (f j.toNatClampNeg)) else none
  | _, _ => none
def q_gD : qH → Value → Value → Option Value := fun h v w => match w, q_arr h v with
  | .int j, some (ty', n, .inr (.inr (.inr (.inl f)))) => if ty' = .double ∧ q_in j n = true then some (.double (f j.toNatClampNeg)) else none
  | _, _ => none
/-- a cell that nobody writes -/
def q_gR (rot : qRO) (ty : FieldType) : qH → Value → Value → Option Value := fun _ v w => match w, v with
  | .int j, .ref r => (match rot r with
    | some (ty', n, f) => if ty' = ty ∧ q_in j n = true then some (.int (f j.toNatClampNeg)) else none
    | none => none)
  | _, _ => none
def q_gLen : qH → Value → Option Value := fun h v => match q_arr h v with
  | some (_, n, _) => some (.int (Int32.ofNat n))
  | none => none
def q_gLenR (rot : qRO) : qH → Value → Option Value := fun _ v => match v with
  | .ref r => (match rot r with
    | some (_, n, _) => some (.int (Int32.ofNat n))
    | none => none)
  | _ => none
def q_pI (ty : FieldType) : qH → Value → Value → Value → Option qH := fun h v w x => match w, x, q_arr h v with
  | .int j, .int y, some (ty', n, .inl f) => if ty' = ty ∧ q_in j n = true then some (q_setA h v (ty, n, .inl (upd f j.toNatClampNeg (vp_nar ty y)))) else none
  | _, _, _ => none
def q_pL : qH → Value → Value → Value → Option qH := fun h v w x => match w, x, q_arr h v with
  | .int j, .long y, some (ty', n, .inr (.inl f)) => if ty' = .long ∧ q_in j n = true then some (q_setA h v (.long, n, .inr (.inl (vp_updL f j.toNatClampNeg y)))) else none
  | _, _, _ => none
def q_pD : qH → Value → Value → Value → Option qH := fun h v w x => match w, x, q_arr h v with
  | .int j, .double y, some (ty', n, .inr (.inr (.inr (.inl f)))) => if ty' = .double ∧ q_in j n = true then some (q_setA h v (.double, n, .inr (.inr (.inr (.inl (vf_upd f j.toNatClampNeg y)))))) else none
  | _, _, _ => none
/-- what an instruction with one operand does -/
def q_O1 (X : qX) (G : qH → Value → Option Value) (p p' c : Nat) : Prop := ∀ L h α v x w rest, G h v = some x → q_vr X.2.2.2.1 α v w → (∀ z, q_vr X.2.2.2.1 α x z → z.category ≤ c → q_G X L h α p' (z :: rest)) → q_G X L h α p (w :: rest)
def q_O2 (X : qX) (G : qH → Value → Value → Option Value) (p p' c : Nat) : Prop := ∀ L h α v v2 x w w2 rest, G h v v2 = some x → q_vr X.2.2.2.1 α v w → q_vr X.2.2.2.1 α v2 w2 → (∀ z, q_vr X.2.2.2.1 α x z → z.category ≤ c → q_G X L h α p' (z :: rest)) → q_G X L h α p (w2 :: w :: rest)
def q_P2 (X : qX) (G : qH → Value → Value → Option qH) (p p' : Nat) : Prop := ∀ L h α v v2 h' w w2 rest, G h v v2 = some h' → h'.2 = h.2 ∧ (q_vr X.2.2.2.1 α v w → q_vr X.2.2.2.1 α v2 w2 → q_G X L h' α p' rest → q_G X L h α p (w2 :: w :: rest))
def q_P3 (X : qX) (G : qH → Value → Value → Value → Option qH) (p p' : Nat) : Prop := ∀ L h α v v2 v3 h' w w2 w3 rest, G h v v2 v3 = some h' → h'.2 = h.2 ∧ (q_vr X.2.2.2.1 α v w → q_vr X.2.2.2.1 α v2 w2 → q_vr X.2.2.2.1 α v3 w3 → q_G X L h' α p' rest → q_G X L h α p (w3 :: w2 :: w :: rest))
theorem q_le.eq {h h' : qH} (e : h'.2 = h.2) : q_le h h' := ⟨by rw [e]; exact Nat.le_refl _, by rw [e]; exact Nat.le_refl _⟩
section QHG
variable {X : qX} {T : Nat → Prop} {pc p1 p2 p3 p4 p5 pn pb pk k c c1 c2 c3 : Nat} {f a b d : qE}
theorem q_h1 {G : qH → Value → Option Value} (ha : q_EOK X T a pc p1 k c1) (hop : q_O1 X G p1 p2 c) : q_EOK X T (q_eH1 G a) pc p2 k c := by
  intro L h r h' hf
  cases ea : a L h with
  | none => simp [q_eH1, q_bE, ea] at hf
  | some q =>
    obtain ⟨m1, g1⟩ := ha L h _ _ ea
    obtain ⟨q | q, h1⟩ := q
    · cases eo : G h1 q with
      | none => simp [q_eH1, q_bE, ea, eo] at hf
      | some v =>
        simp only [q_eH1, q_bE, ea, eo] at hf
        cases hf
        refine ⟨m1, fun hc α rest hk kv kx => g1 hc α rest hk (fun v1 e1 α1 w1 hp1 hr1 hc1 => ?_) (fun x e1 => by cases e1)⟩
        cases e1
        exact hop L h' α1 _ _ _ rest eo hr1 (fun z hz hzc => kv _ rfl α1 z hp1 hz hzc)
    · simp only [q_eH1, q_bE, ea] at hf
      cases hf
      exact ⟨m1, fun hc α rest hk kv kx => g1 hc α rest hk (fun v1 e1 => by cases e1) kx⟩
theorem q_h2 {G : qH → Value → Value → Option Value} (ha : q_EOK X T a pc p1 k c1) (hb : q_EOK X T b p1 p2 (k + c1) c2) (hop : q_O2 X G p2 p3 c) : q_EOK X T (q_eH2 G a b) pc p3 k c := by
  intro L h r h' hf
  cases ea : a L h with
  | none => simp [q_eH2, q_bE, ea] at hf
  | some q =>
    obtain ⟨m1, g1⟩ := ha L h _ _ ea
    obtain ⟨q | q, h1⟩ := q
    · cases eb : b L h1 with
      | none => simp [q_eH2, q_bE, ea, eb] at hf
      | some q2 =>
        obtain ⟨m2, g2⟩ := hb L h1 _ _ eb
        obtain ⟨q2 | q2, h2⟩ := q2
        · cases eo : G h2 q q2 with
          | none => simp [q_eH2, q_bE, ea, eb, eo] at hf
          | some v =>
            simp only [q_eH2, q_bE, ea, eb, eo] at hf
            cases hf
            refine ⟨m1.tr m2, fun hc α rest hk kv kx => g1 (hc.le m2) α rest hk (fun v1 e1 α1 w1 hp1 hr1 hc1 => ?_) (fun x e1 => by cases e1)⟩
            cases e1
            refine g2 hc α1 (w1 :: rest) (q_sum hc1 hk) (fun v2 e2 α2 w2 hp2 hr2 hc2 => ?_) (fun x e1 => by cases e1)
            cases e2
            exact hop L h' α2 _ _ _ _ _ rest eo (hr1.mono hp2) hr2 (fun z hz hzc => kv _ rfl α2 z (hp1.trans hp2) hz hzc)
        · simp only [q_eH2, q_bE, ea, eb] at hf
          cases hf
          refine ⟨m1.tr m2, fun hc α rest hk kv kx => g1 (hc.le m2) α rest hk (fun v1 e1 α1 w1 hp1 hr1 hc1 => ?_) (fun x e1 => by cases e1)⟩
          refine g2 hc α1 (w1 :: rest) (q_sum hc1 hk) (fun v2 e2 => by cases e2) (fun x e1 α2 t hp2 => kx x e1 α2 t (hp1.trans hp2))
    · simp only [q_eH2, q_bE, ea] at hf
      cases hf
      exact ⟨m1, fun hc α rest hk kv kx => g1 hc α rest hk (fun v1 e1 => by cases e1) kx⟩
theorem q_sh2 {G : qH → Value → Value → Option qH} (ha : q_EOK X T a pc p1 0 c1) (hb : q_EOK X T b p1 p2 c1 c2) (hop : q_P2 X G p2 pn) : q_SOK X T (q_sH2 G a b) pc pn pb pk := by
  intro L h o L' h' hf
  cases ea : a L h with
  | none => simp [q_sH2, q_bS, ea] at hf
  | some q =>
    obtain ⟨m1, g1⟩ := ha L h _ _ ea
    obtain ⟨q | q, h1⟩ := q
    · cases eb : b L h1 with
      | none => simp [q_sH2, q_bS, ea, eb] at hf
      | some q2 =>
        obtain ⟨m2, g2⟩ := hb L h1 _ _ eb
        obtain ⟨q2 | q2, h2⟩ := q2
        · cases eo : G h2 q q2 with
          | none => simp [q_sH2, q_bS, ea, eb, eo] at hf
          | some v =>
            simp only [q_sH2, q_bS, ea, eb, eo] at hf
            cases hf
            have e9 := (hop L h2 [] q q2 h' .null .null [] eo).1
            refine ⟨m1.tr (m2.tr (q_le.eq e9)), fun hc α kn _ _ _ _ _ => ?_⟩
            refine g1 (hc.le (m2.tr (q_le.eq e9))) α [] (Nat.zero_le _) (fun v1 e1 α1 w1 hp1 hr1 hc1 => ?_) (fun x e1 => by cases e1)
            cases e1
            refine g2 (hc.le (q_le.eq e9)) α1 [w1] (by simpa using hc1) (fun v2 e2 α2 w2 hp2 hr2 hc2 => ?_) (fun x e1 => by cases e1)
            cases e2
            exact (hop L h2 α2 _ _ _ _ _ [] eo).2 (hr1.mono hp2) hr2 (kn rfl α2 (hp1.trans hp2))
        · simp only [q_sH2, q_bS, ea, eb] at hf
          cases hf
          refine ⟨m1.tr m2, fun hc α _ _ _ _ _ kx => g1 (hc.le m2) α [] (Nat.zero_le _) (fun v1 e1 α1 w1 hp1 hr1 hc1 => ?_) (fun x e1 => by cases e1)⟩
          exact g2 hc α1 [w1] (by simpa using hc1) (fun v2 e2 => by cases e2) (fun x e1 α2 t hp2 => kx x (by cases e1; rfl) α2 t (hp1.trans hp2))
    · simp only [q_sH2, q_bS, ea] at hf
      cases hf
      exact ⟨m1, fun hc α _ _ _ _ _ kx => g1 hc α [] (Nat.zero_le _) (fun v1 e1 => by cases e1) (fun x e1 => kx x (by cases e1; rfl))⟩
theorem q_sum0 {w1 w2 : Value} (h1 : w1.category ≤ c1) (h2 : w2.category ≤ c2) : (([w2, w1] : List Value).map fun v : Value => v.category).sum ≤ c1 + c2 := by
  simp only [List.map_cons, List.map_nil, List.sum_cons, List.sum_nil]; omega
theorem q_sh3 {G : qH → Value → Value → Value → Option qH} (ha : q_EOK X T a pc p1 0 c1) (hb : q_EOK X T b p1 p2 c1 c2) (hd : q_EOK X T d p2 p3 (c1 + c2) c3) (hop : q_P3 X G p3 pn) : q_SOK X T (q_sH3 G a b d) pc pn pb pk := by
  intro L h o L' h' hf
  cases ea : a L h with
  | none => simp [q_sH3, q_bS, ea] at hf
  | some q =>
    obtain ⟨m1, g1⟩ := ha L h _ _ ea
    obtain ⟨q | q, h1⟩ := q
    · cases eb : b L h1 with
      | none => simp [q_sH3, q_bS, ea, eb] at hf
      | some q2 =>
        obtain ⟨m2, g2⟩ := hb L h1 _ _ eb
        obtain ⟨q2 | q2, h2⟩ := q2
        · cases ed : d L h2 with
          | none => simp [q_sH3, q_bS, ea, eb, ed] at hf
          | some q3 =>
            obtain ⟨m3, g3⟩ := hd L h2 _ _ ed
            obtain ⟨q3 | q3, h3⟩ := q3
            · cases eo : G h3 q q2 q3 with
              | none => simp [q_sH3, q_bS, ea, eb, ed, eo] at hf
              | some v =>
                simp only [q_sH3, q_bS, ea, eb, ed, eo] at hf
                cases hf
                have e9 := (hop L h3 [] q q2 q3 h' .null .null .null [] eo).1
                refine ⟨m1.tr (m2.tr (m3.tr (q_le.eq e9))), fun hc α kn _ _ _ _ _ => ?_⟩
                have hc3 := hc.le (q_le.eq e9)
                refine g1 (hc3.le (m2.tr m3)) α [] (Nat.zero_le _) (fun v1 e1 α1 w1 hp1 hr1 hc1 => ?_) (fun x e1 => by cases e1)
                cases e1
                refine g2 (hc3.le m3) α1 [w1] (by simpa using hc1) (fun v2 e2 α2 w2 hp2 hr2 hc2 => ?_) (fun x e1 => by cases e1)
                cases e2
                refine g3 hc3 α2 [w2, w1] (q_sum0 hc1 hc2) (fun v2 e2 α3 w3 hp3 hr3 hc3 => ?_) (fun x e1 => by cases e1)
                cases e2
                exact (hop L h3 α3 _ _ _ _ _ _ _ [] eo).2 ((hr1.mono hp2).mono hp3) (hr2.mono hp3) hr3 (kn rfl α3 ((hp1.trans hp2).trans hp3))
            · simp only [q_sH3, q_bS, ea, eb, ed] at hf
              cases hf
              refine ⟨m1.tr (m2.tr m3), fun hc α _ _ _ _ _ kx => g1 (hc.le (m2.tr m3)) α [] (Nat.zero_le _) (fun v1 e1 α1 w1 hp1 hr1 hc1 => ?_) (fun x e1 => by cases e1)⟩
              refine g2 (hc.le m3) α1 [w1] (by simpa using hc1) (fun v2 e2 α2 w2 hp2 hr2 hc2 => ?_) (fun x e1 => by cases e1)
              exact g3 hc α2 [w2, w1] (q_sum0 hc1 hc2) (fun v2 e2 => by cases e2) (fun x e1 α3 t hp3 => kx x (by cases e1; rfl) α3 t ((hp1.trans hp2).trans hp3))
        · simp only [q_sH3, q_bS, ea, eb] at hf
          cases hf
          refine ⟨m1.tr m2, fun hc α _ _ _ _ _ kx => g1 (hc.le m2) α [] (Nat.zero_le _) (fun v1 e1 α1 w1 hp1 hr1 hc1 => ?_) (fun x e1 => by cases e1)⟩
          exact g2 hc α1 [w1] (by simpa using hc1) (fun v2 e2 => by cases e2) (fun x e1 α2 t hp2 => kx x (by cases e1; rfl) α2 t (hp1.trans hp2))
    · simp only [q_sH3, q_bS, ea] at hf
      cases hf
      exact ⟨m1, fun hc α _ _ _ _ _ kx => g1 hc α [] (Nat.zero_le _) (fun v1 e1 => by cases e1) (fun x e1 => kx x (by cases e1; rfl))⟩
/-- dup on a reference or an int -/
def q_D1 (X : qX) (p : Nat) : Prop := ∀ L h α v w rest, q_vr X.2.2.2.1 α v w → w.category = 1 → q_G X L h α (p + 1) (w :: w :: rest) → q_G X L h α p (w :: rest)
def q_D2 (X : qX) (p : Nat) : Prop := ∀ L h α w w2 rest, w.category = 1 → w2.category = 1 → q_G X L h α (p + 1) (w2 :: w :: w2 :: w :: rest) → q_G X L h α p (w2 :: w :: rest)
theorem q_sa1 {G1 : qH → Value → Option Value} {op : Value → Value → Option Value} {G2 : qH → Value → Value → Option qH} (ha : q_EOK X T a pc p1 0 1) (hdup : q_D1 X p1) (hg : q_O1 X G1 (p1 + 1) p2 c1) (hcat : ∀ h v x, G1 h v = some x → v.category = 1) (hb : q_EOK X T b p2 p3 (1 + c1) c2) (hop : q_O2 X (fun _ => op) p3 p4 c3) (hput : q_P2 X G2 p4 pn) : q_SOK X T (q_sA1 G1 op G2 a b) pc pn pb pk := by
  intro L h o L' h' hf
  cases ea : a L h with
  | none => simp [q_sA1, q_bS, ea] at hf
  | some q =>
    obtain ⟨m1, g1⟩ := ha L h _ _ ea
    obtain ⟨q | q, h1⟩ := q
    · cases eg : G1 h1 q with
      | none => simp [q_sA1, q_bS, ea, eg] at hf
      | some x0 =>
        cases eb : b L h1 with
        | none => simp [q_sA1, q_bS, ea, eg, eb] at hf
        | some q2 =>
          obtain ⟨m2, g2⟩ := hb L h1 _ _ eb
          obtain ⟨q2 | q2, h2⟩ := q2
          · cases eo : op x0 q2 with
            | none => simp [q_sA1, q_bS, ea, eg, eb, eo] at hf
            | some z =>
              cases ep : G2 h2 q z with
              | none => simp [q_sA1, q_bS, ea, eg, eb, eo, ep] at hf
              | some h3 =>
                simp only [q_sA1, q_bS, ea, eg, eb, eo, ep] at hf
                cases hf
                have e9 := (hput L h2 [] q z h' .null .null [] ep).1
                refine ⟨m1.tr (m2.tr (q_le.eq e9)), fun hc α kn _ _ _ _ _ => ?_⟩
                refine g1 (hc.le (m2.tr (q_le.eq e9))) α [] (Nat.zero_le _) (fun v1 e1 α1 w1 hp1 hr1 hc1 => ?_) (fun x e1 => by cases e1)
                cases e1
                refine hdup L h1 α1 _ w1 [] hr1 (by rw [hr1.cat]; exact hcat _ _ _ eg) (hg L h1 α1 _ _ _ [w1] eg hr1 (fun y0 hy0 hyc => ?_))
                refine g2 (hc.le (q_le.eq e9)) α1 [y0, w1] (by simp only [List.map_cons, List.map_nil, List.sum_cons, List.sum_nil]; omega) (fun v2 e2 α2 w2 hp2 hr2 hc2 => ?_) (fun x e1 => by cases e1)
                cases e2
                refine hop L h2 α2 _ _ _ _ _ [w1] eo (hy0.mono hp2) hr2 (fun z1 hz1 _ => ?_)
                exact (hput L h2 α2 _ _ _ _ _ [] ep).2 (hr1.mono hp2) hz1 (kn rfl α2 (hp1.trans hp2))
          · simp only [q_sA1, q_bS, ea, eg, eb] at hf
            cases hf
            refine ⟨m1.tr m2, fun hc α _ _ _ _ _ kx => g1 (hc.le m2) α [] (Nat.zero_le _) (fun v1 e1 α1 w1 hp1 hr1 hc1 => ?_) (fun x e1 => by cases e1)⟩
            cases e1
            refine hdup L h1 α1 _ w1 [] hr1 (by rw [hr1.cat]; exact hcat _ _ _ eg) (hg L h1 α1 _ _ _ [w1] eg hr1 (fun y0 hy0 hyc => ?_))
            exact g2 hc α1 [y0, w1] (by simp only [List.map_cons, List.map_nil, List.sum_cons, List.sum_nil]; omega) (fun v2 e2 => by cases e2) (fun x e1 α2 t hp2 => kx x (by cases e1; rfl) α2 t (hp1.trans hp2))
    · simp only [q_sA1, q_bS, ea] at hf
      cases hf
      exact ⟨m1, fun hc α _ _ _ _ _ kx => g1 hc α [] (Nat.zero_le _) (fun v1 e1 => by cases e1) (fun x e1 => kx x (by cases e1; rfl))⟩
theorem q_sa2 {G1 : qH → Value → Value → Option Value} {op : Value → Value → Option Value} {G2 : qH → Value → Value → Value → Option qH} (ha : q_EOK X T a pc p1 0 1) (hi : q_EOK X T d p1 p2 1 1) (hdup : q_D2 X p2) (hg : q_O2 X G1 (p2 + 1) p3 c1) (hcat : ∀ h v w x, G1 h v w = some x → v.category = 1 ∧ w.category = 1) (hb : q_EOK X T b p3 p4 (2 + c1) c2) (hop : q_O2 X (fun _ => op) p4 p5 c3) (hput : q_P3 X G2 p5 pn) : q_SOK X T (q_sA2 G1 op G2 a d b) pc pn pb pk := by
  intro L h o L' h' hf
  cases ea : a L h with
  | none => simp [q_sA2, q_bS, ea] at hf
  | some q =>
    obtain ⟨m1, g1⟩ := ha L h _ _ ea
    obtain ⟨q | q, h1⟩ := q
    · cases ei : d L h1 with
      | none => simp [q_sA2, q_bS, ea, ei] at hf
      | some q1 =>
        obtain ⟨m4, g4⟩ := hi L h1 _ _ ei
        obtain ⟨q1 | q1, h4⟩ := q1
        · cases eg : G1 h4 q q1 with
          | none => simp [q_sA2, q_bS, ea, ei, eg] at hf
          | some x0 =>
            cases eb : b L h4 with
            | none => simp [q_sA2, q_bS, ea, ei, eg, eb] at hf
            | some q2 =>
              obtain ⟨m2, g2⟩ := hb L h4 _ _ eb
              obtain ⟨q2 | q2, h2⟩ := q2
              · cases eo : op x0 q2 with
                | none => simp [q_sA2, q_bS, ea, ei, eg, eb, eo] at hf
                | some z =>
                  cases ep : G2 h2 q q1 z with
                  | none => simp [q_sA2, q_bS, ea, ei, eg, eb, eo, ep] at hf
                  | some h3 =>
                    simp only [q_sA2, q_bS, ea, ei, eg, eb, eo, ep] at hf
                    cases hf
                    have e9 := (hput L h2 [] q q1 z h' .null .null .null [] ep).1
                    refine ⟨m1.tr (m4.tr (m2.tr (q_le.eq e9))), fun hc α kn _ _ _ _ _ => ?_⟩
                    have hc9 := hc.le (q_le.eq e9)
                    refine g1 (hc9.le (m4.tr m2)) α [] (Nat.zero_le _) (fun v1 e1 α1 w1 hp1 hr1 hc1 => ?_) (fun x e1 => by cases e1)
                    cases e1
                    refine g4 (hc9.le m2) α1 [w1] (by simpa using hc1) (fun v1 e1 α4 w4 hp4 hr4 hc4 => ?_) (fun x e1 => by cases e1)
                    cases e1
                    have hr1 := hr1.mono hp4
                    refine hdup L h4 α4 w1 w4 [] (by rw [hr1.cat]; exact (hcat _ _ _ _ eg).1) (by rw [hr4.cat]; exact (hcat _ _ _ _ eg).2) (hg L h4 α4 _ _ _ _ _ [w4, w1] eg hr1 hr4 (fun y0 hy0 hyc => ?_))
                    refine g2 hc9 α4 [y0, w4, w1] (by simp only [List.map_cons, List.map_nil, List.sum_cons, List.sum_nil]; omega) (fun v2 e2 α2 w2 hp2 hr2 hc2 => ?_) (fun x e1 => by cases e1)
                    cases e2
                    refine hop L h2 α2 _ _ _ _ _ [w4, w1] eo (hy0.mono hp2) hr2 (fun z1 hz1 _ => ?_)
                    exact (hput L h2 α2 _ _ _ _ _ _ _ [] ep).2 (hr1.mono hp2) (hr4.mono hp2) hz1 (kn rfl α2 ((hp1.trans hp4).trans hp2))
              · simp only [q_sA2, q_bS, ea, ei, eg, eb] at hf
                cases hf
                refine ⟨m1.tr (m4.tr m2), fun hc α _ _ _ _ _ kx => g1 (hc.le (m4.tr m2)) α [] (Nat.zero_le _) (fun v1 e1 α1 w1 hp1 hr1 hc1 => ?_) (fun x e1 => by cases e1)⟩
                cases e1
                refine g4 (hc.le m2) α1 [w1] (by simpa using hc1) (fun v1 e1 α4 w4 hp4 hr4 hc4 => ?_) (fun x e1 => by cases e1)
                cases e1
                have hr1 := hr1.mono hp4
                refine hdup L h4 α4 w1 w4 [] (by rw [hr1.cat]; exact (hcat _ _ _ _ eg).1) (by rw [hr4.cat]; exact (hcat _ _ _ _ eg).2) (hg L h4 α4 _ _ _ _ _ [w4, w1] eg hr1 hr4 (fun y0 hy0 hyc => ?_))
                exact g2 hc α4 [y0, w4, w1] (by simp only [List.map_cons, List.map_nil, List.sum_cons, List.sum_nil]; omega) (fun v2 e2 => by cases e2) (fun x e1 α2 t hp2 => kx x (by cases e1; rfl) α2 t ((hp1.trans hp4).trans hp2))
        · simp only [q_sA2, q_bS, ea, ei] at hf
          cases hf
          refine ⟨m1.tr m4, fun hc α _ _ _ _ _ kx => g1 (hc.le m4) α [] (Nat.zero_le _) (fun v1 e1 α1 w1 hp1 hr1 hc1 => ?_) (fun x e1 => by cases e1)⟩
          exact g4 hc α1 [w1] (by simpa using hc1) (fun v2 e2 => by cases e2) (fun x e1 α2 t hp2 => kx x (by cases e1; rfl) α2 t (hp1.trans hp2))
    · simp only [q_sA2, q_bS, ea] at hf
      cases hf
      exact ⟨m1, fun hc α _ _ _ _ _ kx => g1 hc α [] (Nat.zero_le _) (fun v1 e1 => by cases e1) (fun x e1 => kx x (by cases e1; rfl))⟩
end QHG
