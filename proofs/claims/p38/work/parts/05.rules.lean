/-! expressions -/
def q_bE {β : Type} (x : Option ((Value ⊕ Nat) × qH)) (f : Value → qH → Option ((β ⊕ Nat) × qH)) : Option ((β ⊕ Nat) × qH) :=
  match x with
  | none => none
  | some (.inr e, h) => some (.inr e, h)
  | some (.inl v, h) => f v h
def q_is : Nat → Value → Bool
  | 0, .int _ => true
  | 1, .long _ => true
  | 2, .float _ => true
  | 3, .double _ => true
  | 4, .ref _ => true
  | _, _ => false
def q_ct : Nat → Nat
  | 1 => 2
  | 3 => 2
  | _ => 1
def q_pr : Value → Bool
  | .ref _ => false
  | .retAddr _ => false
  | _ => true
theorem q_vr.pr {ro : Nat → Nat} {α : List Nat} {v w : Value} (h : q_vr ro α v w) (hp : q_pr v = true) : w = v := by
  cases v with
  | ref k => cases hp
  | retAddr k => cases hp
  | _ => exact h
theorem q_vr.of_pr {ro : Nat → Nat} {α : List Nat} {v : Value} (hp : q_pr v = true) : q_vr ro α v v := by
  cases v with
  | ref k => cases hp
  | retAddr k => cases hp
  | _ => rfl
theorem q_vr.cat {ro : Nat → Nat} {α : List Nat} {v w : Value} (h : q_vr ro α v w) : w.category = v.category := by
  cases v with
  | ref k => obtain ⟨a, h1, -⟩ := h; rw [h1]; rfl
  | retAddr k => exact h.elim
  | _ => rw [show w = _ from h]
theorem q_is_cat {t : Nat} {v : Value} (h : q_is t v = true) : v.category = q_ct t := by
  match t, v, h with
  | 0, .int _, _ => rfl
  | 1, .long _, _ => rfl
  | 2, .float _, _ => rfl
  | 3, .double _, _ => rfl
  | 4, .ref _, _ => rfl
def q_eLit (v : Value) : qE := fun _ h => some (.inl v, h)
def q_eLoc (t i : Nat) : qE := fun L h => match L[i]? with
  | some (some v) => if q_is t v then some (.inl v, h) else none
  | _ => none
def q_eBin (op : Value → Value → Option Value) (a b : qE) : qE := fun L h => q_bE (a L h) fun x h1 => q_bE (b L h1) fun y h2 => match op x y with
  | some v => some (.inl v, h2)
  | none => none
def q_eUn (op : Value → Option Value) (a : qE) : qE := fun L h => q_bE (a L h) fun x h1 => match op x with
  | some v => some (.inl v, h1)
  | none => none
def q_bB {β : Type} (x : Option ((Bool ⊕ Nat) × qH)) (f : Bool → qH → Option ((β ⊕ Nat) × qH)) : Option ((β ⊕ Nat) × qH) :=
  match x with
  | none => none
  | some (.inr e, h) => some (.inr e, h)
  | some (.inl v, h) => f v h
def q_eIf (b : qB) (x y : qE) : qE := fun L h => q_bB (b L h) fun t h1 => if t then x L h1 else y L h1
def q_cCmp (op : Value → Value → Option Bool) (a b : qE) : qB := fun L h => q_bE (a L h) fun x h1 => q_bE (b L h1) fun y h2 => match op x y with
  | some v => some (.inl v, h2)
  | none => none
def q_cCmp0 (op : Value → Option Bool) (a : qE) : qB := fun L h => q_bE (a L h) fun x h1 => match op x with
  | some v => some (.inl v, h1)
  | none => none
def q_cAnd (a b : qB) : qB := fun L h => q_bB (a L h) fun t h1 => if t then b L h1 else some (.inl false, h1)
def q_cOr (a b : qB) : qB := fun L h => q_bB (a L h) fun t h1 => if t then some (.inl true, h1) else b L h1
def q_cNot (a : qB) : qB := fun L h => q_bB (a L h) fun t h1 => some (.inl (!t), h1)
section QR
variable {X : qX} {T : Nat → Prop} {pc p1 p2 p3 pn pb pk k c c1 c2 : Nat} {f a b x y : qE} {B C : qB}
/-- a push of a value that is no reference -/
theorem q_push {v : Value} (hv : q_pr v = true) (hc : v.category ≤ c) (hrow : ∀ H locs cells slots ls rest, q_W X H locs cells slots (F0 (q_m X) p1 ls (v :: rest)) → q_W X H locs cells slots (F0 (q_m X) pc ls rest)) : q_EOK X T (q_eLit v) pc p1 k c := by
  intro L h r h' hf
  cases hf
  refine ⟨q_le.rf _, fun _ α rest _ kv _ => ?_⟩
  intro tys ws H locs cells slots ls hR
  exact hrow _ _ _ _ _ _ (kv v rfl α v (List.prefix_refl _) (q_vr.of_pr hv) hc tys ws H locs cells slots ls hR)
theorem q_loc {t i : Nat} (hc : q_ct t ≤ c) (hrow : ∀ H locs cells slots ls rest v, q_is t v = true → ls[i]? = some (.val v) → q_W X H locs cells slots (F0 (q_m X) p1 ls (v :: rest)) → q_W X H locs cells slots (F0 (q_m X) pc ls rest)) : q_EOK X T (q_eLoc t i) pc p1 k c := by
  intro L h r h' hf
  unfold q_eLoc at hf
  split at hf
  · rename_i v hv
    split at hf
    · rename_i ht
      cases hf
      refine ⟨q_le.rf _, fun _ α rest _ kv _ => ?_⟩
      intro tys ws H locs cells slots ls hR
      obtain ⟨⟨p, l, e, R, s, m, args, below, meth, c', Q⟩, D, A, ro, rot, c0, s0⟩ := X
      obtain ⟨w, hw, hr⟩ := hR.1.2.2.2 i v hv
      have hcat := hr.cat
      have ht' : q_is t w = true := by
        cases v with
        | ref k => obtain ⟨a, h1, -⟩ := hr; subst h1; match t, ht with | 4, _ => rfl
        | retAddr k => exact hr.elim
        | _ => rw [show w = _ from hr]; exact ht
      exact hrow _ _ _ _ _ _ w ht' hw (kv v rfl α w (List.prefix_refl _) hr (by rw [hcat, q_is_cat ht]; exact hc) tys ws H locs cells slots ls hR)
    · cases hf
  · cases hf
theorem q_sum {w : Value} {rest : List Value} (h1 : w.category ≤ c1) (h2 : (rest.map fun v : Value => v.category).sum ≤ k) : ((w :: rest).map fun v : Value => v.category).sum ≤ k + c1 := by
  rw [List.map_cons, List.sum_cons]; omega
theorem q_bin {op : Value → Value → Option Value} (ha : q_EOK X T a pc p1 k c1) (hb : q_EOK X T b p1 p2 (k + c1) c2)
    (hop : ∀ x y v, op x y = some v → q_pr x = true ∧ q_pr y = true ∧ q_pr v = true ∧ v.category ≤ c ∧ ∀ H locs cells slots ls rest, q_W X H locs cells slots (F0 (q_m X) p3 ls (v :: rest)) → q_W X H locs cells slots (F0 (q_m X) p2 ls (y :: x :: rest))) : q_EOK X T (q_eBin op a b) pc p3 k c := by
  intro L h r h' hf
  cases ea : a L h with
  | none => simp [q_eBin, q_bE, ea] at hf
  | some q =>
    obtain ⟨q | q, h1⟩ := q
    · cases eb : b L h1 with
      | none => simp [q_eBin, q_bE, ea, eb] at hf
      | some q2 =>
        obtain ⟨m1, g1⟩ := ha L h _ _ ea
        obtain ⟨m2, g2⟩ := hb L h1 _ _ eb
        obtain ⟨q2 | q2, h2⟩ := q2
        · cases eo : op q q2 with
          | none => simp [q_eBin, q_bE, ea, eb, eo] at hf
          | some v =>
            simp only [q_eBin, q_bE, ea, eb, eo] at hf
            cases hf
            obtain ⟨o1, o2, o3, o4, o5⟩ := hop _ _ _ eo
            refine ⟨m1.tr m2, fun hc α rest hk kv kx => g1 (hc.le m2) α rest hk (fun v1 e1 α1 w1 hp1 hr1 hc1 => ?_) (fun x e1 => by cases e1)⟩
            cases e1
            refine g2 hc α1 (w1 :: rest) (q_sum hc1 hk) (fun v2 e2 α2 w2 hp2 hr2 hc2 => ?_) (fun x e1 => by cases e1)
            cases e2
            have hw1 := hr1.pr o1
            have hw2 := hr2.pr o2
            subst hw1; subst hw2
            intro tys ws H locs cells slots ls hR
            exact o5 _ _ _ _ _ _ (kv v rfl α2 v (hp1.trans hp2) (q_vr.of_pr o3) o4 tys ws H locs cells slots ls hR)
        · simp only [q_eBin, q_bE, ea, eb] at hf
          cases hf
          refine ⟨m1.tr m2, fun hc α rest hk kv kx => g1 (hc.le m2) α rest hk (fun v1 e1 α1 w1 hp1 hr1 hc1 => ?_) (fun x e1 => by cases e1)⟩
          refine g2 hc α1 (w1 :: rest) (q_sum hc1 hk) (fun v2 e2 => by cases e2) (fun x e1 α2 t hp2 => kx x e1 α2 t (hp1.trans hp2))
    · simp only [q_eBin, q_bE, ea] at hf
      cases hf
      obtain ⟨m1, g1⟩ := ha L h _ _ ea
      exact ⟨m1, fun hc α rest hk kv kx => g1 hc α rest hk (fun v1 e1 => by cases e1) kx⟩
theorem q_un {op : Value → Option Value} (ha : q_EOK X T a pc p1 k c1)
    (hop : ∀ x v, op x = some v → q_pr x = true ∧ q_pr v = true ∧ v.category ≤ c ∧ ∀ H locs cells slots ls rest, q_W X H locs cells slots (F0 (q_m X) p2 ls (v :: rest)) → q_W X H locs cells slots (F0 (q_m X) p1 ls (x :: rest))) : q_EOK X T (q_eUn op a) pc p2 k c := by
  intro L h r h' hf
  cases ea : a L h with
  | none => simp [q_eUn, q_bE, ea] at hf
  | some q =>
    obtain ⟨m1, g1⟩ := ha L h _ _ ea
    obtain ⟨q | q, h1⟩ := q
    · cases eo : op q with
      | none => simp [q_eUn, q_bE, ea, eo] at hf
      | some v =>
        simp only [q_eUn, q_bE, ea, eo] at hf
        cases hf
        obtain ⟨o1, o3, o4, o5⟩ := hop _ _ eo
        refine ⟨m1, fun hc α rest hk kv kx => g1 hc α rest hk (fun v1 e1 α1 w1 hp1 hr1 hc1 => ?_) (fun x e1 => by cases e1)⟩
        cases e1
        have hw1 := hr1.pr o1
        subst hw1
        intro tys ws H locs cells slots ls hR
        exact o5 _ _ _ _ _ _ (kv v rfl α1 v hp1 (q_vr.of_pr o3) o4 tys ws H locs cells slots ls hR)
    · simp only [q_eUn, q_bE, ea] at hf
      cases hf
      exact ⟨m1, fun hc α rest hk kv kx => g1 hc α rest hk (fun v1 e1 => by cases e1) kx⟩
theorem q_cmp {op : Value → Value → Option Bool} (ha : q_EOK X T a pc p1 k c1) (hb : q_EOK X T b p1 p2 (k + c1) c2)
    (hop : ∀ x y v, op x y = some v → q_pr x = true ∧ q_pr y = true ∧ ∀ H locs cells slots ls rest, q_W X H locs cells slots (F0 (q_m X) (if v then pn else pb) ls rest) → q_W X H locs cells slots (F0 (q_m X) p2 ls (y :: x :: rest))) : q_BOK X T (q_cCmp op a b) pc pn pb k := by
  intro L h r h' hf
  cases ea : a L h with
  | none => simp [q_cCmp, q_bE, ea] at hf
  | some q =>
    obtain ⟨q | q, h1⟩ := q
    · cases eb : b L h1 with
      | none => simp [q_cCmp, q_bE, ea, eb] at hf
      | some q2 =>
        obtain ⟨m1, g1⟩ := ha L h _ _ ea
        obtain ⟨m2, g2⟩ := hb L h1 _ _ eb
        obtain ⟨q2 | q2, h2⟩ := q2
        · cases eo : op q q2 with
          | none => simp [q_cCmp, q_bE, ea, eb, eo] at hf
          | some v =>
            simp only [q_cCmp, q_bE, ea, eb, eo] at hf
            cases hf
            obtain ⟨o1, o2, o5⟩ := hop _ _ _ eo
            refine ⟨m1.tr m2, fun hc α rest hk kt kf kx => g1 (hc.le m2) α rest hk (fun v1 e1 α1 w1 hp1 hr1 hc1 => ?_) (fun x e1 => by cases e1)⟩
            cases e1
            refine g2 hc α1 (w1 :: rest) (q_sum hc1 hk) (fun v2 e2 α2 w2 hp2 hr2 hc2 => ?_) (fun x e1 => by cases e1)
            cases e2
            have hw1 := hr1.pr o1
            have hw2 := hr2.pr o2
            subst hw1; subst hw2
            intro tys ws H locs cells slots ls hR
            refine o5 _ _ _ _ _ _ ?_
            cases v
            · exact kf rfl α2 (hp1.trans hp2) tys ws H locs cells slots ls hR
            · exact kt rfl α2 (hp1.trans hp2) tys ws H locs cells slots ls hR
        · simp only [q_cCmp, q_bE, ea, eb] at hf
          cases hf
          refine ⟨m1.tr m2, fun hc α rest hk kt kf kx => g1 (hc.le m2) α rest hk (fun v1 e1 α1 w1 hp1 hr1 hc1 => ?_) (fun x e1 => by cases e1)⟩
          refine g2 hc α1 (w1 :: rest) (q_sum hc1 hk) (fun v2 e2 => by cases e2) (fun x e1 α2 t hp2 => kx x (by cases e1; rfl) α2 t (hp1.trans hp2))
    · simp only [q_cCmp, q_bE, ea] at hf
      cases hf
      obtain ⟨m1, g1⟩ := ha L h _ _ ea
      exact ⟨m1, fun hc α rest hk kt kf kx => g1 hc α rest hk (fun v1 e1 => by cases e1) (fun x e1 => kx x (by cases e1; rfl))⟩
theorem q_cmp0 {op : Value → Option Bool} (ha : q_EOK X T a pc p1 k c1)
    (hop : ∀ x v, op x = some v → q_pr x = true ∧ ∀ H locs cells slots ls rest, q_W X H locs cells slots (F0 (q_m X) (if v then pn else pb) ls rest) → q_W X H locs cells slots (F0 (q_m X) p1 ls (x :: rest))) : q_BOK X T (q_cCmp0 op a) pc pn pb k := by
  intro L h r h' hf
  cases ea : a L h with
  | none => simp [q_cCmp0, q_bE, ea] at hf
  | some q =>
    obtain ⟨m1, g1⟩ := ha L h _ _ ea
    obtain ⟨q | q, h1⟩ := q
    · cases eo : op q with
      | none => simp [q_cCmp0, q_bE, ea, eo] at hf
      | some v =>
        simp only [q_cCmp0, q_bE, ea, eo] at hf
        cases hf
        obtain ⟨o1, o5⟩ := hop _ _ eo
        refine ⟨m1, fun hc α rest hk kt kf kx => g1 hc α rest hk (fun v1 e1 α1 w1 hp1 hr1 hc1 => ?_) (fun x e1 => by cases e1)⟩
        cases e1
        have hw1 := hr1.pr o1
        subst hw1
        intro tys ws H locs cells slots ls hR
        refine o5 _ _ _ _ _ _ ?_
        cases v
        · exact kf rfl α1 hp1 tys ws H locs cells slots ls hR
        · exact kt rfl α1 hp1 tys ws H locs cells slots ls hR
    · simp only [q_cCmp0, q_bE, ea] at hf
      cases hf
      exact ⟨m1, fun hc α rest hk kt kf kx => g1 hc α rest hk (fun v1 e1 => by cases e1) (fun x e1 => kx x (by cases e1; rfl))⟩
theorem q_and (ha : q_BOK X T B pc p1 pb k) (hb : q_BOK X T C p1 pn pb k) : q_BOK X T (q_cAnd B C) pc pn pb k := by
  intro L h r h' hf
  cases ea : B L h with
  | none => simp [q_cAnd, q_bB, ea] at hf
  | some q =>
    obtain ⟨m1, g1⟩ := ha L h _ _ ea
    obtain ⟨(_ | _) | q, h1⟩ := q
    · simp only [q_cAnd, q_bB, ea] at hf
      cases hf
      exact ⟨m1, fun hc α rest hk kt kf kx => g1 hc α rest hk (fun e1 => by cases e1) kf (fun x e1 => by cases e1)⟩
    · have hf : C L h1 = some (r, h') := by simpa [q_cAnd, q_bB, ea] using hf
      obtain ⟨m2, g2⟩ := hb L h1 _ _ hf
      exact ⟨m1.tr m2, fun hc α rest hk kt kf kx => g1 (hc.le m2) α rest hk (fun _ α1 hp1 => g2 hc α1 rest hk (fun e α2 hp2 => kt e α2 (hp1.trans hp2)) (fun e α2 hp2 => kf e α2 (hp1.trans hp2)) (fun x e α2 t hp2 => kx x e α2 t (hp1.trans hp2))) (fun e1 => by cases e1) (fun x e1 => by cases e1)⟩
    · simp only [q_cAnd, q_bB, ea] at hf
      cases hf
      exact ⟨m1, fun hc α rest hk kt kf kx => g1 hc α rest hk (fun e1 => by cases e1) (fun e1 => by cases e1) kx⟩
theorem q_or (ha : q_BOK X T B pc pn p1 k) (hb : q_BOK X T C p1 pn pb k) : q_BOK X T (q_cOr B C) pc pn pb k := by
  intro L h r h' hf
  cases ea : B L h with
  | none => simp [q_cOr, q_bB, ea] at hf
  | some q =>
    obtain ⟨m1, g1⟩ := ha L h _ _ ea
    obtain ⟨(_ | _) | q, h1⟩ := q
    · have hf : C L h1 = some (r, h') := by simpa [q_cOr, q_bB, ea] using hf
      obtain ⟨m2, g2⟩ := hb L h1 _ _ hf
      exact ⟨m1.tr m2, fun hc α rest hk kt kf kx => g1 (hc.le m2) α rest hk (fun e1 => by cases e1) (fun _ α1 hp1 => g2 hc α1 rest hk (fun e α2 hp2 => kt e α2 (hp1.trans hp2)) (fun e α2 hp2 => kf e α2 (hp1.trans hp2)) (fun x e α2 t hp2 => kx x e α2 t (hp1.trans hp2))) (fun x e1 => by cases e1)⟩
    · simp only [q_cOr, q_bB, ea] at hf
      cases hf
      exact ⟨m1, fun hc α rest hk kt kf kx => g1 hc α rest hk kt (fun e1 => by cases e1) (fun x e1 => by cases e1)⟩
    · simp only [q_cOr, q_bB, ea] at hf
      cases hf
      exact ⟨m1, fun hc α rest hk kt kf kx => g1 hc α rest hk (fun e1 => by cases e1) (fun e1 => by cases e1) kx⟩
theorem q_not (ha : q_BOK X T B pc pb pn k) : q_BOK X T (q_cNot B) pc pn pb k := by
  intro L h r h' hf
  cases ea : B L h with
  | none => simp [q_cNot, q_bB, ea] at hf
  | some q =>
    obtain ⟨m1, g1⟩ := ha L h _ _ ea
    obtain ⟨(_ | _) | q, h1⟩ := q <;> simp only [q_cNot, q_bB, ea] at hf <;> cases hf
    · exact ⟨m1, fun hc α rest hk kt kf kx => g1 hc α rest hk (fun e1 => by cases e1) (fun _ => kt rfl) (fun x e1 => by cases e1)⟩
    · exact ⟨m1, fun hc α rest hk kt kf kx => g1 hc α rest hk (fun _ => kf rfl) (fun e1 => by cases e1) (fun x e1 => by cases e1)⟩
    · exact ⟨m1, fun hc α rest hk kt kf kx => g1 hc α rest hk (fun e1 => by cases e1) (fun e1 => by cases e1) kx⟩
/-- a jump: what the machine does at p1 is what it does at p2 -/
def q_J (X : qX) (p1 p2 : Nat) : Prop := ∀ H locs cells slots ls rest, q_W X H locs cells slots (F0 (q_m X) p2 ls rest) → q_W X H locs cells slots (F0 (q_m X) p1 ls rest)
theorem q_G.jump (hj : q_J X p1 p2) {L : qL} {h : qH} {α : List Nat} {st : List Value} (hg : q_G X L h α p2 st) : q_G X L h α p1 st :=
  fun tys ws H locs cells slots ls hR => hj _ _ _ _ _ _ (hg tys ws H locs cells slots ls hR)
theorem q_jt (hj : q_J X p1 pn) (ha : q_BOK X T B pc p1 pb k) : q_BOK X T B pc pn pb k := fun L h r h' hf => by
  obtain ⟨m1, g1⟩ := ha L h r h' hf
  exact ⟨m1, fun hc α rest hk kt kf kx => g1 hc α rest hk (fun e α1 hp => (kt e α1 hp).jump hj) kf kx⟩
theorem q_jf (hj : q_J X p1 pb) (ha : q_BOK X T B pc pn p1 k) : q_BOK X T B pc pn pb k := fun L h r h' hf => by
  obtain ⟨m1, g1⟩ := ha L h r h' hf
  exact ⟨m1, fun hc α rest hk kt kf kx => g1 hc α rest hk kt (fun e α1 hp => (kf e α1 hp).jump hj) kx⟩
theorem q_jE (hj : q_J X p1 p2) (ha : q_EOK X T a pc p1 k c) : q_EOK X T a pc p2 k c := fun L h r h' hf => by
  obtain ⟨m1, g1⟩ := ha L h r h' hf
  exact ⟨m1, fun hc α rest hk kv kx => g1 hc α rest hk (fun v e α1 w hp hr hcc => (kv v e α1 w hp hr hcc).jump hj) kx⟩
theorem q_if (hb : q_BOK X T B pc p1 p2 k) (hx : q_EOK X T x p1 p3 k c) (hy : q_EOK X T y p2 p3 k c) : q_EOK X T (q_eIf B x y) pc p3 k c := by
  intro L h r h' hf
  cases ea : B L h with
  | none => simp [q_eIf, q_bB, ea] at hf
  | some q =>
    obtain ⟨m1, g1⟩ := hb L h _ _ ea
    obtain ⟨(_ | _) | q, h1⟩ := q
    · have hf : y L h1 = some (r, h') := by simpa [q_eIf, q_bB, ea] using hf
      obtain ⟨m2, g2⟩ := hy L h1 _ _ hf
      exact ⟨m1.tr m2, fun hc α rest hk kv kx => g1 (hc.le m2) α rest hk (fun e1 => by cases e1) (fun _ α1 hp1 => g2 hc α1 rest hk (fun v e α2 w hp2 => kv v e α2 w (hp1.trans hp2)) (fun z e α2 t hp2 => kx z e α2 t (hp1.trans hp2))) (fun x e1 => by cases e1)⟩
    · have hf : x L h1 = some (r, h') := by simpa [q_eIf, q_bB, ea] using hf
      obtain ⟨m2, g2⟩ := hx L h1 _ _ hf
      exact ⟨m1.tr m2, fun hc α rest hk kv kx => g1 (hc.le m2) α rest hk (fun _ α1 hp1 => g2 hc α1 rest hk (fun v e α2 w hp2 => kv v e α2 w (hp1.trans hp2)) (fun z e α2 t hp2 => kx z e α2 t (hp1.trans hp2))) (fun e1 => by cases e1) (fun x e1 => by cases e1)⟩
    · simp only [q_eIf, q_bB, ea] at hf
      cases hf
      exact ⟨m1, fun hc α rest hk kv kx => g1 hc α rest hk (fun e1 => by cases e1) (fun e1 => by cases e1) (fun x e1 => kx x (by cases e1; rfl))⟩
end QR
