/-! THE ABSTRACT MACHINE. Values with cell numbers in place of addresses (0 to 15: cells that nobody writes; k + 16: the k-th cell made), locals, and what the printed code does as functions; then, for each kind of expression, condition and statement, that the machine does what the function says. -/
abbrev qC : Type := (FieldType × vp_A) ⊕ (Nat × List Value)
abbrev qH : Type := List qC × Nat × Nat
abbrev qL : Type := List (Option Value)
abbrev qE : Type := qL → qH → Option ((Value ⊕ Nat) × qH)
abbrev qB : Type := qL → qH → Option ((Bool ⊕ Nat) × qH)
abbrev qS : Type := qL → qH → Option ((Nat × Value) × qL × qH)
abbrev qF : Type := List Value → qH → Option ((Value ⊕ Nat) × qH)
abbrev qAs : Type := qL → qH → Option ((List Value ⊕ Nat) × qH)
abbrev qRO : Type := Nat → Option (FieldType × Nat × (Nat → Int32))
/-- the exceptions by number -/
def q_xn : Nat → String
  | 0 => "java/lang/IllegalArgumentException"
  | 1 => "java/lang/IndexOutOfBoundsException"
  | 2 => "java/lang/IllegalStateException"
  | 3 => "java/util/NoSuchElementException"
  | _ => "java/lang/ArithmeticException"
/-- an abstract value and a value of the machine -/
def q_vr (ro : Nat → Nat) (α : List Nat) : Value → Value → Prop
  | .ref k, w => ∃ a, w = .ref a ∧ ((k < 16 ∧ ro k = a) ∨ (16 ≤ k ∧ α[k - 16]? = some a))
  | .int x, w => w = .int x
  | .long x, w => w = .long x
  | .float x, w => w = .float x
  | .double x, w => w = .double x
  | .null, w => w = .null
  | .retAddr _, _ => False
def q_cr (ro : Nat → Nat) (α : List Nat) (tys : List (ClassId × FieldType)) : qC → va_E → Prop
  | .inl (ty, x), .inl (cA, y) => x = y ∧ ∃ t0 : Nat, tys[t0]? = some (cA, ty)
  | .inr (ci, fs), .inr (cj, gs) => ci = cj ∧ fs.length = gs.length ∧ ∀ (k : Nat) (v : Value), fs[k]? = some v → ∃ w, gs[k]? = some w ∧ q_vr ro α v w
  | _, _ => False
/-- the abstract cells and the world -/
def q_hr (ro : Nat → Nat) (tys : List (ClassId × FieldType)) (cs : List qC) (α : List Nat) (ws : va_W) : Prop :=
  ws.map (·.1) = α ∧ ws.length = cs.length ∧ ∀ (k : Nat) (c : qC), cs[k]? = some c → ∃ q : Nat × va_E, ws[k]? = some q ∧ q_cr ro α tys c q.2
def q_lr (ro : Nat → Nat) (α : List Nat) (nL : Nat) (L : qL) (ls : Array Slot) : Prop :=
  ls.size = nL ∧ L.length = nL ∧ lv_wf ls ∧ ∀ (i : Nat) (v : Value), L[i]? = some (some v) → ∃ w, ls[i]? = some (.val w) ∧ q_vr ro α v w
def q_vrs (ro : Nat → Nat) (α : List Nat) : List Value → List Value → Prop
  | [], [] => True
  | v :: vs, w :: ws => q_vr ro α v w ∧ q_vrs ro α vs ws
  | _, _ => False
def q_Ca (C T : String) (U : State) : Prop := ∃ c t : ClassId, U.vm.findClass C = some c ∧ U.vm.findClass T = some t ∧ U.vm.assignable c t = true
theorem q_Ca.moved {C T : String} {u U : State} (hvm : u.vm.Alike U.vm) (h : q_Ca C T u) : q_Ca C T U := by
  obtain ⟨c, t, h1, h2, h3⟩ := h
  exact ⟨c, t, by rw [hvm.findClass]; exact h1, by rw [hvm.findClass]; exact h2, by rw [hvm.assignable]; exact h3⟩
theorem q_Ca.word {C T : String} {s : State} {args : Array Value} (h : q_Ca C T s) : (Cond.castable C T).before args s = true := by
  obtain ⟨c, t, h1, h2, h3⟩ := h
  simp [Cond.before, Cond.holds, Cond.value, h1, h2, h3]
theorem q_De.warm {y : MethodName} {s U : State} (hW : s.WarmedH U.vm) (h : va_Nw (.declares y) s) : va_Nw (.declares y) U := by
  have h1 : va_Nw (.declares y) (s.setVm U.vm) := by
    show (Cond.declares y).before #[] (s.setVm U.vm) = true
    rw [Cond.declares_setVm hW.alike]
    exact h
  exact va_tabs rfl (rfl : (s.setVm U.vm).vm = U.vm) h1
theorem q_Ca.of {C T : String} {s : State} {args : Array Value} (h : (Cond.castable C T).before args s = true) : q_Ca C T s := Cond.castable_spec h
/-- what nobody writes: the static arrays and the script, the statics, the texts -/
def q_St (rot : qRO) (ro : Nat → Nat) (A : Nat → Prop) (U : State) (H : Heap) : Prop :=
  (∀ (k : Nat) (x : FieldType × Nat × (Nat → Int32)), rot k = some x → k < 16 ∧ va_T x.1 (ro k) x.2.1 (fun j => .int (x.2.2 j)) A U H) ∧
  (∀ q ∈ q_stt, va_Z q.1 q.2.1 q.2.2.1 (.ref (ro q.2.2.2)) A U H) ∧
  vx_Zq Bundle.tN "UNASSIGNED_STACK" Bundle.steD A U H ∧ vx_Zq Bundle.tN "SUPPRESSED_SENTINEL" Bundle.listD A U H ∧
  (∀ q ∈ q_strs, ∃ a, vk_R q.1 q.2.1 q.2.2 a U) ∧
  (vk_S 1 [3] [[108, 103, 119]] (fun _ => ro 14) (fun _ => ro 15) A U H ∧ vk_R "SliceWrightLaw" 112 "lgw" (ro 14) U ∧ va_Z "java/lang/String" "COMPACT_STRINGS" "Z" (.int 1) A U H ∧ (va_Z "jdk/internal/util/Preconditions" "SIOOBE_FORMATTER" "Ljava/util/function/BiFunction;" .null A U H ∨ va_Z "jdk/internal/util/Preconditions" "SIOOBE_FORMATTER" "Ljava/util/function/BiFunction;" (.ref (ro 13)) A U H)) ∧
  (∀ q ∈ q_NM, va_Nw (.methodLinkNest q.1 q.2.1 q.2.2 "SliceWright") U) ∧ (∀ q ∈ q_NF, va_Nw (.fieldLinkNest q.1 q.2.1 q.2.2.1 q.2.2.2.1 q.2.2.2.2 "SliceWright") U) ∧ (∀ q ∈ q_NC, va_Nc q.1 q.2 U) ∧ (∀ q ∈ q_EX, q_Ca q q U) ∧ (∀ q ∈ q_DE, va_Nw (.declares q) U)
theorem q_St.narrow {rot : qRO} {ro : Nat → Nat} {A B : Nat → Prop} {U : State} {H : Heap} (h : q_St rot ro A U H) (hAB : ∀ q, B q → A q) : q_St rot ro B U H :=
  ⟨fun k x hx => ⟨(h.1 k x hx).1, (h.1 k x hx).2.narrow hAB⟩, fun q hq => (h.2.1 q hq).narrow hAB, h.2.2.1.narrow hAB, h.2.2.2.1.narrow hAB, h.2.2.2.2.1, ⟨h.2.2.2.2.2.1.1.narrow hAB, h.2.2.2.2.2.1.2.1, h.2.2.2.2.2.1.2.2.1.narrow hAB, h.2.2.2.2.2.1.2.2.2.imp (fun z => z.narrow hAB) (fun z => z.narrow hAB)⟩, h.2.2.2.2.2.2⟩
theorem q_St.kept {rot : qRO} {ro : Nat → Nat} {A : Nat → Prop} {U : State} {H H1 : Heap} (h : q_St rot ro A U H) (hq : ∀ a : Nat, a < H.size → ¬ A a → H1[a]? = H[a]?) : q_St rot ro A U H1 :=
  ⟨fun k x hx => ⟨(h.1 k x hx).1, (h.1 k x hx).2.kept hq⟩, fun q hx => (h.2.1 q hx).kept hq, h.2.2.1.kept hq, h.2.2.2.1.kept hq, h.2.2.2.2.1, ⟨h.2.2.2.2.2.1.1.kept hq, h.2.2.2.2.2.1.2.1, h.2.2.2.2.2.1.2.2.1.kept hq, h.2.2.2.2.2.1.2.2.2.imp (fun z => z.kept hq) (fun z => z.kept hq)⟩, h.2.2.2.2.2.2⟩
theorem q_St.warm {rot : qRO} {ro : Nat → Nat} {A : Nat → Prop} {s U : State} {H : Heap} (h : q_St rot ro A s H) (hW : s.WarmedH U.vm) : q_St rot ro A U H :=
  ⟨fun k x hx => ⟨(h.1 k x hx).1, (h.1 k x hx).2.moved hW.alike⟩, fun q hx => (h.2.1 q hx).moved hW.alike, h.2.2.1.moved hW.alike, h.2.2.2.1.moved hW.alike, fun q hx => by obtain ⟨a, ha⟩ := h.2.2.2.2.1 q hx; exact ⟨a, ha.warm hW⟩, ⟨h.2.2.2.2.2.1.1.moved hW.alike, h.2.2.2.2.2.1.2.1.warm hW, h.2.2.2.2.2.1.2.2.1.moved hW.alike, h.2.2.2.2.2.1.2.2.2.imp (fun z => z.moved hW.alike) (fun z => z.moved hW.alike)⟩, fun q hx => va_Nw.warmM hW (h.2.2.2.2.2.2.1 q hx), fun q hx => va_Nw.warmF hW (h.2.2.2.2.2.2.2.1 q hx), fun q hx => (h.2.2.2.2.2.2.2.2.1 q hx).moved hW.alike, fun q hx => (h.2.2.2.2.2.2.2.2.2.1 q hx).moved hW.alike, fun q hx => q_De.warm hW (h.2.2.2.2.2.2.2.2.2.2 q hx)⟩
theorem q_vr.mono {ro : Nat → Nat} {α β : List Nat} (hp : α <+: β) {v w : Value} (h : q_vr ro α v w) : q_vr ro β v w := by
  obtain ⟨t, rfl⟩ := hp
  cases v with
  | ref k =>
    obtain ⟨a, h1, h2⟩ := h
    refine ⟨a, h1, ?_⟩
    rcases h2 with h2 | ⟨h2, h3⟩
    · exact Or.inl h2
    · refine Or.inr ⟨h2, ?_⟩
      rw [List.getElem?_append_left (List.getElem?_eq_some_iff.mp h3).1]; exact h3
  | _ => exact h
theorem q_vrs.mono {ro : Nat → Nat} {α β : List Nat} (hp : α <+: β) : ∀ {vs ws : List Value}, q_vrs ro α vs ws → q_vrs ro β vs ws
  | [], [], _ => trivial
  | _ :: _, _ :: _, h => ⟨h.1.mono hp, h.2.mono hp⟩
  | [], _ :: _, h => h
  | _ :: _, [], h => h
theorem q_cr.mono {ro : Nat → Nat} {α β : List Nat} (hp : α <+: β) {tys : List (ClassId × FieldType)} {c : qC} {e : va_E} (h : q_cr ro α tys c e) : q_cr ro β tys c e := by
  cases c with
  | inl x => cases e with
    | inl y => exact h
    | inr y => exact h
  | inr x => cases e with
    | inl y => exact h
    | inr y =>
      obtain ⟨h1, h2, h3⟩ := h
      refine ⟨h1, h2, fun k v hv => ?_⟩
      obtain ⟨w, hw, hr⟩ := h3 k v hv
      exact ⟨w, hw, hr.mono hp⟩
theorem q_cr.tys {ro : Nat → Nat} {α : List Nat} {tys t2 : List (ClassId × FieldType)} {c : qC} {e : va_E} (h : q_cr ro α tys c e) : q_cr ro α (tys ++ t2) c e := by
  cases c with
  | inl x => cases e with
    | inl y =>
      obtain ⟨h1, t0, h2⟩ := h
      exact ⟨h1, t0, by rw [List.getElem?_append_left (List.getElem?_eq_some_iff.mp h2).1]; exact h2⟩
    | inr y => exact h
  | inr x => cases e with
    | inl y => exact h
    | inr y => exact h
theorem q_lr.mono {ro : Nat → Nat} {α β : List Nat} (hp : α <+: β) {nL : Nat} {L : qL} {ls : Array Slot} (h : q_lr ro α nL L ls) : q_lr ro β nL L ls :=
  ⟨h.1, h.2.1, h.2.2.1, fun i v hv => by obtain ⟨w, h1, h2⟩ := h.2.2.2 i v hv; exact ⟨w, h1, h2.mono hp⟩⟩
/-- what stays the same in a method's body -/
abbrev qX : Type := (Program × Launch × Env × Room × State × MethodId × Array Value × List Frame × Method × Code × (State → Prop)) × va_G × (Nat → Prop) × (Nat → Nat) × qRO × Nat × Nat
def q_W (X : qX) (H : Heap) (locs : List Loc) (cells slots : Nat) (g : JFrame) : Prop :=
  match X with
  | ((p, l, e, R, s, m, args, below, meth, c, Q), _) => W p l e R s m args below meth c H locs cells slots Q g
def q_WX (X : qX) (H : Heap) (locs : List Loc) (cells slots : Nat) (g : JFrame) (q : Addr) : Prop :=
  match X with
  | ((p, l, e, R, s, m, args, below, meth, c, Q), _) => vx_W p l e R s m args below meth c H locs cells slots Q g q
def q_m (X : qX) : MethodId := X.1.2.2.2.2.2.1
def q_s (X : qX) : State := X.1.2.2.2.2.1
/-- the state of the machine at an abstract state -/
def q_R (X : qX) (L : qL) (h : qH) (α : List Nat) (tys : List (ClassId × FieldType)) (ws : va_W) (H : Heap) (locs : List Loc) (cells slots : Nat) (ls : Array Slot) : Prop :=
  match X with
  | ((_, _, _, _, s, _, _, _, _, c, _), D, A, ro, _, c0, s0) => q_lr ro α c.maxLocals L ls ∧ q_hr ro tys h.1 α ws ∧ va_K D q_cl tys s ∧ va_P D q_cl ws H ∧ va_D A ws ∧ va_S A s.heap H locs ∧ cells + c0 = h.2.1 ∧ slots + s0 = h.2.2
def q_G (X : qX) (L : qL) (h : qH) (α : List Nat) (pc : Nat) (st : List Value) : Prop :=
  ∀ tys ws H locs cells slots ls, q_R X L h α tys ws H locs cells slots ls → q_W X H locs cells slots (F0 (q_m X) pc ls st)
/-- thrown: the exception of the number x at q -/
def q_GX (X : qX) (L : qL) (h : qH) (α : List Nat) (pc x : Nat) : Prop :=
  ∀ tys ws H locs cells slots ls st q ce, q_R X L h α tys ws H locs cells slots ls → H[q]? = some ce → ce.vm = .none → (q_s X).vm.findClass (q_xn x) = some ce.cls → q_WX X H locs cells slots (F0 (q_m X) pc ls st) q
def q_ri : Option FieldType → Instr
  | none => .return_
  | some .long => .lreturn
  | some .float => .freturn
  | some .double => .dreturn
  | some (.object _) => .areturn
  | some (.array _) => .areturn
  | some _ => .ireturn
def q_RET (X : qX) (h : qH) (α : List Nat) (ow : Option Value) : Prop :=
  ∀ tys ws H locs cells slots ls L pc, q_R X L h α tys ws H locs cells slots ls → decode X.1.2.2.2.2.2.2.2.2.2.1.code pc = .ok (q_ri X.1.2.2.2.2.2.2.2.2.1.sig.returnType, 1) → q_W X H locs cells slots (F0 (q_m X) pc ls ow.toList)
def q_cap (X : qX) (h : qH) : Prop :=
  match X with
  | ((_, _, _, R, _, _, _, _, _, _, _), _, _, _, _, c0, s0) => h.2.1 ≤ c0 + R.cells ∧ h.2.2 ≤ s0 + R.slots
def q_le (h h' : qH) : Prop := h.2.1 ≤ h'.2.1 ∧ h.2.2 ≤ h'.2.2
theorem q_le.rf (h : qH) : q_le h h := ⟨Nat.le_refl _, Nat.le_refl _⟩
theorem q_le.tr {a b c : qH} (h1 : q_le a b) (h2 : q_le b c) : q_le a c := ⟨Nat.le_trans h1.1 h2.1, Nat.le_trans h1.2 h2.2⟩
theorem q_cap.le {X : qX} {h h' : qH} (h1 : q_cap X h') (h2 : q_le h h') : q_cap X h := by
  obtain ⟨⟨p, l, e, R, s, m, args, below, meth, c, Q⟩, D, A, ro, rot, c0, s0⟩ := X
  exact ⟨Nat.le_trans h2.1 h1.1, Nat.le_trans h2.2 h1.2⟩
/-- the fixed facts: code cc, class own, words Ts, fr frames and their room -/
def q_OK (X : qX) (cc : ByteArray) (own : String) (nL : Nat) (ret : Option FieldType) (fr : Nat) : Prop :=
  match X with
  | ((p, l, _, R, s, m, args, _, meth, c, _), _, A, ro, rot, _, _) => p.tables.exec = Jvm.exec ∧ c.code = cc ∧ c.maxLocals = nL ∧ meth.sig.returnType = ret ∧ s.vm.findClass own = some m.cls ∧ (∀ w ∈ q_WS, w.before args s = true) ∧ l.stackTraces = false ∧ meth.locks = false ∧ q_St rot ro A s s.heap ∧ (∀ q, s.heap.size ≤ q → A q) ∧ fr ≤ R.frames ∧ 34 * fr + 88 ≤ R.locals
def q_EOK (X : qX) (T : Nat → Prop) (f : qE) (pc pc' k c : Nat) : Prop :=
  ∀ L h r h', f L h = some (r, h') → q_le h h' ∧ (q_cap X h' → ∀ α rest, (rest.map fun v : Value => v.category).sum ≤ k →
    (∀ v, r = .inl v → ∀ α' w, α <+: α' → q_vr X.2.2.2.1 α' v w → w.category ≤ c → q_G X L h' α' pc' (w :: rest)) →
    (∀ x, r = .inr x → ∀ α' t, α <+: α' → T t → q_GX X L h' α' t x) → q_G X L h α pc rest)
def q_BOK (X : qX) (T : Nat → Prop) (f : qB) (pc tp fp k : Nat) : Prop :=
  ∀ L h r h', f L h = some (r, h') → q_le h h' ∧ (q_cap X h' → ∀ α rest, (rest.map fun v : Value => v.category).sum ≤ k →
    (r = .inl true → ∀ α', α <+: α' → q_G X L h' α' tp rest) → (r = .inl false → ∀ α', α <+: α' → q_G X L h' α' fp rest) →
    (∀ x, r = .inr x → ∀ α' t, α <+: α' → T t → q_GX X L h' α' t x) → q_G X L h α pc rest)
/-- arguments: pushed one behind another -/
def q_AOK (X : qX) (T : Nat → Prop) (f : qAs) (pc pc' k n : Nat) : Prop :=
  ∀ L h r h', f L h = some (r, h') → q_le h h' ∧ (q_cap X h' → ∀ α rest, (rest.map fun v : Value => v.category).sum ≤ k →
    (∀ vs, r = .inl vs → ∀ α' wv, α <+: α' → vs.length = n → q_vrs X.2.2.2.1 α' vs wv → q_G X L h' α' pc' (wv.reverse ++ rest)) →
    (∀ x, r = .inr x → ∀ α' t, α <+: α' → T t → q_GX X L h' α' t x) → q_G X L h α pc rest)
/-- a statement: on to pn, out of the loop to pb, on in the loop to pk, the method's end, or thrown -/
def q_SOK (X : qX) (T : Nat → Prop) (f : qS) (pc pn pb pk : Nat) : Prop :=
  ∀ L h o L' h', f L h = some (o, L', h') → q_le h h' ∧ (q_cap X h' → ∀ α,
    (o.1 = 0 → ∀ α', α <+: α' → q_G X L' h' α' pn []) → (o.1 = 1 → ∀ α', α <+: α' → q_G X L' h' α' pb []) → (o.1 = 2 → ∀ α', α <+: α' → q_G X L' h' α' pk []) →
    (o.1 = 3 → ∀ α', α <+: α' → q_RET X h' α' none) → (o.1 = 4 → ∀ α' w, α <+: α' → q_vr X.2.2.2.1 α' o.2 w → q_RET X h' α' (some w)) →
    (∀ x, o.1 = x + 5 → ∀ α' t, α <+: α' → T t → q_GX X L' h' α' t x) → q_G X L h α pc [])
