/-! arguments, calls, new objects and arrays, thrown exceptions -/
def q_aNil : qAs := fun _ h => some (.inl [], h)
def q_aCons (e : qE) (as : qAs) : qAs := fun L h => match e L h with
  | none => none
  | some (.inr x, h1) => some (.inr x, h1)
  | some (.inl v, h1) => match as L h1 with
    | none => none
    | some (.inr x, h2) => some (.inr x, h2)
    | some (.inl vs, h2) => some (.inl (v :: vs), h2)
/-- the class of a receiver -/
def q_obj (h : qH) (vs : List Value) : Option Nat → Bool
  | none => true
  | some ci => match vs with
    | .ref a :: _ => if a < 16 then a == 14 && ci == 0 else (match h.1[a - 16]? with
      | some (.inr (c, _)) => c == ci
      | _ => false)
    | _ => false
/-- t: the kind of the answer; ci: the receiver's class, none for a static method -/
def q_eCall (t : Nat) (ci : Option Nat) (F : qF) (as : qAs) : qE := fun L h => match as L h with
  | none => none
  | some (.inr x, h1) => some (.inr x, h1)
  | some (.inl vs, h1) => if q_obj h1 vs ci then (match F vs h1 with
    | none => none
    | some (.inr x, h2) => some (.inr x, h2)
    | some (.inl v, h2) => if q_is t v then some (.inl v, h2) else none) else none
/-- a call whose answer is void -/
def q_sCall (ci : Option Nat) (F : qF) (as : qAs) : qS := fun L h => match as L h with
  | none => none
  | some (.inr x, h1) => some ((x + 5, .null), L, h1)
  | some (.inl vs, h1) => if q_obj h1 vs ci then (match F vs h1 with
    | none => none
    | some (.inr x, h2) => some ((x + 5, .null), L, h2)
    | some (.inl _, h2) => some ((0, .null), L, h2)) else none
def q_A (α : List Nat) (sz : Nat) : Nat → Prop := fun q => q ∈ α ∨ sz ≤ q
def q_Ew (D : va_G) (ro : Nat → Nat) (h : qH) (α : List Nat) (A : Nat → Prop) (U : State) : Prop :=
  ∃ tys ws, q_hr ro tys h.1 α ws ∧ va_K D q_cl tys U ∧ va_P D q_cl ws U.heap ∧ va_D A ws
def q_Bw (D : va_G) (ro : Nat → Nat) (rot : qRO) (h : qH) (α : List Nat) (sz : Nat) (U : State) : Prop :=
  U.heap.size = sz ∧ q_St rot ro (q_A α sz) U U.heap ∧ q_Ew D ro h α (q_A α sz) U
def q_ov (ro : Nat → Nat) (α : List Nat) (rt : Option FieldType) (v : Value) (ow : Option Value) : Prop := match rt with
  | none => ow = none
  | some _ => ∃ w, ow = some w ∧ q_vr ro α v w
def q_ow (ro : Nat → Nat) (α : List Nat) (rt : Option FieldType) (v : Value) (o : Outcome) : Prop := ∃ ow, o = .returned ow ∧ q_ov ro α rt v ow
def q_Qc (D : va_G) (ro : Nat → Nat) (r : Value ⊕ Nat) (h' : qH) (α : List Nat) (sz : Nat) (rt : Option FieldType) : Array Value → State → Outcome → State → Prop := fun _ st o t =>
  ∃ v α', r = .inl v ∧ α <+: α' ∧ q_ow ro α' rt v o ∧ q_Ew D ro h' α' (q_A α sz) t ∧ va_F (q_A α sz) st t
def q_XC (D : va_G) (ro : Nat → Nat) (r : Value ⊕ Nat) (h' : qH) (α : List Nat) (sz : Nat) : String → State → State → Prop := fun E st t =>
  ∃ x α', r = .inr x ∧ E = q_xn x ∧ α <+: α' ∧ q_Ew D ro h' α' (q_A α sz) t ∧ va_F (q_A α sz) st t
def q_rm (fr : Nat) (h h' : qH) : Room := { frames := fr, cells := h'.2.1 - h.2.1, slots := h'.2.2 - h.2.2, locals := 34 * fr + 88 }
/-- the contract of a method: it does what F says -/
def q_Met (rot : qRO) (y : MethodName) (ws : List Cond) (rt : Option FieldType) (fr : Nat) (F : qF) : Prop :=
  (∀ vs h r h', F vs h = some (r, h') → q_le h h') ∧
  ∀ (l : Launch), l.stackTraces = false → ∀ (D : va_G) (ro : Nat → Nat) (vs wv : List Value) (h : qH) (r : Value ⊕ Nat) (h' : qH) (α : List Nat) (sz : Nat), F vs h = some (r, h') → q_vrs ro α vs wv →
    vx_Met l y ws (q_rm fr h h') (va_Pc wv (q_Bw D ro rot h α sz)) (q_Qc D ro r h' α sz rt) (q_XC D ro r h' α sz) (h'.2.1 - h.2.1) (h'.2.2 - h.2.2) (q_A α sz)
theorem q_vrs.len {ro : Nat → Nat} {α : List Nat} : ∀ {vs ws : List Value}, q_vrs ro α vs ws → vs.length = ws.length
  | [], [], _ => rfl
  | _ :: _, _ :: _, h => by simp [h.2.len]
  | [], _ :: _, h => h.elim
  | _ :: _, [], h => h.elim
theorem q_vrs.get {ro : Nat → Nat} {α : List Nat} : ∀ {vs ws : List Value}, q_vrs ro α vs ws → ∀ (i : Nat) (v : Value), vs[i]? = some v → ∃ w, ws[i]? = some w ∧ q_vr ro α v w
  | [], [], _, i, v, e => by simp at e
  | v0 :: _, w0 :: _, h, 0, v, e => by simp at e; subst e; exact ⟨w0, rfl, h.1⟩
  | _ :: _, _ :: _, h, i + 1, v, e => by simp at e ⊢; exact h.2.get i v e
  | [], _ :: _, h, _, _, _ => h.elim
  | _ :: _, [], h, _, _, _ => h.elim
theorem q_blind {D : va_G} {ro : Nat → Nat} {rot : qRO} {h : qH} {α : List Nat} {sz : Nat} {wv : List Value} : FrameBlind (va_Pc wv (q_Bw D ro rot h α sz)) := by
  intro a U g mk hp
  obtain ⟨h1, h2, h3, tys, ws, h4, h5, h6, h7⟩ := hp
  exact ⟨h1, h2, h3.warm (U := U.calling g mk a) (State.WarmedH.refl U), tys, ws, h4, va_K.moved (u := U) (U := U.calling g mk a) (Vm.Alike.refl U.vm) h5, h6, h7⟩
section QCA
variable {X : qX} {T : Nat → Prop} {pc p1 p2 p3 p4 p5 pn pb pk k n c c1 c2 nL fr : Nat} {f a b x y : qE} {as : qAs} {F : qF} {cc : ByteArray} {own : String} {ret : Option FieldType}
theorem q_anil : q_AOK X T q_aNil pc pc k 0 := by
  intro L h r h' hf
  cases hf
  exact ⟨q_le.rf _, fun _ α rest _ kv _ => kv [] rfl α [] (List.prefix_refl _) rfl trivial⟩
theorem q_acons (ha : q_EOK X T a pc p1 k c1) (hs : q_AOK X T as p1 p2 (k + c1) n) : q_AOK X T (q_aCons a as) pc p2 k (n + 1) := by
  intro L h r h' hf
  cases ea : a L h with
  | none => simp [q_aCons, ea] at hf
  | some q =>
    obtain ⟨m1, g1⟩ := ha L h _ _ ea
    obtain ⟨q | q, h1⟩ := q
    · cases eb : as L h1 with
      | none => simp [q_aCons, ea, eb] at hf
      | some q2 =>
        obtain ⟨m2, g2⟩ := hs L h1 _ _ eb
        obtain ⟨q2 | q2, h2⟩ := q2
        · simp only [q_aCons, ea, eb] at hf
          cases hf
          refine ⟨m1.tr m2, fun hc α rest hk kv kx => g1 (hc.le m2) α rest hk (fun v1 e1 α1 w1 hp1 hr1 hc1 => ?_) (fun x e1 => by cases e1)⟩
          cases e1
          refine g2 hc α1 (w1 :: rest) (q_sum hc1 hk) (fun v2 e2 α2 w2 hp2 hl2 hr2 => ?_) (fun x e1 => by cases e1)
          cases e2
          have h9 := kv _ rfl α2 (w1 :: w2) (hp1.trans hp2) (by simp [hl2]) ⟨hr1.mono hp2, hr2⟩
          rwa [List.reverse_cons, List.append_assoc] at h9
        · simp only [q_aCons, ea, eb] at hf
          cases hf
          refine ⟨m1.tr m2, fun hc α rest hk kv kx => g1 (hc.le m2) α rest hk (fun v1 e1 α1 w1 hp1 hr1 hc1 => ?_) (fun x e1 => by cases e1)⟩
          refine g2 hc α1 (w1 :: rest) (q_sum hc1 hk) (fun v2 e2 => by cases e2) (fun x e1 α2 t hp2 => kx x (by cases e1; rfl) α2 t (hp1.trans hp2))
    · simp only [q_aCons, ea] at hf
      cases hf
      exact ⟨m1, fun hc α rest hk kv kx => g1 hc α rest hk (fun v1 e1 => by cases e1) (fun x e1 => kx x (by cases e1; rfl))⟩
/-- what a call instruction at p with n arguments does -/
def q_CA (X : qX) (T : Nat → Prop) (ci : Option Nat) (F : qF) (rt : Option FieldType) (p n : Nat) : Prop :=
  T p ∧ ∀ L h α vs wv r h2 rest, F vs h = some (r, h2) → q_obj h vs ci = true → q_le h h2 ∧ (vs.length = n → q_vrs X.2.2.2.1 α vs wv → q_cap X h2 → (rest.map fun v : Value => v.category).sum ≤ 8 →
    (∀ v, r = .inl v → ∀ α' (ow : Option Value), α <+: α' → q_ov X.2.2.2.1 α' rt v ow → q_G X L h2 α' (p + 3) (ow.toList ++ rest)) →
    (∀ x, r = .inr x → ∀ α', α <+: α' → q_GX X L h2 α' p x) → q_G X L h α p (wv.reverse ++ rest))
theorem q_call {t : Nat} {ci : Option Nat} {ty : FieldType} (ha : q_AOK X T as pc p1 k n) (hk8 : k ≤ 8) (hC : q_CA X T ci F (some ty) p1 n) (ht : q_ct t ≤ c) : q_EOK X T (q_eCall t ci F as) pc (p1 + 3) k c := by
  intro L h r h' hf
  cases ea : as L h with
  | none => simp [q_eCall, ea] at hf
  | some q =>
    obtain ⟨m1, g1⟩ := ha L h _ _ ea
    obtain ⟨q | q, h1⟩ := q
    · simp only [q_eCall, ea] at hf
      split at hf
      · rename_i ho
        cases eF : F q h1 with
        | none => simp [eF] at hf
        | some q2 =>
          obtain ⟨q2, h2⟩ := q2
          obtain ⟨hT, hC⟩ := hC
          rw [eF] at hf
          cases q2 with
          | inl v =>
            have hf : (if q_is t v then some ((Sum.inl v : Value ⊕ Nat), h2) else none) = some (r, h') := hf
            split at hf
            · rename_i hq
              cases hf
              have m2 := (hC L h1 [] q [] _ h' [] eF ho).1
              refine ⟨m1.tr m2, fun hcap α rest hk kv kx => g1 (hcap.le m2) α rest hk (fun v1 e1 α1 wv hp1 hl1 hr1 => ?_) (fun x e1 => by cases e1)⟩
              cases e1
              refine (hC L h1 α1 q wv _ h' rest eF ho).2 hl1 hr1 hcap (by omega) (fun v2 e2 α2 ow hp2 how => ?_) (fun x e2 => by cases e2)
              cases e2
              obtain ⟨w, rfl, hw⟩ := how
              exact kv v rfl α2 w (hp1.trans hp2) hw (by rw [hw.cat, q_is_cat hq]; exact ht)
            · cases hf
          | inr x =>
            have hf : some ((Sum.inr x : Value ⊕ Nat), h2) = some (r, h') := hf
            cases hf
            have m2 := (hC L h1 [] q [] _ h' [] eF ho).1
            refine ⟨m1.tr m2, fun hcap α rest hk kv kx => g1 (hcap.le m2) α rest hk (fun v1 e1 α1 wv hp1 hl1 hr1 => ?_) (fun x e1 => by cases e1)⟩
            cases e1
            exact (hC L h1 α1 q wv _ h' rest eF ho).2 hl1 hr1 hcap (by omega) (fun v2 e2 => by cases e2) (fun x e2 α2 hp2 => kx x e2 α2 p1 (hp1.trans hp2) hT)
      · cases hf
    · simp only [q_eCall, ea] at hf
      cases hf
      exact ⟨m1, fun hc α rest hk kv kx => g1 hc α rest hk (fun v1 e1 => by cases e1) (fun x e1 => kx x (by cases e1; rfl))⟩
theorem q_scall {ci : Option Nat} (ha : q_AOK X T as pc p1 0 n) (hC : q_CA X T ci F none p1 n) : q_SOK X T (q_sCall ci F as) pc (p1 + 3) pb pk := by
  intro L h o L' h' hf
  cases ea : as L h with
  | none => simp [q_sCall, ea] at hf
  | some q =>
    obtain ⟨m1, g1⟩ := ha L h _ _ ea
    obtain ⟨q | q, h1⟩ := q
    · simp only [q_sCall, ea] at hf
      split at hf
      · rename_i ho
        cases eF : F q h1 with
        | none => simp [eF] at hf
        | some q2 =>
          obtain ⟨q2, h2⟩ := q2
          obtain ⟨hT, hC⟩ := hC
          rw [eF] at hf
          cases q2 with
          | inl v =>
            have hf : some (((0 : Nat), Value.null), L, h2) = some (o, L', h') := hf
            cases hf
            have m2 := (hC L h1 [] q [] _ h' [] eF ho).1
            refine ⟨m1.tr m2, fun hcap α kn _ _ _ _ _ => g1 (hcap.le m2) α [] (Nat.zero_le _) (fun v1 e1 α1 wv hp1 hl1 hr1 => ?_) (fun x e1 => by cases e1)⟩
            cases e1
            refine (hC L h1 α1 q wv _ h' [] eF ho).2 hl1 hr1 hcap (Nat.zero_le _) (fun v2 e2 α2 ow hp2 how => ?_) (fun x e2 => by cases e2)
            cases e2
            subst how
            exact kn rfl α2 (hp1.trans hp2)
          | inr x =>
            have hf : some ((x + 5, Value.null), L, h2) = some (o, L', h') := hf
            cases hf
            have m2 := (hC L h1 [] q [] _ h' [] eF ho).1
            refine ⟨m1.tr m2, fun hcap α _ _ _ _ _ kx => g1 (hcap.le m2) α [] (Nat.zero_le _) (fun v1 e1 α1 wv hp1 hl1 hr1 => ?_) (fun x e1 => by cases e1)⟩
            cases e1
            exact (hC L h1 α1 q wv _ h' [] eF ho).2 hl1 hr1 hcap (Nat.zero_le _) (fun v2 e2 => by cases e2) (fun x e2 α2 hp2 => kx x (by cases e2; rfl) α2 p1 (hp1.trans hp2) hT)
      · cases hf
    · simp only [q_sCall, ea] at hf
      cases hf
      exact ⟨m1, fun hc α _ _ _ _ _ kx => g1 hc α [] (Nat.zero_le _) (fun v1 e1 => by cases e1) (fun x e1 => kx x (by cases e1; rfl))⟩
theorem q_mem_A {α : List Nat} {ws : va_W} {A : Nat → Prop} {sz : Nat} (h1 : ws.map (·.1) = α) (hD : va_D A ws) (hA : ∀ q, sz ≤ q → A q) : ∀ q, q_A α sz q → A q := by
  intro q hq
  rcases hq with hq | hq
  · rw [← h1] at hq
    obtain ⟨x, hx, rfl⟩ := List.mem_map.mp hq
    obtain ⟨i, hi⟩ := List.getElem?_of_mem hx
    exact hD.2 i x hi
  · exact hA q hq
theorem q_D_self {α : List Nat} {ws : va_W} {A : Nat → Prop} {sz : Nat} (h1 : ws.map (·.1) = α) (hD : va_D A ws) : va_D (q_A α sz) ws :=
  ⟨hD.1, fun k q hk => Or.inl (by rw [← h1]; exact List.mem_map.mpr ⟨q, List.mem_of_getElem? hk, rfl⟩)⟩
/-- behind the call: out of what the machine has run -/
theorem q_behind (hX : q_OK X cc own nL ret fr) {L : qL} {h h2 : qH} {α : List Nat} {tys : List (ClassId × FieldType)} {ws : va_W} {H : Heap} {locs : List Loc} {cells slots : Nat} {ls : Array Slot} {r : Value ⊕ Nat} {rt : Option FieldType} {rest st0 : List Value} {av : Array Value} {D : va_G} {ro : Nat → Nat}
    (hD : X.2.1 = D) (hro : X.2.2.2.1 = ro) (hR : q_R X L h α tys ws H locs cells slots ls) (hle : q_le h h2)
    (hrun : match X with | ((p, l, e, R, s, m, args, below, meth, c, _), _) => vx_Run p l e R s m args below meth c H locs cells slots (h2.2.1 - h.2.1) (h2.2.2 - h.2.2) (F0 m p1 ls st0) rest (q_Qc D ro r h2 α H.size rt av) (q_XC D ro r h2 α H.size) (q_A α H.size))
    (kk : ∀ v, r = .inl v → ∀ α' (ow : Option Value), α <+: α' → q_ov ro α' rt v ow → q_G X L h2 α' (p1 + 3) (ow.toList ++ rest))
    (kx : ∀ x, r = .inr x → ∀ α', α <+: α' → q_GX X L h2 α' p1 x) : q_W X H locs cells slots (F0 (q_m X) p1 ls st0) := by
  obtain ⟨⟨p, l, e, R, s, m, args, below, meth, c9, Q⟩, D, A, ro, rot, c0, s0⟩ := X
  cases hD; cases hro
  obtain ⟨hx, hb, hml, hrt, hown, hts, hst, hlk, hSt, hA, hfr, hlo⟩ := hX
  obtain ⟨r1, r2, r3, r4, r5, r6, r7, r8⟩ := hR
  have hAA := q_mem_A (sz := H.size) r2.1 r5 (fun q hq => hA q (Nat.le_trans r6.1 hq))
  have hc1 : cells + (h2.2.1 - h.2.1) + c0 = h2.2.1 := by have := hle.1; omega
  have hs1 : slots + (h2.2.2 - h.2.2) + s0 = h2.2.2 := by have := hle.2; omega
  intro T9 hT9 X9
  rcases hrun T9 hT9 X9 with ⟨v, st₀, t, T', L9, h0, X', hL, e1, e2, ⟨v1, α', hv1, hp, how, ⟨tys', ws', w1, w2, w3, w4⟩, hF⟩, st⟩ | ⟨q, st₀, t, T', L9, E, ce, h0, X', hL, e1, e2, ⟨x, α', hx1, hE, hp, ⟨tys', ws', w1, w2, w3, w4⟩, hF⟩, hce, hcv, hcl, st⟩
  · obtain ⟨k1, k2, k3⟩ := vx_keep h0 e1 r6 (fun q _ hq => hAA q hq) hAA hL hF
    have hR' : q_R ((p, l, e, R, s, m, args, below, meth, c9, Q), D, A, ro, rot, c0, s0) L h2 α' tys' ws' T'.heap (locs ++ L9) (cells + (h2.2.1 - h.2.1)) (slots + (h2.2.2 - h.2.2)) ls :=
      ⟨r1.mono hp, w1, va_K.moved (by rw [← e2]; exact X'.warmed.alike.symm) w2, by rw [e1]; exact w3, w4.weaken (fun _ _ _ hq => hAA _ hq), k3, hc1, hs1⟩
    obtain ⟨ow, how1, how⟩ := how
    cases how1
    obtain ⟨t2, a1, b1⟩ := kk v1 hv1 α' v hp how tys' ws' T'.heap (locs ++ L9) _ _ ls hR' T' rfl X'
    exact ⟨t2, st t2 a1, b1⟩
  · obtain ⟨k1, k2, k3⟩ := vx_keep h0 e1 r6 (fun q _ hq => hAA q hq) hAA hL hF
    have hR' : q_R ((p, l, e, R, s, m, args, below, meth, c9, Q), D, A, ro, rot, c0, s0) L h2 α' tys' ws' T'.heap (locs ++ L9) (cells + (h2.2.1 - h.2.1)) (slots + (h2.2.2 - h.2.2)) ls :=
      ⟨r1.mono hp, w1, va_K.moved (by rw [← e2]; exact X'.warmed.alike.symm) w2, by rw [e1]; exact w3, w4.weaken (fun _ _ _ hq => hAA _ hq), k3, hc1, hs1⟩
    subst hE
    obtain ⟨t2, a1, b1⟩ := kx x hx1 α' hp tys' ws' T'.heap (locs ++ L9) _ _ ls rest q ce hR' (by rw [e1]; exact hce) hcv hcl T' rfl X'
    exact ⟨t2, st.trans a1, b1⟩
end QCA
