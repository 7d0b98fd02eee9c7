/-! the method: from its body to its contract -/
def q_run0 (rt : Option FieldType) : Option ((Nat × Value) × qL × qH) → Option ((Value ⊕ Nat) × qH)
  | some ((3, _), _, h') => (match rt with
    | none => some (.inl .null, h')
    | some _ => none)
  | some ((4, v), _, h') => (match rt with
    | some ty => if q_fit ty v then some (.inl v, h') else none
    | none => none)
  | some ((x + 5, _), _, h') => some (.inr x, h')
  | _ => none
def q_chk (h : qH) : Option ((Value ⊕ Nat) × qH) → Option ((Value ⊕ Nat) × qH)
  | some (r, h') => if h.2.1 ≤ h'.2.1 ∧ h.2.2 ≤ h'.2.2 then some (r, h') else none
  | none => none
theorem q_chk_some {h h' : qH} {r : Value ⊕ Nat} {x : Option ((Value ⊕ Nat) × qH)} (e : q_chk h x = some (r, h')) : x = some (r, h') ∧ q_le h h' := by
  unfold q_chk at e
  split at e
  · split at e
    · rename_i hq
      cases e
      exact ⟨rfl, hq⟩
    · cases e
  · cases e
def q_run (body : qS) (maxL : Nat) (rt : Option FieldType) : qF := fun vs h => if (vs.all fun v => v.category == 1) = true ∧ vs.length ≤ maxL then q_chk h (q_run0 rt (body (vs.map some ++ List.replicate (maxL - vs.length) none) h)) else none
theorem q_entry_args : ∀ (wv : List Value) (j : Nat), (∀ v ∈ wv, v.category = 1) → ∀ (i : Nat) (v : Value), wv[i]? = some v → (j + i, v) ∈ lv_args j wv
  | [], _, _, i, v, e => by simp at e
  | w :: wv, j, h, i, v, e => by
    have hw : w.category = 1 := h w List.mem_cons_self
    unfold lv_args
    rw [if_neg (by omega)]
    match i, e with
    | 0, e =>
      simp at e
      subst e
      exact List.mem_cons_self
    | i + 1, e =>
      simp at e
      have h9 := q_entry_args wv (j + 1) (fun v hv => h v (List.mem_cons_of_mem _ hv)) i v e
      rw [show j + (i + 1) = j + 1 + i by omega]
      exact List.mem_cons_of_mem _ h9
theorem q_entry_len : ∀ (wv : List Value), (∀ v ∈ wv, v.category = 1) → (lg_sl wv).length = wv.length
  | [], _ => rfl
  | w :: wv, h => by
    have hw : w.category = 1 := h w List.mem_cons_self
    have ih := q_entry_len wv (fun v hv => h v (List.mem_cons_of_mem _ hv))
    unfold lg_sl at ih ⊢
    rw [List.flatMap_cons, if_neg (by omega), List.length_append, ih]
    simp; omega
theorem q_vrs.mem {ro : Nat → Nat} {α : List Nat} : ∀ {vs ws : List Value}, q_vrs ro α vs ws → (∀ v ∈ vs, v.category = 1) → ∀ w ∈ ws, w.category = 1
  | [], [], _, _, w, hw => by cases hw
  | v :: _, w0 :: _, h, hv, w, hw => by
    rcases List.mem_cons.mp hw with rfl | hw
    · rw [h.1.cat]; exact hv v List.mem_cons_self
    · exact h.2.mem (fun v hx => hv v (List.mem_cons_of_mem _ hx)) w hw
  | [], _ :: _, h, _, _, _ => h.elim
  | _ :: _, [], h, _, _, _ => h.elim
theorem q_vr.isref {ro : Nat → Nat} {α : List Nat} {v w : Value} {ty : FieldType} (hty : (∃ n, ty = .object n) ∨ ∃ t, ty = .array t) (hf : q_fit ty v = true) (h : q_vr ro α v w) : w = .null ∨ ∃ a, w = .ref a := by
  obtain ⟨-, h2⟩ := q_fit_ok hf h
  rcases hty with ⟨n, rfl⟩ | ⟨t, rfl⟩ <;> (cases w <;> first | exact Or.inl rfl | exact Or.inr ⟨_, rfl⟩ | cases h2)
def q_Tn (hh : Option (List (Nat × Nat × Nat × Nat))) : Nat → Prop := fun _ => hh = none
theorem q_tn (p : Nat) : q_Tn none p := rfl
def q_Te (tc : Nat) : Nat → Prop := fun t => t = tc
theorem q_te (tc : Nat) : q_Te tc tc := rfl
/-- the body's words, in a method of the class of y -/
def q_Body (rot : qRO) (y : MethodName) (cc : ByteArray) (maxL : Nat) (rt : Option FieldType) (fr : Nat) (hh : Option (List (Nat × Nat × Nat × Nat))) (body : qS) : Prop :=
  ∀ X : qX, q_OK X cc y.cls maxL rt fr → X.2.2.2.2.1 = rot → X.1.2.2.2.2.2.2.2.2.1.name = y.name → (∀ h2, hh = some h2 → X.1.2.2.2.2.2.2.2.2.2.1.exceptionTable.toList = tableOf h2) → q_SOK X (q_Tn hh) body 0 0 0 0
theorem q_ends {p : Program} {l : Launch} {e : Env} {R : Room} {s : State} {m : MethodId} {below : List Frame} {meth : Method} {c : Code} {D : va_G} {ro : Nat → Nat} {rot : qRO} {r : Value ⊕ Nat} {h h' : qH} {α α' : List Nat} {sz : Nat} {rt : Option FieldType} {av : Array Value} {v : Value} {ow : Option Value} (hx : p.tables.exec = Jvm.exec) (hrt : meth.sig.returnType = rt) (hlk : meth.locks = false) (hrv : r = .inl v) (hp : α <+: α')
    (hov : (rt = none ∧ ow = none) ∨ ∃ ty w, rt = some ty ∧ q_fit ty v = true ∧ ow = some w ∧ q_vr ro α' v w) :
    q_RET ((p, l, e, R, s, m, av, below, meth, c, vx_MQ below (q_Qc D ro r h' α sz rt) (q_XC D ro r h' α sz) av s (h'.2.1 - h.2.1) (h'.2.2 - h.2.2) (q_A α sz)), D, q_A α sz, ro, rot, h.2.1, h.2.2) h' α' ow := by
  intro tys ws H locs cells slots ls L pc hR hd
  obtain ⟨r1, r2, r3, r4, r5, r6, r7, r8⟩ := hR
  have hd : decode c.code pc = .ok (q_ri meth.sig.returnType, 1) := hd
  rw [hrt] at hd
  have r7 : cells + h.2.1 = h'.2.1 := r7
  have r8 : slots + h.2.2 = h'.2.2 := r8
  have e1 : h'.2.1 - h.2.1 = cells := by omega
  have e2 : h'.2.2 - h.2.2 = slots := by omega
  show W p l e R s m av below meth c H locs cells slots (vx_MQ below _ _ av s (h'.2.1 - h.2.1) (h'.2.2 - h.2.2) (q_A α sz)) (F0 m pc ls ow.toList)
  rw [e1, e2]
  refine vx_ret ?_
  have hq : ∀ t : State, t.heap = H → s.WarmedH t.vm → q_Qc D ro r h' α sz rt av s (.returned ow) t := by
    intro t ht hW
    refine ⟨v, α', hrv, hp, ⟨ow, rfl, ?_⟩, ⟨tys, ws, r2, va_K.moved hW.alike r3, by rw [ht]; exact r4, r5⟩, r6.F ht⟩
    rcases hov with ⟨rfl, rfl⟩ | ⟨ty, w, rfl, -, rfl, hw⟩
    · exact rfl
    · exact ⟨w, rfl, hw⟩
  have hf : ∀ q ∈ locs, q_A α sz q.base := r6.2.2
  rcases hov with ⟨rfl, rfl⟩ | ⟨ty, w, rfl, hfit, rfl, hw⟩
  · exact W.vret hx rfl hrt hq hf hd hlk
  · obtain ⟨n1, n2⟩ := q_fit_ok hfit hw
    cases ty with
    | long => cases w <;> first | (cases n2; done) | exact W.lret hx rfl hrt hq hf hd hlk
    | float => cases w <;> first | (cases n2; done) | exact W.fret hx rfl hrt hq hf hd hlk
    | double => cases w <;> first | (cases n2; done) | exact W.dret hx rfl hrt hq hf hd hlk
    | object n => exact W.aret hx rfl hrt (Or.inl ⟨n, rfl⟩) (hw.isref (Or.inl ⟨n, rfl⟩) hfit) hq hf hd hlk
    | array t => exact W.aret hx rfl hrt (Or.inr ⟨t, rfl⟩) (hw.isref (Or.inr ⟨t, rfl⟩) hfit) hq hf hd hlk
    | _ => cases w <;> first | (cases n2; done) | exact W.zret hx rfl hrt n1 hq hf hd hlk
theorem q_walk {p : Program} {l : Launch} {e : Env} {s s₁ : State} {m : MethodId} {args : Array Value} {below : List Frame} {meth : Method} {c : Code} {y : MethodName} {cc : ByteArray} {maxL fr : Nat} {rt : Option FieldType} {rot : qRO} {body : qS} {ws : List Cond} {D : va_G} {ro : Nat → Nat} {vs wv : List Value} {h h' : qH} {r : Value ⊕ Nat} {α : List Nat} {sz : Nat} {hh : Option (List (Nat × Nat × Nat × Nat))}
    (hst : l.stackTraces = false) (hWS : ∀ w ∈ q_WS, w ∈ ws) (hbody : q_Body rot y cc maxL rt fr hh body) (eF : q_run body maxL rt vs h = some (r, h')) (hr : q_vrs ro α vs wv) (B : BodyLoose p l y (headSpec ws (q_rm fr h h')) cc maxL rt e s m args below meth c s₁) (hml : c.maxLocals = maxL)
    (htab : match hh with | none => (∀ x ∈ c.exceptionTable.toList, False) | some h2 => c.exceptionTable.toList = tableOf h2) (hp : va_Pc wv (q_Bw D ro rot h α sz) args s) :
    q_le h h' ∧ W p l e (headSpec ws (q_rm fr h h')).room s m args below meth c s.heap [] 0 0 (vx_MQ below (q_Qc D ro r h' α sz rt) (q_XC D ro r h' α sz) args s (h'.2.1 - h.2.1) (h'.2.2 - h.2.2) (q_A α sz)) (entryFrame m args maxL) := by
  obtain ⟨rfl, hsz, hSt, tys, wd, w1, w2, w3, w4⟩ := hp
  have hts : ∀ w ∈ ws, w.before wv.toArray s = true := atoms_spec (ws := ws) B.pre
  have hown : s.vm.findClass y.cls = some m.cls := findClass_of_methodNamed B.named
  have hnm : meth.name = y.name := (name_of_methodNamed B.named B.method).1
  unfold q_run at eF
  split at eF
  case isFalse => cases eF
  rename_i hcnd
  obtain ⟨hall, hlen⟩ := hcnd
  obtain ⟨eF, hle9⟩ := q_chk_some eF
  have hcat : ∀ v ∈ vs, v.category = 1 := fun v hv => by
    have := List.all_eq_true.mp hall v hv
    simpa using this
  have hcatw := hr.mem hcat
  have hOK : q_OK ((p, l, e, (headSpec ws (q_rm fr h h')).room, s, m, wv.toArray, below, meth, c, vx_MQ below (q_Qc D ro r h' α sz rt) (q_XC D ro r h' α sz) wv.toArray s (h'.2.1 - h.2.1) (h'.2.2 - h.2.2) (q_A α sz)), D, q_A α sz, ro, rot, h.2.1, h.2.2) cc y.cls maxL rt fr :=
    ⟨B.exec, B.bytes, hml, B.returns, hown, fun w hw => hts w (hWS w hw), hst, B.notSynchronized, hSt, fun q hq => Or.inr (by rw [← hsz]; exact hq), Nat.le_refl _, Nat.le_refl _⟩
  have hS := hbody _ hOK rfl hnm (fun h2 e2 => by subst e2; exact htab)
  cases eb : body (vs.map some ++ List.replicate (maxL - vs.length) none) h with
  | none => rw [eb] at eF; cases eF
  | some q =>
    obtain ⟨⟨o, v⟩, L', h9⟩ := q
    rw [eb] at eF
    obtain ⟨m1, g1⟩ := hS _ _ _ _ _ eb
    have hh9 : h9 = h' ∧ ((o = 3 ∧ rt = none ∧ r = .inl .null) ∨ (o = 4 ∧ r = .inl v ∧ ∃ ty, rt = some ty ∧ q_fit ty v = true) ∨ ∃ x, o = x + 5 ∧ r = .inr x) := by
      match o, eF with
      | 3, eF =>
        cases rt with
        | none => cases eF; exact ⟨rfl, Or.inl ⟨rfl, rfl, rfl⟩⟩
        | some ty => cases eF
      | 4, eF =>
        cases rt with
        | none => cases eF
        | some ty =>
          have eF : (if q_fit ty v then some ((Sum.inl v : Value ⊕ Nat), h9) else none) = some (r, h') := eF
          split at eF
          · rename_i hq
            cases eF
            exact ⟨rfl, Or.inr (Or.inl ⟨rfl, rfl, ty, rfl, hq⟩)⟩
          · cases eF
      | x + 5, eF =>
        have eF : some ((Sum.inr x : Value ⊕ Nat), h9) = some (r, h') := eF
        cases eF
        exact ⟨rfl, Or.inr (Or.inr ⟨x, rfl, rfl⟩)⟩
      | 0, eF => cases eF
      | 1, eF => cases eF
      | 2, eF => cases eF
    obtain ⟨rfl, hcase⟩ := hh9
    refine ⟨m1, ?_⟩
    have hcap : q_cap ((p, l, e, (headSpec ws (q_rm fr h h9)).room, s, m, wv.toArray, below, meth, c, vx_MQ below (q_Qc D ro r h9 α sz rt) (q_XC D ro r h9 α sz) wv.toArray s (h9.2.1 - h.2.1) (h9.2.2 - h.2.2) (q_A α sz)), D, q_A α sz, ro, rot, h.2.1, h.2.2) h9 := by
      have h1 := m1.1
      have h2 := m1.2
      constructor
      · show h9.2.1 ≤ h.2.1 + (h9.2.1 - h.2.1); omega
      · show h9.2.2 ≤ h.2.2 + (h9.2.2 - h.2.2); omega
    have hG := g1 hcap α (fun e => by have e : o = 0 := e; rcases hcase with ⟨h1, -⟩ | ⟨h1, -⟩ | ⟨x, h1, -⟩ <;> omega) (fun e => by have e : o = 1 := e; rcases hcase with ⟨h1, -⟩ | ⟨h1, -⟩ | ⟨x, h1, -⟩ <;> omega) (fun e => by have e : o = 2 := e; rcases hcase with ⟨h1, -⟩ | ⟨h1, -⟩ | ⟨x, h1, -⟩ <;> omega)
      (fun e α' hp => by
        have e : o = 3 := e
        rcases hcase with ⟨h1, h2, h3⟩ | ⟨h1, -⟩ | ⟨x, h1, -⟩
        · exact q_ends B.exec B.returns B.notSynchronized h3 hp (Or.inl ⟨h2, rfl⟩)
        · omega
        · omega)
      (fun e α' w hp hw => by
        have e : o = 4 := e
        rcases hcase with ⟨h1, -⟩ | ⟨h1, h2, ty, h3, h4⟩ | ⟨x, h1, -⟩
        · omega
        · exact q_ends B.exec B.returns B.notSynchronized h2 hp (Or.inr ⟨ty, w, h3, h4, rfl, hw⟩)
        · omega)
      (fun x e α' t hp hT => by
        have hT : hh = none := hT
        subst hT
        have e : o = x + 5 := e
        rcases hcase with ⟨h1, -⟩ | ⟨h1, -⟩ | ⟨z, h1, h2⟩
        · omega
        · omega
        · have hzx : z = x := by omega
          subst hzx
          intro tys wd H locs cells slots ls st q ce hR hce hcv hcl
          obtain ⟨r1, r2, r3, r4, r5, r6, r7, r8⟩ := hR
          have r7 : cells + h.2.1 = h9.2.1 := r7
          have r8 : slots + h.2.2 = h9.2.2 := r8
          exact vx_out (fun x hx => (htab x hx).elim) B.notSynchronized hce hcv hcl (fun t9 ht hA => ⟨z, α', h2, rfl, hp, ⟨tys, wd, r2, va_K.moved hA r3, by rw [ht]; exact r4, r5⟩, r6.F ht⟩) r6.2.2 (by omega) (by omega))
    have hl := lv_entry wv (n := maxL) (by rw [q_entry_len wv hcatw, ← hr.len]; exact hlen)
    rw [lg_entry_eq]
    refine hG tys wd s.heap [] 0 0 _ ⟨⟨hl.1.trans hml.symm, ?_, hl.2.1, fun i v hv => ?_⟩, w1, w2, w3, w4, va_S.rf, Nat.zero_add _, Nat.zero_add _⟩
    · rw [List.length_append, List.length_map, List.length_replicate, hml]; omega
    · by_cases hi : i < vs.length
      · rw [List.getElem?_append_left (by rw [List.length_map]; exact hi), List.getElem?_map] at hv
        cases hvi : vs[i]? with
        | none => rw [hvi] at hv; cases hv
        | some v0 =>
          rw [hvi] at hv
          have hv : some (some v0) = some (some v) := hv
          cases hv
          obtain ⟨w, hw1, hw2⟩ := hr.get i _ hvi
          have h8 := q_entry_args wv 0 hcatw i w hw1
          rw [Nat.zero_add] at h8
          exact ⟨w, hl.2.2 (i, w) h8, hw2⟩
      · rw [List.getElem?_append_right (by rw [List.length_map]; omega), List.getElem?_replicate] at hv
        split at hv <;> cases hv
theorem q_run_le {maxL : Nat} {rt : Option FieldType} {body : qS} : ∀ vs h r h', q_run body maxL rt vs h = some (r, h') → q_le h h' := by
  intro vs h r h' eF
  unfold q_run at eF
  split at eF
  case isFalse => cases eF
  exact (q_chk_some eF).2
/-- a method without handlers -/
theorem q_meth {rot : qRO} {y : MethodName} {cc : ByteArray} {maxL fr : Nat} {rt : Option FieldType} {body : qS} {ws : List Cond} (hy : plainName y.cls = true) (hw : ws = Cond.code y cc maxL rt :: q_WS) (hbody : q_Body rot y cc maxL rt fr none body) : q_Met rot y ws rt fr (q_run body maxL rt) := by
  refine ⟨q_run_le, fun l hst D ro vs wv h r h' α sz eF hr => ?_⟩
  refine vx_ofW hy hw (fun p e s m args below meth c s₁ B hml htab hp => ?_)
  exact (q_walk hst (fun w hw9 => by rw [hw]; exact List.mem_cons_of_mem _ hw9) hbody eF hr B hml htab hp).2
/-- a method with handlers, out of which nothing is thrown -/
theorem q_methH {rot : qRO} {y : MethodName} {cc : ByteArray} {maxL fr : Nat} {rt : Option FieldType} {body : qS} {ws : List Cond} {hh : List (Nat × Nat × Nat × Nat)} (hy : plainName y.cls = true) (hw : ws = Cond.codeWith y cc maxL rt hh :: q_WS) (hbody : q_Body rot y cc maxL rt fr (some hh) body) : q_Met rot y ws rt fr (q_run body maxL rt) := by
  refine ⟨q_run_le, fun l hst D ro vs wv h r h' α sz eF hr => ?_⟩
  refine vx_ofWH hy hw (fun p e s m args below meth c s₁ B hml hp => ?_)
  have hts : ∀ w ∈ ws, w.before args s = true := atoms_spec (ws := ws) B.pre
  exact (q_walk hst (fun w hw9 => by rw [hw]; exact List.mem_cons_of_mem _ hw9) hbody eF hr B hml (vx_table (x := y) B (hts _ (by rw [hw]; exact List.mem_cons_self))) hp).2
