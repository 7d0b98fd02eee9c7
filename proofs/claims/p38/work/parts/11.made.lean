/-! new objects and arrays, thrown exceptions, the method -/
def q_def : FieldType → vp_A → Prop := fun ty a => ∀ cA : ClassId, vp_cell cA a = arrV cA a.1 (fun _ => defaultValue ty)
def q_zero (ty : FieldType) (n : Nat) : vp_A := match ty with
  | .long => (n, .inr (.inl fun _ => 0))
  | .double => (n, .inr (.inr (.inr (.inl fun _ => 0))))
  | _ => (n, .inl fun _ => 0)
def q_eNewA (ty : FieldType) (e : qE) : qE := fun L h => q_bE (e L h) fun v h1 => match v with
  | .int j => if ¬ j < 0 ∧ j.toNatClampNeg ≤ 100000 then some (.inl (.ref (16 + h1.1.length)), (h1.1 ++ [.inl (ty, q_zero ty j.toNatClampNeg)], h1.2.1 + 1, h1.2.2 + j.toNatClampNeg)) else none
  | _ => none
def q_eNew (ci N : Nat) (fs : List Value) (F : qF) (as : qAs) : qE := fun L h => match as L (h.1 ++ [.inr (ci, fs)], h.2.1 + 1, h.2.2 + N) with
  | none => none
  | some (.inr x, h2) => some (.inr x, h2)
  | some (.inl vs, h2) => if q_obj h2 (.ref (16 + h.1.length) :: vs) (some ci) then (match F (.ref (16 + h.1.length) :: vs) h2 with
    | none => none
    | some (.inr x, h3) => some (.inr x, h3)
    | some (.inl _, h3) => some (.inl (.ref (16 + h.1.length)), h3)) else none
theorem q_bad {rot : qRO} {ro : Nat → Nat} {A : Nat → Prop} {s : State} {H : Heap} {args : Array Value} {E : String} (h : q_St rot ro A s H) (hE : E ∈ q_EX) : ∀ w ∈ Cond.castable E E :: q_DE.map Cond.declares, w.before args s = true := by
  intro w hw
  rcases List.mem_cons.mp hw with rfl | hw
  · exact (h.2.2.2.2.2.2.2.2.2.1 _ hE).word
  · obtain ⟨y, hy, rfl⟩ := List.mem_map.mp hw
    exact va_Nw.use rfl (h.2.2.2.2.2.2.2.2.2.2 y hy)
section QMA
variable {X : qX} {T : Nat → Prop} {pc p1 p2 p3 p4 p5 pn pb pk k n c c1 c2 nL fr fr2 index maxL : Nat} {f a b x y0 : qE} {as : qAs} {F : qF} {cc bytes : ByteArray} {own C : String} {ret rt : Option FieldType} {rot0 : qRO} {y : MethodName} {ws : List Cond}
theorem q_newA (hX : q_OK X cc own nL ret fr) {atype : ArrayType} {ty : FieldType} (hty : newarray.typeOf atype = ty) (hw : Cond.arrayClass ty ∈ q_WS) (hz : ∀ n, q_def ty (q_zero ty n) ∧ (q_zero ty n).1 = n) (hcb : componentBytes ty ≤ 8) (ha : q_EOK X T a pc p1 k c1) (hd : decode cc p1 = .ok (.newarray atype, 2)) (hc1 : 1 ≤ c) : q_EOK X T (q_eNewA ty a) pc (p1 + 2) k c := by
  intro L h r h' hf
  cases ea : a L h with
  | none => simp [q_eNewA, q_bE, ea] at hf
  | some q =>
    obtain ⟨m1, g1⟩ := ha L h _ _ ea
    obtain ⟨q | q, h1⟩ := q
    · simp only [q_eNewA, q_bE, ea] at hf
      split at hf
      · rename_i j
        split at hf
        · rename_i hj
          cases hf
          refine ⟨m1.tr ⟨Nat.le_succ _, Nat.le_add_right _ _⟩, fun hcap α rest hk kv kx => g1 (hcap.le ⟨Nat.le_succ _, Nat.le_add_right _ _⟩) α rest hk (fun v1 e1 α1 w1 hp1 hr1 hc1' => ?_) (fun x e1 => by cases e1)⟩
          cases e1
          rw [show w1 = _ from hr1]
          intro tys wd H locs cells slots ls hR
          have kk := fun q => kv _ rfl (α1 ++ [q]) (.ref q) (hp1.trans (List.prefix_append _ _))
          obtain ⟨⟨p, l, e, R, s, m, args, below, meth, c', Q⟩, D, A, ro, rot, c0, s0⟩ := X
          obtain ⟨hx, hb, hml, hrt, hown, hts, hst, hlk, hSt, hA, hfr, hlo⟩ := hX
          obtain ⟨r1, r2, r3, r4, r5, r6, r7, r8⟩ := id hR
          have r7 : cells + c0 = h1.2.1 := r7
          have r8 : slots + s0 = h1.2.2 := r8
          have hcells : cells + 1 ≤ R.cells := by have h1 : h1.2.1 + 1 ≤ c0 + R.cells := hcap.1; omega
          have hslots : slots + j.toNatClampNeg ≤ R.slots := by have h1 : h1.2.2 + j.toNatClampNeg ≤ s0 + R.slots := hcap.2; omega
          obtain ⟨hz1, hz2⟩ := hz j.toNatClampNeg
          refine va_newa hx hb (atype := atype) (ty := ty) (by rw [hty]; exact hts _ hw) hty r3 r4 r5 r6 hA (n := j) (N' := j.toNatClampNeg) (a0 := q_zero ty j.toNatClampNeg) (fun cA => by rw [hz1 cA, hz2]) hj.1 rfl (Nat.le_trans (Nat.mul_le_mul hj.2 hcb) (Nat.le_of_ble_eq_true rfl)) hcells hslots hd (fun q cA H1 hK hP hD hS => ?_)
          refine kk q ?_ ?_ (tys ++ [(cA, ty)]) _ H1 locs _ _ ls ⟨r1.mono (List.prefix_append _ _), r2.push (t2 := [(cA, ty)]) (q_cr_arr (t0 := tys.length) (by simp)), hK, hP, hD, hS, by show cells + 1 + c0 = h1.2.1 + 1; omega, by show slots + _ + s0 = h1.2.2 + _; omega⟩
          · refine ⟨q, rfl, Or.inr ⟨Nat.le_add_right _ _, ?_⟩⟩
            rw [Nat.add_sub_cancel_left, ← r2.len, List.getElem?_append_right (Nat.le_refl _), Nat.sub_self]
            rfl
          · exact hc1
        · cases hf
      · cases hf
    · simp only [q_eNewA, q_bE, ea] at hf
      cases hf
      exact ⟨m1, fun hc α rest hk kv kx => g1 hc α rest hk (fun v1 e1 => by cases e1) kx⟩
theorem q_new (hX : q_OK X cc own nL ret fr) {ci N : Nat} {T0 : u_T} {ty0 : Nat → FieldType} {fs : List Value} (hc : q_cl[ci]? = some (C, T0, N)) (hin : ∀ w ∈ u_ws C T0 N, w ∈ q_WS) (hty : ∀ k, k < N → parseFieldDescriptor (T0 k).2.2.1 = some (ty0 k)) (hcl : Cond.classLink own index C ∈ q_WS) (hinst : Cond.instantiable C N ∈ q_WS) (hini : Cond.initialized C ∈ q_WS)
    (hfs : ∀ j, j < N → defaultValue (ty0 j) = vp_V fs j) (hpr : ∀ v ∈ fs, q_pr v = true) (hd : decode cc pc = .ok (.new index, 3)) (hd2 : decode cc (pc + 3) = .ok (.dup, 1)) (ha : q_AOK X T as (pc + 4) p1 (k + 2) n) (hC : q_CA X T (some ci) F none p1 (n + 1)) (hk8 : k ≤ 7) (hc1 : 1 ≤ c) : q_EOK X T (q_eNew ci N fs F as) pc (p1 + 3) k c := by
  intro L h r h' hf
  have m0 : q_le h (h.1 ++ [.inr (ci, fs)], h.2.1 + 1, h.2.2 + N) := ⟨Nat.le_succ _, Nat.le_add_right _ _⟩
  -- the start: new and dup
  have start : ∀ α rest, q_cap X (h.1 ++ [.inr (ci, fs)], h.2.1 + 1, h.2.2 + N) → (∀ q, q_vr X.2.2.2.1 (α ++ [q]) (.ref (16 + h.1.length)) (.ref q) → q_G X L (h.1 ++ [.inr (ci, fs)], h.2.1 + 1, h.2.2 + N) (α ++ [q]) (pc + 4) (.ref q :: .ref q :: rest)) → q_G X L h α pc rest := by
    intro α rest hcap kk tys wd H locs cells slots ls hR
    obtain ⟨⟨p, l, e, R, s, m, args, below, meth, c', Q⟩, D, A, ro, rot, c0, s0⟩ := X
    obtain ⟨hx, hb, hml, hrt, hown, hts, hst, hlk, hSt, hA, hfr, hlo⟩ := hX
    obtain ⟨r1, r2, r3, r4, r5, r6, r7, r8⟩ := id hR
    have hcells : cells + 1 ≤ R.cells := by have h1 : h.2.1 + 1 ≤ c0 + R.cells := hcap.1; omega
    have hslots : slots + N ≤ R.slots := by have h1 : h.2.2 + N ≤ s0 + R.slots := hcap.2; omega
    refine va_new (ci := ci) (fs := fs) hx hb hts hin ty0 hty hown (hts _ hcl) (hts _ hinst) (hts _ hini) r3 r4 r5 r6 hA hc hfs hcells hslots hd (fun q H1 hP hD hS => ?_)
    refine lv_dup hx hb hd2 rfl (kk q ⟨q, rfl, Or.inr ⟨Nat.le_add_right _ _, ?_⟩⟩ tys _ H1 locs _ _ ls ⟨r1.mono (List.prefix_append _ _), ?_, r3, hP, hD, hS, by show cells + 1 + c0 = h.2.1 + 1; omega, by show slots + _ + s0 = h.2.2 + _; omega⟩)
    · rw [Nat.add_sub_cancel_left, ← r2.len, List.getElem?_append_right (Nat.le_refl _), Nat.sub_self]
      rfl
    · have h9 := r2.push (t2 := []) (b := q) (c := .inr (ci, fs)) (e := .inr (ci, fs)) (q_cr_obj rfl (fun i v hv => ⟨v, hv, q_vr.of_pr (hpr v (List.mem_of_getElem? hv))⟩))
      rwa [List.append_nil] at h9
  cases ea : as L (h.1 ++ [.inr (ci, fs)], h.2.1 + 1, h.2.2 + N) with
  | none => simp [q_eNew, ea] at hf
  | some q =>
    obtain ⟨m1, g1⟩ := ha L _ _ _ ea
    have hsum : ∀ (rest : List Value) (q : Nat), (rest.map fun v : Value => v.category).sum ≤ k → ((Value.ref q :: Value.ref q :: rest).map fun v : Value => v.category).sum ≤ k + 2 := by
      intro rest q h
      rw [List.map_cons, List.map_cons, List.sum_cons, List.sum_cons]
      show 1 + (1 + _) ≤ k + 2
      omega
    obtain ⟨q | q, h2⟩ := q
    · simp only [q_eNew, ea] at hf
      split at hf
      · rename_i ho
        obtain ⟨hT, hC⟩ := hC
        cases eF : F (.ref (16 + h.1.length) :: q) h2 with
        | none => simp [eF] at hf
        | some q2 =>
          obtain ⟨q2, h3⟩ := q2
          have m2 := (hC L h2 [] _ [] _ h3 [] eF ho).1
          rw [eF] at hf
          cases q2 with
          | inl v =>
            have hf : some ((Sum.inl (Value.ref (16 + h.1.length)) : Value ⊕ Nat), h3) = some (r, h') := hf
            cases hf
            refine ⟨m0.tr (m1.tr m2), fun hcap α rest hk kv kx => start α rest (hcap.le (m1.tr m2)) (fun b hb => ?_)⟩
            refine g1 (hcap.le m2) _ _ (hsum rest b hk) (fun v1 e1 α1 wv hp1 hl1 hr1 => ?_) (fun x e1 => by cases e1)
            cases e1
            have h9 := (hC L h2 α1 _ (.ref b :: wv) _ h' (.ref b :: rest) eF ho).2 (by simp [hl1]) ⟨hb.mono hp1, hr1⟩ hcap (by rw [List.map_cons, List.sum_cons]; show 1 + _ ≤ 8; omega) (fun v2 e2 α2 ow hp2 how => by
              have how : ow = none := how
              subst how
              exact kv _ rfl α2 (.ref b) ((List.prefix_append _ _).trans (hp1.trans hp2)) ((hb.mono hp1).mono hp2) hc1) (fun x e2 => by cases e2)
            rwa [List.reverse_cons, List.append_assoc] at h9
          | inr x =>
            have hf : some ((Sum.inr x : Value ⊕ Nat), h3) = some (r, h') := hf
            cases hf
            refine ⟨m0.tr (m1.tr m2), fun hcap α rest hk kv kx => start α rest (hcap.le (m1.tr m2)) (fun b hb => ?_)⟩
            refine g1 (hcap.le m2) _ _ (hsum rest b hk) (fun v1 e1 α1 wv hp1 hl1 hr1 => ?_) (fun x e1 => by cases e1)
            cases e1
            have h9 := (hC L h2 α1 _ (.ref b :: wv) _ h' (.ref b :: rest) eF ho).2 (by simp [hl1]) ⟨hb.mono hp1, hr1⟩ hcap (by rw [List.map_cons, List.sum_cons]; show 1 + _ ≤ 8; omega) (fun v2 e2 => by cases e2) (fun x e2 α2 hp2 => kx x e2 α2 p1 ((List.prefix_append _ _).trans (hp1.trans hp2)) hT)
            rwa [List.reverse_cons, List.append_assoc] at h9
      · cases hf
    · simp only [q_eNew, ea] at hf
      cases hf
      refine ⟨m0.tr m1, fun hcap α rest hk kv kx => start α rest (hcap.le m1) (fun b hb => ?_)⟩
      exact g1 hcap _ _ (hsum rest b hk) (fun v1 e1 => by cases e1) (fun x e1 α2 t hp2 => kx x (by cases e1; rfl) α2 t ((List.prefix_append _ _).trans hp2))
/-- the words of a constructor's call -/
def q_wI (own : String) (index : Nat) (y : MethodName) (bytes : ByteArray) (maxL : Nat) (n : Nat) : Prop :=
  Cond.code y bytes maxL none ∈ q_WS ∧ Cond.methodLink own index y ∈ q_WS ∧ Cond.instanceMethod y ∈ q_WS ∧ Cond.initialized y.cls ∈ q_WS ∧ y.name = "<init>" ∧ (y.cls ≠ "java/lang/invoke/MethodHandle" ∧ y.cls ≠ "java/lang/invoke/VarHandle" ∧ (parseMethodDescriptor y.desc).map (fun d => d.parameters.length) = some n)
theorem q_caI (hX : q_OK X cc own nL ret fr) (hrot : X.2.2.2.2.1 = rot0) {ci : Nat} (hM : q_Met rot0 y ws none fr2 F) (hws : ws = Cond.code y bytes maxL none :: q_WS) (hw : q_wI own index y bytes maxL n) (hci : 0 < ci)
    (hfr2 : fr2 + 1 ≤ fr) (hm : maxL ≤ 15) (hdec : decode cc p1 = .ok (.invokespecial index, 3)) (hT : T p1) : q_CA X T (some ci) F none p1 (n + 1) := by
  refine ⟨hT, fun L h α vs wv r h2 rest eF ho => ⟨hM.1 _ _ _ _ eF, fun hn hr hcap h8 kv kx => ?_⟩⟩
  subst hrot
  have hle := hM.1 _ _ _ _ eF
  intro tys wd H locs cells slots ls hR
  refine q_behind (av := wv.toArray) hX rfl rfl hR hle ?_ kv kx
  obtain ⟨⟨p, l, e, R, s, m, args, below, meth, c9, Q⟩, D, A, ro, rot, c0, s0⟩ := X
  obtain ⟨hx, hb, hml, hrt, hown, hts, hst, hlk, hSt, hA, hfr, hlo⟩ := hX
  obtain ⟨r1, r2, r3, r4, r5, r6, r7, r8⟩ := id hR
  obtain ⟨w1, w2, w3, w4, w6, w5⟩ := hw
  obtain ⟨a, vs', fs, rfl, ha, hca⟩ := q_recv ho hci
  match wv, hr with
  | w0 :: As, hr =>
    obtain ⟨b, e2, rfl, he, hcr⟩ := q_cell r2 hr.1 ha hca
    have hG : GoodIn q_WS ws := q_sub_good (fun w hw => by
      subst hws
      rcases List.mem_cons.mp hw with rfl | hw
      · exact w1
      · exact hw)
    have cw := cwI (R := R) (s := s) (args := args) (rm := q_rm fr2 h h2) n hts hG hws rfl rfl (hts _ w4) (hts _ w2) (hts _ w3) w6 w5 ⟨by show fr2 + 1 ≤ R.frames; omega, by show 8 + (maxL + 11) + (34 * fr2 + 88) ≤ R.locals; omega⟩
    have hf : cells + (h2.2.1 - h.2.1) ≤ R.cells ∧ slots + (h2.2.2 - h.2.2) ≤ R.slots := by
      have h1 : h2.2.1 ≤ c0 + R.cells := hcap.1
      have h3 : h2.2.2 ≤ s0 + R.slots := hcap.2
      have h4 := hle.1
      have h5 := hle.2
      constructor <;> omega
    have hlen : As.length = n := by
      have h9 := hr.2.len
      simp at hn
      omega
    exact vx_runI (As := As) (rest := rest) (nL := nL) (b := b) ⟨hx, hb, hml, hown, hts⟩ (hM.2 l hst D ro _ _ h r h2 α H.size eF hr) cw ⟨q_blind, fun U hU hW => ⟨rfl, q_pre hSt hA hR U hU hW⟩⟩ rfl hlen (r1.1.trans hml) (by show (Value.ref b :: As).reverse ++ rest = _; rw [List.reverse_cons, List.append_assoc]; rfl) (lv_room h8) hdec hf
/-- super() of a class right below Object -/
theorem q_objInit (hX : q_OK X cc own nL ret fr) (ha : q_EOK X T a pc p1 0 c1) (hl : Cond.methodLink own index Lib.objectInit ∈ q_WS) (hin : Cond.instanceMethod Lib.objectInit ∈ q_WS) (hco : Cond.code Lib.objectInit ⟨#[0xb1]⟩ 1 none ∈ q_WS) (hd : decode cc p1 = .ok (.invokespecial index, 3)) (hfr1 : 1 ≤ fr) (href : ∀ L h v h', a L h = some (.inl v, h') → q_is 4 v = true) : q_SOK X T (q_sPop a) pc (p1 + 3) pb pk := by
  intro L h o L' h' hf
  cases ea : a L h with
  | none => simp [q_sPop, q_bS, ea] at hf
  | some q =>
    obtain ⟨m1, g1⟩ := ha L h _ _ ea
    obtain ⟨q | q, h1⟩ := q
    · simp only [q_sPop, q_bS, ea] at hf
      cases hf
      refine ⟨m1, fun hc α kn _ _ _ _ _ => g1 hc α [] (Nat.zero_le _) (fun v1 e1 α1 w1 hp1 hr1 hc1 => ?_) (fun x e1 => by cases e1)⟩
      cases e1
      have h4 := href _ _ _ _ ea
      match q, h4, hr1 with
      | .ref z, _, hr1 =>
        obtain ⟨b, rfl, -⟩ := hr1
        intro tys wd H locs cells slots ls hR
        have hg := kn rfl α1 hp1 tys wd H locs cells slots ls hR
        obtain ⟨⟨p, l, e, R, s, m, args, below, meth, c9, Q⟩, D, A, ro, rot, c0, s0⟩ := X
        obtain ⟨hx, hb, hml, hrt, hown, hts, hst, hlk, hSt, hA, hfr, hlo⟩ := hX
        exact W.objInit hx hb hown (hts _ hl) (hts _ hin) (hts _ hco) rfl hR.1.1 rfl hd (by omega) (by show 2 * 0 + 0 + 12 ≤ R.locals; omega) hg
    · simp only [q_sPop, q_bS, ea] at hf
      cases hf
      exact ⟨m1, fun hc α _ _ _ _ _ kx => g1 hc α [] (Nat.zero_le _) (fun v1 e1 => by cases e1) (fun x e1 => kx x (by cases e1; rfl))⟩
theorem q_throw (hX : q_OK X cc own nL ret fr) {x ik is ic ci : Nat} {text : String} {names : List String} {T0 : u_T} (hc : q_cl[ci]? = some (q_xn x, T0, 0)) (hcls : Bundle.fit (q_xn x) = true) (hnames : ∀ n ∈ names, Bundle.fit n = true) (hnl : names.length = 2)
    (hk : Cond.classLink own ik (q_xn x) ∈ q_WS) (hini : Cond.initialized (q_xn x) ∈ q_WS) (hstr : (own, is, text) ∈ q_strs) (hat : ∀ w ∈ (vx_atS own ic (q_xn x) names).filter goodWord, w ∈ q_WS) (hbad : ∀ w ∈ (vx_atS own ic (q_xn x) names).filter (fun w => !goodWord w), w ∈ Cond.castable (q_xn x) (q_xn x) :: q_DE.map Cond.declares) (hex : q_xn x ∈ q_EX) (hgood : ∀ w ∈ Cond.classLink own ik (q_xn x) :: Cond.initialized (q_xn x) :: vx_atS own ic (q_xn x) names, vx_ot w = true)
    (d0 : decode cc pc = .ok (.new ik, 3)) (d3 : decode cc (pc + 3) = .ok (.dup, 1)) (d4 : decode cc (pc + 4) = .ok (.ldc is, 2)) (d6 : decode cc (pc + 6) = .ok (.invokespecial ic, 3)) (d9 : decode cc (pc + 9) = .ok (.athrow, 1)) (hfr6 : 6 ≤ fr) (hT : T (pc + 9)) : q_SOK X T (q_sThrow x) pc pn pb pk := by
  intro L h o L' h' hf
  cases hf
  refine ⟨⟨Nat.le_succ _, Nat.le_add_right _ _⟩, fun hcap α _ _ _ _ _ kx => ?_⟩
  intro tys wd H locs cells slots ls hR
  have kx := kx x rfl α (pc + 9) (List.prefix_refl _) hT
  obtain ⟨⟨p, l, e, R, s, m, args, below, meth, c9, Q⟩, D, A, ro, rot, c0, s0⟩ := X
  obtain ⟨hx, hb, hml, hrt, hown, hts, hst, hlk, hSt, hA, hfr, hlo⟩ := hX
  obtain ⟨r1, r2, r3, r4, r5, r6, r7, r8⟩ := id hR
  obtain ⟨sa, hsa⟩ := hSt.2.2.2.2.1 _ hstr
  have hcells : cells + 1 ≤ R.cells := by have h1 : h.2.1 + 1 ≤ c0 + R.cells := hcap.1; omega
  have hslots : slots + 6 ≤ R.slots := by have h1 : h.2.2 + 6 ≤ s0 + R.slots := hcap.2; omega
  refine vx_makeS (own := own) (cls := q_xn x) (text := text) (names := names) (ik := ik) (is := is) (ic := ic) (sa := sa) (T0 := T0) hx hb hst hown hcls hnames (hts _ hk) (hts _ hini) hsa (vx_hat (fun w hw => hts _ (hat w hw)) hbad (fun w hw => q_bad hSt hex w hw)) hgood hSt.2.2.1 hSt.2.2.2.1 r6 r1.1 d0 d3 d4 d6 r3 r4 r5 hA hc (by rw [hnl]; omega) (by rw [hnl]; show 0 + (13 * 3 + 43) ≤ R.locals; omega) hcells hslots (fun q H1 hP hD hS => ?_)
  refine vx_athrow hx hb d9 ?_
  have hk9 : (wd ++ [(q, (.inr (ci, []) : va_E))])[wd.length]? = some (q, .inr (ci, [])) := by simp
  obtain ⟨rr, e1, cell, q1, q2, q3, -⟩ := hP _ _ hk9
  have e1 : q_cl[ci]? = some rr := e1
  rw [hc] at e1
  cases e1
  have hP1 : va_P D q_cl wd H1 := fun i z hz => hP i z (by rw [List.getElem?_append_left (List.getElem?_eq_some_iff.mp hz).1]; exact hz)
  have hD1 : va_D A wd := ⟨fun i j z1 z2 h1 h2 h3 => hD.1 i j z1 z2 (by rw [List.getElem?_append_left (List.getElem?_eq_some_iff.mp h1).1]; exact h1) (by rw [List.getElem?_append_left (List.getElem?_eq_some_iff.mp h2).1]; exact h2) h3, fun i z hz => hD.2 i z (by rw [List.getElem?_append_left (List.getElem?_eq_some_iff.mp hz).1]; exact hz)⟩
  exact kx tys wd H1 locs _ _ ls [] q cell ⟨r1, r2, r3, hP1, hD1, hS, by show cells + 1 + c0 = h.2.1 + 1; omega, by show slots + 6 + s0 = h.2.2 + 6; omega⟩ q1 q3 (by rw [q2]; exact (r3.1 ci _ hc).2.1)
end QMA
