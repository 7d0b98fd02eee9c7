/-! rows: constants, locals, handlers, switches -/
section QMW
variable {p : Program} {l : Launch} {e : Env} {R : Room} {s : State} {m : MethodId} {args : Array Value} {below : List Frame} {meth : Method} {c : Code} {H : Heap} {locs : List Loc} {cells slots : Nat} {Q : State → Prop}
variable {ls : Array Slot} {rest : List Value} {D : va_G} {cl : List vw_C} {tys : List (ClassId × FieldType)} {ws : va_W}
theorem q_makeSW {cc : ByteArray} {pc : Nat} (hexec : p.tables.exec = Jvm.exec) (hb : c.code = cc) (hl : l.stackTraces = false) {own cls text : String} {names : List String} {ik is ic sa ci : Nat} {A : Nat → Prop} {T0 : u_T}
    (hown : s.vm.findClass own = some m.cls) (hcls : Bundle.fit cls = true) (hnames : ∀ n ∈ names, Bundle.fit n = true)
    (hk : (Cond.classLink own ik cls).before args s = true) (hini : (Cond.initialized cls).before args s = true) (hstr : vk_R own is text sa s) (hat : ∀ w ∈ vx_atS own ic cls names, w.before args s = true)
    (hgood : ∀ w ∈ Cond.classLink own ik cls :: Cond.initialized cls :: vx_atS own ic cls names, vx_ot w = true)
    (hU : vx_Zq Bundle.tN "UNASSIGNED_STACK" Bundle.steD A s s.heap) (hN : vx_Zq Bundle.tN "SUPPRESSED_SENTINEL" Bundle.listD A s s.heap) (hS : va_S A s.heap H locs) (hsize : ls.size = c.maxLocals)
    (d0 : decode cc pc = .ok (.new ik, 3)) (d3 : decode cc (pc + 3) = .ok (.dup, 1)) (d4 : decode cc (pc + 4) = .ok (.ldc_w is, 3)) (d6 : decode cc (pc + 7) = .ok (.invokespecial ic, 3))
    (hK : va_K D cl tys s) (hP : va_P D cl ws H) (hD : va_D A ws) (hA : ∀ q, s.heap.size ≤ q → A q) (hc : cl[ci]? = some (cls, T0, 0))
    (hRframes : names.length + 3 < R.frames) (hRlocals : (rest.map fun v => v.category).sum + (13 * (names.length + 1) + 43) ≤ R.locals) (hRcells : cells + 1 ≤ R.cells) (hRslots : slots + 6 ≤ R.slots)
    (kk : ∀ (q : Nat) (H1 : Heap), va_P D cl (ws ++ [(q, .inr (ci, []))]) H1 → va_D A (ws ++ [(q, .inr (ci, []))]) → va_S A s.heap H1 locs → W p l e R s m args below meth c H1 locs (cells + 1) (slots + 6) Q (F0 m (pc + 10) ls (.ref q :: rest))) :
    W p l e R s m args below meth c H locs cells slots Q (F0 m pc ls rest) := by
  intro T hT X
  subst hT
  have htr : e.platform.stackTraces = false := (show e.platform.stackTraces = l.stackTraces by rw [X.admits.platform]).trans hl
  have Y := vx_rebase X (R' := { frames := R.frames, locals := R.locals, cells := 1, slots := 6 }) (Nat.le_refl _) (Nat.le_refl _) hRcells hRslots
  obtain ⟨s', hA'⟩ : ∃ z, z = (T.setVm s.vm).setFrames (.invoking m args :: below) := ⟨_, rfl⟩
  rw [← hA'] at Y
  have hvm : s'.vm = s.vm := by rw [hA']; rfl
  have hhp : s'.heap = T.heap := by rw [hA']; rfl
  have hW0 : s.WarmedH s'.vm := by rw [hvm]; exact State.WarmedH.refl s
  have hat' : ∀ w ∈ vx_atS own ic cls names, w.before args s' = true := fun w hw => vx_ot_at hW0 hvm.symm (hgood w (List.mem_cons_of_mem _ (List.mem_cons_of_mem _ hw))) (hat w hw)
  have hk' : (Cond.classLink own ik cls).before args s' = true := vx_ot_at hW0 hvm.symm (hgood _ List.mem_cons_self) hk
  have hini' : (Cond.initialized cls).before args s' = true := vx_ot_at hW0 hvm.symm (hgood _ (List.mem_cons_of_mem _ List.mem_cons_self)) hini
  have hU' : vx_Zq Bundle.tN "UNASSIGNED_STACK" Bundle.steD A s' s'.heap := by rw [hhp]; exact vx_Zq.moved hW0.alike (hU.kept hS.2.1)
  have hN' : vx_Zq Bundle.tN "SUPPRESSED_SENTINEL" Bundle.listD A s' s'.heap := by rw [hhp]; exact vx_Zq.moved hW0.alike (hN.kept hS.2.1)
  have h : ∀ w ∈ Bundle.ownAtoms own ic cls names, w.before args s' = true := vx_own hat' (vx_isRefq hU'.1) (vx_isRefq hN'.1) hU'.2.word hN'.2.word
  have hown' : s'.vm.findClass own = some m.cls := by rw [hvm]; exact hown
  have hins : (Cond.instantiable cls 6).before args s' = true := h _ (by simp [Bundle.ownAtoms])
  obtain ⟨vm₁, cX, kX, hfX, hkX, -, -, X₁, st1⟩ := Y.newCold hexec (own := own) (C := cls) (index := ik) (n := 6) hown' hk' hins hini'
    (g := F0 m pc ls rest) rfl (by rw [hb]; exact d0) (Nat.le_refl _) (Nat.le_refl _)
  generalize hT1 : (T.setVm vm₁).pushCell { cls := cX, slots := kX.instanceTypes.map defaultValue, vm := .none } = T1 at X₁ st1
  have hcat : (Value.ref T.heap.size).category = 1 := rfl
  have hcellA : T1.heap[T.heap.size]? = some (freshCell cX kX) := by rw [← hT1]; exact State.heap_pushCell_size _ _
  have d3' : decode c.code (pc + 3) = .ok (.dup, 1) := by rw [hb]; exact d3
  have d4' : decode c.code (pc + 4) = .ok (.ldc_w is, 3) := by rw [hb]; exact d4
  have hstr' : vk_R own is text sa s' := vk_R.warm hW0 hstr
  obtain ⟨V, ce, L, Z, hL, hlt, hcl9, hvm9, st⟩ := vx_ctorMadeS X₁ hexec htr (own := own) (cls := cls) (names := names) (ic := ic) hown' hcls hnames h (fun x hx => nomatch hx) hfX hkX hcellA (by rw [hhp]; exact Nat.le_refl _) (msg := .ref sa) rfl
    (g := { method := m, pc := pc + 7, locals := ls, stack := .ref sa :: .ref T.heap.size :: .ref T.heap.size :: rest, locked := none }) rfl hsize (rest := rest) rfl
    (by rw [hb]; exact d6) hRframes (by simp only [List.map_cons, List.sum_cons, hcat]; omega)
  have Z0 := Stand.forget (locs := []) Z (fun y hy => by rw [hL y hy, hhp]; exact Nat.le_refl _)
  obtain ⟨f1, f2⟩ := vx_frame Z0.same
  rw [hhp] at f1 f2
  have hcid : ce.cls = D.1 ci := by
    rw [hcl9]
    have h1 := (hK.1 ci _ hc).2.1
    rw [hvm] at hfX
    exact Option.some.inj (hfX.symm.trans h1)
  have hh : (V.setCell T.heap.size ce).heap[T.heap.size]? = some ce := heapAt_setCell_self (s := V) ce hlt
  subst hA'
  have X5 := vx_back9 X Y Z0
  have X6 : Stand p l e R s m args below meth c (V.setCell T.heap.size ce) locs (cells + 1) (slots + 6) := { X5 with same := X5.same.mono (by omega) (by omega) }
  have hk9 : ∀ (k : Nat) (x : Nat × va_E), ws[k]? = some x → (V.setCell T.heap.size ce).heap[x.1]? = T.heap[x.1]? := fun k x hx => f2 x.1 ((hP k x hx).lt) (fun z hz => nomatch hz)
  obtain ⟨t, a1, b1⟩ := kk T.heap.size (V.setCell T.heap.size ce).heap ((hP.kept hk9).app (fun k x hx => by
      have hz : k < 1 := (List.getElem?_eq_some_iff.mp hx).1
      rw [show k = 0 by omega] at hx
      cases hx
      exact ⟨_, hc, ce, hh, hcid, hvm9, fun k hk => absurd hk (Nat.not_lt_zero k)⟩)) (hD.push hP rfl (hA _ hS.1)) ⟨Nat.le_trans hS.1 f1, fun q h1 h2 => (f2 q (Nat.lt_of_lt_of_le h1 hS.1) (fun z hz => nomatch hz)).trans (hS.2.1 q h1 h2), hS.2.2⟩ _ rfl X6
  refine ⟨t, st1 _ ?_, b1⟩
  show Steps p.tables e below (T1.setTop { method := m, pc := pc + 3, locals := ls, stack := .ref T.heap.size :: rest, locked := none }) _
  jvm_step X₁.here [X₁.here.top, hexec, d3', Value.category]
  exact X₁.ldcStringW hexec (own := own) (text := text) (index := is) (a := sa) hown' hstr'.1 hstr'.2
    (g := { method := m, pc := pc + 4, locals := ls, stack := .ref T.heap.size :: .ref T.heap.size :: rest, locked := none }) rfl d4' _ (st _ a1)

end QMW
section QRO
variable {X : qX} {T : Nat → Prop} {pc p1 p2 p3 p4 p5 pn pb pk k n c c1 c2 nL fr fr2 index maxL : Nat} {f a b x y0 : qE} {as : qAs} {F : qF} {cc bytes : ByteArray} {own C : String} {ret rt : Option FieldType} {rot0 : qRO} {y : MethodName} {ws : List Cond}
theorem q_iconst (hX : q_OK X cc own nL ret fr) {n : Int} {v : Int32} (hd : decode cc pc = .ok (.iconst n, 1)) (hv : Int32.ofInt n = v) (hc : 1 ≤ c) : q_EOK X T (q_eLit (.int v)) pc (pc + 1) k c := by
  refine q_push rfl hc ?_
  obtain ⟨⟨p, l, e, R, s, m, args, below, meth, c9, Q⟩, D, A, ro, rot, c0, s0⟩ := X
  obtain ⟨hx, hb, -⟩ := hX
  exact fun H locs cells slots ls rest kk => lv_iconst hx hb hd hv kk
theorem q_bipush (hX : q_OK X cc own nL ret fr) {n : Int} {v : Int32} (hd : decode cc pc = .ok (.bipush n, 2)) (hv : (Int8.ofInt n).toInt32 = v) (hc : 1 ≤ c) : q_EOK X T (q_eLit (.int v)) pc (pc + 2) k c := by
  refine q_push rfl hc ?_
  obtain ⟨⟨p, l, e, R, s, m, args, below, meth, c9, Q⟩, D, A, ro, rot, c0, s0⟩ := X
  obtain ⟨hx, hb, -⟩ := hX
  exact fun H locs cells slots ls rest kk => lv_bipush hx hb hd hv kk
theorem q_sipush (hX : q_OK X cc own nL ret fr) {n : Int} {v : Int32} (hd : decode cc pc = .ok (.sipush n, 3)) (hv : (Int16.ofInt n).toInt32 = v) (hc : 1 ≤ c) : q_EOK X T (q_eLit (.int v)) pc (pc + 3) k c := by
  refine q_push rfl hc ?_
  obtain ⟨⟨p, l, e, R, s, m, args, below, meth, c9, Q⟩, D, A, ro, rot, c0, s0⟩ := X
  obtain ⟨hx, hb, -⟩ := hX
  exact fun H locs cells slots ls rest kk => lv_sipush hx hb hd hv kk
theorem q_lconst (hX : q_OK X cc own nL ret fr) {n : Fin 2} {v : Int64} (hd : decode cc pc = .ok (.lconst n, 1)) (hv : Int64.ofNat (n : Nat) = v) (hc : 2 ≤ c) : q_EOK X T (q_eLit (.long v)) pc (pc + 1) k c := by
  refine q_push rfl hc ?_
  obtain ⟨⟨p, l, e, R, s, m, args, below, meth, c9, Q⟩, D, A, ro, rot, c0, s0⟩ := X
  obtain ⟨hx, hb, -⟩ := hX
  exact fun H locs cells slots ls rest kk => lv_lconst hx hb hd hv kk
theorem q_fconst0 (hX : q_OK X cc own nL ret fr) (hd : decode cc pc = .ok (.fconst 0, 1)) (hc : 1 ≤ c) : q_EOK X T (q_eLit (.float 0)) pc (pc + 1) k c := by
  refine q_push rfl hc ?_
  obtain ⟨⟨p, l, e, R, s, m, args, below, meth, c9, Q⟩, D, A, ro, rot, c0, s0⟩ := X
  obtain ⟨hx, hb, -⟩ := hX
  exact fun H locs cells slots ls rest kk => lv_fconst0 hx hb hd kk
theorem q_dconst0 (hX : q_OK X cc own nL ret fr) (hd : decode cc pc = .ok (.dconst 0, 1)) (hc : 2 ≤ c) : q_EOK X T (q_eLit (.double 0)) pc (pc + 1) k c := by
  refine q_push rfl hc ?_
  obtain ⟨⟨p, l, e, R, s, m, args, below, meth, c9, Q⟩, D, A, ro, rot, c0, s0⟩ := X
  obtain ⟨hx, hb, -⟩ := hX
  exact fun H locs cells slots ls rest kk => lv_dconst0 hx hb hd kk
theorem q_iload_n (hX : q_OK X cc own nL ret fr) {i : Fin 4} (hd : decode cc pc = .ok (.iload_n i, 1)) (hc : 1 ≤ c) : q_EOK X T (q_eLoc 0 (i : Nat)) pc (pc + 1) k c := by
  refine q_loc hc ?_
  obtain ⟨⟨p, l, e, R, s, m, args, below, meth, c9, Q⟩, D, A, ro, rot, c0, s0⟩ := X
  obtain ⟨hx, hb, -⟩ := hX
  intro H locs cells slots ls rest v hv hl kk
  cases v <;> first | (cases hv; done) | exact lv_iload_n hx hb hd rfl hl kk
theorem q_iload (hX : q_OK X cc own nL ret fr) {i : Nat} (hd : decode cc pc = .ok (.iload i, 2)) (hc : 1 ≤ c) : q_EOK X T (q_eLoc 0 i) pc (pc + 2) k c := by
  refine q_loc hc ?_
  obtain ⟨⟨p, l, e, R, s, m, args, below, meth, c9, Q⟩, D, A, ro, rot, c0, s0⟩ := X
  obtain ⟨hx, hb, -⟩ := hX
  intro H locs cells slots ls rest v hv hl kk
  cases v <;> first | (cases hv; done) | exact lv_iload hx hb hd hl kk
theorem q_lload_n (hX : q_OK X cc own nL ret fr) {i : Fin 4} (hd : decode cc pc = .ok (.lload_n i, 1)) (hc : 2 ≤ c) : q_EOK X T (q_eLoc 1 (i : Nat)) pc (pc + 1) k c := by
  refine q_loc hc ?_
  obtain ⟨⟨p, l, e, R, s, m, args, below, meth, c9, Q⟩, D, A, ro, rot, c0, s0⟩ := X
  obtain ⟨hx, hb, -⟩ := hX
  intro H locs cells slots ls rest v hv hl kk
  cases v <;> first | (cases hv; done) | exact lv_lload_n hx hb hd rfl hl kk
theorem q_lload (hX : q_OK X cc own nL ret fr) {i : Nat} (hd : decode cc pc = .ok (.lload i, 2)) (hc : 2 ≤ c) : q_EOK X T (q_eLoc 1 i) pc (pc + 2) k c := by
  refine q_loc hc ?_
  obtain ⟨⟨p, l, e, R, s, m, args, below, meth, c9, Q⟩, D, A, ro, rot, c0, s0⟩ := X
  obtain ⟨hx, hb, -⟩ := hX
  intro H locs cells slots ls rest v hv hl kk
  cases v <;> first | (cases hv; done) | exact lv_lload hx hb hd hl kk
theorem q_fload_n (hX : q_OK X cc own nL ret fr) {i : Fin 4} (hd : decode cc pc = .ok (.fload_n i, 1)) (hc : 1 ≤ c) : q_EOK X T (q_eLoc 2 (i : Nat)) pc (pc + 1) k c := by
  refine q_loc hc ?_
  obtain ⟨⟨p, l, e, R, s, m, args, below, meth, c9, Q⟩, D, A, ro, rot, c0, s0⟩ := X
  obtain ⟨hx, hb, -⟩ := hX
  intro H locs cells slots ls rest v hv hl kk
  cases v <;> first | (cases hv; done) | exact lv_fload_n hx hb hd rfl hl kk
theorem q_fload (hX : q_OK X cc own nL ret fr) {i : Nat} (hd : decode cc pc = .ok (.fload i, 2)) (hc : 1 ≤ c) : q_EOK X T (q_eLoc 2 i) pc (pc + 2) k c := by
  refine q_loc hc ?_
  obtain ⟨⟨p, l, e, R, s, m, args, below, meth, c9, Q⟩, D, A, ro, rot, c0, s0⟩ := X
  obtain ⟨hx, hb, -⟩ := hX
  intro H locs cells slots ls rest v hv hl kk
  cases v <;> first | (cases hv; done) | exact lv_fload hx hb hd hl kk
theorem q_dload_n (hX : q_OK X cc own nL ret fr) {i : Fin 4} (hd : decode cc pc = .ok (.dload_n i, 1)) (hc : 2 ≤ c) : q_EOK X T (q_eLoc 3 (i : Nat)) pc (pc + 1) k c := by
  refine q_loc hc ?_
  obtain ⟨⟨p, l, e, R, s, m, args, below, meth, c9, Q⟩, D, A, ro, rot, c0, s0⟩ := X
  obtain ⟨hx, hb, -⟩ := hX
  intro H locs cells slots ls rest v hv hl kk
  cases v <;> first | (cases hv; done) | exact lv_dload_n hx hb hd rfl hl kk
theorem q_dload (hX : q_OK X cc own nL ret fr) {i : Nat} (hd : decode cc pc = .ok (.dload i, 2)) (hc : 2 ≤ c) : q_EOK X T (q_eLoc 3 i) pc (pc + 2) k c := by
  refine q_loc hc ?_
  obtain ⟨⟨p, l, e, R, s, m, args, below, meth, c9, Q⟩, D, A, ro, rot, c0, s0⟩ := X
  obtain ⟨hx, hb, -⟩ := hX
  intro H locs cells slots ls rest v hv hl kk
  cases v <;> first | (cases hv; done) | exact lv_dload hx hb hd hl kk
theorem q_aload_n (hX : q_OK X cc own nL ret fr) {i : Fin 4} (hd : decode cc pc = .ok (.aload_n i, 1)) (hc : 1 ≤ c) : q_EOK X T (q_eLoc 4 (i : Nat)) pc (pc + 1) k c := by
  refine q_loc hc ?_
  obtain ⟨⟨p, l, e, R, s, m, args, below, meth, c9, Q⟩, D, A, ro, rot, c0, s0⟩ := X
  obtain ⟨hx, hb, -⟩ := hX
  intro H locs cells slots ls rest v hv hl kk
  cases v <;> first | (cases hv; done) | exact lv_aload_n hx hb hd rfl hl kk
theorem q_aload (hX : q_OK X cc own nL ret fr) {i : Nat} (hd : decode cc pc = .ok (.aload i, 2)) (hc : 1 ≤ c) : q_EOK X T (q_eLoc 4 i) pc (pc + 2) k c := by
  refine q_loc hc ?_
  obtain ⟨⟨p, l, e, R, s, m, args, below, meth, c9, Q⟩, D, A, ro, rot, c0, s0⟩ := X
  obtain ⟨hx, hb, -⟩ := hX
  intro H locs cells slots ls rest v hv hl kk
  cases v <;> first | (cases hv; done) | exact lv_aload hx hb hd hl kk
theorem q_istore_n (hX : q_OK X cc own nL ret fr) {i : Fin 4} (hd : decode cc p1 = .ok (.istore_n i, 1)) (hi : (i : Nat) < nL) : q_ST X 0 (i : Nat) p1 (p1 + 1) := by
  refine q_st_of rfl ?_
  obtain ⟨⟨p, l, e, R, s, m, args, below, meth, c9, Q⟩, D, A, ro, rot, c0, s0⟩ := X
  obtain ⟨hx, hb, hml, -⟩ := hX
  intro H locs cells slots ls v lv hv hl kk
  cases v <;> first | (cases hv; done) | exact lv_istore_n hx hb hd rfl hl (by rw [show c9.maxLocals = nL from hml]; exact hi) rfl kk
theorem q_istore (hX : q_OK X cc own nL ret fr) {i : Nat} (hd : decode cc p1 = .ok (.istore i, 2)) (hi : i < nL) : q_ST X 0 i p1 (p1 + 2) := by
  refine q_st_of rfl ?_
  obtain ⟨⟨p, l, e, R, s, m, args, below, meth, c9, Q⟩, D, A, ro, rot, c0, s0⟩ := X
  obtain ⟨hx, hb, hml, -⟩ := hX
  intro H locs cells slots ls v lv hv hl kk
  cases v <;> first | (cases hv; done) | exact lv_istore hx hb hd hl (by rw [show c9.maxLocals = nL from hml]; exact hi) rfl kk
theorem q_lstore_n (hX : q_OK X cc own nL ret fr) {i : Fin 4} (hd : decode cc p1 = .ok (.lstore_n i, 1)) (hi : (i : Nat) + 1 < nL) : q_ST X 1 (i : Nat) p1 (p1 + 1) := by
  refine q_st_of2 rfl ?_
  obtain ⟨⟨p, l, e, R, s, m, args, below, meth, c9, Q⟩, D, A, ro, rot, c0, s0⟩ := X
  obtain ⟨hx, hb, hml, -⟩ := hX
  intro H locs cells slots ls v lv hv hl kk
  cases v <;> first | (cases hv; done) | exact lv_lstore_n hx hb hd rfl hl (by rw [show c9.maxLocals = nL from hml]; exact hi) rfl kk
theorem q_lstore (hX : q_OK X cc own nL ret fr) {i : Nat} (hd : decode cc p1 = .ok (.lstore i, 2)) (hi : i + 1 < nL) : q_ST X 1 i p1 (p1 + 2) := by
  refine q_st_of2 rfl ?_
  obtain ⟨⟨p, l, e, R, s, m, args, below, meth, c9, Q⟩, D, A, ro, rot, c0, s0⟩ := X
  obtain ⟨hx, hb, hml, -⟩ := hX
  intro H locs cells slots ls v lv hv hl kk
  cases v <;> first | (cases hv; done) | exact lv_lstore hx hb hd hl (by rw [show c9.maxLocals = nL from hml]; exact hi) rfl kk
theorem q_fstore_n (hX : q_OK X cc own nL ret fr) {i : Fin 4} (hd : decode cc p1 = .ok (.fstore_n i, 1)) (hi : (i : Nat) < nL) : q_ST X 2 (i : Nat) p1 (p1 + 1) := by
  refine q_st_of rfl ?_
  obtain ⟨⟨p, l, e, R, s, m, args, below, meth, c9, Q⟩, D, A, ro, rot, c0, s0⟩ := X
  obtain ⟨hx, hb, hml, -⟩ := hX
  intro H locs cells slots ls v lv hv hl kk
  cases v <;> first | (cases hv; done) | exact lv_fstore_n hx hb hd rfl hl (by rw [show c9.maxLocals = nL from hml]; exact hi) rfl kk
theorem q_fstore (hX : q_OK X cc own nL ret fr) {i : Nat} (hd : decode cc p1 = .ok (.fstore i, 2)) (hi : i < nL) : q_ST X 2 i p1 (p1 + 2) := by
  refine q_st_of rfl ?_
  obtain ⟨⟨p, l, e, R, s, m, args, below, meth, c9, Q⟩, D, A, ro, rot, c0, s0⟩ := X
  obtain ⟨hx, hb, hml, -⟩ := hX
  intro H locs cells slots ls v lv hv hl kk
  cases v <;> first | (cases hv; done) | exact lv_fstore hx hb hd hl (by rw [show c9.maxLocals = nL from hml]; exact hi) rfl kk
theorem q_dstore_n (hX : q_OK X cc own nL ret fr) {i : Fin 4} (hd : decode cc p1 = .ok (.dstore_n i, 1)) (hi : (i : Nat) + 1 < nL) : q_ST X 3 (i : Nat) p1 (p1 + 1) := by
  refine q_st_of2 rfl ?_
  obtain ⟨⟨p, l, e, R, s, m, args, below, meth, c9, Q⟩, D, A, ro, rot, c0, s0⟩ := X
  obtain ⟨hx, hb, hml, -⟩ := hX
  intro H locs cells slots ls v lv hv hl kk
  cases v <;> first | (cases hv; done) | exact lv_dstore_n hx hb hd rfl hl (by rw [show c9.maxLocals = nL from hml]; exact hi) rfl kk
theorem q_dstore (hX : q_OK X cc own nL ret fr) {i : Nat} (hd : decode cc p1 = .ok (.dstore i, 2)) (hi : i + 1 < nL) : q_ST X 3 i p1 (p1 + 2) := by
  refine q_st_of2 rfl ?_
  obtain ⟨⟨p, l, e, R, s, m, args, below, meth, c9, Q⟩, D, A, ro, rot, c0, s0⟩ := X
  obtain ⟨hx, hb, hml, -⟩ := hX
  intro H locs cells slots ls v lv hv hl kk
  cases v <;> first | (cases hv; done) | exact lv_dstore hx hb hd hl (by rw [show c9.maxLocals = nL from hml]; exact hi) rfl kk
theorem q_astore_n (hX : q_OK X cc own nL ret fr) {i : Fin 4} (hd : decode cc p1 = .ok (.astore_n i, 1)) (hi : (i : Nat) < nL) : q_ST X 4 (i : Nat) p1 (p1 + 1) := by
  refine q_st_of rfl ?_
  obtain ⟨⟨p, l, e, R, s, m, args, below, meth, c9, Q⟩, D, A, ro, rot, c0, s0⟩ := X
  obtain ⟨hx, hb, hml, -⟩ := hX
  intro H locs cells slots ls v lv hv hl kk
  cases v <;> first | (cases hv; done) | exact lv_astore_n hx hb hd rfl hl (by rw [show c9.maxLocals = nL from hml]; exact hi) rfl kk
theorem q_astore (hX : q_OK X cc own nL ret fr) {i : Nat} (hd : decode cc p1 = .ok (.astore i, 2)) (hi : i < nL) : q_ST X 4 i p1 (p1 + 2) := by
  refine q_st_of rfl ?_
  obtain ⟨⟨p, l, e, R, s, m, args, below, meth, c9, Q⟩, D, A, ro, rot, c0, s0⟩ := X
  obtain ⟨hx, hb, hml, -⟩ := hX
  intro H locs cells slots ls v lv hv hl kk
  cases v <;> first | (cases hv; done) | exact lv_astore hx hb hd hl (by rw [show c9.maxLocals = nL from hml]; exact hi) rfl kk
theorem q_iinc (hX : q_OK X cc own nL ret fr) {i : Nat} {n : Int} (hd : decode cc pc = .ok (.iinc i n, 3)) (hi : i < nL) : q_SOK X T (q_sInc i n) pc (pc + 3) pb pk := by
  intro L h o L' h' hf
  unfold q_sInc at hf
  split at hf
  · rename_i x hx0
    cases hf
    refine ⟨q_le.rf _, fun hc α kn _ _ _ _ _ => ?_⟩
    intro tys ws H locs cells slots ls hR
    have kn := kn rfl α (List.prefix_refl _)
    obtain ⟨⟨p, l, e, R, s, m, args, below, meth, c9, Q⟩, D, A, ro, rot, c0, s0⟩ := X
    obtain ⟨hx, hb, hml, -⟩ := hX
    obtain ⟨r1, r2, r3, r4, r5, r6, r7, r8⟩ := id hR
    obtain ⟨w, hw, hr⟩ := r1.2.2.2 i _ hx0
    rw [show w = _ from hr] at hw
    obtain ⟨k9, hk9⟩ := List.getElem?_of_mem (q_all_mem hw)
    exact lv_iinc hx hb hd (q_all_has r1.1 r1.2.2.1) hk9 rfl (by rw [show c9.maxLocals = nL from hml]; exact hi) rfl (fun ls' h' => kn tys ws H locs cells slots ls' ⟨q_stL_ok1 r1 rfl rfl h', r2, r3, r4, r5, r6, r7, r8⟩)
  · cases hf
theorem q_throwW (hX : q_OK X cc own nL ret fr) {x ik is ic ci : Nat} {text : String} {names : List String} {T0 : u_T} (hc : q_cl[ci]? = some (q_xn x, T0, 0)) (hcls : Bundle.fit (q_xn x) = true) (hnames : ∀ n ∈ names, Bundle.fit n = true) (hnl : names.length = 2)
    (hk : Cond.classLink own ik (q_xn x) ∈ q_WS) (hini : Cond.initialized (q_xn x) ∈ q_WS) (hstr : (own, is, text) ∈ q_strs) (hat : ∀ w ∈ (vx_atS own ic (q_xn x) names).filter goodWord, w ∈ q_WS) (hbad : ∀ w ∈ (vx_atS own ic (q_xn x) names).filter (fun w => !goodWord w), w ∈ Cond.castable (q_xn x) (q_xn x) :: q_DE.map Cond.declares) (hex : q_xn x ∈ q_EX) (hgood : ∀ w ∈ Cond.classLink own ik (q_xn x) :: Cond.initialized (q_xn x) :: vx_atS own ic (q_xn x) names, vx_ot w = true)
    (d0 : decode cc pc = .ok (.new ik, 3)) (d3 : decode cc (pc + 3) = .ok (.dup, 1)) (d4 : decode cc (pc + 4) = .ok (.ldc_w is, 3)) (d6 : decode cc (pc + 7) = .ok (.invokespecial ic, 3)) (d9 : decode cc (pc + 10) = .ok (.athrow, 1)) (hfr6 : 6 ≤ fr) (hT : T (pc + 10)) : q_SOK X T (q_sThrow x) pc pn pb pk := by
  intro L h o L' h' hf
  cases hf
  refine ⟨⟨Nat.le_succ _, Nat.le_add_right _ _⟩, fun hcap α _ _ _ _ _ kx => ?_⟩
  intro tys wd H locs cells slots ls hR
  have kx := kx x rfl α (pc + 10) (List.prefix_refl _) hT
  obtain ⟨⟨p, l, e, R, s, m, args, below, meth, c9, Q⟩, D, A, ro, rot, c0, s0⟩ := X
  obtain ⟨hx, hb, hml, hrt, hown, hts, hst, hlk, hSt, hA, hfr, hlo⟩ := hX
  obtain ⟨r1, r2, r3, r4, r5, r6, r7, r8⟩ := id hR
  obtain ⟨sa, hsa⟩ := hSt.2.2.2.2.1 _ hstr
  have hcells : cells + 1 ≤ R.cells := by have h1 : h.2.1 + 1 ≤ c0 + R.cells := hcap.1; omega
  have hslots : slots + 6 ≤ R.slots := by have h1 : h.2.2 + 6 ≤ s0 + R.slots := hcap.2; omega
  refine q_makeSW (own := own) (cls := q_xn x) (text := text) (names := names) (ik := ik) (is := is) (ic := ic) (sa := sa) (T0 := T0) hx hb hst hown hcls hnames (hts _ hk) (hts _ hini) hsa (vx_hat (fun w hw => hts _ (hat w hw)) hbad (fun w hw => q_bad hSt hex w hw)) hgood hSt.2.2.1 hSt.2.2.2.1 r6 r1.1 d0 d3 d4 d6 r3 r4 r5 hA hc (by rw [hnl]; omega) (by rw [hnl]; show 0 + (13 * 3 + 43) ≤ R.locals; omega) hcells hslots (fun q H1 hP hD hS => ?_)
  refine vx_athrow hx hb d9 ?_
  have hk9 : (wd ++ [(q, (.inr (ci, []) : va_E))])[wd.length]? = some (q, .inr (ci, [])) := by simp
  obtain ⟨rr, e1, cell, q1, q2, q3, -⟩ := hP _ _ hk9
  have e1 : q_cl[ci]? = some rr := e1
  rw [hc] at e1
  cases e1
  have hP1 : va_P D q_cl wd H1 := fun i z hz => hP i z (by rw [List.getElem?_append_left (List.getElem?_eq_some_iff.mp hz).1]; exact hz)
  have hD1 : va_D A wd := ⟨fun i j z1 z2 h1 h2 h3 => hD.1 i j z1 z2 (by rw [List.getElem?_append_left (List.getElem?_eq_some_iff.mp h1).1]; exact h1) (by rw [List.getElem?_append_left (List.getElem?_eq_some_iff.mp h2).1]; exact h2) h3, fun i z hz => hD.2 i z (by rw [List.getElem?_append_left (List.getElem?_eq_some_iff.mp hz).1]; exact hz)⟩
  exact kx tys wd H1 locs _ _ ls [] q cell ⟨r1, r2, r3, hP1, hD1, hS, by show cells + 1 + c0 = h.2.1 + 1; omega, by show slots + 6 + s0 = h.2.2 + 6; omega⟩ q1 q3 (by rw [q2]; exact (r3.1 ci _ hc).2.1)
/-- try s, each handler answers a number -/
def q_hnd : List (Nat × Int32) → Nat → Option Int32
  | [], _ => none
  | (k, r) :: l, x => if x = k then some r else q_hnd l x
def q_sTry (s : qS) (hs : List (Nat × Int32)) : qS := fun L h => match s L h with
  | some ((x + 5, _), L1, h1) => (match q_hnd hs x with
    | some r => some ((4, .int r), L1, h1)
    | none => none)
  | r => r
/-- a handler's code: the exception is put away, a number answered -/
def q_HC (X : qX) (hp : Nat) (r : Int32) : Prop := ∃ pr, decode X.1.2.2.2.2.2.2.2.2.2.1.code pr = .ok (.ireturn, 1) ∧ ∀ H locs cells slots ls q lv, lv_has ls X.1.2.2.2.2.2.2.2.2.2.1.maxLocals lv → (∀ ls', ls'.size = X.1.2.2.2.2.2.2.2.2.2.1.maxLocals → lv_wf ls' → q_W X H locs cells slots (F0 (q_m X) pr ls' [.int r])) → q_W X H locs cells slots (F0 (q_m X) hp ls [.ref q])
theorem q_hc_n (hX : q_OK X cc own nL ret fr) {hp : Nat} {i : Fin 4} {n : Int} {r : Int32} (d0 : decode cc hp = .ok (.astore_n i, 1)) (hi : (i : Nat) < nL) (d1 : decode cc (hp + 1) = .ok (.iconst n, 1)) (hn : Int32.ofInt n = r) (d2 : decode cc (hp + 2) = .ok (.ireturn, 1)) : q_HC X hp r := by
  obtain ⟨⟨p, l, e, R, s, m, args, below, meth, c9, Q⟩, D, A, ro, rot, c0, s0⟩ := X
  obtain ⟨hx, hb, hml, -⟩ := hX
  refine ⟨hp + 2, by show decode c9.code _ = _; rw [hb]; exact d2, fun H locs cells slots ls q lv hl kk => ?_⟩
  refine lv_astore_n hx hb d0 rfl hl (by rw [show c9.maxLocals = nL from hml]; exact hi) rfl (fun ls' h' => ?_)
  exact lv_iconst hx hb d1 hn (kk ls' h'.1 h'.2.1)
theorem q_hc (hX : q_OK X cc own nL ret fr) {hp i : Nat} {n : Int} {r : Int32} (d0 : decode cc hp = .ok (.astore i, 2)) (hi : i < nL) (d1 : decode cc (hp + 2) = .ok (.iconst n, 1)) (hn : Int32.ofInt n = r) (d2 : decode cc (hp + 3) = .ok (.ireturn, 1)) : q_HC X hp r := by
  obtain ⟨⟨p, l, e, R, s, m, args, below, meth, c9, Q⟩, D, A, ro, rot, c0, s0⟩ := X
  obtain ⟨hx, hb, hml, -⟩ := hX
  refine ⟨hp + 3, by show decode c9.code _ = _; rw [hb]; exact d2, fun H locs cells slots ls q lv hl kk => ?_⟩
  refine lv_astore hx hb d0 hl (by rw [show c9.maxLocals = nL from hml]; exact hi) rfl (fun ls' h' => ?_)
  exact lv_iconst hx hb d1 hn (kk ls' h'.1 h'.2.1)
theorem q_try (hX : q_OK X cc own nL (some .int) fr) {hh : List (Nat × Nat × Nat × Nat)} {hs : List (Nat × Int32)} {tc : Nat} {s1 : qS} (htab : X.1.2.2.2.2.2.2.2.2.2.1.exceptionTable.toList = tableOf hh) (hs1 : q_SOK X (q_Te tc) s1 pc pn pb pk)
    (hc : ∀ x r, q_hnd hs x = some r → ∃ pre ent suf name, tableOf hh = pre ++ ent :: suf ∧ (∀ z ∈ pre, covers z tc = false ∨ (z.catchType ≠ 0 ∧ ∃ nm : String, Cond.classLink own z.catchType nm ∈ q_WS ∧ (q_xn x, nm) ∈ q_NC)) ∧ covers ent tc = true ∧ ent.catchType ≠ 0 ∧ Cond.classLink own ent.catchType name ∈ q_WS ∧ name = q_xn x ∧ q_xn x ∈ q_EX ∧ q_HC X ent.handlerPc r) : q_SOK X T (q_sTry s1 hs) pc pn pb pk := by
  intro L h o L' h' hf
  cases ea : s1 L h with
  | none => simp [q_sTry, ea] at hf
  | some q =>
    obtain ⟨⟨j, v⟩, L1, h1⟩ := q
    obtain ⟨m1, g1⟩ := hs1 L h _ _ _ ea
    by_cases hj : 5 ≤ j
    · obtain ⟨x, rfl⟩ : ∃ x, j = x + 5 := ⟨j - 5, by omega⟩
      simp only [q_sTry, ea] at hf
      cases er : q_hnd hs x with
      | none => rw [er] at hf; cases hf
      | some r =>
        rw [er] at hf
        cases hf
        refine ⟨m1, fun hcap α _ _ _ _ kv _ => g1 hcap α (fun e => by have e : x + 5 = 0 := e; omega) (fun e => by have e : x + 5 = 1 := e; omega) (fun e => by have e : x + 5 = 2 := e; omega) (fun e => by have e : x + 5 = 3 := e; omega) (fun e => by have e : x + 5 = 4 := e; omega) (fun z e α1 t hp1 ht => ?_)⟩
        have hzx : z = x := by have e : x + 5 = z + 5 := e; omega
        subst hzx
        have ht : t = tc := ht
        subst ht
        obtain ⟨pre, ent, suf, name, t1, t2, t3, t4, t5, t6, t7, pr, hd9, hcode⟩ := hc z r er
        subst t6
        intro tys wd H locs cells slots ls st q ce hR hce hcv hcl
        have kv := kv rfl α1 (.int r) hp1 rfl
        have hxT := hX
        obtain ⟨⟨p, l, e, R, s, m, args, below, meth, c9, Q⟩, D, A, ro, rot, c0, s0⟩ := X
        obtain ⟨hx, hb, hml, hrt, hown, hts, hst, hlk, hSt, hA, hfr, hlo⟩ := hX
        obtain ⟨r1, r2, r3, r4, r5, r6, r7, r8⟩ := id hR
        refine vx_catch hown pre ent suf (by rw [← t1]; exact htab) (fun z hz => ?_) t3 t4 (hts _ t5) (hSt.2.2.2.2.2.2.2.2.2.1 _ t7).word hce hcv hcl ?_
        · rcases t2 z hz with h1 | ⟨h1, nm, h2, h3⟩
          · exact Or.inl h1
          · exact Or.inr ⟨h1, nm, hts _ h2, hSt.2.2.2.2.2.2.2.2.1 _ h3⟩
        · refine hcode H locs cells slots ls q _ (q_all_has r1.1 r1.2.2.1) (fun ls' hz1 hz2 => ?_)
          refine kv tys wd H locs cells slots ls' (List.replicate c9.maxLocals none) pr ⟨⟨hz1, by simp, hz2, fun i v hv => ?_⟩, r2, r3, r4, r5, r6, r7, r8⟩ ?_
          · rw [List.getElem?_replicate] at hv
            split at hv <;> cases hv
          · show decode c9.code pr = .ok (q_ri meth.sig.returnType, 1)
            rw [hrt]
            exact hd9
    · have hf : some ((j, v), L1, h1) = some (o, L', h') := by
        rw [← hf]
        unfold q_sTry
        rw [ea]
        match j, hj with
        | 0, _ => rfl
        | 1, _ => rfl
        | 2, _ => rfl
        | 3, _ => rfl
        | 4, _ => rfl
        | j + 5, hj => omega
      cases hf
      exact ⟨m1, fun hcap α kn kb kk kr kv kx => g1 hcap α kn kb kk kr kv (fun x e => by have e : j = x + 5 := e; omega)⟩
/-- switch -/
def q_pick : List (Int × qS) → qS → Int → qS
  | [], d, _ => d
  | (k, s) :: r, d, j => if j = k then s else q_pick r d j
def q_sSw (e : qE) (cs : List (Int × qS)) (d : qS) : qS := fun L h => q_bS (e L h) L fun v h1 => match v with
  | .int j => (match q_pick cs d j.toInt L h1 with
    | some ((1, _), L2, h2) => some ((0, .null), L2, h2)
    | r => r)
  | _ => none
def q_SW (X : qX) (T : Nat → Prop) (p1 pn pk : Nat) (cs : List (Int × qS)) (d : qS) (ps : List (Int × Int)) (dflt : Int) : Prop :=
  ∀ j : Int, ∃ t : Nat, (p1 : Int) + Op.lookupswitch.offset ps dflt j = t ∧ q_SOK X T (q_pick cs d j) t pn pn pk
theorem q_sw_nil {d : qS} {dflt : Int} {t : Nat} (ht : (p1 : Int) + dflt = t) (hs : q_SOK X T d t pn pn pk) : q_SW X T p1 pn pk [] d [] dflt := fun j => ⟨t, by rw [Op.lookupswitch.offset_nil]; exact ht, hs⟩
theorem q_sw_cons {d s1 : qS} {dflt kk o : Int} {t : Nat} {cs : List (Int × qS)} {ps : List (Int × Int)} (ht : (p1 : Int) + o = t) (hs : q_SOK X T s1 t pn pn pk) (hr : q_SW X T p1 pn pk cs d ps dflt) : q_SW X T p1 pn pk ((kk, s1) :: cs) d ((kk, o) :: ps) dflt := by
  intro j
  by_cases hj : j = kk
  · refine ⟨t, by rw [Op.lookupswitch.offset_cons, if_pos hj.symm]; exact ht, ?_⟩
    unfold q_pick
    rw [if_pos hj]
    exact hs
  · obtain ⟨t2, h1, h2⟩ := hr j
    refine ⟨t2, by rw [Op.lookupswitch.offset_cons, if_neg (fun q => hj q.symm)]; exact h1, ?_⟩
    unfold q_pick
    rw [if_neg hj]
    exact h2
theorem q_sw_all {cs : List (Int × qS)} {d : qS} {ps : List (Int × Int)} {dflt : Int} (ha : q_EOK X T a pc p1 0 1) (hrow : ∀ (j : Int32) (t : Nat), (p1 : Int) + Op.lookupswitch.offset ps dflt j.toInt = t → ∀ H locs cells slots ls rest, q_W X H locs cells slots (F0 (q_m X) t ls rest) → q_W X H locs cells slots (F0 (q_m X) p1 ls (.int j :: rest))) (hs : q_SW X T p1 pn pk cs d ps dflt) : q_SOK X T (q_sSw a cs d) pc pn pb pk := by
  intro L h o L' h' hf
  cases ea : a L h with
  | none => simp [q_sSw, q_bS, ea] at hf
  | some q =>
    obtain ⟨m1, g1⟩ := ha L h _ _ ea
    obtain ⟨q | q, h1⟩ := q
    · simp only [q_sSw, q_bS, ea] at hf
      split at hf
      · rename_i j
        obtain ⟨t, ht, hs⟩ := hs j.toInt
        cases eb : q_pick cs d j.toInt L h1 with
        | none => rw [eb] at hf; cases hf
        | some q2 =>
          obtain ⟨⟨i, v⟩, L2, h2⟩ := q2
          obtain ⟨m2, g2⟩ := hs L h1 _ _ _ eb
          rw [eb] at hf
          have start : ∀ (α α1 : List Nat) (w1 : Value), q_vr X.2.2.2.1 α1 (.int j) w1 → q_G X L h1 α1 t [] → q_G X L h1 α1 p1 [w1] := by
            intro α α1 w1 hr hg tys wd H locs cells slots ls hR
            rw [show w1 = _ from hr]
            exact hrow j t ht _ _ _ _ _ _ (hg tys wd H locs cells slots ls hR)
          by_cases hi : i = 1
          · subst hi
            have hf : some (((0 : Nat), Value.null), L2, h2) = some (o, L', h') := hf
            cases hf
            refine ⟨m1.tr m2, fun hc α kn kb kk kr kv kx => g1 (hc.le m2) α [] (Nat.zero_le _) (fun v1 e1 α1 w1 hp1 hr1 hc1 => ?_) (fun x e1 => by cases e1)⟩
            cases e1
            exact start α α1 w1 hr1 (g2 hc α1 (fun e => by cases e) (fun _ α2 hp2 => kn rfl α2 (hp1.trans hp2)) (fun e => by cases e) (fun e => by cases e) (fun e => by cases e) (fun x e => by have e : (1 : Nat) = x + 5 := e; omega))
          · have hf : some ((i, v), L2, h2) = some (o, L', h') := by
              rw [← hf]
              match i, hi with
              | 0, _ => rfl
              | i + 2, _ => rfl
            cases hf
            refine ⟨m1.tr m2, fun hc α kn kb kk kr kv kx => g1 (hc.le m2) α [] (Nat.zero_le _) (fun v1 e1 α1 w1 hp1 hr1 hc1 => ?_) (fun x e1 => by cases e1)⟩
            cases e1
            exact start α α1 w1 hr1 (g2 hc α1 (fun e α2 hp2 => kn e α2 (hp1.trans hp2)) (fun e => absurd e hi) (fun e α2 hp2 => kk e α2 (hp1.trans hp2)) (fun e α2 hp2 => kr e α2 (hp1.trans hp2)) (fun e α2 w hp2 => kv e α2 w (hp1.trans hp2)) (fun x e α2 t hp2 => kx x e α2 t (hp1.trans hp2)))
      · cases hf
    · simp only [q_sSw, q_bS, ea] at hf
      cases hf
      exact ⟨m1, fun hc α _ _ _ _ _ kx => g1 hc α [] (Nat.zero_le _) (fun v1 e1 => by cases e1) (fun x e1 => kx x (by cases e1; rfl))⟩
theorem q_lsw (hX : q_OK X cc own nL ret fr) {dflt : Int} {ps : Array (Int × Int)} {len : Nat} (hd : decode cc p1 = .ok (.lookupswitch dflt ps, len)) (hp : (ps.toList.zip (ps.toList.drop 1)).all (fun (a, next) => a.1 < next.1) = true) : ∀ (j : Int32) (t : Nat), (p1 : Int) + Op.lookupswitch.offset ps.toList dflt j.toInt = t → ∀ H locs cells slots ls rest, q_W X H locs cells slots (F0 (q_m X) t ls rest) → q_W X H locs cells slots (F0 (q_m X) p1 ls (.int j :: rest)) := by
  obtain ⟨⟨p, l, e, R, s, m, args, below, meth, c9, Q⟩, D, A, ro, rot, c0, s0⟩ := X
  obtain ⟨hx, hb, -⟩ := hX
  exact fun j t ht H locs cells slots ls rest kk => lv_lookup hx hb hd hp rfl ht kk
def q_tl : Int → List Int → List (Int × Int)
  | _, [] => []
  | k, o :: r => (k, o) :: q_tl (k + 1) r
theorem q_tl_in (d j : Int) : ∀ (l : List Int) (k : Int), k ≤ j → j < k + l.length → l[(j - k).toNat]? = some (Op.lookupswitch.offset (q_tl k l) d j)
  | [], k, h1, h2 => by simp at h2; omega
  | o :: r, k, h1, h2 => by
    unfold q_tl
    rw [Op.lookupswitch.offset_cons]
    by_cases hj : j = k
    · rw [if_pos hj.symm, hj]
      simp
    · rw [if_neg (fun q => hj q.symm), ← q_tl_in d j r (k + 1) (by omega) (by simp at h2; omega)]
      rw [show (j - k).toNat = (j - (k + 1)).toNat + 1 by omega]
      rfl
theorem q_tl_out (d j : Int) : ∀ (l : List Int) (k : Int), (j < k ∨ k + l.length ≤ j) → Op.lookupswitch.offset (q_tl k l) d j = d
  | [], k, _ => rfl
  | o :: r, k, h => by
    unfold q_tl
    rw [Op.lookupswitch.offset_cons, if_neg (by simp at h; omega)]
    exact q_tl_out d j r (k + 1) (by simp at h; omega)
theorem q_tsw (hX : q_OK X cc own nL ret fr) {dflt lo hi : Int} {offs : Array Int} {len : Nat} (hd : decode cc p1 = .ok (.tableswitch dflt lo hi offs, len)) (hn : hi + 1 = lo + offs.toList.length) : ∀ (j : Int32) (t : Nat), (p1 : Int) + Op.lookupswitch.offset (q_tl lo offs.toList) dflt j.toInt = t → ∀ H locs cells slots ls rest, q_W X H locs cells slots (F0 (q_m X) t ls rest) → q_W X H locs cells slots (F0 (q_m X) p1 ls (.int j :: rest)) := by
  obtain ⟨⟨p, l, e, R, s, m, args, below, meth, c9, Q⟩, D, A, ro, rot, c0, s0⟩ := X
  obtain ⟨hx, hb, -⟩ := hX
  intro j t ht H locs cells slots ls rest kk
  by_cases h1 : j.toInt < lo ∨ hi < j.toInt
  · rw [q_tl_out dflt j.toInt offs.toList lo (by omega)] at ht
    exact lv_tableOut hx hb hd h1 ht kk
  · have h2 := q_tl_in dflt j.toInt offs.toList lo (by omega) (by omega)
    exact lv_tableIn hx hb hd (by omega) (by omega) (by rw [← h2, Array.getElem?_toList]) ht kk
theorem q_caSX (hX : q_OK X cc own nL ret fr) (hrot : X.2.2.2.2.1 = rot0) {hh : List (Nat × Nat × Nat × Nat)} (hM : q_Met rot0 y ws rt fr2 F) (hws : ws = Cond.codeWith y bytes maxL rt hh :: q_WS) (hcode : Cond.codeWith y bytes maxL rt hh ∈ q_WS) (hl : Cond.methodLink own index y ∈ q_WS) (hsta : Cond.static y ∈ q_WS) (hini : Cond.initialized y.cls ∈ q_WS) (hd : y.cls ≠ "java/lang/invoke/MethodHandle" ∧ y.cls ≠ "java/lang/invoke/VarHandle" ∧ (parseMethodDescriptor y.desc).map (fun d => d.parameters.length) = some n)
    (hfr2 : fr2 + 1 ≤ fr) (hm : maxL ≤ 15) (hdec : decode cc p1 = .ok (.invokestatic index, 3)) (hT : T p1) : q_CA X T none F rt p1 n := by
  refine ⟨hT, fun L h α vs wv r h2 rest eF ho => ⟨hM.1 _ _ _ _ eF, fun hn hr hcap h8 kv kx => ?_⟩⟩
  subst hrot
  have hle := hM.1 _ _ _ _ eF
  intro tys wd H locs cells slots ls hR
  refine q_behind (av := wv.toArray) hX rfl rfl hR hle ?_ kv kx
  obtain ⟨⟨p, l, e, R, s, m, args, below, meth, c9, Q⟩, D, A, ro, rot, c0, s0⟩ := X
  obtain ⟨hx, hb, hml, hrt, hown, hts, hst, hlk, hSt, hA, hfr, hlo⟩ := hX
  obtain ⟨r1, r2, r3, r4, r5, r6, r7, r8⟩ := id hR
  have hG : GoodIn q_WS (va_wsS own index y ws) := q_sub_good (fun w hw => by
    subst hws
    simp only [va_wsS, List.mem_append, List.mem_cons, List.not_mem_nil, or_false] at hw
    rcases hw with (rfl | rfl | rfl) | (rfl | hw)
    · exact hl
    · exact hsta
    · exact hini
    · exact hcode
    · exact hw)
  have cw := vx_cwSW (R := R) (s := s) (args := args) (rm := q_rm fr2 h h2) n hts hG hws rfl rfl hd ⟨by show fr2 + 1 ≤ R.frames; omega, by show 8 + (maxL + 11) + (34 * fr2 + 88) ≤ R.locals; omega⟩
  have hf : cells + (h2.2.1 - h.2.1) ≤ R.cells ∧ slots + (h2.2.2 - h.2.2) ≤ R.slots := by
    have h1 : h2.2.1 ≤ c0 + R.cells := hcap.1
    have h3 : h2.2.2 ≤ s0 + R.slots := hcap.2
    have h4 := hle.1
    have h5 := hle.2
    constructor <;> omega
  exact vx_runSX (As := wv) (rest := rest) (nL := nL) ⟨hx, hb, hml, hown, hts⟩ (hM.2 l hst D ro vs wv h r h2 α H.size eF hr) cw ⟨q_blind, fun U hU hW => ⟨rfl, q_pre hSt hA hR U hU hW⟩⟩ rfl (by rw [← hr.len]; exact hn) (r1.1.trans hml) rfl (lv_room h8) hdec hf
end QRO
