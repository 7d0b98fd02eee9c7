/-! the kinds of calls; new; throw -/
theorem q_sub_good {l : List Cond} (h : ∀ w ∈ l, w ∈ q_WS) : GoodIn q_WS l := fun w hw => q_good w (h w hw)
section QKI
variable {X : qX} {T : Nat → Prop} {pc p1 p2 p3 p4 p5 pn pb pk k n c c1 c2 nL fr fr2 index maxL : Nat} {f a b x y0 : qE} {as : qAs} {F : qF} {cc bytes : ByteArray} {own C : String} {ret rt : Option FieldType} {rot0 : qRO} {y : MethodName} {ws : List Cond}
theorem q_pre {L : qL} {h : qH} {α : List Nat} {tys : List (ClassId × FieldType)} {wd : va_W} {H : Heap} {locs : List Loc} {cells slots : Nat} {ls : Array Slot} {D : va_G} {A : Nat → Prop} {ro : Nat → Nat} {rot : qRO} {c0 s0 : Nat} {p : Program} {l : Launch} {e : Env} {R : Room} {s : State} {m : MethodId} {args : Array Value} {below : List Frame} {meth : Method} {c9 : Code} {Q : State → Prop}
    (hSt : q_St rot ro A s s.heap) (hA : ∀ q, s.heap.size ≤ q → A q) (hR : q_R ((p, l, e, R, s, m, args, below, meth, c9, Q), D, A, ro, rot, c0, s0) L h α tys wd H locs cells slots ls) : ∀ U : State, U.heap = H → s.WarmedH U.vm → q_Bw D ro rot h α H.size U := by
  obtain ⟨r1, r2, r3, r4, r5, r6, r7, r8⟩ := hR
  have hAA := q_mem_A (sz := H.size) r2.1 r5 (fun q hq => hA q (Nat.le_trans r6.1 hq))
  intro U hU hW
  subst hU
  exact ⟨rfl, ((hSt.warm hW).kept r6.2.1).narrow hAA, tys, wd, r2, va_K.moved hW.alike r3, r4, q_D_self r2.1 r5⟩
/-- the words of a static call -/
def q_wS (own : String) (index : Nat) (y : MethodName) (bytes : ByteArray) (maxL : Nat) (rt : Option FieldType) (n : Nat) : Prop :=
  Cond.code y bytes maxL rt ∈ q_WS ∧ Cond.methodLink own index y ∈ q_WS ∧ Cond.static y ∈ q_WS ∧ Cond.initialized y.cls ∈ q_WS ∧ (y.cls ≠ "java/lang/invoke/MethodHandle" ∧ y.cls ≠ "java/lang/invoke/VarHandle" ∧ (parseMethodDescriptor y.desc).map (fun d => d.parameters.length) = some n)
theorem q_caS (hX : q_OK X cc own nL ret fr) (hrot : X.2.2.2.2.1 = rot0) (hM : q_Met rot0 y ws rt fr2 F) (hws : ws = Cond.code y bytes maxL rt :: q_WS) (hw : q_wS own index y bytes maxL rt n)
    (hfr2 : fr2 + 1 ≤ fr) (hm : maxL ≤ 15) (hdec : decode cc p1 = .ok (.invokestatic index, 3)) (hT : T p1) : q_CA X T none F rt p1 n := by
  refine ⟨hT, fun L h α vs wv r h2 rest eF ho => ⟨hM.1 _ _ _ _ eF, fun hn hr hcap h8 kv kx => ?_⟩⟩
  subst hrot
  have hle := hM.1 _ _ _ _ eF
  intro tys wd H locs cells slots ls hR
  refine q_behind (av := wv.toArray) hX rfl rfl hR hle ?_ kv kx
  obtain ⟨⟨p, l, e, R, s, m, args, below, meth, c9, Q⟩, D, A, ro, rot, c0, s0⟩ := X
  obtain ⟨hx, hb, hml, hrt, hown, hts, hst, hlk, hSt, hA, hfr, hlo⟩ := hX
  obtain ⟨r1, r2, r3, r4, r5, r6, r7, r8⟩ := id hR
  obtain ⟨w1, w2, w3, w4, w5⟩ := hw
  have hG : GoodIn q_WS (va_wsS own index y ws) := q_sub_good (fun w hw => by
    subst hws
    simp only [va_wsS, List.mem_append, List.mem_cons, List.not_mem_nil, or_false] at hw
    rcases hw with (rfl | rfl | rfl) | (rfl | hw)
    · exact w2
    · exact w3
    · exact w4
    · exact w1
    · exact hw)
  have cw := va_cwS (R := R) (s := s) (args := args) (rm := q_rm fr2 h h2) n hts hG hws rfl rfl w5 ⟨by show fr2 + 1 ≤ R.frames; omega, by show 8 + (maxL + 11) + (34 * fr2 + 88) ≤ R.locals; omega⟩
  have hf : cells + (h2.2.1 - h.2.1) ≤ R.cells ∧ slots + (h2.2.2 - h.2.2) ≤ R.slots := by
    have h1 : h2.2.1 ≤ c0 + R.cells := hcap.1
    have h3 : h2.2.2 ≤ s0 + R.slots := hcap.2
    have h4 := hle.1
    have h5 := hle.2
    constructor <;> omega
  exact vx_runS (As := wv) (rest := rest) (nL := nL) ⟨hx, hb, hml, hown, hts⟩ (hM.2 l hst D ro vs wv h r h2 α H.size eF hr) cw ⟨q_blind, fun U hU hW => ⟨rfl, q_pre hSt hA hR U hU hW⟩⟩ rfl (by rw [← hr.len]; exact hn) (r1.1.trans hml) rfl (lv_room h8) hdec hf
theorem q_caSN (hX : q_OK X cc own nL ret fr) (hrot : X.2.2.2.2.1 = rot0) (hM : q_Met rot0 y ws rt fr2 F) (hws : ws = Cond.code y bytes maxL rt :: q_WS) (hcode : Cond.code y bytes maxL rt ∈ q_WS) (hl : (own, index, y) ∈ q_NM) (hsta : Cond.static y ∈ q_WS) (hini : Cond.initialized y.cls ∈ q_WS) (hd : y.cls ≠ "java/lang/invoke/MethodHandle" ∧ y.cls ≠ "java/lang/invoke/VarHandle" ∧ (parseMethodDescriptor y.desc).map (fun d => d.parameters.length) = some n)
    (hfr2 : fr2 + 1 ≤ fr) (hm : maxL ≤ 15) (hdec : decode cc p1 = .ok (.invokestatic index, 3)) (hT : T p1) : q_CA X T none F rt p1 n := by
  refine ⟨hT, fun L h α vs wv r h2 rest eF ho => ⟨hM.1 _ _ _ _ eF, fun hn hr hcap h8 kv kx => ?_⟩⟩
  subst hrot
  have hle := hM.1 _ _ _ _ eF
  intro tys wd H locs cells slots ls hR
  refine q_behind (av := wv.toArray) hX rfl rfl hR hle ?_ kv kx
  obtain ⟨⟨p, l, e, R, s, m, args, below, meth, c9, Q⟩, D, A, ro, rot, c0, s0⟩ := X
  obtain ⟨hx, hb, hml, hrt, hown, hts, hst, hlk, hSt, hA, hfr, hlo⟩ := hX
  obtain ⟨r1, r2, r3, r4, r5, r6, r7, r8⟩ := id hR
  have hG : GoodIn q_WS ws := q_sub_good (fun w hw => by
    subst hws
    rcases List.mem_cons.mp hw with rfl | hw
    · exact hcode
    · exact hw)
  have cw := va_cnB (R := R) (s := s) (args := args) (rm := q_rm fr2 h h2) n hts hG hws rfl rfl (hSt.2.2.2.2.2.2.1 _ hl) (hts _ hini) hd ⟨by show fr2 + 1 ≤ R.frames; omega, by show 8 + (maxL + 11) + (34 * fr2 + 88) ≤ R.locals; omega⟩
  have hf : cells + (h2.2.1 - h.2.1) ≤ R.cells ∧ slots + (h2.2.2 - h.2.2) ≤ R.slots := by
    have h1 : h2.2.1 ≤ c0 + R.cells := hcap.1
    have h3 : h2.2.2 ≤ s0 + R.slots := hcap.2
    have h4 := hle.1
    have h5 := hle.2
    constructor <;> omega
  exact vx_runSN (As := wv) (rest := rest) (nL := nL) ⟨hx, hb, hml, hown, hts⟩ (hM.2 l hst D ro vs wv h r h2 α H.size eF hr) ⟨cw, hts _ hsta, trivial⟩ ⟨q_blind, fun U hU hW => ⟨rfl, q_pre hSt hA hR U hU hW⟩⟩ rfl (by rw [← hr.len]; exact hn) (r1.1.trans hml) rfl (lv_room h8) hdec hf
/-- the words of a virtual call -/
def q_wV (own : String) (index : Nat) (y : MethodName) (bytes : ByteArray) (maxL : Nat) (rt : Option FieldType) (n : Nat) : Prop :=
  Cond.code y bytes maxL rt ∈ q_WS ∧ Cond.methodLink own index y ∈ q_WS ∧ Cond.instanceMethod y ∈ q_WS ∧ Cond.selects y.cls y y ∈ q_WS ∧ Cond.initialized y.cls ∈ q_WS ∧ (y.cls ≠ "java/lang/invoke/MethodHandle" ∧ y.cls ≠ "java/lang/invoke/VarHandle" ∧ (parseMethodDescriptor y.desc).map (fun d => d.parameters.length) = some n)
theorem q_recv {h : qH} {vs : List Value} {ci : Nat} (ho : q_obj h vs (some ci) = true) (hci : 0 < ci) : ∃ a vs' fs, vs = .ref a :: vs' ∧ 16 ≤ a ∧ h.1[a - 16]? = some (.inr (ci, fs)) := by
  unfold q_obj at ho
  dsimp only at ho
  split at ho
  · rename_i a vs'
    split at ho
    · simp only [Bool.and_eq_true, beq_iff_eq] at ho
      omega
    · rename_i ha
      split at ho
      · rename_i c fs hc
        have : c = ci := by simpa using ho
        subst this
        exact ⟨a, vs', fs, rfl, Nat.not_lt.mp ha, hc⟩
      · cases ho
  · cases ho
theorem q_caV (hX : q_OK X cc own nL ret fr) (hrot : X.2.2.2.2.1 = rot0) {ci N : Nat} {T0 : u_T} (hM : q_Met rot0 y ws rt fr2 F) (hws : ws = Cond.code y bytes maxL rt :: q_WS) (hw : q_wV own index y bytes maxL rt n) (hcl : q_cl[ci]? = some (y.cls, T0, N)) (hci : 0 < ci)
    (hfr2 : fr2 + 1 ≤ fr) (hm : maxL ≤ 15) (hdec : decode cc p1 = .ok (.invokevirtual index, 3)) (hT : T p1) : q_CA X T (some ci) F rt p1 (n + 1) := by
  refine ⟨hT, fun L h α vs wv r h2 rest eF ho => ⟨hM.1 _ _ _ _ eF, fun hn hr hcap h8 kv kx => ?_⟩⟩
  subst hrot
  have hle := hM.1 _ _ _ _ eF
  intro tys wd H locs cells slots ls hR
  refine q_behind (av := wv.toArray) hX rfl rfl hR hle ?_ kv kx
  obtain ⟨⟨p, l, e, R, s, m, args, below, meth, c9, Q⟩, D, A, ro, rot, c0, s0⟩ := X
  obtain ⟨hx, hb, hml, hrt, hown, hts, hst, hlk, hSt, hA, hfr, hlo⟩ := hX
  obtain ⟨r1, r2, r3, r4, r5, r6, r7, r8⟩ := id hR
  obtain ⟨w1, w2, w3, w4, w6, w5⟩ := hw
  obtain ⟨a, vs', fs, rfl, ha, hca⟩ := q_recv ho hci
  match wv, hr with
  | w0 :: As, hr =>
    obtain ⟨b, e2, rfl, he, hcr⟩ := q_cell r2 hr.1 ha hca
    cases e2 with
    | inl z => exact hcr.elim
    | inr z =>
      obtain ⟨cj, gs⟩ := z
      obtain ⟨rfl, -, -⟩ := hcr
      have hG : GoodIn q_WS (wsV own index y.cls y ws) := q_sub_good (fun w hw => by
        subst hws
        simp only [wsV, List.mem_append, List.mem_cons, List.not_mem_nil, or_false] at hw
        rcases hw with (rfl | rfl | rfl | rfl) | (rfl | hw)
        · exact w2
        · exact w3
        · exact w4
        · exact w6
        · exact w1
        · exact hw)
      have cw := cwV (R := R) (s := s) (args := args) (rm := q_rm fr2 h h2) n hts hG hws rfl rfl ⟨rfl, w5⟩ ⟨by show fr2 + 1 ≤ R.frames; omega, by show 8 + (maxL + 11) + (34 * fr2 + 88) ≤ R.locals; omega⟩
      have hf : cells + (h2.2.1 - h.2.1) ≤ R.cells ∧ slots + (h2.2.2 - h.2.2) ≤ R.slots := by
        have h1 : h2.2.1 ≤ c0 + R.cells := hcap.1
        have h3 : h2.2.2 ≤ s0 + R.slots := hcap.2
        have h4 := hle.1
        have h5 := hle.2
        constructor <;> omega
      have hlen : As.length = n := by
        have h9 := hr.2.len
        simp at hn
        omega
      exact vx_runV (As := As) (rest := rest) (nL := nL) (b := b) ⟨hx, hb, hml, hown, hts⟩ (hM.2 l hst D ro _ _ h r h2 α H.size eF hr) cw ⟨q_blind, va_recv r3 r4 hcl he, fun U hU hW => ⟨rfl, q_pre hSt hA hR U hU hW⟩⟩ rfl hlen (r1.1.trans hml) (by show (Value.ref b :: As).reverse ++ rest = _; rw [List.reverse_cons, List.append_assoc]; rfl) (lv_room h8) hdec hf
end QKI
