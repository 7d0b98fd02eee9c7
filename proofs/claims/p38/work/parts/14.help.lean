/-! what the derivations use -/
def q_fuel : Nat := 1000000
def q_rs : qRO := fun k => match k with
  | 1 => some (.int, 4, fun j => ([1, 0, -1, 0] : List Int32).getD j 0)
  | 2 => some (.int, 4, fun j => ([0, 1, 0, -1] : List Int32).getD j 0)
  | 5 => some (.char, 5, fun j => ([119, 98, 116, 105, 115] : List Int32).getD j 0)
  | _ => none
/-- with the script as the cell 0 -/
def q_rx (xs : Nat → Int32) (Ln : Nat) : qRO := fun k => if k = 0 then some (.int, Ln, xs) else q_rs k
theorem q_rx_sub {xs : Nat → Int32} {Ln : Nat} : q_sub q_rs (q_rx xs Ln) := by
  intro k x h
  unfold q_rx
  rw [if_neg]
  · exact h
  · intro e
    subst e
    cases h
theorem q_subX {X : qX} {rot : qRO} (h : X.2.2.2.2.1 = rot) (hs : q_sub q_rs rot) : q_sub q_rs X.2.2.2.2.1 := by rw [h]; exact hs
theorem q_loc4 {i : Nat} {L : qL} {h h' : qH} {v : Value} (e : q_eLoc 4 i L h = some (.inl v, h')) : q_is 4 v = true := by
  unfold q_eLoc at e
  split at e
  · split at e
    · rename_i hq
      cases e
      exact hq
    · cases e
  · cases e
theorem q_call1 {t : Nat} {ci : Option Nat} {F : qF} {as : qAs} {L : qL} {h h' : qH} {v : Value} (ht : q_ct t = 1) (e : q_eCall t ci F as L h = some (.inl v, h')) : v.category = 1 := by
  unfold q_eCall at e
  split at e
  · cases e
  · cases e
  · split at e
    · split at e
      · cases e
      · cases e
      · split at e
        · rename_i hq
          cases e
          rw [q_is_cat hq]
          exact ht
        · cases e
    · cases e
theorem q_gFld_cat {t ci i : Nat} {h : qH} {v x : Value} (e : q_gFld t ci i h v = some x) : v.category = 1 := by
  unfold q_gFld at e
  split at e
  · rename_i x0 eo
    obtain ⟨a, fs, rfl, -⟩ := q_fld_spec eo
    rfl
  · cases e
theorem q_gI_cat {ty : FieldType} {h : qH} {v w x : Value} (e : q_gI ty h v w = some x) : v.category = 1 ∧ w.category = 1 := by
  unfold q_gI at e
  split at e
  · rename_i heq
    obtain ⟨a, rfl, -⟩ := q_arr_spec heq
    exact ⟨rfl, rfl⟩
  · cases e
def q_cIf (a b c : qB) : qB := fun L h => q_bB (a L h) fun t h1 => if t then b L h1 else c L h1
/-- words by their places -/
theorem q_mem (ws : List Cond) (ps : List Nat) (h : ws.map some = ps.map (fun i => lw_tbl[i]?)) (hg : ws.all goodWord = true) : ∀ w ∈ ws, w ∈ q_WS := by
  intro w hw
  have h1 : some w ∈ ps.map (fun i => lw_tbl[i]?) := by rw [← h]; exact List.mem_map.mpr ⟨w, hw, rfl⟩
  obtain ⟨i, -, hi⟩ := List.mem_map.mp h1
  exact q_ws i hi (List.all_eq_true.mp hg w hw)
section QHP
variable {X : qX} {T : Nat → Prop} {pc p1 p2 p3 pn pb pk k n c nL fr fr2 index maxL : Nat} {A B C : qB} {F : qF} {cc bytes : ByteArray} {own : String} {ret rt : Option FieldType} {rot0 : qRO} {y : MethodName} {ws : List Cond}
theorem q_cif (ha : q_BOK X T A pc p1 p2 k) (hb : q_BOK X T B p1 pn pb k) (hc : q_BOK X T C p2 pn pb k) : q_BOK X T (q_cIf A B C) pc pn pb k := by
  intro L h r h' hf
  cases ea : A L h with
  | none => simp [q_cIf, q_bB, ea] at hf
  | some q =>
    obtain ⟨m1, g1⟩ := ha L h _ _ ea
    obtain ⟨(_ | _) | q, h1⟩ := q
    · have hf : C L h1 = some (r, h') := by simpa [q_cIf, q_bB, ea] using hf
      obtain ⟨m2, g2⟩ := hc L h1 _ _ hf
      exact ⟨m1.tr m2, fun hc α rest hk kt kf kx => g1 (hc.le m2) α rest hk (fun e1 => by cases e1) (fun _ α1 hp1 => g2 hc α1 rest hk (fun e α2 hp2 => kt e α2 (hp1.trans hp2)) (fun e α2 hp2 => kf e α2 (hp1.trans hp2)) (fun x e α2 t hp2 => kx x e α2 t (hp1.trans hp2))) (fun x e1 => by cases e1)⟩
    · have hf : B L h1 = some (r, h') := by simpa [q_cIf, q_bB, ea] using hf
      obtain ⟨m2, g2⟩ := hb L h1 _ _ hf
      exact ⟨m1.tr m2, fun hc α rest hk kt kf kx => g1 (hc.le m2) α rest hk (fun _ α1 hp1 => g2 hc α1 rest hk (fun e α2 hp2 => kt e α2 (hp1.trans hp2)) (fun e α2 hp2 => kf e α2 (hp1.trans hp2)) (fun x e α2 t hp2 => kx x e α2 t (hp1.trans hp2))) (fun e1 => by cases e1) (fun x e1 => by cases e1)⟩
    · simp only [q_cIf, q_bB, ea] at hf
      cases hf
      exact ⟨m1, fun hc α rest hk kt kf kx => g1 hc α rest hk (fun e1 => by cases e1) (fun e1 => by cases e1) kx⟩
theorem q_ldcS (hX : q_OK X cc own nL ret fr) (ho : own = "SliceWrightLaw") (hd : decode cc pc = .ok (.ldc 112, 2)) (hc1 : 1 ≤ c) : q_EOK X T (q_eLit (.ref 14)) pc (pc + 2) k c := by
  intro L h r h' hf
  cases hf
  refine ⟨q_le.rf _, fun _ α rest _ kv _ => ?_⟩
  intro tys wd H locs cells slots ls hR
  obtain ⟨⟨p, l, e, R, s, m, args, below, meth, c9, Q⟩, D, A, ro, rot, c0, s0⟩ := X
  obtain ⟨hx, hb, hml, hrt, hown, hts, hst, hlk, hSt, hA, hfr, hlo⟩ := hX
  subst ho
  exact va_ldcS hx hb hown hSt.2.2.2.2.2.1.2.1 hd (kv _ rfl α (.ref (ro 14)) (List.prefix_refl _) ⟨_, rfl, Or.inl ⟨by decide, rfl⟩⟩ hc1 tys wd H locs cells slots ls hR)
/-- a call on the text that nobody writes -/
theorem q_caVS (hX : q_OK X cc own nL ret fr) (hrot : X.2.2.2.2.1 = rot0) (hM : q_Met rot0 y ws rt fr2 F) (hws : ws = Cond.code y bytes maxL rt :: q_WS) (hw : q_wV own index y bytes maxL rt n) (hcl : y.cls = "java/lang/String")
    (hfr2 : fr2 + 1 ≤ fr) (hm : maxL ≤ 15) (hdec : decode cc p1 = .ok (.invokevirtual index, 3)) (hT : T p1) (ho14 : ∀ h vs r h2, F vs h = some (r, h2) → ∃ vs', vs = .ref 14 :: vs') : q_CA X T (some 0) F rt p1 (n + 1) := by
  refine ⟨hT, fun L h α vs wv r h2 rest eF ho => ⟨hM.1 _ _ _ _ eF, fun hn hr hcap h8 kv kx => ?_⟩⟩
  subst hrot
  have hle := hM.1 _ _ _ _ eF
  intro tys wd H locs cells slots ls hR
  refine q_behind (av := wv.toArray) hX rfl rfl hR hle ?_ kv kx
  obtain ⟨⟨p, l, e, R, s, m, args, below, meth, c9, Q⟩, D, A, ro, rot, c0, s0⟩ := X
  obtain ⟨hx, hb, hml, hrt, hown, hts, hst, hlk, hSt, hA, hfr, hlo⟩ := hX
  obtain ⟨r1, r2, r3, r4, r5, r6, r7, r8⟩ := id hR
  obtain ⟨w1, w2, w3, w4, w6, w5⟩ := hw
  obtain ⟨vs', rfl⟩ := ho14 _ _ _ _ eF
  match wv, hr with
  | w0 :: As, hr =>
    obtain ⟨b, rfl, hb2⟩ := hr.1
    have hb3 : ro 14 = b := by
      rcases hb2 with ⟨-, h1⟩ | ⟨h1, -⟩
      · exact h1
      · exact absurd h1 (by decide)
    have hG : GoodIn q_WS (wsV own index y.cls y ws) := q_sub_good (fun w hw => by
      subst hws
      simp only [wsV, List.mem_append, List.mem_cons, List.not_mem_nil, or_false] at hw
      rcases hw with (rfl | rfl | rfl | rfl) | (rfl | hw)
      · exact w2
      · exact w3
      · exact w4
      · exact w6
      · exact w1
      · exact hw)
    have cw := cwV (R := R) (s := s) (args := args) (rm := q_rm fr2 h h2) n hts hG hws rfl rfl ⟨rfl, w5⟩ ⟨by show fr2 + 1 ≤ R.frames; omega, by show 8 + (maxL + 11) + (34 * fr2 + 88) ≤ R.locals; omega⟩
    have hf : cells + (h2.2.1 - h.2.1) ≤ R.cells ∧ slots + (h2.2.2 - h.2.2) ≤ R.slots := by
      have h1 : h2.2.1 ≤ c0 + R.cells := hcap.1
      have h3 : h2.2.2 ≤ s0 + R.slots := hcap.2
      have h4 := hle.1
      have h5 := hle.2
      constructor <;> omega
    have hlen : As.length = n := by
      have h9 := hr.2.len
      simp at hn
      omega
    obtain ⟨cell, z1, z2, z3⟩ := vk_recv (i := 0) hSt.2.2.2.2.2.1.1 (by decide) r6
    exact vx_runV (As := As) (rest := rest) (nL := nL) (b := b) ⟨hx, hb, hml, hown, hts⟩ (hM.2 l hst D ro _ _ h r h2 α H.size eF hr) cw ⟨q_blind, ⟨cell, by rw [← hb3]; exact z1, z2, by rw [hcl]; exact z3⟩, fun U hU hW => ⟨rfl, q_pre hSt hA hR U hU hW⟩⟩ rfl hlen (r1.1.trans hml) (by show (Value.ref b :: As).reverse ++ rest = _; rw [List.reverse_cons, List.append_assoc]; rfl) (lv_room h8) hdec hf
end QHP
