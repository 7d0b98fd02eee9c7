/-! the JDK's String methods over the text that nobody writes -/
def q_dead : qS := fun _ _ => none
def q_deadE : qE := fun _ _ => none
def q_gSv : qH → Value → Option Value := fun _ v => match v with
  | .ref 14 => some (.ref 15)
  | _ => none
def q_gSc : qH → Value → Option Value := fun _ v => match v with
  | .ref 14 => some (.int 0)
  | _ => none
def q_gSl : qH → Value → Option Value := fun _ v => match v with
  | .ref 15 => some (.int 3)
  | _ => none
def q_ishr : Value → Value → Option Value
  | .int x, .int y => some (.int (x >>> (y &&& 31)))
  | _, _ => none
def q_wb : List Int32 := [108, 103, 119]
def q_gSb : qH → Value → Value → Option Value := fun _ v w => match w, v with
  | .int j, .ref 15 => if q_in j 3 = true then some (.int (q_wb.getD j.toNatClampNeg 0)) else none
  | _, _ => none
section QJDK
variable {X : qX} {T : Nat → Prop} {pc p1 p2 p3 pn pb pk k c nL fr : Nat} {cc : ByteArray} {own : String} {ret : Option FieldType}
theorem q_deadS : q_SOK X T q_dead pc pn pb pk := fun _ _ _ _ _ hf => by cases hf
theorem q_deadEo : q_EOK X T q_deadE pc pn k c := fun _ _ _ _ hf => by cases hf
theorem q_EOK.imp {f g : qE} (h : q_EOK X T f pc pn k c) (hi : ∀ L h x, g L h = some x → f L h = some x) : q_EOK X T g pc pn k c := fun L h r h' e => by
  rename_i h0
  exact h0 L h r h' (hi _ _ _ e)
theorem q_Met.imp {rot : qRO} {y : MethodName} {ws : List Cond} {rt : Option FieldType} {f g : qF} (h : q_Met rot y ws rt fr f) (hi : ∀ vs h x, g vs h = some x → f vs h = some x) : q_Met rot y ws rt fr g :=
  ⟨fun vs h0 r h' e => h.1 vs h0 r h' (hi _ _ _ e), fun l hst D ro vs wv h0 r h' α sz e hr => h.2 l hst D ro vs wv h0 r h' α sz (hi _ _ _ e) hr⟩
theorem q_gSv_o (hX : q_OK X cc own nL ret fr) (hl : Cond.fieldLink own 9 "java/lang/String" "value" "[B" ∈ q_WS) (hd : decode cc p1 = .ok (.getfield 9, 3)) (hc1 : 1 ≤ c) : q_O1 X q_gSv p1 (p1 + 3) c := by
  intro L h α v x w rest e hr kk
  unfold q_gSv at e
  split at e
  · cases e
    intro tys ws H locs cells slots ls hR
    obtain ⟨⟨p, l, e, R, s, m, args, below, meth, c9, Q⟩, D, A, ro, rot, c0, s0⟩ := X
    have kk := kk (.ref (ro 15)) ⟨_, rfl, Or.inl ⟨by decide, rfl⟩⟩ hc1 tys ws H locs cells slots ls hR
    obtain ⟨hx, hb, hml, hrt, hown, hts, hst, hlk, hSt, hA, hfr, hlo⟩ := hX
    obtain ⟨r1, r2, r3, r4, r5, r6, r7, r8⟩ := id hR
    obtain ⟨a, rfl, hr⟩ := hr
    rcases hr with ⟨-, rfl⟩ | ⟨h16, -⟩
    · exact vk_getf hx hb (hSt.2.2.2.2.2.1.1.1 0 (by decide)).2.2.1 r6 hown (hts _ hl) (fun _ z => z) hd kk
    · exact absurd h16 (by decide)
  · cases e
theorem q_gSc_o (hX : q_OK X cc own nL ret fr) (hl : Cond.fieldLink own 15 "java/lang/String" "coder" "B" ∈ q_WS) (hd : decode cc p1 = .ok (.getfield 15, 3)) (hc1 : 1 ≤ c) : q_O1 X q_gSc p1 (p1 + 3) c := by
  intro L h α v x w rest e hr kk
  unfold q_gSc at e
  split at e
  · cases e
    intro tys ws H locs cells slots ls hR
    have kk := kk (.int 0) rfl hc1 tys ws H locs cells slots ls hR
    obtain ⟨⟨p, l, e, R, s, m, args, below, meth, c9, Q⟩, D, A, ro, rot, c0, s0⟩ := X
    obtain ⟨hx, hb, hml, hrt, hown, hts, hst, hlk, hSt, hA, hfr, hlo⟩ := hX
    obtain ⟨r1, r2, r3, r4, r5, r6, r7, r8⟩ := id hR
    obtain ⟨a, rfl, hr⟩ := hr
    rcases hr with ⟨-, rfl⟩ | ⟨h16, -⟩
    · exact vk_getf hx hb (hSt.2.2.2.2.2.1.1.1 0 (by decide)).2.1 r6 hown (hts _ hl) (fun _ z => z) hd kk
    · exact absurd h16 (by decide)
  · cases e
theorem q_gSl_o (hX : q_OK X cc own nL ret fr) (hd : decode cc p1 = .ok (.arraylength, 1)) (hc1 : 1 ≤ c) : q_O1 X q_gSl p1 (p1 + 1) c := by
  intro L h α v x w rest e hr kk
  unfold q_gSl at e
  split at e
  · cases e
    intro tys ws H locs cells slots ls hR
    have kk := kk (.int 3) rfl hc1 tys ws H locs cells slots ls hR
    obtain ⟨⟨p, l, e, R, s, m, args, below, meth, c9, Q⟩, D, A, ro, rot, c0, s0⟩ := X
    obtain ⟨hx, hb, hml, hrt, hown, hts, hst, hlk, hSt, hA, hfr, hlo⟩ := hX
    obtain ⟨r1, r2, r3, r4, r5, r6, r7, r8⟩ := id hR
    obtain ⟨a, rfl, hr⟩ := hr
    rcases hr with ⟨-, rfl⟩ | ⟨h16, -⟩
    · exact va_tlen hx hb (hSt.2.2.2.2.2.1.1.1 0 (by decide)).2.2.2 r6 rfl hd kk
    · exact absurd h16 (by decide)
  · cases e
theorem q_gSb_o (hX : q_OK X cc own nL ret fr) (hd : decode cc p1 = .ok (.baload, 1)) (hc1 : 1 ≤ c) : q_O2 X q_gSb p1 (p1 + 1) c := by
  intro L h α v v2 x w w2 rest e hr hr2 kk
  unfold q_gSb at e
  split at e
  · rename_i j
    split at e
    · rename_i hin
      cases e
      rw [show w2 = _ from hr2]
      intro tys ws H locs cells slots ls hR
      have kk := kk (.int (q_wb.getD j.toNatClampNeg 0)) rfl hc1 tys ws H locs cells slots ls hR
      obtain ⟨⟨p, l, e, R, s, m, args, below, meth, c9, Q⟩, D, A, ro, rot, c0, s0⟩ := X
      obtain ⟨hx, hb, hml, hrt, hown, hts, hst, hlk, hSt, hA, hfr, hlo⟩ := hX
      obtain ⟨r1, r2, r3, r4, r5, r6, r7, r8⟩ := id hR
      obtain ⟨a, rfl, hr⟩ := hr
      rcases hr with ⟨-, rfl⟩ | ⟨h16, -⟩
      · exact va_tb hx hb (hSt.2.2.2.2.2.1.1.1 0 (by decide)).2.2.2 r6 (q_in_vp hin) rfl hd kk
      · exact absurd h16 (by decide)
    · cases e
  · cases e
theorem q_ishr_o (hX : q_OK X cc own nL ret fr) (hd : decode cc p1 = .ok (.ishr, 1)) (hc : 1 ≤ c) : q_O2 X (fun _ => q_ishr) p1 (p1 + 1) c := by
  refine q_O2.of ?_
  obtain ⟨⟨p, l, e, R, s, m, args, below, meth, c9, Q⟩, D, A, ro, rot, c0, s0⟩ := X
  obtain ⟨hx, hb, -⟩ := hX
  intro x y v hv
  cases x <;> first | (cases hv; done) | skip
  cases y <;> first | (cases hv; done) | skip
  rename_i x y
  cases hv
  exact ⟨rfl, rfl, rfl, hc, fun H locs cells slots ls rest kk => lv_ishr hx hb hd kk⟩
theorem q_gCS (hX : q_OK X cc own nL ret fr) (hl : Cond.fieldLink own 38 "java/lang/String" "COMPACT_STRINGS" "Z" ∈ q_WS) (hd : decode cc p1 = .ok (.getstatic 38, 3)) (hc1 : 1 ≤ c) : q_EOK X T (q_eLit (.int 1)) p1 (p1 + 3) k c := by
  intro L h r h' hf
  cases hf
  refine ⟨q_le.rf _, fun _ α rest _ kv _ => ?_⟩
  intro tys ws H locs cells slots ls hR
  obtain ⟨⟨p, l, e, R, s, m, args, below, meth, c9, Q⟩, D, A, ro, rot, c0, s0⟩ := X
  obtain ⟨hx, hb, hml, hrt, hown, hts, hst, hlk, hSt, hA, hfr, hlo⟩ := hX
  obtain ⟨r1, r2, r3, r4, r5, r6, r7, r8⟩ := id hR
  exact va_gets hx hb hSt.2.2.2.2.2.1.2.2.1 r6 hown (hts _ hl) (fun _ z => z) hd (kv _ rfl α (.int 1) (List.prefix_refl _) rfl hc1 tys ws H locs cells slots ls hR)
/-- the formatter: null or a cell that nobody looks at -/
theorem q_gSI (hX : q_OK X cc own nL ret fr) (hl : Cond.fieldLink own 1053 "jdk/internal/util/Preconditions" "SIOOBE_FORMATTER" "Ljava/util/function/BiFunction;" ∈ q_WS) (hd : decode cc p1 = .ok (.getstatic 1053, 3)) (hc1 : 1 ≤ c) : q_EOK X T (q_eLit .null) p1 (p1 + 3) k c ∨ q_EOK X T (q_eLit (.ref 13)) p1 (p1 + 3) k c := by
  obtain ⟨⟨p, l, e, R, s, m, args, below, meth, c9, Q⟩, D, A, ro, rot, c0, s0⟩ := X
  obtain ⟨hx, hb, hml, hrt, hown, hts, hst, hlk, hSt, hA, hfr, hlo⟩ := hX
  rcases hSt.2.2.2.2.2.1.2.2.2 with hZ | hZ
  · refine Or.inl ?_
    intro L h r h' hf
    cases hf
    refine ⟨q_le.rf _, fun _ α rest _ kv _ => ?_⟩
    intro tys ws H locs cells slots ls hR
    obtain ⟨r1, r2, r3, r4, r5, r6, r7, r8⟩ := id hR
    exact va_gets hx hb hZ r6 hown (hts _ hl) (fun _ z => z) hd (kv _ rfl α .null (List.prefix_refl _) rfl hc1 tys ws H locs cells slots ls hR)
  · refine Or.inr ?_
    intro L h r h' hf
    cases hf
    refine ⟨q_le.rf _, fun _ α rest _ kv _ => ?_⟩
    intro tys ws H locs cells slots ls hR
    obtain ⟨r1, r2, r3, r4, r5, r6, r7, r8⟩ := id hR
    exact va_gets hx hb hZ r6 hown (hts _ hl) (fun _ z => z) hd (kv _ rfl α (.ref (ro 13)) (List.prefix_refl _) ⟨_, rfl, Or.inl ⟨by decide, rfl⟩⟩ hc1 tys ws H locs cells slots ls hR)
end QJDK
theorem dJ0_charAt_5068e_0 : decode cJ0_charAt_5068e 0 = .ok (.aload_n 0, 1) := by decide +kernel
theorem dJ0_charAt_5068e_1 : decode cJ0_charAt_5068e 1 = .ok (.invokevirtual 492, 3) := by decide +kernel
theorem dJ0_charAt_5068e_4 : decode cJ0_charAt_5068e 4 = .ok (.ifCond .eq 12, 3) := by decide +kernel
theorem dJ0_charAt_5068e_7 : decode cJ0_charAt_5068e 7 = .ok (.aload_n 0, 1) := by decide +kernel
theorem dJ0_charAt_5068e_8 : decode cJ0_charAt_5068e 8 = .ok (.getfield 9, 3) := by decide +kernel
theorem dJ0_charAt_5068e_11 : decode cJ0_charAt_5068e 11 = .ok (.iload_n 1, 1) := by decide +kernel
theorem dJ0_charAt_5068e_12 : decode cJ0_charAt_5068e 12 = .ok (.invokestatic 495, 3) := by decide +kernel
theorem dJ0_charAt_5068e_15 : decode cJ0_charAt_5068e 15 = .ok (.ireturn, 1) := by decide +kernel
theorem dJ0_charAt_5068e_16 : decode cJ0_charAt_5068e 16 = .ok (.aload_n 0, 1) := by decide +kernel
theorem dJ0_charAt_5068e_17 : decode cJ0_charAt_5068e 17 = .ok (.getfield 9, 3) := by decide +kernel
theorem dJ0_charAt_5068e_20 : decode cJ0_charAt_5068e 20 = .ok (.iload_n 1, 1) := by decide +kernel
theorem dJ0_charAt_5068e_21 : decode cJ0_charAt_5068e 21 = .ok (.invokestatic 498, 3) := by decide +kernel
theorem dJ0_charAt_5068e_24 : decode cJ0_charAt_5068e 24 = .ok (.ireturn, 1) := by decide +kernel
theorem dJ0_isLatin1_aae02_0 : decode cJ0_isLatin1_aae02 0 = .ok (.getstatic 38, 3) := by decide +kernel
theorem dJ0_isLatin1_aae02_3 : decode cJ0_isLatin1_aae02 3 = .ok (.ifCond .eq 14, 3) := by decide +kernel
theorem dJ0_isLatin1_aae02_6 : decode cJ0_isLatin1_aae02 6 = .ok (.aload_n 0, 1) := by decide +kernel
theorem dJ0_isLatin1_aae02_7 : decode cJ0_isLatin1_aae02 7 = .ok (.getfield 15, 3) := by decide +kernel
theorem dJ0_isLatin1_aae02_10 : decode cJ0_isLatin1_aae02 10 = .ok (.ifCond .ne 7, 3) := by decide +kernel
theorem dJ0_isLatin1_aae02_13 : decode cJ0_isLatin1_aae02 13 = .ok (.iconst 1, 1) := by decide +kernel
theorem dJ0_isLatin1_aae02_14 : decode cJ0_isLatin1_aae02 14 = .ok (.goto 4, 3) := by decide +kernel
theorem dJ0_isLatin1_aae02_17 : decode cJ0_isLatin1_aae02 17 = .ok (.iconst 0, 1) := by decide +kernel
theorem dJ0_isLatin1_aae02_18 : decode cJ0_isLatin1_aae02 18 = .ok (.ireturn, 1) := by decide +kernel
theorem dJ0_checkIndex_df160_0 : decode cJ0_checkIndex_df160 0 = .ok (.iload_n 0, 1) := by decide +kernel
theorem dJ0_checkIndex_df160_1 : decode cJ0_checkIndex_df160 1 = .ok (.iload_n 1, 1) := by decide +kernel
theorem dJ0_checkIndex_df160_2 : decode cJ0_checkIndex_df160 2 = .ok (.getstatic 1053, 3) := by decide +kernel
theorem dJ0_checkIndex_df160_5 : decode cJ0_checkIndex_df160 5 = .ok (.invokestatic 1059, 3) := by decide +kernel
theorem dJ0_checkIndex_df160_8 : decode cJ0_checkIndex_df160 8 = .ok (.pop, 1) := by decide +kernel
theorem dJ0_checkIndex_df160_9 : decode cJ0_checkIndex_df160 9 = .ok (.return_, 1) := by decide +kernel
theorem dJ1_charAt_3b067_0 : decode cJ1_charAt_3b067 0 = .ok (.iload_n 1, 1) := by decide +kernel
theorem dJ1_charAt_3b067_1 : decode cJ1_charAt_3b067 1 = .ok (.aload_n 0, 1) := by decide +kernel
theorem dJ1_charAt_3b067_2 : decode cJ1_charAt_3b067 2 = .ok (.arraylength, 1) := by decide +kernel
theorem dJ1_charAt_3b067_3 : decode cJ1_charAt_3b067 3 = .ok (.invokestatic 9, 3) := by decide +kernel
theorem dJ1_charAt_3b067_6 : decode cJ1_charAt_3b067 6 = .ok (.aload_n 0, 1) := by decide +kernel
theorem dJ1_charAt_3b067_7 : decode cJ1_charAt_3b067 7 = .ok (.iload_n 1, 1) := by decide +kernel
theorem dJ1_charAt_3b067_8 : decode cJ1_charAt_3b067 8 = .ok (.baload, 1) := by decide +kernel
theorem dJ1_charAt_3b067_9 : decode cJ1_charAt_3b067 9 = .ok (.sipush 255, 3) := by decide +kernel
theorem dJ1_charAt_3b067_12 : decode cJ1_charAt_3b067 12 = .ok (.iand, 1) := by decide +kernel
theorem dJ1_charAt_3b067_13 : decode cJ1_charAt_3b067 13 = .ok (.i2c, 1) := by decide +kernel
theorem dJ1_charAt_3b067_14 : decode cJ1_charAt_3b067 14 = .ok (.ireturn, 1) := by decide +kernel
theorem dJ3_checkIndex_8e157_0 : decode cJ3_checkIndex_8e157 0 = .ok (.iload_n 0, 1) := by decide +kernel
theorem dJ3_checkIndex_8e157_1 : decode cJ3_checkIndex_8e157 1 = .ok (.ifCond .lt 8, 3) := by decide +kernel
theorem dJ3_checkIndex_8e157_4 : decode cJ3_checkIndex_8e157 4 = .ok (.iload_n 0, 1) := by decide +kernel
theorem dJ3_checkIndex_8e157_5 : decode cJ3_checkIndex_8e157 5 = .ok (.iload_n 1, 1) := by decide +kernel
theorem dJ3_checkIndex_8e157_6 : decode cJ3_checkIndex_8e157 6 = .ok (.if_icmp .lt 10, 3) := by decide +kernel
theorem dJ3_checkIndex_8e157_9 : decode cJ3_checkIndex_8e157 9 = .ok (.aload_n 2, 1) := by decide +kernel
theorem dJ3_checkIndex_8e157_10 : decode cJ3_checkIndex_8e157 10 = .ok (.iload_n 0, 1) := by decide +kernel
theorem dJ3_checkIndex_8e157_11 : decode cJ3_checkIndex_8e157 11 = .ok (.iload_n 1, 1) := by decide +kernel
theorem dJ3_checkIndex_8e157_12 : decode cJ3_checkIndex_8e157 12 = .ok (.invokestatic 95, 3) := by decide +kernel
theorem dJ3_checkIndex_8e157_15 : decode cJ3_checkIndex_8e157 15 = .ok (.athrow, 1) := by decide +kernel
theorem dJ3_checkIndex_8e157_16 : decode cJ3_checkIndex_8e157 16 = .ok (.iload_n 0, 1) := by decide +kernel
theorem dJ3_checkIndex_8e157_17 : decode cJ3_checkIndex_8e157 17 = .ok (.ireturn, 1) := by decide +kernel
/-! Preconditions.checkIndex -/
def q_jCheck : qF := fun vs h => match vs with
  | [.int i, .int n, .null] => if ¬ i < 0 ∧ i < n then some (.inl (.int i), h) else none
  | [.int i, .int n, .ref _] => if ¬ i < 0 ∧ i < n then some (.inl (.int i), h) else none
  | _ => none
def b_J3_check : qS := q_sSeq (q_sIf (q_cOr (q_cCmp0 q_zlt (q_eLoc 0 0)) (q_cCmp q_cge (q_eLoc 0 0) (q_eLoc 0 1))) q_dead q_sSkip) (q_sRet (q_eLoc 0 0))
def b_J0_check : qS := q_sSeq (q_sPop (fun L h => match L with
  | [some (.int i), some (.int n)] => if ¬ i < 0 ∧ i < n then some (.inl (.int i), h) else none
  | _ => none)) q_sRetV
def q_jChk : qF := fun vs h => match vs with
  | [.int i, .int n] => if ¬ i < 0 ∧ i < n then some (.inl .null, h) else none
  | _ => none
def b_J0_isLatin1 : qS := q_sRet (q_eIf (q_cAnd (q_cCmp0 q_zne (q_eLit (.int 1))) (q_cCmp0 q_zeq (q_eH1 q_gSc (q_eLoc 4 0)))) (q_eLit (.int 1)) (q_eLit (.int 0)))
def q_jLatin : qF := fun vs h => match vs with
  | [.ref 14] => some (.inl (.int 1), h)
  | _ => none
def b_J1_charAt : qS := q_sSeq (q_sCall none q_jChk (q_aCons (q_eLoc 0 1) (q_aCons (q_eH1 q_gSl (q_eLoc 4 0)) q_aNil))) (q_sRet (q_eH1 (fun _ => q_i2c) (q_eH2 (fun _ => q_iand) (q_eH2 q_gSb (q_eLoc 4 0) (q_eLoc 0 1)) (q_eLit (.int 255)))))
def q_jChar : qF := fun vs h => match vs with
  | [.ref 15, .int j] => if q_in j 3 = true then some (.inl (.int (q_wb.getD j.toNatClampNeg 0)), h) else none
  | _ => none
def b_J0_charAt : qS := q_sSeq (q_sIf (q_cCmp0 q_zne (q_eCall 0 (some 0) q_jLatin (q_aCons (q_eLoc 4 0) q_aNil))) (q_sRet (q_eCall 0 none q_jChar (q_aCons (q_eH1 q_gSv (q_eLoc 4 0)) (q_aCons (q_eLoc 0 1) q_aNil)))) q_sSkip) q_dead
/-! words -/
def q_btJ : List Cond := [(Jvm.Cond.initialized "java/lang/String"), (Jvm.Cond.initialized "java/lang/StringLatin1"), (Jvm.Cond.initialized "jdk/internal/util/Preconditions"), (Jvm.Cond.fieldLink "java/lang/String" (38 : Nat) "java/lang/String" "COMPACT_STRINGS" "Z"), (Jvm.Cond.methodLink "java/lang/String" (492 : Nat) ({ cls := "java/lang/String", name := "isLatin1", desc := "()Z" } : Jvm.MethodName)), (Jvm.Cond.instanceMethod ({ cls := "java/lang/String", name := "isLatin1", desc := "()Z" } : Jvm.MethodName)), (Jvm.Cond.selects "java/lang/String" ({ cls := "java/lang/String", name := "isLatin1", desc := "()Z" } : Jvm.MethodName) ({ cls := "java/lang/String", name := "isLatin1", desc := "()Z" } : Jvm.MethodName)), (Jvm.Cond.code ({ cls := "java/lang/String", name := "isLatin1", desc := "()Z" } : Jvm.MethodName) prog_22_method_154_code (1 : Nat) (Option.some Jvm.ClassFile.FieldType.boolean)), (Jvm.Cond.methodLink "java/lang/String" (495 : Nat) ({ cls := "java/lang/StringLatin1", name := "charAt", desc := "([BI)C" } : Jvm.MethodName)), (Jvm.Cond.static ({ cls := "java/lang/StringLatin1", name := "charAt", desc := "([BI)C" } : Jvm.MethodName)), (Jvm.Cond.code ({ cls := "java/lang/StringLatin1", name := "charAt", desc := "([BI)C" } : Jvm.MethodName) prog_23_method_2_code (2 : Nat) (Option.some Jvm.ClassFile.FieldType.char)), (Jvm.Cond.methodLink "java/lang/StringLatin1" (9 : Nat) ({ cls := "java/lang/String", name := "checkIndex", desc := "(II)V" } : Jvm.MethodName)), (Jvm.Cond.static ({ cls := "java/lang/String", name := "checkIndex", desc := "(II)V" } : Jvm.MethodName)), (Jvm.Cond.code ({ cls := "java/lang/String", name := "checkIndex", desc := "(II)V" } : Jvm.MethodName) prog_22_method_155_code (2 : Nat) (Option.none : Option Jvm.ClassFile.FieldType)), (Jvm.Cond.fieldLink "java/lang/String" (1053 : Nat) "jdk/internal/util/Preconditions" "SIOOBE_FORMATTER" "Ljava/util/function/BiFunction;"), (Jvm.Cond.methodLink "java/lang/String" (1059 : Nat) ({ cls := "jdk/internal/util/Preconditions", name := "checkIndex", desc := "(IILjava/util/function/BiFunction;)I" } : Jvm.MethodName)), (Jvm.Cond.static ({ cls := "jdk/internal/util/Preconditions", name := "checkIndex", desc := "(IILjava/util/function/BiFunction;)I" } : Jvm.MethodName)), (Jvm.Cond.code ({ cls := "jdk/internal/util/Preconditions", name := "checkIndex", desc := "(IILjava/util/function/BiFunction;)I" } : Jvm.MethodName) prog_30_method_11_code (3 : Nat) (Option.some Jvm.ClassFile.FieldType.int)), (Jvm.Cond.fieldLink "java/lang/String" (9 : Nat) "java/lang/String" "value" "[B"), (Jvm.Cond.fieldLink "java/lang/String" (15 : Nat) "java/lang/String" "coder" "B")]
set_option maxRecDepth 100000 in
theorem q_btJ_in : ∀ w ∈ q_btJ, w ∈ q_WS := q_mem _ [42, 43, 44, 1035, 1031, 1032, 1033, 1034, 1037, 1038, 1039, 1040, 1041, 1042, 1043, 1045, 1046, 1047, 1086, 1085] (by decide +kernel) (by decide +kernel)
theorem qj_19 : (Jvm.Cond.initialized "java/lang/String") ∈ q_WS := q_btJ_in _ (List.mem_of_getElem? (i := 0) rfl)
theorem qj_21 : (Jvm.Cond.initialized "java/lang/StringLatin1") ∈ q_WS := q_btJ_in _ (List.mem_of_getElem? (i := 1) rfl)
theorem qj_22 : (Jvm.Cond.initialized "jdk/internal/util/Preconditions") ∈ q_WS := q_btJ_in _ (List.mem_of_getElem? (i := 2) rfl)
theorem qj_1516 : (Jvm.Cond.fieldLink "java/lang/String" (38 : Nat) "java/lang/String" "COMPACT_STRINGS" "Z") ∈ q_WS := q_btJ_in _ (List.mem_of_getElem? (i := 3) rfl)
theorem qj_1522 : (Jvm.Cond.methodLink "java/lang/String" (492 : Nat) ({ cls := "java/lang/String", name := "isLatin1", desc := "()Z" } : Jvm.MethodName)) ∈ q_WS := q_btJ_in _ (List.mem_of_getElem? (i := 4) rfl)
theorem qj_1523 : (Jvm.Cond.instanceMethod ({ cls := "java/lang/String", name := "isLatin1", desc := "()Z" } : Jvm.MethodName)) ∈ q_WS := q_btJ_in _ (List.mem_of_getElem? (i := 5) rfl)
theorem qj_1524 : (Jvm.Cond.selects "java/lang/String" ({ cls := "java/lang/String", name := "isLatin1", desc := "()Z" } : Jvm.MethodName) ({ cls := "java/lang/String", name := "isLatin1", desc := "()Z" } : Jvm.MethodName)) ∈ q_WS := q_btJ_in _ (List.mem_of_getElem? (i := 6) rfl)
theorem qj_1525 : (Jvm.Cond.code ({ cls := "java/lang/String", name := "isLatin1", desc := "()Z" } : Jvm.MethodName) prog_22_method_154_code (1 : Nat) (Option.some Jvm.ClassFile.FieldType.boolean)) ∈ q_WS := q_btJ_in _ (List.mem_of_getElem? (i := 7) rfl)
theorem qj_1526 : (Jvm.Cond.methodLink "java/lang/String" (495 : Nat) ({ cls := "java/lang/StringLatin1", name := "charAt", desc := "([BI)C" } : Jvm.MethodName)) ∈ q_WS := q_btJ_in _ (List.mem_of_getElem? (i := 8) rfl)
theorem qj_1527 : (Jvm.Cond.static ({ cls := "java/lang/StringLatin1", name := "charAt", desc := "([BI)C" } : Jvm.MethodName)) ∈ q_WS := q_btJ_in _ (List.mem_of_getElem? (i := 9) rfl)
theorem qj_1528 : (Jvm.Cond.code ({ cls := "java/lang/StringLatin1", name := "charAt", desc := "([BI)C" } : Jvm.MethodName) prog_23_method_2_code (2 : Nat) (Option.some Jvm.ClassFile.FieldType.char)) ∈ q_WS := q_btJ_in _ (List.mem_of_getElem? (i := 10) rfl)
theorem qj_1529 : (Jvm.Cond.methodLink "java/lang/StringLatin1" (9 : Nat) ({ cls := "java/lang/String", name := "checkIndex", desc := "(II)V" } : Jvm.MethodName)) ∈ q_WS := q_btJ_in _ (List.mem_of_getElem? (i := 11) rfl)
theorem qj_1530 : (Jvm.Cond.static ({ cls := "java/lang/String", name := "checkIndex", desc := "(II)V" } : Jvm.MethodName)) ∈ q_WS := q_btJ_in _ (List.mem_of_getElem? (i := 12) rfl)
theorem qj_1531 : (Jvm.Cond.code ({ cls := "java/lang/String", name := "checkIndex", desc := "(II)V" } : Jvm.MethodName) prog_22_method_155_code (2 : Nat) (Option.none : Option Jvm.ClassFile.FieldType)) ∈ q_WS := q_btJ_in _ (List.mem_of_getElem? (i := 13) rfl)
theorem qj_1532 : (Jvm.Cond.fieldLink "java/lang/String" (1053 : Nat) "jdk/internal/util/Preconditions" "SIOOBE_FORMATTER" "Ljava/util/function/BiFunction;") ∈ q_WS := q_btJ_in _ (List.mem_of_getElem? (i := 14) rfl)
theorem qj_1534 : (Jvm.Cond.methodLink "java/lang/String" (1059 : Nat) ({ cls := "jdk/internal/util/Preconditions", name := "checkIndex", desc := "(IILjava/util/function/BiFunction;)I" } : Jvm.MethodName)) ∈ q_WS := q_btJ_in _ (List.mem_of_getElem? (i := 15) rfl)
theorem qj_1535 : (Jvm.Cond.static ({ cls := "jdk/internal/util/Preconditions", name := "checkIndex", desc := "(IILjava/util/function/BiFunction;)I" } : Jvm.MethodName)) ∈ q_WS := q_btJ_in _ (List.mem_of_getElem? (i := 16) rfl)
theorem qj_1536 : (Jvm.Cond.code ({ cls := "jdk/internal/util/Preconditions", name := "checkIndex", desc := "(IILjava/util/function/BiFunction;)I" } : Jvm.MethodName) prog_30_method_11_code (3 : Nat) (Option.some Jvm.ClassFile.FieldType.int)) ∈ q_WS := q_btJ_in _ (List.mem_of_getElem? (i := 17) rfl)
theorem qj_1762 : (Jvm.Cond.fieldLink "java/lang/String" (9 : Nat) "java/lang/String" "value" "[B") ∈ q_WS := q_btJ_in _ (List.mem_of_getElem? (i := 18) rfl)
theorem qj_1763 : (Jvm.Cond.fieldLink "java/lang/String" (15 : Nat) "java/lang/String" "coder" "B") ∈ q_WS := q_btJ_in _ (List.mem_of_getElem? (i := 19) rfl)
theorem q_run_r {body : qS} {maxL : Nat} {ty : FieldType} {vs : List Value} {h : qH} {v : Value} {L' : qL} (hc : (vs.all fun v => v.category == 1) = true ∧ vs.length ≤ maxL) (hb : body (vs.map some ++ List.replicate (maxL - vs.length) none) h = some ((4, v), L', h)) (hf : q_fit ty v = true) : q_run body maxL (some ty) vs h = some (.inl v, h) := by
  unfold q_run
  rw [if_pos hc, hb]
  simp [q_run0, hf, q_chk]
theorem q_run_v {body : qS} {maxL : Nat} {vs : List Value} {h : qH} {v : Value} {L' : qL} (hc : (vs.all fun v => v.category == 1) = true ∧ vs.length ≤ maxL) (hb : body (vs.map some ++ List.replicate (maxL - vs.length) none) h = some ((3, v), L', h)) : q_run body maxL none vs h = some (.inl .null, h) := by
  unfold q_run
  rw [if_pos hc, hb]
  simp [q_run0, q_chk]
theorem q_fit_int (i : Int32) : q_fit .int (.int i) = true := by
  unfold q_fit narrow fits
  simp
theorem q_J3_all (i n : Int32) (v : Value) (hv : v.category = 1) : ([Value.int i, .int n, v].all fun v => v.category == 1) = true := by
  simp only [List.all_cons, List.all_nil, hv]
  rfl
theorem q_J3_ge {i n : Int32} (h2 : i < n) : decide (n ≤ i) = false := by
  have h3 : ¬ n ≤ i := by
    intro h4
    have a := Int32.lt_iff_toInt_lt.mp h2
    have b := Int32.le_iff_toInt_le.mp h4
    omega
  exact decide_eq_false h3
theorem q_J3_c1 {i n : Int32} {v : Value} {h : qH} : q_eLoc 0 0 [some (.int i), some (.int n), some v] h = some (.inl (.int i), h) := rfl
theorem q_J3_c2 {i n : Int32} {v : Value} {h : qH} : q_eLoc 0 1 [some (.int i), some (.int n), some v] h = some (.inl (.int n), h) := rfl
theorem q_zlt_e {i : Int32} {b : Bool} (e : decide (i < 0) = b) : q_zlt (.int i) = some b := congrArg some e
theorem q_cge_e {i n : Int32} {b : Bool} (e : decide (n ≤ i) = b) : q_cge (.int i) (.int n) = some b := congrArg some e
theorem q_cCmp0_e {op : Value → Option Bool} {a : qE} {L : qL} {h h1 : qH} {x : Value} {b : Bool} (ea : a L h = some (.inl x, h1)) (eo : op x = some b) : q_cCmp0 op a L h = some (.inl b, h1) := by
  unfold q_cCmp0; rw [ea]; unfold q_bE; dsimp only; rw [eo]
theorem q_cCmp_e {op : Value → Value → Option Bool} {a c : qE} {L : qL} {h h1 h2 : qH} {x y : Value} {b : Bool} (ea : a L h = some (.inl x, h1)) (ec : c L h1 = some (.inl y, h2)) (eo : op x y = some b) : q_cCmp op a c L h = some (.inl b, h2) := by
  unfold q_cCmp; rw [ea]; unfold q_bE; dsimp only; rw [ec]; dsimp only; rw [eo]
theorem q_cOr_f {a c : qB} {L : qL} {h h1 : qH} {r : Option ((Bool ⊕ Nat) × qH)} (ea : a L h = some (.inl false, h1)) (ec : c L h1 = r) : q_cOr a c L h = r := by
  unfold q_cOr; rw [ea]; unfold q_bB; dsimp only; rw [if_neg Bool.false_ne_true]; exact ec
theorem q_sIf_f {B : qB} {a c : qS} {L : qL} {h h1 : qH} (eB : B L h = some (.inl false, h1)) : q_sIf B a c L h = c L h1 := by
  unfold q_sIf; rw [eB]; dsimp only; rw [if_neg Bool.false_ne_true]
theorem q_sSeq_e {a c : qS} {L L1 : qL} {h h1 : qH} {v : Value} (ea : a L h = some ((0, v), L1, h1)) : q_sSeq a c L h = c L1 h1 := by
  unfold q_sSeq; rw [ea]; rfl
theorem q_sRet_e {a : qE} {L : qL} {h h1 : qH} {v : Value} (ea : a L h = some (.inl v, h1)) : q_sRet a L h = some ((4, v), L, h1) := by
  unfold q_sRet; rw [ea]; rfl
theorem q_J3_run {i n : Int32} {v : Value} {h : qH} (h1 : ¬ i < 0) (h2 : i < n) : b_J3_check [some (.int i), some (.int n), some v] h = some ((4, .int i), [some (.int i), some (.int n), some v], h) := by
  unfold b_J3_check
  rw [q_sSeq_e (L1 := [some (.int i), some (.int n), some v]) (h1 := h) (v := .null) (q_sIf_f (q_cOr_f (q_cCmp0_e q_J3_c1 (q_zlt_e (decide_eq_false h1))) (q_cCmp_e q_J3_c1 q_J3_c2 (q_cge_e (q_J3_ge h2)))))]
  exact q_sRet_e q_J3_c1
theorem q_J3_body {rot : qRO} : q_Body rot yJ3_checkIndex_8e157 cJ3_checkIndex_8e157 3 (some .int) 1 none b_J3_check := by
  intro X hX hrot hnm htab
  exact (q_seq (p1 := 16) (q_sif (p1 := 9) (p2 := 16) (q_or (p1 := 4) (q_cmp0 (p1 := 1) (q_iload_n hX dJ3_checkIndex_8e157_0 (Nat.le_refl _)) (q_zlt_t hX (off := 8) dJ3_checkIndex_8e157_1 (tgt := 9) (by decide))) (q_cmp (p1 := 5) (p2 := 6) (q_iload_n hX dJ3_checkIndex_8e157_4 (Nat.le_refl _)) (q_iload_n hX dJ3_checkIndex_8e157_5 (Nat.le_refl _)) (q_cge_f hX (off := 10) dJ3_checkIndex_8e157_6 (tgt := 16) (by decide)))) q_deadS q_skip) (q_ret (p1 := 17) hX (q_iload_n hX dJ3_checkIndex_8e157_16 (Nat.le_refl _)) dJ3_checkIndex_8e157_17))
theorem ok_J3_check {rot : qRO} (hrs : q_sub q_rs rot) : q_Met rot yJ3_checkIndex_8e157 (Cond.code yJ3_checkIndex_8e157 cJ3_checkIndex_8e157 3 (some .int) :: q_WS) (some .int) 1 q_jCheck := by
  have h0 : q_Met rot yJ3_checkIndex_8e157 (Cond.code yJ3_checkIndex_8e157 cJ3_checkIndex_8e157 3 (some .int) :: q_WS) (some .int) 1 (q_run b_J3_check 3 (some .int)) := q_meth (by decide) rfl q_J3_body
  refine h0.imp (fun vs h x e => ?_)
  unfold q_jCheck at e
  split at e
  · split at e
    · rename_i hc
      cases e
      exact q_run_r ⟨q_J3_all _ _ _ rfl, Nat.le_refl 3⟩ (q_J3_run hc.1 hc.2) (q_fit_int _)
    · cases e
  · split at e
    · rename_i hc
      cases e
      exact q_run_r ⟨q_J3_all _ _ _ rfl, Nat.le_refl 3⟩ (q_J3_run hc.1 hc.2) (q_fit_int _)
    · cases e
  · cases e
set_option maxRecDepth 100000 in
theorem ok_J0_check {rot : qRO} (hrs : q_sub q_rs rot) : q_Met rot yJ0_checkIndex_df160 (Cond.code yJ0_checkIndex_df160 cJ0_checkIndex_df160 2 none :: q_WS) none 2 q_jChk := by
  have h0 : q_Met rot yJ0_checkIndex_df160 (Cond.code yJ0_checkIndex_df160 cJ0_checkIndex_df160 2 none :: q_WS) none 2 (q_run b_J0_check 2 none) := by
    refine q_meth (by decide) rfl ?_
    intro X hX hrot hnm htab
    have hw : q_wS RJ0 1059 yJ3_checkIndex_8e157 cJ3_checkIndex_8e157 3 (some .int) 3 := ⟨qj_1536, qj_1534, qj_1535, qj_22, by decide +kernel⟩
    have hC := q_caS (p1 := 5) (T := q_Tn none) hX hrot (ok_J3_check hrs) rfl hw (by decide) (by decide) dJ0_checkIndex_df160_5 (q_tn _)
    refine (q_seq (p1 := 9) (q_pop hX (p1 := 8) ?_ ?_ dJ0_checkIndex_df160_8) (q_retv hX dJ0_checkIndex_df160_9))
    · rcases q_gSI (T := q_Tn none) (p1 := 2) (k := 2) (c := 1) hX (qj_1532) dJ0_checkIndex_df160_2 (Nat.le_refl _) with hE | hE
      · refine q_EOK.imp (f := q_eCall 0 none q_jCheck (q_aCons (q_eLoc 0 0) (q_aCons (q_eLoc 0 1) (q_aCons (q_eLit .null) q_aNil)))) (q_call (p1 := 5) (q_acons (p1 := 1) (c1 := 1) (q_iload_n hX dJ0_checkIndex_df160_0 (Nat.le_refl _)) (q_acons (p1 := 2) (c1 := 1) (q_iload_n hX dJ0_checkIndex_df160_1 (Nat.le_refl _)) (q_acons hE q_anil))) (by decide) hC (Nat.le_refl _)) ?_
        intro L h x e
        split at e
        · split at e
          · rename_i hc
            cases e
            simp [q_eCall, q_aCons, q_aNil, q_eLoc, q_eLit, q_is, q_obj, q_jCheck, hc]
          · cases e
        · cases e
      · refine q_EOK.imp (f := q_eCall 0 none q_jCheck (q_aCons (q_eLoc 0 0) (q_aCons (q_eLoc 0 1) (q_aCons (q_eLit (.ref 13)) q_aNil)))) (q_call (p1 := 5) (q_acons (p1 := 1) (c1 := 1) (q_iload_n hX dJ0_checkIndex_df160_0 (Nat.le_refl _)) (q_acons (p1 := 2) (c1 := 1) (q_iload_n hX dJ0_checkIndex_df160_1 (Nat.le_refl _)) (q_acons hE q_anil))) (by decide) hC (Nat.le_refl _)) ?_
        intro L h x e
        split at e
        · split at e
          · rename_i hc
            cases e
            simp [q_eCall, q_aCons, q_aNil, q_eLoc, q_eLit, q_is, q_obj, q_jCheck, hc]
          · cases e
        · cases e
    · intro L h v h' e
      split at e
      · split at e
        · cases e; rfl
        · cases e
      · cases e
  refine h0.imp (fun vs h x e => ?_)
  unfold q_jChk at e
  split at e
  · split at e
    · rename_i i n hc
      cases e
      refine q_run_v (v := .null) (L' := [some (.int i), some (.int n)]) ⟨by simp [Value.category], Nat.le_refl 2⟩ ?_
      simp [b_J0_check, q_sSeq, q_sPop, q_bS, q_sRetV, hc]
    · cases e
  · cases e
set_option maxRecDepth 100000 in
theorem ok_J0_isLatin1 {rot : qRO} (hrs : q_sub q_rs rot) : q_Met rot yJ0_isLatin1_aae02 (Cond.code yJ0_isLatin1_aae02 cJ0_isLatin1_aae02 1 (some .boolean) :: q_WS) (some .boolean) 1 q_jLatin := by
  have h0 : q_Met rot yJ0_isLatin1_aae02 (Cond.code yJ0_isLatin1_aae02 cJ0_isLatin1_aae02 1 (some .boolean) :: q_WS) (some .boolean) 1 (q_run b_J0_isLatin1 1 (some .boolean)) := by
    refine q_meth (by decide) rfl ?_
    intro X hX hrot hnm htab
    exact q_ret (p1 := 18) hX (q_if (p1 := 13) (p2 := 17) (q_and (p1 := 6) (q_cmp0 (p1 := 3) (q_gCS hX (qj_1516) dJ0_isLatin1_aae02_0 (Nat.le_refl _)) (q_zne_f hX (off := 14) dJ0_isLatin1_aae02_3 (tgt := 17) (by decide))) (q_cmp0 (p1 := 10) (q_h1 (p1 := 7) (q_aload_n hX dJ0_isLatin1_aae02_6 (Nat.le_refl _)) (q_gSc_o hX (qj_1763) dJ0_isLatin1_aae02_7 (Nat.le_refl _))) (q_zeq_f hX (off := 7) dJ0_isLatin1_aae02_10 (tgt := 17) (by decide)))) (q_jE (p1 := 14) (q_goto hX (off := 4) dJ0_isLatin1_aae02_14 (tgt := 18) (by decide)) (q_iconst hX (v := 1) (n := 1) dJ0_isLatin1_aae02_13 (by decide) (Nat.le_refl _))) (q_iconst hX (v := 0) (n := 0) dJ0_isLatin1_aae02_17 (by decide) (Nat.le_refl _))) dJ0_isLatin1_aae02_18
  refine h0.imp (fun vs h x e => ?_)
  unfold q_jLatin at e
  split at e
  · cases e
    exact q_run_r (L' := [some (.ref 14)]) ⟨rfl, by decide⟩ rfl rfl
  · cases e
theorem f14_jLatin : ∀ h vs r h2, q_jLatin vs h = some (r, h2) → ∃ vs', vs = .ref 14 :: vs' := by
  intro h vs r h2 e
  unfold q_jLatin at e
  split at e
  · exact ⟨_, rfl⟩
  · cases e
theorem q_in5 {j : Int32} (h : q_in j 3 = true) : j = 0 ∨ j = 1 ∨ j = 2 := by
  have h := of_decide_eq_true h
  obtain ⟨h1, h2⟩ := h
  have h3 : (0 : Int) ≤ j.toInt := by
    have := Int32.not_lt.mp h1
    simpa using Int32.le_iff_toInt_le.mp this
  have h4 : j.toInt.toNat < 3 := h2
  have h5 : j.toInt = 0 ∨ j.toInt = 1 ∨ j.toInt = 2 := by omega
  rcases h5 with h5 | h5 | h5
  · exact Or.inl (Int32.toInt_inj.mp h5)
  · exact Or.inr (Or.inl (Int32.toInt_inj.mp h5))
  · exact Or.inr (Or.inr (Int32.toInt_inj.mp h5))
set_option maxRecDepth 100000 in
theorem ok_J1_charAt {rot : qRO} (hrs : q_sub q_rs rot) : q_Met rot yJ1_charAt_3b067 (Cond.code yJ1_charAt_3b067 cJ1_charAt_3b067 2 (some .char) :: q_WS) (some .char) 3 q_jChar := by
  have h0 : q_Met rot yJ1_charAt_3b067 (Cond.code yJ1_charAt_3b067 cJ1_charAt_3b067 2 (some .char) :: q_WS) (some .char) 3 (q_run b_J1_charAt 2 (some .char)) := by
    refine q_meth (by decide) rfl ?_
    intro X hX hrot hnm htab
    have hw : q_wS RJ1 9 yJ0_checkIndex_df160 cJ0_checkIndex_df160 2 none 2 := ⟨qj_1531, qj_1529, qj_1530, qj_19, by decide +kernel⟩
    exact q_seq (p1 := 6) (q_scall (p1 := 3) (q_acons (p1 := 1) (q_iload_n hX dJ1_charAt_3b067_0 (Nat.le_refl _)) (q_acons (p1 := 3) (q_h1 (p1 := 2) (q_aload_n hX dJ1_charAt_3b067_1 (Nat.le_refl _)) (q_gSl_o hX dJ1_charAt_3b067_2 (Nat.le_refl _))) q_anil)) (q_caS hX hrot (ok_J0_check hrs) rfl hw (by decide) (by decide) dJ1_charAt_3b067_3 (q_tn _)))
      (q_ret (p1 := 14) hX (q_h1 (p1 := 13) (q_h2 (p1 := 9) (p2 := 12) (q_h2 (p1 := 7) (p2 := 8) (q_aload_n hX dJ1_charAt_3b067_6 (Nat.le_refl _)) (q_iload_n hX dJ1_charAt_3b067_7 (Nat.le_refl _)) (q_gSb_o hX dJ1_charAt_3b067_8 (Nat.le_refl _))) (q_sipush hX (v := 255) (n := 255) dJ1_charAt_3b067_9 (by decide) (Nat.le_refl _)) (q_iand_o hX dJ1_charAt_3b067_12 (Nat.le_refl _))) (q_i2c_o hX dJ1_charAt_3b067_13 (Nat.le_refl _))) dJ1_charAt_3b067_14)
  refine h0.imp (fun vs h x e => ?_)
  unfold q_jChar at e
  split at e
  · split at e
    · rename_i j hj
      cases e
      rcases q_in5 hj with rfl | rfl | rfl
      · exact q_run_r (L' := [some (.ref 15), some (.int 0)]) ⟨rfl, by decide⟩ rfl rfl
      · exact q_run_r (L' := [some (.ref 15), some (.int 1)]) ⟨rfl, by decide⟩ rfl rfl
      · exact q_run_r (L' := [some (.ref 15), some (.int 2)]) ⟨rfl, by decide⟩ rfl rfl
    · cases e
  · cases e
set_option maxRecDepth 100000 in
theorem ok_J0_charAt {rot : qRO} (hrs : q_sub q_rs rot) : q_Met rot yJ0_charAt_5068e (Cond.code yJ0_charAt_5068e cJ0_charAt_5068e 2 (some .char) :: q_WS) (some .char) 9 f_J0_charAt := by
  have h0 : q_Met rot yJ0_charAt_5068e (Cond.code yJ0_charAt_5068e cJ0_charAt_5068e 2 (some .char) :: q_WS) (some .char) 9 (q_run b_J0_charAt 2 (some .char)) := by
    refine q_meth (by decide) rfl ?_
    intro X hX hrot hnm htab
    have hw : q_wV RJ0 492 yJ0_isLatin1_aae02 cJ0_isLatin1_aae02 1 (some .boolean) 0 := ⟨qj_1525, qj_1522, qj_1523, qj_1524, qj_19, by decide +kernel⟩
    have hw2 : q_wS RJ0 495 yJ1_charAt_3b067 cJ1_charAt_3b067 2 (some .char) 2 := ⟨qj_1528, qj_1526, qj_1527, qj_21, by decide +kernel⟩
    exact q_seq (p1 := 16) (q_sif (p1 := 7) (p2 := 16) (q_cmp0 (p1 := 4) (q_call (p1 := 1) (q_acons (p1 := 1) (q_aload_n hX dJ0_charAt_5068e_0 (Nat.le_refl _)) q_anil) (by decide) (q_caVS hX hrot (ok_J0_isLatin1 hrs) rfl hw rfl (by decide) (by decide) dJ0_charAt_5068e_1 (q_tn _) f14_jLatin) (Nat.le_refl _)) (q_zne_f hX (off := 12) dJ0_charAt_5068e_4 (tgt := 16) (by decide)))
      (q_ret (p1 := 15) hX (q_call (p1 := 12) (q_acons (p1 := 11) (q_h1 (p1 := 8) (q_aload_n hX dJ0_charAt_5068e_7 (Nat.le_refl _)) (q_gSv_o hX (qj_1762) dJ0_charAt_5068e_8 (Nat.le_refl _))) (q_acons (p1 := 12) (q_iload_n hX dJ0_charAt_5068e_11 (Nat.le_refl _)) q_anil)) (by decide) (q_caS hX hrot (ok_J1_charAt hrs) rfl hw2 (by decide) (by decide) dJ0_charAt_5068e_12 (q_tn _)) (Nat.le_refl _)) dJ0_charAt_5068e_15) q_skip) q_deadS
  refine h0.imp (fun vs h x e => ?_)
  unfold f_J0_charAt at e
  split at e
  · split at e
    · rename_i j hj
      cases e
      rcases q_in5 hj with rfl | rfl | rfl
      · exact q_run_r (L' := [some (.ref 14), some (.int 0)]) ⟨rfl, by decide⟩ rfl rfl
      · exact q_run_r (L' := [some (.ref 14), some (.int 1)]) ⟨rfl, by decide⟩ rfl rfl
      · exact q_run_r (L' := [some (.ref 14), some (.int 2)]) ⟨rfl, by decide⟩ rfl rfl
    · cases e
  · cases e
