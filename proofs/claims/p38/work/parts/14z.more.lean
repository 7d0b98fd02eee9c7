/-! what p38's law needs more: an int out of the pool, an array made with its elements -/
section QMORE
variable {X : qX} {T : Nat → Prop} {pc p1 p2 p3 p4 pn pb pk k c nL fr : Nat} {a b d : qE} {cc : ByteArray} {own : String} {ret : Option FieldType}
theorem q_ldcI (hX : q_OK X cc own nL ret fr) {ix : Nat} {v : Int32} (hk : Cond.constant own ix v ∈ q_WS) (hd : decode cc pc = .ok (.ldc ix, 2)) (hc : 1 ≤ c) : q_EOK X T (q_eLit (.int v)) pc (pc + 2) k c := by
  refine q_push rfl hc ?_
  obtain ⟨⟨p, l, e, R, s, m, args, below, meth, c9, Q⟩, D, A, ro, rot, c0, s0⟩ := X
  obtain ⟨hx, hb, hml, hrt, hown, hts, -⟩ := hX
  exact fun H locs cells slots ls rest kk => lv_ldc hx hb hown (hts _ hk) hd kk
def q_eSto (a i b : qE) : qE := fun L h => q_bE (a L h) fun x h1 => q_bE (i L h1) fun y h2 => q_bE (b L h2) fun z h3 => match q_pI .int h3 x y z with
  | some h4 => some (.inl x, h4)
  | none => none
theorem q_cat1 {w : Value} (h : w.category ≤ 1) : w.category = 1 := by
  cases w <;> first | rfl | (exact absurd h (by show ¬ (2 : Nat) ≤ 1; decide))
theorem q_sto (ha : q_EOK X T a pc p1 k 1) (hdup : q_D1 X p1) (hi : q_EOK X T d (p1 + 1) p2 (k + 2) 1) (hb : q_EOK X T b p2 p3 (k + 3) 1) (hput : q_P3 X (q_pI .int) p3 p4) : q_EOK X T (q_eSto a d b) pc p4 k 1 := by
  intro L h r h' hf
  cases ea : a L h with
  | none => simp [q_eSto, q_bE, ea] at hf
  | some q =>
    obtain ⟨m1, g1⟩ := ha L h _ _ ea
    obtain ⟨q | q, h1⟩ := q
    · cases ed : d L h1 with
      | none => simp [q_eSto, q_bE, ea, ed] at hf
      | some q2 =>
        obtain ⟨m2, g2⟩ := hi L h1 _ _ ed
        obtain ⟨q2 | q2, h2⟩ := q2
        · cases eb : b L h2 with
          | none => simp [q_eSto, q_bE, ea, ed, eb] at hf
          | some q3 =>
            obtain ⟨m3, g3⟩ := hb L h2 _ _ eb
            obtain ⟨q3 | q3, h3⟩ := q3
            · cases eo : q_pI .int h3 q q2 q3 with
              | none => simp [q_eSto, q_bE, ea, ed, eb, eo] at hf
              | some v =>
                simp only [q_eSto, q_bE, ea, ed, eb, eo] at hf
                cases hf
                have e9 := (hput L h3 [] q q2 q3 h' .null .null .null [] eo).1
                refine ⟨m1.tr (m2.tr (m3.tr (q_le.eq e9))), fun hc α rest hk kv kx => ?_⟩
                have hc3 := hc.le (q_le.eq e9)
                refine g1 (hc3.le (m2.tr m3)) α rest hk (fun v1 e1 α1 w1 hp1 hr1 hc1 => ?_) (fun x e1 => by cases e1)
                cases e1
                refine hdup L h1 α1 _ w1 rest hr1 (q_cat1 hc1) ?_
                refine g2 (hc3.le m3) α1 (w1 :: w1 :: rest) (q_sum (k := k + 1) hc1 (q_sum hc1 hk)) (fun v2 e2 α2 w2 hp2 hr2 hc2 => ?_) (fun x e1 => by cases e1)
                cases e2
                refine g3 hc3 α2 (w2 :: w1 :: w1 :: rest) (q_sum (k := k + 1 + 1) hc2 (q_sum (k := k + 1) hc1 (q_sum hc1 hk))) (fun v3 e3 α3 w3 hp3 hr3 _ => ?_) (fun x e1 => by cases e1)
                cases e3
                exact (hput L h3 α3 _ _ _ _ _ _ _ (w1 :: rest) eo).2 ((hr1.mono hp2).mono hp3) (hr2.mono hp3) hr3 (kv _ rfl α3 w1 ((hp1.trans hp2).trans hp3) ((hr1.mono hp2).mono hp3) hc1)
            · simp only [q_eSto, q_bE, ea, ed, eb] at hf
              cases hf
              refine ⟨m1.tr (m2.tr m3), fun hc α rest hk kv kx => g1 (hc.le (m2.tr m3)) α rest hk (fun v1 e1 α1 w1 hp1 hr1 hc1 => ?_) (fun x e1 => by cases e1)⟩
              refine hdup L h1 α1 _ w1 rest hr1 (q_cat1 hc1) ?_
              refine g2 (hc.le m3) α1 (w1 :: w1 :: rest) (q_sum (k := k + 1) hc1 (q_sum hc1 hk)) (fun v2 e2 α2 w2 hp2 hr2 hc2 => ?_) (fun x e1 => by cases e1)
              exact g3 hc α2 (w2 :: w1 :: w1 :: rest) (q_sum (k := k + 1 + 1) hc2 (q_sum (k := k + 1) hc1 (q_sum hc1 hk))) (fun v3 e3 => by cases e3) (fun x e1 α3 t hp3 => kx x e1 α3 t ((hp1.trans hp2).trans hp3))
        · simp only [q_eSto, q_bE, ea, ed] at hf
          cases hf
          refine ⟨m1.tr m2, fun hc α rest hk kv kx => g1 (hc.le m2) α rest hk (fun v1 e1 α1 w1 hp1 hr1 hc1 => ?_) (fun x e1 => by cases e1)⟩
          refine hdup L h1 α1 _ w1 rest hr1 (q_cat1 hc1) ?_
          exact g2 hc α1 (w1 :: w1 :: rest) (q_sum (k := k + 1) hc1 (q_sum hc1 hk)) (fun v2 e2 => by cases e2) (fun x e1 α2 t hp2 => kx x e1 α2 t (hp1.trans hp2))
    · simp only [q_eSto, q_bE, ea] at hf
      cases hf
      exact ⟨m1, fun hc α rest hk kv kx => g1 hc α rest hk (fun v1 e1 => by cases e1) kx⟩
end QMORE
