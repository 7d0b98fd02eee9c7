/-! statements -/
def q_pv (L : qL) (i : Nat) : qL := match i with
  | 0 => L
  | j + 1 => match L[j]? with
    | some (some w) => if w.category = 2 then L.set j none else L
    | _ => L
def q_stL (L : qL) (i : Nat) (v : Value) : qL := if v.category = 2 then ((q_pv L i).set i (some v)).set (i + 1) none else (q_pv L i).set i (some v)
def q_sLoc (t i : Nat) (a : qE) : qS := fun L h => q_bS (a L h) L fun v h1 => if q_is t v then some ((0, .null), q_stL L i v, h1) else none
def q_sInc (i : Nat) (n : Int) : qS := fun L h => match L[i]? with
  | some (some (.int x)) => some ((0, .null), q_stL L i (.int (x + Int32.ofInt n)), h)
  | _ => none
def q_sSkip : qS := fun L h => some ((0, .null), L, h)
def q_sBrk : qS := fun L h => some ((1, .null), L, h)
def q_sCnt : qS := fun L h => some ((2, .null), L, h)
def q_sSeq (a b : qS) : qS := fun L h => match a L h with
  | some ((0, _), L1, h1) => b L1 h1
  | r => r
def q_sIf (B : qB) (a b : qS) : qS := fun L h => match B L h with
  | none => none
  | some (.inr e, h1) => some ((e + 5, .null), L, h1)
  | some (.inl t, h1) => if t then a L h1 else b L h1
def q_sLoop : Nat → qB → qS → qS → qS
  | 0, _, _, _ => fun _ _ => none
  | n + 1, B, a, u => fun L h => match B L h with
    | none => none
    | some (.inr e, h1) => some ((e + 5, .null), L, h1)
    | some (.inl false, h1) => some ((0, .null), L, h1)
    | some (.inl true, h1) => match a L h1 with
      | none => none
      | some ((1, _), L2, h2) => some ((0, .null), L2, h2)
      | some ((0, _), L2, h2) => q_sSeq u (q_sLoop n B a u) L2 h2
      | some ((2, _), L2, h2) => q_sSeq u (q_sLoop n B a u) L2 h2
      | some ((k + 3, v), L2, h2) => some ((k + 3, v), L2, h2)
def q_sRet (a : qE) : qS := fun L h => q_bS (a L h) L fun v h1 => some ((4, v), L, h1)
def q_sRetV : qS := fun L h => some ((3, .null), L, h)
def q_sPop (a : qE) : qS := fun L h => q_bS (a L h) L fun _ h1 => some ((0, .null), L, h1)
def q_sThrow (x : Nat) : qS := fun L h => some ((x + 5, .null), L, (h.1, h.2.1 + 1, h.2.2 + 6))
def q_all (ls : Array Slot) : List (Nat × Value) := (List.range ls.size).filterMap (fun j => match ls[j]? with
  | some (Slot.val w) => some (j, w)
  | _ => none)
theorem q_all_has {ls : Array Slot} {nL : Nat} (h1 : ls.size = nL) (h2 : lv_wf ls) : lv_has ls nL (q_all ls) := by
  refine ⟨h1, h2, fun q hq => ?_⟩
  obtain ⟨j, -, hj⟩ := List.mem_filterMap.mp hq
  split at hj
  · rename_i w hw
    cases hj
    exact hw
  · cases hj
theorem q_all_mem {ls : Array Slot} {j : Nat} {w : Value} (h : ls[j]? = some (.val w)) : (j, w) ∈ q_all ls := by
  refine List.mem_filterMap.mpr ⟨j, List.mem_range.mpr (Array.getElem?_eq_some_iff.mp h).1, ?_⟩
  rw [h]
theorem q_pv_len (L : qL) (i : Nat) : (q_pv L i).length = L.length := by
  unfold q_pv
  split
  · rfl
  · split
    · split
      · simp
      · rfl
    · rfl
theorem q_stL_len (L : qL) (i : Nat) (v : Value) : (q_stL L i v).length = L.length := by
  unfold q_stL
  split <;> simp [q_pv_len]
theorem q_pv_get {L : qL} {i j : Nat} {u : Value} (h : (q_pv L i)[j]? = some (some u)) : L[j]? = some (some u) ∧ ¬ (j + 1 = i ∧ u.category = 2) := by
  unfold q_pv at h
  split at h
  · exact ⟨h, fun q => by omega⟩
  · rename_i k
    split at h
    · rename_i w hw
      split at h
      · rename_i hc
        rw [List.getElem?_set] at h
        by_cases hkj : k = j
        · rw [if_pos hkj] at h
          split at h <;> cases h
        · rw [if_neg hkj] at h
          exact ⟨h, fun q => hkj (by omega)⟩
      · rename_i hc
        refine ⟨h, fun q => ?_⟩
        obtain ⟨q1, q2⟩ := q
        have : j = k := by omega
        subst this
        rw [hw] at h
        cases h
        exact hc q2
    · rename_i hno
      refine ⟨h, fun q => ?_⟩
      have : j = k := by omega
      subst this
      exact hno u h
theorem q_stL_ok1 {ro : Nat → Nat} {α : List Nat} {nL i : Nat} {L : qL} {ls ls' : Array Slot} {v w : Value} (h : q_lr ro α nL L ls) (hc : v.category = 1) (hr : q_vr ro α v w) (h' : lv_has ls' nL ((i, w) :: (q_all ls).filter (fun q => !(q.1 == i) && !(q.1 + 1 == i && q.2.category == 2)))) : q_lr ro α nL (q_stL L i v) ls' := by
  refine ⟨h'.1, by rw [q_stL_len]; exact h.2.1, h'.2.1, fun j u hj => ?_⟩
  unfold q_stL at hj
  rw [if_neg (by omega), List.getElem?_set] at hj
  by_cases hij : i = j
  · subst hij
    rw [if_pos rfl] at hj
    split at hj
    · cases hj
      exact ⟨w, h'.2.2 _ List.mem_cons_self, hr⟩
    · cases hj
  · rw [if_neg hij] at hj
    obtain ⟨h1, h2⟩ := q_pv_get hj
    obtain ⟨wu, h3, h4⟩ := h.2.2.2 j u h1
    refine ⟨wu, h'.2.2 (j, wu) (List.mem_cons_of_mem _ (List.mem_filter.mpr ⟨q_all_mem h3, ?_⟩)), h4⟩
    have e1 : (j == i) = false := by simp; omega
    have e2 : (j + 1 == i && wu.category == 2) = false := by
      rw [h4.cat]
      simp only [Bool.and_eq_false_iff, beq_eq_false_iff_ne]
      by_cases q1 : j + 1 = i
      · exact Or.inr (fun q2 => h2 ⟨q1, q2⟩)
      · exact Or.inl q1
    simp only [e1, e2]
    rfl
theorem q_stL_ok2 {ro : Nat → Nat} {α : List Nat} {nL i : Nat} {L : qL} {ls ls' : Array Slot} {v w : Value} (h : q_lr ro α nL L ls) (hc : v.category = 2) (hr : q_vr ro α v w) (h' : lv_has ls' nL ((i, w) :: (q_all ls).filter (fun q => !(q.1 == i) && (!(q.1 == i + 1) && !(q.1 + 1 == i && q.2.category == 2))))) : q_lr ro α nL (q_stL L i v) ls' := by
  refine ⟨h'.1, by rw [q_stL_len]; exact h.2.1, h'.2.1, fun j u hj => ?_⟩
  unfold q_stL at hj
  rw [if_pos hc, List.getElem?_set] at hj
  by_cases hij1 : i + 1 = j
  · rw [if_pos hij1] at hj
    split at hj <;> cases hj
  rw [if_neg hij1, List.getElem?_set] at hj
  by_cases hij : i = j
  · subst hij
    rw [if_pos rfl] at hj
    split at hj
    · cases hj
      exact ⟨w, h'.2.2 _ List.mem_cons_self, hr⟩
    · cases hj
  · rw [if_neg hij] at hj
    obtain ⟨h1, h2⟩ := q_pv_get hj
    obtain ⟨wu, h3, h4⟩ := h.2.2.2 j u h1
    refine ⟨wu, h'.2.2 (j, wu) (List.mem_cons_of_mem _ (List.mem_filter.mpr ⟨q_all_mem h3, ?_⟩)), h4⟩
    have e1 : (j == i) = false := by simp; omega
    have e3 : (j == i + 1) = false := by simp; omega
    have e2 : (j + 1 == i && wu.category == 2) = false := by
      rw [h4.cat]
      simp only [Bool.and_eq_false_iff, beq_eq_false_iff_ne]
      by_cases q1 : j + 1 = i
      · exact Or.inr (fun q2 => h2 ⟨q1, q2⟩)
      · exact Or.inl q1
    simp only [e1, e2, e3]
    rfl
section QST
variable {X : qX} {T : Nat → Prop} {pc p1 p2 p3 p4 p5 pn pb pk k c c1 c2 nL fr : Nat} {f a b x y : qE} {B : qB} {s1 s2 u1 : qS} {cc : ByteArray} {own : String} {ret : Option FieldType}
/-- a store into a local -/
def q_ST (X : qX) (t i p p' : Nat) : Prop := ∀ L h α v w, q_is t v = true → q_vr X.2.2.2.1 α v w → q_G X (q_stL L i v) h α p' [] → q_G X L h α p [w]
theorem q_sloc {t i : Nat} (ha : q_EOK X T a pc p1 0 c1) (hop : q_ST X t i p1 pn) : q_SOK X T (q_sLoc t i a) pc pn pb pk := by
  intro L h o L' h' hf
  cases ea : a L h with
  | none => simp [q_sLoc, q_bS, ea] at hf
  | some q =>
    obtain ⟨m1, g1⟩ := ha L h _ _ ea
    obtain ⟨q | q, h1⟩ := q
    · simp only [q_sLoc, q_bS, ea] at hf
      split at hf
      · rename_i hq
        cases hf
        refine ⟨m1, fun hc α kn _ _ _ _ _ => g1 hc α [] (Nat.zero_le _) (fun v1 e1 α1 w1 hp1 hr1 hc1 => ?_) (fun x e1 => by cases e1)⟩
        cases e1
        exact hop L _ α1 _ w1 hq hr1 (kn rfl α1 hp1)
      · cases hf
    · simp only [q_sLoc, q_bS, ea] at hf
      cases hf
      exact ⟨m1, fun hc α _ _ _ _ _ kx => g1 hc α [] (Nat.zero_le _) (fun v1 e1 => by cases e1) (fun x e1 => kx x (by cases e1; rfl))⟩
theorem q_st_of {t i : Nat} (ht : q_ct t = 1) (hrow : ∀ H locs cells slots ls w lv, q_is t w = true → lv_has ls X.1.2.2.2.2.2.2.2.2.2.1.maxLocals lv → (∀ ls', lv_has ls' X.1.2.2.2.2.2.2.2.2.2.1.maxLocals ((i, w) :: lv.filter (fun q => !(q.1 == i) && !(q.1 + 1 == i && q.2.category == 2))) → q_W X H locs cells slots (F0 (q_m X) p2 ls' [])) → q_W X H locs cells slots (F0 (q_m X) p1 ls [w])) : q_ST X t i p1 p2 := by
  intro L h α v w hq hr hg tys ws H locs cells slots ls hR
  have ht' : q_is t w = true := by
    cases v with
    | ref k => obtain ⟨a, h1, -⟩ := hr; subst h1; match t, hq with | 4, _ => rfl
    | retAddr k => exact hr.elim
    | _ => rw [show w = _ from hr]; exact hq
  obtain ⟨⟨p, l, e, R, s, m, args, below, meth, c9, Q⟩, D, A, ro, rot, c0, s0⟩ := X
  obtain ⟨r1, r2, r3, r4, r5, r6, r7, r8⟩ := id hR
  exact hrow _ _ _ _ _ _ _ ht' (q_all_has r1.1 r1.2.2.1) (fun ls' h' => hg tys ws H locs cells slots ls' ⟨q_stL_ok1 r1 (by rw [q_is_cat hq]; exact ht) hr h', r2, r3, r4, r5, r6, r7, r8⟩)
theorem q_st_of2 {t i : Nat} (ht : q_ct t = 2) (hrow : ∀ H locs cells slots ls w lv, q_is t w = true → lv_has ls X.1.2.2.2.2.2.2.2.2.2.1.maxLocals lv → (∀ ls', lv_has ls' X.1.2.2.2.2.2.2.2.2.2.1.maxLocals ((i, w) :: lv.filter (fun q => !(q.1 == i) && (!(q.1 == i + 1) && !(q.1 + 1 == i && q.2.category == 2)))) → q_W X H locs cells slots (F0 (q_m X) p2 ls' [])) → q_W X H locs cells slots (F0 (q_m X) p1 ls [w])) : q_ST X t i p1 p2 := by
  intro L h α v w hq hr hg tys ws H locs cells slots ls hR
  have ht' : q_is t w = true := by
    cases v with
    | ref k => obtain ⟨a, h1, -⟩ := hr; subst h1; match t, hq with | 4, _ => rfl
    | retAddr k => exact hr.elim
    | _ => rw [show w = _ from hr]; exact hq
  obtain ⟨⟨p, l, e, R, s, m, args, below, meth, c9, Q⟩, D, A, ro, rot, c0, s0⟩ := X
  obtain ⟨r1, r2, r3, r4, r5, r6, r7, r8⟩ := id hR
  exact hrow _ _ _ _ _ _ _ ht' (q_all_has r1.1 r1.2.2.1) (fun ls' h' => hg tys ws H locs cells slots ls' ⟨q_stL_ok2 r1 (by rw [q_is_cat hq]; exact ht) hr h', r2, r3, r4, r5, r6, r7, r8⟩)
theorem q_seq (ha : q_SOK X T s1 pc p1 pb pk) (hb : q_SOK X T s2 p1 pn pb pk) : q_SOK X T (q_sSeq s1 s2) pc pn pb pk := by
  intro L h o L' h' hf
  cases ea : s1 L h with
  | none => simp [q_sSeq, ea] at hf
  | some q =>
    obtain ⟨⟨j, v⟩, L1, h1⟩ := q
    obtain ⟨m1, g1⟩ := ha L h _ _ _ ea
    match j, ea, g1 with
    | 0, ea, g1 =>
      have hf : s2 L1 h1 = some (o, L', h') := by simpa [q_sSeq, ea] using hf
      obtain ⟨m2, g2⟩ := hb L1 h1 _ _ _ hf
      exact ⟨m1.tr m2, fun hc α kn kb kk kr kv kx => g1 (hc.le m2) α (fun _ α1 hp1 => g2 hc α1 (fun e α2 hp2 => kn e α2 (hp1.trans hp2)) (fun e α2 hp2 => kb e α2 (hp1.trans hp2)) (fun e α2 hp2 => kk e α2 (hp1.trans hp2)) (fun e α2 hp2 => kr e α2 (hp1.trans hp2)) (fun e α2 w hp2 => kv e α2 w (hp1.trans hp2)) (fun x e α2 t hp2 => kx x e α2 t (hp1.trans hp2)))
        (fun e => by cases e) (fun e => by cases e) (fun e => by cases e) (fun e => by cases e) (fun x e => by have e : (0 : Nat) = x + 5 := e; omega)⟩
    | j + 1, ea, g1 =>
      simp only [q_sSeq, ea] at hf
      cases hf
      exact ⟨m1, fun hc α kn kb kk kr kv kx => g1 hc α (fun e => by cases e) kb kk kr kv kx⟩
theorem q_jS (hj : q_J X p1 pn) (ha : q_SOK X T s1 pc p1 pb pk) : q_SOK X T s1 pc pn pb pk := fun L h o L' h' hf => by
  obtain ⟨m1, g1⟩ := ha L h o L' h' hf
  exact ⟨m1, fun hc α kn kb kk kr kv kx => g1 hc α (fun e α1 hp => (kn e α1 hp).jump hj) kb kk kr kv kx⟩
theorem q_skip : q_SOK X T q_sSkip pc pc pb pk := fun L h o L' h' hf => by
  cases hf
  exact ⟨q_le.rf _, fun hc α kn _ _ _ _ _ => kn rfl α (List.prefix_refl _)⟩
theorem q_brk (hj : q_J X pc pb) : q_SOK X T q_sBrk pc pn pb pk := fun L h o L' h' hf => by
  cases hf
  exact ⟨q_le.rf _, fun hc α _ kb _ _ _ _ => (kb rfl α (List.prefix_refl _)).jump hj⟩
theorem q_cnt (hj : q_J X pc pk) : q_SOK X T q_sCnt pc pn pb pk := fun L h o L' h' hf => by
  cases hf
  exact ⟨q_le.rf _, fun hc α _ _ kk _ _ _ => (kk rfl α (List.prefix_refl _)).jump hj⟩
theorem q_sif (hB : q_BOK X T B pc p1 p2 0) (ha : q_SOK X T s1 p1 pn pb pk) (hb : q_SOK X T s2 p2 pn pb pk) : q_SOK X T (q_sIf B s1 s2) pc pn pb pk := by
  intro L h o L' h' hf
  cases ea : B L h with
  | none => simp [q_sIf, ea] at hf
  | some q =>
    obtain ⟨m1, g1⟩ := hB L h _ _ ea
    obtain ⟨(_ | _) | q, h1⟩ := q
    · have hf : s2 L h1 = some (o, L', h') := by simpa [q_sIf, ea] using hf
      obtain ⟨m2, g2⟩ := hb L h1 _ _ _ hf
      exact ⟨m1.tr m2, fun hc α kn kb kk kr kv kx => g1 (hc.le m2) α [] (Nat.zero_le _) (fun e => by cases e) (fun _ α1 hp1 => g2 hc α1 (fun e α2 hp2 => kn e α2 (hp1.trans hp2)) (fun e α2 hp2 => kb e α2 (hp1.trans hp2)) (fun e α2 hp2 => kk e α2 (hp1.trans hp2)) (fun e α2 hp2 => kr e α2 (hp1.trans hp2)) (fun e α2 w hp2 => kv e α2 w (hp1.trans hp2)) (fun x e α2 t hp2 => kx x e α2 t (hp1.trans hp2))) (fun x e => by cases e)⟩
    · have hf : s1 L h1 = some (o, L', h') := by simpa [q_sIf, ea] using hf
      obtain ⟨m2, g2⟩ := ha L h1 _ _ _ hf
      exact ⟨m1.tr m2, fun hc α kn kb kk kr kv kx => g1 (hc.le m2) α [] (Nat.zero_le _) (fun _ α1 hp1 => g2 hc α1 (fun e α2 hp2 => kn e α2 (hp1.trans hp2)) (fun e α2 hp2 => kb e α2 (hp1.trans hp2)) (fun e α2 hp2 => kk e α2 (hp1.trans hp2)) (fun e α2 hp2 => kr e α2 (hp1.trans hp2)) (fun e α2 w hp2 => kv e α2 w (hp1.trans hp2)) (fun x e α2 t hp2 => kx x e α2 t (hp1.trans hp2))) (fun e => by cases e) (fun x e => by cases e)⟩
    · simp only [q_sIf, ea] at hf
      cases hf
      exact ⟨m1, fun hc α _ _ _ _ _ kx => g1 hc α [] (Nat.zero_le _) (fun e => by cases e) (fun e => by cases e) (fun x e => kx x (by cases e; rfl))⟩
theorem q_loop (hB : q_BOK X T B pc p1 pn 0) (ha : q_SOK X T s1 p1 p2 pn p2) (hu : q_SOK X T u1 p2 pc pb pk) : ∀ n, q_SOK X T (q_sLoop n B s1 u1) pc pn pb pk
  | 0 => fun L h o L' h' hf => by cases hf
  | n + 1 => by
    have ih := q_seq hu (q_loop hB ha hu n)
    intro L h o L' h' hf
    cases ea : B L h with
    | none => simp [q_sLoop, ea] at hf
    | some q =>
      obtain ⟨m1, g1⟩ := hB L h _ _ ea
      obtain ⟨(_ | _) | q, h1⟩ := q
      · simp only [q_sLoop, ea] at hf
        cases hf
        exact ⟨m1, fun hc α kn _ _ _ _ _ => g1 hc α [] (Nat.zero_le _) (fun e => by cases e) (fun _ => kn rfl) (fun x e => by cases e)⟩
      · cases eb : s1 L h1 with
        | none => simp [q_sLoop, ea, eb] at hf
        | some q2 =>
          obtain ⟨⟨j, v⟩, L2, h2⟩ := q2
          obtain ⟨m2, g2⟩ := ha L h1 _ _ _ eb
          match j, eb, g2 with
          | 0, eb, g2 =>
            simp only [q_sLoop, ea, eb] at hf
            obtain ⟨m3, g3⟩ := ih L2 h2 _ _ _ hf
            refine ⟨m1.tr (m2.tr m3), fun hc α kn kb kk kr kv kx => g1 (hc.le (m2.tr m3)) α [] (Nat.zero_le _) (fun _ α1 hp1 => ?_) (fun e => by cases e) (fun x e => by cases e)⟩
            refine g2 (hc.le m3) α1 (fun _ α2 hp2 => ?_) (fun e => by cases e) (fun e => by cases e) (fun e => by cases e) (fun e => by cases e) (fun x e => by have e : (0 : Nat) = x + 5 := e; omega)
            exact g3 hc α2 (fun e α3 hp3 => kn e α3 ((hp1.trans hp2).trans hp3)) (fun e α3 hp3 => kb e α3 ((hp1.trans hp2).trans hp3)) (fun e α3 hp3 => kk e α3 ((hp1.trans hp2).trans hp3)) (fun e α3 hp3 => kr e α3 ((hp1.trans hp2).trans hp3)) (fun e α3 w hp3 => kv e α3 w ((hp1.trans hp2).trans hp3)) (fun x e α3 t hp3 => kx x e α3 t ((hp1.trans hp2).trans hp3))
          | 1, eb, g2 =>
            simp only [q_sLoop, ea, eb] at hf
            cases hf
            exact ⟨m1.tr m2, fun hc α kn kb kk kr kv kx => g1 (hc.le m2) α [] (Nat.zero_le _) (fun _ α1 hp1 => g2 hc α1 (fun e => by cases e) (fun _ α2 hp2 => kn rfl α2 (hp1.trans hp2)) (fun e => by cases e) (fun e => by cases e) (fun e => by cases e) (fun x e => by have e : (1 : Nat) = x + 5 := e; omega)) (fun e => by cases e) (fun x e => by cases e)⟩
          | 2, eb, g2 =>
            simp only [q_sLoop, ea, eb] at hf
            obtain ⟨m3, g3⟩ := ih L2 h2 _ _ _ hf
            refine ⟨m1.tr (m2.tr m3), fun hc α kn kb kk kr kv kx => g1 (hc.le (m2.tr m3)) α [] (Nat.zero_le _) (fun _ α1 hp1 => ?_) (fun e => by cases e) (fun x e => by cases e)⟩
            refine g2 (hc.le m3) α1 (fun e => by cases e) (fun e => by cases e) (fun _ α2 hp2 => ?_) (fun e => by cases e) (fun e => by cases e) (fun x e => by have e : (2 : Nat) = x + 5 := e; omega)
            exact g3 hc α2 (fun e α3 hp3 => kn e α3 ((hp1.trans hp2).trans hp3)) (fun e α3 hp3 => kb e α3 ((hp1.trans hp2).trans hp3)) (fun e α3 hp3 => kk e α3 ((hp1.trans hp2).trans hp3)) (fun e α3 hp3 => kr e α3 ((hp1.trans hp2).trans hp3)) (fun e α3 w hp3 => kv e α3 w ((hp1.trans hp2).trans hp3)) (fun x e α3 t hp3 => kx x e α3 t ((hp1.trans hp2).trans hp3))
          | j + 3, eb, g2 =>
            simp only [q_sLoop, ea, eb] at hf
            cases hf
            exact ⟨m1.tr m2, fun hc α kn kb kk kr kv kx => g1 (hc.le m2) α [] (Nat.zero_le _) (fun _ α1 hp1 => g2 hc α1 (fun e => by have e : j + 3 = 0 := e; omega) (fun e => by have e : j + 3 = 1 := e; omega) (fun e => by have e : j + 3 = 2 := e; omega) (fun e α2 hp2 => kr e α2 (hp1.trans hp2)) (fun e α2 w hp2 => kv e α2 w (hp1.trans hp2)) (fun x e α2 t hp2 => kx x e α2 t (hp1.trans hp2))) (fun e => by cases e) (fun x e => by cases e)⟩
      · simp only [q_sLoop, ea] at hf
        cases hf
        exact ⟨m1, fun hc α _ _ _ _ _ kx => g1 hc α [] (Nat.zero_le _) (fun e => by cases e) (fun e => by cases e) (fun x e => kx x (by cases e; rfl))⟩
theorem q_ret (hX : q_OK X cc own nL ret fr) (ha : q_EOK X T a pc p1 0 c1) (hd : decode cc p1 = .ok (q_ri ret, 1)) : q_SOK X T (q_sRet a) pc pn pb pk := by
  intro L h o L' h' hf
  cases ea : a L h with
  | none => simp [q_sRet, q_bS, ea] at hf
  | some q =>
    obtain ⟨m1, g1⟩ := ha L h _ _ ea
    obtain ⟨q | q, h1⟩ := q
    · simp only [q_sRet, q_bS, ea] at hf
      cases hf
      refine ⟨m1, fun hc α _ _ _ _ kv _ => g1 hc α [] (Nat.zero_le _) (fun v1 e1 α1 w1 hp1 hr1 hc1 => ?_) (fun x e1 => by cases e1)⟩
      cases e1
      intro tys ws H locs cells slots ls hR
      refine kv rfl α1 w1 hp1 hr1 tys ws H locs cells slots ls _ p1 hR ?_
      obtain ⟨⟨p, l, e, R, s, m, args, below, meth, c9, Q⟩, D, A, ro, rot, c0, s0⟩ := X
      obtain ⟨hx, hb, hml, hrt, -⟩ := hX
      show decode c9.code p1 = .ok (q_ri meth.sig.returnType, 1)
      rw [hb, hrt]
      exact hd
    · simp only [q_sRet, q_bS, ea] at hf
      cases hf
      exact ⟨m1, fun hc α _ _ _ _ _ kx => g1 hc α [] (Nat.zero_le _) (fun v1 e1 => by cases e1) (fun x e1 => kx x (by cases e1; rfl))⟩
theorem q_retv (hX : q_OK X cc own nL ret fr) (hd : decode cc pc = .ok (q_ri ret, 1)) : q_SOK X T q_sRetV pc pn pb pk := by
  intro L h o L' h' hf
  cases hf
  refine ⟨q_le.rf _, fun hc α _ _ _ kr _ _ => ?_⟩
  intro tys ws H locs cells slots ls hR
  refine kr rfl α (List.prefix_refl _) tys ws H locs cells slots ls _ pc hR ?_
  obtain ⟨⟨p, l, e, R, s, m, args, below, meth, c9, Q⟩, D, A, ro, rot, c0, s0⟩ := X
  obtain ⟨hx, hb, hml, hrt, -⟩ := hX
  show decode c9.code pc = .ok (q_ri meth.sig.returnType, 1)
  rw [hb, hrt]
  exact hd
theorem q_pop (hX : q_OK X cc own nL ret fr) (ha : q_EOK X T a pc p1 0 1) (hcat : ∀ L h v h', a L h = some (.inl v, h') → v.category = 1) (hd : decode cc p1 = .ok (.pop, 1)) : q_SOK X T (q_sPop a) pc (p1 + 1) pb pk := by
  intro L h o L' h' hf
  cases ea : a L h with
  | none => simp [q_sPop, q_bS, ea] at hf
  | some q =>
    obtain ⟨m1, g1⟩ := ha L h _ _ ea
    obtain ⟨q | q, h1⟩ := q
    · simp only [q_sPop, q_bS, ea] at hf
      cases hf
      refine ⟨m1, fun hc α kn _ _ _ _ _ => g1 hc α [] (Nat.zero_le _) (fun v1 e1 α1 w1 hp1 hr1 hc1 => ?_) (fun x e1 => by cases e1)⟩
      cases e1
      intro tys ws H locs cells slots ls hR
      have hg := kn rfl α1 hp1 tys ws H locs cells slots ls hR
      obtain ⟨⟨p, l, e, R, s, m, args, below, meth, c9, Q⟩, D, A, ro, rot, c0, s0⟩ := X
      obtain ⟨hx, hb, -⟩ := hX
      exact lv_pop hx hb hd (by rw [hr1.cat]; exact hcat _ _ _ _ ea) hg
    · simp only [q_sPop, q_bS, ea] at hf
      cases hf
      exact ⟨m1, fun hc α _ _ _ _ _ kx => g1 hc α [] (Nat.zero_le _) (fun v1 e1 => by cases e1) (fun x e1 => kx x (by cases e1; rfl))⟩
end QST
