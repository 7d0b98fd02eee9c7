/-! the law, from its entry, out of the run of the abstract machine -/
theorem q_law_start {p : Program} {e : Env} {s : State} {m : MethodId} {below : List Frame} {meth : Method} {c : Code} (l : Launch) (hflags : l.flags = flags0) {b L : Nat} {xs : Nat → Int32} (hL : L ≤ 260) (C0 : lw_At p s m meth c b L xs) {L' : qL} {h' : qH} (hrun : bL_law xs L (some (.ref 0) :: List.replicate 9 none) ([], 0, 0) = some ((4, .int 1), L', h')) (hc : h'.2.1 ≤ 114) (hs : h'.2.2 ≤ 35645) : W p l e room_1 s m #[Value.ref b] below meth c s.heap [] 0 0 (lw_Z below #[Value.ref b] s) (entryFrame m ([Value.ref b] : List Value).toArray 10) := by
  obtain ⟨hx, hb, hr, hml, hown, hts, hX, hbl, hlocks, hgv⟩ := id C0
  have hA : ∀ a : Nat, a < s.heap.size → ¬ (fun q : Nat => s.heap.size ≤ q) a := fun a ha => Nat.not_le.mpr ha
  have hg : ∀ w ∈ q_gvl, w.before #[Value.ref b] s = true := fun w hw => flat_of_before _ hgv w (q_gvl_in w hw)
  have ht : ∀ w ∈ q_tbl9, w.before #[Value.ref b] s = true := fun w hw => hts w (q_tbl9_in w hw)
  obtain ⟨t1, z1, T1⟩ := q_st1 hg ht hA
  obtain ⟨t2, z2, T2⟩ := q_st2 hg ht hA
  obtain ⟨t5, z5, T5⟩ := q_st5 hg ht hA
  obtain ⟨x, y, hS, hR⟩ := q_swb hg ht hA
  obtain ⟨cs, si, u1, u2⟩ := q_scs hg ht hA
  obtain ⟨t13, hsi⟩ : ∃ t13 : Nat, va_Z "jdk/internal/util/Preconditions" "SIOOBE_FORMATTER" "Ljava/util/function/BiFunction;" .null (fun q : Nat => s.heap.size ≤ q) s s.heap ∨ va_Z "jdk/internal/util/Preconditions" "SIOOBE_FORMATTER" "Ljava/util/function/BiFunction;" (.ref t13) (fun q : Nat => s.heap.size ≤ q) s s.heap := by
    rcases si with si | ⟨t, si⟩
    · exact ⟨0, Or.inl si⟩
    · exact ⟨t, Or.inr si⟩
  have hscr : va_T .int b L (fun j => .int (xs j)) (fun q : Nat => s.heap.size ≤ q) s s.heap := by
    obtain ⟨scr, a1, a2, a3, a4, a5⟩ := hX
    exact ⟨scr, a1, a2, a3, Nat.le_of_eq a4.symm, by rw [a4], a5, hA b hbl⟩
  obtain ⟨ro, hro⟩ : ∃ ro : Nat → Nat, ro = fun k => ([b, t1, t2, 0, 0, t5, 0, 0, 0, 0, 0, 0, 0, t13, x, y] : List Nat).getD k 0 := ⟨_, rfl⟩
  have hSt : q_St (q_rx xs L) ro (fun q : Nat => s.heap.size ≤ q) s s.heap := by
    subst hro
    refine ⟨fun k z hk => ?_, fun q hq => ?_, u1, u2, q_sstr hg ht, ⟨hS, hR, cs, hsi⟩, q_snm hg ht, q_snf hg ht, q_snc hg ht, q_sex hg ht, q_sde hg ht⟩
    · match k, hk with
      | 0, hk => cases hk; exact ⟨by decide, hscr⟩
      | 1, hk => cases hk; exact ⟨by decide, T1⟩
      | 2, hk => cases hk; exact ⟨by decide, T2⟩
      | 3, hk => exact absurd hk (by simp [q_rx, q_rs])
      | 4, hk => exact absurd hk (by simp [q_rx, q_rs])
      | 5, hk => cases hk; exact ⟨by decide, T5⟩
      | k + 6, hk => exact absurd hk (by simp [q_rx, q_rs])
    · simp only [q_stt, List.mem_cons, List.not_mem_nil, or_false] at hq
      rcases hq with rfl | rfl | rfl | rfl | rfl
      · exact z1
      · exact z2
      · exact z1
      · exact z2
      · exact z5
  have hst : l.stackTraces = false := by
    unfold Launch.stackTraces
    rw [hflags]
    decide +kernel
  have hk0 : ∀ k : Nat, ∃ d : ClassId × (Nat → Nat), ∀ q, q_cl[k]? = some q → u_Kn s q.1 q.2.1 q.2.2 d.1 d.2 := by
    intro k
    cases hq : q_cl[k]? with
    | none => exact ⟨(0, fun _ => 0), fun q h => by cases h⟩
    | some q =>
      obtain ⟨d, hd⟩ := q_skn hg ht q (List.mem_of_getElem? hq)
      exact ⟨d, fun q' h => by cases h; exact hd⟩
  obtain ⟨d, hd⟩ := Classical.axiomOfChoice hk0
  have hK : va_K (fun k => (d k).1, fun k => (d k).2) q_cl [] s := ⟨fun k q hq => hd k q hq, fun k q h => by simp at h⟩
  have hOK : q_OK ((p, l, e, room_1, s, m, #[Value.ref b], below, meth, c, lw_Z below #[Value.ref b] s), (fun k => (d k).1, fun k => (d k).2), (fun q : Nat => s.heap.size ≤ q), ro, q_rx xs L, 0, 0) cL_law RL 10 (some .boolean) 11 :=
    ⟨hx, hb, hml, hr, hown, fun w hw => hts w (List.mem_filter.mp hw).1, hst, hlocks, hSt, fun q hq => hq, Nat.le_of_ble_eq_true rfl, Nat.le_of_ble_eq_true rfl⟩
  obtain ⟨m1, g1⟩ := okL_law hOK rfl _ _ _ _ _ hrun
  have hcap : q_cap ((p, l, e, room_1, s, m, #[Value.ref b], below, meth, c, lw_Z below #[Value.ref b] s), (fun k => (d k).1, fun k => (d k).2), (fun q : Nat => s.heap.size ≤ q), ro, q_rx xs L, 0, 0) h' := ⟨by show h'.2.1 ≤ 0 + 114; omega, by show h'.2.2 ≤ 0 + 35645; omega⟩
  have hG := g1 hcap [] (fun e1 => by cases e1) (fun e1 => by cases e1) (fun e1 => by cases e1) (fun e1 => by cases e1)
    (fun _ α' w hp hw => by
      rw [show w = _ from hw]
      intro tys ws H locs cells slots ls L9 pc hR9 hd9
      obtain ⟨r1, r2, r3, r4, r5, r6, r7, r8⟩ := hR9
      have r7 : cells + 0 = h'.2.1 := r7
      have r8 : slots + 0 = h'.2.2 := r8
      refine va_forget (fun q hq => r6.2.2 q hq) ?_
      refine W.widen (k := 114) (n := 35645) (by omega) (by omega) ?_
      have hd9 : decode c.code pc = .ok (q_ri meth.sig.returnType, 1) := hd9
      rw [hb, hr] at hd9
      exact lw_ret hx hb hr hlocks hd9)
    (fun z e1 => by have e1 : 4 = z + 5 := e1; omega)
  have hl := lv_entry ([.ref b]) (n := 10) (Nat.le_of_ble_eq_true rfl)
  rw [lg_entry_eq]
  refine hG [] [] s.heap [] 0 0 _ ⟨⟨hl.1.trans hml.symm, by rw [hml]; rfl, hl.2.1, fun i v hv => ?_⟩, ⟨rfl, rfl, fun k q h => by simp at h⟩, hK, fun k q h => by simp at h, ⟨fun i j p q h => by simp at h, fun k q h => by simp at h⟩, va_S.rf, rfl, rfl⟩
  match i, hv with
  | 0, hv =>
    cases hv
    refine ⟨.ref b, hl.2.2 (0, .ref b) (by simp [lv_args]), b, rfl, Or.inl ⟨by decide, ?_⟩⟩
    rw [hro]; rfl
  | i + 1, hv =>
    rw [List.getElem?_cons_succ, List.getElem?_replicate] at hv
    split at hv <;> cases hv
