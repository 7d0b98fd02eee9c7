/-! what the invariant gives -/
theorem KNDc2 {a : Int → Int} {f g : Nat → Int} {b d : Nat} (h : ∀ i, i ≤ 6 → f (b + i) = g (d + i)) : KND a f b = KND a g d := by
  have h0 : f b = g d := h 0 (by decide)
  funext x y z
  unfold KND KSO SUP
  rw [h0, h 1 (by decide), h 2 (by decide), h 3 (by decide), h 4 (by decide), h 6 (by decide)]
theorem KLc2 {a : Int → Int} {f g : Nat → Int} {b d : Nat} {z : Int} (h : ∀ i, i ≤ 6 → f (b + i) = g (d + i)) : KL a f b z = KL a g d z := by
  funext al ac
  unfold KL; rw [KNDc2 h]
theorem KND_fr {Is As Js : List Nat} {S T : q_Sg} (h : r_fr Is As Js S T) (h1 : ∀ k, k ≤ 6 → k ∉ Is) (h2 : 0 ∉ As) : KND (T.2.1 0) T.1 0 = KND (S.2.1 0) S.1 0 := by
  rw [h.2.1 0 h2]; exact KND_f (fun i hi => h.1 (0 + i) (h1 _ (by omega)))
theorem INV_24 {S : q_Sg} {n : Int} (h : INV S n) : ∀ i, i ≤ 6 → S.1 (24 + i) = S.1 (0 + i) := fun i hi => by rw [Nat.zero_add]; exact h.2.2.2.1.2.2 i hi
theorem INV_K24 {S : q_Sg} {n : Int} (h : INV S n) : SOK S.1 24 := SOK_c (fun i hi => INV_24 h i (by omega)) h.2.2.2.1.1
theorem INV_KND {S : q_Sg} {n : Int} (h : INV S n) : KND (S.2.1 21) S.1 24 = KND (S.2.1 0) S.1 0 := by
  rw [h.2.2.1]; exact KNDc2 (INV_24 h)
theorem INV_KL {S : q_Sg} {n : Int} (h : INV S n) (z : Int) : KL (S.2.1 21) S.1 24 z = KL (S.2.1 0) S.1 0 z := by
  rw [h.2.2.1]; exact KLc2 (INV_24 h)
theorem raw_r (p : Prop) : rg (r_i p 0 1) := r_irg2 (by omega) (by omega)
theorem INV_S {S T : q_Sg} {n : Int} {z : Int} {Is As Js : List Nat} (h : r_fr Is As Js S T) (h1 : Is ⊆ [7, 8, 23, 42]) (h2 : As ⊆ [3, 4, 5, 6, 7, 8, 9, 10, 11, 12, 13, 33, 34, 35, 36, 37, 38, 39]) (h3 : Js ⊆ [4]) (hT : r_ok T) (hI : KCI T) (k : INV S n) : INV (q_sJ T 4 z) n :=
  INV_q (Int.le_refl _) (r_frm (r_frJ h) h1 h2 (fun x hx => by
    rcases List.mem_cons.mp hx with e | e
    · rw [e]; exact List.mem_cons_self
    · exact h3 e)) (r_okJ hT) hI k
theorem INV_1 {S T : q_Sg} {n : Int} {Is As Js : List Nat} (h : r_fr Is As Js S T) (h1 : Is ⊆ [7, 8, 23, 42]) (h2 : As ⊆ [3, 4, 5, 6, 7, 8, 9, 10, 11, 12, 13, 33, 34, 35, 36, 37, 38, 39]) (h3 : Js ⊆ [4]) (hT : r_ok T) (hI : KCI T) (k : INV S n) : INV T (n + 1) :=
  INV_q (by omega) (r_frm h h1 h2 h3) hT hI k
theorem r_isQ {P : Int → q_Sg → Prop} {N : Int → Prop} {S : q_Sg} {c w : Nat} : ∀ v h2, r_Q P N S c w v h2 → q_is 0 v = true := by
  rintro v h2 (⟨z, T, rfl, _⟩ | ⟨k, rfl, _⟩) <;> rfl
theorem mod_r (x : Int) : rg (x % 65536) := by omega
theorem mod_c (x : Int) : 0 ≤ x % 65536 ∧ x % 65536 < 65536 := by omega
theorem raw3_r (p q r : Prop) : rg (r_i p 1 (r_i q 2 (r_i r 3 0))) := r_irg2 (by omega) (r_irg2 (by omega) (r_irg2 (by omega) (by omega)))
theorem numQ {q a : Int} {mv p3 : Prop} (h3 : p3) (h4 : q = 120 ∨ q = 121 ∨ q = 97 ∨ q = 122) (h5 : (q = 97 ∧ a = 100) ∨ ((q = 120 ∨ q = 121) ∧ mv) ∨ (¬ q = 97 ∧ ¬ q = 120 ∧ ¬ q = 121 ∧ a = 122)) : (((q = 120 ∨ q = 121) ∨ q = 97) ∨ q = 122) ∧ (p3 ∧ (q = 97 → a = 100) ∧ (¬ q = 97 → (q = 122 → a = 122) ∧ (¬ q = 122 → mv))) := by
  refine ⟨by omega, h3, fun e => ?_, fun e => ⟨fun e2 => ?_, fun e2 => ?_⟩⟩ <;> rcases h5 with ⟨d1, d2⟩ | ⟨d1, d2⟩ | ⟨d1, d2, d3, d4⟩ <;> first | omega | exact d2
theorem numR0 {p3 p4 p5 : Prop} (h3 : p3) (h4 : p4) (h5 : p5) : r_i (¬ p3) 1 (r_i (¬ p4) 2 (r_i (¬ p5) 3 0)) = 0 := by
  rw [r_i0 (fun c => c h3), r_i0 (fun c => c h4), r_i0 (fun c => c h5)]
theorem numN {q a : Int} {mv p3 : Prop} (h4 : q = 120 ∨ q = 121 ∨ q = 97 ∨ q = 122) (h5 : ¬ ((q = 97 ∧ a = 100) ∨ ((q = 120 ∨ q = 121) ∧ mv) ∨ (¬ q = 97 ∧ ¬ q = 120 ∧ ¬ q = 121 ∧ a = 122))) : ¬ (p3 ∧ (q = 97 → a = 100) ∧ (¬ q = 97 → (q = 122 → a = 122) ∧ (¬ q = 122 → mv))) := by
  rintro ⟨_, d1, d2⟩
  apply h5
  rcases h4 with e | e | e | e
  · exact Or.inr (Or.inl ⟨Or.inl e, (d2 (by omega)).2 (by omega)⟩)
  · exact Or.inr (Or.inl ⟨Or.inr e, (d2 (by omega)).2 (by omega)⟩)
  · exact Or.inl ⟨e, d1 e⟩
  · exact Or.inr (Or.inr ⟨by omega, by omega, by omega, (d2 (by omega)).1 e⟩)
theorem numA {q a u v x y : Int} {mv : Prop} (h4 : q = 120 ∨ q = 121 ∨ q = 97 ∨ q = 122) (h5 : (q = 97 ∧ a = 100) ∨ ((q = 120 ∨ q = 121) ∧ mv) ∨ (¬ q = 97 ∧ ¬ q = 120 ∧ ¬ q = 121 ∧ a = 122)) : r_i (q = 97) x (r_i (q = 120) u (r_i (q = 121) v y)) = r_i (q = 120) u (r_i (q = 121) v (r_i (q = 97) (if a = 100 then x else 0) y)) := by
  by_cases e : q = 97
  · rw [r_i1 e, r_i0 (by omega), r_i0 (by omega), r_i1 e, if_pos]
    rcases h5 with d | ⟨d, _⟩ | d <;> omega
  · rw [r_i0 e, r_i0 e]
theorem cs_5 {xs : Nat → Int32} {Ln : Nat} : CASE xs Ln (bL_5 xs Ln) := by
  intro S n c w i o6 o7 o8 hI hn hi hL
  obtain ⟨hS, h01, e21, hIS, hIZ, hKC, l, th, hCm, hMm⟩ := id hI
  have hSK := hIS.1
  unfold bL_5
  refine r_case (r_callC (r_cons (r_loc rfl rfl) (r_cons (r_rd 1 hi hL (by decide) (by decide)) (r_cons (r_rd 2 hi hL (by decide) (by decide)) (r_cons (r_rd 3 hi hL (by decide) (by decide)) (r_cons (r_loc rfl rfl) r_nil))))) rfl (sp_L_kindAt hS hSK hKC (sc_r _ _) (sc_r _ _) (sc_r _ _)) r_isQ) (fun k b U c' w' hb hU => r_9i hb hU) ?_ ?_
  · rintro z T hz ⟨hin, hans, hT, hf, hKT⟩
    have hI2 := INV_S (z := z) hf (by decide) (by decide) (by decide) hT hKT hI
    refine r_callB (r_cons (r_loc rfl rfl) (r_cons (r_rd 1 hi hL (by decide) (by decide)) (r_cons (r_rd 2 hi hL (by decide) (by decide)) (r_cons (r_rd 3 hi hL (by decide) (by decide)) r_nil)))) rfl (sp_X10_kindAt hI2.1 (INV_K24 hI2) (sc_r _ _) (sc_r _ _) (sc_r _ _)) ?_
    rintro v h2 ⟨rfl, hr⟩
    rcases hr with ⟨h0, rfl⟩ | ⟨h0, rfl⟩
    · exact ⟨_, _, rfl, by have := KND_b (T.2.1 21) T.1 24 (sc xs (i + 1)) (sc xs (i + 2)) (sc xs (i + 3)); exact (show rg (KND (T.2.1 21) T.1 24 (sc xs (i + 1)) (sc xs (i + 2)) (sc xs (i + 3))) by omega), rfl, h0, (by rw [INV_KND hI2]; show z = _; rw [hans]; exact (congrFun (congrFun (congrFun (KND_fr hf (by decide) (by decide)) _) _) _).symm), INV_1 (r_frI r_fr0) (by decide) (by decide) (by decide) (r_okI hI2.1 (raw_r _)) hKT hI2⟩
    · exact absurd (r_i1 hin) h0
  · rintro k ⟨hnin, rfl⟩
    refine r_callB (r_cons (r_loc rfl rfl) (r_cons (r_rd 1 hi hL (by decide) (by decide)) (r_cons (r_rd 2 hi hL (by decide) (by decide)) (r_cons (r_rd 3 hi hL (by decide) (by decide)) r_nil)))) rfl (sp_X10_kindAt hS (INV_K24 hI) (sc_r _ _) (sc_r _ _) (sc_r _ _)) ?_
    rintro v h2 ⟨rfl, hr⟩
    rcases hr with ⟨h0, rfl⟩ | ⟨h0, rfl⟩
    · rw [r_i0 hnin] at h0; exact absurd h0 (by decide)
    · exact ⟨_, _, rfl, by decide, rfl, r_i0 hnin, trivial, INV_1 (r_frI r_fr0) (by decide) (by decide) (by decide) (r_okI hS (raw_r _)) hKC hI⟩
theorem cs_6 {xs : Nat → Int32} {Ln : Nat} : CASE xs Ln (bL_6 xs Ln) := by
  intro S n c w i o6 o7 o8 hI hn hi hL
  obtain ⟨hS, h01, e21, hIS, hIZ, hKC, l, th, hCm, hMm⟩ := id hI
  have hSK := hIS.1
  unfold bL_6
  refine r_case (r_callC (r_cons (r_loc rfl rfl) (r_cons (r_rd 1 hi hL (by decide) (by decide)) (r_cons (r_loc rfl rfl) r_nil))) rfl (sp_L_hanging hS (sc_r _ _)) r_isQ) (fun k b U c' w' hb hU => r_9i hb hU) ?_ ?_
  · rintro z T hz ⟨hin, hans, hTS⟩
    have hTS := hTS.symm
    subst hTS
    have hf : r_fr [] [] [] S S := r_fr0
    have hT := hS
    have hKT := hKC
    have hI2 := INV_S (z := z) hf (by decide) (by decide) (by decide) hT hKT hI
    refine r_callB (r_cons (r_loc rfl rfl) (r_cons (r_rd 1 hi hL (by decide) (by decide)) r_nil)) rfl (sp_X10_hanging hI2.1 (sc_r _ _)) ?_
    rintro v h2 ⟨rfl, hr⟩
    rcases hr with ⟨h0, rfl⟩ | ⟨h0, rfl⟩
    · exact ⟨_, _, rfl, r_cntr (by decide), rfl, h0, (by show z = cnt (fun k => HNG (S.2.1 21) (k % 12) (k / 12) (sc xs (i + 1))) 144; rw [e21]; exact hans), INV_1 (r_frI r_fr0) (by decide) (by decide) (by decide) (r_okI hI2.1 (raw_r _)) hKT hI2⟩
    · exact absurd (r_i1 hin) h0
  · rintro k ⟨hnin, rfl⟩
    refine r_callB (r_cons (r_loc rfl rfl) (r_cons (r_rd 1 hi hL (by decide) (by decide)) r_nil)) rfl (sp_X10_hanging hS (sc_r _ _)) ?_
    rintro v h2 ⟨rfl, hr⟩
    rcases hr with ⟨h0, rfl⟩ | ⟨h0, rfl⟩
    · rw [r_i0 hnin] at h0; exact absurd h0 (by decide)
    · exact ⟨_, _, rfl, by decide, rfl, r_i0 hnin, trivial, INV_1 (r_frI r_fr0) (by decide) (by decide) (by decide) (r_okI hS (raw_r _)) hKC hI⟩
theorem cs_7 {xs : Nat → Int32} {Ln : Nat} : CASE xs Ln (bL_7 xs Ln) := by
  intro S n c w i o6 o7 o8 hI hn hi hL
  obtain ⟨hS, h01, e21, hIS, hIZ, hKC, l, th, hCm, hMm⟩ := id hI
  have hSK := hIS.1
  unfold bL_7
  refine r_case (r_callC (r_cons (r_loc rfl rfl) (r_cons (r_rd 1 hi hL (by decide) (by decide)) (r_cons (r_loc rfl rfl) r_nil))) rfl (sp_L_outer hS (sc_r _ _)) r_isQ) (fun k b U c' w' hb hU => r_9i hb hU) ?_ ?_
  · rintro z T hz ⟨hin, hans, hT, hf⟩
    have hKT := KCI_f hf (by decide) (by decide) hKC
    have hI2 := INV_S (z := z) hf (by decide) (by decide) (by decide) hT hKT hI
    refine r_callB (r_cons (r_loc rfl rfl) (r_cons (r_rd 1 hi hL (by decide) (by decide)) r_nil)) rfl (sp_X10_outer hI2.1 (sc_r _ _)) ?_
    rintro v h2 ⟨g, rfl, hg, hr⟩
    rcases hr with ⟨h0, rfl⟩ | ⟨h0, rfl⟩
    · exact ⟨_, _, rfl, r_cntr (by decide), rfl, h0, (by show z = cnt (LSC (T.2.1 21) 1 (sc xs (i + 1))) 196; rw [hf.2.1 21 (by decide), e21, hans, sets_1]), INV_1 (r_frA (r_frI r_fr0)) (by decide) (by decide) (by decide) (r_okA (r_okI hI2.1 (raw_r _)) hg) hKT hI2⟩
    · exact absurd (r_i1 hin) h0
  · rintro k ⟨hnin, rfl⟩
    refine r_callB (r_cons (r_loc rfl rfl) (r_cons (r_rd 1 hi hL (by decide) (by decide)) r_nil)) rfl (sp_X10_outer hS (sc_r _ _)) ?_
    rintro v h2 ⟨g, rfl, hg, hr⟩
    rcases hr with ⟨h0, rfl⟩ | ⟨h0, rfl⟩
    · rw [r_i0 hnin] at h0; exact absurd h0 (by decide)
    · exact ⟨_, _, rfl, by decide, rfl, r_i0 hnin, trivial, INV_1 (r_frA (r_frI r_fr0)) (by decide) (by decide) (by decide) (r_okA (r_okI hS (raw_r _)) hg) hKC hI⟩
theorem cs_8 {xs : Nat → Int32} {Ln : Nat} : CASE xs Ln (bL_8 xs Ln) := by
  intro S n c w i o6 o7 o8 hI hn hi hL
  obtain ⟨hS, h01, e21, hIS, hIZ, hKC, l, th, hCm, hMm⟩ := id hI
  have hSK := hIS.1
  unfold bL_8
  refine r_case (r_callC (r_cons (r_loc rfl rfl) (r_cons (r_rd 1 hi hL (by decide) (by decide)) (r_cons (r_loc rfl rfl) r_nil))) rfl (sp_L_inner hS (sc_r _ _)) r_isQ) (fun k b U c' w' hb hU => r_9i hb hU) ?_ ?_
  · rintro z T hz ⟨hin, hans, hT, hf⟩
    have hKT := KCI_f hf (by decide) (by decide) hKC
    have hI2 := INV_S (z := z) hf (by decide) (by decide) (by decide) hT hKT hI
    refine r_callB (r_cons (r_loc rfl rfl) (r_cons (r_rd 1 hi hL (by decide) (by decide)) r_nil)) rfl (sp_X10_inner hI2.1 (sc_r _ _)) ?_
    rintro v h2 ⟨g, rfl, hg, hr⟩
    rcases hr with ⟨h0, rfl⟩ | ⟨h0, rfl⟩
    · exact ⟨_, _, rfl, by have := cnt_b (p := LSC (T.2.1 21) 0 (sc xs (i + 1))) 196; exact (show rg (cnt (LSC (T.2.1 21) 0 (sc xs (i + 1))) 196 - 1) by omega), rfl, h0, (by show z = cnt (LSC (T.2.1 21) 0 (sc xs (i + 1))) 196 - 1; rw [hf.2.1 21 (by decide), e21, hans, sets_0]), INV_1 (r_frA (r_frI r_fr0)) (by decide) (by decide) (by decide) (r_okA (r_okI hI2.1 (raw_r _)) hg) hKT hI2⟩
    · exact absurd (r_i1 hin) h0
  · rintro k ⟨hnin, rfl⟩
    refine r_callB (r_cons (r_loc rfl rfl) (r_cons (r_rd 1 hi hL (by decide) (by decide)) r_nil)) rfl (sp_X10_inner hS (sc_r _ _)) ?_
    rintro v h2 ⟨g, rfl, hg, hr⟩
    rcases hr with ⟨h0, rfl⟩ | ⟨h0, rfl⟩
    · rw [r_i0 hnin] at h0; exact absurd h0 (by decide)
    · exact ⟨_, _, rfl, by decide, rfl, r_i0 hnin, trivial, INV_1 (r_frA (r_frI r_fr0)) (by decide) (by decide) (by decide) (r_okA (r_okI hS (raw_r _)) hg) hKC hI⟩
theorem cs_9 {xs : Nat → Int32} {Ln : Nat} : CASE xs Ln (bL_9 xs Ln) := by
  intro S n c w i o6 o7 o8 hI hn hi hL
  obtain ⟨hS, h01, e21, hIS, hIZ, hKC, l, th, hCm, hMm⟩ := id hI
  have hSK := hIS.1
  unfold bL_9
  refine r_case (r_callC (r_cons (r_loc rfl rfl) (r_cons (r_rd 1 hi hL (by decide) (by decide)) (r_cons (r_loc rfl rfl) r_nil))) rfl (sp_L_outlinesByEdges hS (sc_r _ _)) r_isQ) (fun k b U c' w' hb hU => r_9i hb hU) ?_ ?_
  · rintro z T hz ⟨hin, hans, g1, rfl, hg1⟩
    have hf : r_fr [] [8] [] S (q_sA S 8 g1) := r_frA r_fr0
    have hT := r_okA (k := 8) hS hg1
    have hKT := KCI_f hf (by decide) (by decide) hKC
    have hI2 := INV_S (z := z) hf (by decide) (by decide) (by decide) hT hKT hI
    refine r_callB (r_cons (r_loc rfl rfl) (r_cons (r_rd 1 hi hL (by decide) (by decide)) r_nil)) rfl (sp_X10_outlinesByEdges hI2.1 (sc_r _ _)) ?_
    rintro v h2 ⟨g, rfl, hg, hr⟩
    rcases hr with ⟨h0, rfl⟩ | ⟨h0, rfl⟩
    · exact ⟨_, _, rfl, by have := cnt_b (p := LSC (S.2.1 21) 0 (sc xs (i + 1))) 196; have := cnt_b (p := LSC (S.2.1 21) 1 (sc xs (i + 1))) 196; exact (show rg (cnt (LSC (S.2.1 21) 1 (sc xs (i + 1))) 196 + cnt (LSC (S.2.1 21) 0 (sc xs (i + 1))) 196 - 1) by omega), rfl, h0, (by show z = cnt (LSC (S.2.1 21) 1 (sc xs (i + 1))) 196 + cnt (LSC (S.2.1 21) 0 (sc xs (i + 1))) 196 - 1; rw [e21, hans, rnd_n]), INV_1 (r_frA (r_frI r_fr0)) (by decide) (by decide) (by decide) (r_okA (r_okI hI2.1 (raw_r _)) hg) hKT hI2⟩
    · exact absurd (r_i1 hin) h0
  · rintro k ⟨hnin, rfl⟩
    refine r_callB (r_cons (r_loc rfl rfl) (r_cons (r_rd 1 hi hL (by decide) (by decide)) r_nil)) rfl (sp_X10_outlinesByEdges hS (sc_r _ _)) ?_
    rintro v h2 ⟨g, rfl, hg, hr⟩
    rcases hr with ⟨h0, rfl⟩ | ⟨h0, rfl⟩
    · rw [r_i0 hnin] at h0; exact absurd h0 (by decide)
    · exact ⟨_, _, rfl, by decide, rfl, r_i0 hnin, trivial, INV_1 (r_frA (r_frI r_fr0)) (by decide) (by decide) (by decide) (r_okA (r_okI hS (raw_r _)) hg) hKC hI⟩
theorem cs_10 {xs : Nat → Int32} {Ln : Nat} : CASE xs Ln (bL_10 xs Ln) := by
  intro S n c w i o6 o7 o8 hI hn hi hL
  obtain ⟨hS, h01, e21, hIS, hIZ, hKC, l, th, hCm, hMm⟩ := id hI
  have hSK := hIS.1
  unfold bL_10
  refine r_case (r_callC (r_cons (r_loc rfl rfl) (r_cons (r_rd 1 hi hL (by decide) (by decide)) (r_cons (r_loc rfl rfl) r_nil))) rfl (sp_L_edges hS (sc_r _ _)) r_isQ) (fun k b U c' w' hb hU => r_9i hb hU) ?_ ?_
  · rintro z T hz ⟨hin, hans, hTS⟩
    have hTS := hTS.symm
    subst hTS
    have hf : r_fr [] [] [] S S := r_fr0
    have hT := hS
    have hKT := hKC
    have hI2 := INV_S (z := z) hf (by decide) (by decide) (by decide) hT hKT hI
    refine r_callB (r_cons (r_loc rfl rfl) (r_cons (r_rd 1 hi hL (by decide) (by decide)) r_nil)) rfl (sp_X10_edges hI2.1 (sc_r _ _)) ?_
    rintro v h2 ⟨rfl, hr⟩
    rcases hr with ⟨h0, rfl⟩ | ⟨h0, rfl⟩
    · exact ⟨_, _, rfl, r_cntr (by decide), rfl, h0, (by show z = cnt (fun k => SOL (S.2.1 21) (k / 4 % 12) (k / 48) (sc xs (i + 1)) ∧ ¬ SOL (S.2.1 21) (k / 4 % 12 + r_s1 (k % 4)) (k / 48 + r_s2 (k % 4)) (sc xs (i + 1))) 576; rw [hans, edges_eq, e21]), INV_1 (r_frI r_fr0) (by decide) (by decide) (by decide) (r_okI hI2.1 (raw_r _)) hKT hI2⟩
    · exact absurd (r_i1 hin) h0
  · rintro k ⟨hnin, rfl⟩
    refine r_callB (r_cons (r_loc rfl rfl) (r_cons (r_rd 1 hi hL (by decide) (by decide)) r_nil)) rfl (sp_X10_edges hS (sc_r _ _)) ?_
    rintro v h2 ⟨rfl, hr⟩
    rcases hr with ⟨h0, rfl⟩ | ⟨h0, rfl⟩
    · rw [r_i0 hnin] at h0; exact absurd h0 (by decide)
    · exact ⟨_, _, rfl, by decide, rfl, r_i0 hnin, trivial, INV_1 (r_frI r_fr0) (by decide) (by decide) (by decide) (r_okI hS (raw_r _)) hKC hI⟩
theorem cs_31 {xs : Nat → Int32} {Ln : Nat} : CASE xs Ln (bL_31 xs Ln) := by
  intro S n c w i o6 o7 o8 hI hn hi hL
  obtain ⟨hS, h01, e21, hIS, hIZ, hKC, l, th, hCm, hMm⟩ := id hI
  have hSK := hIS.1
  unfold bL_31
  refine r_case (r_callC (r_cons (r_loc rfl rfl) (r_cons (r_rd 1 hi hL (by decide) (by decide)) (r_cons (r_rd 2 hi hL (by decide) (by decide)) (r_cons (r_rd 3 hi hL (by decide) (by decide)) (r_cons (r_loc rfl rfl) r_nil))))) rfl (sp_L_laid hS (sc_r _ _) (sc_r _ _) (sc_r _ _)) r_isQ) (fun k b U c' w' hb hU => r_9i hb hU) ?_ ?_
  · rintro z T hz ⟨hin, hans, hTS⟩
    have hTS := hTS.symm
    subst hTS
    have hf : r_fr [] [] [] S S := r_fr0
    have hT := hS
    have hKT := hKC
    have hI2 := INV_S (z := z) hf (by decide) (by decide) (by decide) hT hKT hI
    refine r_callB (r_cons (r_loc rfl rfl) (r_cons (r_rd 1 hi hL (by decide) (by decide)) (r_cons (r_rd 2 hi hL (by decide) (by decide)) (r_cons (r_rd 3 hi hL (by decide) (by decide)) r_nil)))) rfl (sp_X10_laid hI2.1 (sc_r _ _) (sc_r _ _) (sc_r _ _)) ?_
    rintro v h2 ⟨rfl, hr⟩
    rcases hr with ⟨h0, rfl⟩ | ⟨h0, rfl⟩
    · exact ⟨_, _, rfl, hS.2 _ _, rfl, h0, (by show z = S.2.1 32 _; rw [hans, hMm.1.2.2.2.2.2.2.1]), INV_1 (r_frI r_fr0) (by decide) (by decide) (by decide) (r_okI hI2.1 (raw_r _)) hKT hI2⟩
    · exact absurd (r_i1 hin) h0
  · rintro k ⟨hnin, rfl⟩
    refine r_callB (r_cons (r_loc rfl rfl) (r_cons (r_rd 1 hi hL (by decide) (by decide)) (r_cons (r_rd 2 hi hL (by decide) (by decide)) (r_cons (r_rd 3 hi hL (by decide) (by decide)) r_nil)))) rfl (sp_X10_laid hS (sc_r _ _) (sc_r _ _) (sc_r _ _)) ?_
    rintro v h2 ⟨rfl, hr⟩
    rcases hr with ⟨h0, rfl⟩ | ⟨h0, rfl⟩
    · rw [r_i0 hnin] at h0; exact absurd h0 (by decide)
    · exact ⟨_, _, rfl, by decide, rfl, r_i0 hnin, trivial, INV_1 (r_frI r_fr0) (by decide) (by decide) (by decide) (r_okI hS (raw_r _)) hKC hI⟩
theorem cs_11 {xs : Nat → Int32} {Ln : Nat} : CASE xs Ln (bL_11 xs Ln) := by
  intro S n c w i o6 o7 o8 hI hn hi hL
  obtain ⟨hS, h01, e21, hIS, hIZ, hKC, l, th, hCm, hMm⟩ := id hI
  have hSK := hIS.1
  unfold bL_11
  refine r_case (r_callC (r_cons (r_loc rfl rfl) (r_cons (r_rd 1 hi hL (by decide) (by decide)) (r_cons (r_loc rfl rfl) r_nil))) rfl (sp_L_strokes hS hSK hKC (sc_r _ _)) r_isQ) (fun k b U c' w' hb hU => r_9i hb hU) ?_ ?_
  · rintro z T hz ⟨hin, hans, hT, hf, hKT⟩
    have hI2 : INV (q_sJ T 4 z) n := INV_S hf (by decide) (by decide) (by decide) hT hKT hI
    refine r_callB (r_cons (r_loc rfl rfl) (r_cons (r_rd 1 hi hL (by decide) (by decide)) r_nil)) rfl (sp_X10_strokes hI2.1 (INV_K24 hI2) (sc_r _ _)) ?_
    rintro v h2 ⟨U, rfl, hU, hfU, h23, hr, _⟩
    have h0 := r_i1 (x := 0) (y := 1) hin
    have e := hr h0
    subst e
    refine ⟨_, _, rfl, r_sIr, rfl, h23.trans h0, ?_, INV_1 hfU (by decide) (by decide) (by decide) hU (KCI_f hfU (by decide) (by decide) hKT) hI2⟩
    show U.2.2.1 4 = _
    rw [hfU.2.2.1 4 (by decide), INV_KL hI2]
    show z = sI (KL (T.2.1 0) T.1 0 (sc xs (i + 1))) 720
    rw [KL_fr hf (by decide) (by decide)]
    exact hans
  · rintro k ⟨hnin, rfl⟩
    refine r_callB (r_cons (r_loc rfl rfl) (r_cons (r_rd 1 hi hL (by decide) (by decide)) r_nil)) rfl (sp_X10_strokes hS (INV_K24 hI) (sc_r _ _)) ?_
    rintro v h2 ⟨U, rfl, hU, hfU, h23, _, hr⟩
    have h0 := r_i0 (x := 0) (y := 1) hnin
    have e := hr (by rw [h0]; decide)
    subst e
    exact ⟨_, _, rfl, by decide, rfl, h23.trans h0, trivial, INV_1 hfU (by decide) (by decide) (by decide) hU (KCI_f hfU (by decide) (by decide) hKC) hI⟩
theorem cs_14 {xs : Nat → Int32} {Ln : Nat} : CASE xs Ln (bL_14 xs Ln) := by
  intro S n c w i o6 o7 o8 hI hn hi hL
  obtain ⟨hS, h01, e21, hIS, hIZ, hKC, l, th, hCm, hMm⟩ := id hI
  have hSK := hIS.1
  obtain ⟨hCR, hRR, hCO, hCL, hll, hC18, hCt⟩ := id hCm
  have h9 := hCR.1
  have h31 := hRR.1
  have hch : ∀ j, 0 ≤ j → j < S.1 31 → 0 ≤ S.2.1 24 j ∧ S.2.1 24 j < 65536 := fun j h0 h1 => by rw [(hRR.2 j h0 (by omega)).1]; exact (hCO j).2.2.2
  unfold bL_14
  refine r_case (r_callC (r_cons (r_loc rfl rfl) (r_cons (r_rd 1 hi hL (by decide) (by decide)) (r_cons (r_loc rfl rfl) r_nil))) rfl (sp_L_commandAt hS hCR hCO hll (sc_r _ _)) r_isQ) (fun k b U c' w' hb hU => r_9i hb hU) ?_ ?_
  · rintro z T hz ⟨hin, hans, hTS⟩
    have hTS := hTS.symm
    subst hTS
    have hI2 : INV (q_sJ S 4 z) n := INV_S (r_fr0 (S := S)) (by decide) (by decide) (by decide) hS hKC hI
    have hin2 : 0 ≤ (sc xs (i + 1)) ∧ (sc xs (i + 1)) ≤ S.1 31 - 1 := by omega
    refine r_callB (r_cons (r_loc rfl rfl) (r_cons (r_rd 1 hi hL (by decide) (by decide)) r_nil)) rfl (sp_X10_commandAt hI2.1 (sc_r _ _) (by show 0 ≤ S.1 31 ∧ S.1 31 ≤ 6936; omega) hch) ?_
    rintro v h2 ⟨rfl, hr⟩
    rcases hr with ⟨h0, rfl⟩ | ⟨h0, rfl⟩
    · exact ⟨_, _, rfl, hS.2 _ _, rfl, h0, (by show z = S.2.1 24 (sc xs (i + 1)); rw [hans, (hRR.2 _ (by omega) (by omega)).1]), INV_1 (r_frI r_fr0) (by decide) (by decide) (by decide) (r_okI hI2.1 (raw_r _)) hKC hI2⟩
    · exact absurd (r_i1 hin2) h0
  · rintro k ⟨hnin, rfl⟩
    have hnin2 : ¬ (0 ≤ (sc xs (i + 1)) ∧ (sc xs (i + 1)) ≤ S.1 31 - 1) := by omega
    refine r_callB (r_cons (r_loc rfl rfl) (r_cons (r_rd 1 hi hL (by decide) (by decide)) r_nil)) rfl (sp_X10_commandAt hS (sc_r _ _) (by omega) hch) ?_
    rintro v h2 ⟨rfl, hr⟩
    rcases hr with ⟨h0, rfl⟩ | ⟨h0, rfl⟩
    · rw [r_i0 hnin2] at h0; exact absurd h0 (by decide)
    · exact ⟨_, _, rfl, by decide, rfl, r_i0 hnin2, trivial, INV_1 (r_frI r_fr0) (by decide) (by decide) (by decide) (r_okI hS (raw_r _)) hKC hI⟩
theorem cs_15 {xs : Nat → Int32} {Ln : Nat} : CASE xs Ln (bL_15 xs Ln) := by
  intro S n c w i o6 o7 o8 hI hn hi hL
  obtain ⟨hS, h01, e21, hIS, hIZ, hKC, l, th, hCm, hMm⟩ := id hI
  have hSK := hIS.1
  obtain ⟨hCR, hRR, hCO, hCL, hll, hC18, hCt⟩ := id hCm
  have h9 := hCR.1
  have h31 := hRR.1
  unfold bL_15
  refine r_case (r_callC (r_cons (r_loc rfl rfl) (r_cons (r_rd 1 hi hL (by decide) (by decide)) (r_cons (r_i2c (r_rd 2 hi hL (by decide) (by decide)) (sc_r _ _)) (r_cons (r_loc rfl rfl) r_nil)))) rfl (sp_L_numberAt hS hCR hCO hll hC18 hCt (sc_r _ _) (mod_r _)) r_isQ) (fun k b U c' w' hb hU => r_9i hb hU) ?_ ?_
  · rintro z T hz ⟨⟨hin, hq4, hq5⟩, hans, hTS⟩
    have hTS := hTS.symm
    subst hTS
    have hI2 : INV (q_sJ S 4 z) n := INV_S (r_fr0 (S := S)) (by decide) (by decide) (by decide) hS hKC hI
    obtain ⟨r24, r25, r26, r27, r28, _⟩ := hRR.2 (sc xs (i + 1)) (by omega) (by omega)
    have hp3 : 0 ≤ (sc xs (i + 1)) ∧ (sc xs (i + 1)) ≤ S.1 31 - 1 := by omega
    have hnq := numQ (mv := MV l (sc xs (i + 1))) hp3 hq4 hq5
    rw [← r24] at hnq
    have hraw := numR0 hp3 hnq.1 hnq.2
    refine r_callB (r_cons (r_loc rfl rfl) (r_cons (r_rd 1 hi hL (by decide) (by decide)) (r_cons (r_i2c (r_rd 2 hi hL (by decide) (by decide)) (sc_r _ _)) r_nil))) rfl (sp_X10_numberAt hI2.1 hRR hCO hll (sc_r _ _) (mod_r _)) ?_
    rintro v h2 (⟨h0, rfl, rfl⟩ | ⟨h0, rfl, rfl⟩)
    · exact absurd hraw h0
    · refine ⟨_, _, rfl, r_irg2 (hS.2 _ _) (r_irg2 (hS.2 _ _) (r_irg2 (hS.2 _ _) (hS.2 _ _))), rfl, h0, ?_, INV_1 (r_frI r_fr0) (by decide) (by decide) (by decide) (r_okI hI2.1 (raw3_r _ _ _)) hKC hI2⟩
      show z = r_i (((sc xs (i + 2)) % 65536) = 120) (S.2.1 25 (sc xs (i + 1))) (r_i (((sc xs (i + 2)) % 65536) = 121) (S.2.1 26 (sc xs (i + 1))) (r_i (((sc xs (i + 2)) % 65536) = 97) (S.2.1 27 (sc xs (i + 1))) (S.2.1 28 (sc xs (i + 1)))))
      rw [hans, r25, r26, r27, r28]
      exact numA hq4 hq5
  · rintro k hN
    obtain ⟨hraw, hk⟩ : (r_i (¬ (0 ≤ (sc xs (i + 1)) ∧ (sc xs (i + 1)) ≤ S.1 31 - 1)) 1 (r_i (¬ (((((sc xs (i + 2)) % 65536) = 120 ∨ ((sc xs (i + 2)) % 65536) = 121) ∨ ((sc xs (i + 2)) % 65536) = 97) ∨ ((sc xs (i + 2)) % 65536) = 122)) 2 (r_i (¬ ((0 ≤ (sc xs (i + 1)) ∧ (sc xs (i + 1)) ≤ S.1 31 - 1) ∧ (((sc xs (i + 2)) % 65536) = 97 → S.2.1 24 (sc xs (i + 1)) = 100) ∧ (¬ ((sc xs (i + 2)) % 65536) = 97 → (((sc xs (i + 2)) % 65536) = 122 → S.2.1 24 (sc xs (i + 1)) = 122) ∧ (¬ ((sc xs (i + 2)) % 65536) = 122 → MV l (sc xs (i + 1)))))) 3 0)) = k) ∧ ¬ k = 0 := by
      rcases hN with ⟨h1, rfl⟩ | ⟨h1, h2, rfl⟩ | ⟨h1, h2, h3, rfl⟩
      · exact ⟨r_i1 (by omega), by decide⟩
      · exact ⟨by rw [r_i0 (by omega), r_i1 (by omega)], by decide⟩
      · obtain ⟨r24, _⟩ := hRR.2 (sc xs (i + 1)) (by omega) (by omega)
        exact ⟨by rw [r_i0 (by omega), r_i0 (by omega), r_i1]; rw [r24]; exact numN h2 h3, by decide⟩
    refine r_callB (r_cons (r_loc rfl rfl) (r_cons (r_rd 1 hi hL (by decide) (by decide)) (r_cons (r_i2c (r_rd 2 hi hL (by decide) (by decide)) (sc_r _ _)) r_nil))) rfl (sp_X10_numberAt hS hRR hCO hll (sc_r _ _) (mod_r _)) ?_
    rintro v h2 (⟨h0, rfl, rfl⟩ | ⟨h0, rfl, rfl⟩)
    · exact ⟨_, _, rfl, by decide, rfl, hraw, trivial, INV_1 (r_frI r_fr0) (by decide) (by decide) (by decide) (r_okI hS (raw3_r _ _ _)) hKC hI⟩
    · rw [hraw] at h0; exact absurd h0 hk
