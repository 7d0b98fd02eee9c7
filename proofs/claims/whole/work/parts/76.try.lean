/-! the law's helpers: try, a throw answers a number -/
def r_RL (P : Int → q_Sg → Prop) (N : Nat → Prop) (S : q_Sg) (c w : Nat) : Value ⊕ Nat → qH → Prop := fun r h2 => (∃ z T, r = .inl (.long (Int64.ofInt z)) ∧ rg z ∧ h2 = (q_en T, c, w) ∧ P z T) ∨ (∃ n, r = .inr n ∧ h2 = (q_en S, c + 1, w + 6) ∧ N n)
def r_Q (P : Int → q_Sg → Prop) (N : Int → Prop) (S : q_Sg) (c w : Nat) : Value → qH → Prop := fun v h2 => (∃ z T, v = iv 0 ∧ rg z ∧ h2 = (q_en (q_sJ T 4 z), c, w) ∧ P z T) ∨ (∃ k, v = iv k ∧ rg k ∧ ¬ k = 0 ∧ h2 = (q_en S, c + 1, w + 6) ∧ N k)
theorem q_outJ {S : q_Sg} {z : Int} : vp_updL (fun j => Int64.ofInt (S.2.2.1 (j + 4))) 0 (Int64.ofInt z) = fun j => Int64.ofInt ((q_sJ S 4 z).2.2.1 (j + 4)) := funext fun j => by
  unfold vp_updL q_sJ
  dsimp only
  by_cases e : j = 0
  · rw [if_pos e, if_pos (by omega)]
  · rw [if_neg e, if_neg (by omega)]
theorem ga_out {S : q_Sg} {c w : Nat} : q_arr (q_en S, c, w) (.ref 68) = some (.long, 1, .inr (.inl (fun j => Int64.ofInt (S.2.2.1 (j + 4))))) := rfl
theorem gs_out {S : q_Sg} {c w : Nat} {z : Int} : q_setA (q_en S, c, w) (.ref 68) (.long, 1, .inr (.inl (fun j => Int64.ofInt ((q_sJ S 4 z).2.2.1 (j + 4))))) = (q_en (q_sJ S 4 z), c, w) := rfl
theorem ga_outD {S : q_Sg} {c w : Nat} : q_arr (q_en S, c, w) (.ref 69) = some (.double, 1, .inr (.inr (.inr (.inl (fun j => S.2.2.2 j))))) := rfl
theorem gs_outD {S : q_Sg} {c w : Nat} {f : Nat → UInt64} : q_setA (q_en S, c, w) (.ref 69) (.double, 1, .inr (.inr (.inr (.inl f)))) = (q_en (q_sD S f), c, w) := rfl
theorem q_pL_e {S : q_Sg} {c w : Nat} {z : Int} : q_pL (q_en S, c, w) (.ref 68) (.int 0) (.long (Int64.ofInt z)) = some (q_en (q_sJ S 4 z), c, w) := by
  unfold q_pL
  rw [ga_out]
  dsimp only
  rw [if_pos ⟨rfl, by decide⟩, show Int32.toNatClampNeg 0 = 0 by decide, q_outJ, gs_out]
theorem q_gL_e {S : q_Sg} {c w : Nat} : q_gL (q_en S, c, w) (.ref 68) (.int 0) = some (.long (Int64.ofInt (S.2.2.1 4))) := by
  unfold q_gL
  rw [ga_out]
  dsimp only
  rw [if_pos ⟨rfl, by decide⟩, show Int32.toNatClampNeg 0 = 0 by decide]
theorem q_pD_e {S : q_Sg} {c w : Nat} {x : UInt64} : q_pD (q_en S, c, w) (.ref 69) (.int 0) (.double x) = some (q_en (q_sD S (vf_upd (fun j => S.2.2.2 j) 0 x)), c, w) := by
  unfold q_pD
  rw [ga_outD]
  dsimp only
  rw [if_pos ⟨rfl, by decide⟩, show Int32.toNatClampNeg 0 = 0 by decide, gs_outD]
theorem q_gD_e {S : q_Sg} {c w : Nat} {f : Nat → UInt64} {x : UInt64} : q_gD (q_en (q_sD S (vf_upd f 0 x)), c, w) (.ref 69) (.int 0) = some (.double x) := by
  unfold q_gD
  rw [ga_outD]
  dsimp only
  rw [if_pos ⟨rfl, by decide⟩, show Int32.toNatClampNeg 0 = 0 by decide]
  unfold q_sD vf_upd
  dsimp only
  rw [if_pos rfl]
theorem q_sTry_x {s : qS} {hs : List (Nat × Int32)} {L L1 : qL} {h h1 : qH} {n : Nat} {u : Value} {r : Int32} (e : s L h = some ((n + 5, u), L1, h1)) (hk : q_hnd hs n = some r) : q_sTry s hs L h = some ((4, .int r), L1, h1) := by
  unfold q_sTry
  rw [e]
  show (match q_hnd hs n with
    | some r => some ((4, Value.int r), L1, h1)
    | none => none) = _
  rw [hk]
theorem q_sTry_0 {s : qS} {hs : List (Nat × Int32)} {L L1 : qL} {h h1 : qH} {u : Value} (e : s L h = some ((0, u), L1, h1)) : q_sTry s hs L h = some ((0, u), L1, h1) := by
  unfold q_sTry
  rw [e]
theorem r_try {G : qH → Value → Value → Value → Option qH} {a e3 : qE} {L : qL} {h : qH} {hs : List (Nat × Int32)} {Q : qQ} {R : Value ⊕ Nat → qH → Prop} {va : Value} (ko : r_E a L h va) (hx : ∃ r h2, e3 L h = some (r, h2) ∧ R r h2) (k1 : ∀ v h2, R (.inl v) h2 → ∃ h3, G h2 va (.int 0) v = some h3 ∧ Q (0, .null) L h3) (k2 : ∀ n h2, R (.inr n) h2 → ∃ r, q_hnd hs n = some r ∧ Q (4, .int r) L h2) : wS (q_sTry (q_sH3 G a (q_eLit (.int 0)) e3) hs) L h Q := by
  obtain ⟨r, h2, e, hR⟩ := hx
  cases r with
  | inl v =>
    obtain ⟨h3, g, q⟩ := k1 v h2 hR
    obtain ⟨o, L2, h4, e2, e5, e6, e7⟩ : wS (q_sH3 G a (q_eLit (.int 0)) e3) L h (fun o L2 h4 => o = (0, .null) ∧ L2 = L ∧ h4 = h3) :=
      wS_h3 (ko.W (wE_lit ⟨v, h2, e, h3, g, rfl, rfl, rfl⟩))
    subst e5 e6 e7
    exact ⟨_, _, _, q_sTry_0 e2, q⟩
  | inr n =>
    obtain ⟨r, g, q⟩ := k2 n h2 hR
    have ko' : a L h = some (.inl va, h) := ko
    have e2 : q_sH3 G a (q_eLit (.int 0)) e3 L h = some ((n + 5, .null), L, h2) := by
      simp only [q_sH3, ko', q_bS, q_eLit, e]
    exact ⟨_, _, _, q_sTry_x e2 g, q⟩
theorem r_eM {t : Nat} {ci : Option Nat} {F : qF} {as : qAs} {vs : List Value} {L : qL} {h : qH} {R : Value ⊕ Nat → qH → Prop} (ka : r_A as L h vs) (ho : q_obj h vs ci = true) (hx : r_M F vs h R) (ht : ∀ v h2, R (.inl v) h2 → q_is t v = true) : ∃ r h2, q_eCall t ci F as L h = some (r, h2) ∧ R r h2 := by
  obtain ⟨r, h2, e, hR⟩ := hx
  have ka' : as L h = some (.inl vs, h) := ka
  refine ⟨r, h2, ?_, hR⟩
  unfold q_eCall
  rw [ka']
  dsimp only
  rw [if_pos ho, e]
  cases r with
  | inl v => dsimp only; rw [if_pos (ht v h2 hR)]
  | inr n => rfl
theorem r_i2lM {ci : Option Nat} {F : qF} {as : qAs} {vs : List Value} {L : qL} {S : q_Sg} {c w : Nat} {P : Int → q_Sg → Prop} {N : Nat → Prop} (ka : r_A as L (q_en S, c, w) vs) (ho : q_obj (q_en S, c, w) vs ci = true) (hx : r_M F vs (q_en S, c, w) (r_R P N S c w)) : ∃ r h2, q_eH1 (fun _ => q_i2l) (q_eCall 0 ci F as) L (q_en S, c, w) = some (r, h2) ∧ r_RL P N S c w r h2 := by
  obtain ⟨r, h2, e, hR⟩ := r_eM (t := 0) ka ho hx (by
    rintro v h2 (⟨z, T, e, _⟩ | ⟨n, e, _⟩)
    · cases e; rfl
    · cases e)
  rcases hR with ⟨z, T, rfl, hz, rfl, hP⟩ | ⟨n, rfl, rfl, hN⟩
  · obtain ⟨x, g, rfl⟩ := w1_i2l (h := (q_en T, c, w)) (Q := fun x => x = .long (Int64.ofInt z)) hz rfl
    refine ⟨_, _, ?_, Or.inl ⟨z, T, rfl, hz, rfl, hP⟩⟩
    unfold q_eH1
    rw [e]
    unfold q_bE
    dsimp only
    have g : q_i2l (iv z) = some (Value.long (Int64.ofInt z)) := g
    rw [g]
  · refine ⟨_, _, ?_, Or.inr ⟨n, rfl, rfl, hN⟩⟩
    unfold q_eH1
    rw [e]
    rfl
theorem r_boolM {ci : Option Nat} {F : qF} {as : qAs} {vs : List Value} {L : qL} {S : q_Sg} {c w : Nat} {P : Int → q_Sg → Prop} {N : Nat → Prop} (ka : r_A as L (q_en S, c, w) vs) (ho : q_obj (q_en S, c, w) vs ci = true) (hx : r_M F vs (q_en S, c, w) (r_R P N S c w)) (h01 : ∀ z T, P z T → z = 0 ∨ z = 1) : ∃ r h2, q_eIf (q_cCmp0 q_zne (q_eCall 0 ci F as)) (q_eLit (.long 1)) (q_eLit (.long 0)) L (q_en S, c, w) = some (r, h2) ∧ r_RL P N S c w r h2 := by
  obtain ⟨r, h2, e, hR⟩ := r_eM (t := 0) ka ho hx (by
    rintro v h2 (⟨z, T, e, _⟩ | ⟨n, e, _⟩)
    · cases e; rfl
    · cases e)
  rcases hR with ⟨z, T, rfl, hz, rfl, hP⟩ | ⟨n, rfl, rfl, hN⟩
  · refine ⟨.inl (.long (Int64.ofInt z)), _, ?_, Or.inl ⟨z, T, rfl, hz, rfl, hP⟩⟩
    rcases h01 z T hP with d | d
    · subst d
      simp only [q_eIf, q_cCmp0, q_bB, q_bE, e, q_zne]
      rfl
    · subst d
      simp only [q_eIf, q_cCmp0, q_bB, q_bE, e, q_zne]
      rfl
  · refine ⟨_, _, ?_, Or.inr ⟨n, rfl, rfl, hN⟩⟩
    simp only [q_eIf, q_cCmp0, q_bB, q_bE, e]
theorem r_lawS {a e3 : qE} {L : qL} {S : q_Sg} {c w : Nat} {hs : List (Nat × Int32)} {P : Int → q_Sg → Prop} {N : Nat → Prop} {N2 : Int → Prop} (ko : r_E a L (q_en S, c, w) (.ref 68)) (hx : ∃ r h2, e3 L (q_en S, c, w) = some (r, h2) ∧ r_RL P N S c w r h2) (hN : ∀ n, N n → ∃ k : Int, q_hnd hs n = some (Int32.ofInt k) ∧ rg k ∧ ¬ k = 0 ∧ N2 k) : wS (q_sSeq (q_sTry (q_sH3 q_pL a (q_eLit (.int 0)) e3) hs) (q_sRet (q_eLit (.int 0)))) L (q_en S, c, w) (r_po (some .int) (q_en S, c, w) (fun r h2 => ∃ v, r = .inl v ∧ r_Q P N2 S c w v h2)) := by
  refine r_seq (r_try ko hx ?_ ?_)
  · rintro v h2 (⟨z, T, e, hz, rfl, hP⟩ | ⟨n, e, _⟩)
    · cases e
      refine ⟨_, q_pL_e, r_k0 (r_sret (r_lit ql_0) (r_pret (q_fit_int _) r_le0 ⟨_, rfl, Or.inl ⟨z, T, rfl, hz, rfl, hP⟩⟩))⟩
    · cases e
  · rintro n h2 (⟨z, T, e, _⟩ | ⟨m, e, rfl, hm⟩)
    · cases e
    · cases e
      obtain ⟨k, k1, k2, k3, k4⟩ := hN n hm
      exact ⟨_, k1, r_ks (j := 3) (r_pret (q_fit_int _) ⟨Nat.le_succ _, Nat.le_add_right _ _⟩ ⟨_, rfl, Or.inr ⟨k, rfl, k2, k3, rfl, k4⟩⟩)⟩
