/-! what a piece of a body ends in -/
def wE (e : qE) (L : qL) (h : qH) (Q : Value → qH → Prop) : Prop := ∃ v h', e L h = some (.inl v, h') ∧ Q v h'
def wB (B : qB) (L : qL) (h : qH) (Q : Bool → qH → Prop) : Prop := ∃ t h', B L h = some (.inl t, h') ∧ Q t h'
def wA (as : qAs) (L : qL) (h : qH) (Q : List Value → qH → Prop) : Prop := ∃ vs h', as L h = some (.inl vs, h') ∧ Q vs h'
def wS (s : qS) (L : qL) (h : qH) (Q : Nat × Value → qL → qH → Prop) : Prop := ∃ o L' h', s L h = some (o, L', h') ∧ Q o L' h'
def w1 (G : qH → Value → Option Value) (h : qH) (v : Value) (Q : Value → Prop) : Prop := ∃ x, G h v = some x ∧ Q x
def w2 (G : qH → Value → Value → Option Value) (h : qH) (v w : Value) (Q : Value → Prop) : Prop := ∃ x, G h v w = some x ∧ Q x
def wc0 (op : Value → Option Bool) (v : Value) (Q : Bool → Prop) : Prop := ∃ t, op v = some t ∧ Q t
def wc (op : Value → Value → Option Bool) (v w : Value) (Q : Bool → Prop) : Prop := ∃ t, op v w = some t ∧ Q t
section QWP
variable {L L1 : qL} {h h1 : qH} {e a b d : qE} {B C : qB} {s s1 s2 : qS} {Q : Value → qH → Prop} {QB : Bool → qH → Prop} {QA : List Value → qH → Prop} {QS : Nat × Value → qL → qH → Prop}
theorem wE.mono {Q' : Value → qH → Prop} (k : wE e L h Q) (hq : ∀ v h', Q v h' → Q' v h') : wE e L h Q' := by
  obtain ⟨v, h', k1, k2⟩ := k; exact ⟨v, h', k1, hq _ _ k2⟩
theorem wB.mono {Q' : Bool → qH → Prop} (k : wB B L h QB) (hq : ∀ v h', QB v h' → Q' v h') : wB B L h Q' := by
  obtain ⟨v, h', k1, k2⟩ := k; exact ⟨v, h', k1, hq _ _ k2⟩
theorem wS.mono {Q' : Nat × Value → qL → qH → Prop} (k : wS s L h QS) (hq : ∀ o L' h', QS o L' h' → Q' o L' h') : wS s L h Q' := by
  obtain ⟨o, L', h', k1, k2⟩ := k; exact ⟨o, L', h', k1, hq _ _ _ k2⟩
theorem wE_lit {v : Value} (k : Q v h) : wE (q_eLit v) L h Q := ⟨_, _, rfl, k⟩
theorem wE_loc {t i : Nat} {v : Value} (e : L[i]? = some (some v)) (hi : q_is t v = true) (k : Q v h) : wE (q_eLoc t i) L h Q := by
  refine ⟨v, h, ?_, k⟩
  unfold q_eLoc; rw [e]; dsimp only; rw [if_pos hi]
theorem wE_h1 {G : qH → Value → Option Value} (k : wE a L h (fun v h1 => w1 G h1 v (fun x => Q x h1))) : wE (q_eH1 G a) L h Q := by
  obtain ⟨v, h1, e1, x, e2, k⟩ := k
  refine ⟨x, h1, ?_, k⟩
  unfold q_eH1; rw [e1]; unfold q_bE; dsimp only; rw [e2]
theorem wE_h2 {G : qH → Value → Value → Option Value} (k : wE a L h (fun v h1 => wE b L h1 (fun w h2 => w2 G h2 v w (fun x => Q x h2)))) : wE (q_eH2 G a b) L h Q := by
  obtain ⟨v, h1, e1, w, h2, e2, x, e3, k⟩ := k
  refine ⟨x, h2, ?_, k⟩
  unfold q_eH2; rw [e1]; unfold q_bE; dsimp only; rw [e2]; dsimp only; rw [e3]
theorem wE_if (k : wB B L h (fun t h1 => (t = true → wE a L h1 Q) ∧ (t = false → wE b L h1 Q))) : wE (q_eIf B a b) L h Q := by
  obtain ⟨t, h1, e1, k1, k2⟩ := k
  cases t with
  | true =>
    obtain ⟨v, h2, e2, k⟩ := k1 rfl
    refine ⟨v, h2, ?_, k⟩
    unfold q_eIf; rw [e1]; unfold q_bB; dsimp only; rw [if_pos rfl]; exact e2
  | false =>
    obtain ⟨v, h2, e2, k⟩ := k2 rfl
    refine ⟨v, h2, ?_, k⟩
    unfold q_eIf; rw [e1]; unfold q_bB; dsimp only; rw [if_neg Bool.false_ne_true]; exact e2
theorem wA_nil (k : QA [] h) : wA q_aNil L h QA := ⟨_, _, rfl, k⟩
theorem wA_cons {as : qAs} (k : wE e L h (fun v h1 => wA as L h1 (fun vs h2 => QA (v :: vs) h2))) : wA (q_aCons e as) L h QA := by
  obtain ⟨v, h1, e1, vs, h2, e2, k⟩ := k
  refine ⟨v :: vs, h2, ?_, k⟩
  unfold q_aCons; rw [e1]; dsimp only; rw [e2]
theorem wE_call {t : Nat} {ci : Option Nat} {F : qF} {as : qAs} (k : wA as L h (fun vs h1 => q_obj h1 vs ci = true ∧ ∃ v h2, F vs h1 = some (.inl v, h2) ∧ q_is t v = true ∧ Q v h2)) : wE (q_eCall t ci F as) L h Q := by
  obtain ⟨vs, h1, e1, k1, v, h2, k2, k3, k⟩ := k
  refine ⟨v, h2, ?_, k⟩
  unfold q_eCall; rw [e1]; dsimp only; rw [if_pos k1, k2]; dsimp only; rw [if_pos k3]
theorem wS_call {ci : Option Nat} {F : qF} {as : qAs} (k : wA as L h (fun vs h1 => q_obj h1 vs ci = true ∧ ∃ v h2, F vs h1 = some (.inl v, h2) ∧ QS (0, .null) L h2)) : wS (q_sCall ci F as) L h QS := by
  obtain ⟨vs, h1, e1, k1, v, h2, k2, k⟩ := k
  refine ⟨_, L, h2, ?_, k⟩
  unfold q_sCall; rw [e1]; dsimp only; rw [if_pos k1, k2]
theorem wS_callX {ci : Option Nat} {F : qF} {as : qAs} (k : wA as L h (fun vs h1 => q_obj h1 vs ci = true ∧ ∃ x h2, F vs h1 = some (.inr x, h2) ∧ QS (x + 5, .null) L h2)) : wS (q_sCall ci F as) L h QS := by
  obtain ⟨vs, h1, e1, k1, v, h2, k2, k⟩ := k
  refine ⟨_, L, h2, ?_, k⟩
  unfold q_sCall; rw [e1]; dsimp only; rw [if_pos k1, k2]
-- conditions
theorem wB_cmp0 {op : Value → Option Bool} (k : wE a L h (fun v h1 => wc0 op v (fun t => QB t h1))) : wB (q_cCmp0 op a) L h QB := by
  obtain ⟨v, h1, e1, t, e2, k⟩ := k
  exact ⟨t, h1, q_cCmp0_e e1 e2, k⟩
theorem wB_cmp {op : Value → Value → Option Bool} (k : wE a L h (fun v h1 => wE b L h1 (fun w h2 => wc op v w (fun t => QB t h2)))) : wB (q_cCmp op a b) L h QB := by
  obtain ⟨v, h1, e1, w, h2, e2, t, e3, k⟩ := k
  exact ⟨t, h2, q_cCmp_e e1 e2 e3, k⟩
theorem wB_and (k : wB B L h (fun t h1 => (t = true → wB C L h1 QB) ∧ (t = false → QB false h1))) : wB (q_cAnd B C) L h QB := by
  obtain ⟨t, h1, e1, k1, k2⟩ := k
  cases t with
  | true =>
    obtain ⟨v, h2, e2, k⟩ := k1 rfl
    refine ⟨v, h2, ?_, k⟩
    unfold q_cAnd; rw [e1]; unfold q_bB; dsimp only; rw [if_pos rfl]; exact e2
  | false =>
    refine ⟨false, h1, ?_, k2 rfl⟩
    unfold q_cAnd; rw [e1]; unfold q_bB; dsimp only; rw [if_neg Bool.false_ne_true]
theorem wB_or (k : wB B L h (fun t h1 => (t = true → QB true h1) ∧ (t = false → wB C L h1 QB))) : wB (q_cOr B C) L h QB := by
  obtain ⟨t, h1, e1, k1, k2⟩ := k
  cases t with
  | true =>
    refine ⟨true, h1, ?_, k1 rfl⟩
    unfold q_cOr; rw [e1]; unfold q_bB; dsimp only; rw [if_pos rfl]
  | false =>
    obtain ⟨v, h2, e2, k⟩ := k2 rfl
    refine ⟨v, h2, ?_, k⟩
    unfold q_cOr; rw [e1]; unfold q_bB; dsimp only; rw [if_neg Bool.false_ne_true]; exact e2
theorem wB_not (k : wB B L h (fun t h1 => QB (!t) h1)) : wB (q_cNot B) L h QB := by
  obtain ⟨t, h1, e1, k⟩ := k
  refine ⟨!t, h1, ?_, k⟩
  unfold q_cNot; rw [e1]; rfl
theorem wB_cif {A : qB} (k : wB A L h (fun t h1 => (t = true → wB B L h1 QB) ∧ (t = false → wB C L h1 QB))) : wB (q_cIf A B C) L h QB := by
  obtain ⟨t, h1, e1, k1, k2⟩ := k
  cases t with
  | true =>
    obtain ⟨v, h2, e2, k⟩ := k1 rfl
    refine ⟨v, h2, ?_, k⟩
    unfold q_cIf; rw [e1]; unfold q_bB; dsimp only; rw [if_pos rfl]; exact e2
  | false =>
    obtain ⟨v, h2, e2, k⟩ := k2 rfl
    refine ⟨v, h2, ?_, k⟩
    unfold q_cIf; rw [e1]; unfold q_bB; dsimp only; rw [if_neg Bool.false_ne_true]; exact e2
-- statements
theorem wS_seq (k : wS s1 L h (fun o L1 h1 => (o.1 = 0 → wS s2 L1 h1 QS) ∧ (o.1 ≠ 0 → QS o L1 h1))) : wS (q_sSeq s1 s2) L h QS := by
  obtain ⟨⟨j, v⟩, L1, h1, e1, k1, k2⟩ := k
  cases j with
  | zero =>
    obtain ⟨o, L2, h2, e2, k⟩ := k1 rfl
    exact ⟨o, L2, h2, by rw [q_sSeq_e e1]; exact e2, k⟩
  | succ j =>
    refine ⟨_, L1, h1, ?_, k2 (Nat.succ_ne_zero j)⟩
    unfold q_sSeq; rw [e1]
    rfl
theorem wS_skip (k : QS (0, .null) L h) : wS q_sSkip L h QS := ⟨_, _, _, rfl, k⟩
theorem wS_brk (k : QS (1, .null) L h) : wS q_sBrk L h QS := ⟨_, _, _, rfl, k⟩
theorem wS_cnt (k : QS (2, .null) L h) : wS q_sCnt L h QS := ⟨_, _, _, rfl, k⟩
theorem wS_retv (k : QS (3, .null) L h) : wS q_sRetV L h QS := ⟨_, _, _, rfl, k⟩
theorem wS_ret (k : wE e L h (fun v h1 => QS (4, v) L h1)) : wS (q_sRet e) L h QS := by
  obtain ⟨v, h1, e1, k⟩ := k
  exact ⟨_, _, _, q_sRet_e e1, k⟩
theorem wS_pop (k : wE e L h (fun v h1 => QS (0, .null) L h1)) : wS (q_sPop e) L h QS := by
  obtain ⟨v, h1, e1, k⟩ := k
  exact ⟨_, _, _, by unfold q_sPop; rw [e1]; rfl, k⟩
theorem wS_throw {x : Nat} (k : QS (x + 5, .null) L (h.1, h.2.1 + 1, h.2.2 + 6)) : wS (q_sThrow x) L h QS := ⟨_, _, _, rfl, k⟩
theorem wS_if (k : wB B L h (fun t h1 => (t = true → wS s1 L h1 QS) ∧ (t = false → wS s2 L h1 QS))) : wS (q_sIf B s1 s2) L h QS := by
  obtain ⟨t, h1, e1, k1, k2⟩ := k
  cases t with
  | true =>
    obtain ⟨o, L2, h2, e2, k⟩ := k1 rfl
    exact ⟨o, L2, h2, by unfold q_sIf; rw [e1]; dsimp only; rw [if_pos rfl]; exact e2, k⟩
  | false =>
    obtain ⟨o, L2, h2, e2, k⟩ := k2 rfl
    exact ⟨o, L2, h2, by rw [q_sIf_f e1]; exact e2, k⟩
end QWP
