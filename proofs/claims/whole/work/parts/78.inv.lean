/-! class and reference side by side: what holds between the calls -/
def IVS (S : q_Sg) : Prop := SOK S.1 0 ∧ (0 ≤ S.1 6 ∧ S.1 6 < 65536) ∧ ∀ i, i ≤ 6 → S.1 (24 + i) = S.1 i
def IVZ (S : q_Sg) : Prop := S.2.1 22 = S.2.1 1 ∧ S.2.1 23 = S.2.1 2 ∧ (∀ z, (0 ≤ z ∧ z < 12) → 1 ≤ S.2.1 1 z ∧ S.2.1 1 z ≤ 3) ∧ ∀ j, 0 ≤ S.2.1 2 j ∧ S.2.1 2 j < 2
def IVC (S : q_Sg) (l : List qCmd) (th : Int → Int) : Prop := CREP S l th ∧ RREP S l th ∧ COK l ∧ CLK l ∧ l.length ≤ 6936 ∧ (∀ j, 0 ≤ j → j < 12 → S.2.1 18 j = 10 * th j) ∧ ∀ j, 0 ≤ j → j < 12 → 0 ≤ th j ∧ th j ≤ 3
def RUN (S : q_Sg) : Prop := ¬ S.1 22 = 0 ∨ PRN (S.1 16) ∨ (S.1 16 = 102 ∧ PRN (S.1 17))
def IVM (S : q_Sg) (l : List qCmd) (n : Int) : Prop :=
  (S.1 32 = S.1 16 ∧ S.1 35 = S.1 18 ∧ S.1 37 = S.1 19 ∧ S.1 38 = S.1 20 ∧ S.1 40 = S.1 14 ∧ S.1 41 = S.1 15 ∧ S.2.1 32 = S.2.1 20 ∧ S.1 39 = S.1 13 ∧ S.1 34 = S.1 22 ∧ S.2.2.1 3 = S.2.2.1 1) ∧
  ((0 ≤ S.1 13 ∧ S.1 13 ≤ 300) ∧ (0 ≤ S.1 22 ∧ S.1 22 < 2) ∧ (0 ≤ S.1 16 ∧ S.1 16 < 65536) ∧ (0 ≤ S.1 17 ∧ S.1 17 < 65536) ∧ (0 ≤ S.1 33 ∧ S.1 33 < 65536)) ∧
  (S.1 16 = 102 → S.1 33 = S.1 17 ∧ (PRN (S.1 17) → S.1 18 < l.length)) ∧
  ((0 ≤ S.1 18 ∧ S.1 18 ≤ l.length) ∧ (PRN (S.1 16) → S.1 18 < l.length) ∧ 0 ≤ S.1 19 ∧ (S.1 19 = 0 ∨ S.1 19 < LEN l (S.1 18)) ∧ (0 ≤ S.1 20 ∧ S.1 20 ≤ 8) ∧ (20 ≤ S.1 14 ∧ S.1 14 ≤ 305) ∧ (0 ≤ S.1 15 ∧ S.1 15 < 2)) ∧
  (S.2.2.1 2 = suml (S.2.1 20) 1728 ∧ ∀ j, 0 ≤ S.2.1 20 j ∧ S.2.1 20 j ≤ 6000 * n) ∧
  (RUN S → S.1 36 = S.1 21 ∧ (S.1 21 = -1 ∨ 0 ≤ S.1 21) ∧ S.1 21 < l.length ∧ 0 < l.length)
theorem IVM_MI {S : q_Sg} {l : List qCmd} {n : Int} (h : IVM S l n) : MI l (mC S) := h.2.2.2.1
theorem IVM_RC {S : q_Sg} {l : List qCmd} {n : Int} (h : IVM S l n) : mR S = mC S := by
  obtain ⟨⟨f1, f2, f3, f4, f5, f6, f7, _⟩, _⟩ := h
  unfold mR mC
  rw [f1, f2, f3, f4, f5, f6, f7]
theorem RC_i {S : q_Sg} (h : mR S = mC S) : S.1 32 = S.1 16 ∧ S.1 35 = S.1 18 ∧ S.1 37 = S.1 19 ∧ S.1 38 = S.1 20 ∧ S.1 40 = S.1 14 ∧ S.1 41 = S.1 15 ∧ S.2.1 32 = S.2.1 20 :=
  ⟨congrArg (fun m : MT => m.1) h, congrArg (fun m : MT => m.2.1) h, congrArg (fun m : MT => m.2.2.1) h, congrArg (fun m : MT => m.2.2.2.1) h, congrArg (fun m : MT => m.2.2.2.2.1) h, congrArg (fun m : MT => m.2.2.2.2.2.1) h, congrArg (fun m : MT => m.2.2.2.2.2.2) h⟩
def INV (S : q_Sg) (n : Int) : Prop := r_ok S ∧ r01 (S.2.1 0) ∧ S.2.1 21 = S.2.1 0 ∧ IVS S ∧ IVZ S ∧ KCI S ∧ ∃ l th, IVC S l th ∧ IVM S l n
theorem SOK_c {f g : Nat → Int} {b d : Nat} (h : ∀ i, i ≤ 5 → f (b + i) = g (d + i)) (k : SOK g d) : SOK f b := by
  have h0 : f b = g d := h 0 (by decide)
  unfold SOK
  rw [h0, h 1 (by decide), h 2 (by decide), h 3 (by decide), h 4 (by decide), h 5 (by decide)]
  exact k
theorem IVS_f {Is As Js : List Nat} {S T : q_Sg} (h : r_fr Is As Js S T) (h1 : ∀ k, k ≤ 6 → k ∉ Is) (h2 : ∀ k, k ≤ 6 → 24 + k ∉ Is) (k : IVS S) : IVS T := by
  refine ⟨SOK_c (fun i hi => h.1 _ (h1 _ (by omega))) k.1, ?_, fun i hi => ?_⟩
  · rw [h.1 6 (h1 6 (by decide))]; exact k.2.1
  · rw [h.1 _ (h2 i hi), h.1 _ (h1 i hi)]; exact k.2.2 i hi
theorem IVZ_f {Is As Js : List Nat} {S T : q_Sg} (h : r_fr Is As Js S T) (h1 : ∀ k, k ∈ [1, 2, 22, 23] → k ∉ As) (k : IVZ S) : IVZ T := by
  unfold IVZ
  rw [h.2.1 1 (h1 1 (by decide)), h.2.1 2 (h1 2 (by decide)), h.2.1 22 (h1 22 (by decide)), h.2.1 23 (h1 23 (by decide))]
  exact k
theorem IVC_f {Is As Js : List Nat} {S T : q_Sg} {l : List qCmd} {th : Int → Int} (h : r_fr Is As Js S T) (h1 : ∀ k, k ∈ [9, 10, 31] → k ∉ Is) (h2 : ∀ k, k ∈ [14, 15, 16, 17, 18, 24, 25, 26, 27, 28, 29, 30, 31] → k ∉ As) (h3 : 0 ∉ Js) (k : IVC S l th) : IVC T l th := by
  obtain ⟨k1, k2, k3, k4, k5, k6, k7⟩ := k
  refine ⟨CREP_f h (h1 9 (by decide)) (h1 10 (by decide)) (fun k hk => h2 k (by simp at hk ⊢; omega)) h3 k1, RREP_f h (h1 31 (by decide)) (fun k hk => h2 k (by simp at hk ⊢; omega)) k2, k3, k4, k5, ?_, k7⟩
  rw [h.2.1 18 (h2 18 (by decide))]; exact k6
theorem IVM_f {Is As Js : List Nat} {S T : q_Sg} {l : List qCmd} {n : Int} (h : r_fr Is As Js S T) (h1 : ∀ k, k ∈ [13, 14, 15, 16, 17, 18, 19, 20, 21, 22, 32, 33, 34, 35, 36, 37, 38, 39, 40, 41] → k ∉ Is) (h2 : ∀ k, k ∈ [20, 32] → k ∉ As) (h3 : ∀ k, k ∈ [1, 2, 3] → k ∉ Js) (k : IVM S l n) : IVM T l n := by
  unfold IVM RUN
  rw [h.1 13 (h1 13 (by decide)), h.1 14 (h1 14 (by decide)), h.1 15 (h1 15 (by decide)), h.1 16 (h1 16 (by decide)), h.1 17 (h1 17 (by decide)), h.1 18 (h1 18 (by decide)), h.1 19 (h1 19 (by decide)), h.1 20 (h1 20 (by decide)), h.1 21 (h1 21 (by decide)), h.1 22 (h1 22 (by decide)),
    h.1 32 (h1 32 (by decide)), h.1 33 (h1 33 (by decide)), h.1 34 (h1 34 (by decide)), h.1 35 (h1 35 (by decide)), h.1 36 (h1 36 (by decide)), h.1 37 (h1 37 (by decide)), h.1 38 (h1 38 (by decide)), h.1 39 (h1 39 (by decide)), h.1 40 (h1 40 (by decide)), h.1 41 (h1 41 (by decide)),
    h.2.1 20 (h2 20 (by decide)), h.2.1 32 (h2 32 (by decide)), h.2.2.1 1 (h3 1 (by decide)), h.2.2.1 2 (h3 2 (by decide)), h.2.2.1 3 (h3 3 (by decide))]
  exact k
theorem IVM_m {S : q_Sg} {l : List qCmd} {n m : Int} (h : n ≤ m) (k : IVM S l n) : IVM S l m := by
  obtain ⟨k1, k2, k3, k4, k5, k6⟩ := k
  exact ⟨k1, k2, k3, k4, ⟨k5.1, fun j => ⟨(k5.2 j).1, by have := (k5.2 j).2; omega⟩⟩, k6⟩
theorem INV_m {S : q_Sg} {n m : Int} (h : n ≤ m) (k : INV S n) : INV S m := by
  obtain ⟨k1, k2, k3, k4, k5, k6, l, th, k7, k8⟩ := k
  exact ⟨k1, k2, k3, k4, k5, k6, l, th, k7, IVM_m h k8⟩
/-- calls that only ask -/
theorem INV_q {S T : q_Sg} {n m : Int} (hn : n ≤ m) (h : r_fr [7, 8, 23, 42] [3, 4, 5, 6, 7, 8, 9, 10, 11, 12, 13, 33, 34, 35, 36, 37, 38, 39] [4] S T) (hT : r_ok T) (hI : KCI T) (k : INV S n) : INV T m := by
  obtain ⟨k1, k2, k3, k4, k5, k6, l, th, k7, k8⟩ := k
  refine ⟨hT, ?_, ?_, IVS_f h (fun k hk => by simp; omega) (fun k hk => by simp; omega) k4, IVZ_f h (by decide) k5, hI, l, th, IVC_f h (by decide) (by decide) (by decide) k7, IVM_f h (by decide) (by decide) (by decide) (IVM_m hn k8)⟩
  · rw [h.2.1 0 (by decide)]; exact k2
  · rw [h.2.1 0 (by decide), h.2.1 21 (by decide)]; exact k3
theorem INV_D {S : q_Sg} {v : Nat → UInt64} {n : Int} (k : INV S n) : INV (q_sD S v) n := k
theorem INV_D2 {S : q_Sg} {v : Nat → UInt64} {n : Int} (k : INV (q_sD S v) n) : INV S n := k
/-! the shapes of the law's cases -/
abbrev LL (i : Int) (o6 o7 o8 : Option Value) : qL := [some (.ref 0), some (.ref 16), some (.ref 47), some (.ref 68), some (.ref 69), some (iv i), o6, o7, o8]
def r_E9 (i n : Int) (c w : Nat) : qQ := fun o L' h' => o.1 = 1 ∧ ∃ p6 p7 p8 T c' w', L' = LL i p6 p7 p8 ∧ h' = (q_en T, c', w') ∧ INV T (n + 1) ∧ (c ≤ c' ∧ c' ≤ c + 1) ∧ (w ≤ w' ∧ w' ≤ w + 6)
def r_B9 (k : Int) (Φ : Int → q_Sg → Prop) (n : Int) (c w : Nat) : Value → qH → Prop := fun v h2 => ∃ b U, v = iv b ∧ rg b ∧ h2 = (q_en U, c, w) ∧ U.1 23 = k ∧ Φ b U ∧ INV U (n + 1)
def CASE (xs : Nat → Int32) (Ln : Nat) (s : qS) : Prop := ∀ (S : q_Sg) (n : Int) (c w : Nat) (i : Int) (o6 o7 o8 : Option Value), INV S n → (0 ≤ n ∧ n ≤ 600) → (0 ≤ i ∧ i + 8 ≤ Ln) → Ln ≤ 4096 → wS s (LL i o6 o7 o8) (q_en S, c, w) (r_E9 i n c w)
def sTHR : qS := q_sIf (q_cCmp q_cne (q_eCall 0 (some 12) f_X10_thrown (q_aCons (q_eLoc 4 2) q_aNil)) (q_eLoc 0 6)) (q_sRet (q_eLit (.int 0))) q_sSkip
def sCMP (e9 : qE) : qS := q_sIf (q_cAnd (q_cCmp0 q_zeq (q_eLoc 0 6)) (q_cCmp0 q_zne (q_eH2 (fun _ => q_lcmp) (q_eH2 q_gL (q_eLoc 4 3) (q_eLit (.int 0))) e9))) (q_sRet (q_eLit (.int 0))) q_sSkip
theorem q_lcmp_e (x : Int64) : q_lcmp (.long x) (.long x) = some (iv 0) := by
  show some (Value.int (lg_cmp x x)) = _
  unfold lg_cmp
  rw [if_neg (by simp), if_pos rfl]
  rfl
theorem r_thr {i k b : Int} {o8 : Option Value} {v : Value} {U : q_Sg} {c w : Nat} {Q : qQ} {o7 : Option Value} (hk : rg k) (h23 : U.1 23 = k) (q : Q (0, .null) (LL i (some (iv k)) o7 o8) (q_en U, c, w)) : wS sTHR (LL i (some (iv k)) o7 o8) (q_en U, c, w) Q := by
  unfold sTHR
  refine r_sif (r_ne (r_call (r_cons (r_loc rfl rfl) r_nil) rfl sp_X10_thrown rfl) (r_loc rfl rfl) (by rw [h23]; exact hk) hk) (fun hp => absurd h23 hp) (fun _ => wS_skip q)
theorem r_cmp9 {i k : Int} {o7 o8 : Option Value} {U : q_Sg} {c w : Nat} {Q : qQ} {e9 : qE} (hk : rg k) (h9 : k = 0 → r_E e9 (LL i (some (iv k)) o7 o8) (q_en U, c, w) (.long (Int64.ofInt (U.2.2.1 4)))) (q : Q (0, .null) (LL i (some (iv k)) o7 o8) (q_en U, c, w)) : wS (sCMP e9) (LL i (some (iv k)) o7 o8) (q_en U, c, w) Q := by
  unfold sCMP
  refine r_sif (p := k = 0 ∧ ¬ (0 : Int) = 0) (r_and (r_z_eq (r_loc rfl rfl) hk) (fun h0 => r_z_ne (r_h2 (r_h2 (r_loc rfl rfl) rfl q_gL_e) (h9 h0) (q_lcmp_e _)) (by omega))) (fun hp => absurd rfl hp.2) (fun _ => wS_skip q)
/-- the call of the reference and what is compared -/
theorem r_tail {i k n : Int} {c w c0 w0 : Nat} {h1 : qH} {eB e9 : qE} {Φ : Int → q_Sg → Prop} {o7 o8 : Option Value} (hk : rg k) (hc : c0 ≤ c ∧ c ≤ c0 + 1) (hw : w0 ≤ w ∧ w ≤ w0 + 6) (hB : r_C eB (LL i (some (iv k)) o7 o8) h1 (r_B9 k Φ n c w)) (h9 : ∀ b U, k = 0 → rg b → Φ b U → r_E e9 (LL i (some (iv k)) (some (iv b)) o8) (q_en U, c, w) (.long (Int64.ofInt (U.2.2.1 4)))) : wS (q_sSeq (q_sLoc 0 7 eB) (q_sSeq sTHR (sCMP e9))) (LL i (some (iv k)) o7 o8) h1 (r_sk q_sBrk (r_E9 i n c0 w0)) := by
  refine r_seq (r_slocC hB ?_)
  rintro v h2 ⟨b, U, rfl, hb, rfl, h23, hΦ, hI⟩
  refine ⟨rfl, r_k0 (r_seq (r_thr (i := i) (k := k) (b := b) (v := .null) (o7 := some (iv b)) (o8 := o8) hk h23 (r_k0 (r_cmp9 hk (fun h0 => h9 b U h0 hb hΦ) (r_k0 (wS_brk ⟨rfl, _, _, _, U, c, w, rfl, rfl, hI, hc, hw⟩))))))⟩
theorem r_caseP {S : q_Sg} {n i : Int} {c w : Nat} {o6 o7 o8 : Option Value} {P : Int → q_Sg → Prop} {N : Int → Prop} {eK eB e9 : qE} {Ψ : Int → Prop} (hK : r_C eK (LL i o6 o7 o8) (q_en S, c, w) (r_Q P N S c w)) (h9 : ∀ (k b : Int) (U : q_Sg) (c' w' : Nat), rg b → Ψ b → U.2.2.1 4 = b → r_E e9 (LL i (some (iv k)) (some (iv b)) o8) (q_en U, c', w') (.long (Int64.ofInt (U.2.2.1 4)))) (h1 : ∀ z T, rg z → P z T → r_C eB (LL i (some (iv 0)) o7 o8) (q_en (q_sJ T 4 z), c, w) (r_B9 0 (fun b U => Ψ b ∧ U.2.2.1 4 = b) n c w)) (h2 : ∀ k, N k → r_C eB (LL i (some (iv k)) o7 o8) (q_en S, c + 1, w + 6) (r_B9 k (fun _ _ => True) n (c + 1) (w + 6))) : wS (q_sSeq (q_sSeq (q_sLoc 0 6 eK) (q_sSeq (q_sLoc 0 7 eB) (q_sSeq sTHR (sCMP e9)))) q_sBrk) (LL i o6 o7 o8) (q_en S, c, w) (r_E9 i n c w) := by
  refine r_seq (r_seq (r_slocC hK ?_))
  rintro v h3 (⟨z, T, rfl, hz, rfl, hP⟩ | ⟨k, rfl, hk, hk0, rfl, hN⟩)
  · exact ⟨rfl, r_k0 (r_tail (i := i) (k := 0) (o7 := o7) (o8 := o8) (by omega) ⟨Nat.le_refl _, Nat.le_succ _⟩ ⟨Nat.le_refl _, Nat.le_add_right _ _⟩ (h1 z T hz hP) (fun b U _ hb hU => h9 0 b U c w hb hU.1 hU.2))⟩
  · exact ⟨rfl, r_k0 (r_tail (i := i) (k := k) (o7 := o7) (o8 := o8) hk ⟨Nat.le_succ _, Nat.le_refl _⟩ ⟨Nat.le_add_right _ _, Nat.le_refl _⟩ (h2 k hN) (fun b U h0 _ _ => absurd h0 hk0))⟩
theorem r_case {S : q_Sg} {n i : Int} {c w : Nat} {o6 o7 o8 : Option Value} {P : Int → q_Sg → Prop} {N : Int → Prop} {eK eB e9 : qE} (hK : r_C eK (LL i o6 o7 o8) (q_en S, c, w) (r_Q P N S c w)) (h9 : ∀ (k b : Int) (U : q_Sg) (c' w' : Nat), rg b → U.2.2.1 4 = b → r_E e9 (LL i (some (iv k)) (some (iv b)) o8) (q_en U, c', w') (.long (Int64.ofInt (U.2.2.1 4)))) (h1 : ∀ z T, rg z → P z T → r_C eB (LL i (some (iv 0)) o7 o8) (q_en (q_sJ T 4 z), c, w) (r_B9 0 (fun b U => U.2.2.1 4 = b) n c w)) (h2 : ∀ k, N k → r_C eB (LL i (some (iv k)) o7 o8) (q_en S, c + 1, w + 6) (r_B9 k (fun _ _ => True) n (c + 1) (w + 6))) : wS (q_sSeq (q_sSeq (q_sLoc 0 6 eK) (q_sSeq (q_sLoc 0 7 eB) (q_sSeq sTHR (sCMP e9)))) q_sBrk) (LL i o6 o7 o8) (q_en S, c, w) (r_E9 i n c w) :=
  r_caseP (Ψ := fun _ => True) hK (fun k b U c' w' hb _ hU => h9 k b U c' w' hb hU) (fun z T hz hP => by
    obtain ⟨v, h2, e, b, U, e1, e2, e3, e4, e5, e6⟩ := h1 z T hz hP
    exact ⟨v, h2, e, b, U, e1, e2, e3, e4, ⟨trivial, e5⟩, e6⟩) h2
theorem r_9i {i k b : Int} {o8 : Option Value} {U : q_Sg} {c w : Nat} (hb : rg b) (hU : U.2.2.1 4 = b) : r_E (q_eH1 (fun _ => q_i2l) (q_eLoc 0 7)) (LL i (some (iv k)) (some (iv b)) o8) (q_en U, c, w) (.long (Int64.ofInt (U.2.2.1 4))) := by
  rw [hU]; exact r_i2l (r_loc rfl rfl) hb
theorem r_callB {ci : Option Nat} {F : qF} {as : qAs} {vs : List Value} {L : qL} {h : qH} {R : Value → qH → Prop} {k n : Int} {Φ : Int → q_Sg → Prop} {c w : Nat} (ka : r_A as L h vs) (ho : q_obj h vs ci = true) (hx : r_X F vs h R) (hR : ∀ v h2, R v h2 → r_B9 k Φ n c w v h2) : r_C (q_eCall 0 ci F as) L h (r_B9 k Φ n c w) := by
  obtain ⟨v, h2, e, r⟩ := hx
  exact r_callC ka ho ⟨v, h2, e, hR v h2 r⟩ (by rintro _ _ ⟨b, U, rfl, _⟩; rfl)
theorem r_XG {F : qF} {vs : List Value} {h h2 : qH} {v : Value} (k : r_G F vs h v h2) : r_X F vs h (fun u h3 => u = v ∧ h3 = h2) := ⟨v, h2, k, rfl, rfl⟩
theorem r_CE {e : qE} {L : qL} {h : qH} {v : Value} (k : r_E e L h v) : r_K e L h v h := k
theorem r_cmpI {eA eB : qE} {L : qL} {h h1 h2 : qH} {a : Int} {Q : qQ} (ha : rg a) (hA : r_K eA L h (iv a) h1) (hB : r_K eB L h1 (iv a) h2) (q : Q (1, .null) L h2) : wS (q_sIf (q_cCmp q_cne eA eB) (q_sRet (q_eLit (.int 0))) q_sBrk) L h Q :=
  wS_if (wB_cmp ⟨_, _, hA, _, _, hB, wc_ne ha ha (fun c => absurd rfl c) (fun _ => ⟨fun c => (by cases c), fun _ => wS_brk q⟩)⟩)
theorem r_cmpL {eA eB : qE} {L : qL} {h h1 h2 : qH} {x : Int64} {Q : qQ} (hA : r_K eA L h (.long x) h1) (hB : r_K eB L h1 (.long x) h2) (q : Q (1, .null) L h2) : wS (q_sIf (q_cCmp0 q_zne (q_eH2 (fun _ => q_lcmp) eA eB)) (q_sRet (q_eLit (.int 0))) q_sBrk) L h Q :=
  wS_if (wB_cmp0 (wE_h2 ⟨_, _, hA, _, _, hB, _, q_lcmp_e _, wc0_ne q_rg0 (fun c => absurd rfl c) (fun _ => ⟨fun c => (by cases c), fun _ => wS_brk q⟩)⟩))
/-! the script -/
def sc (xs : Nat → Int32) (j : Int) : Int := (xs j.toNat).toInt
theorem sc_r (xs : Nat → Int32) (j : Int) : rg (sc xs j) := by
  have h1 := (xs j.toNat).toInt_lt
  have h2 := (xs j.toNat).le_toInt
  unfold sc; omega
theorem r_rd0 {xs : Nat → Int32} {Ln : Nat} {L : qL} {h : qH} {a b : qE} {i : Int} (ka : r_E a L h (.ref 0)) (kb : r_E b L h (iv i)) (hi : 0 ≤ i ∧ i < Ln) (hL : Ln ≤ 4096) : r_E (q_eH2 (q_gR (q_rx xs Ln) .int) a b) L h (iv (sc xs i)) := by
  refine r_h2 ka kb ?_
  unfold q_gR iv
  dsimp only
  rw [show q_rx xs Ln 0 = some (.int, Ln, xs) from rfl]
  dsimp only
  rw [if_pos ⟨rfl, q_inI hi.1 hi.2 (by omega)⟩, q_toN hi.1 (by omega)]
  unfold sc
  rw [Int32.ofInt_toInt]
theorem r_rd {xs : Nat → Int32} {Ln : Nat} {h : qH} {i : Int} {o6 o7 o8 : Option Value} {n : Int32} (j : Int) (hi : 0 ≤ i ∧ i + 8 ≤ Ln) (hL : Ln ≤ 4096) (hn : n = Int32.ofInt j) (hj : 0 ≤ j ∧ j < 8) : r_E (q_eH2 (q_gR (q_rx xs Ln) .int) (q_eLoc 4 0) (q_eH2 (fun _ => q_iadd) (q_eLoc 0 5) (q_eLit (.int n)))) (LL i o6 o7 o8) h (iv (sc xs (i + j))) :=
  r_rd0 (r_loc rfl rfl) (r_add (r_loc rfl rfl) (r_lit hn)) (by omega) hL
theorem r_rdb {e : qE} {L : qL} {h : qH} {y : Int} (k : r_E e L h (iv y)) (hy : rg y) : r_E (q_eIf (q_cCmp0 q_zne e) (q_eLit (.int 1)) (q_eLit (.int 0))) L h (r_b (¬ y = 0)) := r_if10 (r_z_ne k hy)
