/-! rules of the law's own expressions -/
section RZ
variable {L L2 : qL} {h h2 h3 : qH} {e a b : qE} {B C : qB} {v w : Value} {p q : Prop} {y z : Int}
def SHR (y z : Int) : Int := (Int32.ofInt y >>> (Int32.ofInt z &&& 31)).toInt
theorem SHR_r (y z : Int) : rg (SHR y z) := by
  have h1 := (Int32.ofInt y >>> (Int32.ofInt z &&& 31)).toInt_lt
  have h2 := (Int32.ofInt y >>> (Int32.ofInt z &&& 31)).le_toInt
  unfold SHR; omega
theorem r_shr (ka : r_E a L h (iv y)) (kb : r_E b L h (iv z)) : r_E (q_eH2 (fun _ => q_ishr) a b) L h (iv (SHR y z)) := r_h2 ka kb (by
  show some (Value.int (Int32.ofInt y >>> (Int32.ofInt z &&& 31))) = some (Value.int (Int32.ofInt (SHR y z)))
  unfold SHR; rw [Int32.ofInt_toInt])
theorem r_iand2147483647 (ka : r_E e L h (iv y)) (h1 : rg y) : r_E (q_eH2 (fun _ => q_iand) e (q_eLit (.int 2147483647))) L h (iv (y % 2147483648)) := r_iandk 31 (by decide) (by decide +kernel) ka h1
def sc (xs : Nat → Int32) (j : Int) : Int := (xs j.toNat).toInt
theorem sc_r (xs : Nat → Int32) (j : Int) : rg (sc xs j) := by
  have h1 := (xs j.toNat).toInt_lt
  have h2 := (xs j.toNat).le_toInt
  unfold sc; omega
theorem r_ro0 {xs : Nat → Int32} {Ln : Nat} (ka : r_E a L h (.ref 0)) (kb : r_E b L h (iv y)) (h0 : 0 ≤ y) (h1 : y < Ln ∧ Ln ≤ 260) : r_E (q_eH2 (q_gR (q_rx xs Ln) .int) a b) L h (iv (sc xs y)) := by
  refine r_h2 ka kb ?_
  unfold q_gR iv
  dsimp only
  rw [show q_rx xs Ln 0 = some (.int, Ln, xs) from rfl]
  dsimp only
  rw [if_pos ⟨rfl, q_inI h0 h1.1 (by omega)⟩, q_toN h0 (by omega)]
  unfold sc
  rw [Int32.ofInt_toInt]
theorem r_lenR0 {xs : Nat → Int32} {Ln : Nat} (ka : r_E a L h (.ref 0)) : r_E (q_eH1 (q_gLenR (q_rx xs Ln)) a) L h (iv (Ln : Int)) := by
  refine r_h1 ka ?_
  unfold q_gLenR
  dsimp only
  rw [show q_rx xs Ln 0 = some (.int, Ln, xs) from rfl]
  rfl
theorem q_lcmp_e (x : Int64) : q_lcmp (.long x) (.long x) = some (iv 0) := by
  show some (Value.int (lg_cmp x x)) = some (Value.int (Int32.ofInt 0))
  rw [(lg_cmp_eq x x).mpr rfl]; rfl
theorem r_leq (ka : r_E a L h (.long (Int64.ofInt y))) (kb : r_E b L h (.long (Int64.ofInt z))) (e : y = z) : r_B (q_cCmp0 q_zeq (q_eH2 (fun _ => q_lcmp) a b)) L h (y = z) := by
  subst e
  exact r_Bc (r_z_eq (r_h2 ka kb (q_lcmp_e _)) (by omega)) ⟨fun _ => rfl, fun _ => rfl⟩
theorem r_ifl (hB : r_B B L h p) (ha : p → r_E a L h (.long (Int64.ofInt y))) (hb : ¬ p → r_E b L h (.long (Int64.ofInt z))) : r_E (q_eIf B a b) L h (.long (Int64.ofInt (r_i p y z))) := by
  by_cases hp : p
  · rw [r_i1 hp]; exact r_ifv hB ha (fun c => absurd hp c)
  · rw [r_i0 hp]; exact r_ifv hB (fun c => absurd c hp) hb
/-! conditions with an effect -/
theorem r_Dc2 {op : Value → Value → Option Bool} (ka : r_K a L h v h2) (kb : r_K b L h2 w h3) (k : wc op v w (fun t => t = true ↔ p)) : r_D (q_cCmp op a b) L h p h3 := by
  obtain ⟨t, k1, k2⟩ := k
  refine ⟨t, ?_, k2⟩
  unfold r_K at *
  unfold q_cCmp; rw [ka]; unfold q_bE; dsimp only; rw [kb]; dsimp only; rw [k1]
theorem r_Deq (ka : r_K a L h (iv y) h2) (kb : r_K b L h2 (iv z) h3) (h1 : rg y) (h4 : rg z) : r_D (q_cCmp q_ceq a b) L h (y = z) h3 := r_Dc2 ka kb (wc_eq h1 h4 (fun c => r_tt c) (fun c => r_ff c))
theorem r_Dze (ka : r_K a L h (iv y) h2) (h1 : rg y) : r_D (q_cCmp0 q_zeq a) L h (y = 0) h2 := by
  obtain ⟨t, k1, k2⟩ := wc0_eq (QB := fun t => t = true ↔ y = 0) h1 (fun c => r_tt c) (fun c => r_ff c)
  exact ⟨t, q_cCmp0_e ka k1, k2⟩
theorem r_Dand (k1 : r_D B L h p h2) (hp : p) (k2 : r_D C L h2 q h3) : r_D (q_cAnd B C) L h q h3 := by
  obtain ⟨t, e1, ht⟩ := k1
  obtain ⟨t2, e2, ht2⟩ := k2
  refine ⟨t2, ?_, ht2⟩
  unfold q_cAnd; rw [e1]; unfold q_bB; dsimp only
  rw [if_pos (ht.mpr hp)]; exact e2
theorem r_Ksub (ka : r_K a L h (iv y) h2) (kb : r_K b L h2 (iv z) h3) : r_K (q_eH2 (fun _ => q_isub) a b) L h (iv (y - z)) h3 := by
  unfold r_K at *
  unfold q_eH2; rw [ka]; unfold q_bE; dsimp only; rw [kb]; dsimp only
  show some (Sum.inl (Value.int (Int32.ofInt y - Int32.ofInt z)), h3) = some (Sum.inl (Value.int (Int32.ofInt (y - z))), h3)
  rw [Int32.ofInt_sub]
theorem r_K1 (k : r_D B L h p h2) (hp : p) : r_K (q_eIf B (q_eLit (.int 1)) (q_eLit (.int 0))) L h (iv 1) h2 := by
  obtain ⟨t, e1, ht⟩ := k
  unfold r_K q_eIf; rw [e1]; unfold q_bB; dsimp only
  rw [if_pos (ht.mpr hp)]; rfl
theorem r_E1 (k : r_B B L h p) (hp : p) : r_E (q_eIf B (q_eLit (.int 1)) (q_eLit (.int 0))) L h (iv 1) := r_K1 k hp
end RZ
/-! the faces where they can't throw -/
theorem r_MF {F : qF} {vs : List Value} {P : Int → q_Sg → Prop} {N : Nat → Prop} {S : q_Sg} {c w : Nat} {y : Int} (k : r_M F vs (q_en S, c, w) (r_R P N S c w)) (hN : ∀ n, ¬ N n) (hP : ∀ z T, P z T → z = y ∧ T = S) : r_F F vs (q_en S, c, w) (iv y) := by
  obtain ⟨r, h2, e, k⟩ := k
  rcases k with ⟨z, T, rfl, _, rfl, p⟩ | ⟨n, _, _, p⟩
  · obtain ⟨rfl, rfl⟩ := hP z T p; exact e
  · exact absurd p (hN n)
theorem r_MG {F : qF} {vs : List Value} {P : Int → q_Sg → Prop} {N : Nat → Prop} {S T0 : q_Sg} {c w : Nat} {y : Int} (k : r_M F vs (q_en S, c, w) (r_R P N S c w)) (hN : ∀ n, ¬ N n) (hP : ∀ z T, P z T → z = y ∧ T = T0) : r_G F vs (q_en S, c, w) (iv y) (q_en T0, c, w) := by
  obtain ⟨r, h2, e, k⟩ := k
  rcases k with ⟨z, T, rfl, _, rfl, p⟩ | ⟨n, _, _, p⟩
  · obtain ⟨rfl, rfl⟩ := hP z T p; exact e
  · exact absurd p (hN n)
theorem r_MX {F : qF} {vs : List Value} {P : Int → q_Sg → Prop} {N : Nat → Prop} {S : q_Sg} {c w : Nat} (k : r_M F vs (q_en S, c, w) (r_R P N S c w)) (hN : ∀ n, ¬ N n) : ∃ z T, r_G F vs (q_en S, c, w) (iv z) (q_en T, c, w) ∧ rg z ∧ P z T := by
  obtain ⟨r, h2, e, k⟩ := k
  rcases k with ⟨z, T, rfl, hz, rfl, p⟩ | ⟨n, _, _, p⟩
  · exact ⟨z, T, e, hz, p⟩
  · exact absurd p (hN n)
theorem r_MXx {F : qF} {vs : List Value} {S : q_Sg} {c w : Nat} {P : Int → q_Sg → Prop} (k : ∃ z T, r_G F vs (q_en S, c, w) (iv z) (q_en T, c, w) ∧ rg z ∧ P z T) : r_X F vs (q_en S, c, w) (fun v h2 => ∃ z T, v = iv z ∧ h2 = (q_en T, c, w) ∧ P z T) := by
  obtain ⟨z, T, e, _, p⟩ := k
  exact ⟨_, _, e, z, T, rfl, rfl, p⟩
theorem sf_X9_commandAt {S : q_Sg} {c w : Nat} (hS : r_ok S) {l : List qCmd} {th : Int → Int} (hc : CREP S l th) (hO : COK l) (hn : l.length ≤ 6936) {i : Int} (hi : 0 ≤ i ∧ i < l.length) : r_F f_X9_commandAt [.ref 16, iv i] (q_en S, c, w) (iv (cg l i).1) := r_MF (sp_X9_commandAt hS hc hO hn (by omega)) (fun n k => k.1 ⟨hi.1, by rw [hc.1]; exact hi.2⟩) (fun z T k => k.2)
theorem sf_X9_numberAt_122 {S : q_Sg} {c w : Nat} (hS : r_ok S) {l : List qCmd} {th : Int → Int} (hc : CREP S l th) (hO : COK l) (hn : l.length ≤ 6936) (hA : ∀ j, 0 ≤ j → j < 12 → S.2.1 18 j = 10 * th j) (hth : ∀ j, 0 ≤ j → j < 12 → 0 ≤ th j ∧ th j ≤ 3) {i : Int} (hi : 0 ≤ i ∧ i < l.length) (hk : (cg l i).1 = 122) : r_F f_X9_numberAt [.ref 16, iv i, iv 122] (q_en S, c, w) (iv (cg l i).2.2.2) := by
  have h9 : 0 ≤ i ∧ i < S.1 9 := ⟨hi.1, by rw [hc.1]; exact hi.2⟩
  refine r_MF (sp_X9_numberAt hS hc hO hn hA hth (by omega) (by omega)) (fun n k => ?_) (fun z T k => ?_)
  · rcases k with ⟨k, _⟩ | ⟨_, k, _⟩ | ⟨_, _, k, _⟩
    · exact k h9
    · exact k (by decide)
    · exact k (Or.inr (Or.inr ⟨by decide, by decide, by decide, hk⟩))
  · obtain ⟨_, k2, k3⟩ := k
    rw [r_i0 (by decide), r_i0 (by decide), r_i0 (by decide)] at k2
    exact ⟨k2, k3⟩
theorem sf_X9_numberAt_120 {S : q_Sg} {c w : Nat} (hS : r_ok S) {l : List qCmd} {th : Int → Int} (hc : CREP S l th) (hO : COK l) (hn : l.length ≤ 6936) (hA : ∀ j, 0 ≤ j → j < 12 → S.2.1 18 j = 10 * th j) (hth : ∀ j, 0 ≤ j → j < 12 → 0 ≤ th j ∧ th j ≤ 3) {i : Int} (hi : 0 ≤ i ∧ i < l.length) (hk : MV l i) : r_F f_X9_numberAt [.ref 16, iv i, iv 120] (q_en S, c, w) (iv (cg l i).2.1) := by
  have h9 : 0 ≤ i ∧ i < S.1 9 := ⟨hi.1, by rw [hc.1]; exact hi.2⟩
  refine r_MF (sp_X9_numberAt hS hc hO hn hA hth (by omega) (by omega)) (fun n k => ?_) (fun z T k => ?_)
  · rcases k with ⟨k, _⟩ | ⟨_, k, _⟩ | ⟨_, _, k, _⟩
    · exact k h9
    · exact k (by decide)
    · exact k (Or.inr (Or.inl ⟨Or.inl rfl, hk⟩))
  · obtain ⟨_, k2, k3⟩ := k
    rw [r_i0 (by decide), r_i1 rfl] at k2
    exact ⟨k2, k3⟩
theorem sf_X9_numberAt_121 {S : q_Sg} {c w : Nat} (hS : r_ok S) {l : List qCmd} {th : Int → Int} (hc : CREP S l th) (hO : COK l) (hn : l.length ≤ 6936) (hA : ∀ j, 0 ≤ j → j < 12 → S.2.1 18 j = 10 * th j) (hth : ∀ j, 0 ≤ j → j < 12 → 0 ≤ th j ∧ th j ≤ 3) {i : Int} (hi : 0 ≤ i ∧ i < l.length) (hk : MV l i) : r_F f_X9_numberAt [.ref 16, iv i, iv 121] (q_en S, c, w) (iv (cg l i).2.2.1) := by
  have h9 : 0 ≤ i ∧ i < S.1 9 := ⟨hi.1, by rw [hc.1]; exact hi.2⟩
  refine r_MF (sp_X9_numberAt hS hc hO hn hA hth (by omega) (by omega)) (fun n k => ?_) (fun z T k => ?_)
  · rcases k with ⟨k, _⟩ | ⟨_, k, _⟩ | ⟨_, _, k, _⟩
    · exact k h9
    · exact k (by decide)
    · exact k (Or.inr (Or.inl ⟨Or.inr rfl, hk⟩))
  · obtain ⟨_, k2, k3⟩ := k
    rw [r_i0 (by decide), r_i0 (by decide), r_i1 rfl] at k2
    exact ⟨k2, k3⟩
theorem sf_X9_numberAt_97 {S : q_Sg} {c w : Nat} (hS : r_ok S) {l : List qCmd} {th : Int → Int} (hc : CREP S l th) (hO : COK l) (hn : l.length ≤ 6936) (hA : ∀ j, 0 ≤ j → j < 12 → S.2.1 18 j = 10 * th j) (hth : ∀ j, 0 ≤ j → j < 12 → 0 ≤ th j ∧ th j ≤ 3) {i : Int} (hi : 0 ≤ i ∧ i < l.length) (hk : (cg l i).1 = 100) : r_F f_X9_numberAt [.ref 16, iv i, iv 97] (q_en S, c, w) (iv (cC l i * (10 * th (cg l i).2.2.2))) := by
  have h9 : 0 ≤ i ∧ i < S.1 9 := ⟨hi.1, by rw [hc.1]; exact hi.2⟩
  refine r_MF (sp_X9_numberAt hS hc hO hn hA hth (by omega) (by omega)) (fun n k => ?_) (fun z T k => ?_)
  · rcases k with ⟨k, _⟩ | ⟨_, k, _⟩ | ⟨_, _, k, _⟩
    · exact k h9
    · exact k (by decide)
    · exact k (Or.inl ⟨rfl, hk⟩)
  · obtain ⟨_, k2, k3⟩ := k
    rw [r_i1 rfl] at k2
    exact ⟨k2, k3⟩
theorem sx_X9_box {S : q_Sg} {c w : Nat} (hS : r_ok S) {p : Prop} {x y z dx dy dz : Int} (h01 : r01 (S.2.1 0)) (hx : (0 ≤ x ∧ x < 12) ∧ 1 ≤ dx ∧ dx ≤ 12 - x) (hy : (0 ≤ y ∧ y < 12) ∧ 1 ≤ dy ∧ dy ≤ 12 - y) (hz : (0 ≤ z ∧ z < 12) ∧ 1 ≤ dz ∧ dz ≤ 12 - z) : r_X f_X9_box [.ref 16, iv x, iv y, iv z, iv dx, iv dy, iv dz, r_b p] (q_en S, c, w) (fun v h2 => ∃ n g4 g, v = iv n ∧ h2 = (q_en (q_sA (q_sA S 4 g4) 0 g), c, w) ∧ (∀ j, rg (g4 j)) ∧ (∀ j, 0 ≤ j → j < 12 → g4 j = 0) ∧ BINV (S.2.1 0) (r_z p) (BXP x y z dx dy dz) g n 1728) := by
  obtain ⟨n, T, e, _, _, g4, g, rfl, hz4, hr4, hB⟩ := r_MX (sp_X9_box (p := p) hS h01 (by omega) (by omega) (by omega) (by omega) (by omega) (by omega)) (fun n k => k.1 ⟨hx, hy, hz⟩)
  exact ⟨_, _, e, n, g4, g, rfl, rfl, hr4, hz4, hB⟩
theorem sx_X9_set {S : q_Sg} {c w : Nat} (hS : r_ok S) {s v : Int} (h : ALW s v) (hs : rg s) (hv : rg v) : ∃ T, r_G f_X9_set [.ref 16, iv s, iv v] (q_en S, c, w) (iv (stg S.1 0 s)) (q_en T, c, w) ∧ ∃ g4, (∀ j, 0 ≤ j → j < 12 → g4 j = 0) ∧ r_ok T ∧ r_fr [0, 1, 2, 3, 4, 5] [] [] (q_sA S 4 g4) T ∧ STS 0 s v S T := by
  obtain ⟨z, T, e, _, _, rfl, k⟩ := r_MX (sp_X9_set hS hs hv) (fun n k => k.1 h)
  exact ⟨T, e, k⟩
theorem sx_X9_setPattern {S : q_Sg} {c w : Nat} (hS : r_ok S) {p : Int} (hp : p = 108 ∨ p = 103 ∨ p = 119) (h6 : 0 ≤ S.1 6 ∧ S.1 6 < 65536) : ∃ g4, (∀ j, 0 ≤ j → j < 12 → g4 j = 0) ∧ (∀ j, rg (g4 j)) ∧ r_G f_X9_setPattern [.ref 16, iv p] (q_en S, c, w) (iv (S.1 6)) (q_en (q_sI (q_sA S 4 g4) 6 p), c, w) := by
  obtain ⟨z, T, e, _, _, rfl, g4, hz, hr, rfl⟩ := r_MX (sp_X9_setPattern hS (by omega) h6) (fun n k => k.1 hp)
  exact ⟨g4, hz, hr, e⟩
theorem sx_X9_setThickness {S : q_Sg} {c w : Nat} (hS : r_ok S) {z v : Int} (hz : 0 ≤ z ∧ z < 12) (hv : 1 ≤ v ∧ v ≤ 3) : r_G f_X9_setThickness [.ref 16, iv z, iv v] (q_en S, c, w) (iv (S.2.1 1 z)) (q_en (q_sA S 1 (q_up (S.2.1 1) z v)), c, w) :=
  r_MG (sp_X9_setThickness hS (by omega) (by omega)) (fun n k => k.elim (fun k => k.1 hz) (fun k => k.2.1 hv)) (fun z T k => ⟨k.2.1, k.2.2⟩)
theorem sx_X9_setPause {S : q_Sg} {c w : Nat} (hS : r_ok S) {z : Int} {p : Prop} (hz : 0 ≤ z ∧ z < 12) : r_G f_X9_setPause [.ref 16, iv z, r_b p] (q_en S, c, w) (iv (r_z (¬ S.2.1 2 z = 0))) (q_en (q_sA S 2 (q_up (S.2.1 2) z (r_z p))), c, w) :=
  r_MG (sp_X9_setPause (p := p) hS (by omega)) (fun n k => k.1 hz) (fun z T k => ⟨k.2.1, k.2.2⟩)
theorem sx_X9_setTarget {S : q_Sg} {c w : Nat} (hS : r_ok S) (h16 : 0 ≤ S.1 16 ∧ S.1 16 < 65536) (h17 : 0 ≤ S.1 17 ∧ S.1 17 < 65536) {v : Int} (hv : 0 ≤ v ∧ v ≤ 300) (hf : ¬ S.1 16 = 102) : r_G f_X9_setTarget [.ref 16, iv v] (q_en S, c, w) (iv (S.1 13)) (q_en (q_sI S 13 v), c, w) :=
  r_MG (sp_X9_setTarget hS h16 h17 (by omega)) (fun n k => k.elim (fun k => k.1 hv) (fun k => hf k.2.1)) (fun z T k => ⟨k.2.1, k.2.2⟩)
theorem sx_X9_print {S : q_Sg} {c w : Nat} (hS : r_ok S) (hb : ¬ BSY (S.1 16)) (h9 : ¬ S.1 9 = 0) : ∃ g, (∀ j, rg (g j)) ∧ (∀ j, g j = r_i (0 ≤ j ∧ j < 1728) 0 (S.2.1 20 j)) ∧ r_G f_X9_print [.ref 16] (q_en S, c, w) (iv (S.1 9)) (q_en (q_sJ (q_sA (q_sI (q_sI (q_sI (q_sI (q_sI (q_sI S 16 114) 22 0) 21 (-1)) 18 0) 19 0) 20 0) 20 g) 2 0), c, w) := by
  obtain ⟨z, T, e, _, _, rfl, g, rfl, hg, hr⟩ := r_MX (sp_X9_print hS) (fun n k => k.1.elim hb h9)
  exact ⟨g, hr, hg, e⟩
theorem sx_X9_goOn {S : q_Sg} {c w : Nat} (hS : r_ok S) (h16 : S.1 16 = 112) (h17 : 0 ≤ S.1 17 ∧ S.1 17 < 65536) (h9 : 0 ≤ S.1 9 ∧ S.1 9 ≤ 6936) (h18 : 0 ≤ S.1 18 ∧ S.1 18 ≤ 6936) : r_G f_X9_goOn [.ref 16] (q_en S, c, w) (iv (S.1 9 - S.1 18)) (q_en (q_sI S 16 114), c, w) :=
  r_MG (sp_X9_goOn hS (by omega) h17 h9 h18) (fun n k => k.1 h16) (fun z T k => k.2)
theorem sx_X9_fail {S : q_Sg} {c w : Nat} (hS : r_ok S) (h16 : 0 ≤ S.1 16 ∧ S.1 16 < 65536) (h17 : 0 ≤ S.1 17 ∧ S.1 17 < 65536) (hf : ¬ S.1 16 = 102) : r_G f_X9_fail [.ref 16] (q_en S, c, w) (iv (S.1 16)) (q_en (q_sI (q_sI (q_sI (q_sI S 17 (S.1 16)) 16 102) 13 0) 20 0), c, w) :=
  r_MG (sp_X9_fail hS h16 h17) (fun n k => hf k.1) (fun z T k => k.2)
theorem sx_X9_mend {S : q_Sg} {c w : Nat} (hS : r_ok S) (h16 : S.1 16 = 102) (h17 : 0 ≤ S.1 17 ∧ S.1 17 < 65536) : r_G f_X9_mend [.ref 16] (q_en S, c, w) (iv (S.1 17)) (q_en (q_sI S 16 (S.1 17)), c, w) :=
  r_MG (sp_X9_mend hS (by omega) h17) (fun n k => k.1 h16) (fun z T k => k.2)
/-- what a pass keeps and does -/
def PAS (l : List qCmd) (th : Int → Int) (m B : Int) (S T : q_Sg) (z : Int) : Prop := ∃ kz, r_ok T ∧ r_fr [21, 20, 19, 18, 16, 15, 14] [20] [2, 1] S T ∧ TKN l th (S.1 13) m.toNat (mC S) (mC T) kz z ∧ T.2.2.1 2 - suml (T.2.1 20) 1728 = S.2.2.1 2 - suml (S.2.1 20) 1728 ∧ T.2.2.1 1 = S.2.2.1 1 + m ∧ MI l (mC T) ∧ ∀ j, 0 ≤ T.2.1 20 j ∧ T.2.1 20 j ≤ B + 30 * m
theorem sx_X9_pass {S : q_Sg} {c w : Nat} (hS : r_ok S) {l : List qCmd} {th : Int → Int} (hc : CREP S l th) (hO : COK l) (hn : l.length ≤ 6936) (hA : ∀ j, 0 ≤ j → j < 12 → S.2.1 18 j = 10 * th j) (hC : CLK l) (hth : ∀ j, 0 ≤ j → j < 12 → 0 ≤ th j ∧ th j ≤ 3) (h13 : 0 ≤ S.1 13 ∧ S.1 13 ≤ 300) (hMI : MI l (mC S)) {B : Int} (hB : ∀ j, 0 ≤ S.2.1 20 j ∧ S.2.1 20 j ≤ B) (hB2 : B ≤ 90000000) {m : Int} (hm : 1 ≤ m ∧ m ≤ 200) : ∃ z T, r_G f_X9_pass [.ref 16, iv m] (q_en S, c, w) (iv z) (q_en T, c, w) ∧ rg z ∧ PAS l th m B S T z := by
  obtain ⟨z, T, e, hz, _, kz, a1, a2, a3, a4, a5, a6, a7, a8⟩ := r_MX (sp_X9_pass hS hc hO hn hA hC hth h13 hMI hB hB2 (by omega)) (fun n k => k.1 hm)
  exact ⟨z, T, e, hz, kz, a1, a2, a3, a5, a6, a7, a8⟩
theorem sf_X9_laid {S : q_Sg} {c w : Nat} (hS : r_ok S) {x y z : Int} (h : inc x y z) : r_F f_X9_laid [.ref 16, iv x, iv y, iv z] (q_en S, c, w) (iv (S.2.1 20 (144 * z + 12 * y + x))) :=
  r_MF (sp_X9_laid hS (by omega) (by omega) (by omega)) (fun n k => k.1 h) (fun z T k => k.2)
theorem sk_X3_findLayer {S : q_Sg} {c w : Nat} (hS : r_ok S) {z : Int} (hz : 0 ≤ z ∧ z < 12) (hk : ¬ S.2.1 4 z = 0) : r_F f_X3_findLayer [.ref 22, iv z] (q_en S, c, w) .null := by
  refine r_Fof (r_run (L := [_, _, _, _]) ⟨rfl, Nat.le_of_ble_eq_true rfl⟩ rfl ?_)
  unfold b_X3_findLayer
  refine r_seq ?_
  refine r_sif (r_or (r_not (r_bz (r_call (r_cons (r_loc rfl rfl) r_nil) rfl (sp_X9_isPlace (by first | omega | assumption | exact r_zrg _ | exact hS.1 _ | exact hS.2 _ _ | exact stg_b hS _ _ | exact r_irg (by first | assumption | omega | exact hS.1 _ | exact hS.2 _ _ | exact stg_b hS _ _) (by first | assumption | omega | exact hS.1 _ | exact hS.2 _ _))) rfl))) (fun hp1 => (r_z_ne (r_aget ga_Kinds_isKnown (r_fld (r_loc rfl rfl) gg_Kinds_isKnown) (r_loc rfl rfl) (by first | omega | assumption | exact r_zrg _ | exact hS.1 _ | exact hS.2 _ _ | exact stg_b hS _ _ | exact r_irg (by first | assumption | omega | exact hS.1 _ | exact hS.2 _ _ | exact stg_b hS _ _) (by first | assumption | omega | exact hS.1 _ | exact hS.2 _ _)) (by first | omega | assumption | exact r_zrg _ | exact hS.1 _ | exact hS.2 _ _ | exact stg_b hS _ _ | exact r_irg (by first | assumption | omega | exact hS.1 _ | exact hS.2 _ _ | exact stg_b hS _ _) (by first | assumption | omega | exact hS.1 _ | exact hS.2 _ _)) (by decide)) (by first | omega | assumption | exact r_zrg _ | exact hS.1 _ | exact hS.2 _ _ | exact stg_b hS _ _ | exact r_irg (by first | assumption | omega | exact hS.1 _ | exact hS.2 _ _ | exact stg_b hS _ _) (by first | assumption | omega | exact hS.1 _ | exact hS.2 _ _))))) (fun hp2 => ?_) (fun hp3 => ?_)
  ·
    have hpT := hp2
    have hpT0 := hp2
    refine wS_retv ?_
    refine r_ks (j := 2) ?_
    exact r_pretv r_le0 ⟨rfl, rfl⟩
  ·
    have hpF := hp3
    have hpF0 := hp3
    exact absurd (Or.inr hk) hpF0
theorem sf_X9_kindAt {S : q_Sg} {c w : Nat} (hS : r_ok S) (hI : KCI S) {x y z : Int} (h : inc x y z) (hk : ¬ S.2.1 4 z = 0) : r_F f_X9_kindAt [.ref 16, iv x, iv y, iv z] (q_en S, c, w) (iv (KND (S.2.1 0) S.1 0 x y z)) := by
  refine r_Fof (r_run (L := [_, _, _, _]) ⟨rfl, Nat.le_of_ble_eq_true rfl⟩ rfl ?_)
  unfold b_X9_kindAt
  have hev : r_i (inc x y z) (S.2.1 3 (144 * z + 12 * y + x)) 46 = KND (S.2.1 0) S.1 0 x y z := by
    rw [r_i1 h, hI.2 z h.2.2 hk x y h.1 h.2.1]
  refine r_seq ?_
  refine r_callT (r_cons (r_loc rfl rfl) (r_cons (r_loc rfl rfl) (r_cons (r_loc rfl rfl) r_nil))) rfl (sp_X9_requireCell (by first | omega | assumption | exact hS.1 _ | exact hS.2 _ _ | exact hI.1 | exact hI.1 _ | (rw [hev]; have := KND_b (S.2.1 0) S.1 0 x y z; omega)) (by first | omega | assumption | exact hS.1 _ | exact hS.2 _ _ | exact hI.1 | exact hI.1 _ | (rw [hev]; have := KND_b (S.2.1 0) S.1 0 x y z; omega)) (by first | omega | assumption | exact hS.1 _ | exact hS.2 _ _ | exact hI.1 | exact hI.1 _ | (rw [hev]; have := KND_b (S.2.1 0) S.1 0 x y z; omega))) (fun hp1 => ?_) (fun hp2 => ?_)
  ·
    refine r_k0 ?_
    refine r_seq ?_
    refine r_callF (r_cons (r_fld (r_loc rfl rfl) gg_SW_kinds) (r_cons (r_loc rfl rfl) r_nil)) rfl (sk_X3_findLayer (by first | omega | assumption | exact hS.1 _ | exact hS.2 _ _ | exact hI.1 | exact hI.1 _ | (rw [hev]; have := KND_b (S.2.1 0) S.1 0 x y z; omega)) (by first | omega | assumption | exact hS.1 _ | exact hS.2 _ _ | exact hI.1 | exact hI.1 _ | (rw [hev]; have := KND_b (S.2.1 0) S.1 0 x y z; omega)) (by first | omega | assumption | exact hS.1 _ | exact hS.2 _ _ | exact hI.1 | exact hI.1 _ | (rw [hev]; have := KND_b (S.2.1 0) S.1 0 x y z; omega))) ?_
    refine r_k0 ?_
    refine r_sret (r_call (r_cons (r_fld (r_loc rfl rfl) gg_SW_kinds) (r_cons (r_loc rfl rfl) (r_cons (r_loc rfl rfl) (r_cons (r_loc rfl rfl) r_nil)))) rfl (sp_X3_kindOf (by first | omega | assumption | exact hS.1 _ | exact hS.2 _ _ | exact hI.1 | exact hI.1 _ | (rw [hev]; have := KND_b (S.2.1 0) S.1 0 x y z; omega)) (by first | omega | assumption | exact hS.1 _ | exact hS.2 _ _ | exact hI.1 | exact hI.1 _ | (rw [hev]; have := KND_b (S.2.1 0) S.1 0 x y z; omega)) (by first | omega | assumption | exact hS.1 _ | exact hS.2 _ _ | exact hI.1 | exact hI.1 _ | (rw [hev]; have := KND_b (S.2.1 0) S.1 0 x y z; omega)) (by first | omega | assumption | exact hS.1 _ | exact hS.2 _ _ | exact hI.1 | exact hI.1 _ | (rw [hev]; have := KND_b (S.2.1 0) S.1 0 x y z; omega)) (by first | omega | assumption | exact hS.1 _ | exact hS.2 _ _ | exact hI.1 | exact hI.1 _ | (rw [hev]; have := KND_b (S.2.1 0) S.1 0 x y z; omega))) rfl) ?_
    refine r_pret (q_fit_char (by first | omega | assumption | exact hS.1 _ | exact hS.2 _ _ | exact hI.1 | exact hI.1 _ | (rw [hev]; have := KND_b (S.2.1 0) S.1 0 x y z; omega)) (by first | omega | assumption | exact hS.1 _ | exact hS.2 _ _ | exact hI.1 | exact hI.1 _ | (rw [hev]; have := KND_b (S.2.1 0) S.1 0 x y z; omega))) r_le0 ⟨congrArg Sum.inl ?_, rfl⟩
    refine congrArg iv ?_
    exact hev
  ·
    refine r_ks (j := 5) ?_
    refine r_pthr (n := 1) ⟨Nat.le_succ _, Nat.le_add_right _ _⟩ ?_
    exact absurd h (by assumption)
theorem sk_X9_plan {S : q_Sg} {c w : Nat} (hS : r_ok S) (hK : SOK S.1 0) (hI : KCI S) (hth : ∀ z, (0 ≤ z ∧ z < 12) → 1 ≤ S.2.1 1 z ∧ S.2.1 1 z ≤ 3) : r_M f_X9_plan [.ref 16] (q_en S, c, w) (r_R (fun ans T => ¬ BSY (S.1 16) ∧ ans = ((PLN (S.2.1 0) S.1 0 (S.2.1 2) 12).length : Nat) ∧ r_ok T ∧ KCI T ∧ CREP T (PLN (S.2.1 0) S.1 0 (S.2.1 2) 12) (S.2.1 1) ∧ COK (PLN (S.2.1 0) S.1 0 (S.2.1 2) 12) ∧ (∀ j, 0 ≤ j → j < 12 → T.2.1 18 j = 10 * S.2.1 1 j) ∧ r_fr [12, 11, 10, 9, 8, 16, 22, 21, 18, 19, 20] [19, 18, 17, 16, 15, 14, 13, 12, 11, 10, 9, 3, 4, 5] [0] S T ∧ T.1 16 = 105 ∧ ∀ z, (0 ≤ z ∧ z < 12) → ¬ T.2.1 4 z = 0) (fun n => BSY (S.1 16) ∧ n = 2) S c w) := by
  refine r_run (L := [_]) ⟨rfl, Nat.le_of_ble_eq_true rfl⟩ rfl ?_
  unfold b_X9_plan
  refine r_seq ?_
  refine r_sif (r_bz (r_call (r_cons (r_fld (r_loc rfl rfl) gg_SW_machine) r_nil) rfl (sp_X4_isBusy (by first | omega | assumption | exact hS.1 _ | exact hS.2 _ _ | exact r_zrg _)) rfl)) (fun hp1 => ?_) (fun hp2 => ?_)
  ·
    have hpT := hp1
    have hpT0 := hp1
    refine wS_throw (x := 2) ?_
    refine r_ks (j := 6) ?_
    refine r_pthr (n := 2) ⟨Nat.le_succ _, Nat.le_add_right _ _⟩ ?_
    exact Or.inr ⟨_, rfl, rfl, by assumption, rfl⟩
  ·
    have hpF := hp2
    have hpF0 := hp2
    refine wS_skip ?_
    refine r_k0 ?_
    refine r_seq ?_
    refine r_call0 (r_cons (r_fld (r_loc rfl rfl) gg_SW_kinds) r_nil) rfl (sp_X3_findAll (by first | omega | assumption | exact hS.1 _ | exact hS.2 _ _ | exact r_zrg _) (by first | omega | assumption | exact hS.1 _ | exact hS.2 _ _ | exact r_zrg _) (by first | omega | assumption | exact hS.1 _ | exact hS.2 _ _ | exact r_zrg _)) ?_
    rintro _ _ ⟨T2, rfl, hT2, hf2, hI2, hk2⟩
    have e1 := hf2.2.1 1 (by decide); have e0 := hf2.2.1 0 (by decide); have e2 := hf2.2.1 2 (by decide)
    have eF : T2.1 = S.1 := funext fun k => hf2.1 k (by simp)
    have hK2 : SOK T2.1 0 := by rw [eF]; exact hK
    have hth2 : ∀ z, (0 ≤ z ∧ z < 12) → 1 ≤ T2.2.1 1 z ∧ T2.2.1 1 z ≤ 3 := by rw [e1]; exact hth
    refine r_k0 ?_
    refine r_seq ?_
    refine r_call0 (r_cons (r_fld (r_loc rfl rfl) gg_SW_planner) r_nil) rfl (sp_X6_makeCommands (by first | omega | assumption | exact hS.1 _ | exact hS.2 _ _ | exact r_zrg _) (by first | omega | assumption | exact hS.1 _ | exact hS.2 _ _ | exact r_zrg _) (by first | omega | assumption | exact hS.1 _ | exact hS.2 _ _ | exact r_zrg _) (by first | omega | assumption | exact hS.1 _ | exact hS.2 _ _ | exact r_zrg _) (by first | omega | assumption | exact hS.1 _ | exact hS.2 _ _ | exact r_zrg _)) ?_
    rintro _ _ ⟨T3, rfl, hT3, hf3, hc3, hO3, hA3⟩
    rw [e0, e1, e2, eF] at hc3
    rw [e0, e2, eF] at hO3
    rw [e1] at hA3
    refine r_k0 ?_
    refine r_seq ?_
    refine r_scallG (r_cons (r_fld (r_loc rfl rfl) gg_SW_machine) r_nil) rfl (sp_X4_rest (by first | omega | assumption | exact hS.1 _ | exact hS.2 _ _ | exact r_zrg _)) ?_
    refine r_k0 ?_
    refine r_sret (r_call (r_cons (r_fld (r_loc rfl rfl) gg_SW_commandList) r_nil) rfl sp_X1_size rfl) ?_
    refine r_pret (q_fit_int _) r_le0 ?_
    have hn := hc3.1
    refine Or.inl ⟨_, _, rfl, hT3.1 9, rfl, by assumption, hn, r_okI (r_okI (r_okI (r_okI (r_okI (r_okI hT3 (by omega)) (by omega)) (by omega)) (by omega)) (by omega)) (by omega), ?_, ?_, hO3, hA3, r_frm (r_frI (r_frI (r_frI (r_frI (r_frI (r_frI (r_frt hf2 hf3))))))) (by decide) (by decide) (by decide), rfl, fun z hz => by show ¬ T3.2.1 4 z = 0; rw [hf3.2.1 4 (by decide)]; exact hk2 z hz⟩
    · exact KCI_f (r_frI (k := 20) (r_frI (k := 19) (r_frI (k := 18) (r_frI (k := 21) (r_frI (k := 22) (r_frI (k := 16) hf3)))))) (by decide) (by decide) hI2
    · exact CREP_f (r_frI (k := 20) (r_frI (k := 19) (r_frI (k := 18) (r_frI (k := 21) (r_frI (k := 22) (r_frI (k := 16) r_fr0)))))) (by decide) (by decide) (by decide) (by decide) hc3
theorem sx_X9_plan {S : q_Sg} {c w : Nat} (hS : r_ok S) (hK : SOK S.1 0) (hI : KCI S) (hth : ∀ z, (0 ≤ z ∧ z < 12) → 1 ≤ S.2.1 1 z ∧ S.2.1 1 z ≤ 3) (h16 : S.1 16 = 105) : ∃ T, r_G f_X9_plan [.ref 16] (q_en S, c, w) (iv (((PLN (S.2.1 0) S.1 0 (S.2.1 2) 12).length : Nat) : Int)) (q_en T, c, w) ∧ r_ok T ∧ KCI T ∧ CREP T (PLN (S.2.1 0) S.1 0 (S.2.1 2) 12) (S.2.1 1) ∧ COK (PLN (S.2.1 0) S.1 0 (S.2.1 2) 12) ∧ (∀ j, 0 ≤ j → j < 12 → T.2.1 18 j = 10 * S.2.1 1 j) ∧ r_fr [12, 11, 10, 9, 8, 16, 22, 21, 18, 19, 20] [19, 18, 17, 16, 15, 14, 13, 12, 11, 10, 9, 3, 4, 5] [0] S T ∧ T.1 16 = 105 ∧ ∀ z, (0 ≤ z ∧ z < 12) → ¬ T.2.1 4 z = 0 := by
  obtain ⟨z, T, e, _, _, rfl, k⟩ := r_MX (sk_X9_plan hS hK hI hth) (fun n k => by have k1 := k.1; rw [h16] at k1; exact absurd k1 (by decide))
  exact ⟨T, e, k⟩
theorem sp_L_low {v n : Int} {h : qH} (hv : rg v) (hn : 1 ≤ n ∧ n ≤ 1000) : r_F f_L_low [iv v, iv n] h (iv (v % 2147483648 % n)) := by
  refine r_Fof (r_run (L := [_, _]) ⟨rfl, Nat.le_of_ble_eq_true rfl⟩ rfl ?_)
  unfold b_L_low
  refine r_sret (r_rem (r_iand2147483647 (r_loc rfl rfl) (by first | omega | assumption | exact r_zrg _ | exact hS.1 _ | exact hS.2 _ _ | exact stg_b hS _ _ | exact r_irg (by first | assumption | omega | exact hS.1 _ | exact hS.2 _ _ | exact stg_b hS _ _) (by first | assumption | omega | exact hS.1 _ | exact hS.2 _ _))) (r_loc rfl rfl) (by first | omega | assumption | exact r_zrg _ | exact hS.1 _ | exact hS.2 _ _ | exact stg_b hS _ _ | exact r_irg (by first | assumption | omega | exact hS.1 _ | exact hS.2 _ _ | exact stg_b hS _ _) (by first | assumption | omega | exact hS.1 _ | exact hS.2 _ _)) (by first | omega | assumption | exact r_zrg _ | exact hS.1 _ | exact hS.2 _ _ | exact stg_b hS _ _ | exact r_irg (by first | assumption | omega | exact hS.1 _ | exact hS.2 _ _ | exact stg_b hS _ _) (by first | assumption | omega | exact hS.1 _ | exact hS.2 _ _)) (by first | omega | assumption | exact r_zrg _ | exact hS.1 _ | exact hS.2 _ _ | exact stg_b hS _ _ | exact r_irg (by first | assumption | omega | exact hS.1 _ | exact hS.2 _ _ | exact stg_b hS _ _) (by first | assumption | omega | exact hS.1 _ | exact hS.2 _ _)) (by first | omega | assumption | exact r_zrg _ | exact hS.1 _ | exact hS.2 _ _ | exact stg_b hS _ _ | exact r_irg (by first | assumption | omega | exact hS.1 _ | exact hS.2 _ _ | exact stg_b hS _ _) (by first | assumption | omega | exact hS.1 _ | exact hS.2 _ _))) ?_
  refine r_pret (q_fit_int _) r_le0 ⟨congrArg Sum.inl ?_, rfl⟩
  refine congrArg iv ?_
  rfl
noncomputable def CEL (xs : Nat → Int32) (Ln : Nat) (k : Int) : Int := r_i (k < Ln) (sc xs k) (40503 * k + 3803)
theorem CEL_r (xs : Nat → Int32) (Ln : Nat) {k : Int} (hk : 0 ≤ k ∧ k ≤ 100) : rg (CEL xs Ln k) := by
  have := sc_r xs k
  unfold CEL r_i; split <;> omega
theorem sp_L_cell {xs : Nat → Int32} {Ln : Nat} {k : Int} {h : qH} (hL : Ln ≤ 260) (hk : 0 ≤ k ∧ k ≤ 100) : r_F (f_L_cell xs Ln) [.ref 0, iv k] h (iv (CEL xs Ln k)) := by
  refine r_Fof (r_run (L := [_, _]) ⟨rfl, Nat.le_of_ble_eq_true rfl⟩ rfl ?_)
  unfold b_L_cell
  refine r_sret (r_if (r_lt (r_loc rfl rfl) (r_lenR0 (r_loc rfl rfl)) (by first | omega | assumption | (constructor <;> omega)) (by first | omega | assumption | (constructor <;> omega))) (fun hp1 => (r_ro0 (r_loc rfl rfl) (r_loc rfl rfl) (by first | omega | assumption | (constructor <;> omega)) (by first | omega | assumption | (constructor <;> omega)))) (fun hp2 => (r_add (r_mul (r_lit ql_40503) (r_loc rfl rfl)) (r_lit ql_3803)))) ?_
  refine r_pret (q_fit_int _) r_le0 ⟨congrArg Sum.inl ?_, rfl⟩
  refine congrArg iv ?_
  rfl
theorem r_bone {p : Prop} (h : p) : r_b p = iv 1 := by unfold r_b; rw [r_z1 h]
section RZ2
variable {L : qL} {h h2 h3 : qH} {a b : qE} {y z : Int}
theorem r_Kadd (ka : r_K a L h (iv y) h2) (kb : r_K b L h2 (iv z) h3) : r_K (q_eH2 (fun _ => q_iadd) a b) L h (iv (y + z)) h3 := by
  unfold r_K at *
  unfold q_eH2; rw [ka]; unfold q_bE; dsimp only; rw [kb]; dsimp only
  show some (Sum.inl (Value.int (Int32.ofInt y + Int32.ofInt z)), h3) = some (Sum.inl (Value.int (Int32.ofInt (y + z))), h3)
  rw [Int32.ofInt_add]
theorem r_Dzn (ka : r_K a L h (iv y) h2) (h1 : rg y) : r_D (q_cCmp0 q_zne a) L h (¬ y = 0) h2 := by
  obtain ⟨t, k1, k2⟩ := wc0_ne (QB := fun t => t = true ↔ ¬ y = 0) h1 (fun c => r_tt c) (fun c => r_ff (fun d => d c))
  exact ⟨t, q_cCmp0_e ka k1, k2⟩
end RZ2
/-! the array of the settings before -/
def fW (g : Int → Int) : qC := .inl (.int, 6, .inl (fun j => Int32.ofInt (g (j : Nat))))
theorem en_app {S : q_Sg} {x : qC} (h : S.2.2.2 = []) : q_en S ++ [x] = q_en (q_sD S [x]) := by
  unfold q_en
  rw [h]; rfl
theorem en_arr {T : q_Sg} {g : Int → Int} {c w : Nat} (h : T.2.2.2 = [fW g]) : q_arr (q_en T, c, w) (.ref 48) = some (.int, 6, .inl (fun j => Int32.ofInt (g (j : Nat)))) := by
  unfold q_en
  rw [h]; rfl
theorem en_set {T : q_Sg} {g g2 : Int → Int} {c w : Nat} (h : T.2.2.2 = [fW g]) : q_setA (q_en T, c, w) (.ref 48) (.int, 6, .inl (fun j => Int32.ofInt (g2 (j : Nat)))) = (q_en (q_sD T [fW g2]), c, w) := by
  unfold q_en
  rw [h]; rfl
theorem r_new6 {L : qL} {S : q_Sg} {c w : Nat} (h : S.2.2.2 = []) : r_K (q_eNewA .int (q_eLit (.int 6))) L (q_en S, c, w) (.ref 48) (q_en (q_sD S [fW (fun _ => 0)]), c + 1, w + 6) := by
  rw [← en_app h]
  unfold q_en
  rw [h]; rfl
theorem r_were {a b i : qE} {L : qL} {h : qH} {T T2 : q_Sg} {g : Int → Int} {c w : Nat} {j z : Int} (ka : r_K a L h (.ref 48) (q_en T, c, w)) (ki : r_E i L (q_en T, c, w) (iv j)) (kb : r_K b L (q_en T, c, w) (iv z) (q_en T2, c, w)) (ht : T2.2.2.2 = [fW g]) (hj : 0 ≤ j ∧ j < 6) : r_K (q_eSto a i b) L h (.ref 48) (q_en (q_sD T2 [fW (q_up g j z)]), c, w) := by
  have hp : q_pI .int (q_en T2, c, w) (.ref 48) (iv j) (iv z) = some (q_en (q_sD T2 [fW (q_up g j z)]), c, w) := r_putI (n := 6) (g := g) (en_arr ht) (en_set ht) hj.1 (by show j < 6; exact hj.2) (by decide) q_narI
  unfold r_K r_E at *
  unfold q_eSto; rw [ka]; unfold q_bE; dsimp only; rw [ki]; dsimp only; rw [kb]; dsimp only; rw [hp]
