/-! the helpers of the law over the faces -/
theorem sp_L_box {S : q_Sg} {c w : Nat} (hS : r_ok S) {p : Prop} {x y z dx dy dz : Int} (h01 : r01 (S.2.1 0)) (hx : rg x) (hy : rg y) (hz : rg z) (hdx : rg dx) (hdy : rg dy) (hdz : rg dz) : r_X f_L_box [.ref 16, iv x, iv y, iv z, iv dx, iv dy, iv dz, r_b p, .ref 68] (q_en S, c, w) (r_Q (fun ans T => (((0 ≤ x ∧ x < 12) ∧ 1 ≤ dx ∧ dx ≤ 12 - x) ∧ ((0 ≤ y ∧ y < 12) ∧ 1 ≤ dy ∧ dy ≤ 12 - y) ∧ ((0 ≤ z ∧ z < 12) ∧ 1 ≤ dz ∧ dz ≤ 12 - z)) ∧ ∃ g4 g, T = q_sA (q_sA S 4 g4) 0 g ∧ (∀ j, 0 ≤ j → j < 12 → g4 j = 0) ∧ (∀ j, rg (g4 j)) ∧ BINV (S.2.1 0) (r_z p) (BXP x y z dx dy dz) g ans 1728) (fun k => ¬ (((0 ≤ x ∧ x < 12) ∧ 1 ≤ dx ∧ dx ≤ 12 - x) ∧ ((0 ≤ y ∧ y < 12) ∧ 1 ≤ dy ∧ dy ≤ 12 - y) ∧ ((0 ≤ z ∧ z < 12) ∧ 1 ≤ dz ∧ dz ≤ 12 - z)) ∧ k = 1) S c w) := by
  refine r_Xof (r_run (L := [_, _, _, _, _, _, _, _, _, _]) ⟨rfl, Nat.le_of_ble_eq_true rfl⟩ rfl ?_)
  unfold b_L_box
  refine r_lawS (r_loc rfl rfl) (r_i2lM (r_cons (r_loc rfl rfl) (r_cons (r_loc rfl rfl) (r_cons (r_loc rfl rfl) (r_cons (r_loc rfl rfl) (r_cons (r_loc rfl rfl) (r_cons (r_loc rfl rfl) (r_cons (r_loc rfl rfl) (r_cons (r_loc rfl rfl) r_nil)))))))) rfl (sp_X9_box hS h01 hx hy hz hdx hdy hdz)) (fun n hn => ?_)
  · obtain ⟨h1, rfl⟩ := hn
    exact ⟨1, by decide, by decide, by decide, h1, rfl⟩
theorem sp_L_set {S : q_Sg} {c w : Nat} (hS : r_ok S) {s v : Int} (hs : rg s) (hv : rg v) : r_X f_L_set [.ref 16, iv s, iv v, .ref 68] (q_en S, c, w) (r_Q (fun ans T => ALW s v ∧ ans = stg S.1 0 s ∧ ∃ g4, (∀ j, 0 ≤ j → j < 12 → g4 j = 0) ∧ r_ok T ∧ r_fr [0, 1, 2, 3, 4, 5] [] [] (q_sA S 4 g4) T ∧ STS 0 s v S T) (fun k => ¬ ALW s v ∧ k = 1) S c w) := by
  refine r_Xof (r_run (L := [_, _, _, _, _]) ⟨rfl, Nat.le_of_ble_eq_true rfl⟩ rfl ?_)
  unfold b_L_set
  refine r_lawS (r_loc rfl rfl) (r_i2lM (r_cons (r_loc rfl rfl) (r_cons (r_loc rfl rfl) (r_cons (r_loc rfl rfl) r_nil))) rfl (sp_X9_set hS hs hv)) (fun n hn => ?_)
  · obtain ⟨h1, rfl⟩ := hn
    exact ⟨1, by decide, by decide, by decide, h1, rfl⟩
theorem sp_L_setPattern {S : q_Sg} {c w : Nat} (hS : r_ok S) {p : Int} (hp : 0 ≤ p ∧ p < 65536) (h6 : 0 ≤ S.1 6 ∧ S.1 6 < 65536) : r_X f_L_setPattern [.ref 16, iv p, .ref 68] (q_en S, c, w) (r_Q (fun ans T => (p = 108 ∨ p = 103 ∨ p = 119) ∧ ans = S.1 6 ∧ ∃ g4, (∀ j, 0 ≤ j → j < 12 → g4 j = 0) ∧ (∀ j, rg (g4 j)) ∧ T = q_sI (q_sA S 4 g4) 6 p) (fun k => ¬ (p = 108 ∨ p = 103 ∨ p = 119) ∧ k = 1) S c w) := by
  refine r_Xof (r_run (L := [_, _, _, _]) ⟨rfl, Nat.le_of_ble_eq_true rfl⟩ rfl ?_)
  unfold b_L_setPattern
  refine r_lawS (r_loc rfl rfl) (r_i2lM (r_cons (r_loc rfl rfl) (r_cons (r_loc rfl rfl) r_nil)) rfl (sp_X9_setPattern hS hp h6)) (fun n hn => ?_)
  · obtain ⟨h1, rfl⟩ := hn
    exact ⟨1, by decide, by decide, by decide, h1, rfl⟩
theorem sp_L_setThickness {S : q_Sg} {c w : Nat} (hS : r_ok S) {z v : Int} (hz : rg z) (hv : rg v) : r_X f_L_setThickness [.ref 16, iv z, iv v, .ref 68] (q_en S, c, w) (r_Q (fun ans T => ((0 ≤ z ∧ z < 12) ∧ 1 ≤ v ∧ v ≤ 3) ∧ ans = S.2.1 1 z ∧ T = q_sA S 1 (q_up (S.2.1 1) z v)) (fun k => (¬ (0 ≤ z ∧ z < 12) ∧ k = 1) ∨ ((0 ≤ z ∧ z < 12) ∧ ¬ (1 ≤ v ∧ v ≤ 3) ∧ k = 2)) S c w) := by
  refine r_Xof (r_run (L := [_, _, _, _, _]) ⟨rfl, Nat.le_of_ble_eq_true rfl⟩ rfl ?_)
  unfold b_L_setThickness
  refine r_lawS (r_loc rfl rfl) (r_i2lM (r_cons (r_loc rfl rfl) (r_cons (r_loc rfl rfl) (r_cons (r_loc rfl rfl) r_nil))) rfl (sp_X9_setThickness hS hz hv)) (fun n hn => ?_)
  · rcases hn with ⟨h1, rfl⟩ | ⟨h1, h2, rfl⟩
    · exact ⟨1, by decide, by decide, by decide, Or.inl ⟨h1, rfl⟩⟩
    · exact ⟨2, by decide, by decide, by decide, Or.inr ⟨h1, h2, rfl⟩⟩
theorem sp_L_setPause {S : q_Sg} {c w : Nat} (hS : r_ok S) {z : Int} {p : Prop} (hz : rg z) : r_X f_L_setPause [.ref 16, iv z, r_b p, .ref 68] (q_en S, c, w) (r_Q (fun ans T => (0 ≤ z ∧ z < 12) ∧ ans = r_z (¬ S.2.1 2 z = 0) ∧ T = q_sA S 2 (q_up (S.2.1 2) z (r_z p))) (fun k => ¬ (0 ≤ z ∧ z < 12) ∧ k = 1) S c w) := by
  refine r_Xof (r_run (L := [_, _, _, _, _]) ⟨rfl, Nat.le_of_ble_eq_true rfl⟩ rfl ?_)
  unfold b_L_setPause
  refine r_lawS (r_loc rfl rfl) (r_boolM (r_cons (r_loc rfl rfl) (r_cons (r_loc rfl rfl) (r_cons (r_loc rfl rfl) r_nil))) rfl (sp_X9_setPause hS hz) (fun ans T hP => by have := r_zd (¬ S.2.1 2 z = 0); rw [hP.2.1]; omega)) (fun n hn => ?_)
  · obtain ⟨h1, rfl⟩ := hn
    exact ⟨1, by decide, by decide, by decide, h1, rfl⟩
theorem sp_L_kindAt {S : q_Sg} {c w : Nat} (hS : r_ok S) (hK : SOK S.1 0) (hI : KCI S) {x y z : Int} (hx : rg x) (hy : rg y) (hz : rg z) : r_X f_L_kindAt [.ref 16, iv x, iv y, iv z, .ref 68] (q_en S, c, w) (r_Q (fun ans T => (inc x y z) ∧ ans = KND (S.2.1 0) S.1 0 x y z ∧ r_ok T ∧ r_fr [] [3, 4, 5] [] S T ∧ KCI T) (fun k => ¬ (inc x y z) ∧ k = 1) S c w) := by
  refine r_Xof (r_run (L := [_, _, _, _, _, _]) ⟨rfl, Nat.le_of_ble_eq_true rfl⟩ rfl ?_)
  unfold b_L_kindAt
  refine r_lawS (r_loc rfl rfl) (r_i2lM (r_cons (r_loc rfl rfl) (r_cons (r_loc rfl rfl) (r_cons (r_loc rfl rfl) (r_cons (r_loc rfl rfl) r_nil)))) rfl (sp_X9_kindAt hS hK hI hx hy hz)) (fun n hn => ?_)
  · obtain ⟨h1, rfl⟩ := hn
    exact ⟨1, by decide, by decide, by decide, h1, rfl⟩
theorem sp_L_hanging {S : q_Sg} {c w : Nat} (hS : r_ok S) {z : Int} (hz : rg z) : r_X f_L_hanging [.ref 16, iv z, .ref 68] (q_en S, c, w) (r_Q (fun ans T => (0 ≤ z ∧ z < 12) ∧ ans = cnt (fun k => HNG (S.2.1 0) (k % 12) (k / 12) z) 144 ∧ T = S) (fun k => ¬ (0 ≤ z ∧ z < 12) ∧ k = 1) S c w) := by
  refine r_Xof (r_run (L := [_, _, _, _]) ⟨rfl, Nat.le_of_ble_eq_true rfl⟩ rfl ?_)
  unfold b_L_hanging
  refine r_lawS (r_loc rfl rfl) (r_i2lM (r_cons (r_loc rfl rfl) (r_cons (r_loc rfl rfl) r_nil)) rfl (sp_X9_hanging hS hz)) (fun n hn => ?_)
  · obtain ⟨h1, rfl⟩ := hn
    exact ⟨1, by decide, by decide, by decide, h1, rfl⟩
theorem sp_L_outer {S : q_Sg} {c w : Nat} (hS : r_ok S) {z : Int} (hz : rg z) : r_X f_L_outer [.ref 16, iv z, .ref 68] (q_en S, c, w) (r_Q (fun ans T => (0 ≤ z ∧ z < 12) ∧ ans = cnt (CLS (S.2.1 0) 1 z) 144 ∧ r_ok T ∧ r_fr [7] [7, 6] [] S T) (fun k => ¬ (0 ≤ z ∧ z < 12) ∧ k = 1) S c w) := by
  refine r_Xof (r_run (L := [_, _, _, _]) ⟨rfl, Nat.le_of_ble_eq_true rfl⟩ rfl ?_)
  unfold b_L_outer
  refine r_lawS (r_loc rfl rfl) (r_i2lM (r_cons (r_loc rfl rfl) (r_cons (r_loc rfl rfl) r_nil)) rfl (sp_X9_outer hS hz)) (fun n hn => ?_)
  · obtain ⟨h1, rfl⟩ := hn
    exact ⟨1, by decide, by decide, by decide, h1, rfl⟩
theorem sp_L_inner {S : q_Sg} {c w : Nat} (hS : r_ok S) {z : Int} (hz : rg z) : r_X f_L_inner [.ref 16, iv z, .ref 68] (q_en S, c, w) (r_Q (fun ans T => (0 ≤ z ∧ z < 12) ∧ ans = cnt (CLS (S.2.1 0) 0 z) 144 ∧ r_ok T ∧ r_fr [7] [7, 6] [] S T) (fun k => ¬ (0 ≤ z ∧ z < 12) ∧ k = 1) S c w) := by
  refine r_Xof (r_run (L := [_, _, _, _]) ⟨rfl, Nat.le_of_ble_eq_true rfl⟩ rfl ?_)
  unfold b_L_inner
  refine r_lawS (r_loc rfl rfl) (r_i2lM (r_cons (r_loc rfl rfl) (r_cons (r_loc rfl rfl) r_nil)) rfl (sp_X9_inner hS hz)) (fun n hn => ?_)
  · obtain ⟨h1, rfl⟩ := hn
    exact ⟨1, by decide, by decide, by decide, h1, rfl⟩
theorem sp_L_outlinesByEdges {S : q_Sg} {c w : Nat} (hS : r_ok S) {z : Int} (hz : rg z) : r_X f_L_outlinesByEdges [.ref 16, iv z, .ref 68] (q_en S, c, w) (r_Q (fun ans T => (0 ≤ z ∧ z < 12) ∧ ans = cnt (ROL (S.2.1 0) z) 676 ∧ ∃ g, T = q_sA S 8 g ∧ ∀ j, rg (g j)) (fun k => ¬ (0 ≤ z ∧ z < 12) ∧ k = 1) S c w) := by
  refine r_Xof (r_run (L := [_, _, _, _]) ⟨rfl, Nat.le_of_ble_eq_true rfl⟩ rfl ?_)
  unfold b_L_outlinesByEdges
  refine r_lawS (r_loc rfl rfl) (r_i2lM (r_cons (r_loc rfl rfl) (r_cons (r_loc rfl rfl) r_nil)) rfl (sp_X9_outlinesByEdges hS hz)) (fun n hn => ?_)
  · obtain ⟨h1, rfl⟩ := hn
    exact ⟨1, by decide, by decide, by decide, h1, rfl⟩
theorem sp_L_edges {S : q_Sg} {c w : Nat} (hS : r_ok S) {z : Int} (hz : rg z) : r_X f_L_edges [.ref 16, iv z, .ref 68] (q_en S, c, w) (r_Q (fun ans T => (0 ≤ z ∧ z < 12) ∧ ans = cnt (fun e => EDG (S.2.1 0) z (e / 4 % 13) (e / 52) (e % 4)) 676 ∧ T = S) (fun k => ¬ (0 ≤ z ∧ z < 12) ∧ k = 1) S c w) := by
  refine r_Xof (r_run (L := [_, _, _, _]) ⟨rfl, Nat.le_of_ble_eq_true rfl⟩ rfl ?_)
  unfold b_L_edges
  refine r_lawS (r_loc rfl rfl) (r_i2lM (r_cons (r_loc rfl rfl) (r_cons (r_loc rfl rfl) r_nil)) rfl (sp_X9_edges hS hz)) (fun n hn => ?_)
  · obtain ⟨h1, rfl⟩ := hn
    exact ⟨1, by decide, by decide, by decide, h1, rfl⟩
theorem sp_L_strokes {S : q_Sg} {c w : Nat} (hS : r_ok S) (hK : SOK S.1 0) (hI : KCI S) {z : Int} (hz : rg z) : r_X f_L_strokes [.ref 16, iv z, .ref 68] (q_en S, c, w) (r_Q (fun ans T => (0 ≤ z ∧ z < 12) ∧ ans = sI (KL (S.2.1 0) S.1 0 z) 720 ∧ r_ok T ∧ r_fr [8] [3, 4, 5, 13, 12, 11, 10, 9] [] S T ∧ KCI T) (fun k => ¬ (0 ≤ z ∧ z < 12) ∧ k = 1) S c w) := by
  refine r_Xof (r_run (L := [_, _, _, _]) ⟨rfl, Nat.le_of_ble_eq_true rfl⟩ rfl ?_)
  unfold b_L_strokes
  refine r_lawS (r_loc rfl rfl) (r_i2lM (r_cons (r_loc rfl rfl) (r_cons (r_loc rfl rfl) r_nil)) rfl (sp_X9_strokes hS hK hI hz)) (fun n hn => ?_)
  · obtain ⟨h1, rfl⟩ := hn
    exact ⟨1, by decide, by decide, by decide, h1, rfl⟩
theorem sp_L_plan {S : q_Sg} {c w : Nat} (hS : r_ok S) (hK : SOK S.1 0) (hI : KCI S) (hth : ∀ z, (0 ≤ z ∧ z < 12) → 1 ≤ S.2.1 1 z ∧ S.2.1 1 z ≤ 3) : r_X f_L_plan [.ref 16, .ref 68] (q_en S, c, w) (r_Q (fun ans T => ¬ BSY (S.1 16) ∧ ans = ((PLN (S.2.1 0) S.1 0 (S.2.1 2) 12).length : Nat) ∧ r_ok T ∧ KCI T ∧ CREP T (PLN (S.2.1 0) S.1 0 (S.2.1 2) 12) (S.2.1 1) ∧ COK (PLN (S.2.1 0) S.1 0 (S.2.1 2) 12) ∧ (∀ j, 0 ≤ j → j < 12 → T.2.1 18 j = 10 * S.2.1 1 j) ∧ r_fr [12, 11, 10, 9, 8, 16, 22, 21, 18, 19, 20] [19, 18, 17, 16, 15, 14, 13, 12, 11, 10, 9, 3, 4, 5] [0] S T ∧ T.1 16 = 105 ∧ T.1 22 = 0 ∧ T.1 21 = -1 ∧ T.1 18 = 0 ∧ T.1 19 = 0 ∧ T.1 20 = 0) (fun k => BSY (S.1 16) ∧ k = 1) S c w) := by
  refine r_Xof (r_run (L := [_, _, _]) ⟨rfl, Nat.le_of_ble_eq_true rfl⟩ rfl ?_)
  unfold b_L_plan
  refine r_lawS (r_loc rfl rfl) (r_i2lM (r_cons (r_loc rfl rfl) r_nil) rfl (sp_X9_plan hS hK hI hth)) (fun n hn => ?_)
  · obtain ⟨h1, rfl⟩ := hn
    exact ⟨1, by decide, by decide, by decide, h1, rfl⟩
theorem sp_L_commandAt {S : q_Sg} {c w : Nat} (hS : r_ok S) {l : List qCmd} {th : Int → Int} (hc : CREP S l th) (hO : COK l) (hn : l.length ≤ 6936) {i : Int} (hi : rg i) : r_X f_L_commandAt [.ref 16, iv i, .ref 68] (q_en S, c, w) (r_Q (fun ans T => (0 ≤ i ∧ i < S.1 9) ∧ ans = (cg l i).1 ∧ T = S) (fun k => ¬ (0 ≤ i ∧ i < S.1 9) ∧ k = 1) S c w) := by
  refine r_Xof (r_run (L := [_, _, _, _]) ⟨rfl, Nat.le_of_ble_eq_true rfl⟩ rfl ?_)
  unfold b_L_commandAt
  refine r_lawS (r_loc rfl rfl) (r_i2lM (r_cons (r_loc rfl rfl) (r_cons (r_loc rfl rfl) r_nil)) rfl (sp_X9_commandAt hS hc hO hn hi)) (fun n hn => ?_)
  · obtain ⟨h1, rfl⟩ := hn
    exact ⟨1, by decide, by decide, by decide, h1, rfl⟩
theorem sp_L_numberAt {S : q_Sg} {c w : Nat} (hS : r_ok S) {l : List qCmd} {th : Int → Int} (hc : CREP S l th) (hO : COK l) (hn : l.length ≤ 6936) (hA : ∀ j, 0 ≤ j → j < 12 → S.2.1 18 j = 10 * th j) (hth : ∀ j, 0 ≤ j → j < 12 → 0 ≤ th j ∧ th j ≤ 3) {i q : Int} (hi : rg i) (hq : rg q) : r_X f_L_numberAt [.ref 16, iv i, iv q, .ref 68] (q_en S, c, w) (r_Q (fun ans T => ((0 ≤ i ∧ i < S.1 9) ∧ (q = 120 ∨ q = 121 ∨ q = 97 ∨ q = 122) ∧ ((q = 97 ∧ (cg l i).1 = 100) ∨ ((q = 120 ∨ q = 121) ∧ MV l i) ∨ (¬ q = 97 ∧ ¬ q = 120 ∧ ¬ q = 121 ∧ (cg l i).1 = 122))) ∧ ans = (r_i (q = 97) (cC l i * (10 * th (cg l i).2.2.2)) (r_i (q = 120) (cg l i).2.1 (r_i (q = 121) (cg l i).2.2.1 (cg l i).2.2.2))) ∧ T = S) (fun k => (¬ (0 ≤ i ∧ i < S.1 9) ∧ k = 1) ∨ ((0 ≤ i ∧ i < S.1 9) ∧ ¬ (q = 120 ∨ q = 121 ∨ q = 97 ∨ q = 122) ∧ k = 2) ∨ ((0 ≤ i ∧ i < S.1 9) ∧ (q = 120 ∨ q = 121 ∨ q = 97 ∨ q = 122) ∧ ¬ ((q = 97 ∧ (cg l i).1 = 100) ∨ ((q = 120 ∨ q = 121) ∧ MV l i) ∨ (¬ q = 97 ∧ ¬ q = 120 ∧ ¬ q = 121 ∧ (cg l i).1 = 122)) ∧ k = 3)) S c w) := by
  refine r_Xof (r_run (L := [_, _, _, _, _]) ⟨rfl, Nat.le_of_ble_eq_true rfl⟩ rfl ?_)
  unfold b_L_numberAt
  refine r_lawS (r_loc rfl rfl) (r_i2lM (r_cons (r_loc rfl rfl) (r_cons (r_loc rfl rfl) (r_cons (r_loc rfl rfl) r_nil))) rfl (sp_X9_numberAt hS hc hO hn hA hth hi hq)) (fun n hn => ?_)
  · rcases hn with ⟨h1, rfl⟩ | ⟨h1, h2, rfl⟩ | ⟨h1, h2, h3, rfl⟩
    · exact ⟨1, by decide, by decide, by decide, Or.inl ⟨h1, rfl⟩⟩
    · exact ⟨2, by decide, by decide, by decide, Or.inr (Or.inl ⟨h1, h2, rfl⟩)⟩
    · exact ⟨3, by decide, by decide, by decide, Or.inr (Or.inr ⟨h1, h2, h3, rfl⟩)⟩
theorem sp_L_setTarget {S : q_Sg} {c w : Nat} (hS : r_ok S) (h16 : 0 ≤ S.1 16 ∧ S.1 16 < 65536) (h17 : 0 ≤ S.1 17 ∧ S.1 17 < 65536) {v : Int} (hv : rg v) : r_X f_L_setTarget [.ref 16, iv v, .ref 68] (q_en S, c, w) (r_Q (fun ans T => ((0 ≤ v ∧ v ≤ 300) ∧ ¬ S.1 16 = 102) ∧ ans = S.1 13 ∧ T = q_sI S 13 v) (fun k => (¬ (0 ≤ v ∧ v ≤ 300) ∧ k = 1) ∨ ((0 ≤ v ∧ v ≤ 300) ∧ S.1 16 = 102 ∧ k = 2)) S c w) := by
  refine r_Xof (r_run (L := [_, _, _, _]) ⟨rfl, Nat.le_of_ble_eq_true rfl⟩ rfl ?_)
  unfold b_L_setTarget
  refine r_lawS (r_loc rfl rfl) (r_i2lM (r_cons (r_loc rfl rfl) (r_cons (r_loc rfl rfl) r_nil)) rfl (sp_X9_setTarget hS h16 h17 hv)) (fun n hn => ?_)
  · rcases hn with ⟨h1, rfl⟩ | ⟨h1, h2, rfl⟩
    · exact ⟨1, by decide, by decide, by decide, Or.inl ⟨h1, rfl⟩⟩
    · exact ⟨2, by decide, by decide, by decide, Or.inr ⟨h1, h2, rfl⟩⟩
theorem sp_L_print {S : q_Sg} {c w : Nat} (hS : r_ok S)  : r_X f_L_print [.ref 16, .ref 68] (q_en S, c, w) (r_Q (fun ans T => (¬ BSY (S.1 16) ∧ ¬ S.1 9 = 0) ∧ ans = S.1 9 ∧ ∃ g, T = q_sJ (q_sA (q_sI (q_sI (q_sI (q_sI (q_sI (q_sI S 16 114) 22 0) 21 (-1)) 18 0) 19 0) 20 0) 20 g) 2 0 ∧ (∀ j, g j = r_i (0 ≤ j ∧ j < 1728) 0 (S.2.1 20 j)) ∧ ∀ j, rg (g j)) (fun k => (BSY (S.1 16) ∨ S.1 9 = 0) ∧ k = 1) S c w) := by
  refine r_Xof (r_run (L := [_, _, _]) ⟨rfl, Nat.le_of_ble_eq_true rfl⟩ rfl ?_)
  unfold b_L_print
  refine r_lawS (r_loc rfl rfl) (r_i2lM (r_cons (r_loc rfl rfl) r_nil) rfl (sp_X9_print hS )) (fun n hn => ?_)
  · obtain ⟨h1, rfl⟩ := hn
    exact ⟨1, by decide, by decide, by decide, h1, rfl⟩
theorem sp_L_pass {S : q_Sg} {c w : Nat} (hS : r_ok S) {l : List qCmd} {th : Int → Int} (hc : CREP S l th) (hO : COK l) (hn : l.length ≤ 6936) (hA : ∀ j, 0 ≤ j → j < 12 → S.2.1 18 j = 10 * th j) (hC : CLK l) (hth : ∀ j, 0 ≤ j → j < 12 → 0 ≤ th j ∧ th j ≤ 3) (h13 : 0 ≤ S.1 13 ∧ S.1 13 ≤ 300) (hMI : MI l (mC S)) {B : Int} (hB : ∀ j, 0 ≤ S.2.1 20 j ∧ S.2.1 20 j ≤ B) (hB2 : B ≤ 90000000) {m : Int} (hm : rg m) : r_X f_L_pass [.ref 16, iv m, .ref 68] (q_en S, c, w) (r_Q (fun ans T => (1 ≤ m ∧ m ≤ 200) ∧ ∃ kz, r_ok T ∧ r_fr [21, 20, 19, 18, 16, 15, 14] [20] [2, 1] S T ∧ TKN l th (S.1 13) m.toNat (mC S) (mC T) kz ans ∧ T.1 21 = (if kz = -2 then S.1 21 else kz) ∧ T.2.2.1 2 - suml (T.2.1 20) 1728 = S.2.2.1 2 - suml (S.2.1 20) 1728 ∧ T.2.2.1 1 = S.2.2.1 1 + m ∧ MI l (mC T) ∧ ∀ j, 0 ≤ T.2.1 20 j ∧ T.2.1 20 j ≤ B + 30 * m) (fun k => ¬ (1 ≤ m ∧ m ≤ 200) ∧ k = 1) S c w) := by
  refine r_Xof (r_run (L := [_, _, _, _]) ⟨rfl, Nat.le_of_ble_eq_true rfl⟩ rfl ?_)
  unfold b_L_pass
  refine r_lawS (r_loc rfl rfl) (r_i2lM (r_cons (r_loc rfl rfl) (r_cons (r_loc rfl rfl) r_nil)) rfl (sp_X9_pass hS hc hO hn hA hC hth h13 hMI hB hB2 hm)) (fun n hn => ?_)
  · obtain ⟨h1, rfl⟩ := hn
    exact ⟨1, by decide, by decide, by decide, h1, rfl⟩
theorem sp_L_goOn {S : q_Sg} {c w : Nat} (hS : r_ok S) (h16 : 0 ≤ S.1 16 ∧ S.1 16 < 65536) (h17 : 0 ≤ S.1 17 ∧ S.1 17 < 65536) (h9 : 0 ≤ S.1 9 ∧ S.1 9 ≤ 6936) (h18 : 0 ≤ S.1 18 ∧ S.1 18 ≤ 6936) : r_X f_L_goOn [.ref 16, .ref 68] (q_en S, c, w) (r_Q (fun ans T => S.1 16 = 112 ∧ ans = S.1 9 - S.1 18 ∧ T = q_sI S 16 114) (fun k => ¬ S.1 16 = 112 ∧ k = 1) S c w) := by
  refine r_Xof (r_run (L := [_, _, _]) ⟨rfl, Nat.le_of_ble_eq_true rfl⟩ rfl ?_)
  unfold b_L_goOn
  refine r_lawS (r_loc rfl rfl) (r_i2lM (r_cons (r_loc rfl rfl) r_nil) rfl (sp_X9_goOn hS h16 h17 h9 h18)) (fun n hn => ?_)
  · obtain ⟨h1, rfl⟩ := hn
    exact ⟨1, by decide, by decide, by decide, h1, rfl⟩
theorem sp_L_fail {S : q_Sg} {c w : Nat} (hS : r_ok S) (h16 : 0 ≤ S.1 16 ∧ S.1 16 < 65536) (h17 : 0 ≤ S.1 17 ∧ S.1 17 < 65536)  : r_X f_L_fail [.ref 16, .ref 68] (q_en S, c, w) (r_Q (fun ans T => ¬ S.1 16 = 102 ∧ ans = S.1 16 ∧ T = q_sI (q_sI (q_sI (q_sI S 17 (S.1 16)) 16 102) 13 0) 20 0) (fun k => S.1 16 = 102 ∧ k = 1) S c w) := by
  refine r_Xof (r_run (L := [_, _, _]) ⟨rfl, Nat.le_of_ble_eq_true rfl⟩ rfl ?_)
  unfold b_L_fail
  refine r_lawS (r_loc rfl rfl) (r_i2lM (r_cons (r_loc rfl rfl) r_nil) rfl (sp_X9_fail hS h16 h17)) (fun n hn => ?_)
  · obtain ⟨h1, rfl⟩ := hn
    exact ⟨1, by decide, by decide, by decide, h1, rfl⟩
theorem sp_L_mend {S : q_Sg} {c w : Nat} (hS : r_ok S) (h16 : 0 ≤ S.1 16 ∧ S.1 16 < 65536) (h17 : 0 ≤ S.1 17 ∧ S.1 17 < 65536)  : r_X f_L_mend [.ref 16, .ref 68] (q_en S, c, w) (r_Q (fun ans T => S.1 16 = 102 ∧ ans = S.1 17 ∧ T = q_sI S 16 (S.1 17)) (fun k => ¬ S.1 16 = 102 ∧ k = 1) S c w) := by
  refine r_Xof (r_run (L := [_, _, _]) ⟨rfl, Nat.le_of_ble_eq_true rfl⟩ rfl ?_)
  unfold b_L_mend
  refine r_lawS (r_loc rfl rfl) (r_i2lM (r_cons (r_loc rfl rfl) r_nil) rfl (sp_X9_mend hS h16 h17)) (fun n hn => ?_)
  · obtain ⟨h1, rfl⟩ := hn
    exact ⟨1, by decide, by decide, by decide, h1, rfl⟩
theorem sp_L_resume {S : q_Sg} {c w : Nat} (hS : r_ok S) (h21 : rg (S.1 21))  : r_X f_L_resume [.ref 16, .ref 68] (q_en S, c, w) (r_Q (fun ans T => (S.1 16 = 105 ∧ ¬ S.1 22 = 0) ∧ ans = r_i (S.1 21 = -1) 0 (S.1 21) ∧ T = q_sI (q_sI (q_sI (q_sI S 16 114) 18 (r_i (S.1 21 = -1) 0 (S.1 21))) 19 0) 20 0) (fun k => ¬ (S.1 16 = 105 ∧ ¬ S.1 22 = 0) ∧ k = 1) S c w) := by
  refine r_Xof (r_run (L := [_, _, _]) ⟨rfl, Nat.le_of_ble_eq_true rfl⟩ rfl ?_)
  unfold b_L_resume
  refine r_lawS (r_loc rfl rfl) (r_i2lM (r_cons (r_loc rfl rfl) r_nil) rfl (sp_X9_resume hS h21)) (fun n hn => ?_)
  · obtain ⟨h1, rfl⟩ := hn
    exact ⟨1, by decide, by decide, by decide, h1, rfl⟩
theorem sp_L_laid {S : q_Sg} {c w : Nat} (hS : r_ok S) {x y z : Int} (hx : rg x) (hy : rg y) (hz : rg z) : r_X f_L_laid [.ref 16, iv x, iv y, iv z, .ref 68] (q_en S, c, w) (r_Q (fun ans T => (inc x y z) ∧ ans = S.2.1 20 (144 * z + 12 * y + x) ∧ T = S) (fun k => ¬ (inc x y z) ∧ k = 1) S c w) := by
  refine r_Xof (r_run (L := [_, _, _, _, _, _]) ⟨rfl, Nat.le_of_ble_eq_true rfl⟩ rfl ?_)
  unfold b_L_laid
  refine r_lawS (r_loc rfl rfl) (r_i2lM (r_cons (r_loc rfl rfl) (r_cons (r_loc rfl rfl) (r_cons (r_loc rfl rfl) (r_cons (r_loc rfl rfl) r_nil)))) rfl (sp_X9_laid hS hx hy hz)) (fun n hn => ?_)
  · obtain ⟨h1, rfl⟩ := hn
    exact ⟨1, by decide, by decide, by decide, h1, rfl⟩
