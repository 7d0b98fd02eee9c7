/-! the abstract heap as a function of a state: ints, arrays, longs, the double-/
theorem q_fit_long (i : Int64) : q_fit .long (.long i) = true := by
  unfold q_fit narrow fits
  simp
theorem q_toNat_of {v : Int} (h0 : 0 ≤ v) (h1 : v < 2147483648) : (Int32.ofInt v).toBitVec.toNat = v.toNat := by
  show (BitVec.ofInt 32 v).toNat = v.toNat
  rw [BitVec.toNat_ofInt]
  omega
theorem q_fit_char {v : Int} (h0 : 0 ≤ v) (h1 : v < 65536) : q_fit .char (.int (Int32.ofInt v)) = true := by
  have hn := q_toNat_of h0 (by omega : v < 2147483648)
  have ht : (Int32.ofInt v).toInt = v := Int32.toInt_ofInt_of_le (by omega) (by omega)
  have h2 : (Int32.ofInt v).toUInt32.toUInt16.toUInt32.toInt32 = Int32.ofInt v := by
    apply Int32.toBitVec_inj.mp
    apply BitVec.eq_of_toNat_eq
    show (((Int32.ofInt v).toBitVec.setWidth 16).setWidth 32).toNat = _
    rw [BitVec.toNat_setWidth, BitVec.toNat_setWidth, hn]
    omega
  have h3 : (0 : Int32) ≤ Int32.ofInt v := by rw [Int32.le_iff_toInt_le, ht]; exact h0
  have h4 : Int32.ofInt v ≤ (65535 : Int32) := by rw [Int32.le_iff_toInt_le, ht]; show v ≤ 65535; omega
  unfold q_fit narrow fits
  simp only [h2, h3, h4]
  simp
theorem q_fit_bool {v : Int} (h0 : 0 ≤ v) (h1 : v < 2) : q_fit .boolean (.int (Int32.ofInt v)) = true := by
  rcases (show v = 0 ∨ v = 1 by omega) with rfl | rfl <;> decide +kernel
abbrev q_Sg : Type := (Nat → Int) × (Nat → Int → Int) × (Nat → Int) × List qC
def q_en (S : q_Sg) : List qC := [.inr (11, [.ref 17, .ref 19, .ref 22, .ref 26, .ref 30, .ref 36, .ref 42, .ref 44, .ref 45]),
  .inr (2, [.ref 18]),
  .inl (.boolean, 1728, .inl (fun j => Int32.ofInt (S.2.1 0 (j : Nat)))),
  .inr (9, [.int (Int32.ofInt (S.1 0)), .int (Int32.ofInt (S.1 1)), .int (Int32.ofInt (S.1 2)), .int (Int32.ofInt (S.1 3)), .int (Int32.ofInt (S.1 4)), .int (Int32.ofInt (S.1 5)), .int (Int32.ofInt (S.1 6)), .ref 20, .ref 21]),
  .inl (.int, 12, .inl (fun j => Int32.ofInt (S.2.1 1 (j : Nat)))),
  .inl (.boolean, 12, .inl (fun j => Int32.ofInt (S.2.1 2 (j : Nat)))),
  .inr (5, [.ref 17, .ref 19, .ref 23, .ref 24, .ref 25]),
  .inl (.char, 1728, .inl (fun j => Int32.ofInt (S.2.1 3 (j : Nat)))),
  .inl (.boolean, 12, .inl (fun j => Int32.ofInt (S.2.1 4 (j : Nat)))),
  .inl (.int, 144, .inl (fun j => Int32.ofInt (S.2.1 5 (j : Nat)))),
  .inr (7, [.ref 17, .ref 27, .ref 28, .int (Int32.ofInt (S.1 7)), .ref 29]),
  .inl (.boolean, 144, .inl (fun j => Int32.ofInt (S.2.1 6 (j : Nat)))),
  .inl (.int, 144, .inl (fun j => Int32.ofInt (S.2.1 7 (j : Nat)))),
  .inl (.boolean, 676, .inl (fun j => Int32.ofInt (S.2.1 8 (j : Nat)))),
  .inr (10, [.ref 22, .ref 31, .ref 32, .ref 33, .ref 34, .ref 35, .int (Int32.ofInt (S.1 8))]),
  .inl (.char, 144, .inl (fun j => Int32.ofInt (S.2.1 9 (j : Nat)))),
  .inl (.int, 144, .inl (fun j => Int32.ofInt (S.2.1 10 (j : Nat)))),
  .inl (.int, 144, .inl (fun j => Int32.ofInt (S.2.1 11 (j : Nat)))),
  .inl (.int, 144, .inl (fun j => Int32.ofInt (S.2.1 12 (j : Nat)))),
  .inl (.int, 144, .inl (fun j => Int32.ofInt (S.2.1 13 (j : Nat)))),
  .inr (3, [.ref 37, .ref 38, .ref 39, .ref 40, .ref 41, .int (Int32.ofInt (S.1 9)), .int (Int32.ofInt (S.1 10)), .long (Int64.ofInt (S.2.2.1 0))]),
  .inl (.char, 6936, .inl (fun j => Int32.ofInt (S.2.1 14 (j : Nat)))),
  .inl (.int, 6936, .inl (fun j => Int32.ofInt (S.2.1 15 (j : Nat)))),
  .inl (.int, 6936, .inl (fun j => Int32.ofInt (S.2.1 16 (j : Nat)))),
  .inl (.int, 6936, .inl (fun j => Int32.ofInt (S.2.1 17 (j : Nat)))),
  .inl (.int, 12, .inl (fun j => Int32.ofInt (S.2.1 18 (j : Nat)))),
  .inr (8, [.ref 19, .ref 30, .ref 36, .ref 43, .int (Int32.ofInt (S.1 11)), .int (Int32.ofInt (S.1 12))]),
  .inl (.boolean, 144, .inl (fun j => Int32.ofInt (S.2.1 19 (j : Nat)))),
  .inr (4, [.int (Int32.ofInt (S.1 13)), .int (Int32.ofInt (S.1 14)), .int (Int32.ofInt (S.1 15))]),
  .inr (6, [.ref 36, .ref 44, .int (Int32.ofInt (S.1 16)), .int (Int32.ofInt (S.1 17)), .int (Int32.ofInt (S.1 18)), .int (Int32.ofInt (S.1 19)), .int (Int32.ofInt (S.1 20)), .int (Int32.ofInt (S.1 21)), .int (Int32.ofInt (S.1 22)), .long (Int64.ofInt (S.2.2.1 1)), .ref 46, .long (Int64.ofInt (S.2.2.1 2))]),
  .inl (.int, 1728, .inl (fun j => Int32.ofInt (S.2.1 20 (j : Nat)))),
  .inl (.int, 12, .inl (fun j => Int32.ofInt (S.2.1 21 (j : Nat))))] ++ S.2.2.2
def q_sI (S : q_Sg) (k : Nat) (v : Int) : q_Sg := (fun j => if j = k then v else S.1 j, S.2)
def q_sA (S : q_Sg) (k : Nat) (g : Int → Int) : q_Sg := (S.1, fun j => if j = k then g else S.2.1 j, S.2.2)
def q_sJ (S : q_Sg) (k : Nat) (v : Int) : q_Sg := (S.1, S.2.1, fun j => if j = k then v else S.2.2.1 j, S.2.2.2)
def q_sD (S : q_Sg) (v : List qC) : q_Sg := (S.1, S.2.1, S.2.2.1, v)
def q_up (g : Int → Int) (j v : Int) : Int → Int := fun z => if z = j then v else g z
theorem gg_SW_body {S : q_Sg} {c w : Nat} : q_gFld 4 11 0 (q_en S, c, w) (.ref 16) = some (.ref 17) := rfl
theorem gg_SW_settings {S : q_Sg} {c w : Nat} : q_gFld 4 11 1 (q_en S, c, w) (.ref 16) = some (.ref 19) := rfl
theorem gg_SW_kinds {S : q_Sg} {c w : Nat} : q_gFld 4 11 2 (q_en S, c, w) (.ref 16) = some (.ref 22) := rfl
theorem gg_SW_outlines {S : q_Sg} {c w : Nat} : q_gFld 4 11 3 (q_en S, c, w) (.ref 16) = some (.ref 26) := rfl
theorem gg_SW_layerStrokes {S : q_Sg} {c w : Nat} : q_gFld 4 11 4 (q_en S, c, w) (.ref 16) = some (.ref 30) := rfl
theorem gg_SW_commandList {S : q_Sg} {c w : Nat} : q_gFld 4 11 5 (q_en S, c, w) (.ref 16) = some (.ref 36) := rfl
theorem gg_SW_planner {S : q_Sg} {c w : Nat} : q_gFld 4 11 6 (q_en S, c, w) (.ref 16) = some (.ref 42) := rfl
theorem gg_SW_heat {S : q_Sg} {c w : Nat} : q_gFld 4 11 7 (q_en S, c, w) (.ref 16) = some (.ref 44) := rfl
theorem gg_SW_machine {S : q_Sg} {c w : Nat} : q_gFld 4 11 8 (q_en S, c, w) (.ref 16) = some (.ref 45) := rfl
theorem gg_Body_solid {S : q_Sg} {c w : Nat} : q_gFld 4 2 0 (q_en S, c, w) (.ref 17) = some (.ref 18) := rfl
theorem gg_Settings_walls {S : q_Sg} {c w : Nat} : q_gFld 0 9 0 (q_en S, c, w) (.ref 19) = some (.int (Int32.ofInt (S.1 0))) := rfl
theorem gp_Settings_walls {S : q_Sg} {c w : Nat} {v : Int} : q_pFld .int 9 0 (q_en S, c, w) (.ref 19) (.int (Int32.ofInt v)) = some (q_en (q_sI S 0 v), c, w) := by
  unfold q_pFld
  rw [if_pos (q_fit_int _)]
  rfl
theorem gg_Settings_skins {S : q_Sg} {c w : Nat} : q_gFld 0 9 1 (q_en S, c, w) (.ref 19) = some (.int (Int32.ofInt (S.1 1))) := rfl
theorem gp_Settings_skins {S : q_Sg} {c w : Nat} {v : Int} : q_pFld .int 9 1 (q_en S, c, w) (.ref 19) (.int (Int32.ofInt v)) = some (q_en (q_sI S 1 v), c, w) := by
  unfold q_pFld
  rw [if_pos (q_fit_int _)]
  rfl
theorem gg_Settings_spread {S : q_Sg} {c w : Nat} : q_gFld 0 9 2 (q_en S, c, w) (.ref 19) = some (.int (Int32.ofInt (S.1 2))) := rfl
theorem gp_Settings_spread {S : q_Sg} {c w : Nat} {v : Int} : q_pFld .int 9 2 (q_en S, c, w) (.ref 19) (.int (Int32.ofInt v)) = some (q_en (q_sI S 2 v), c, w) := by
  unfold q_pFld
  rw [if_pos (q_fit_int _)]
  rfl
theorem gg_Settings_supports {S : q_Sg} {c w : Nat} : q_gFld 0 9 3 (q_en S, c, w) (.ref 19) = some (.int (Int32.ofInt (S.1 3))) := rfl
theorem gp_Settings_supports {S : q_Sg} {c w : Nat} {v : Int} : q_pFld .int 9 3 (q_en S, c, w) (.ref 19) (.int (Int32.ofInt v)) = some (q_en (q_sI S 3 v), c, w) := by
  unfold q_pFld
  rw [if_pos (q_fit_int _)]
  rfl
theorem gg_Settings_gap {S : q_Sg} {c w : Nat} : q_gFld 0 9 4 (q_en S, c, w) (.ref 19) = some (.int (Int32.ofInt (S.1 4))) := rfl
theorem gp_Settings_gap {S : q_Sg} {c w : Nat} {v : Int} : q_pFld .int 9 4 (q_en S, c, w) (.ref 19) (.int (Int32.ofInt v)) = some (q_en (q_sI S 4 v), c, w) := by
  unfold q_pFld
  rw [if_pos (q_fit_int _)]
  rfl
theorem gg_Settings_reach {S : q_Sg} {c w : Nat} : q_gFld 0 9 5 (q_en S, c, w) (.ref 19) = some (.int (Int32.ofInt (S.1 5))) := rfl
theorem gp_Settings_reach {S : q_Sg} {c w : Nat} {v : Int} : q_pFld .int 9 5 (q_en S, c, w) (.ref 19) (.int (Int32.ofInt v)) = some (q_en (q_sI S 5 v), c, w) := by
  unfold q_pFld
  rw [if_pos (q_fit_int _)]
  rfl
theorem gg_Settings_pattern {S : q_Sg} {c w : Nat} : q_gFld 0 9 6 (q_en S, c, w) (.ref 19) = some (.int (Int32.ofInt (S.1 6))) := rfl
theorem gp_Settings_pattern {S : q_Sg} {c w : Nat} {v : Int} (h0 : 0 ≤ v) (h1 : v < 65536) : q_pFld .char 9 6 (q_en S, c, w) (.ref 19) (.int (Int32.ofInt v)) = some (q_en (q_sI S 6 v), c, w) := by
  unfold q_pFld
  rw [if_pos (q_fit_char h0 h1)]
  rfl
theorem gg_Settings_thickness {S : q_Sg} {c w : Nat} : q_gFld 4 9 7 (q_en S, c, w) (.ref 19) = some (.ref 20) := rfl
theorem gg_Settings_pause {S : q_Sg} {c w : Nat} : q_gFld 4 9 8 (q_en S, c, w) (.ref 19) = some (.ref 21) := rfl
theorem gg_Kinds_body {S : q_Sg} {c w : Nat} : q_gFld 4 5 0 (q_en S, c, w) (.ref 22) = some (.ref 17) := rfl
theorem gg_Kinds_settings {S : q_Sg} {c w : Nat} : q_gFld 4 5 1 (q_en S, c, w) (.ref 22) = some (.ref 19) := rfl
theorem gg_Kinds_kind {S : q_Sg} {c w : Nat} : q_gFld 4 5 2 (q_en S, c, w) (.ref 22) = some (.ref 23) := rfl
theorem gg_Kinds_isKnown {S : q_Sg} {c w : Nat} : q_gFld 4 5 3 (q_en S, c, w) (.ref 22) = some (.ref 24) := rfl
theorem gg_Kinds_wall {S : q_Sg} {c w : Nat} : q_gFld 4 5 4 (q_en S, c, w) (.ref 22) = some (.ref 25) := rfl
theorem gg_Outlines_body {S : q_Sg} {c w : Nat} : q_gFld 4 7 0 (q_en S, c, w) (.ref 26) = some (.ref 17) := rfl
theorem gg_Outlines_isSeen {S : q_Sg} {c w : Nat} : q_gFld 4 7 1 (q_en S, c, w) (.ref 26) = some (.ref 27) := rfl
theorem gg_Outlines_found {S : q_Sg} {c w : Nat} : q_gFld 4 7 2 (q_en S, c, w) (.ref 26) = some (.ref 28) := rfl
theorem gg_Outlines_foundCount {S : q_Sg} {c w : Nat} : q_gFld 0 7 3 (q_en S, c, w) (.ref 26) = some (.int (Int32.ofInt (S.1 7))) := rfl
theorem gp_Outlines_foundCount {S : q_Sg} {c w : Nat} {v : Int} : q_pFld .int 7 3 (q_en S, c, w) (.ref 26) (.int (Int32.ofInt v)) = some (q_en (q_sI S 7 v), c, w) := by
  unfold q_pFld
  rw [if_pos (q_fit_int _)]
  rfl
theorem gg_Outlines_isGone {S : q_Sg} {c w : Nat} : q_gFld 4 7 4 (q_en S, c, w) (.ref 26) = some (.ref 29) := rfl
theorem gg_Strokes_kinds {S : q_Sg} {c w : Nat} : q_gFld 4 10 0 (q_en S, c, w) (.ref 30) = some (.ref 22) := rfl
theorem gg_Strokes_kind {S : q_Sg} {c w : Nat} : q_gFld 4 10 1 (q_en S, c, w) (.ref 30) = some (.ref 31) := rfl
theorem gg_Strokes_firstX {S : q_Sg} {c w : Nat} : q_gFld 4 10 2 (q_en S, c, w) (.ref 30) = some (.ref 32) := rfl
theorem gg_Strokes_firstY {S : q_Sg} {c w : Nat} : q_gFld 4 10 3 (q_en S, c, w) (.ref 30) = some (.ref 33) := rfl
theorem gg_Strokes_lastX {S : q_Sg} {c w : Nat} : q_gFld 4 10 4 (q_en S, c, w) (.ref 30) = some (.ref 34) := rfl
theorem gg_Strokes_lastY {S : q_Sg} {c w : Nat} : q_gFld 4 10 5 (q_en S, c, w) (.ref 30) = some (.ref 35) := rfl
theorem gg_Strokes_count {S : q_Sg} {c w : Nat} : q_gFld 0 10 6 (q_en S, c, w) (.ref 30) = some (.int (Int32.ofInt (S.1 8))) := rfl
theorem gp_Strokes_count {S : q_Sg} {c w : Nat} {v : Int} : q_pFld .int 10 6 (q_en S, c, w) (.ref 30) (.int (Int32.ofInt v)) = some (q_en (q_sI S 8 v), c, w) := by
  unfold q_pFld
  rw [if_pos (q_fit_int _)]
  rfl
theorem gg_Commands_kind {S : q_Sg} {c w : Nat} : q_gFld 4 3 0 (q_en S, c, w) (.ref 36) = some (.ref 37) := rfl
theorem gg_Commands_headX {S : q_Sg} {c w : Nat} : q_gFld 4 3 1 (q_en S, c, w) (.ref 36) = some (.ref 38) := rfl
theorem gg_Commands_headY {S : q_Sg} {c w : Nat} : q_gFld 4 3 2 (q_en S, c, w) (.ref 36) = some (.ref 39) := rfl
theorem gg_Commands_layer {S : q_Sg} {c w : Nat} : q_gFld 4 3 3 (q_en S, c, w) (.ref 36) = some (.ref 40) := rfl
theorem gg_Commands_amountOfCell {S : q_Sg} {c w : Nat} : q_gFld 4 3 4 (q_en S, c, w) (.ref 36) = some (.ref 41) := rfl
theorem gg_Commands_count {S : q_Sg} {c w : Nat} : q_gFld 0 3 5 (q_en S, c, w) (.ref 36) = some (.int (Int32.ofInt (S.1 9))) := rfl
theorem gp_Commands_count {S : q_Sg} {c w : Nat} {v : Int} : q_pFld .int 3 5 (q_en S, c, w) (.ref 36) (.int (Int32.ofInt v)) = some (q_en (q_sI S 9 v), c, w) := by
  unfold q_pFld
  rw [if_pos (q_fit_int _)]
  rfl
theorem gg_Commands_travel {S : q_Sg} {c w : Nat} : q_gFld 0 3 6 (q_en S, c, w) (.ref 36) = some (.int (Int32.ofInt (S.1 10))) := rfl
theorem gp_Commands_travel {S : q_Sg} {c w : Nat} {v : Int} : q_pFld .int 3 6 (q_en S, c, w) (.ref 36) (.int (Int32.ofInt v)) = some (q_en (q_sI S 10 v), c, w) := by
  unfold q_pFld
  rw [if_pos (q_fit_int _)]
  rfl
theorem gg_Commands_amount {S : q_Sg} {c w : Nat} : q_gFld 1 3 7 (q_en S, c, w) (.ref 36) = some (.long (Int64.ofInt (S.2.2.1 0))) := rfl
theorem gp_Commands_amount {S : q_Sg} {c w : Nat} {v : Int} : q_pFld .long 3 7 (q_en S, c, w) (.ref 36) (.long (Int64.ofInt v)) = some (q_en (q_sJ S 0 v), c, w) := by
  unfold q_pFld
  rw [if_pos (q_fit_long _)]
  rfl
theorem gg_Planner_settings {S : q_Sg} {c w : Nat} : q_gFld 4 8 0 (q_en S, c, w) (.ref 42) = some (.ref 19) := rfl
theorem gg_Planner_strokes {S : q_Sg} {c w : Nat} : q_gFld 4 8 1 (q_en S, c, w) (.ref 42) = some (.ref 30) := rfl
theorem gg_Planner_commands {S : q_Sg} {c w : Nat} : q_gFld 4 8 2 (q_en S, c, w) (.ref 42) = some (.ref 36) := rfl
theorem gg_Planner_isDrawn {S : q_Sg} {c w : Nat} : q_gFld 4 8 3 (q_en S, c, w) (.ref 42) = some (.ref 43) := rfl
theorem gg_Planner_headX {S : q_Sg} {c w : Nat} : q_gFld 0 8 4 (q_en S, c, w) (.ref 42) = some (.int (Int32.ofInt (S.1 11))) := rfl
theorem gp_Planner_headX {S : q_Sg} {c w : Nat} {v : Int} : q_pFld .int 8 4 (q_en S, c, w) (.ref 42) (.int (Int32.ofInt v)) = some (q_en (q_sI S 11 v), c, w) := by
  unfold q_pFld
  rw [if_pos (q_fit_int _)]
  rfl
theorem gg_Planner_headY {S : q_Sg} {c w : Nat} : q_gFld 0 8 5 (q_en S, c, w) (.ref 42) = some (.int (Int32.ofInt (S.1 12))) := rfl
theorem gp_Planner_headY {S : q_Sg} {c w : Nat} {v : Int} : q_pFld .int 8 5 (q_en S, c, w) (.ref 42) (.int (Int32.ofInt v)) = some (q_en (q_sI S 12 v), c, w) := by
  unfold q_pFld
  rw [if_pos (q_fit_int _)]
  rfl
theorem gg_Heat_target {S : q_Sg} {c w : Nat} : q_gFld 0 4 0 (q_en S, c, w) (.ref 44) = some (.int (Int32.ofInt (S.1 13))) := rfl
theorem gp_Heat_target {S : q_Sg} {c w : Nat} {v : Int} : q_pFld .int 4 0 (q_en S, c, w) (.ref 44) (.int (Int32.ofInt v)) = some (q_en (q_sI S 13 v), c, w) := by
  unfold q_pFld
  rw [if_pos (q_fit_int _)]
  rfl
theorem gg_Heat_temperature {S : q_Sg} {c w : Nat} : q_gFld 0 4 1 (q_en S, c, w) (.ref 44) = some (.int (Int32.ofInt (S.1 14))) := rfl
theorem gp_Heat_temperature {S : q_Sg} {c w : Nat} {v : Int} : q_pFld .int 4 1 (q_en S, c, w) (.ref 44) (.int (Int32.ofInt v)) = some (q_en (q_sI S 14 v), c, w) := by
  unfold q_pFld
  rw [if_pos (q_fit_int _)]
  rfl
theorem gg_Heat_isOn {S : q_Sg} {c w : Nat} : q_gFld 0 4 2 (q_en S, c, w) (.ref 44) = some (.int (Int32.ofInt (S.1 15))) := rfl
theorem gp_Heat_isOn {S : q_Sg} {c w : Nat} {v : Int} (h0 : 0 ≤ v) (h1 : v < 2) : q_pFld .boolean 4 2 (q_en S, c, w) (.ref 44) (.int (Int32.ofInt v)) = some (q_en (q_sI S 15 v), c, w) := by
  unfold q_pFld
  rw [if_pos (q_fit_bool h0 h1)]
  rfl
theorem gg_Machine_commands {S : q_Sg} {c w : Nat} : q_gFld 4 6 0 (q_en S, c, w) (.ref 45) = some (.ref 36) := rfl
theorem gg_Machine_heat {S : q_Sg} {c w : Nat} : q_gFld 4 6 1 (q_en S, c, w) (.ref 45) = some (.ref 44) := rfl
theorem gg_Machine_state {S : q_Sg} {c w : Nat} : q_gFld 0 6 2 (q_en S, c, w) (.ref 45) = some (.int (Int32.ofInt (S.1 16))) := rfl
theorem gp_Machine_state {S : q_Sg} {c w : Nat} {v : Int} (h0 : 0 ≤ v) (h1 : v < 65536) : q_pFld .char 6 2 (q_en S, c, w) (.ref 45) (.int (Int32.ofInt v)) = some (q_en (q_sI S 16 v), c, w) := by
  unfold q_pFld
  rw [if_pos (q_fit_char h0 h1)]
  rfl
theorem gg_Machine_stateBeforeFailure {S : q_Sg} {c w : Nat} : q_gFld 0 6 3 (q_en S, c, w) (.ref 45) = some (.int (Int32.ofInt (S.1 17))) := rfl
theorem gp_Machine_stateBeforeFailure {S : q_Sg} {c w : Nat} {v : Int} (h0 : 0 ≤ v) (h1 : v < 65536) : q_pFld .char 6 3 (q_en S, c, w) (.ref 45) (.int (Int32.ofInt v)) = some (q_en (q_sI S 17 v), c, w) := by
  unfold q_pFld
  rw [if_pos (q_fit_char h0 h1)]
  rfl
theorem gg_Machine_next {S : q_Sg} {c w : Nat} : q_gFld 0 6 4 (q_en S, c, w) (.ref 45) = some (.int (Int32.ofInt (S.1 18))) := rfl
theorem gp_Machine_next {S : q_Sg} {c w : Nat} {v : Int} : q_pFld .int 6 4 (q_en S, c, w) (.ref 45) (.int (Int32.ofInt v)) = some (q_en (q_sI S 18 v), c, w) := by
  unfold q_pFld
  rw [if_pos (q_fit_int _)]
  rfl
theorem gg_Machine_gone {S : q_Sg} {c w : Nat} : q_gFld 0 6 5 (q_en S, c, w) (.ref 45) = some (.int (Int32.ofInt (S.1 19))) := rfl
theorem gp_Machine_gone {S : q_Sg} {c w : Nat} {v : Int} : q_pFld .int 6 5 (q_en S, c, w) (.ref 45) (.int (Int32.ofInt v)) = some (q_en (q_sI S 19 v), c, w) := by
  unfold q_pFld
  rw [if_pos (q_fit_int _)]
  rfl
theorem gg_Machine_speed {S : q_Sg} {c w : Nat} : q_gFld 0 6 6 (q_en S, c, w) (.ref 45) = some (.int (Int32.ofInt (S.1 20))) := rfl
theorem gp_Machine_speed {S : q_Sg} {c w : Nat} {v : Int} : q_pFld .int 6 6 (q_en S, c, w) (.ref 45) (.int (Int32.ofInt v)) = some (q_en (q_sI S 20 v), c, w) := by
  unfold q_pFld
  rw [if_pos (q_fit_int _)]
  rfl
theorem gg_Machine_kept {S : q_Sg} {c w : Nat} : q_gFld 0 6 7 (q_en S, c, w) (.ref 45) = some (.int (Int32.ofInt (S.1 21))) := rfl
theorem gp_Machine_kept {S : q_Sg} {c w : Nat} {v : Int} : q_pFld .int 6 7 (q_en S, c, w) (.ref 45) (.int (Int32.ofInt v)) = some (q_en (q_sI S 21 v), c, w) := by
  unfold q_pFld
  rw [if_pos (q_fit_int _)]
  rfl
theorem gg_Machine_wasCut {S : q_Sg} {c w : Nat} : q_gFld 0 6 8 (q_en S, c, w) (.ref 45) = some (.int (Int32.ofInt (S.1 22))) := rfl
theorem gp_Machine_wasCut {S : q_Sg} {c w : Nat} {v : Int} (h0 : 0 ≤ v) (h1 : v < 2) : q_pFld .boolean 6 8 (q_en S, c, w) (.ref 45) (.int (Int32.ofInt v)) = some (q_en (q_sI S 22 v), c, w) := by
  unfold q_pFld
  rw [if_pos (q_fit_bool h0 h1)]
  rfl
theorem gg_Machine_time {S : q_Sg} {c w : Nat} : q_gFld 1 6 9 (q_en S, c, w) (.ref 45) = some (.long (Int64.ofInt (S.2.2.1 1))) := rfl
theorem gp_Machine_time {S : q_Sg} {c w : Nat} {v : Int} : q_pFld .long 6 9 (q_en S, c, w) (.ref 45) (.long (Int64.ofInt v)) = some (q_en (q_sJ S 1 v), c, w) := by
  unfold q_pFld
  rw [if_pos (q_fit_long _)]
  rfl
theorem gg_Machine_laid {S : q_Sg} {c w : Nat} : q_gFld 4 6 10 (q_en S, c, w) (.ref 45) = some (.ref 46) := rfl
theorem gg_Machine_laidInAll {S : q_Sg} {c w : Nat} : q_gFld 1 6 11 (q_en S, c, w) (.ref 45) = some (.long (Int64.ofInt (S.2.2.1 2))) := rfl
theorem gp_Machine_laidInAll {S : q_Sg} {c w : Nat} {v : Int} : q_pFld .long 6 11 (q_en S, c, w) (.ref 45) (.long (Int64.ofInt v)) = some (q_en (q_sJ S 2 v), c, w) := by
  unfold q_pFld
  rw [if_pos (q_fit_long _)]
  rfl
theorem ga_Body_solid {S : q_Sg} {c w : Nat} : q_arr (q_en S, c, w) (.ref 18) = some (.boolean, 1728, .inl (fun j => Int32.ofInt (S.2.1 0 (j : Nat)))) := rfl
theorem gs_Body_solid {S : q_Sg} {c w : Nat} {g : Int → Int} : q_setA (q_en S, c, w) (.ref 18) (.boolean, 1728, .inl (fun j => Int32.ofInt (g (j : Nat)))) = (q_en (q_sA S 0 g), c, w) := rfl
theorem ga_Settings_thickness {S : q_Sg} {c w : Nat} : q_arr (q_en S, c, w) (.ref 20) = some (.int, 12, .inl (fun j => Int32.ofInt (S.2.1 1 (j : Nat)))) := rfl
theorem gs_Settings_thickness {S : q_Sg} {c w : Nat} {g : Int → Int} : q_setA (q_en S, c, w) (.ref 20) (.int, 12, .inl (fun j => Int32.ofInt (g (j : Nat)))) = (q_en (q_sA S 1 g), c, w) := rfl
theorem ga_Settings_pause {S : q_Sg} {c w : Nat} : q_arr (q_en S, c, w) (.ref 21) = some (.boolean, 12, .inl (fun j => Int32.ofInt (S.2.1 2 (j : Nat)))) := rfl
theorem gs_Settings_pause {S : q_Sg} {c w : Nat} {g : Int → Int} : q_setA (q_en S, c, w) (.ref 21) (.boolean, 12, .inl (fun j => Int32.ofInt (g (j : Nat)))) = (q_en (q_sA S 2 g), c, w) := rfl
theorem ga_Kinds_kind {S : q_Sg} {c w : Nat} : q_arr (q_en S, c, w) (.ref 23) = some (.char, 1728, .inl (fun j => Int32.ofInt (S.2.1 3 (j : Nat)))) := rfl
theorem gs_Kinds_kind {S : q_Sg} {c w : Nat} {g : Int → Int} : q_setA (q_en S, c, w) (.ref 23) (.char, 1728, .inl (fun j => Int32.ofInt (g (j : Nat)))) = (q_en (q_sA S 3 g), c, w) := rfl
theorem ga_Kinds_isKnown {S : q_Sg} {c w : Nat} : q_arr (q_en S, c, w) (.ref 24) = some (.boolean, 12, .inl (fun j => Int32.ofInt (S.2.1 4 (j : Nat)))) := rfl
theorem gs_Kinds_isKnown {S : q_Sg} {c w : Nat} {g : Int → Int} : q_setA (q_en S, c, w) (.ref 24) (.boolean, 12, .inl (fun j => Int32.ofInt (g (j : Nat)))) = (q_en (q_sA S 4 g), c, w) := rfl
theorem ga_Kinds_wall {S : q_Sg} {c w : Nat} : q_arr (q_en S, c, w) (.ref 25) = some (.int, 144, .inl (fun j => Int32.ofInt (S.2.1 5 (j : Nat)))) := rfl
theorem gs_Kinds_wall {S : q_Sg} {c w : Nat} {g : Int → Int} : q_setA (q_en S, c, w) (.ref 25) (.int, 144, .inl (fun j => Int32.ofInt (g (j : Nat)))) = (q_en (q_sA S 5 g), c, w) := rfl
theorem ga_Outlines_isSeen {S : q_Sg} {c w : Nat} : q_arr (q_en S, c, w) (.ref 27) = some (.boolean, 144, .inl (fun j => Int32.ofInt (S.2.1 6 (j : Nat)))) := rfl
theorem gs_Outlines_isSeen {S : q_Sg} {c w : Nat} {g : Int → Int} : q_setA (q_en S, c, w) (.ref 27) (.boolean, 144, .inl (fun j => Int32.ofInt (g (j : Nat)))) = (q_en (q_sA S 6 g), c, w) := rfl
theorem ga_Outlines_found {S : q_Sg} {c w : Nat} : q_arr (q_en S, c, w) (.ref 28) = some (.int, 144, .inl (fun j => Int32.ofInt (S.2.1 7 (j : Nat)))) := rfl
theorem gs_Outlines_found {S : q_Sg} {c w : Nat} {g : Int → Int} : q_setA (q_en S, c, w) (.ref 28) (.int, 144, .inl (fun j => Int32.ofInt (g (j : Nat)))) = (q_en (q_sA S 7 g), c, w) := rfl
theorem ga_Outlines_isGone {S : q_Sg} {c w : Nat} : q_arr (q_en S, c, w) (.ref 29) = some (.boolean, 676, .inl (fun j => Int32.ofInt (S.2.1 8 (j : Nat)))) := rfl
theorem gs_Outlines_isGone {S : q_Sg} {c w : Nat} {g : Int → Int} : q_setA (q_en S, c, w) (.ref 29) (.boolean, 676, .inl (fun j => Int32.ofInt (g (j : Nat)))) = (q_en (q_sA S 8 g), c, w) := rfl
theorem ga_Strokes_kind {S : q_Sg} {c w : Nat} : q_arr (q_en S, c, w) (.ref 31) = some (.char, 144, .inl (fun j => Int32.ofInt (S.2.1 9 (j : Nat)))) := rfl
theorem gs_Strokes_kind {S : q_Sg} {c w : Nat} {g : Int → Int} : q_setA (q_en S, c, w) (.ref 31) (.char, 144, .inl (fun j => Int32.ofInt (g (j : Nat)))) = (q_en (q_sA S 9 g), c, w) := rfl
theorem ga_Strokes_firstX {S : q_Sg} {c w : Nat} : q_arr (q_en S, c, w) (.ref 32) = some (.int, 144, .inl (fun j => Int32.ofInt (S.2.1 10 (j : Nat)))) := rfl
theorem gs_Strokes_firstX {S : q_Sg} {c w : Nat} {g : Int → Int} : q_setA (q_en S, c, w) (.ref 32) (.int, 144, .inl (fun j => Int32.ofInt (g (j : Nat)))) = (q_en (q_sA S 10 g), c, w) := rfl
theorem ga_Strokes_firstY {S : q_Sg} {c w : Nat} : q_arr (q_en S, c, w) (.ref 33) = some (.int, 144, .inl (fun j => Int32.ofInt (S.2.1 11 (j : Nat)))) := rfl
theorem gs_Strokes_firstY {S : q_Sg} {c w : Nat} {g : Int → Int} : q_setA (q_en S, c, w) (.ref 33) (.int, 144, .inl (fun j => Int32.ofInt (g (j : Nat)))) = (q_en (q_sA S 11 g), c, w) := rfl
theorem ga_Strokes_lastX {S : q_Sg} {c w : Nat} : q_arr (q_en S, c, w) (.ref 34) = some (.int, 144, .inl (fun j => Int32.ofInt (S.2.1 12 (j : Nat)))) := rfl
theorem gs_Strokes_lastX {S : q_Sg} {c w : Nat} {g : Int → Int} : q_setA (q_en S, c, w) (.ref 34) (.int, 144, .inl (fun j => Int32.ofInt (g (j : Nat)))) = (q_en (q_sA S 12 g), c, w) := rfl
theorem ga_Strokes_lastY {S : q_Sg} {c w : Nat} : q_arr (q_en S, c, w) (.ref 35) = some (.int, 144, .inl (fun j => Int32.ofInt (S.2.1 13 (j : Nat)))) := rfl
theorem gs_Strokes_lastY {S : q_Sg} {c w : Nat} {g : Int → Int} : q_setA (q_en S, c, w) (.ref 35) (.int, 144, .inl (fun j => Int32.ofInt (g (j : Nat)))) = (q_en (q_sA S 13 g), c, w) := rfl
theorem ga_Commands_kind {S : q_Sg} {c w : Nat} : q_arr (q_en S, c, w) (.ref 37) = some (.char, 6936, .inl (fun j => Int32.ofInt (S.2.1 14 (j : Nat)))) := rfl
theorem gs_Commands_kind {S : q_Sg} {c w : Nat} {g : Int → Int} : q_setA (q_en S, c, w) (.ref 37) (.char, 6936, .inl (fun j => Int32.ofInt (g (j : Nat)))) = (q_en (q_sA S 14 g), c, w) := rfl
theorem ga_Commands_headX {S : q_Sg} {c w : Nat} : q_arr (q_en S, c, w) (.ref 38) = some (.int, 6936, .inl (fun j => Int32.ofInt (S.2.1 15 (j : Nat)))) := rfl
theorem gs_Commands_headX {S : q_Sg} {c w : Nat} {g : Int → Int} : q_setA (q_en S, c, w) (.ref 38) (.int, 6936, .inl (fun j => Int32.ofInt (g (j : Nat)))) = (q_en (q_sA S 15 g), c, w) := rfl
theorem ga_Commands_headY {S : q_Sg} {c w : Nat} : q_arr (q_en S, c, w) (.ref 39) = some (.int, 6936, .inl (fun j => Int32.ofInt (S.2.1 16 (j : Nat)))) := rfl
theorem gs_Commands_headY {S : q_Sg} {c w : Nat} {g : Int → Int} : q_setA (q_en S, c, w) (.ref 39) (.int, 6936, .inl (fun j => Int32.ofInt (g (j : Nat)))) = (q_en (q_sA S 16 g), c, w) := rfl
theorem ga_Commands_layer {S : q_Sg} {c w : Nat} : q_arr (q_en S, c, w) (.ref 40) = some (.int, 6936, .inl (fun j => Int32.ofInt (S.2.1 17 (j : Nat)))) := rfl
theorem gs_Commands_layer {S : q_Sg} {c w : Nat} {g : Int → Int} : q_setA (q_en S, c, w) (.ref 40) (.int, 6936, .inl (fun j => Int32.ofInt (g (j : Nat)))) = (q_en (q_sA S 17 g), c, w) := rfl
theorem ga_Commands_amountOfCell {S : q_Sg} {c w : Nat} : q_arr (q_en S, c, w) (.ref 41) = some (.int, 12, .inl (fun j => Int32.ofInt (S.2.1 18 (j : Nat)))) := rfl
theorem gs_Commands_amountOfCell {S : q_Sg} {c w : Nat} {g : Int → Int} : q_setA (q_en S, c, w) (.ref 41) (.int, 12, .inl (fun j => Int32.ofInt (g (j : Nat)))) = (q_en (q_sA S 18 g), c, w) := rfl
theorem ga_Planner_isDrawn {S : q_Sg} {c w : Nat} : q_arr (q_en S, c, w) (.ref 43) = some (.boolean, 144, .inl (fun j => Int32.ofInt (S.2.1 19 (j : Nat)))) := rfl
theorem gs_Planner_isDrawn {S : q_Sg} {c w : Nat} {g : Int → Int} : q_setA (q_en S, c, w) (.ref 43) (.boolean, 144, .inl (fun j => Int32.ofInt (g (j : Nat)))) = (q_en (q_sA S 19 g), c, w) := rfl
theorem ga_Machine_laid {S : q_Sg} {c w : Nat} : q_arr (q_en S, c, w) (.ref 46) = some (.int, 1728, .inl (fun j => Int32.ofInt (S.2.1 20 (j : Nat)))) := rfl
theorem gs_Machine_laid {S : q_Sg} {c w : Nat} {g : Int → Int} : q_setA (q_en S, c, w) (.ref 46) (.int, 1728, .inl (fun j => Int32.ofInt (g (j : Nat)))) = (q_en (q_sA S 20 g), c, w) := rfl
theorem ga_Law_thick {S : q_Sg} {c w : Nat} : q_arr (q_en S, c, w) (.ref 47) = some (.int, 12, .inl (fun j => Int32.ofInt (S.2.1 21 (j : Nat)))) := rfl
theorem gs_Law_thick {S : q_Sg} {c w : Nat} {g : Int → Int} : q_setA (q_en S, c, w) (.ref 47) (.int, 12, .inl (fun j => Int32.ofInt (g (j : Nat)))) = (q_en (q_sA S 21 g), c, w) := rfl
