/-! the instructions -/
section QOPS
variable {X : qX} {T : Nat → Prop} {pc p1 p2 p3 pn pb pk k c c1 c2 nL fr : Nat} {f a b x y : qE} {cc : ByteArray} {own : String} {ret : Option FieldType}

def q_iadd : Value → Value → Option Value
  | .int x, .int y => some (.int (x + y))
  | _, _ => none

def q_isub : Value → Value → Option Value
  | .int x, .int y => some (.int (x - y))
  | _, _ => none

def q_imul : Value → Value → Option Value
  | .int x, .int y => some (.int (x * y))
  | _, _ => none

def q_iand : Value → Value → Option Value
  | .int x, .int y => some (.int (x &&& y))
  | _, _ => none

def q_idiv : Value → Value → Option Value
  | .int x, .int y => if y = 0 then none else some (.int (x / y))
  | _, _ => none

def q_irem : Value → Value → Option Value
  | .int x, .int y => if y = 0 then none else some (.int (x - x / y * y))
  | _, _ => none

def q_ladd : Value → Value → Option Value
  | .long x, .long y => some (.long (x + y))
  | _, _ => none

def q_lsub : Value → Value → Option Value
  | .long x, .long y => some (.long (x - y))
  | _, _ => none

def q_lcmp : Value → Value → Option Value
  | .long x, .long y => some (.int (lg_cmp x y))
  | _, _ => none
def q_fdiv : Value → Value → Option Value
  | .float x, .float y => if FP.fdiv x y &&& 0x7fffffff ≤ 0x7f800000 then some (.float (FP.fdiv x y)) else none
  | _, _ => none
def q_ddiv : Value → Value → Option Value
  | .double x, .double y => if FP.ddiv x y &&& 0x7fffffffffffffff ≤ 0x7ff0000000000000 then some (.double (FP.ddiv x y)) else none
  | _, _ => none
def q_fcmpl : Value → Value → Option Value
  | .float x, .float y => some (.int (Op.cmpValue (FP.fcmp x y) .l))
  | _, _ => none
def q_dcmpl : Value → Value → Option Value
  | .double x, .double y => some (.int (Op.cmpValue (FP.dcmp x y) .l))
  | _, _ => none
def q_ineg : Value → Option Value
  | .int x => some (.int (-x))
  | _ => none
def q_i2l : Value → Option Value
  | .int x => some (.long x.toInt64)
  | _ => none
def q_i2c : Value → Option Value
  | .int x => some (.int (x.toUInt32 % 65536).toInt32)
  | _ => none
def q_i2f : Value → Option Value
  | .int x => some (.float (FP.i2f x))
  | _ => none
def q_i2d : Value → Option Value
  | .int x => some (.double (FP.i2d x))
  | _ => none
def q_f2d : Value → Option Value
  | .float x => if FP.f2d x &&& 0x7fffffffffffffff ≤ 0x7ff0000000000000 then some (.double (FP.f2d x)) else none
  | _ => none

theorem q_O2.of {op : Value → Value → Option Value} (hop : ∀ x y v, op x y = some v → q_pr x = true ∧ q_pr y = true ∧ q_pr v = true ∧ v.category ≤ c ∧ ∀ H locs cells slots ls rest, q_W X H locs cells slots (F0 (q_m X) p2 ls (v :: rest)) → q_W X H locs cells slots (F0 (q_m X) p1 ls (y :: x :: rest))) : q_O2 X (fun _ => op) p1 p2 c := by
  intro L h α v v2 x w w2 rest e hr hr2 kk
  obtain ⟨o1, o2, o3, o4, o5⟩ := hop _ _ _ e
  have h1 := hr.pr o1
  have h2 := hr2.pr o2
  subst h1; subst h2
  intro tys ws H locs cells slots ls hR
  exact o5 _ _ _ _ _ _ (kk x (q_vr.of_pr o3) o4 tys ws H locs cells slots ls hR)
theorem q_O1.of {op : Value → Option Value} (hop : ∀ x v, op x = some v → q_pr x = true ∧ q_pr v = true ∧ v.category ≤ c ∧ ∀ H locs cells slots ls rest, q_W X H locs cells slots (F0 (q_m X) p2 ls (v :: rest)) → q_W X H locs cells slots (F0 (q_m X) p1 ls (x :: rest))) : q_O1 X (fun _ => op) p1 p2 c := by
  intro L h α v x w rest e hr kk
  obtain ⟨o1, o3, o4, o5⟩ := hop _ _ e
  have h1 := hr.pr o1
  subst h1
  intro tys ws H locs cells slots ls hR
  exact o5 _ _ _ _ _ _ (kk x (q_vr.of_pr o3) o4 tys ws H locs cells slots ls hR)

theorem q_iadd_o (hX : q_OK X cc own nL ret fr) (hd : decode cc p1 = .ok (.iadd, 1)) (hc : 1 ≤ c) : q_O2 X (fun _ => q_iadd) p1 (p1 + 1) c := by
  refine q_O2.of ?_
  obtain ⟨⟨p, l, e, R, s, m, args, below, meth, c9, Q⟩, D, A, ro, rot, c0, s0⟩ := X
  obtain ⟨hx, hb, -⟩ := hX
  intro x y v hv
  cases x <;> first | (cases hv; done) | skip
  cases y <;> first | (cases hv; done) | skip
  rename_i x y
  cases hv
  exact ⟨rfl, rfl, rfl, hc, fun H locs cells slots ls rest kk => lv_iadd hx hb hd kk⟩

theorem q_isub_o (hX : q_OK X cc own nL ret fr) (hd : decode cc p1 = .ok (.isub, 1)) (hc : 1 ≤ c) : q_O2 X (fun _ => q_isub) p1 (p1 + 1) c := by
  refine q_O2.of ?_
  obtain ⟨⟨p, l, e, R, s, m, args, below, meth, c9, Q⟩, D, A, ro, rot, c0, s0⟩ := X
  obtain ⟨hx, hb, -⟩ := hX
  intro x y v hv
  cases x <;> first | (cases hv; done) | skip
  cases y <;> first | (cases hv; done) | skip
  rename_i x y
  cases hv
  exact ⟨rfl, rfl, rfl, hc, fun H locs cells slots ls rest kk => lv_isub hx hb hd kk⟩

theorem q_imul_o (hX : q_OK X cc own nL ret fr) (hd : decode cc p1 = .ok (.imul, 1)) (hc : 1 ≤ c) : q_O2 X (fun _ => q_imul) p1 (p1 + 1) c := by
  refine q_O2.of ?_
  obtain ⟨⟨p, l, e, R, s, m, args, below, meth, c9, Q⟩, D, A, ro, rot, c0, s0⟩ := X
  obtain ⟨hx, hb, -⟩ := hX
  intro x y v hv
  cases x <;> first | (cases hv; done) | skip
  cases y <;> first | (cases hv; done) | skip
  rename_i x y
  cases hv
  exact ⟨rfl, rfl, rfl, hc, fun H locs cells slots ls rest kk => lv_imul hx hb hd kk⟩

theorem q_iand_o (hX : q_OK X cc own nL ret fr) (hd : decode cc p1 = .ok (.iand, 1)) (hc : 1 ≤ c) : q_O2 X (fun _ => q_iand) p1 (p1 + 1) c := by
  refine q_O2.of ?_
  obtain ⟨⟨p, l, e, R, s, m, args, below, meth, c9, Q⟩, D, A, ro, rot, c0, s0⟩ := X
  obtain ⟨hx, hb, -⟩ := hX
  intro x y v hv
  cases x <;> first | (cases hv; done) | skip
  cases y <;> first | (cases hv; done) | skip
  rename_i x y
  cases hv
  exact ⟨rfl, rfl, rfl, hc, fun H locs cells slots ls rest kk => lv_iand hx hb hd kk⟩

theorem q_idiv_o (hX : q_OK X cc own nL ret fr) (hd : decode cc p1 = .ok (.idiv, 1)) (hc : 1 ≤ c) : q_O2 X (fun _ => q_idiv) p1 (p1 + 1) c := by
  refine q_O2.of ?_
  obtain ⟨⟨p, l, e, R, s, m, args, below, meth, c9, Q⟩, D, A, ro, rot, c0, s0⟩ := X
  obtain ⟨hx, hb, -⟩ := hX
  intro x y v hv
  cases x <;> first | (cases hv; done) | skip
  cases y <;> first | (cases hv; done) | skip
  rename_i x y
  have hv : (if y = 0 then none else some (Value.int (x / y))) = some v := hv
  by_cases hne : y = 0
  · rw [if_pos hne] at hv
    cases hv
  · rw [if_neg hne] at hv
    cases hv
    exact ⟨rfl, rfl, rfl, hc, fun H locs cells slots ls rest kk => lv_idiv hx hb hd hne kk⟩

theorem q_irem_o (hX : q_OK X cc own nL ret fr) (hd : decode cc p1 = .ok (.irem, 1)) (hc : 1 ≤ c) : q_O2 X (fun _ => q_irem) p1 (p1 + 1) c := by
  refine q_O2.of ?_
  obtain ⟨⟨p, l, e, R, s, m, args, below, meth, c9, Q⟩, D, A, ro, rot, c0, s0⟩ := X
  obtain ⟨hx, hb, -⟩ := hX
  intro x y v hv
  cases x <;> first | (cases hv; done) | skip
  cases y <;> first | (cases hv; done) | skip
  rename_i x y
  have hv : (if y = 0 then none else some (Value.int (x - x / y * y))) = some v := hv
  by_cases hne : y = 0
  · rw [if_pos hne] at hv
    cases hv
  · rw [if_neg hne] at hv
    cases hv
    exact ⟨rfl, rfl, rfl, hc, fun H locs cells slots ls rest kk => lv_irem hx hb hd hne kk⟩

theorem q_ladd_o (hX : q_OK X cc own nL ret fr) (hd : decode cc p1 = .ok (.ladd, 1)) (hc : 2 ≤ c) : q_O2 X (fun _ => q_ladd) p1 (p1 + 1) c := by
  refine q_O2.of ?_
  obtain ⟨⟨p, l, e, R, s, m, args, below, meth, c9, Q⟩, D, A, ro, rot, c0, s0⟩ := X
  obtain ⟨hx, hb, -⟩ := hX
  intro x y v hv
  cases x <;> first | (cases hv; done) | skip
  cases y <;> first | (cases hv; done) | skip
  rename_i x y
  cases hv
  exact ⟨rfl, rfl, rfl, hc, fun H locs cells slots ls rest kk => lv_ladd hx hb hd kk⟩

theorem q_lsub_o (hX : q_OK X cc own nL ret fr) (hd : decode cc p1 = .ok (.lsub, 1)) (hc : 2 ≤ c) : q_O2 X (fun _ => q_lsub) p1 (p1 + 1) c := by
  refine q_O2.of ?_
  obtain ⟨⟨p, l, e, R, s, m, args, below, meth, c9, Q⟩, D, A, ro, rot, c0, s0⟩ := X
  obtain ⟨hx, hb, -⟩ := hX
  intro x y v hv
  cases x <;> first | (cases hv; done) | skip
  cases y <;> first | (cases hv; done) | skip
  rename_i x y
  cases hv
  exact ⟨rfl, rfl, rfl, hc, fun H locs cells slots ls rest kk => lv_lsub hx hb hd kk⟩

theorem q_lcmp_o (hX : q_OK X cc own nL ret fr) (hd : decode cc p1 = .ok (.lcmp, 1)) (hc : 1 ≤ c) : q_O2 X (fun _ => q_lcmp) p1 (p1 + 1) c := by
  refine q_O2.of ?_
  obtain ⟨⟨p, l, e, R, s, m, args, below, meth, c9, Q⟩, D, A, ro, rot, c0, s0⟩ := X
  obtain ⟨hx, hb, -⟩ := hX
  intro x y v hv
  cases x <;> first | (cases hv; done) | skip
  cases y <;> first | (cases hv; done) | skip
  rename_i x y
  cases hv
  exact ⟨rfl, rfl, rfl, hc, fun H locs cells slots ls rest kk => W.lcmp hx hb hd kk⟩

theorem q_fdiv_o (hX : q_OK X cc own nL ret fr) (hd : decode cc p1 = .ok (.fdiv, 1)) (hc : 1 ≤ c) : q_O2 X (fun _ => q_fdiv) p1 (p1 + 1) c := by
  refine q_O2.of ?_
  obtain ⟨⟨p, l, e, R, s, m, args, below, meth, c9, Q⟩, D, A, ro, rot, c0, s0⟩ := X
  obtain ⟨hx, hb, -⟩ := hX
  intro x y v hv
  cases x <;> first | (cases hv; done) | skip
  cases y <;> first | (cases hv; done) | skip
  rename_i x y
  have hv : (if FP.fdiv x y &&& 0x7fffffff ≤ 0x7f800000 then some (Value.float (FP.fdiv x y)) else none) = some v := hv
  by_cases hne : FP.fdiv x y &&& 0x7fffffff ≤ 0x7f800000
  · rw [if_pos hne] at hv
    cases hv
    exact ⟨rfl, rfl, rfl, hc, fun H locs cells slots ls rest kk => lv_fdiv hx hb hd hne kk⟩
  · rw [if_neg hne] at hv
    cases hv

theorem q_ddiv_o (hX : q_OK X cc own nL ret fr) (hd : decode cc p1 = .ok (.ddiv, 1)) (hc : 2 ≤ c) : q_O2 X (fun _ => q_ddiv) p1 (p1 + 1) c := by
  refine q_O2.of ?_
  obtain ⟨⟨p, l, e, R, s, m, args, below, meth, c9, Q⟩, D, A, ro, rot, c0, s0⟩ := X
  obtain ⟨hx, hb, -⟩ := hX
  intro x y v hv
  cases x <;> first | (cases hv; done) | skip
  cases y <;> first | (cases hv; done) | skip
  rename_i x y
  have hv : (if FP.ddiv x y &&& 0x7fffffffffffffff ≤ 0x7ff0000000000000 then some (Value.double (FP.ddiv x y)) else none) = some v := hv
  by_cases hne : FP.ddiv x y &&& 0x7fffffffffffffff ≤ 0x7ff0000000000000
  · rw [if_pos hne] at hv
    cases hv
    exact ⟨rfl, rfl, rfl, hc, fun H locs cells slots ls rest kk => lv_ddiv hx hb hd hne kk⟩
  · rw [if_neg hne] at hv
    cases hv

theorem q_fcmpl_o (hX : q_OK X cc own nL ret fr) (hd : decode cc p1 = .ok (.fcmp .l, 1)) (hc : 1 ≤ c) : q_O2 X (fun _ => q_fcmpl) p1 (p1 + 1) c := by
  refine q_O2.of ?_
  obtain ⟨⟨p, l, e, R, s, m, args, below, meth, c9, Q⟩, D, A, ro, rot, c0, s0⟩ := X
  obtain ⟨hx, hb, -⟩ := hX
  intro x y v hv
  cases x <;> first | (cases hv; done) | skip
  cases y <;> first | (cases hv; done) | skip
  rename_i x y
  cases hv
  exact ⟨rfl, rfl, rfl, hc, fun H locs cells slots ls rest kk => lv_fcmp hx hb hd kk⟩

theorem q_dcmpl_o (hX : q_OK X cc own nL ret fr) (hd : decode cc p1 = .ok (.dcmp .l, 1)) (hc : 1 ≤ c) : q_O2 X (fun _ => q_dcmpl) p1 (p1 + 1) c := by
  refine q_O2.of ?_
  obtain ⟨⟨p, l, e, R, s, m, args, below, meth, c9, Q⟩, D, A, ro, rot, c0, s0⟩ := X
  obtain ⟨hx, hb, -⟩ := hX
  intro x y v hv
  cases x <;> first | (cases hv; done) | skip
  cases y <;> first | (cases hv; done) | skip
  rename_i x y
  cases hv
  exact ⟨rfl, rfl, rfl, hc, fun H locs cells slots ls rest kk => lv_dcmp hx hb hd kk⟩

theorem q_ineg_o (hX : q_OK X cc own nL ret fr) (hd : decode cc p1 = .ok (.ineg, 1)) (hc : 1 ≤ c) : q_O1 X (fun _ => q_ineg) p1 (p1 + 1) c := by
  refine q_O1.of ?_
  obtain ⟨⟨p, l, e, R, s, m, args, below, meth, c9, Q⟩, D, A, ro, rot, c0, s0⟩ := X
  obtain ⟨hx, hb, -⟩ := hX
  intro x v hv
  cases x <;> first | (cases hv; done) | skip
  rename_i x
  cases hv
  exact ⟨rfl, rfl, hc, fun H locs cells slots ls rest kk => lv_ineg hx hb hd kk⟩

theorem q_i2l_o (hX : q_OK X cc own nL ret fr) (hd : decode cc p1 = .ok (.i2l, 1)) (hc : 2 ≤ c) : q_O1 X (fun _ => q_i2l) p1 (p1 + 1) c := by
  refine q_O1.of ?_
  obtain ⟨⟨p, l, e, R, s, m, args, below, meth, c9, Q⟩, D, A, ro, rot, c0, s0⟩ := X
  obtain ⟨hx, hb, -⟩ := hX
  intro x v hv
  cases x <;> first | (cases hv; done) | skip
  rename_i x
  cases hv
  exact ⟨rfl, rfl, hc, fun H locs cells slots ls rest kk => lv_i2l hx hb hd rfl kk⟩

theorem q_i2c_o (hX : q_OK X cc own nL ret fr) (hd : decode cc p1 = .ok (.i2c, 1)) (hc : 1 ≤ c) : q_O1 X (fun _ => q_i2c) p1 (p1 + 1) c := by
  refine q_O1.of ?_
  obtain ⟨⟨p, l, e, R, s, m, args, below, meth, c9, Q⟩, D, A, ro, rot, c0, s0⟩ := X
  obtain ⟨hx, hb, -⟩ := hX
  intro x v hv
  cases x <;> first | (cases hv; done) | skip
  rename_i x
  cases hv
  exact ⟨rfl, rfl, hc, fun H locs cells slots ls rest kk => lv_i2c hx hb hd rfl kk⟩

theorem q_i2f_o (hX : q_OK X cc own nL ret fr) (hd : decode cc p1 = .ok (.i2f, 1)) (hc : 1 ≤ c) : q_O1 X (fun _ => q_i2f) p1 (p1 + 1) c := by
  refine q_O1.of ?_
  obtain ⟨⟨p, l, e, R, s, m, args, below, meth, c9, Q⟩, D, A, ro, rot, c0, s0⟩ := X
  obtain ⟨hx, hb, -⟩ := hX
  intro x v hv
  cases x <;> first | (cases hv; done) | skip
  rename_i x
  cases hv
  exact ⟨rfl, rfl, hc, fun H locs cells slots ls rest kk => lv_i2f hx hb hd kk⟩

theorem q_i2d_o (hX : q_OK X cc own nL ret fr) (hd : decode cc p1 = .ok (.i2d, 1)) (hc : 2 ≤ c) : q_O1 X (fun _ => q_i2d) p1 (p1 + 1) c := by
  refine q_O1.of ?_
  obtain ⟨⟨p, l, e, R, s, m, args, below, meth, c9, Q⟩, D, A, ro, rot, c0, s0⟩ := X
  obtain ⟨hx, hb, -⟩ := hX
  intro x v hv
  cases x <;> first | (cases hv; done) | skip
  rename_i x
  cases hv
  exact ⟨rfl, rfl, hc, fun H locs cells slots ls rest kk => lv_i2d hx hb hd kk⟩

theorem q_f2d_o (hX : q_OK X cc own nL ret fr) (hd : decode cc p1 = .ok (.f2d, 1)) (hc : 2 ≤ c) : q_O1 X (fun _ => q_f2d) p1 (p1 + 1) c := by
  refine q_O1.of ?_
  obtain ⟨⟨p, l, e, R, s, m, args, below, meth, c9, Q⟩, D, A, ro, rot, c0, s0⟩ := X
  obtain ⟨hx, hb, -⟩ := hX
  intro x v hv
  cases x <;> first | (cases hv; done) | skip
  rename_i x
  have hv : (if FP.f2d x &&& 0x7fffffffffffffff ≤ 0x7ff0000000000000 then some (Value.double (FP.f2d x)) else none) = some v := hv
  by_cases hne : FP.f2d x &&& 0x7fffffffffffffff ≤ 0x7ff0000000000000
  · rw [if_pos hne] at hv
    cases hv
    exact ⟨rfl, rfl, hc, fun H locs cells slots ls rest kk => lv_f2d hx hb hd hne kk⟩
  · rw [if_neg hne] at hv
    cases hv

def q_ceq : Value → Value → Option Bool
  | .int x, .int y => some (decide (x = y))
  | _, _ => none
def q_zeq : Value → Option Bool
  | .int x => some (decide (x = 0))
  | _ => none

def q_cne : Value → Value → Option Bool
  | .int x, .int y => some (decide (¬ x = y))
  | _, _ => none
def q_zne : Value → Option Bool
  | .int x => some (decide (¬ x = 0))
  | _ => none

def q_clt : Value → Value → Option Bool
  | .int x, .int y => some (decide (x < y))
  | _, _ => none
def q_zlt : Value → Option Bool
  | .int x => some (decide (x < 0))
  | _ => none

def q_cge : Value → Value → Option Bool
  | .int x, .int y => some (decide (y ≤ x))
  | _, _ => none
def q_zge : Value → Option Bool
  | .int x => some (decide (0 ≤ x))
  | _ => none

def q_cgt : Value → Value → Option Bool
  | .int x, .int y => some (decide (y < x))
  | _, _ => none
def q_zgt : Value → Option Bool
  | .int x => some (decide (0 < x))
  | _ => none

def q_cle : Value → Value → Option Bool
  | .int x, .int y => some (decide (x ≤ y))
  | _, _ => none
def q_zle : Value → Option Bool
  | .int x => some (decide (x ≤ 0))
  | _ => none

theorem q_ceq_t (hX : q_OK X cc own nL ret fr) {off : Int} {tgt : Nat} (hd : decode cc p1 = .ok (.if_icmp .eq off, 3)) (ht : (p1 : Int) + off = (tgt : Int)) : ∀ x y v, q_ceq x y = some v → q_pr x = true ∧ q_pr y = true ∧ ∀ H locs cells slots ls rest, q_W X H locs cells slots (F0 (q_m X) (if v then tgt else (p1 + 3)) ls rest) → q_W X H locs cells slots (F0 (q_m X) p1 ls (y :: x :: rest)) := by
  obtain ⟨⟨p, l, e, R, s, m, args, below, meth, c9, Q⟩, D, A, ro, rot, c0, s0⟩ := X
  obtain ⟨hx, hb, -⟩ := hX
  intro x y v hv
  cases x <;> first | (cases hv; done) | skip
  cases y <;> first | (cases hv; done) | skip
  rename_i x y
  cases hv
  refine ⟨rfl, rfl, fun H locs cells slots ls rest kk => ?_⟩
  exact lv_icmp_eq hx hb hd ht (fun h => by rw [if_pos (decide_eq_true h)] at kk; exact kk) (fun h => by rw [if_neg (by rw [decide_eq_false h]; decide)] at kk; exact kk)

theorem q_zeq_t (hX : q_OK X cc own nL ret fr) {off : Int} {tgt : Nat} (hd : decode cc p1 = .ok (.ifCond .eq off, 3)) (ht : (p1 : Int) + off = (tgt : Int)) : ∀ x v, q_zeq x = some v → q_pr x = true ∧ ∀ H locs cells slots ls rest, q_W X H locs cells slots (F0 (q_m X) (if v then tgt else (p1 + 3)) ls rest) → q_W X H locs cells slots (F0 (q_m X) p1 ls (x :: rest)) := by
  obtain ⟨⟨p, l, e, R, s, m, args, below, meth, c9, Q⟩, D, A, ro, rot, c0, s0⟩ := X
  obtain ⟨hx, hb, -⟩ := hX
  intro x v hv
  cases x <;> first | (cases hv; done) | skip
  rename_i x
  cases hv
  refine ⟨rfl, fun H locs cells slots ls rest kk => ?_⟩
  exact lv_if_eq hx hb hd ht (fun h => by rw [if_pos (decide_eq_true h)] at kk; exact kk) (fun h => by rw [if_neg (by rw [decide_eq_false h]; decide)] at kk; exact kk)

theorem q_ceq_f (hX : q_OK X cc own nL ret fr) {off : Int} {tgt : Nat} (hd : decode cc p1 = .ok (.if_icmp .ne off, 3)) (ht : (p1 : Int) + off = (tgt : Int)) : ∀ x y v, q_ceq x y = some v → q_pr x = true ∧ q_pr y = true ∧ ∀ H locs cells slots ls rest, q_W X H locs cells slots (F0 (q_m X) (if v then (p1 + 3) else tgt) ls rest) → q_W X H locs cells slots (F0 (q_m X) p1 ls (y :: x :: rest)) := by
  obtain ⟨⟨p, l, e, R, s, m, args, below, meth, c9, Q⟩, D, A, ro, rot, c0, s0⟩ := X
  obtain ⟨hx, hb, -⟩ := hX
  intro x y v hv
  cases x <;> first | (cases hv; done) | skip
  cases y <;> first | (cases hv; done) | skip
  rename_i x y
  cases hv
  refine ⟨rfl, rfl, fun H locs cells slots ls rest kk => ?_⟩
  exact lv_icmp_ne hx hb hd ht (fun h => by rw [if_neg (by rw [decide_eq_false h]; decide)] at kk; exact kk) (fun h => by rw [if_pos (decide_eq_true h)] at kk; exact kk)

theorem q_zeq_f (hX : q_OK X cc own nL ret fr) {off : Int} {tgt : Nat} (hd : decode cc p1 = .ok (.ifCond .ne off, 3)) (ht : (p1 : Int) + off = (tgt : Int)) : ∀ x v, q_zeq x = some v → q_pr x = true ∧ ∀ H locs cells slots ls rest, q_W X H locs cells slots (F0 (q_m X) (if v then (p1 + 3) else tgt) ls rest) → q_W X H locs cells slots (F0 (q_m X) p1 ls (x :: rest)) := by
  obtain ⟨⟨p, l, e, R, s, m, args, below, meth, c9, Q⟩, D, A, ro, rot, c0, s0⟩ := X
  obtain ⟨hx, hb, -⟩ := hX
  intro x v hv
  cases x <;> first | (cases hv; done) | skip
  rename_i x
  cases hv
  refine ⟨rfl, fun H locs cells slots ls rest kk => ?_⟩
  exact lv_if_ne hx hb hd ht (fun h => by rw [if_neg (by rw [decide_eq_false h]; decide)] at kk; exact kk) (fun h => by rw [if_pos (decide_eq_true h)] at kk; exact kk)

theorem q_cne_t (hX : q_OK X cc own nL ret fr) {off : Int} {tgt : Nat} (hd : decode cc p1 = .ok (.if_icmp .ne off, 3)) (ht : (p1 : Int) + off = (tgt : Int)) : ∀ x y v, q_cne x y = some v → q_pr x = true ∧ q_pr y = true ∧ ∀ H locs cells slots ls rest, q_W X H locs cells slots (F0 (q_m X) (if v then tgt else (p1 + 3)) ls rest) → q_W X H locs cells slots (F0 (q_m X) p1 ls (y :: x :: rest)) := by
  obtain ⟨⟨p, l, e, R, s, m, args, below, meth, c9, Q⟩, D, A, ro, rot, c0, s0⟩ := X
  obtain ⟨hx, hb, -⟩ := hX
  intro x y v hv
  cases x <;> first | (cases hv; done) | skip
  cases y <;> first | (cases hv; done) | skip
  rename_i x y
  cases hv
  refine ⟨rfl, rfl, fun H locs cells slots ls rest kk => ?_⟩
  exact lv_icmp_ne hx hb hd ht (fun h => by rw [if_pos (decide_eq_true h)] at kk; exact kk) (fun h => by rw [if_neg (by rw [decide_eq_false (fun q => q h)]; decide)] at kk; exact kk)

theorem q_zne_t (hX : q_OK X cc own nL ret fr) {off : Int} {tgt : Nat} (hd : decode cc p1 = .ok (.ifCond .ne off, 3)) (ht : (p1 : Int) + off = (tgt : Int)) : ∀ x v, q_zne x = some v → q_pr x = true ∧ ∀ H locs cells slots ls rest, q_W X H locs cells slots (F0 (q_m X) (if v then tgt else (p1 + 3)) ls rest) → q_W X H locs cells slots (F0 (q_m X) p1 ls (x :: rest)) := by
  obtain ⟨⟨p, l, e, R, s, m, args, below, meth, c9, Q⟩, D, A, ro, rot, c0, s0⟩ := X
  obtain ⟨hx, hb, -⟩ := hX
  intro x v hv
  cases x <;> first | (cases hv; done) | skip
  rename_i x
  cases hv
  refine ⟨rfl, fun H locs cells slots ls rest kk => ?_⟩
  exact lv_if_ne hx hb hd ht (fun h => by rw [if_pos (decide_eq_true h)] at kk; exact kk) (fun h => by rw [if_neg (by rw [decide_eq_false (fun q => q h)]; decide)] at kk; exact kk)

theorem q_cne_f (hX : q_OK X cc own nL ret fr) {off : Int} {tgt : Nat} (hd : decode cc p1 = .ok (.if_icmp .eq off, 3)) (ht : (p1 : Int) + off = (tgt : Int)) : ∀ x y v, q_cne x y = some v → q_pr x = true ∧ q_pr y = true ∧ ∀ H locs cells slots ls rest, q_W X H locs cells slots (F0 (q_m X) (if v then (p1 + 3) else tgt) ls rest) → q_W X H locs cells slots (F0 (q_m X) p1 ls (y :: x :: rest)) := by
  obtain ⟨⟨p, l, e, R, s, m, args, below, meth, c9, Q⟩, D, A, ro, rot, c0, s0⟩ := X
  obtain ⟨hx, hb, -⟩ := hX
  intro x y v hv
  cases x <;> first | (cases hv; done) | skip
  cases y <;> first | (cases hv; done) | skip
  rename_i x y
  cases hv
  refine ⟨rfl, rfl, fun H locs cells slots ls rest kk => ?_⟩
  exact lv_icmp_eq hx hb hd ht (fun h => by rw [if_neg (by rw [decide_eq_false (fun q => q h)]; decide)] at kk; exact kk) (fun h => by rw [if_pos (decide_eq_true h)] at kk; exact kk)

theorem q_zne_f (hX : q_OK X cc own nL ret fr) {off : Int} {tgt : Nat} (hd : decode cc p1 = .ok (.ifCond .eq off, 3)) (ht : (p1 : Int) + off = (tgt : Int)) : ∀ x v, q_zne x = some v → q_pr x = true ∧ ∀ H locs cells slots ls rest, q_W X H locs cells slots (F0 (q_m X) (if v then (p1 + 3) else tgt) ls rest) → q_W X H locs cells slots (F0 (q_m X) p1 ls (x :: rest)) := by
  obtain ⟨⟨p, l, e, R, s, m, args, below, meth, c9, Q⟩, D, A, ro, rot, c0, s0⟩ := X
  obtain ⟨hx, hb, -⟩ := hX
  intro x v hv
  cases x <;> first | (cases hv; done) | skip
  rename_i x
  cases hv
  refine ⟨rfl, fun H locs cells slots ls rest kk => ?_⟩
  exact lv_if_eq hx hb hd ht (fun h => by rw [if_neg (by rw [decide_eq_false (fun q => q h)]; decide)] at kk; exact kk) (fun h => by rw [if_pos (decide_eq_true h)] at kk; exact kk)

theorem q_clt_t (hX : q_OK X cc own nL ret fr) {off : Int} {tgt : Nat} (hd : decode cc p1 = .ok (.if_icmp .lt off, 3)) (ht : (p1 : Int) + off = (tgt : Int)) : ∀ x y v, q_clt x y = some v → q_pr x = true ∧ q_pr y = true ∧ ∀ H locs cells slots ls rest, q_W X H locs cells slots (F0 (q_m X) (if v then tgt else (p1 + 3)) ls rest) → q_W X H locs cells slots (F0 (q_m X) p1 ls (y :: x :: rest)) := by
  obtain ⟨⟨p, l, e, R, s, m, args, below, meth, c9, Q⟩, D, A, ro, rot, c0, s0⟩ := X
  obtain ⟨hx, hb, -⟩ := hX
  intro x y v hv
  cases x <;> first | (cases hv; done) | skip
  cases y <;> first | (cases hv; done) | skip
  rename_i x y
  cases hv
  refine ⟨rfl, rfl, fun H locs cells slots ls rest kk => ?_⟩
  exact lv_icmp_lt hx hb hd ht (fun h => by rw [if_pos (decide_eq_true h)] at kk; exact kk) (fun h => by rw [if_neg (by rw [decide_eq_false h]; decide)] at kk; exact kk)

theorem q_zlt_t (hX : q_OK X cc own nL ret fr) {off : Int} {tgt : Nat} (hd : decode cc p1 = .ok (.ifCond .lt off, 3)) (ht : (p1 : Int) + off = (tgt : Int)) : ∀ x v, q_zlt x = some v → q_pr x = true ∧ ∀ H locs cells slots ls rest, q_W X H locs cells slots (F0 (q_m X) (if v then tgt else (p1 + 3)) ls rest) → q_W X H locs cells slots (F0 (q_m X) p1 ls (x :: rest)) := by
  obtain ⟨⟨p, l, e, R, s, m, args, below, meth, c9, Q⟩, D, A, ro, rot, c0, s0⟩ := X
  obtain ⟨hx, hb, -⟩ := hX
  intro x v hv
  cases x <;> first | (cases hv; done) | skip
  rename_i x
  cases hv
  refine ⟨rfl, fun H locs cells slots ls rest kk => ?_⟩
  exact lv_if_lt hx hb hd ht (fun h => by rw [if_pos (decide_eq_true h)] at kk; exact kk) (fun h => by rw [if_neg (by rw [decide_eq_false h]; decide)] at kk; exact kk)

theorem q_clt_f (hX : q_OK X cc own nL ret fr) {off : Int} {tgt : Nat} (hd : decode cc p1 = .ok (.if_icmp .ge off, 3)) (ht : (p1 : Int) + off = (tgt : Int)) : ∀ x y v, q_clt x y = some v → q_pr x = true ∧ q_pr y = true ∧ ∀ H locs cells slots ls rest, q_W X H locs cells slots (F0 (q_m X) (if v then (p1 + 3) else tgt) ls rest) → q_W X H locs cells slots (F0 (q_m X) p1 ls (y :: x :: rest)) := by
  obtain ⟨⟨p, l, e, R, s, m, args, below, meth, c9, Q⟩, D, A, ro, rot, c0, s0⟩ := X
  obtain ⟨hx, hb, -⟩ := hX
  intro x y v hv
  cases x <;> first | (cases hv; done) | skip
  cases y <;> first | (cases hv; done) | skip
  rename_i x y
  cases hv
  refine ⟨rfl, rfl, fun H locs cells slots ls rest kk => ?_⟩
  exact lv_icmp_ge hx hb hd ht (fun h => by rw [if_neg (by rw [decide_eq_false (Int32.not_lt.mpr h)]; decide)] at kk; exact kk) (fun h => by rw [if_pos (decide_eq_true (Int32.not_le.mp h))] at kk; exact kk)

theorem q_zlt_f (hX : q_OK X cc own nL ret fr) {off : Int} {tgt : Nat} (hd : decode cc p1 = .ok (.ifCond .ge off, 3)) (ht : (p1 : Int) + off = (tgt : Int)) : ∀ x v, q_zlt x = some v → q_pr x = true ∧ ∀ H locs cells slots ls rest, q_W X H locs cells slots (F0 (q_m X) (if v then (p1 + 3) else tgt) ls rest) → q_W X H locs cells slots (F0 (q_m X) p1 ls (x :: rest)) := by
  obtain ⟨⟨p, l, e, R, s, m, args, below, meth, c9, Q⟩, D, A, ro, rot, c0, s0⟩ := X
  obtain ⟨hx, hb, -⟩ := hX
  intro x v hv
  cases x <;> first | (cases hv; done) | skip
  rename_i x
  cases hv
  refine ⟨rfl, fun H locs cells slots ls rest kk => ?_⟩
  exact lv_if_ge hx hb hd ht (fun h => by rw [if_neg (by rw [decide_eq_false (Int32.not_lt.mpr h)]; decide)] at kk; exact kk) (fun h => by rw [if_pos (decide_eq_true (Int32.not_le.mp h))] at kk; exact kk)

theorem q_cge_t (hX : q_OK X cc own nL ret fr) {off : Int} {tgt : Nat} (hd : decode cc p1 = .ok (.if_icmp .ge off, 3)) (ht : (p1 : Int) + off = (tgt : Int)) : ∀ x y v, q_cge x y = some v → q_pr x = true ∧ q_pr y = true ∧ ∀ H locs cells slots ls rest, q_W X H locs cells slots (F0 (q_m X) (if v then tgt else (p1 + 3)) ls rest) → q_W X H locs cells slots (F0 (q_m X) p1 ls (y :: x :: rest)) := by
  obtain ⟨⟨p, l, e, R, s, m, args, below, meth, c9, Q⟩, D, A, ro, rot, c0, s0⟩ := X
  obtain ⟨hx, hb, -⟩ := hX
  intro x y v hv
  cases x <;> first | (cases hv; done) | skip
  cases y <;> first | (cases hv; done) | skip
  rename_i x y
  cases hv
  refine ⟨rfl, rfl, fun H locs cells slots ls rest kk => ?_⟩
  exact lv_icmp_ge hx hb hd ht (fun h => by rw [if_pos (decide_eq_true h)] at kk; exact kk) (fun h => by rw [if_neg (by rw [decide_eq_false h]; decide)] at kk; exact kk)

theorem q_zge_t (hX : q_OK X cc own nL ret fr) {off : Int} {tgt : Nat} (hd : decode cc p1 = .ok (.ifCond .ge off, 3)) (ht : (p1 : Int) + off = (tgt : Int)) : ∀ x v, q_zge x = some v → q_pr x = true ∧ ∀ H locs cells slots ls rest, q_W X H locs cells slots (F0 (q_m X) (if v then tgt else (p1 + 3)) ls rest) → q_W X H locs cells slots (F0 (q_m X) p1 ls (x :: rest)) := by
  obtain ⟨⟨p, l, e, R, s, m, args, below, meth, c9, Q⟩, D, A, ro, rot, c0, s0⟩ := X
  obtain ⟨hx, hb, -⟩ := hX
  intro x v hv
  cases x <;> first | (cases hv; done) | skip
  rename_i x
  cases hv
  refine ⟨rfl, fun H locs cells slots ls rest kk => ?_⟩
  exact lv_if_ge hx hb hd ht (fun h => by rw [if_pos (decide_eq_true h)] at kk; exact kk) (fun h => by rw [if_neg (by rw [decide_eq_false h]; decide)] at kk; exact kk)

theorem q_cge_f (hX : q_OK X cc own nL ret fr) {off : Int} {tgt : Nat} (hd : decode cc p1 = .ok (.if_icmp .lt off, 3)) (ht : (p1 : Int) + off = (tgt : Int)) : ∀ x y v, q_cge x y = some v → q_pr x = true ∧ q_pr y = true ∧ ∀ H locs cells slots ls rest, q_W X H locs cells slots (F0 (q_m X) (if v then (p1 + 3) else tgt) ls rest) → q_W X H locs cells slots (F0 (q_m X) p1 ls (y :: x :: rest)) := by
  obtain ⟨⟨p, l, e, R, s, m, args, below, meth, c9, Q⟩, D, A, ro, rot, c0, s0⟩ := X
  obtain ⟨hx, hb, -⟩ := hX
  intro x y v hv
  cases x <;> first | (cases hv; done) | skip
  cases y <;> first | (cases hv; done) | skip
  rename_i x y
  cases hv
  refine ⟨rfl, rfl, fun H locs cells slots ls rest kk => ?_⟩
  exact lv_icmp_lt hx hb hd ht (fun h => by rw [if_neg (by rw [decide_eq_false (Int32.not_le.mpr h)]; decide)] at kk; exact kk) (fun h => by rw [if_pos (decide_eq_true (Int32.not_lt.mp h))] at kk; exact kk)

theorem q_zge_f (hX : q_OK X cc own nL ret fr) {off : Int} {tgt : Nat} (hd : decode cc p1 = .ok (.ifCond .lt off, 3)) (ht : (p1 : Int) + off = (tgt : Int)) : ∀ x v, q_zge x = some v → q_pr x = true ∧ ∀ H locs cells slots ls rest, q_W X H locs cells slots (F0 (q_m X) (if v then (p1 + 3) else tgt) ls rest) → q_W X H locs cells slots (F0 (q_m X) p1 ls (x :: rest)) := by
  obtain ⟨⟨p, l, e, R, s, m, args, below, meth, c9, Q⟩, D, A, ro, rot, c0, s0⟩ := X
  obtain ⟨hx, hb, -⟩ := hX
  intro x v hv
  cases x <;> first | (cases hv; done) | skip
  rename_i x
  cases hv
  refine ⟨rfl, fun H locs cells slots ls rest kk => ?_⟩
  exact lv_if_lt hx hb hd ht (fun h => by rw [if_neg (by rw [decide_eq_false (Int32.not_le.mpr h)]; decide)] at kk; exact kk) (fun h => by rw [if_pos (decide_eq_true (Int32.not_lt.mp h))] at kk; exact kk)

theorem q_cgt_t (hX : q_OK X cc own nL ret fr) {off : Int} {tgt : Nat} (hd : decode cc p1 = .ok (.if_icmp .gt off, 3)) (ht : (p1 : Int) + off = (tgt : Int)) : ∀ x y v, q_cgt x y = some v → q_pr x = true ∧ q_pr y = true ∧ ∀ H locs cells slots ls rest, q_W X H locs cells slots (F0 (q_m X) (if v then tgt else (p1 + 3)) ls rest) → q_W X H locs cells slots (F0 (q_m X) p1 ls (y :: x :: rest)) := by
  obtain ⟨⟨p, l, e, R, s, m, args, below, meth, c9, Q⟩, D, A, ro, rot, c0, s0⟩ := X
  obtain ⟨hx, hb, -⟩ := hX
  intro x y v hv
  cases x <;> first | (cases hv; done) | skip
  cases y <;> first | (cases hv; done) | skip
  rename_i x y
  cases hv
  refine ⟨rfl, rfl, fun H locs cells slots ls rest kk => ?_⟩
  exact lv_icmp_gt hx hb hd ht (fun h => by rw [if_pos (decide_eq_true h)] at kk; exact kk) (fun h => by rw [if_neg (by rw [decide_eq_false h]; decide)] at kk; exact kk)

theorem q_zgt_t (hX : q_OK X cc own nL ret fr) {off : Int} {tgt : Nat} (hd : decode cc p1 = .ok (.ifCond .gt off, 3)) (ht : (p1 : Int) + off = (tgt : Int)) : ∀ x v, q_zgt x = some v → q_pr x = true ∧ ∀ H locs cells slots ls rest, q_W X H locs cells slots (F0 (q_m X) (if v then tgt else (p1 + 3)) ls rest) → q_W X H locs cells slots (F0 (q_m X) p1 ls (x :: rest)) := by
  obtain ⟨⟨p, l, e, R, s, m, args, below, meth, c9, Q⟩, D, A, ro, rot, c0, s0⟩ := X
  obtain ⟨hx, hb, -⟩ := hX
  intro x v hv
  cases x <;> first | (cases hv; done) | skip
  rename_i x
  cases hv
  refine ⟨rfl, fun H locs cells slots ls rest kk => ?_⟩
  exact lv_if_gt hx hb hd ht (fun h => by rw [if_pos (decide_eq_true h)] at kk; exact kk) (fun h => by rw [if_neg (by rw [decide_eq_false h]; decide)] at kk; exact kk)

theorem q_cgt_f (hX : q_OK X cc own nL ret fr) {off : Int} {tgt : Nat} (hd : decode cc p1 = .ok (.if_icmp .le off, 3)) (ht : (p1 : Int) + off = (tgt : Int)) : ∀ x y v, q_cgt x y = some v → q_pr x = true ∧ q_pr y = true ∧ ∀ H locs cells slots ls rest, q_W X H locs cells slots (F0 (q_m X) (if v then (p1 + 3) else tgt) ls rest) → q_W X H locs cells slots (F0 (q_m X) p1 ls (y :: x :: rest)) := by
  obtain ⟨⟨p, l, e, R, s, m, args, below, meth, c9, Q⟩, D, A, ro, rot, c0, s0⟩ := X
  obtain ⟨hx, hb, -⟩ := hX
  intro x y v hv
  cases x <;> first | (cases hv; done) | skip
  cases y <;> first | (cases hv; done) | skip
  rename_i x y
  cases hv
  refine ⟨rfl, rfl, fun H locs cells slots ls rest kk => ?_⟩
  exact lv_icmp_le hx hb hd ht (fun h => by rw [if_neg (by rw [decide_eq_false (Int32.not_lt.mpr h)]; decide)] at kk; exact kk) (fun h => by rw [if_pos (decide_eq_true (Int32.not_le.mp h))] at kk; exact kk)

theorem q_zgt_f (hX : q_OK X cc own nL ret fr) {off : Int} {tgt : Nat} (hd : decode cc p1 = .ok (.ifCond .le off, 3)) (ht : (p1 : Int) + off = (tgt : Int)) : ∀ x v, q_zgt x = some v → q_pr x = true ∧ ∀ H locs cells slots ls rest, q_W X H locs cells slots (F0 (q_m X) (if v then (p1 + 3) else tgt) ls rest) → q_W X H locs cells slots (F0 (q_m X) p1 ls (x :: rest)) := by
  obtain ⟨⟨p, l, e, R, s, m, args, below, meth, c9, Q⟩, D, A, ro, rot, c0, s0⟩ := X
  obtain ⟨hx, hb, -⟩ := hX
  intro x v hv
  cases x <;> first | (cases hv; done) | skip
  rename_i x
  cases hv
  refine ⟨rfl, fun H locs cells slots ls rest kk => ?_⟩
  exact lv_if_le hx hb hd ht (fun h => by rw [if_neg (by rw [decide_eq_false (Int32.not_lt.mpr h)]; decide)] at kk; exact kk) (fun h => by rw [if_pos (decide_eq_true (Int32.not_le.mp h))] at kk; exact kk)

theorem q_cle_t (hX : q_OK X cc own nL ret fr) {off : Int} {tgt : Nat} (hd : decode cc p1 = .ok (.if_icmp .le off, 3)) (ht : (p1 : Int) + off = (tgt : Int)) : ∀ x y v, q_cle x y = some v → q_pr x = true ∧ q_pr y = true ∧ ∀ H locs cells slots ls rest, q_W X H locs cells slots (F0 (q_m X) (if v then tgt else (p1 + 3)) ls rest) → q_W X H locs cells slots (F0 (q_m X) p1 ls (y :: x :: rest)) := by
  obtain ⟨⟨p, l, e, R, s, m, args, below, meth, c9, Q⟩, D, A, ro, rot, c0, s0⟩ := X
  obtain ⟨hx, hb, -⟩ := hX
  intro x y v hv
  cases x <;> first | (cases hv; done) | skip
  cases y <;> first | (cases hv; done) | skip
  rename_i x y
  cases hv
  refine ⟨rfl, rfl, fun H locs cells slots ls rest kk => ?_⟩
  exact lv_icmp_le hx hb hd ht (fun h => by rw [if_pos (decide_eq_true h)] at kk; exact kk) (fun h => by rw [if_neg (by rw [decide_eq_false h]; decide)] at kk; exact kk)

theorem q_zle_t (hX : q_OK X cc own nL ret fr) {off : Int} {tgt : Nat} (hd : decode cc p1 = .ok (.ifCond .le off, 3)) (ht : (p1 : Int) + off = (tgt : Int)) : ∀ x v, q_zle x = some v → q_pr x = true ∧ ∀ H locs cells slots ls rest, q_W X H locs cells slots (F0 (q_m X) (if v then tgt else (p1 + 3)) ls rest) → q_W X H locs cells slots (F0 (q_m X) p1 ls (x :: rest)) := by
  obtain ⟨⟨p, l, e, R, s, m, args, below, meth, c9, Q⟩, D, A, ro, rot, c0, s0⟩ := X
  obtain ⟨hx, hb, -⟩ := hX
  intro x v hv
  cases x <;> first | (cases hv; done) | skip
  rename_i x
  cases hv
  refine ⟨rfl, fun H locs cells slots ls rest kk => ?_⟩
  exact lv_if_le hx hb hd ht (fun h => by rw [if_pos (decide_eq_true h)] at kk; exact kk) (fun h => by rw [if_neg (by rw [decide_eq_false h]; decide)] at kk; exact kk)

theorem q_cle_f (hX : q_OK X cc own nL ret fr) {off : Int} {tgt : Nat} (hd : decode cc p1 = .ok (.if_icmp .gt off, 3)) (ht : (p1 : Int) + off = (tgt : Int)) : ∀ x y v, q_cle x y = some v → q_pr x = true ∧ q_pr y = true ∧ ∀ H locs cells slots ls rest, q_W X H locs cells slots (F0 (q_m X) (if v then (p1 + 3) else tgt) ls rest) → q_W X H locs cells slots (F0 (q_m X) p1 ls (y :: x :: rest)) := by
  obtain ⟨⟨p, l, e, R, s, m, args, below, meth, c9, Q⟩, D, A, ro, rot, c0, s0⟩ := X
  obtain ⟨hx, hb, -⟩ := hX
  intro x y v hv
  cases x <;> first | (cases hv; done) | skip
  cases y <;> first | (cases hv; done) | skip
  rename_i x y
  cases hv
  refine ⟨rfl, rfl, fun H locs cells slots ls rest kk => ?_⟩
  exact lv_icmp_gt hx hb hd ht (fun h => by rw [if_neg (by rw [decide_eq_false (Int32.not_le.mpr h)]; decide)] at kk; exact kk) (fun h => by rw [if_pos (decide_eq_true (Int32.not_lt.mp h))] at kk; exact kk)

theorem q_zle_f (hX : q_OK X cc own nL ret fr) {off : Int} {tgt : Nat} (hd : decode cc p1 = .ok (.ifCond .gt off, 3)) (ht : (p1 : Int) + off = (tgt : Int)) : ∀ x v, q_zle x = some v → q_pr x = true ∧ ∀ H locs cells slots ls rest, q_W X H locs cells slots (F0 (q_m X) (if v then (p1 + 3) else tgt) ls rest) → q_W X H locs cells slots (F0 (q_m X) p1 ls (x :: rest)) := by
  obtain ⟨⟨p, l, e, R, s, m, args, below, meth, c9, Q⟩, D, A, ro, rot, c0, s0⟩ := X
  obtain ⟨hx, hb, -⟩ := hX
  intro x v hv
  cases x <;> first | (cases hv; done) | skip
  rename_i x
  cases hv
  refine ⟨rfl, fun H locs cells slots ls rest kk => ?_⟩
  exact lv_if_gt hx hb hd ht (fun h => by rw [if_neg (by rw [decide_eq_false (Int32.not_le.mpr h)]; decide)] at kk; exact kk) (fun h => by rw [if_pos (decide_eq_true (Int32.not_lt.mp h))] at kk; exact kk)

theorem q_goto (hX : q_OK X cc own nL ret fr) {off : Int} {tgt : Nat} (hd : decode cc p1 = .ok (.goto off, 3)) (ht : (p1 : Int) + off = (tgt : Int)) : q_J X p1 tgt := by
  obtain ⟨⟨p, l, e, R, s, m, args, below, meth, c9, Q⟩, D, A, ro, rot, c0, s0⟩ := X
  obtain ⟨hx, hb, -⟩ := hX
  exact fun H locs cells slots ls rest kk => lv_goto hx hb hd ht kk
theorem q_J.rf : q_J X p1 p1 := fun _ _ _ _ _ _ h => h
theorem q_J.tr (h1 : q_J X p1 p2) (h2 : q_J X p2 p3) : q_J X p1 p3 := fun _ _ _ _ _ _ h => h1 _ _ _ _ _ _ (h2 _ _ _ _ _ _ h)
theorem q_dup (hX : q_OK X cc own nL ret fr) (hd : decode cc p1 = .ok (.dup, 1)) : q_D1 X p1 := by
  obtain ⟨⟨p, l, e, R, s, m, args, below, meth, c9, Q⟩, D, A, ro, rot, c0, s0⟩ := X
  obtain ⟨hx, hb, -⟩ := hX
  intro L h α v w rest hr hc hg tys ws H locs cells slots ls hR
  exact lv_dup hx hb hd hc (hg tys ws H locs cells slots ls hR)
theorem q_dup2 (hX : q_OK X cc own nL ret fr) (hd : decode cc p1 = .ok (.dup2, 1)) : q_D2 X p1 := by
  obtain ⟨⟨p, l, e, R, s, m, args, below, meth, c9, Q⟩, D, A, ro, rot, c0, s0⟩ := X
  obtain ⟨hx, hb, -⟩ := hX
  intro L h α w w2 rest hc hc2 hg tys ws H locs cells slots ls hR
  exact lv_dup2_11 hx hb hd hc2 hc (hg tys ws H locs cells slots ls hR)

theorem q_gFld_o (hX : q_OK X cc own nL ret fr) {C : String} {T0 : u_T} {N ci i t index : Nat} (hc : q_cl[ci]? = some (C, T0, N)) (hin : ∀ w ∈ u_ws C T0 N, w ∈ q_WS) (hk : i < N) (hl : Cond.fieldLink own index (T0 i).1 (T0 i).2.1 (T0 i).2.2.1 ∈ q_WS) (hd : decode cc p1 = .ok (.getfield index, 3)) (ht : q_ct t ≤ c) : q_O1 X (q_gFld t ci i) p1 (p1 + 3) c := by
  intro L h α v x w rest e hr kk
  unfold q_gFld at e
  split at e
  · rename_i x0 eo
    split at e
    · rename_i hq
      cases e
      obtain ⟨a, fs, rfl, ha, hca, hfs⟩ := q_fld_spec eo
      intro tys ws H locs cells slots ls hR
      obtain ⟨⟨p, l, e, R, s, m, args, below, meth, c9, Q⟩, D, A, ro, rot, c0, s0⟩ := X
      obtain ⟨hx, hb, hml, hrt, hown, hts, hst, hlk, hSt, hA, hfr, hlo⟩ := hX
      obtain ⟨r1, r2, r3, r4, r5, r6, r7, r8⟩ := id hR
      obtain ⟨b, e2, rfl, he, hcr⟩ := q_cell r2 hr ha hca
      cases e2 with
      | inl y => exact hcr.elim
      | inr y =>
        obtain ⟨cj, gs⟩ := y
        obtain ⟨rfl, hlen, hvals⟩ := hcr
        obtain ⟨w, hw, hrw⟩ := hvals _ _ hfs
        exact va_get hx hb hts hin hown r3 r4 (a - 16) he hc i hk (hts _ hl) (fun _ z => z) hw hd (kk w hrw (by rw [hrw.cat, q_is_cat hq]; exact ht) tys ws H locs cells slots ls hR)
    · cases e
  · cases e
theorem q_set_getElem {fs gs : List Value} {ro : Nat → Nat} {α : List Nat} {i : Nat} {x z : Value} (hlen : fs.length = gs.length) (hv : ∀ (k : Nat) (v : Value), fs[k]? = some v → ∃ w, gs[k]? = some w ∧ q_vr ro α v w) (hz : q_vr ro α x z) : ∀ (k : Nat) (v : Value), (fs.set i x)[k]? = some v → ∃ w, (gs.set i z)[k]? = some w ∧ q_vr ro α v w := by
  intro k v hk
  rw [List.getElem?_set] at hk ⊢
  by_cases h : i = k
  · rw [if_pos h] at hk ⊢
    split at hk
    · rename_i hl
      cases hk
      exact ⟨z, by rw [if_pos (by omega)], hz⟩
    · cases hk
  · rw [if_neg h] at hk ⊢
    exact hv k v hk

theorem q_cr_obj {ro : Nat → Nat} {α : List Nat} {tys : List (ClassId × FieldType)} {ci : Nat} {fs gs : List Value} (h1 : fs.length = gs.length) (h2 : ∀ (k : Nat) (v : Value), fs[k]? = some v → ∃ w, gs[k]? = some w ∧ q_vr ro α v w) : q_cr ro α tys (.inr (ci, fs)) (.inr (ci, gs)) := ⟨rfl, h1, h2⟩
theorem q_cr_arr {ro : Nat → Nat} {α : List Nat} {tys : List (ClassId × FieldType)} {cA : ClassId} {ty : FieldType} {x : vp_A} {t0 : Nat} (h : tys[t0]? = some (cA, ty)) : q_cr ro α tys (.inl (ty, x)) (.inl (cA, x)) := ⟨rfl, t0, h⟩

theorem q_pFld_o (hX : q_OK X cc own nL ret fr) {C : String} {T0 : u_T} {N ci i index : Nat} {ty0 : Nat → FieldType} (hc : q_cl[ci]? = some (C, T0, N)) (hin : ∀ w ∈ u_ws C T0 N, w ∈ q_WS) (hty : ∀ k, k < N → parseFieldDescriptor (T0 k).2.2.1 = some (ty0 k)) (hnm : ∀ a, a < N → ∀ b, b < N → a ≠ b → (T0 a).2.1 ≠ (T0 b).2.1) (hk : i < N) (hl : Cond.fieldLink own index (T0 i).1 (T0 i).2.1 (T0 i).2.2.1 ∈ q_WS) (hfin : (T0 i).2.2.2 = false) (hd : decode cc p1 = .ok (.putfield index, 3)) : q_P2 X (q_pFld (ty0 i) ci i) p1 (p1 + 3) := by
  intro L h α v v2 h' w w2 rest e
  unfold q_pFld at e
  split at e
  · rename_i hfit
    obtain ⟨a, fs, rfl, ha, hca, hi, rfl⟩ := q_setF_spec e
    refine ⟨rfl, fun hr hr2 kk => ?_⟩
    intro tys ws H locs cells slots ls hR
    obtain ⟨⟨p, l, e, R, s, m, args, below, meth, c9, Q⟩, D, A, ro, rot, c0, s0⟩ := X
    obtain ⟨hx, hb, hml, hrt, hown, hts, hst, hlk, hSt, hA, hfr, hlo⟩ := hX
    obtain ⟨r1, r2, r3, r4, r5, r6, r7, r8⟩ := id hR
    obtain ⟨b, e2, rfl, he, hcr⟩ := q_cell r2 hr ha hca
    cases e2 with
    | inl y => exact hcr.elim
    | inr y =>
      obtain ⟨cj, gs⟩ := y
      obtain ⟨rfl, hlen, hvals⟩ := hcr
      obtain ⟨n1, n2⟩ := q_fit_ok hfit hr2
      refine va_put hx hb hts hin ty0 hty hnm hown r3 r4 r5 r6 (a - 16) he hc i hk (hts _ hl) (fun _ z => z) hfin (hty i hk) n1 n2 (by omega) hd (fun H1 locs1 hP hD hS => ?_)
      exact kk tys _ H1 locs1 cells slots ls ⟨r1, r2.set he (q_cr_obj (by simp [hlen]) (q_set_getElem hlen hvals hr2)), r3, hP, hD, hS, r7, r8⟩
  · cases e

theorem q_pFldF_o (hX : q_OK X cc own nL ret fr) {C : String} {T0 : u_T} {N ci i index : Nat} {ty0 : Nat → FieldType} (hc : q_cl[ci]? = some (C, T0, N)) (hin : ∀ w ∈ u_ws C T0 N, w ∈ q_WS) (hty : ∀ k, k < N → parseFieldDescriptor (T0 k).2.2.1 = some (ty0 k)) (hnm : ∀ a, a < N → ∀ b, b < N → a ≠ b → (T0 a).2.1 ≠ (T0 b).2.1) (hk : i < N) (hl : Cond.fieldLink own index (T0 i).1 (T0 i).2.1 (T0 i).2.2.1 ∈ q_WS) (hfin : (T0 i).2.2.2 = true) (hin2 : X.1.2.2.2.2.2.2.2.2.1.name = "<init>") (hdecl : (T0 i).1 = own) (hd : decode cc p1 = .ok (.putfield index, 3)) : q_P2 X (q_pFld (ty0 i) ci i) p1 (p1 + 3) := by
  intro L h α v v2 h' w w2 rest e
  unfold q_pFld at e
  split at e
  · rename_i hfit
    obtain ⟨a, fs, rfl, ha, hca, hi, rfl⟩ := q_setF_spec e
    refine ⟨rfl, fun hr hr2 kk => ?_⟩
    intro tys ws H locs cells slots ls hR
    obtain ⟨⟨p, l, e, R, s, m, args, below, meth, c9, Q⟩, D, A, ro, rot, c0, s0⟩ := X
    obtain ⟨hx, hb, hml, hrt, hown, hts, hst, hlk, hSt, hA, hfr, hlo⟩ := hX
    obtain ⟨r1, r2, r3, r4, r5, r6, r7, r8⟩ := id hR
    obtain ⟨b, e2, rfl, he, hcr⟩ := q_cell r2 hr ha hca
    cases e2 with
    | inl y => exact hcr.elim
    | inr y =>
      obtain ⟨cj, gs⟩ := y
      obtain ⟨rfl, hlen, hvals⟩ := hcr
      obtain ⟨n1, n2⟩ := q_fit_ok hfit hr2
      refine va_putF hx hb hts hin ty0 hty hnm hown r3 r4 r5 r6 (a - 16) he hc i hk (hts _ hl) (fun _ z => z) hfin hin2 hdecl (hty i hk) n1 n2 (by omega) hd (fun H1 locs1 hP hD hS => ?_)
      exact kk tys _ H1 locs1 cells slots ls ⟨r1, r2.set he (q_cr_obj (by simp [hlen]) (q_set_getElem hlen hvals hr2)), r3, hP, hD, hS, r7, r8⟩
  · cases e

theorem q_gI_o (hX : q_OK X cc own nL ret fr) {ty : FieldType} (hd : (ty = .int ∧ decode cc p1 = .ok (.iaload, 1)) ∨ (ty = .boolean ∧ decode cc p1 = .ok (.baload, 1)) ∨ (ty = .char ∧ decode cc p1 = .ok (.caload, 1))) (hc1 : 1 ≤ c) : q_O2 X (q_gI ty) p1 (p1 + 1) c := by
  intro L h α v v2 x w w2 rest e hr hr2 kk
  unfold q_gI at e
  split at e
  · rename_i j ty' n f0 heq
    split at e
    · rename_i hcnd
      obtain ⟨rfl, hin⟩ := hcnd
      cases e
      rw [show w2 = _ from hr2]
      obtain ⟨a2, rfl, ha2, hca⟩ := q_arr_spec heq
      intro tys ws H locs cells slots ls hR
      obtain ⟨⟨p, l, e, R, s, m, args, below, meth, c9, Q⟩, D, A, ro, rot, c0, s0⟩ := X
      obtain ⟨hx, hb, hml, hrt, hown, hts, hst, hlk, hSt, hA, hfr, hlo⟩ := hX
      obtain ⟨r1, r2, r3, r4, r5, r6, r7, r8⟩ := id hR
      obtain ⟨b, e2, rfl, he, hcr⟩ := q_cell r2 hr ha2 hca
      cases e2 with
      | inr y => exact hcr.elim
      | inl y =>
        obtain ⟨cA, y⟩ := y
        obtain ⟨rfl, t0, ht0⟩ := hcr
        have kk := kk (.int (f0 j.toNatClampNeg)) rfl hc1 tys ws H locs cells slots ls hR
        rcases hd with ⟨rfl, hd⟩ | ⟨rfl, hd⟩ | ⟨rfl, hd⟩
        · exact va_iald hx hb r3 r4 (a2 - 16) t0 he ht0 (q_in_vp hin) hd kk
        · exact va_zald hx hb r3 r4 (a2 - 16) t0 he ht0 (q_in_vp hin) hd kk
        · exact va_cald hx hb r3 r4 (a2 - 16) t0 he ht0 (q_in_vp hin) hd kk
    · cases e
  · cases e

theorem q_gL_o (hX : q_OK X cc own nL ret fr) (hd : decode cc p1 = .ok (.laload, 1)) (hc1 : 2 ≤ c) : q_O2 X q_gL p1 (p1 + 1) c := by
  intro L h α v v2 x w w2 rest e hr hr2 kk
  unfold q_gL at e
  split at e
  · rename_i j ty' n f0 heq
    split at e
    · rename_i hcnd
      obtain ⟨rfl, hin⟩ := hcnd
      cases e
      rw [show w2 = _ from hr2]
      obtain ⟨a2, rfl, ha2, hca⟩ := q_arr_spec heq
      intro tys ws H locs cells slots ls hR
      obtain ⟨⟨p, l, e, R, s, m, args, below, meth, c9, Q⟩, D, A, ro, rot, c0, s0⟩ := X
      obtain ⟨hx, hb, hml, hrt, hown, hts, hst, hlk, hSt, hA, hfr, hlo⟩ := hX
      obtain ⟨r1, r2, r3, r4, r5, r6, r7, r8⟩ := id hR
      obtain ⟨b, e2, rfl, he, hcr⟩ := q_cell r2 hr ha2 hca
      cases e2 with
      | inr y => exact hcr.elim
      | inl y =>
        obtain ⟨cA, y⟩ := y
        obtain ⟨rfl, t0, ht0⟩ := hcr
        have kk := kk (.long (f0 j.toNatClampNeg)) rfl hc1 tys ws H locs cells slots ls hR
        exact va_lald hx hb r3 r4 (a2 - 16) t0 he ht0 (q_in_vp hin) hd kk
    · cases e
  · cases e

theorem q_gD_o (hX : q_OK X cc own nL ret fr) (hd : decode cc p1 = .ok (.daload, 1)) (hc1 : 2 ≤ c) : q_O2 X q_gD p1 (p1 + 1) c := by
  intro L h α v v2 x w w2 rest e hr hr2 kk
  unfold q_gD at e
  split at e
  · rename_i j ty' n f0 heq
    split at e
    · rename_i hcnd
      obtain ⟨rfl, hin⟩ := hcnd
      cases e
      rw [show w2 = _ from hr2]
      obtain ⟨a2, rfl, ha2, hca⟩ := q_arr_spec heq
      intro tys ws H locs cells slots ls hR
      obtain ⟨⟨p, l, e, R, s, m, args, below, meth, c9, Q⟩, D, A, ro, rot, c0, s0⟩ := X
      obtain ⟨hx, hb, hml, hrt, hown, hts, hst, hlk, hSt, hA, hfr, hlo⟩ := hX
      obtain ⟨r1, r2, r3, r4, r5, r6, r7, r8⟩ := id hR
      obtain ⟨b, e2, rfl, he, hcr⟩ := q_cell r2 hr ha2 hca
      cases e2 with
      | inr y => exact hcr.elim
      | inl y =>
        obtain ⟨cA, y⟩ := y
        obtain ⟨rfl, t0, ht0⟩ := hcr
        have kk := kk (.double (f0 j.toNatClampNeg)) rfl hc1 tys ws H locs cells slots ls hR
        exact va_dald hx hb r3 r4 (a2 - 16) t0 he ht0 (q_in_vp hin) hd kk
    · cases e
  · cases e

theorem q_gR_o (hX : q_OK X cc own nL ret fr) {rot0 : qRO} (hrot : q_sub rot0 X.2.2.2.2.1) {ty : FieldType} (hd : (ty = .int ∧ decode cc p1 = .ok (.iaload, 1)) ∨ (ty = .char ∧ decode cc p1 = .ok (.caload, 1))) (hc1 : 1 ≤ c) : q_O2 X (q_gR rot0 ty) p1 (p1 + 1) c := by
  intro L h α v v2 x w w2 rest e hr hr2 kk
  unfold q_gR at e
  split at e
  · rename_i j r
    split at e
    · rename_i ty' n f heq
      split at e
      · rename_i hcnd
        obtain ⟨rfl, hin⟩ := hcnd
        cases e
        rw [show w2 = _ from hr2]
        intro tys ws H locs cells slots ls hR
        have kk := kk (.int (f j.toNatClampNeg)) rfl hc1 tys ws H locs cells slots ls hR
        obtain ⟨⟨p, l, e, R, s, m, args, below, meth, c9, Q⟩, D, A, ro, rot, c0, s0⟩ := X
        obtain ⟨hx, hb, hml, hrt, hown, hts, hst, hlk, hSt, hA, hfr, hlo⟩ := hX
        obtain ⟨r1, r2, r3, r4, r5, r6, r7, r8⟩ := id hR
        obtain ⟨hk, hT⟩ := hSt.1 _ _ (hrot _ _ heq)
        obtain ⟨a, rfl, hr⟩ := hr
        rcases hr with ⟨-, rfl⟩ | ⟨h16, -⟩
        · rcases hd with ⟨rfl, hd⟩ | ⟨rfl, hd⟩
          · exact va_ti hx hb hT r6 (q_in_vp hin) rfl hd kk
          · exact va_tc hx hb hT r6 (q_in_vp hin) rfl hd kk
        · exact absurd hk (Nat.not_lt.mpr h16)
      · cases e
    · cases e
  · cases e
theorem q_gLen_o (hX : q_OK X cc own nL ret fr) (hd : decode cc p1 = .ok (.arraylength, 1)) (hc1 : 1 ≤ c) : q_O1 X q_gLen p1 (p1 + 1) c := by
  intro L h α v x w rest e hr kk
  unfold q_gLen at e
  split at e
  · rename_i ty n f0 heq
    cases e
    obtain ⟨a2, rfl, ha2, hca⟩ := q_arr_spec heq
    intro tys ws H locs cells slots ls hR
    obtain ⟨⟨p, l, e, R, s, m, args, below, meth, c9, Q⟩, D, A, ro, rot, c0, s0⟩ := X
    obtain ⟨hx, hb, hml, hrt, hown, hts, hst, hlk, hSt, hA, hfr, hlo⟩ := hX
    obtain ⟨r1, r2, r3, r4, r5, r6, r7, r8⟩ := id hR
    obtain ⟨b, e2, rfl, he, hcr⟩ := q_cell r2 hr ha2 hca
    cases e2 with
    | inr y => exact hcr.elim
    | inl y =>
      obtain ⟨cA, y⟩ := y
      obtain ⟨rfl, t0, ht0⟩ := hcr
      exact va_alen hx hb r3 r4 (a2 - 16) t0 he ht0 rfl hd (kk (.int (Int32.ofNat n)) rfl hc1 tys ws H locs cells slots ls hR)
  · cases e
theorem q_gLenR_o (hX : q_OK X cc own nL ret fr) {rot0 : qRO} (hrot : q_sub rot0 X.2.2.2.2.1) (hd : decode cc p1 = .ok (.arraylength, 1)) (hc1 : 1 ≤ c) : q_O1 X (q_gLenR rot0) p1 (p1 + 1) c := by
  intro L h α v x w rest e hr kk
  unfold q_gLenR at e
  split at e
  · rename_i r
    split at e
    · rename_i ty' n f heq
      cases e
      intro tys ws H locs cells slots ls hR
      have kk := kk (.int (Int32.ofNat n)) rfl hc1 tys ws H locs cells slots ls hR
      obtain ⟨⟨p, l, e, R, s, m, args, below, meth, c9, Q⟩, D, A, ro, rot, c0, s0⟩ := X
      obtain ⟨hx, hb, hml, hrt, hown, hts, hst, hlk, hSt, hA, hfr, hlo⟩ := hX
      obtain ⟨r1, r2, r3, r4, r5, r6, r7, r8⟩ := id hR
      obtain ⟨hk, hT⟩ := hSt.1 _ _ (hrot _ _ heq)
      obtain ⟨a, rfl, hr⟩ := hr
      rcases hr with ⟨-, rfl⟩ | ⟨h16, -⟩
      · exact va_tlen hx hb hT r6 rfl hd kk
      · exact absurd hk (Nat.not_lt.mpr h16)
    · cases e
  · cases e

theorem q_pI_o (hX : q_OK X cc own nL ret fr) {ty : FieldType} (hd : (ty = .int ∧ decode cc p1 = .ok (.iastore, 1)) ∨ (ty = .boolean ∧ decode cc p1 = .ok (.bastore, 1)) ∨ (ty = .char ∧ decode cc p1 = .ok (.castore, 1))) : q_P3 X (q_pI ty) p1 (p1 + 1) := by
  intro L h α v v2 v3 h' w w2 w3 rest e
  unfold q_pI at e
  split at e
  · rename_i j y ty' n f0 heq
    split at e
    · rename_i hcnd
      obtain ⟨rfl, hin⟩ := hcnd
      cases e
      obtain ⟨a2, rfl, ha2, hca⟩ := q_arr_spec heq
      refine ⟨rfl, fun hr hr2 hr3 kk => ?_⟩
      rw [show w2 = _ from hr2, show w3 = _ from hr3]
      intro tys ws H locs cells slots ls hR
      obtain ⟨⟨p, l, e, R, s, m, args, below, meth, c9, Q⟩, D, A, ro, rot, c0, s0⟩ := X
      obtain ⟨hx, hb, hml, hrt, hown, hts, hst, hlk, hSt, hA, hfr, hlo⟩ := hX
      obtain ⟨r1, r2, r3, r4, r5, r6, r7, r8⟩ := id hR
      obtain ⟨b, e2, rfl, he, hcr⟩ := q_cell r2 hr ha2 hca
      cases e2 with
      | inr z => exact hcr.elim
      | inl z =>
        obtain ⟨cA, z⟩ := z
        obtain ⟨rfl, t0, ht0⟩ := hcr
        rcases hd with ⟨rfl, hd⟩ | ⟨rfl, hd⟩ | ⟨rfl, hd⟩
        · exact va_iast hx hb r3 r4 r5 r6 (a2 - 16) t0 he ht0 (q_in_vp hin) hd (fun H1 locs1 hP hD hS => kk tys _ H1 locs1 cells slots ls ⟨r1, r2.set he (q_cr_arr ht0), r3, hP, hD, hS, r7, r8⟩)
        · exact va_zast hx hb r3 r4 r5 r6 (a2 - 16) t0 he ht0 (q_in_vp hin) hd (fun H1 locs1 hP hD hS => kk tys _ H1 locs1 cells slots ls ⟨r1, r2.set he (q_cr_arr ht0), r3, hP, hD, hS, r7, r8⟩)
        · exact va_cast hx hb r3 r4 r5 r6 (a2 - 16) t0 he ht0 (q_in_vp hin) hd (fun H1 locs1 hP hD hS => kk tys _ H1 locs1 cells slots ls ⟨r1, r2.set he (q_cr_arr ht0), r3, hP, hD, hS, r7, r8⟩)
    · cases e
  · cases e

theorem q_pL_o (hX : q_OK X cc own nL ret fr) (hd : decode cc p1 = .ok (.lastore, 1)) : q_P3 X q_pL p1 (p1 + 1) := by
  intro L h α v v2 v3 h' w w2 w3 rest e
  unfold q_pL at e
  split at e
  · rename_i j y ty' n f0 heq
    split at e
    · rename_i hcnd
      obtain ⟨rfl, hin⟩ := hcnd
      cases e
      obtain ⟨a2, rfl, ha2, hca⟩ := q_arr_spec heq
      refine ⟨rfl, fun hr hr2 hr3 kk => ?_⟩
      rw [show w2 = _ from hr2, show w3 = _ from hr3]
      intro tys ws H locs cells slots ls hR
      obtain ⟨⟨p, l, e, R, s, m, args, below, meth, c9, Q⟩, D, A, ro, rot, c0, s0⟩ := X
      obtain ⟨hx, hb, hml, hrt, hown, hts, hst, hlk, hSt, hA, hfr, hlo⟩ := hX
      obtain ⟨r1, r2, r3, r4, r5, r6, r7, r8⟩ := id hR
      obtain ⟨b, e2, rfl, he, hcr⟩ := q_cell r2 hr ha2 hca
      cases e2 with
      | inr z => exact hcr.elim
      | inl z =>
        obtain ⟨cA, z⟩ := z
        obtain ⟨rfl, t0, ht0⟩ := hcr
        exact va_last hx hb r3 r4 r5 r6 (a2 - 16) t0 he ht0 (q_in_vp hin) hd (fun H1 locs1 hP hD hS => kk tys _ H1 locs1 cells slots ls ⟨r1, r2.set he (q_cr_arr ht0), r3, hP, hD, hS, r7, r8⟩)
    · cases e
  · cases e

theorem q_pD_o (hX : q_OK X cc own nL ret fr) (hd : decode cc p1 = .ok (.dastore, 1)) : q_P3 X q_pD p1 (p1 + 1) := by
  intro L h α v v2 v3 h' w w2 w3 rest e
  unfold q_pD at e
  split at e
  · rename_i j y ty' n f0 heq
    split at e
    · rename_i hcnd
      obtain ⟨rfl, hin⟩ := hcnd
      cases e
      obtain ⟨a2, rfl, ha2, hca⟩ := q_arr_spec heq
      refine ⟨rfl, fun hr hr2 hr3 kk => ?_⟩
      rw [show w2 = _ from hr2, show w3 = _ from hr3]
      intro tys ws H locs cells slots ls hR
      obtain ⟨⟨p, l, e, R, s, m, args, below, meth, c9, Q⟩, D, A, ro, rot, c0, s0⟩ := X
      obtain ⟨hx, hb, hml, hrt, hown, hts, hst, hlk, hSt, hA, hfr, hlo⟩ := hX
      obtain ⟨r1, r2, r3, r4, r5, r6, r7, r8⟩ := id hR
      obtain ⟨b, e2, rfl, he, hcr⟩ := q_cell r2 hr ha2 hca
      cases e2 with
      | inr z => exact hcr.elim
      | inl z =>
        obtain ⟨cA, z⟩ := z
        obtain ⟨rfl, t0, ht0⟩ := hcr
        exact va_dast hx hb r3 r4 r5 r6 (a2 - 16) t0 he ht0 (q_in_vp hin) hd (fun H1 locs1 hP hD hS => kk tys _ H1 locs1 cells slots ls ⟨r1, r2.set he (q_cr_arr ht0), r3, hP, hD, hS, r7, r8⟩)
    · cases e
  · cases e

theorem q_gets (hX : q_OK X cc own nL ret fr) {q : String × String × String × Nat} {index : Nat} (hq : q ∈ q_stt) (hk : q.2.2.2 < 16) (hl : Cond.fieldLink own index q.1 q.2.1 q.2.2.1 ∈ q_WS) (hd : decode cc p1 = .ok (.getstatic index, 3)) (hc1 : 1 ≤ c) : q_EOK X T (q_eLit (.ref q.2.2.2)) p1 (p1 + 3) k c := by
  intro L h r h' hf
  cases hf
  refine ⟨q_le.rf _, fun _ α rest _ kv _ => ?_⟩
  intro tys ws H locs cells slots ls hR
  obtain ⟨⟨p, l, e, R, s, m, args, below, meth, c9, Q⟩, D, A, ro, rot, c0, s0⟩ := X
  obtain ⟨hx, hb, hml, hrt, hown, hts, hst, hlk, hSt, hA, hfr, hlo⟩ := hX
  obtain ⟨r1, r2, r3, r4, r5, r6, r7, r8⟩ := id hR
  exact va_gets hx hb (hSt.2.1 q hq) r6 hown (hts _ hl) (fun _ z => z) hd (kv _ rfl α (.ref (ro q.2.2.2)) (List.prefix_refl _) ⟨_, rfl, Or.inl ⟨hk, rfl⟩⟩ hc1 tys ws H locs cells slots ls hR)
theorem q_getsN (hX : q_OK X cc own nL ret fr) {q : String × String × String × Nat} {index : Nat} (hq : q ∈ q_stt) (hk : q.2.2.2 < 16) (hl : (own, index, q.1, q.2.1, q.2.2.1) ∈ q_NF) (hd : decode cc p1 = .ok (.getstatic index, 3)) (hc1 : 1 ≤ c) : q_EOK X T (q_eLit (.ref q.2.2.2)) p1 (p1 + 3) k c := by
  intro L h r h' hf
  cases hf
  refine ⟨q_le.rf _, fun _ α rest _ kv _ => ?_⟩
  intro tys ws H locs cells slots ls hR
  obtain ⟨⟨p, l, e, R, s, m, args, below, meth, c9, Q⟩, D, A, ro, rot, c0, s0⟩ := X
  obtain ⟨hx, hb, hml, hrt, hown, hts, hst, hlk, hSt, hA, hfr, hlo⟩ := hX
  obtain ⟨r1, r2, r3, r4, r5, r6, r7, r8⟩ := id hR
  exact va_getsN hx hb (hSt.2.1 q hq) r6 hown (va_Nw.use rfl (hSt.2.2.2.2.2.2.2.1 _ hl)) (fun _ z => z) hd (kv _ rfl α (.ref (ro q.2.2.2)) (List.prefix_refl _) ⟨_, rfl, Or.inl ⟨hk, rfl⟩⟩ hc1 tys ws H locs cells slots ls hR)

end QOPS
