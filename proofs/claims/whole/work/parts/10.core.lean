/-! CORE: one world for the class, the model and the law: cells by (kind, number), a typed state, contracts Ev, walks RW -/
abbrev Md : Type := MethodName × ByteArray × Nat × Option FieldType
def uw : List Cond := lw_tbl.filter goodWord
theorem uw_i {w : Cond} (h : w ∈ lw_tbl ∧ goodWord w = true) : w ∈ uw := List.mem_filter.mpr h
theorem uw_good {w : Cond} (h : w ∈ uw) : goodWord w = true := (List.mem_filter.mp h).2
theorem uw_tbl {w : Cond} (h : w ∈ uw) : w ∈ lw_tbl := (List.mem_filter.mp h).1
abbrev uC (M : Md) : Cond := .code M.1 M.2.1 M.2.2.1 M.2.2.2
def uM (M : Md) : List Cond := uC M :: uw
def rmL (d k n : Nat) : Room := { frames := d, cells := k, slots := n, locals := 30 * d }
theorem uw_sub {ws : List Cond} (h : ∀ w ∈ ws, w ∈ uw) : GoodIn uw ws := fun w hw => ⟨h w hw, good_of_word (uw_good (h w hw))⟩
-- whole numbers
def zI (z : Int) : Int32 := Int32.ofInt z
def zL (z : Int) : Int64 := Int64.ofInt z
def bI (b : Bool) : Int := if b = true then 1 else 0
theorem bI_t : bI true = 1 := rfl
theorem bI_f : bI false = 0 := rfl
theorem zI_toInt {z : Int} (h1 : -2147483648 ≤ z) (h2 : z ≤ 2147483647) : (zI z).toInt = z := by
  unfold zI
  exact Int32.toInt_ofInt_of_le (by simpa using h1) (by simp; omega)
theorem zI_of (x : Int32) : zI x.toInt = x := by unfold zI; exact Int32.ofInt_toInt x
theorem zL_toInt {z : Int} (h1 : -9223372036854775808 ≤ z) (h2 : z ≤ 9223372036854775807) : (zL z).toInt = z := by
  unfold zL
  exact Int64.toInt_ofInt_of_le (by simpa using h1) (by simp; omega)
theorem zI_add (a b : Int) : zI a + zI b = zI (a + b) := by unfold zI; exact (Int32.ofInt_add a b).symm
theorem zI_sub (a b : Int) : zI a - zI b = zI (a - b) := by unfold zI; exact (Int32.ofInt_sub a b).symm
theorem zI_mul (a b : Int) : zI a * zI b = zI (a * b) := by unfold zI; exact (Int32.ofInt_mul a b).symm
theorem zL_add (a b : Int) : zL a + zL b = zL (a + b) := by unfold zL; exact (Int64.ofInt_add a b).symm
theorem zL_sub (a b : Int) : zL a - zL b = zL (a - b) := by unfold zL; exact (Int64.ofInt_sub a b).symm
theorem zL_mul (a b : Int) : zL a * zL b = zL (a * b) := by unfold zL; exact (Int64.ofInt_mul a b).symm
theorem zI_inj {a b : Int} (ha : -2147483648 ≤ a ∧ a ≤ 2147483647) (hb : -2147483648 ≤ b ∧ b ≤ 2147483647) : zI a = zI b ↔ a = b := by
  constructor
  · intro h
    have := congrArg Int32.toInt h
    rwa [zI_toInt ha.1 ha.2, zI_toInt hb.1 hb.2] at this
  · intro h; rw [h]
theorem zI_lt {a b : Int} (ha : -2147483648 ≤ a ∧ a ≤ 2147483647) (hb : -2147483648 ≤ b ∧ b ≤ 2147483647) : zI a < zI b ↔ a < b := by
  rw [Int32.lt_iff_toInt_lt, zI_toInt ha.1 ha.2, zI_toInt hb.1 hb.2]
theorem zI_le {a b : Int} (ha : -2147483648 ≤ a ∧ a ≤ 2147483647) (hb : -2147483648 ≤ b ∧ b ≤ 2147483647) : zI a ≤ zI b ↔ a ≤ b := by
  rw [Int32.le_iff_toInt_le, zI_toInt ha.1 ha.2, zI_toInt hb.1 hb.2]
theorem zL_lt {a b : Int} (ha : -9223372036854775808 ≤ a ∧ a ≤ 9223372036854775807) (hb : -9223372036854775808 ≤ b ∧ b ≤ 9223372036854775807) : zL a < zL b ↔ a < b := by
  rw [Int64.lt_iff_toInt_lt, zL_toInt ha.1 ha.2, zL_toInt hb.1 hb.2]
theorem zL_inj {a b : Int} (ha : -9223372036854775808 ≤ a ∧ a ≤ 9223372036854775807) (hb : -9223372036854775808 ≤ b ∧ b ≤ 9223372036854775807) : zL a = zL b ↔ a = b := by
  constructor
  · intro h
    have := congrArg Int64.toInt h
    rwa [zL_toInt ha.1 ha.2, zL_toInt hb.1 hb.2] at this
  · intro h; rw [h]
theorem zI_0 : (0 : Int32) = zI 0 := rfl
theorem zI_ge {a b : Int} (ha : -2147483648 ≤ a ∧ a ≤ 2147483647) (hb : -2147483648 ≤ b ∧ b ≤ 2147483647) : zI a ≥ zI b ↔ a ≥ b := zI_le hb ha
theorem zI_gt {a b : Int} (ha : -2147483648 ≤ a ∧ a ≤ 2147483647) (hb : -2147483648 ≤ b ∧ b ≤ 2147483647) : zI a > zI b ↔ a > b := zI_lt hb ha
theorem zI_clamp {z : Int} (h : 0 ≤ z ∧ z ≤ 2147483647) : (zI z).toNatClampNeg = z.toNat := by
  unfold Int32.toNatClampNeg
  rw [zI_toInt (by omega) (by omega)]
theorem zI_in {z : Int} {n : Nat} (h0 : 0 ≤ z) (h1 : z < (n : Int)) (h2 : z ≤ 2147483647) : vp_in (zI z) n := by
  rw [vp_in_iff, zI_toInt (by omega) (by omega)]
  exact ⟨h0, h1⟩
theorem zI_ofNat (n : Nat) : Int32.ofNat n = zI (n : Int) := by
  unfold zI
  rw [Int32.ofInt_eq_ofNat]
theorem zI_long {z : Int} (h1 : -2147483648 ≤ z) (h2 : z ≤ 2147483647) : (zI z).toInt64 = zL z := by
  have e : (zI z).toInt64 = Int64.ofInt (zI z).toInt := by simp
  rw [e, zI_toInt h1 h2]
  rfl
theorem zL_int (z : Int) : (zL z).toInt32 = zI z := by
  unfold zL zI
  simp
theorem uw_at {w : Cond} (i : Nat) (h : lw_tbl[i]? = some w ∧ goodWord w = true) : w ∈ uw := List.mem_filter.mpr ⟨List.mem_of_getElem? h.1, h.2⟩
/-- a method that is called on an object of class My.1.cls -/
def Vok (My : Md) (a : Nat) : Prop := Cond.instanceMethod My.1 ∈ uw ∧ Cond.selects My.1.cls My.1 My.1 ∈ uw ∧ Cond.initialized My.1.cls ∈ uw ∧ uC My ∈ uw ∧ My.1.cls ≠ "java/lang/invoke/MethodHandle" ∧ My.1.cls ≠ "java/lang/invoke/VarHandle" ∧ (parseMethodDescriptor My.1.desc).map (fun d => d.parameters.length) = some a
def Sok (My : Md) (a : Nat) : Prop := Cond.static My.1 ∈ uw ∧ Cond.initialized My.1.cls ∈ uw ∧ uC My ∈ uw ∧ My.1.cls ≠ "java/lang/invoke/MethodHandle" ∧ My.1.cls ≠ "java/lang/invoke/VarHandle" ∧ (parseMethodDescriptor My.1.desc).map (fun d => d.parameters.length) = some a
theorem Vok.of {My : Md} {a : Nat} (h : (∀ w ∈ [Cond.instanceMethod My.1, .selects My.1.cls My.1 My.1, .initialized My.1.cls, uC My], w ∈ lw_tbl ∧ goodWord w = true) ∧ My.1.cls ≠ "java/lang/invoke/MethodHandle" ∧ My.1.cls ≠ "java/lang/invoke/VarHandle" ∧ (parseMethodDescriptor My.1.desc).map (fun d => d.parameters.length) = some a) : Vok My a :=
  ⟨uw_i (h.1 _ (by simp)), uw_i (h.1 _ (by simp)), uw_i (h.1 _ (by simp)), uw_i (h.1 _ (by simp)), h.2⟩
theorem Sok.of {My : Md} {a : Nat} (h : (∀ w ∈ [Cond.static My.1, .initialized My.1.cls, uC My], w ∈ lw_tbl ∧ goodWord w = true) ∧ My.1.cls ≠ "java/lang/invoke/MethodHandle" ∧ My.1.cls ≠ "java/lang/invoke/VarHandle" ∧ (parseMethodDescriptor My.1.desc).map (fun d => d.parameters.length) = some a) : Sok My a :=
  ⟨uw_i (h.1 _ (by simp)), uw_i (h.1 _ (by simp)), uw_i (h.1 _ (by simp)), h.2⟩
theorem uM_uw {My : Md} (h : uC My ∈ uw) : ∀ w ∈ uM My, w ∈ uw := fun w hw => (List.mem_cons.mp hw).elim (fun e => by rw [e]; exact h) id
