/-! A WALK in any room, to any end: for methods that catch, and for the law -/
def CxG (γ : Gm) (M : Md) (Z : Array Value → State → Method → Code → Prop) (p : Program) (s : State) (m : MethodId) (args : Array Value) (meth : Method) (c : Code) : Prop := p.tables.exec = Jvm.exec ∧ c.code = M.2.1 ∧ meth.sig.returnType = M.2.2.2 ∧ c.maxLocals = M.2.2.1 ∧ s.vm.findClass M.1.cls = some m.cls ∧ (∀ w ∈ uw, w.before args s = true) ∧ meth.locks = false ∧ va_K (gD γ) vwCl (tysG γ) s ∧ Bs γ s ∧ gB γ ≤ s.heap.size ∧ Z args s meth c
def GW (γ : Gm) (M : Md) (R : Room) (Z : Array Value → State → Method → Code → Prop) (Q : List Frame → Array Value → State → State → Prop) (c1 n1 : Nat) (pc : Nat) (L : List (Option Value)) (st : List Value) (σ : St) (xs : va_W) : Prop :=
  ∀ (p : Program) (e : Env) (s : State) (m : MethodId) (args : Array Value) (below : List Frame) (meth : Method) (c : Code) (H : Heap) (locs : List Loc) (ls : Array Slot),
    CxG γ M Z p s m args meth c → va_S (fr γ) s.heap H locs → Cl γ σ xs H → Gok γ xs → Lc ls M.2.2.1 L →
    W p (gl γ) e R s m args below meth c H locs c1 n1 (Q below args s) (F0 m pc ls st)
section GROWS
variable {γ : Gm} {M : Md} {R : Room} {Z : Array Value → State → Method → Code → Prop} {Q : List Frame → Array Value → State → State → Prop} {c1 n1 pc q : Nat} {L : List (Option Value)} {st : List Value} {σ σ1 : St} {xs xs1 : va_W}
theorem GW.cast {st' : List Value} {σ' : St} (h1 : σ = σ') (h2 : st = st') (k9 : GW γ M R Z Q c1 n1 pc L st' σ' xs) : GW γ M R Z Q c1 n1 pc L st σ xs := by subst h1; subst h2; exact k9
theorem GW.sub {L' : List (Option Value)} (hs : ∀ (i : Nat) (v : Value), L'[i]? = some (some v) → L[i]? = some (some v)) (k9 : GW γ M R Z Q c1 n1 pc L' st σ xs) : GW γ M R Z Q c1 n1 pc L st σ xs :=
  fun p e s m args below meth c H locs ls C hS hC hG hl => k9 p e s m args below meth c H locs ls C hS hC hG (hl.sub hs)
theorem GW.wid (c2 n2 : Nat) (h1 : c1 ≤ c2) (h2 : n1 ≤ n2) (kk : GW γ M R Z Q c2 n2 pc L st σ xs) : GW γ M R Z Q c1 n1 pc L st σ xs := by
  intro p e s m args below meth c H locs ls C hS hC hG hl
  exact W.widen h1 h2 (kk p e s m args below meth c H locs ls C hS hC hG hl)
theorem GW.dropx {e : Nat × va_E} (kk : GW γ M R Z Q c1 n1 pc L st σ xs) : GW γ M R Z Q c1 n1 pc L st σ (e :: xs) := by
  intro p e s m args below meth c H locs ls C hS hC hG hl
  exact kk p e s m args below meth c H locs ls C hS hC.tail hG.tail hl
theorem h_iconst {z : Int} (hd : decode M.2.1 pc = .ok (.iconst z, 1)) (hq : pc + 1 = q)  (kk : GW γ M R Z Q c1 n1 q L (.int (zI z) :: st) σ xs) : GW γ M R Z Q c1 n1 pc L st σ xs := by
  subst hq
  intro p e s m args below meth c H locs ls C hS hC hG hl
  exact lv_iconst C.1 C.2.1 hd rfl (kk p e s m args below meth c H locs ls C hS hC hG hl)
theorem h_bipush {z : Int} (hd : decode M.2.1 pc = .ok (.bipush z, 2)) (hq : pc + 2 = q) (hv : (Int8.ofInt z).toInt32 = zI z) (kk : GW γ M R Z Q c1 n1 q L (.int (zI z) :: st) σ xs) : GW γ M R Z Q c1 n1 pc L st σ xs := by
  subst hq
  intro p e s m args below meth c H locs ls C hS hC hG hl
  exact lv_bipush C.1 C.2.1 hd hv (kk p e s m args below meth c H locs ls C hS hC hG hl)
theorem h_sipush {z : Int} (hd : decode M.2.1 pc = .ok (.sipush z, 3)) (hq : pc + 3 = q) (hv : (Int16.ofInt z).toInt32 = zI z) (kk : GW γ M R Z Q c1 n1 q L (.int (zI z) :: st) σ xs) : GW γ M R Z Q c1 n1 pc L st σ xs := by
  subst hq
  intro p e s m args below meth c H locs ls C hS hC hG hl
  exact lv_sipush C.1 C.2.1 hd hv (kk p e s m args below meth c H locs ls C hS hC hG hl)
theorem h_lconst {j : Fin 2} {z : Int} (hd : decode M.2.1 pc = .ok (.lconst j, 1)) (hq : pc + 1 = q) (hv : Int64.ofNat j = zL z) (kk : GW γ M R Z Q c1 n1 q L (.long (zL z) :: st) σ xs) : GW γ M R Z Q c1 n1 pc L st σ xs := by
  subst hq
  intro p e s m args below meth c H locs ls C hS hC hG hl
  exact lv_lconst C.1 C.2.1 hd hv (kk p e s m args below meth c H locs ls C hS hC hG hl)
theorem h_iload_n {j : Fin 4} {x : Int32} (hd : decode M.2.1 pc = .ok (.iload_n j, 1)) (hq : pc + 1 = q) (hv : L[(j : Nat)]? = some (some (.int x))) (kk : GW γ M R Z Q c1 n1 q L (.int x :: st) σ xs) : GW γ M R Z Q c1 n1 pc L st σ xs := by
  subst hq
  intro p e s m args below meth c H locs ls C hS hC hG hl
  exact lv_iload_n C.1 C.2.1 hd rfl (hl.at hv) (kk p e s m args below meth c H locs ls C hS hC hG hl)
theorem h_iload {j : Nat} {x : Int32} (hd : decode M.2.1 pc = .ok (.iload j, 2)) (hq : pc + 2 = q) (hv : L[j]? = some (some (.int x))) (kk : GW γ M R Z Q c1 n1 q L (.int x :: st) σ xs) : GW γ M R Z Q c1 n1 pc L st σ xs := by
  subst hq
  intro p e s m args below meth c H locs ls C hS hC hG hl
  exact lv_iload C.1 C.2.1 hd (hl.at hv) (kk p e s m args below meth c H locs ls C hS hC hG hl)
theorem h_aload_n {j : Fin 4} {x : Nat} (hd : decode M.2.1 pc = .ok (.aload_n j, 1)) (hq : pc + 1 = q) (hv : L[(j : Nat)]? = some (some (.ref x))) (kk : GW γ M R Z Q c1 n1 q L (.ref x :: st) σ xs) : GW γ M R Z Q c1 n1 pc L st σ xs := by
  subst hq
  intro p e s m args below meth c H locs ls C hS hC hG hl
  exact lv_aload_n C.1 C.2.1 hd rfl (hl.at hv) (kk p e s m args below meth c H locs ls C hS hC hG hl)
theorem h_aload {j : Nat} {x : Nat} (hd : decode M.2.1 pc = .ok (.aload j, 2)) (hq : pc + 2 = q) (hv : L[j]? = some (some (.ref x))) (kk : GW γ M R Z Q c1 n1 q L (.ref x :: st) σ xs) : GW γ M R Z Q c1 n1 pc L st σ xs := by
  subst hq
  intro p e s m args below meth c H locs ls C hS hC hG hl
  exact lv_aload C.1 C.2.1 hd (hl.at hv) (kk p e s m args below meth c H locs ls C hS hC hG hl)
theorem h_istore_n {j : Fin 4} {x : Int32} {L' : List (Option Value)} (hd : decode M.2.1 pc = .ok (.istore_n j, 1)) (hq : pc + 1 = q) (hn : (j : Nat) < M.2.2.1) (hL : Lst L L' (j : Nat) (.int x)) (kk : GW γ M R Z Q c1 n1 q L' st σ xs) : GW γ M R Z Q c1 n1 pc L (.int x :: st) σ xs := by
  subst hq
  intro p e s m args below meth c H locs ls C hS hC hG hl
  obtain ⟨ls', e', h'⟩ := hl.store1 (v := .int x) hn rfl hL
  intro T hT X
  have hexec := C.1
  have hb := C.2.1
  obtain ⟨t, a, b⟩ := kk p e s m args below meth c H locs ls' C hS hC hG h' T hT X
  refine ⟨t, ?_, b⟩
  jvm_step X.here [X.here.top, ↓top_set X.here.top, hexec, hb, hd, e']
  exact a
theorem h_istore {j : Nat} {x : Int32} {L' : List (Option Value)} (hd : decode M.2.1 pc = .ok (.istore j, 2)) (hq : pc + 2 = q) (hn : j < M.2.2.1) (hL : Lst L L' j (.int x)) (kk : GW γ M R Z Q c1 n1 q L' st σ xs) : GW γ M R Z Q c1 n1 pc L (.int x :: st) σ xs := by
  subst hq
  intro p e s m args below meth c H locs ls C hS hC hG hl
  obtain ⟨ls', e', h'⟩ := hl.store1 (v := .int x) hn rfl hL
  intro T hT X
  have hexec := C.1
  have hb := C.2.1
  obtain ⟨t, a, b⟩ := kk p e s m args below meth c H locs ls' C hS hC hG h' T hT X
  refine ⟨t, ?_, b⟩
  jvm_step X.here [X.here.top, ↓top_set X.here.top, hexec, hb, hd, e']
  exact a
theorem h_astore_n {j : Fin 4} {x : Nat} {L' : List (Option Value)} (hd : decode M.2.1 pc = .ok (.astore_n j, 1)) (hq : pc + 1 = q) (hn : (j : Nat) < M.2.2.1) (hL : Lst L L' (j : Nat) (.ref x)) (kk : GW γ M R Z Q c1 n1 q L' st σ xs) : GW γ M R Z Q c1 n1 pc L (.ref x :: st) σ xs := by
  subst hq
  intro p e s m args below meth c H locs ls C hS hC hG hl
  obtain ⟨ls', e', h'⟩ := hl.store1 (v := .ref x) hn rfl hL
  intro T hT X
  have hexec := C.1
  have hb := C.2.1
  obtain ⟨t, a, b⟩ := kk p e s m args below meth c H locs ls' C hS hC hG h' T hT X
  refine ⟨t, ?_, b⟩
  jvm_step X.here [X.here.top, ↓top_set X.here.top, hexec, hb, hd, e', Value.isRef]
  exact a
theorem h_astore {j : Nat} {x : Nat} {L' : List (Option Value)} (hd : decode M.2.1 pc = .ok (.astore j, 2)) (hq : pc + 2 = q) (hn : j < M.2.2.1) (hL : Lst L L' j (.ref x)) (kk : GW γ M R Z Q c1 n1 q L' st σ xs) : GW γ M R Z Q c1 n1 pc L (.ref x :: st) σ xs := by
  subst hq
  intro p e s m args below meth c H locs ls C hS hC hG hl
  obtain ⟨ls', e', h'⟩ := hl.store1 (v := .ref x) hn rfl hL
  intro T hT X
  have hexec := C.1
  have hb := C.2.1
  obtain ⟨t, a, b⟩ := kk p e s m args below meth c H locs ls' C hS hC hG h' T hT X
  refine ⟨t, ?_, b⟩
  jvm_step X.here [X.here.top, ↓top_set X.here.top, hexec, hb, hd, e', Value.isRef]
  exact a
theorem h_iinc {j : Nat} {z w : Int} {L' : List (Option Value)} (hd : decode M.2.1 pc = .ok (.iinc j z, 3)) (hq : pc + 3 = q) (hv : L[j]? = some (some (.int (zI w)))) (hn : j < M.2.2.1) (hL : Lst L L' j (.int (zI (w + z)))) (kk : GW γ M R Z Q c1 n1 q L' st σ xs) : GW γ M R Z Q c1 n1 pc L st σ xs := by
  subst hq
  intro p e s m args below meth c H locs ls C hS hC hG hl
  have hg := hl.at hv
  have hv2 : zI w + Int32.ofInt z = zI (w + z) := zI_add w z
  obtain ⟨ls', e', h'⟩ := hl.store1 (v := .int (zI (w + z))) hn rfl hL
  rw [← hv2] at e'
  intro T hT X
  have hexec := C.1
  have hb := C.2.1
  obtain ⟨t, a, b⟩ := kk p e s m args below meth c H locs ls' C hS hC hG h' T hT X
  refine ⟨t, ?_, b⟩
  jvm_step X.here [X.here.top, ↓top_set X.here.top, hexec, hb, hd, hg, e']
  exact a
theorem h_iadd {a b : Int} (hd : decode M.2.1 pc = .ok (.iadd, 1)) (hq : pc + 1 = q) (kk : GW γ M R Z Q c1 n1 q L (.int (zI (a + b)) :: st) σ xs) : GW γ M R Z Q c1 n1 pc L (.int (zI b) :: .int (zI a) :: st) σ xs := by
  subst hq
  intro p e s m args below meth c H locs ls C hS hC hG hl
  refine lv_iadd C.1 C.2.1 hd ?_
  rw [zI_add]
  exact kk p e s m args below meth c H locs ls C hS hC hG hl
theorem h_isub {a b : Int} (hd : decode M.2.1 pc = .ok (.isub, 1)) (hq : pc + 1 = q) (kk : GW γ M R Z Q c1 n1 q L (.int (zI (a - b)) :: st) σ xs) : GW γ M R Z Q c1 n1 pc L (.int (zI b) :: .int (zI a) :: st) σ xs := by
  subst hq
  intro p e s m args below meth c H locs ls C hS hC hG hl
  refine lv_isub C.1 C.2.1 hd ?_
  rw [zI_sub]
  exact kk p e s m args below meth c H locs ls C hS hC hG hl
theorem h_iand {x y : Int32} (hd : decode M.2.1 pc = .ok (.iand, 1)) (hq : pc + 1 = q) (kk : GW γ M R Z Q c1 n1 q L (.int (x &&& y) :: st) σ xs) : GW γ M R Z Q c1 n1 pc L (.int y :: .int x :: st) σ xs := by
  subst hq
  intro p e s m args below meth c H locs ls C hS hC hG hl
  exact lv_iand C.1 C.2.1 hd (kk p e s m args below meth c H locs ls C hS hC hG hl)
theorem h_i2l {a : Int} (hd : decode M.2.1 pc = .ok (.i2l, 1)) (hq : pc + 1 = q) (ha : -2147483648 ≤ a ∧ a ≤ 2147483647) (kk : GW γ M R Z Q c1 n1 q L (.long (zL a) :: st) σ xs) : GW γ M R Z Q c1 n1 pc L (.int (zI a) :: st) σ xs := by
  subst hq
  intro p e s m args below meth c H locs ls C hS hC hG hl
  exact lv_i2l C.1 C.2.1 hd (zI_long ha.1 ha.2) (kk p e s m args below meth c H locs ls C hS hC hG hl)
theorem h_i2c {a : Int} (hd : decode M.2.1 pc = .ok (.i2c, 1)) (hq : pc + 1 = q) (kk : GW γ M R Z Q c1 n1 q L (.int (zI (a % 65536)) :: st) σ xs) : GW γ M R Z Q c1 n1 pc L (.int (zI a) :: st) σ xs := by
  subst hq
  intro p e s m args below meth c H locs ls C hS hC hG hl
  exact lv_i2c C.1 C.2.1 hd (zI_char a) (kk p e s m args below meth c H locs ls C hS hC hG hl)
theorem h_dup {v : Value} (hd : decode M.2.1 pc = .ok (.dup, 1)) (hq : pc + 1 = q) (hv : v.category = 1) (kk : GW γ M R Z Q c1 n1 q L (v :: v :: st) σ xs) : GW γ M R Z Q c1 n1 pc L (v :: st) σ xs := by
  subst hq
  intro p e s m args below meth c H locs ls C hS hC hG hl
  exact lv_dup C.1 C.2.1 hd hv (kk p e s m args below meth c H locs ls C hS hC hG hl)
theorem h_goto {off : Int} (hd : decode M.2.1 pc = .ok (.goto off, 3)) (hq : (pc : Int) + off = (q : Int)) (kk : GW γ M R Z Q c1 n1 q L st σ xs) : GW γ M R Z Q c1 n1 pc L st σ xs := by
  intro p e s m args below meth c H locs ls C hS hC hG hl
  exact lv_goto C.1 C.2.1 hd hq (kk p e s m args below meth c H locs ls C hS hC hG hl)
theorem h_icmp_eq {a b off : Int} {tgt : Nat} (hd : decode M.2.1 pc = .ok (.if_icmp .eq off, 3)) (hq : pc + 3 = q) (ht : (pc : Int) + off = (tgt : Int)) (ha : -2147483648 ≤ a ∧ a ≤ 2147483647) (hb : -2147483648 ≤ b ∧ b ≤ 2147483647) (kt : a = b → GW γ M R Z Q c1 n1 tgt L st σ xs) (kf : a ≠ b → GW γ M R Z Q c1 n1 q L st σ xs) : GW γ M R Z Q c1 n1 pc L (.int (zI b) :: .int (zI a) :: st) σ xs := by
  subst hq
  intro p e s m args below meth c H locs ls C hS hC hG hl
  have hcv := zI_inj ha hb
  exact lv_icmp_eq C.1 C.2.1 hd ht (fun h => kt (by have := hcv.mp h; omega) p e s m args below meth c H locs ls C hS hC hG hl) (fun h => kf (by have := mt hcv.mpr h; omega) p e s m args below meth c H locs ls C hS hC hG hl)
theorem h_icmp_ne {a b off : Int} {tgt : Nat} (hd : decode M.2.1 pc = .ok (.if_icmp .ne off, 3)) (hq : pc + 3 = q) (ht : (pc : Int) + off = (tgt : Int)) (ha : -2147483648 ≤ a ∧ a ≤ 2147483647) (hb : -2147483648 ≤ b ∧ b ≤ 2147483647) (kt : a ≠ b → GW γ M R Z Q c1 n1 tgt L st σ xs) (kf : a = b → GW γ M R Z Q c1 n1 q L st σ xs) : GW γ M R Z Q c1 n1 pc L (.int (zI b) :: .int (zI a) :: st) σ xs := by
  subst hq
  intro p e s m args below meth c H locs ls C hS hC hG hl
  have hcv := not_congr (zI_inj ha hb)
  exact lv_icmp_ne C.1 C.2.1 hd ht (fun h => kt (by have := hcv.mp h; omega) p e s m args below meth c H locs ls C hS hC hG hl) (fun h => kf (by have := (zI_inj ha hb).mp h; omega) p e s m args below meth c H locs ls C hS hC hG hl)
theorem h_icmp_gt {a b off : Int} {tgt : Nat} (hd : decode M.2.1 pc = .ok (.if_icmp .gt off, 3)) (hq : pc + 3 = q) (ht : (pc : Int) + off = (tgt : Int)) (ha : -2147483648 ≤ a ∧ a ≤ 2147483647) (hb : -2147483648 ≤ b ∧ b ≤ 2147483647) (kt : b < a → GW γ M R Z Q c1 n1 tgt L st σ xs) (kf : a ≤ b → GW γ M R Z Q c1 n1 q L st σ xs) : GW γ M R Z Q c1 n1 pc L (.int (zI b) :: .int (zI a) :: st) σ xs := by
  subst hq
  intro p e s m args below meth c H locs ls C hS hC hG hl
  have hcv := zI_gt ha hb
  exact lv_icmp_gt C.1 C.2.1 hd ht (fun h => kt (by have := hcv.mp h; omega) p e s m args below meth c H locs ls C hS hC hG hl) (fun h => kf (by have := mt hcv.mpr h; omega) p e s m args below meth c H locs ls C hS hC hG hl)
theorem h_if_eq {a off : Int} {tgt : Nat} (hd : decode M.2.1 pc = .ok (.ifCond .eq off, 3)) (hq : pc + 3 = q) (ht : (pc : Int) + off = (tgt : Int)) (ha : -2147483648 ≤ a ∧ a ≤ 2147483647) (kt : a = 0 → GW γ M R Z Q c1 n1 tgt L st σ xs) (kf : a ≠ 0 → GW γ M R Z Q c1 n1 q L st σ xs) : GW γ M R Z Q c1 n1 pc L (.int (zI a) :: st) σ xs := by
  subst hq
  intro p e s m args below meth c H locs ls C hS hC hG hl
  have hb : -2147483648 ≤ (0 : Int) ∧ (0 : Int) ≤ 2147483647 := by omega
  have hcv := zI_inj ha hb
  exact lv_if_eq C.1 C.2.1 hd ht (fun h => kt (by have := hcv.mp h; omega) p e s m args below meth c H locs ls C hS hC hG hl) (fun h => kf (by have := mt hcv.mpr h; omega) p e s m args below meth c H locs ls C hS hC hG hl)
theorem h_if_ne {a off : Int} {tgt : Nat} (hd : decode M.2.1 pc = .ok (.ifCond .ne off, 3)) (hq : pc + 3 = q) (ht : (pc : Int) + off = (tgt : Int)) (ha : -2147483648 ≤ a ∧ a ≤ 2147483647) (kt : a ≠ 0 → GW γ M R Z Q c1 n1 tgt L st σ xs) (kf : a = 0 → GW γ M R Z Q c1 n1 q L st σ xs) : GW γ M R Z Q c1 n1 pc L (.int (zI a) :: st) σ xs := by
  subst hq
  intro p e s m args below meth c H locs ls C hS hC hG hl
  have hb : -2147483648 ≤ (0 : Int) ∧ (0 : Int) ≤ 2147483647 := by omega
  have hcv := not_congr (zI_inj ha hb)
  exact lv_if_ne C.1 C.2.1 hd ht (fun h => kt (by have := hcv.mp h; omega) p e s m args below meth c H locs ls C hS hC hG hl) (fun h => kf (by have := (zI_inj ha hb).mp h; omega) p e s m args below meth c H locs ls C hS hC hG hl)
theorem h_lcmp {a b : Int} (hd : decode M.2.1 pc = .ok (.lcmp, 1)) (hq : pc + 1 = q) (ha : -9223372036854775808 ≤ a ∧ a ≤ 9223372036854775807) (hb : -9223372036854775808 ≤ b ∧ b ≤ 9223372036854775807) (kk : ∀ z : Int, (z = -1 ∧ a < b) ∨ (z = 0 ∧ a = b) ∨ (z = 1 ∧ b < a) → GW γ M R Z Q c1 n1 q L (.int (zI z) :: st) σ xs) : GW γ M R Z Q c1 n1 pc L (.long (zL b) :: .long (zL a) :: st) σ xs := by
  subst hq
  intro p e s m args below meth c H locs ls C hS hC hG hl
  refine W.lcmp C.1 C.2.1 hd ?_
  have h1 := zL_lt hb ha
  have h2 := zL_inj ha hb
  by_cases g1 : b < a
  · rw [show lg_cmp (zL a) (zL b) = zI 1 by simp [lg_cmp, h1.mpr g1]; rfl]
    exact kk 1 (by omega) p e s m args below meth c H locs ls C hS hC hG hl
  · by_cases g2 : a = b
    · subst g2
      rw [show lg_cmp (zL a) (zL a) = zI 0 by simp [lg_cmp]; rfl]
      exact kk 0 (by omega) p e s m args below meth c H locs ls C hS hC hG hl
    · have g3 : ¬ zL b < zL a := fun z => g1 (h1.mp z)
      have g4 : ¬ zL a = zL b := fun z => g2 (h2.mp z)
      rw [show lg_cmp (zL a) (zL b) = zI (-1) by simp [lg_cmp, g3, g4]; rfl]
      exact kk (-1) (by omega) p e s m args below meth c H locs ls C hS hC hG hl
theorem h_laldO (hd : decode M.2.1 pc = .ok (.laload, 1)) (hq : pc + 1 = q) (hv : gv γ 18 0) (kk : GW γ M R Z Q c1 n1 q L (.long (zL (ov σ)) :: st) σ xs) : GW γ M R Z Q c1 n1 pc L (.int (zI 0) :: .ref (ga γ 18 0) :: st) σ xs := by
  subst hq
  intro p e s m args below meth c H locs ls C0 hS hC hG hl
  have hP : va_P (gD γ) vwCl [(ga γ 18 0, ct γ σ 18 0)] H := fun k x hx => by
    have hk : k = 0 := by
      have := (List.getElem?_eq_some_iff.mp hx).1
      simp at this
      exact this
    subst hk
    cases hx
    exact hC.1 18 0 hv
  exact va_lald C0.1 C0.2.1 C0.2.2.2.2.2.2.2.1 hP 0 2 rfl rfl (zI_in (by omega) (by omega) (by omega)) hd (kk p e s m args below meth c H locs ls C0 hS hC hG hl)
theorem h_lastO {w : Int} (hd : decode M.2.1 pc = .ok (.lastore, 1)) (hq : pc + 1 = q) (hv : gv γ 18 0) (kk : GW γ M R Z Q c1 n1 q L st (sOv σ w) xs) : GW γ M R Z Q c1 n1 pc L (.long (zL w) :: .int (zI 0) :: .ref (ga γ 18 0) :: st) σ xs := by
  subst hq
  intro p e s m args below meth c H locs ls C0 hS hC hG hl
  refine z_last C0.1 C0.2.1 (hC.1 18 0 hv) (C0.2.2.2.2.2.2.2.1.2 2 _ rfl).1 (zI_in (by omega) (by omega) (by omega)) (g := fun _ => zL w) (fun q hq => ?_) rfl hd (fun H1 w' a1 z1 o1 => ?_)
  · have h0 : q = 0 := by omega
    subst h0
    rw [zI_clamp (by omega)]
    rfl
  · refine kk p e s m args below meth c H1 _ ls C0 (hS.zput z1 o1 (hG.2.2.1 18 0 hv)) (hC.upd hG hv a1 o1 ?_) hG hl
    intro k' i' h9 h
    unfold ct
    split <;> first | rfl | skip
    exact absurd ⟨rfl, by simpa [vK] using h9⟩ h

theorem h_ifB_eq {b : Bool} {off : Int} {tgt : Nat} (hd : decode M.2.1 pc = .ok (.ifCond .eq off, 3)) (hq : pc + 3 = q) (ht : (pc : Int) + off = (tgt : Int)) (kt : b = false → GW γ M R Z Q c1 n1 tgt L st σ xs) (kf : b = true → GW γ M R Z Q c1 n1 q L st σ xs) : GW γ M R Z Q c1 n1 pc L (.int (zI (bI b)) :: st) σ xs := by
  refine h_if_eq hd hq ht (by cases b <;> decide) (fun h => kt ?_) (fun h => kf ?_)
  · cases b <;> first | rfl | (exact absurd h (by decide))
  · cases b <;> first | rfl | (exact absurd h (by decide))
theorem h_ifB_ne {b : Bool} {off : Int} {tgt : Nat} (hd : decode M.2.1 pc = .ok (.ifCond .ne off, 3)) (hq : pc + 3 = q) (ht : (pc : Int) + off = (tgt : Int)) (kt : b = true → GW γ M R Z Q c1 n1 tgt L st σ xs) (kf : b = false → GW γ M R Z Q c1 n1 q L st σ xs) : GW γ M R Z Q c1 n1 pc L (.int (zI (bI b)) :: st) σ xs := by
  refine h_if_ne hd hq ht (by cases b <;> decide) (fun h => kt ?_) (fun h => kf ?_)
  · cases b <;> first | rfl | (exact absurd h (by decide))
  · cases b <;> first | rfl | (exact absurd h (by decide))
theorem GW.drop (j : Nat) (k9 : GW γ M R Z Q c1 n1 pc (L.set j none) st σ xs) : GW γ M R Z Q c1 n1 pc L st σ xs := by
  refine GW.sub (fun i v hi => ?_) k9
  by_cases h : i = j
  · subst h
    have hl : i < L.length := by
      have := (List.getElem?_eq_some_iff.mp hi).1
      simpa using this
    rw [List.getElem?_set_self hl] at hi
    cases hi
  · rwa [List.getElem?_set_ne (fun z => h z.symm)] at hi
theorem Pr_ofG {p : Program} {s : State} {m : MethodId} {args : Array Value} {meth : Method} {c : Code} {H : Heap} {locs : List Loc} {av : List Value} (C : CxG γ M Z p s m args meth c) (hS : va_S (fr γ) s.heap H locs) (hC : Cl γ σ xs H) (hG : Gok γ xs) {U : State} (hU : U.heap = H) (hW : s.WarmedH U.vm) : va_Pc av (Pr γ σ xs) av.toArray U := by
  refine ⟨rfl, by rw [hU]; exact Nat.le_trans C.2.2.2.2.2.2.2.2.2.1 hS.1, C.2.2.2.2.2.2.2.2.1.move hW (fun q h1 h2 => by rw [hU]; exact hS.2.1 q h1 h2), va_K.moved hW.alike C.2.2.2.2.2.2.2.1, by rw [hU]; exact hC, hG⟩
/-- behind a call: its answer; or its throw, met by W -/
theorem GW.back {ky ny : Nat} {a9 : Array Value} {st0 : List Value} {Qr2 : Option Value → St → va_W → Prop} {Qx2 : String → St → va_W → Prop}
    (kr : ∀ (v : Option Value) (σ' : St) (xs' : va_W), Qr2 v σ' xs' → GW γ M R Z Q (c1 + ky) (n1 + ny) (pc + 3) L (v.toList ++ st) σ' xs')
    (kx : ∀ (E : String) (σ' : St) (xs' : va_W), Qx2 E σ' xs' → ∀ (p : Program) (e : Env) (s : State) (m : MethodId) (args : Array Value) (below : List Frame) (meth : Method) (c : Code) (H : Heap) (locs : List Loc) (ls : Array Slot) (q : Addr) (ce : Cell), CxG γ M Z p s m args meth c → va_S (fr γ) s.heap H locs → Cl γ σ' xs' H → Gok γ xs' → Lc ls M.2.2.1 L → H[q]? = some ce → ce.vm = .none → s.vm.findClass E = some ce.cls → vx_W p (gl γ) e R s m args below meth c H locs (c1 + ky) (n1 + ny) (Q below args s) (F0 m pc ls st) q)
    (hr : ∀ (p : Program) (e : Env) (s : State) (m : MethodId) (args : Array Value) (below : List Frame) (meth : Method) (c : Code) (H : Heap) (locs : List Loc) (ls : Array Slot), CxG γ M Z p s m args meth c → va_S (fr γ) s.heap H locs → Cl γ σ xs H → Gok γ xs → Lc ls M.2.2.1 L →
      vx_Run p (gl γ) e R s m args below meth c H locs c1 n1 ky ny (F0 m pc ls st0) st (QcOf γ Qr2 a9) (XcOf γ Qx2) (fr γ)) :
    GW γ M R Z Q c1 n1 pc L st0 σ xs := by
  intro p e s m args below meth c H locs ls C hS hC hG hl T hT X
  rcases hr p e s m args below meth c H locs ls C hS hC hG hl T hT X with ⟨v, st₀, t, T', L9, h0, X', hL, e1, e2, ⟨v', σ', xs', hv, hq, hc', hg', hF⟩, stp⟩ | ⟨q9, st₀, t, T', L9, E, ce, h0, X', hL, e1, e2, ⟨σ', xs', hq, hc', hg', hF⟩, hce, hcv, hcl, stp⟩
  · cases hv
    obtain ⟨k1, k2, k3⟩ := vx_keep h0 e1 hS (fun q _ h => h) (fun q h => h) hL hF
    obtain ⟨t2, a1, b1⟩ := kr v σ' xs' hq p e s m args below meth c T'.heap (locs ++ L9) ls C k3 (by rw [e1]; exact hc') hg' hl T' rfl X'
    exact ⟨t2, stp t2 a1, b1⟩
  · obtain ⟨k1, k2, k3⟩ := vx_keep h0 e1 hS (fun q _ h => h) (fun q h => h) hL hF
    obtain ⟨t2, a1, b1⟩ := kx E σ' xs' hq p e s m args below meth c T'.heap (locs ++ L9) ls q9 ce C k3 (by rw [e1]; exact hc') hg' hl (by rw [e1]; exact hce) hcv hcl T' rfl X'
    exact ⟨t2, stp.trans a1, b1⟩
/-- a call on an object of the world -/
theorem h_callv {My : Md} {dy ky ny idx kd i ci a : Nat} {fs : List Value} {r : vw_C} {As : List Value} {Qr2 : Option Value → St → va_W → Prop} {Qx2 : String → St → va_W → Prop} (hd : decode M.2.1 pc = .ok (.invokevirtual idx, 3)) (hq : pc + 3 = q) (hlink : Cond.methodLink M.1.cls idx My.1 ∈ uw) (hV : Vok My a) (hv : gv γ kd i) (hct : ct γ σ kd i = .inr (ci, fs)) (hc : vwCl[ci]? = some r) (hr1 : r.1 = My.1.cls)
    (hE : Ev γ My dy ky ny (.ref (ga γ kd i) :: As) σ xs Qr2 Qx2) (hlen : As.length = a) (hR : dy + 1 ≤ R.frames ∧ 8 + (My.2.2.1 + 11) + 30 * dy ≤ R.locals) (hk : c1 + ky ≤ R.cells ∧ n1 + ny ≤ R.slots) (hroom : (st.map fun v => v.category).sum ≤ 8)
    (kx : ∀ (E : String) (σ' : St) (xs' : va_W), Qx2 E σ' xs' → ∀ (p : Program) (e : Env) (s : State) (m : MethodId) (args : Array Value) (below : List Frame) (meth : Method) (c : Code) (H : Heap) (locs : List Loc) (ls : Array Slot) (q : Addr) (ce : Cell), CxG γ M Z p s m args meth c → va_S (fr γ) s.heap H locs → Cl γ σ' xs' H → Gok γ xs' → Lc ls M.2.2.1 L → H[q]? = some ce → ce.vm = .none → s.vm.findClass E = some ce.cls → vx_W p (gl γ) e R s m args below meth c H locs (c1 + ky) (n1 + ny) (Q below args s) (F0 m pc ls st) q)
    (kk : ∀ (v : Option Value) (σ' : St) (xs' : va_W), Qr2 v σ' xs' → GW γ M R Z Q (c1 + ky) (n1 + ny) q L (v.toList ++ st) σ' xs') : GW γ M R Z Q c1 n1 pc L (As.reverse ++ .ref (ga γ kd i) :: st) σ xs := by
  subst hq
  refine GW.back (ky := ky) (ny := ny) (a9 := (Value.ref (ga γ kd i) :: As).toArray) (st := st) kk kx ?_
  intro p e s m args below meth c H locs ls C hS hC hG hl
  obtain ⟨v1, v2, v3, v4, v5, v6, v7⟩ := hV
  have hT : GoodIn uw (wsV M.1.cls idx My.1.cls My.1 (uM My)) := uw_sub (fun w hw => by
    rcases List.mem_append.mp hw with h | h
    · simp only [List.mem_cons, List.not_mem_nil, or_false] at h
      rcases h with rfl | rfl | rfl | rfl
      · exact hlink
      · exact v1
      · exact v2
      · exact v3
    · exact uM_uw v4 w h)
  have hat := hC.1 kd i hv
  rw [hct] at hat
  obtain ⟨r9, h1, cell, q1, q2, q3, -⟩ := hat
  cases Option.some.inj (hc.symm.trans h1)
  have hK := C.2.2.2.2.2.2.2.1.1 ci r hc
  refine vx_runV (Ts := uw) (own := M.1.cls) (C := My.1.cls) (nL := M.2.2.1) (cc := M.2.1) (bytes := My.2.1) (maxL := My.2.2.1) (ret := My.2.2.2) (n := a) ⟨C.1, C.2.1, C.2.2.2.1, C.2.2.2.2.1, C.2.2.2.2.2.1⟩ hE (cwV a C.2.2.2.2.2.1 hT rfl rfl rfl ⟨rfl, v5, v6, v7⟩ hR) ⟨FrameBlind_Pr γ _ σ xs, ⟨cell, q1, by rw [q3]; rfl, by rw [q2, ← hr1]; exact hK.2.1⟩, fun U hU hW => Pr_ofG C hS hC hG hU hW⟩ rfl hlen hl.1 rfl (lv_room hroom) hd hk
end GROWS
-- methods that catch
def uH (M : Md) (hh : List (Nat × Nat × Nat × Nat)) : List Cond := Cond.codeWith M.1 M.2.1 M.2.2.1 M.2.2.2 hh :: uw
def ZH (hh : List (Nat × Nat × Nat × Nat)) : Array Value → State → Method → Code → Prop := fun _ _ _ c => c.exceptionTable.toList = tableOf hh
def EvH (γ : Gm) (M : Md) (hh : List (Nat × Nat × Nat × Nat)) (d k n : Nat) (av : List Value) (σ : St) (xs : va_W) (Qr : Option Value → St → va_W → Prop) (Qx : String → St → va_W → Prop) : Prop :=
  vx_Met (gl γ) M.1 (uH M hh) (rmL d k n) (va_Pc av (Pr γ σ xs)) (QcOf γ Qr) (XcOf γ Qx) k n (fr γ)
def HQ (γ : Gm) (Qr : Option Value → St → va_W → Prop) (Qx : String → St → va_W → Prop) (k n : Nat) : List Frame → Array Value → State → State → Prop := fun below args s => vx_MQ below (QcOf γ Qr) (XcOf γ Qx) args s k n (fr γ)
theorem EvH.of {γ : Gm} {M : Md} {hh : List (Nat × Nat × Nat × Nat)} {d k n : Nat} {av : List Value} {σ : St} {xs : va_W} {Qr : Option Value → St → va_W → Prop} {Qx : String → St → va_W → Prop} (j : Nat) (L : List (Option Value)) (hL : L = av.map some ++ List.replicate j none) (hy : plainName M.1.cls = true) (hcat : av.all (fun v => decide (v.category = 1)) = true) (hlen : (lg_sl av).length ≤ M.2.2.1)
    (body : GW γ M (rmL d k n) (ZH hh) (HQ γ Qr Qx k n) 0 0 0 L [] σ xs) : EvH γ M hh d k n av σ xs Qr Qx := by
  refine vx_ofWH (cc := M.2.1) (maxL := M.2.2.1) (ret := M.2.2.2) (hh := hh) hy rfl ?_
  intro p e s m args below meth c s₁ B hml hv
  obtain ⟨rfl, h1, h2, h3, h4, h5⟩ := hv
  have hts := atoms_spec (ws := uH M hh) B.pre
  have htab := vx_table (x := M.1) B (hts _ List.mem_cons_self)
  rw [lg_entry_eq]
  exact body p e s m av.toArray below meth c s.heap [] _ ⟨B.exec, B.bytes, B.returns, hml, findClass_of_methodNamed B.named, fun w hw => hts w (List.mem_cons_of_mem _ hw), B.notSynchronized, h3, h2, h1, htab⟩ va_S.rf h4 h5 (Lc.entry av hlen (by subst hL; exact args1 hcat))
section HROWS
variable {γ : Gm} {M : Md} {hh : List (Nat × Nat × Nat × Nat)} {d k n : Nat} {Qr : Option Value → St → va_W → Prop} {Qx : String → St → va_W → Prop} {c1 n1 pc q : Nat} {L : List (Option Value)} {st : List Value} {σ σ1 : St} {xs xs1 : va_W}
theorem h_reti {v : Int32} (hd : decode M.2.1 pc = .ok (.ireturn, 1)) (hr : M.2.2.2 = some .int) (hk : c1 ≤ k) (hn : n1 ≤ n) (hQ : Qr (some (.int v)) σ xs) : GW γ M (rmL d k n) (ZH hh) (HQ γ Qr Qx k n) c1 n1 pc L [.int v] σ xs := by
  intro p e s m args below meth c H locs ls C hS hC hG hl
  exact W.widen hk hn (vx_ret (W.iret C.1 C.2.1 (C.2.2.1.trans hr) (fun t ht hW => ⟨_, σ, xs, rfl, hQ, by rw [ht]; exact hC, hG, hS.F ht⟩) hS.2.2 hd C.2.2.2.2.2.2.1))
/-- which handler takes the throw of an E -/
def Tk (M : Md) (hh : List (Nat × Nat × Nat × Nat)) (pc : Nat) (E : String) (hp : Nat) : Prop := E ∈ exc5 ∧ ∃ (pre : List ExceptionTableEntry) (x : ExceptionTableEntry) (suf : List ExceptionTableEntry), tableOf hh = pre ++ x :: suf ∧ (∀ z ∈ pre, z.catchType ≠ 0 ∧ ∃ nm : String, nm ∈ exc5 ∧ E ≠ nm ∧ Cond.classLink M.1.cls z.catchType nm ∈ uw) ∧ covers x pc = true ∧ x.catchType ≠ 0 ∧ Cond.classLink M.1.cls x.catchType E ∈ uw ∧ x.handlerPc = hp
/-- a call whose throw is caught here -/
theorem h_tryv {My : Md} {dy ky ny idx kd i ci a hp : Nat} {fs : List Value} {r : vw_C} {As : List Value} {E : String} (hT : Tk M hh pc E hp) (hd : decode M.2.1 pc = .ok (.invokevirtual idx, 3)) (hq : pc + 3 = q) (hlink : Cond.methodLink M.1.cls idx My.1 ∈ uw) (hV : Vok My a) (hv : gv γ kd i) (hct : ct γ σ kd i = .inr (ci, fs)) (hc : vwCl[ci]? = some r) (hr1 : r.1 = My.1.cls)
    (hE : Ev γ My dy ky ny (.ref (ga γ kd i) :: As) σ xs nR (thr E σ1 xs1)) (hlen : As.length = a) (hR : dy + 1 ≤ d ∧ 8 + (My.2.2.1 + 11) + 30 * dy ≤ 30 * d) (hk : c1 + ky ≤ k ∧ n1 + ny ≤ n) (hroom : (st.map fun v => v.category).sum ≤ 8)
    (kk : ∀ q9 : Addr, GW γ M (rmL d k n) (ZH hh) (HQ γ Qr Qx k n) (c1 + ky) (n1 + ny) hp L [.ref q9] σ1 xs1) : GW γ M (rmL d k n) (ZH hh) (HQ γ Qr Qx k n) c1 n1 pc L (As.reverse ++ .ref (ga γ kd i) :: st) σ xs := by
  refine h_callv hd hq hlink hV hv hct hc hr1 hE hlen hR hk hroom (fun E' σ' xs' hQ => ?_) (fun v σ' xs' hQ => hQ.elim)
  obtain ⟨rfl, rfl, rfl⟩ := hQ
  intro p e s m args below meth c H locs ls q9 ce C hS hC hG hl hce hcv hcl
  obtain ⟨hE5, pre, x, suf, t1, t2, t3, t4, t5, t6⟩ := hT
  have hB := C.2.2.2.2.2.2.2.2.1
  subst t6
  exact vx_catch C.2.2.2.2.1 pre x suf (C.2.2.2.2.2.2.2.2.2.2.trans t1) (fun z hz => Or.inr (by
    obtain ⟨z0, nm, n1', n2, n3⟩ := t2 z hz
    exact ⟨z0, nm, C.2.2.2.2.2.1 _ n3, hB.2.2.2.2.2.2.1 _ hE5 nm n1' n2⟩)) t3 t4 (C.2.2.2.2.2.1 _ t5) (va_Nw.use rfl (hB.2.2.2.2.1.1 _ hE5)) hce hcv hcl (kk q9 p e s m args below meth c H locs ls C hS hC hG hl)
/-- a call that answers -/
theorem h_okv {My : Md} {dy ky ny idx kd i ci a : Nat} {fs : List Value} {r : vw_C} {As : List Value} {w : Value} (hd : decode M.2.1 pc = .ok (.invokevirtual idx, 3)) (hq : pc + 3 = q) (hlink : Cond.methodLink M.1.cls idx My.1 ∈ uw) (hV : Vok My a) (hv : gv γ kd i) (hct : ct γ σ kd i = .inr (ci, fs)) (hc : vwCl[ci]? = some r) (hr1 : r.1 = My.1.cls)
    (hE : Ev γ My dy ky ny (.ref (ga γ kd i) :: As) σ xs (rtn (some w) σ1 xs1) nX) (hlen : As.length = a) (hR : dy + 1 ≤ d ∧ 8 + (My.2.2.1 + 11) + 30 * dy ≤ 30 * d) (hk : c1 + ky ≤ k ∧ n1 + ny ≤ n) (hroom : (st.map fun v => v.category).sum ≤ 8)
    (kk : GW γ M (rmL d k n) (ZH hh) (HQ γ Qr Qx k n) (c1 + ky) (n1 + ny) q L (w :: st) σ1 xs1) : GW γ M (rmL d k n) (ZH hh) (HQ γ Qr Qx k n) c1 n1 pc L (As.reverse ++ .ref (ga γ kd i) :: st) σ xs :=
  h_callv hd hq hlink hV hv hct hc hr1 hE hlen hR hk hroom (fun _ _ _ hQ => hQ.elim) (fun v σ' xs' hQ => by obtain ⟨rfl, rfl, rfl⟩ := hQ; exact kk)
end HROWS
