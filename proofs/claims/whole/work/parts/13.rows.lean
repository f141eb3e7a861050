/-! ROWS: one instruction each, under RW -/
section ROWS
variable {γ : Gm} {M : Md} {d k n : Nat} {Qr : Option Value → St → va_W → Prop} {Qx : String → St → va_W → Prop} {c1 n1 pc q : Nat} {L : List (Option Value)} {st : List Value} {σ : St} {xs : va_W}
theorem r_iconst {z : Int} (hd : decode M.2.1 pc = .ok (.iconst z, 1)) (hq : pc + 1 = q)  (kk : RW γ M d k n Qr Qx c1 n1 q L (.int (zI z) :: st) σ xs) : RW γ M d k n Qr Qx c1 n1 pc L st σ xs := by
  subst hq
  intro p e s m args below meth c H locs ls C hS hC hG hl
  exact lv_iconst C.1 C.2.1 hd rfl (kk p e s m args below meth c H locs ls C hS hC hG hl)
theorem r_bipush {z : Int} (hd : decode M.2.1 pc = .ok (.bipush z, 2)) (hq : pc + 2 = q) (hv : (Int8.ofInt z).toInt32 = zI z) (kk : RW γ M d k n Qr Qx c1 n1 q L (.int (zI z) :: st) σ xs) : RW γ M d k n Qr Qx c1 n1 pc L st σ xs := by
  subst hq
  intro p e s m args below meth c H locs ls C hS hC hG hl
  exact lv_bipush C.1 C.2.1 hd hv (kk p e s m args below meth c H locs ls C hS hC hG hl)
theorem r_sipush {z : Int} (hd : decode M.2.1 pc = .ok (.sipush z, 3)) (hq : pc + 3 = q) (hv : (Int16.ofInt z).toInt32 = zI z) (kk : RW γ M d k n Qr Qx c1 n1 q L (.int (zI z) :: st) σ xs) : RW γ M d k n Qr Qx c1 n1 pc L st σ xs := by
  subst hq
  intro p e s m args below meth c H locs ls C hS hC hG hl
  exact lv_sipush C.1 C.2.1 hd hv (kk p e s m args below meth c H locs ls C hS hC hG hl)
theorem r_lconst {j : Fin 2} {z : Int} (hd : decode M.2.1 pc = .ok (.lconst j, 1)) (hq : pc + 1 = q) (hv : Int64.ofNat j = zL z) (kk : RW γ M d k n Qr Qx c1 n1 q L (.long (zL z) :: st) σ xs) : RW γ M d k n Qr Qx c1 n1 pc L st σ xs := by
  subst hq
  intro p e s m args below meth c H locs ls C hS hC hG hl
  exact lv_lconst C.1 C.2.1 hd hv (kk p e s m args below meth c H locs ls C hS hC hG hl)
theorem r_iload_n {j : Fin 4} {x : Int32} (hd : decode M.2.1 pc = .ok (.iload_n j, 1)) (hq : pc + 1 = q) (hv : L[(j : Nat)]? = some (some (.int x))) (kk : RW γ M d k n Qr Qx c1 n1 q L (.int x :: st) σ xs) : RW γ M d k n Qr Qx c1 n1 pc L st σ xs := by
  subst hq
  intro p e s m args below meth c H locs ls C hS hC hG hl
  exact lv_iload_n C.1 C.2.1 hd rfl (hl.at hv) (kk p e s m args below meth c H locs ls C hS hC hG hl)
theorem r_iload {j : Nat} {x : Int32} (hd : decode M.2.1 pc = .ok (.iload j, 2)) (hq : pc + 2 = q) (hv : L[j]? = some (some (.int x))) (kk : RW γ M d k n Qr Qx c1 n1 q L (.int x :: st) σ xs) : RW γ M d k n Qr Qx c1 n1 pc L st σ xs := by
  subst hq
  intro p e s m args below meth c H locs ls C hS hC hG hl
  exact lv_iload C.1 C.2.1 hd (hl.at hv) (kk p e s m args below meth c H locs ls C hS hC hG hl)
theorem r_aload_n {j : Fin 4} {x : Nat} (hd : decode M.2.1 pc = .ok (.aload_n j, 1)) (hq : pc + 1 = q) (hv : L[(j : Nat)]? = some (some (.ref x))) (kk : RW γ M d k n Qr Qx c1 n1 q L (.ref x :: st) σ xs) : RW γ M d k n Qr Qx c1 n1 pc L st σ xs := by
  subst hq
  intro p e s m args below meth c H locs ls C hS hC hG hl
  exact lv_aload_n C.1 C.2.1 hd rfl (hl.at hv) (kk p e s m args below meth c H locs ls C hS hC hG hl)
theorem r_aload {j : Nat} {x : Nat} (hd : decode M.2.1 pc = .ok (.aload j, 2)) (hq : pc + 2 = q) (hv : L[j]? = some (some (.ref x))) (kk : RW γ M d k n Qr Qx c1 n1 q L (.ref x :: st) σ xs) : RW γ M d k n Qr Qx c1 n1 pc L st σ xs := by
  subst hq
  intro p e s m args below meth c H locs ls C hS hC hG hl
  exact lv_aload C.1 C.2.1 hd (hl.at hv) (kk p e s m args below meth c H locs ls C hS hC hG hl)
theorem r_lload_n {j : Fin 4} {x : Int64} (hd : decode M.2.1 pc = .ok (.lload_n j, 1)) (hq : pc + 1 = q) (hv : L[(j : Nat)]? = some (some (.long x))) (kk : RW γ M d k n Qr Qx c1 n1 q L (.long x :: st) σ xs) : RW γ M d k n Qr Qx c1 n1 pc L st σ xs := by
  subst hq
  intro p e s m args below meth c H locs ls C hS hC hG hl
  exact lv_lload_n C.1 C.2.1 hd rfl (hl.at hv) (kk p e s m args below meth c H locs ls C hS hC hG hl)
theorem r_lload {j : Nat} {x : Int64} (hd : decode M.2.1 pc = .ok (.lload j, 2)) (hq : pc + 2 = q) (hv : L[j]? = some (some (.long x))) (kk : RW γ M d k n Qr Qx c1 n1 q L (.long x :: st) σ xs) : RW γ M d k n Qr Qx c1 n1 pc L st σ xs := by
  subst hq
  intro p e s m args below meth c H locs ls C hS hC hG hl
  exact lv_lload C.1 C.2.1 hd (hl.at hv) (kk p e s m args below meth c H locs ls C hS hC hG hl)
/-- what a store of one slot leaves: the new list L' names the stored value at i, elsewhere old values that aren't a long reaching into i -/
def Lst (L L' : List (Option Value)) (i : Nat) (v : Value) : Prop := ∀ (j : Nat) (w : Value), L'[j]? = some (some w) → (j = i ∧ w = v) ∨ (j ≠ i ∧ L[j]? = some (some w) ∧ (w.category = 2 → j + 1 ≠ i) ∧ (v.category = 2 → j ≠ i + 1))
theorem Lc.store1 {ls : Array Slot} {nL : Nat} {L L' : List (Option Value)} {i : Nat} {v : Value} (h : Lc ls nL L) (hi : i < nL) (hc : v.category = 1) (hL : Lst L L' i v) : ∃ ls', storeLocals ls i v = some ls' ∧ Lc ls' nL L' := by
  obtain ⟨ls', e, h'⟩ := lv_store1 (l := (List.range L.length).filterMap (fun j => (L[j]?.bind id).map (fun w => (j, w)))) (i := i) (v := v) (nL := nL) ⟨h.1, h.2.1, fun q hq => by
    obtain ⟨j, hj, hw⟩ := List.mem_filterMap.mp hq
    cases hb : L[j]? with
    | none => rw [hb] at hw; cases hw
    | some w =>
      rw [hb] at hw
      cases w with
      | none => cases hw
      | some w => cases hw; exact h.2.2 j w hb⟩ hi hc
  refine ⟨ls', e, h'.1, h'.2.1, fun j w hj => ?_⟩
  rcases hL j w hj with ⟨rfl, rfl⟩ | ⟨hne, ho, hcat, -⟩
  · exact h'.2.2 (j, w) List.mem_cons_self
  · refine h'.2.2 (j, w) (List.mem_cons_of_mem _ (List.mem_filter.mpr ⟨List.mem_filterMap.mpr ⟨j, List.mem_range.mpr (List.getElem?_eq_some_iff.mp ho).1, by rw [ho]; rfl⟩, ?_⟩))
    have e1 : (j == i) = false := by simpa using hne
    have e2 : (j + 1 == i && w.category == 2) = false := by
      by_cases hc2 : w.category = 2
      · have := hcat hc2
        simp [this]
      · simp [hc2]
    simp only [e1, e2, Bool.not_false, Bool.and_self]
theorem Lc.store2 {ls : Array Slot} {nL : Nat} {L L' : List (Option Value)} {i : Nat} {v : Value} (h : Lc ls nL L) (hi : i + 1 < nL) (hc : v.category = 2) (hL : Lst L L' i v) : ∃ ls', storeLocals ls i v = some ls' ∧ Lc ls' nL L' := by
  obtain ⟨ls', e, h'⟩ := lv_store2 (l := (List.range L.length).filterMap (fun j => (L[j]?.bind id).map (fun w => (j, w)))) (i := i) (v := v) (nL := nL) ⟨h.1, h.2.1, fun q hq => by
    obtain ⟨j, hj, hw⟩ := List.mem_filterMap.mp hq
    cases hb : L[j]? with
    | none => rw [hb] at hw; cases hw
    | some w =>
      rw [hb] at hw
      cases w with
      | none => cases hw
      | some w => cases hw; exact h.2.2 j w hb⟩ hi hc
  refine ⟨ls', e, h'.1, h'.2.1, fun j w hj => ?_⟩
  rcases hL j w hj with ⟨rfl, rfl⟩ | ⟨hne, ho, hcat, hcat2⟩
  · exact h'.2.2 (j, w) List.mem_cons_self
  · refine h'.2.2 (j, w) (List.mem_cons_of_mem _ (List.mem_filter.mpr ⟨List.mem_filterMap.mpr ⟨j, List.mem_range.mpr (List.getElem?_eq_some_iff.mp ho).1, by rw [ho]; rfl⟩, ?_⟩))
    have e1 : (j == i) = false := by simpa using hne
    have e3 : (j == i + 1) = false := by simpa using hcat2 hc
    have e2 : (j + 1 == i && w.category == 2) = false := by
      by_cases hc2 : w.category = 2
      · have := hcat hc2
        simp [this]
      · simp [hc2]
    simp only [e1, e2, e3, Bool.not_false, Bool.and_self]
/-- the new list by writing at i; longs nowhere near (checked) -/
def noL (L : List (Option Value)) : Bool := L.all (fun w => match w with | some (.long _) => false | some (.double _) => false | _ => true)
theorem Lst.set {L : List (Option Value)} {i : Nat} {v : Value} (h : noL L = true) (hv : v.category = 1) : Lst L (L.set i (some v)) i v := by
  intro j w hj
  by_cases hji : j = i
  · subst hji
    have hl : j < L.length := by
      have := (List.getElem?_eq_some_iff.mp hj).1
      simpa using this
    rw [List.getElem?_set_self hl] at hj
    cases hj
    exact Or.inl ⟨rfl, rfl⟩
  · rw [List.getElem?_set_ne (fun z => hji z.symm)] at hj
    refine Or.inr ⟨hji, hj, fun hc => ?_, fun hc => by omega⟩
    have := List.all_eq_true.mp h _ (List.mem_of_getElem? hj)
    cases w <;> simp [Value.category] at hc this

theorem r_istore_n {j : Fin 4} {x : Int32} {L' : List (Option Value)} (hd : decode M.2.1 pc = .ok (.istore_n j, 1)) (hq : pc + 1 = q) (hn : (j : Nat) < M.2.2.1) (hL : Lst L L' (j : Nat) (.int x)) (kk : RW γ M d k n Qr Qx c1 n1 q L' st σ xs) : RW γ M d k n Qr Qx c1 n1 pc L (.int x :: st) σ xs := by
  subst hq
  intro p e s m args below meth c H locs ls C hS hC hG hl
  obtain ⟨ls', e', h'⟩ := hl.store1 (v := .int x) hn rfl hL
  intro T hT X
  have hexec := C.1
  have hb := C.2.1
  obtain ⟨t, a, b⟩ := kk p e s m args below meth c H locs ls' C hS hC hG h' T hT X
  refine ⟨t, ?_, b⟩
  jvm_step X.here [X.here.top, ↓top_set X.here.top, hexec, hb, hd, e']
  exact a
theorem r_istore {j : Nat} {x : Int32} {L' : List (Option Value)} (hd : decode M.2.1 pc = .ok (.istore j, 2)) (hq : pc + 2 = q) (hn : j < M.2.2.1) (hL : Lst L L' j (.int x)) (kk : RW γ M d k n Qr Qx c1 n1 q L' st σ xs) : RW γ M d k n Qr Qx c1 n1 pc L (.int x :: st) σ xs := by
  subst hq
  intro p e s m args below meth c H locs ls C hS hC hG hl
  obtain ⟨ls', e', h'⟩ := hl.store1 (v := .int x) hn rfl hL
  intro T hT X
  have hexec := C.1
  have hb := C.2.1
  obtain ⟨t, a, b⟩ := kk p e s m args below meth c H locs ls' C hS hC hG h' T hT X
  refine ⟨t, ?_, b⟩
  jvm_step X.here [X.here.top, ↓top_set X.here.top, hexec, hb, hd, e']
  exact a
theorem r_astore_n {j : Fin 4} {x : Nat} {L' : List (Option Value)} (hd : decode M.2.1 pc = .ok (.astore_n j, 1)) (hq : pc + 1 = q) (hn : (j : Nat) < M.2.2.1) (hL : Lst L L' (j : Nat) (.ref x)) (kk : RW γ M d k n Qr Qx c1 n1 q L' st σ xs) : RW γ M d k n Qr Qx c1 n1 pc L (.ref x :: st) σ xs := by
  subst hq
  intro p e s m args below meth c H locs ls C hS hC hG hl
  obtain ⟨ls', e', h'⟩ := hl.store1 (v := .ref x) hn rfl hL
  intro T hT X
  have hexec := C.1
  have hb := C.2.1
  obtain ⟨t, a, b⟩ := kk p e s m args below meth c H locs ls' C hS hC hG h' T hT X
  refine ⟨t, ?_, b⟩
  jvm_step X.here [X.here.top, ↓top_set X.here.top, hexec, hb, hd, e', Value.isRef]
  exact a
theorem r_astore {j : Nat} {x : Nat} {L' : List (Option Value)} (hd : decode M.2.1 pc = .ok (.astore j, 2)) (hq : pc + 2 = q) (hn : j < M.2.2.1) (hL : Lst L L' j (.ref x)) (kk : RW γ M d k n Qr Qx c1 n1 q L' st σ xs) : RW γ M d k n Qr Qx c1 n1 pc L (.ref x :: st) σ xs := by
  subst hq
  intro p e s m args below meth c H locs ls C hS hC hG hl
  obtain ⟨ls', e', h'⟩ := hl.store1 (v := .ref x) hn rfl hL
  intro T hT X
  have hexec := C.1
  have hb := C.2.1
  obtain ⟨t, a, b⟩ := kk p e s m args below meth c H locs ls' C hS hC hG h' T hT X
  refine ⟨t, ?_, b⟩
  jvm_step X.here [X.here.top, ↓top_set X.here.top, hexec, hb, hd, e', Value.isRef]
  exact a
theorem r_lstore_n {j : Fin 4} {x : Int64} {L' : List (Option Value)} (hd : decode M.2.1 pc = .ok (.lstore_n j, 1)) (hq : pc + 1 = q) (hn : (j : Nat) + 1 < M.2.2.1) (hL : Lst L L' (j : Nat) (.long x)) (kk : RW γ M d k n Qr Qx c1 n1 q L' st σ xs) : RW γ M d k n Qr Qx c1 n1 pc L (.long x :: st) σ xs := by
  subst hq
  intro p e s m args below meth c H locs ls C hS hC hG hl
  obtain ⟨ls', e', h'⟩ := hl.store2 (v := .long x) hn rfl hL
  intro T hT X
  have hexec := C.1
  have hb := C.2.1
  obtain ⟨t, a, b⟩ := kk p e s m args below meth c H locs ls' C hS hC hG h' T hT X
  refine ⟨t, ?_, b⟩
  jvm_step X.here [X.here.top, ↓top_set X.here.top, hexec, hb, hd, e']
  exact a
theorem r_lstore {j : Nat} {x : Int64} {L' : List (Option Value)} (hd : decode M.2.1 pc = .ok (.lstore j, 2)) (hq : pc + 2 = q) (hn : j + 1 < M.2.2.1) (hL : Lst L L' j (.long x)) (kk : RW γ M d k n Qr Qx c1 n1 q L' st σ xs) : RW γ M d k n Qr Qx c1 n1 pc L (.long x :: st) σ xs := by
  subst hq
  intro p e s m args below meth c H locs ls C hS hC hG hl
  obtain ⟨ls', e', h'⟩ := hl.store2 (v := .long x) hn rfl hL
  intro T hT X
  have hexec := C.1
  have hb := C.2.1
  obtain ⟨t, a, b⟩ := kk p e s m args below meth c H locs ls' C hS hC hG h' T hT X
  refine ⟨t, ?_, b⟩
  jvm_step X.here [X.here.top, ↓top_set X.here.top, hexec, hb, hd, e']
  exact a
theorem r_iinc {j : Nat} {z w : Int} {L' : List (Option Value)} (hd : decode M.2.1 pc = .ok (.iinc j z, 3)) (hq : pc + 3 = q) (hv : L[j]? = some (some (.int (zI w)))) (hn : j < M.2.2.1) (hL : Lst L L' j (.int (zI (w + z)))) (kk : RW γ M d k n Qr Qx c1 n1 q L' st σ xs) : RW γ M d k n Qr Qx c1 n1 pc L st σ xs := by
  subst hq
  intro p e s m args below meth c H locs ls C hS hC hG hl
  have hg := hl.at hv
  have hv2 : zI w + Int32.ofInt z = zI (w + z) := zI_add w z
  obtain ⟨ls', e', h'⟩ := hl.store1 (v := .int (zI (w + z))) hn rfl hL
  rw [← hv2] at e'
  intro T hT X
  have hexec := C.1
  have hb := C.2.1
  obtain ⟨t, a, b⟩ := kk p e s m args below meth c H locs ls' C hS hC hG h' T hT X
  refine ⟨t, ?_, b⟩
  jvm_step X.here [X.here.top, ↓top_set X.here.top, hexec, hb, hd, hg, e']
  exact a
theorem r_iadd {a b : Int} (hd : decode M.2.1 pc = .ok (.iadd, 1)) (hq : pc + 1 = q) (kk : RW γ M d k n Qr Qx c1 n1 q L (.int (zI (a + b)) :: st) σ xs) : RW γ M d k n Qr Qx c1 n1 pc L (.int (zI b) :: .int (zI a) :: st) σ xs := by
  subst hq
  intro p e s m args below meth c H locs ls C hS hC hG hl
  refine lv_iadd C.1 C.2.1 hd ?_
  rw [zI_add]
  exact kk p e s m args below meth c H locs ls C hS hC hG hl
theorem r_isub {a b : Int} (hd : decode M.2.1 pc = .ok (.isub, 1)) (hq : pc + 1 = q) (kk : RW γ M d k n Qr Qx c1 n1 q L (.int (zI (a - b)) :: st) σ xs) : RW γ M d k n Qr Qx c1 n1 pc L (.int (zI b) :: .int (zI a) :: st) σ xs := by
  subst hq
  intro p e s m args below meth c H locs ls C hS hC hG hl
  refine lv_isub C.1 C.2.1 hd ?_
  rw [zI_sub]
  exact kk p e s m args below meth c H locs ls C hS hC hG hl
theorem r_imul {a b : Int} (hd : decode M.2.1 pc = .ok (.imul, 1)) (hq : pc + 1 = q) (kk : RW γ M d k n Qr Qx c1 n1 q L (.int (zI (a * b)) :: st) σ xs) : RW γ M d k n Qr Qx c1 n1 pc L (.int (zI b) :: .int (zI a) :: st) σ xs := by
  subst hq
  intro p e s m args below meth c H locs ls C hS hC hG hl
  refine lv_imul C.1 C.2.1 hd ?_
  rw [zI_mul]
  exact kk p e s m args below meth c H locs ls C hS hC hG hl
theorem r_ladd {a b : Int} (hd : decode M.2.1 pc = .ok (.ladd, 1)) (hq : pc + 1 = q) (kk : RW γ M d k n Qr Qx c1 n1 q L (.long (zL (a + b)) :: st) σ xs) : RW γ M d k n Qr Qx c1 n1 pc L (.long (zL b) :: .long (zL a) :: st) σ xs := by
  subst hq
  intro p e s m args below meth c H locs ls C hS hC hG hl
  refine lv_ladd C.1 C.2.1 hd ?_
  rw [zL_add]
  exact kk p e s m args below meth c H locs ls C hS hC hG hl
theorem r_lsub {a b : Int} (hd : decode M.2.1 pc = .ok (.lsub, 1)) (hq : pc + 1 = q) (kk : RW γ M d k n Qr Qx c1 n1 q L (.long (zL (a - b)) :: st) σ xs) : RW γ M d k n Qr Qx c1 n1 pc L (.long (zL b) :: .long (zL a) :: st) σ xs := by
  subst hq
  intro p e s m args below meth c H locs ls C hS hC hG hl
  refine lv_lsub C.1 C.2.1 hd ?_
  rw [zL_sub]
  exact kk p e s m args below meth c H locs ls C hS hC hG hl
theorem r_lmul {a b : Int} (hd : decode M.2.1 pc = .ok (.lmul, 1)) (hq : pc + 1 = q) (kk : RW γ M d k n Qr Qx c1 n1 q L (.long (zL (a * b)) :: st) σ xs) : RW γ M d k n Qr Qx c1 n1 pc L (.long (zL b) :: .long (zL a) :: st) σ xs := by
  subst hq
  intro p e s m args below meth c H locs ls C hS hC hG hl
  refine lv_lmul C.1 C.2.1 hd ?_
  rw [zL_mul]
  exact kk p e s m args below meth c H locs ls C hS hC hG hl
theorem r_iop {x y : Int32} {z : Int} (hx : x + y = zI z) (hd : decode M.2.1 pc = .ok (.iadd, 1)) (hq : pc + 1 = q) (kk : RW γ M d k n Qr Qx c1 n1 q L (.int (zI z) :: st) σ xs) : RW γ M d k n Qr Qx c1 n1 pc L (.int y :: .int x :: st) σ xs := by
  subst hq
  intro p e s m args below meth c H locs ls C hS hC hG hl
  refine lv_iadd C.1 C.2.1 hd ?_
  rw [hx]
  exact kk p e s m args below meth c H locs ls C hS hC hG hl
theorem r_iand {x y : Int32} (hd : decode M.2.1 pc = .ok (.iand, 1)) (hq : pc + 1 = q) (kk : RW γ M d k n Qr Qx c1 n1 q L (.int (x &&& y) :: st) σ xs) : RW γ M d k n Qr Qx c1 n1 pc L (.int y :: .int x :: st) σ xs := by
  subst hq
  intro p e s m args below meth c H locs ls C hS hC hG hl
  exact lv_iand C.1 C.2.1 hd (kk p e s m args below meth c H locs ls C hS hC hG hl)
theorem r_ishr {x y : Int32} (hd : decode M.2.1 pc = .ok (.ishr, 1)) (hq : pc + 1 = q) {z : Int} (hz : x >>> (y &&& 31) = zI z) (kk : RW γ M d k n Qr Qx c1 n1 q L (.int (zI z) :: st) σ xs) : RW γ M d k n Qr Qx c1 n1 pc L (.int y :: .int x :: st) σ xs := by
  subst hq
  intro p e s m args below meth c H locs ls C hS hC hG hl
  refine lv_ishr C.1 C.2.1 hd ?_
  rw [hz]
  exact kk p e s m args below meth c H locs ls C hS hC hG hl
theorem r_idiv {x y : Int32} (hd : decode M.2.1 pc = .ok (.idiv, 1)) (hq : pc + 1 = q) (hne : ¬ y = 0) {z : Int} (hz : x / y = zI z) (kk : RW γ M d k n Qr Qx c1 n1 q L (.int (zI z) :: st) σ xs) : RW γ M d k n Qr Qx c1 n1 pc L (.int y :: .int x :: st) σ xs := by
  subst hq
  intro p e s m args below meth c H locs ls C hS hC hG hl
  refine lv_idiv C.1 C.2.1 hd hne ?_
  rw [hz]
  exact kk p e s m args below meth c H locs ls C hS hC hG hl
theorem r_irem {x y : Int32} (hd : decode M.2.1 pc = .ok (.irem, 1)) (hq : pc + 1 = q) (hne : ¬ y = 0) {z : Int} (hz : x - x / y * y = zI z) (kk : RW γ M d k n Qr Qx c1 n1 q L (.int (zI z) :: st) σ xs) : RW γ M d k n Qr Qx c1 n1 pc L (.int y :: .int x :: st) σ xs := by
  subst hq
  intro p e s m args below meth c H locs ls C hS hC hG hl
  refine lv_irem C.1 C.2.1 hd hne ?_
  rw [hz]
  exact kk p e s m args below meth c H locs ls C hS hC hG hl
theorem r_i2l {a : Int} (hd : decode M.2.1 pc = .ok (.i2l, 1)) (hq : pc + 1 = q) (ha : -2147483648 ≤ a ∧ a ≤ 2147483647) (kk : RW γ M d k n Qr Qx c1 n1 q L (.long (zL a) :: st) σ xs) : RW γ M d k n Qr Qx c1 n1 pc L (.int (zI a) :: st) σ xs := by
  subst hq
  intro p e s m args below meth c H locs ls C hS hC hG hl
  exact lv_i2l C.1 C.2.1 hd (zI_long ha.1 ha.2) (kk p e s m args below meth c H locs ls C hS hC hG hl)
theorem r_l2i {a : Int} (hd : decode M.2.1 pc = .ok (.l2i, 1)) (hq : pc + 1 = q) (kk : RW γ M d k n Qr Qx c1 n1 q L (.int (zI a) :: st) σ xs) : RW γ M d k n Qr Qx c1 n1 pc L (.long (zL a) :: st) σ xs := by
  subst hq
  intro p e s m args below meth c H locs ls C hS hC hG hl
  exact lv_l2i C.1 C.2.1 hd (zL_int a) (kk p e s m args below meth c H locs ls C hS hC hG hl)
theorem zI_char (a : Int) : ((zI a).toUInt32 % 65536).toInt32 = zI (a % 65536) := by
  apply Int32.toInt_inj.mp
  have h1 : 0 ≤ a % 65536 := Int.emod_nonneg _ (by decide)
  have h2 : a % 65536 < 65536 := Int.emod_lt_of_pos _ (by decide)
  rw [zI_toInt (by omega) (by omega), pk_char]
  have e : ((zI a).toBitVec.toNat : Int) = a % 4294967296 := by
    show (((Int32.ofInt a).toBitVec).toNat : Int) = _
    rw [Int32.toBitVec_ofInt, BitVec.toNat_ofInt]
    have : (0 : Int) ≤ a % 4294967296 := Int.emod_nonneg _ (by decide)
    rw [show ((2 ^ 32 : Nat) : Int) = 4294967296 from rfl]
    omega
  rw [nI_toInt (by omega)]
  omega
theorem r_i2c {a : Int} (hd : decode M.2.1 pc = .ok (.i2c, 1)) (hq : pc + 1 = q) (kk : RW γ M d k n Qr Qx c1 n1 q L (.int (zI (a % 65536)) :: st) σ xs) : RW γ M d k n Qr Qx c1 n1 pc L (.int (zI a) :: st) σ xs := by
  subst hq
  intro p e s m args below meth c H locs ls C hS hC hG hl
  exact lv_i2c C.1 C.2.1 hd (zI_char a) (kk p e s m args below meth c H locs ls C hS hC hG hl)
theorem r_dup {v : Value} (hd : decode M.2.1 pc = .ok (.dup, 1)) (hq : pc + 1 = q) (hv : v.category = 1) (kk : RW γ M d k n Qr Qx c1 n1 q L (v :: v :: st) σ xs) : RW γ M d k n Qr Qx c1 n1 pc L (v :: st) σ xs := by
  subst hq
  intro p e s m args below meth c H locs ls C hS hC hG hl
  exact lv_dup C.1 C.2.1 hd hv (kk p e s m args below meth c H locs ls C hS hC hG hl)
theorem r_goto {off : Int} (hd : decode M.2.1 pc = .ok (.goto off, 3)) (hq : (pc : Int) + off = (q : Int)) (kk : RW γ M d k n Qr Qx c1 n1 q L st σ xs) : RW γ M d k n Qr Qx c1 n1 pc L st σ xs := by
  intro p e s m args below meth c H locs ls C hS hC hG hl
  exact lv_goto C.1 C.2.1 hd hq (kk p e s m args below meth c H locs ls C hS hC hG hl)
theorem r_icmp_eq {a b off : Int} {tgt : Nat} (hd : decode M.2.1 pc = .ok (.if_icmp .eq off, 3)) (hq : pc + 3 = q) (ht : (pc : Int) + off = (tgt : Int)) (ha : -2147483648 ≤ a ∧ a ≤ 2147483647) (hb : -2147483648 ≤ b ∧ b ≤ 2147483647) (kt : a = b → RW γ M d k n Qr Qx c1 n1 tgt L st σ xs) (kf : a ≠ b → RW γ M d k n Qr Qx c1 n1 q L st σ xs) : RW γ M d k n Qr Qx c1 n1 pc L (.int (zI b) :: .int (zI a) :: st) σ xs := by
  subst hq
  intro p e s m args below meth c H locs ls C hS hC hG hl
  have hcv := zI_inj ha hb
  exact lv_icmp_eq C.1 C.2.1 hd ht (fun h => kt (by have := hcv.mp h; omega) p e s m args below meth c H locs ls C hS hC hG hl) (fun h => kf (by have := mt hcv.mpr h; omega) p e s m args below meth c H locs ls C hS hC hG hl)
theorem r_if_eq {a off : Int} {tgt : Nat} (hd : decode M.2.1 pc = .ok (.ifCond .eq off, 3)) (hq : pc + 3 = q) (ht : (pc : Int) + off = (tgt : Int)) (ha : -2147483648 ≤ a ∧ a ≤ 2147483647) (kt : a = 0 → RW γ M d k n Qr Qx c1 n1 tgt L st σ xs) (kf : a ≠ 0 → RW γ M d k n Qr Qx c1 n1 q L st σ xs) : RW γ M d k n Qr Qx c1 n1 pc L (.int (zI a) :: st) σ xs := by
  subst hq
  intro p e s m args below meth c H locs ls C hS hC hG hl
  have hb : -2147483648 ≤ (0 : Int) ∧ (0 : Int) ≤ 2147483647 := by omega
  have hcv := zI_inj ha hb
  exact lv_if_eq C.1 C.2.1 hd ht (fun h => kt (by have := hcv.mp h; omega) p e s m args below meth c H locs ls C hS hC hG hl) (fun h => kf (by have := mt hcv.mpr h; omega) p e s m args below meth c H locs ls C hS hC hG hl)
theorem r_icmp_ne {a b off : Int} {tgt : Nat} (hd : decode M.2.1 pc = .ok (.if_icmp .ne off, 3)) (hq : pc + 3 = q) (ht : (pc : Int) + off = (tgt : Int)) (ha : -2147483648 ≤ a ∧ a ≤ 2147483647) (hb : -2147483648 ≤ b ∧ b ≤ 2147483647) (kt : a ≠ b → RW γ M d k n Qr Qx c1 n1 tgt L st σ xs) (kf : a = b → RW γ M d k n Qr Qx c1 n1 q L st σ xs) : RW γ M d k n Qr Qx c1 n1 pc L (.int (zI b) :: .int (zI a) :: st) σ xs := by
  subst hq
  intro p e s m args below meth c H locs ls C hS hC hG hl
  have hcv := not_congr (zI_inj ha hb)
  exact lv_icmp_ne C.1 C.2.1 hd ht (fun h => kt (by have := hcv.mp h; omega) p e s m args below meth c H locs ls C hS hC hG hl) (fun h => kf (by have := (zI_inj ha hb).mp h; omega) p e s m args below meth c H locs ls C hS hC hG hl)
theorem r_if_ne {a off : Int} {tgt : Nat} (hd : decode M.2.1 pc = .ok (.ifCond .ne off, 3)) (hq : pc + 3 = q) (ht : (pc : Int) + off = (tgt : Int)) (ha : -2147483648 ≤ a ∧ a ≤ 2147483647) (kt : a ≠ 0 → RW γ M d k n Qr Qx c1 n1 tgt L st σ xs) (kf : a = 0 → RW γ M d k n Qr Qx c1 n1 q L st σ xs) : RW γ M d k n Qr Qx c1 n1 pc L (.int (zI a) :: st) σ xs := by
  subst hq
  intro p e s m args below meth c H locs ls C hS hC hG hl
  have hb : -2147483648 ≤ (0 : Int) ∧ (0 : Int) ≤ 2147483647 := by omega
  have hcv := not_congr (zI_inj ha hb)
  exact lv_if_ne C.1 C.2.1 hd ht (fun h => kt (by have := hcv.mp h; omega) p e s m args below meth c H locs ls C hS hC hG hl) (fun h => kf (by have := (zI_inj ha hb).mp h; omega) p e s m args below meth c H locs ls C hS hC hG hl)
theorem r_icmp_lt {a b off : Int} {tgt : Nat} (hd : decode M.2.1 pc = .ok (.if_icmp .lt off, 3)) (hq : pc + 3 = q) (ht : (pc : Int) + off = (tgt : Int)) (ha : -2147483648 ≤ a ∧ a ≤ 2147483647) (hb : -2147483648 ≤ b ∧ b ≤ 2147483647) (kt : a < b → RW γ M d k n Qr Qx c1 n1 tgt L st σ xs) (kf : b ≤ a → RW γ M d k n Qr Qx c1 n1 q L st σ xs) : RW γ M d k n Qr Qx c1 n1 pc L (.int (zI b) :: .int (zI a) :: st) σ xs := by
  subst hq
  intro p e s m args below meth c H locs ls C hS hC hG hl
  have hcv := zI_lt ha hb
  exact lv_icmp_lt C.1 C.2.1 hd ht (fun h => kt (by have := hcv.mp h; omega) p e s m args below meth c H locs ls C hS hC hG hl) (fun h => kf (by have := mt hcv.mpr h; omega) p e s m args below meth c H locs ls C hS hC hG hl)
theorem r_if_lt {a off : Int} {tgt : Nat} (hd : decode M.2.1 pc = .ok (.ifCond .lt off, 3)) (hq : pc + 3 = q) (ht : (pc : Int) + off = (tgt : Int)) (ha : -2147483648 ≤ a ∧ a ≤ 2147483647) (kt : a < 0 → RW γ M d k n Qr Qx c1 n1 tgt L st σ xs) (kf : 0 ≤ a → RW γ M d k n Qr Qx c1 n1 q L st σ xs) : RW γ M d k n Qr Qx c1 n1 pc L (.int (zI a) :: st) σ xs := by
  subst hq
  intro p e s m args below meth c H locs ls C hS hC hG hl
  have hb : -2147483648 ≤ (0 : Int) ∧ (0 : Int) ≤ 2147483647 := by omega
  have hcv := zI_lt ha hb
  exact lv_if_lt C.1 C.2.1 hd ht (fun h => kt (by have := hcv.mp h; omega) p e s m args below meth c H locs ls C hS hC hG hl) (fun h => kf (by have := mt hcv.mpr h; omega) p e s m args below meth c H locs ls C hS hC hG hl)
theorem r_icmp_ge {a b off : Int} {tgt : Nat} (hd : decode M.2.1 pc = .ok (.if_icmp .ge off, 3)) (hq : pc + 3 = q) (ht : (pc : Int) + off = (tgt : Int)) (ha : -2147483648 ≤ a ∧ a ≤ 2147483647) (hb : -2147483648 ≤ b ∧ b ≤ 2147483647) (kt : b ≤ a → RW γ M d k n Qr Qx c1 n1 tgt L st σ xs) (kf : a < b → RW γ M d k n Qr Qx c1 n1 q L st σ xs) : RW γ M d k n Qr Qx c1 n1 pc L (.int (zI b) :: .int (zI a) :: st) σ xs := by
  subst hq
  intro p e s m args below meth c H locs ls C hS hC hG hl
  have hcv := zI_ge ha hb
  exact lv_icmp_ge C.1 C.2.1 hd ht (fun h => kt (by have := hcv.mp h; omega) p e s m args below meth c H locs ls C hS hC hG hl) (fun h => kf (by have := mt hcv.mpr h; omega) p e s m args below meth c H locs ls C hS hC hG hl)
theorem r_if_ge {a off : Int} {tgt : Nat} (hd : decode M.2.1 pc = .ok (.ifCond .ge off, 3)) (hq : pc + 3 = q) (ht : (pc : Int) + off = (tgt : Int)) (ha : -2147483648 ≤ a ∧ a ≤ 2147483647) (kt : 0 ≤ a → RW γ M d k n Qr Qx c1 n1 tgt L st σ xs) (kf : a < 0 → RW γ M d k n Qr Qx c1 n1 q L st σ xs) : RW γ M d k n Qr Qx c1 n1 pc L (.int (zI a) :: st) σ xs := by
  subst hq
  intro p e s m args below meth c H locs ls C hS hC hG hl
  have hb : -2147483648 ≤ (0 : Int) ∧ (0 : Int) ≤ 2147483647 := by omega
  have hcv := zI_ge ha hb
  exact lv_if_ge C.1 C.2.1 hd ht (fun h => kt (by have := hcv.mp h; omega) p e s m args below meth c H locs ls C hS hC hG hl) (fun h => kf (by have := mt hcv.mpr h; omega) p e s m args below meth c H locs ls C hS hC hG hl)
theorem r_icmp_gt {a b off : Int} {tgt : Nat} (hd : decode M.2.1 pc = .ok (.if_icmp .gt off, 3)) (hq : pc + 3 = q) (ht : (pc : Int) + off = (tgt : Int)) (ha : -2147483648 ≤ a ∧ a ≤ 2147483647) (hb : -2147483648 ≤ b ∧ b ≤ 2147483647) (kt : b < a → RW γ M d k n Qr Qx c1 n1 tgt L st σ xs) (kf : a ≤ b → RW γ M d k n Qr Qx c1 n1 q L st σ xs) : RW γ M d k n Qr Qx c1 n1 pc L (.int (zI b) :: .int (zI a) :: st) σ xs := by
  subst hq
  intro p e s m args below meth c H locs ls C hS hC hG hl
  have hcv := zI_gt ha hb
  exact lv_icmp_gt C.1 C.2.1 hd ht (fun h => kt (by have := hcv.mp h; omega) p e s m args below meth c H locs ls C hS hC hG hl) (fun h => kf (by have := mt hcv.mpr h; omega) p e s m args below meth c H locs ls C hS hC hG hl)
theorem r_if_gt {a off : Int} {tgt : Nat} (hd : decode M.2.1 pc = .ok (.ifCond .gt off, 3)) (hq : pc + 3 = q) (ht : (pc : Int) + off = (tgt : Int)) (ha : -2147483648 ≤ a ∧ a ≤ 2147483647) (kt : 0 < a → RW γ M d k n Qr Qx c1 n1 tgt L st σ xs) (kf : a ≤ 0 → RW γ M d k n Qr Qx c1 n1 q L st σ xs) : RW γ M d k n Qr Qx c1 n1 pc L (.int (zI a) :: st) σ xs := by
  subst hq
  intro p e s m args below meth c H locs ls C hS hC hG hl
  have hb : -2147483648 ≤ (0 : Int) ∧ (0 : Int) ≤ 2147483647 := by omega
  have hcv := zI_gt ha hb
  exact lv_if_gt C.1 C.2.1 hd ht (fun h => kt (by have := hcv.mp h; omega) p e s m args below meth c H locs ls C hS hC hG hl) (fun h => kf (by have := mt hcv.mpr h; omega) p e s m args below meth c H locs ls C hS hC hG hl)
theorem r_icmp_le {a b off : Int} {tgt : Nat} (hd : decode M.2.1 pc = .ok (.if_icmp .le off, 3)) (hq : pc + 3 = q) (ht : (pc : Int) + off = (tgt : Int)) (ha : -2147483648 ≤ a ∧ a ≤ 2147483647) (hb : -2147483648 ≤ b ∧ b ≤ 2147483647) (kt : a ≤ b → RW γ M d k n Qr Qx c1 n1 tgt L st σ xs) (kf : b < a → RW γ M d k n Qr Qx c1 n1 q L st σ xs) : RW γ M d k n Qr Qx c1 n1 pc L (.int (zI b) :: .int (zI a) :: st) σ xs := by
  subst hq
  intro p e s m args below meth c H locs ls C hS hC hG hl
  have hcv := zI_le ha hb
  exact lv_icmp_le C.1 C.2.1 hd ht (fun h => kt (by have := hcv.mp h; omega) p e s m args below meth c H locs ls C hS hC hG hl) (fun h => kf (by have := mt hcv.mpr h; omega) p e s m args below meth c H locs ls C hS hC hG hl)
theorem r_if_le {a off : Int} {tgt : Nat} (hd : decode M.2.1 pc = .ok (.ifCond .le off, 3)) (hq : pc + 3 = q) (ht : (pc : Int) + off = (tgt : Int)) (ha : -2147483648 ≤ a ∧ a ≤ 2147483647) (kt : a ≤ 0 → RW γ M d k n Qr Qx c1 n1 tgt L st σ xs) (kf : 0 < a → RW γ M d k n Qr Qx c1 n1 q L st σ xs) : RW γ M d k n Qr Qx c1 n1 pc L (.int (zI a) :: st) σ xs := by
  subst hq
  intro p e s m args below meth c H locs ls C hS hC hG hl
  have hb : -2147483648 ≤ (0 : Int) ∧ (0 : Int) ≤ 2147483647 := by omega
  have hcv := zI_le ha hb
  exact lv_if_le C.1 C.2.1 hd ht (fun h => kt (by have := hcv.mp h; omega) p e s m args below meth c H locs ls C hS hC hG hl) (fun h => kf (by have := mt hcv.mpr h; omega) p e s m args below meth c H locs ls C hS hC hG hl)
theorem r_lcmp {a b : Int} (hd : decode M.2.1 pc = .ok (.lcmp, 1)) (hq : pc + 1 = q) (ha : -9223372036854775808 ≤ a ∧ a ≤ 9223372036854775807) (hb : -9223372036854775808 ≤ b ∧ b ≤ 9223372036854775807) (kk : ∀ z : Int, (z = -1 ∧ a < b) ∨ (z = 0 ∧ a = b) ∨ (z = 1 ∧ b < a) → RW γ M d k n Qr Qx c1 n1 q L (.int (zI z) :: st) σ xs) : RW γ M d k n Qr Qx c1 n1 pc L (.long (zL b) :: .long (zL a) :: st) σ xs := by
  subst hq
  intro p e s m args below meth c H locs ls C hS hC hG hl
  refine W.lcmp C.1 C.2.1 hd ?_
  have h1 := zL_lt hb ha
  have h2 := zL_inj ha hb
  by_cases g1 : b < a
  · rw [show lg_cmp (zL a) (zL b) = zI 1 by simp [lg_cmp, h1.mpr g1]; rfl]
    exact kk 1 (by omega) p e s m args below meth c H locs ls C hS hC hG hl
  · by_cases g2 : a = b
    · subst g2
      rw [show lg_cmp (zL a) (zL a) = zI 0 by simp [lg_cmp]; rfl]
      exact kk 0 (by omega) p e s m args below meth c H locs ls C hS hC hG hl
    · have g3 : ¬ zL b < zL a := fun z => g1 (h1.mp z)
      have g4 : ¬ zL a = zL b := fun z => g2 (h2.mp z)
      rw [show lg_cmp (zL a) (zL b) = zI (-1) by simp [lg_cmp, g3, g4]; rfl]
      exact kk (-1) (by omega) p e s m args below meth c H locs ls C hS hC hG hl
theorem r_lcmpE {v : Int64} (hd : decode M.2.1 pc = .ok (.lcmp, 1)) (hq : pc + 1 = q) (kk : RW γ M d k n Qr Qx c1 n1 q L (.int (zI 0) :: st) σ xs) : RW γ M d k n Qr Qx c1 n1 pc L (.long v :: .long v :: st) σ xs := by
  subst hq
  intro p e s m args below meth c H locs ls C hS hC hG hl
  refine W.lcmp C.1 C.2.1 hd ?_
  rw [show lg_cmp v v = zI 0 by simp [lg_cmp]; rfl]
  exact kk p e s m args below meth c H locs ls C hS hC hG hl
end ROWS
