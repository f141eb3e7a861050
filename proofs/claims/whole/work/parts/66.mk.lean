/-! THE CONSTRUCTORS: rows that make objects -/
theorem oi_1 : Cond.instanceMethod Lib.objectInit ∈ uw := uw_at 67 (by decide +kernel)
theorem oi_2 : Cond.code Lib.objectInit ⟨#[0xb1]⟩ 1 none ∈ uw := uw_at 68 (by decide +kernel)
theorem oi_X4 : Cond.methodLink RX4 1 Lib.objectInit ∈ uw := uw_at 66 (by decide +kernel)
theorem oi_X3 : Cond.methodLink RX3 3 Lib.objectInit ∈ uw := uw_at 74 (by decide +kernel)
theorem oi_X1 : Cond.methodLink RX1 3 Lib.objectInit ∈ uw := uw_at 88 (by decide +kernel)
theorem oi_X0 : Cond.methodLink RX0 3 Lib.objectInit ∈ uw := uw_at 94 (by decide +kernel)
theorem oi_X5 : Cond.methodLink RX5 1 Lib.objectInit ∈ uw := uw_at 882 (by decide +kernel)
theorem Nst.warm {s U : State} (hW : s.WarmedH U.vm) (h : Nst s) : Nst U := ⟨va_Nw.warmM hW h.1, va_Nw.warmM hW h.2.1, va_Nw.warmM hW h.2.2⟩
theorem Nst.blind {U V : State} (hv : U.vm = V.vm) (h : Nst U) : Nst V := ⟨va_tabs rfl hv h.1, va_tabs rfl hv h.2.1, va_tabs rfl hv h.2.2⟩
theorem Nst.of {args : Array Value} {s : State} (h : ∀ w ∈ lw_tbl, w.before args s = true) : Nst s := ⟨va_tabs rfl rfl (h _ (List.mem_of_getElem? (i := 71) (by decide +kernel))), va_tabs rfl rfl (h _ (List.mem_of_getElem? (i := 85) (by decide +kernel))), va_tabs rfl rfl (h _ (List.mem_of_getElem? (i := 96) (by decide +kernel)))⟩
def PrI (γ : Gm) (σ : St) (xs : va_W) (U : State) : Prop := Pr γ σ xs U ∧ Nst U
theorem FrameBlind_PrI (γ : Gm) (av : List Value) (σ : St) (xs : va_W) : FrameBlind (va_Pc av (PrI γ σ xs)) := by
  intro a U g mk ⟨h1, h2, h3⟩
  obtain ⟨k1, k2⟩ := FrameBlind_Pr γ av σ xs a U g mk ⟨h1, h2⟩
  exact ⟨k1, k2, h3.blind rfl⟩
theorem nw_L4 : Cond.classLink RL 8 RX4 ∈ uw ∧ Cond.instantiable RX4 6 ∈ uw := ⟨uw_at 61 (by decide +kernel), uw_at 62 (by decide +kernel)⟩
theorem nw_43 : Cond.classLink RX4 7 RX3 ∈ uw ∧ Cond.instantiable RX3 2 ∈ uw := ⟨uw_at 69 (by decide +kernel), uw_at 70 (by decide +kernel)⟩
theorem nw_41 : Cond.classLink RX4 19 RX1 ∈ uw ∧ Cond.instantiable RX1 3 ∈ uw := ⟨uw_at 83 (by decide +kernel), uw_at 84 (by decide +kernel)⟩
theorem nw_10 : Cond.classLink RX1 9 RX0 ∈ uw ∧ Cond.instantiable RX0 5 ∈ uw := ⟨uw_at 89 (by decide +kernel), uw_at 90 (by decide +kernel)⟩
theorem nw_03 : Cond.classLink RX0 9 RX3 ∈ uw := uw_at 95 (by decide +kernel)
theorem nw_40 : Cond.classLink RX4 26 RX0 ∈ uw := uw_at 136 (by decide +kernel)
theorem nw_L5 : Cond.classLink RL 91 RX5 ∈ uw ∧ Cond.instantiable RX5 15 ∈ uw := ⟨uw_at 877 (by decide +kernel), uw_at 878 (by decide +kernel)⟩
/-- a constructor without arguments -/
def Iok (My : Md) : Prop := Cond.instanceMethod My.1 ∈ uw ∧ Cond.initialized My.1.cls ∈ uw ∧ uC My ∈ uw ∧ (My.1.cls ≠ "java/lang/invoke/MethodHandle" ∧ My.1.cls ≠ "java/lang/invoke/VarHandle" ∧ (parseMethodDescriptor My.1.desc).map (fun d => d.parameters.length) = some 0) ∧ My.1.name = "<init>" ∧ My.2.2.2 = none
theorem Iok.of {My : Md} (h : (∀ w ∈ [Cond.instanceMethod My.1, .initialized My.1.cls, uC My], w ∈ lw_tbl ∧ goodWord w = true) ∧ (My.1.cls ≠ "java/lang/invoke/MethodHandle" ∧ My.1.cls ≠ "java/lang/invoke/VarHandle" ∧ (parseMethodDescriptor My.1.desc).map (fun d => d.parameters.length) = some 0)) (h2 : My.1.name = "<init>" ∧ My.2.2.2 = none) : Iok My :=
  ⟨uw_i (h.1 _ (by simp)), uw_i (h.1 _ (by simp)), uw_i (h.1 _ (by simp)), h.2, h2⟩
theorem iok_X0 : Iok mX0_init := Iok.of (by decide +kernel) ⟨rfl, rfl⟩
theorem iok_X1 : Iok mX1_init := Iok.of (by decide +kernel) ⟨rfl, rfl⟩
theorem iok_X3 : Iok mX3_init := Iok.of (by decide +kernel) ⟨rfl, rfl⟩
theorem iok_X4 : Iok mX4_init := Iok.of (by decide +kernel) ⟨rfl, rfl⟩
theorem iok_X5 : Iok mX5_init := Iok.of (by decide +kernel) ⟨rfl, rfl⟩
/-- the same frame of reference, other cells in the world -/
def wg (γ : Gm) (a : Nat → Nat → Nat) (v : Nat → Nat → Prop) : Gm := (gl γ, gB γ, gD γ, gc γ, a, v, gK γ, gV γ)
/-- no cell in the world: all beside -/
def em (γ : Gm) : Gm := wg γ (fun _ _ => 0) (fun _ _ => False)
theorem Cl.ofP {γ : Gm} {σ : St} {xs : va_W} {H : Heap} (hE : ∀ k i, ¬ gv γ k i) (h : va_P (gD γ) vwCl xs H) : Cl γ σ xs H := ⟨fun k i hv => absurd hv (hE k i), h⟩
theorem Gok.ofD {γ : Gm} {xs : va_W} (hE : ∀ k i, ¬ gv γ k i) (h : (gl γ).stackTraces = false) (hD : va_D (fr γ) xs) : Gok γ xs :=
  ⟨h, fun k i _ _ hv => absurd hv (hE k i), fun k i hv => absurd hv (hE k i), hD, fun k i hv => absurd hv (hE k i), fun k i hv => absurd hv (hE k i)⟩
section MK
variable {γ : Gm} {M : Md} {R : Room} {Z : Array Value → State → Method → Code → Prop} {Q : List Frame → Array Value → State → State → Prop} {c1 n1 pc q : Nat} {L : List (Option Value)} {st : List Value} {σ σ1 : St} {xs xs1 : va_W}
theorem h_newA {ty : FieldType} {atype : ArrayType} {t0 N : Nat} {z : Int} {x : vp_A} (hty : newarray.typeOf atype = ty) (ht : (tysG γ)[t0]? = some (gc γ t0, ty)) (hRA : ∀ (U : State) (cA : ClassId), va_RA U cA ty = (U.vm.findClass ("[" ++ ty.toString) = some cA)) (hx : ∀ cA : ClassId, vp_cell cA x = arrV cA N (fun _ => defaultValue ty)) (hd : decode M.2.1 pc = .ok (.newarray atype, 2)) (hq : pc + 2 = q) (hz : z = (N : Int)) (hN : N ≤ 1000) (hb8 : componentBytes ty ≤ 8) (hw : Cond.arrayClass ty ∈ uw) (hk : c1 + 1 ≤ R.cells) (hn : n1 + N ≤ R.slots)
    (kk : ∀ a, GW γ M R Z Q (c1 + 1) (n1 + N) q L (.ref a :: st) σ ((a, .inl (gc γ t0, x)) :: xs)) : GW γ M R Z Q c1 n1 pc L (.int (zI z) :: st) σ xs := by
  subst hq hty hz
  intro p e s m args below meth c H locs ls C hS hC hG hl
  have hK := C.2.2.2.2.2.2.2.1.2 t0 _ ht
  refine va_newaK (atype := atype) C.1 C.2.1 (C.2.2.2.2.2.1 _ hw) rfl hd rfl ?_ (by rw [zI_clamp (by omega)]; exact Int.toNat_natCast N) ?_ hk hn rfl fun H1 cA e1 z1 o1 hAr hNm => ?_
  · rw [zI_0, zI_lt (by omega) (by omega)]
    omega
  · have : N * componentBytes (newarray.typeOf atype) ≤ 1000 * 8 := Nat.mul_le_mul hN hb8
    omega
  · have hf := hK.2
    rw [hRA] at hf
    have hc : cA = gc γ t0 := Option.some.inj (hNm.symm.trans hf)
    subst hc
    exact kk H.size p e s m args below meth c H1 locs ls C (hS.zcons z1 o1) (hC.cons o1 (by show H1[H.size]? = some (vp_cell _ _); rw [hx]; exact e1)) (hG.cons hC (Nat.le_trans C.2.2.2.2.2.2.2.2.2.1 hS.1)) hl
theorem h_newI {N : Nat} {z : Int} (hd : decode M.2.1 pc = .ok (.newarray .int, 2)) (hq : pc + 2 = q) (hz : z = (N : Int)) (hN : N ≤ 1000) (hw : Cond.arrayClass .int ∈ uw) (hk : c1 + 1 ≤ R.cells) (hn : n1 + N ≤ R.slots)
    (kk : ∀ a, GW γ M R Z Q (c1 + 1) (n1 + N) q L (.ref a :: st) σ ((a, .inl (gc γ 1, (N, .inl (fun _ => zI 0)))) :: xs)) : GW γ M R Z Q c1 n1 pc L (.int (zI z) :: st) σ xs :=
  h_newA (t0 := 1) (ty := .int) rfl rfl (fun _ _ => rfl) (fun _ => rfl) hd hq hz hN (by decide) hw hk hn kk
theorem h_newC {N : Nat} {z : Int} (hd : decode M.2.1 pc = .ok (.newarray .char, 2)) (hq : pc + 2 = q) (hz : z = (N : Int)) (hN : N ≤ 1000) (hw : Cond.arrayClass .char ∈ uw) (hk : c1 + 1 ≤ R.cells) (hn : n1 + N ≤ R.slots)
    (kk : ∀ a, GW γ M R Z Q (c1 + 1) (n1 + N) q L (.ref a :: st) σ ((a, .inl (gc γ 0, (N, .inl (fun _ => zI 0)))) :: xs)) : GW γ M R Z Q c1 n1 pc L (.int (zI z) :: st) σ xs :=
  h_newA (t0 := 0) (ty := .char) rfl rfl (fun _ _ => rfl) (fun _ => rfl) hd hq hz hN (by decide) hw hk hn kk
theorem h_newL {N : Nat} {z : Int} (hd : decode M.2.1 pc = .ok (.newarray .long, 2)) (hq : pc + 2 = q) (hz : z = (N : Int)) (hN : N ≤ 1000) (hw : Cond.arrayClass .long ∈ uw) (hk : c1 + 1 ≤ R.cells) (hn : n1 + N ≤ R.slots)
    (kk : ∀ a, GW γ M R Z Q (c1 + 1) (n1 + N) q L (.ref a :: st) σ ((a, .inl (gc γ 2, (N, .inr (.inl (fun _ => zL 0))))) :: xs)) : GW γ M R Z Q c1 n1 pc L (.int (zI z) :: st) σ xs :=
  h_newA (t0 := 2) (ty := .long) rfl rfl (fun _ _ => rfl) (fun _ => rfl) hd hq hz hN (by decide) hw hk hn kk
theorem h_xist {ix a N : Nat} {f : Nat → Int} {z w : Int} (hx : xs[ix]? = some (a, .inl (gc γ 1, (N, .inl (fun j => zI (f j)))))) (hd : decode M.2.1 pc = .ok (.iastore, 1)) (hq : pc + 1 = q) (hz : 0 ≤ z ∧ z < (N : Int) ∧ z ≤ 2147483647) (kk : GW γ M R Z Q c1 n1 q L st σ (xs.set ix (a, .inl (gc γ 1, (N, .inl (fun j => zI (u1 f z.toNat w j))))))) : GW γ M R Z Q c1 n1 pc L (.int (zI w) :: .int (zI z) :: .ref a :: st) σ xs := by
  subst hq
  intro p e s m args below meth c H locs ls C0 hS hC hG hl
  refine z_iast C0.1 C0.2.1 (hC.2 ix _ hx) (C0.2.2.2.2.2.2.2.1.2 1 _ rfl).1 (zI_in hz.1 hz.2.1 hz.2.2) (g := fun j => zI (u1 f z.toNat w j)) (fun q => ?_) hd (fun H1 w' a1 z1 o1 => ?_)
  · rw [zI_clamp ⟨hz.1, hz.2.2⟩]
    unfold u1
    split <;> rfl
  · exact kk p e s m args below meth c H1 _ ls C0 (hS.zput z1 o1 (hG.2.2.2.1.2 ix _ hx)) (hC.xset hG hx a1 o1) (hG.xset hx) hl
theorem h_oinit {a idx : Nat} (hd : decode M.2.1 pc = .ok (.invokespecial idx, 3)) (hq : pc + 3 = q) (hlink : Cond.methodLink M.1.cls idx Lib.objectInit ∈ uw) (hR : 1 ≤ R.frames ∧ 12 ≤ R.locals) (kk : GW γ M R Z Q c1 n1 q L [] σ xs) : GW γ M R Z Q c1 n1 pc L [.ref a] σ xs := by
  subst hq
  intro p e s m args below meth c H locs ls C hS hC hG hl
  refine W.objInit C.1 C.2.1 C.2.2.2.2.1 (C.2.2.2.2.2.1 _ hlink) (C.2.2.2.2.2.1 _ oi_1) (C.2.2.2.2.2.1 _ oi_2) rfl (by rw [C.2.2.2.1]; exact hl.1) rfl hd hR.1 ?_ ?_
  · show 2 * 0 + 0 + 12 ≤ R.locals
    omega
  · exact kk p e s m args below meth c H locs ls C hS hC hG hl
theorem h_newO {C : String} {T : u_T} {N ci idx : Nat} {fs : List Value} {ty : Nat → FieldType} (hd : decode M.2.1 pc = .ok (.new idx, 3)) (hq : pc + 3 = q) (hw : Cond.classLink M.1.cls idx C ∈ uw ∧ Cond.instantiable C N ∈ uw ∧ Cond.initialized C ∈ uw) (hin : ∀ w ∈ u_ws C T N, w ∈ uw) (hty : ∀ k, k < N → parseFieldDescriptor (T k).2.2.1 = some (ty k)) (hc : vwCl[ci]? = some (C, T, N)) (hfs : ∀ j, j < N → defaultValue (ty j) = vp_V fs j) (hk : c1 + 1 ≤ R.cells ∧ n1 + N ≤ R.slots)
    (kk : ∀ a, GW γ M R Z Q (c1 + 1) (n1 + N) q L (.ref a :: st) σ ((a, .inr (ci, fs)) :: xs)) : GW γ M R Z Q c1 n1 pc L st σ xs := by
  subst hq
  intro p e s m args below meth c H locs ls C0 hS hC hG hl
  have hKn := C0.2.2.2.2.2.2.2.1.1 ci _ hc
  refine W.newcK C0.1 C0.2.1 C0.2.2.2.2.1 (C0.2.2.2.2.2.1 _ hw.1) (C0.2.2.2.2.2.1 _ hw.2.1) (C0.2.2.2.2.2.1 _ hw.2.2) rfl hd hk.1 hk.2 hKn.2.1 rfl fun H1 kC hkC e1 z1 o1 => ?_
  exact kk H.size p e s m args below meth c H1 locs ls C0 (hS.zcons z1 o1) (hC.cons o1 ⟨_, hc, (u_born ty C0.2.2.2.2.2.1 hin hKn hkC e1 hty).to hfs⟩) (hG.cons hC (Nat.le_trans C0.2.2.2.2.2.2.2.2.2.1 hS.1)) hl
theorem h_putF {ix a ci N k idx : Nat} {C : String} {T : u_T} {fs : List Value} {v : Value} {ty0 : Nat → FieldType} {ty : FieldType} (hE : ∀ k i, ¬ gv γ k i) (hN : ∀ args s meth c, Z args s meth c → meth.name = "<init>") (hd : decode M.2.1 pc = .ok (.putfield idx, 3)) (hq : pc + 3 = q) (hx : xs[ix]? = some (a, .inr (ci, fs))) (hf : Cond.fieldLink M.1.cls idx (T k).1 (T k).2.1 (T k).2.2.1 ∈ uw) (hin : ∀ w ∈ u_ws C T N, w ∈ uw) (hty : ∀ k, k < N → parseFieldDescriptor (T k).2.2.1 = some (ty0 k)) (hnm : ∀ a, a < N → ∀ b, b < N → a ≠ b → (T a).2.1 ≠ (T b).2.1) (hc : vwCl[ci]? = some (C, T, N)) (hk : k < N) (hfin : (T k).2.2.2 = true) (hdecl : (T k).1 = M.1.cls) (hdt : parseFieldDescriptor (T k).2.2.1 = some ty) (hn : narrow ty v = v) (hfit : fits ty v = true) (hlen : k < fs.length)
    (kk : GW γ M R Z Q c1 n1 q L st σ (xs.set ix (a, .inr (ci, fs.set k v)))) : GW γ M R Z Q c1 n1 pc L (v :: .ref a :: st) σ xs := by
  subst hq
  intro p e s m args below meth c H locs ls C0 hS hC hG hl
  refine va_putF C0.1 C0.2.1 C0.2.2.2.2.2.1 hin ty0 hty hnm C0.2.2.2.2.1 C0.2.2.2.2.2.2.2.1 hC.2 hG.2.2.2.1 hS ix hx hc k hk (C0.2.2.2.2.2.1 _ hf) (fun x h => h) hfin (hN _ _ _ _ C0.2.2.2.2.2.2.2.2.2.2) hdecl hdt hn hfit hlen hd (fun H1 locs1 hP hD hS1 => ?_)
  exact kk p e s m args below meth c H1 locs1 ls C0 hS1 (Cl.ofP hE hP) (Gok.ofD hE hG.1 hD) hl
theorem h_getX {ix a ci N j idx : Nat} {C : String} {T : u_T} {fs : List Value} {v : Value} (hd : decode M.2.1 pc = .ok (.getfield idx, 3)) (hq : pc + 3 = q) (hx : xs[ix]? = some (a, .inr (ci, fs))) (hf : Cond.fieldLink M.1.cls idx (T j).1 (T j).2.1 (T j).2.2.1 ∈ uw) (hin : ∀ w ∈ u_ws C T N, w ∈ uw) (hc : vwCl[ci]? = some (C, T, N)) (hj : j < N) (hfs : fs[j]? = some v) (kk : GW γ M R Z Q c1 n1 q L (v :: st) σ xs) : GW γ M R Z Q c1 n1 pc L (.ref a :: st) σ xs := by
  subst hq
  intro p e s m args below meth c H locs ls C0 hS hC hG hl
  exact va_get C0.1 C0.2.1 C0.2.2.2.2.2.1 hin C0.2.2.2.2.1 C0.2.2.2.2.2.2.2.1 hC.2 ix hx hc j hj (C0.2.2.2.2.2.1 _ hf) (fun x h => h) hfs hd (kk p e s m args below meth c H locs ls C0 hS hC hG hl)
theorem h_alenX {ix a t0 : Nat} {cA : ClassId} {x : vp_A} {ty : FieldType} {z : Int} (hd : decode M.2.1 pc = .ok (.arraylength, 1)) (hq : pc + 1 = q) (hx : xs[ix]? = some (a, .inl (cA, x))) (ht : (tysG γ)[t0]? = some (cA, ty)) (hz : (x.1 : Int) = z) (kk : GW γ M R Z Q c1 n1 q L (.int (zI z) :: st) σ xs) : GW γ M R Z Q c1 n1 pc L (.ref a :: st) σ xs := by
  subst hq hz
  intro p e s m args below meth c H locs ls C0 hS hC hG hl
  exact va_alen C0.1 C0.2.1 C0.2.2.2.2.2.2.2.1 hC.2 ix t0 hx ht (zI_ofNat x.1) hd (kk p e s m args below meth c H locs ls C0 hS hC hG hl)
theorem h_newQ {N idx : Nat} {z : Int} (hd : decode M.2.1 pc = .ok (.anewarray idx, 3)) (hq : pc + 3 = q) (hw : Cond.classLink M.1.cls idx RX0 ∈ uw) (hz : z = (N : Int)) (hN : N ≤ 1000) (hk : c1 + 1 ≤ R.cells ∧ n1 + N ≤ R.slots)
    (kk : ∀ a, GW γ M R Z Q (c1 + 1) (n1 + N) q L (.ref a :: st) σ ((a, .inl (gc γ 3, (N, .inr (.inr (.inr (.inr (fun _ => none))))))) :: xs)) : GW γ M R Z Q c1 n1 pc L (.int (zI z) :: st) σ xs := by
  subst hq hz
  intro p e s m args below meth c H locs ls C hS hC hG hl
  have hK := C.2.2.2.2.2.2.2.1.2 3 _ rfl
  have hB := C.2.2.2.2.2.2.2.2.1
  refine W.anew C.1 C.2.1 C.2.2.2.2.1 (C.2.2.2.2.2.1 _ hw) (va_AO.use hB.2.2.2.2.2.2.2) rfl hd rfl ?_ ?_ hk.1 (by rw [zI_clamp (by omega)]; exact hk.2) fun cA kA comp f1 f2 f3 f4 => ?_
  · rw [zI_0, zI_lt (by omega) (by omega)]
    omega
  · rw [zI_clamp (by omega)]
    have : ((N : Int)).toNat = N := Int.toNat_natCast N
    omega
  rw [zI_clamp (by omega)]
  rw [show ((N : Int)).toNat = N from Int.toNat_natCast N]
  obtain ⟨-, kA', comp', -, -, -, hf⟩ := hK
  have hc : cA = gc γ 3 := Option.some.inj (f1.symm.trans hf)
  subst hc
  generalize hH1 : H.push ({ cls := gc γ 3, slots := Array.replicate N .null, vm := .none } : Cell) = H1
  have z1 : H1.size = H.size + 1 := by rw [← hH1, Array.size_push]
  have e1 : H1[H.size]? = some (arrV (gc γ 3) N (fun _ => .null)) := by rw [← hH1, Array.getElem?_push_size, ← arrV_new]
  have o1 : ∀ q : Nat, q < H.size → H1[q]? = H[q]? := fun q hq => by rw [← hH1, Array.getElem?_push, if_neg (Nat.ne_of_lt hq)]
  exact kk H.size p e s m args below meth c H1 locs ls C (hS.zcons z1 o1) (hC.cons o1 e1) (hG.cons hC (Nat.le_trans C.2.2.2.2.2.2.2.2.2.1 hS.1)) hl
theorem h_astX {ix jx a b : Nat} {N : Nat} {vs : List Value} {f : Nat → Option Nat} {z : Int} (hE : ∀ k i, ¬ gv γ k i) (hd : decode M.2.1 pc = .ok (.aastore, 1)) (hq : pc + 1 = q) (hx : xs[ix]? = some (a, .inl (gc γ 3, (N, .inr (.inr (.inr (.inr f))))))) (hv : xs[jx]? = some (b, .inr (0, vs))) (hz : 0 ≤ z ∧ z < (N : Int) ∧ z ≤ 2147483647)
    (kk : GW γ M R Z Q c1 n1 q L st σ (xs.set ix (a, .inl (gc γ 3, (N, .inr (.inr (.inr (.inr (va_up f z.toNat (some b))))))))))  : GW γ M R Z Q c1 n1 pc L (.ref b :: .int (zI z) :: .ref a :: st) σ xs := by
  subst hq
  intro p e s m args below meth c H locs ls C0 hS hC hG hl
  refine va_astq C0.1 C0.2.1 C0.2.2.2.2.2.2.2.1 hC.2 hG.2.2.2.1 hS ix 3 jx 0 hx rfl hv rfl (zI_in hz.1 hz.2.1 hz.2.2) hd (fun H1 locs1 hP hD hS1 => ?_)
  rw [zI_clamp ⟨hz.1, hz.2.2⟩] at hP hD
  exact kk p e s m args below meth c H1 locs1 ls C0 hS1 (Cl.ofP hE hP) (Gok.ofD hE hG.1 hD) hl
/-- behind a call that cannot throw -/
theorem GW.backI {ky ny : Nat} {a9 : Array Value} {st0 : List Value} {Qr2 : Option Value → St → va_W → Prop}
    (kr : ∀ (v : Option Value) (σ' : St) (xs' : va_W), Qr2 v σ' xs' → GW γ M R Z Q (c1 + ky) (n1 + ny) (pc + 3) L (v.toList ++ st) σ' xs')
    (hr : ∀ (p : Program) (e : Env) (s : State) (m : MethodId) (args : Array Value) (below : List Frame) (meth : Method) (c : Code) (H : Heap) (locs : List Loc) (ls : Array Slot), CxG γ M Z p s m args meth c → va_S (fr γ) s.heap H locs → Cl γ σ xs H → Gok γ xs → Lc ls M.2.2.1 L →
      va_Run p (gl γ) e R s m args below meth c H locs c1 n1 ky ny (F0 m pc ls st0) st (QcOf γ Qr2 a9) (fr γ)) :
    GW γ M R Z Q c1 n1 pc L st0 σ xs := by
  intro p e s m args below meth c H locs ls C hS hC hG hl T hT X
  obtain ⟨v, st₀, t, T', L9, h0, X', hL, e1, e2, ⟨v', σ', xs', hv, hq, hc', hg', hF⟩, stp⟩ := hr p e s m args below meth c H locs ls C hS hC hG hl T hT X
  cases hv
  obtain ⟨k1, k2, k3⟩ := vx_keep h0 e1 hS (fun q _ h => h) (fun q h => h) hL hF
  obtain ⟨t2, a1, b1⟩ := kr v σ' xs' hq p e s m args below meth c T'.heap (locs ++ L9) ls C k3 (by rw [e1]; exact hc') hg' hl T' rfl X'
  exact ⟨t2, stp t2 a1, b1⟩
/-- the contract of a constructor -/
def EvI (γ : Gm) (M : Md) (d k n : Nat) (a : Nat) (σ : St) (xs : va_W) (Qr : va_W → Prop) : Prop :=
  Met (gl γ) M.1 (uM M) (rmL d k n) (va_Pc [.ref a] (PrI γ σ xs)) (QcOf γ (fun v s x => v = none ∧ s = σ ∧ Qr x)) k n (fr γ)
def ZI (M : Md) : Array Value → State → Method → Code → Prop := fun _ s meth _ => meth.name = M.1.name ∧ Nst s
def HI (γ : Gm) (σ : St) (Qr : va_W → Prop) (k n : Nat) : List Frame → Array Value → State → State → Prop := fun below args s => MQ below (QcOf γ (fun v s x => v = none ∧ s = σ ∧ Qr x)) args s k n (fr γ)
theorem EvI.of {d k n a : Nat} {Qr : va_W → Prop} (j : Nat) (L : List (Option Value)) (hL : L = [.ref a].map some ++ List.replicate j none) (hy : plainName M.1.cls = true) (hlen : 1 ≤ M.2.2.1) (body : GW γ M (rmL d k n) (ZI M) (HI γ σ Qr k n) 0 0 0 L [] σ xs) : EvI γ M d k n a σ xs Qr := by
  refine Met.ofW (cc := M.2.1) (maxL := M.2.2.1) (ret := M.2.2.2) hy rfl ?_
  intro p e s m args below meth c s₁ B hml hv
  obtain ⟨rfl, ⟨h1, h2, h3, h4, h5⟩, h6⟩ := hv
  have hts := atoms_spec (ws := uM M) B.pre
  rw [lg_entry_eq]
  exact body p e s m _ below meth c s.heap [] _ ⟨B.exec, B.bytes, B.returns, hml, findClass_of_methodNamed B.named, fun w hw => hts w (List.mem_cons_of_mem _ hw), B.notSynchronized, h3, h2, h1, (name_of_methodNamed B.named B.method).1, h6⟩ va_S.rf h4 h5 (Lc.entry [.ref a] hlen (by subst hL; exact args1 rfl))
theorem h_retI {d k n : Nat} {Qr : va_W → Prop} (hd : decode M.2.1 pc = .ok (.return_, 1)) (hI : Iok M) (hk : c1 ≤ k) (hn : n1 ≤ n) (hQ : Qr xs) : GW γ M (rmL d k n) (ZI M) (HI γ σ Qr k n) c1 n1 pc L [] σ xs := by
  intro p e s m args below meth c H locs ls C hS hC hG hl
  exact W.widen hk hn (W.vret C.1 C.2.1 (C.2.2.1.trans hI.2.2.2.2.2) (fun t ht hW => ⟨none, σ, xs, rfl, ⟨rfl, rfl, hQ⟩, by rw [ht]; exact hC, hG, hS.F ht⟩) hS.2.2 hd C.2.2.2.2.2.2.1)
theorem PrI_of {p : Program} {s : State} {m : MethodId} {args : Array Value} {meth : Method} {c : Code} {H : Heap} {locs : List Loc} {av : List Value} (hZ : ∀ args s meth c, Z args s meth c → Nst s) (C : CxG γ M Z p s m args meth c) (hS : va_S (fr γ) s.heap H locs) (hC : Cl γ σ xs H) (hG : Gok γ xs) {U : State} (hU : U.heap = H) (hW : s.WarmedH U.vm) : va_Pc av (PrI γ σ xs) av.toArray U := by
  obtain ⟨k1, k2⟩ := Pr_ofG (av := av) C hS hC hG hU hW
  exact ⟨k1, k2, (hZ _ _ _ _ C.2.2.2.2.2.2.2.2.2.2).warm hW⟩
theorem h_callI {My : Md} {dy ky ny idx a : Nat} {Qr : va_W → Prop} (hZ : ∀ args s meth c, Z args s meth c → Nst s) (hd : decode M.2.1 pc = .ok (.invokespecial idx, 3)) (hq : pc + 3 = q) (hlink : Cond.methodLink M.1.cls idx My.1 ∈ uw) (hV : Iok My) (hE : EvI γ My dy ky ny a σ xs Qr) (hR : dy + 1 ≤ R.frames ∧ 8 + (My.2.2.1 + 11) + 30 * dy ≤ R.locals) (hk : c1 + ky ≤ R.cells ∧ n1 + ny ≤ R.slots) (hroom : (st.map fun v => v.category).sum ≤ 8)
    (kk : ∀ xs', Qr xs' → GW γ M R Z Q (c1 + ky) (n1 + ny) q L st σ xs') : GW γ M R Z Q c1 n1 pc L (.ref a :: st) σ xs := by
  subst hq
  obtain ⟨y, b9, nl, rt⟩ := My
  obtain ⟨v1, v2, v3, v4, v5, v6⟩ := hV
  cases v6
  refine GW.backI (ky := ky) (ny := ny) (a9 := #[Value.ref a]) (st := st) (Qr2 := fun v s x => v = none ∧ s = σ ∧ Qr x) (fun v σ' xs' hQ => by obtain ⟨rfl, rfl, hx⟩ := hQ; exact kk xs' hx) ?_
  intro p e s m args below meth c H locs ls C hS hC hG hl
  exact va_runI (Ts := uw) (own := M.1.cls) (nL := M.2.2.1) (cc := M.2.1) (As := []) (n := 0) ⟨C.1, C.2.1, C.2.2.2.1, C.2.2.2.2.1, C.2.2.2.2.2.1⟩ hE (cwI 0 C.2.2.2.2.2.1 (uw_sub (uM_uw v3)) rfl rfl rfl (C.2.2.2.2.2.1 _ v2) (C.2.2.2.2.2.1 _ hlink) (C.2.2.2.2.2.1 _ v1) v5 v4 hR) ⟨FrameBlind_PrI γ _ σ xs, fun U hU hW => PrI_of hZ C hS hC hG hU hW⟩ rfl rfl hl.1 rfl (lv_room hroom) hd hk
theorem h_callN {My : Md} {dy ky ny idx a : Nat} {Qr : va_W → Prop} (hZ : ∀ args s meth c, Z args s meth c → Nst s) (hd : decode M.2.1 pc = .ok (.invokespecial idx, 3)) (hq : pc + 3 = q) (hlink : ∀ s, Nst s → va_Nw (.methodLinkNest M.1.cls idx My.1 RX4) s) (hV : Iok My) (hE : EvI γ My dy ky ny a σ xs Qr) (hR : dy + 1 ≤ R.frames ∧ 8 + (My.2.2.1 + 11) + 30 * dy ≤ R.locals) (hk : c1 + ky ≤ R.cells ∧ n1 + ny ≤ R.slots) (hroom : (st.map fun v => v.category).sum ≤ 8)
    (kk : ∀ xs', Qr xs' → GW γ M R Z Q (c1 + ky) (n1 + ny) q L st σ xs') : GW γ M R Z Q c1 n1 pc L (.ref a :: st) σ xs := by
  subst hq
  obtain ⟨y, b9, nl, rt⟩ := My
  obtain ⟨v1, v2, v3, v4, v5, v6⟩ := hV
  cases v6
  refine GW.backI (ky := ky) (ny := ny) (a9 := #[Value.ref a]) (st := st) (Qr2 := fun v s x => v = none ∧ s = σ ∧ Qr x) (fun v σ' xs' hQ => by obtain ⟨rfl, rfl, hx⟩ := hQ; exact kk xs' hx) ?_
  intro p e s m args below meth c H locs ls C hS hC hG hl
  exact va_runIN (Ts := uw) (own := M.1.cls) (host := RX4) (nL := M.2.2.1) (cc := M.2.1) (As := []) (n := 0) ⟨C.1, C.2.1, C.2.2.2.1, C.2.2.2.2.1, C.2.2.2.2.2.1⟩ hE ⟨va_cnB 0 C.2.2.2.2.2.1 (uw_sub (uM_uw v3)) rfl rfl rfl (hlink s (hZ _ _ _ _ C.2.2.2.2.2.2.2.2.2.2)) (C.2.2.2.2.2.1 _ v2) v4 hR, v5, C.2.2.2.2.2.1 _ v1⟩ ⟨FrameBlind_PrI γ _ σ xs, fun U hU hW => PrI_of hZ C hS hC hG hU hW⟩ rfl rfl hl.1 rfl (lv_room hroom) hd hk
/-- worlds switched: from all beside to some in the world -/
theorem GW.sw {a : Nat → Nat → Nat} {v : Nat → Nat → Prop} {σ' : St} {ys : va_W} (hP : ∀ H, va_P (gD γ) vwCl xs H → Cl (wg γ a v) σ' ys H) (hD : va_D (fr γ) xs → (gl γ).stackTraces = false → Gok (wg γ a v) ys) (kk : va_D (fr γ) xs → GW (wg γ a v) M R Z Q c1 n1 pc L st σ' ys) : GW (em γ) M R Z Q c1 n1 pc L st σ xs := by
  intro p e s m args below meth c H locs ls C hS hC hG hl
  exact kk hG.2.2.2.1 p e s m args below meth c H locs ls C hS (hP H hC.2) (hD hG.2.2.2.1 hG.1) hl
/-- and back -/
theorem GW.ws {a : Nat → Nat → Nat} {v : Nat → Nat → Prop} {σ' : St} {ys : va_W} (hP : ∀ H, Cl (wg γ a v) σ' ys H → va_P (gD γ) vwCl xs H) (hD : va_D (fr γ) xs) (kk : GW (em γ) M R Z Q c1 n1 pc L st σ xs) : GW (wg γ a v) M R Z Q c1 n1 pc L st σ' ys := by
  intro p e s m args below meth c H locs ls C hS hC hG hl
  exact kk p e s m args below meth c H locs ls C hS ⟨fun k i h => h.elim, hP H hC⟩ ⟨hG.1, fun k i _ _ h => h.elim, fun k i h => h.elim, hD, fun k i h => h.elim, fun k i h => h.elim⟩ hl
/-- less asked of the start -/
theorem GW.zm {Z' : Array Value → State → Method → Code → Prop} (hz : ∀ args s meth c, Z' args s meth c → Z args s meth c) (kk : GW γ M R Z Q c1 n1 pc L st σ xs) : GW γ M R Z' Q c1 n1 pc L st σ xs := by
  intro p e s m args below meth c H locs ls C hS hC hG hl
  obtain ⟨d1, d2, d3, d4, d5, d6, d7, d8, d9, d10, d11⟩ := C
  exact kk p e s m args below meth c H locs ls ⟨d1, d2, d3, d4, d5, d6, d7, d8, d9, d10, hz _ _ _ _ d11⟩ hS hC hG hl
end MK
theorem ZI.n {M : Md} : ∀ args s meth c, ZI M args s meth c → Nst s := fun _ _ _ _ h => h.2
theorem ZI.i {M : Md} (hm : M.1.name = "<init>") : ∀ args s meth c, ZI M args s meth c → meth.name = "<init>" := fun _ _ _ _ h => h.1.trans hm
theorem va_P.cs {D : va_G} {cl : List vw_C} {x : Nat × va_E} {xs : va_W} {H : Heap} (h1 : va_at D cl x H) (h2 : va_P D cl xs H) : va_P D cl (x :: xs) H := fun k q hq => by
  cases k with
  | zero => cases hq; exact h1
  | succ k => exact h2 k q hq
theorem va_P.tl {D : va_G} {cl : List vw_C} {x : Nat × va_E} {xs : va_W} {H : Heap} (h : va_P D cl (x :: xs) H) : va_P D cl xs H := fun k q hq => h (k + 1) q hq
theorem va_D.al {A : Nat → Prop} : ∀ {xs ys : va_W}, xs.map (·.1) = ys.map (·.1) → va_D A xs → va_D A ys := by
  intro xs ys h hD
  have key : ∀ (k : Nat) (q : Nat × va_E), ys[k]? = some q → ∃ q', xs[k]? = some q' ∧ q'.1 = q.1 := by
    intro k q hq
    have e1 : (ys.map (·.1))[k]? = some q.1 := by rw [List.getElem?_map, hq]; rfl
    rw [← h, List.getElem?_map] at e1
    cases hx : xs[k]? with
    | none => rw [hx] at e1; cases e1
    | some q' => rw [hx] at e1; exact ⟨q', rfl, Option.some.inj e1⟩
  refine ⟨fun i j p q hp hq he => ?_, fun k q hq => ?_⟩
  · obtain ⟨p', a1, a2⟩ := key i p hp
    obtain ⟨q', b1, b2⟩ := key j q hq
    exact hD.1 i j p' q' a1 b1 (by rw [a2, b2]; exact he)
  · obtain ⟨q', b1, b2⟩ := key k q hq
    rw [← b2]
    exact hD.2 k q' b1
theorem em_E (γ : Gm) : ∀ k i, ¬ gv (em γ) k i := fun _ _ h => h
