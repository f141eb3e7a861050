/-! THE CLAIM OUT OF ONE WALK OF THE LAW'S BODY. Your part is whole_start (and what it stands on); all else here is the same for every law, but numbers. -/
def R_law : String := "LinkloomLaw"
def lw_P (b : Addr) (xs : List Int32) (args : Array Value) (s : State) : Prop := args = #[.ref b] ∧ s.IntsAt b xs ∧ xs.length ≤ 2048 ∧ (Jvm.Cond.and given_1 narrow_1).before args s = true
def lw_Q (_ : Array Value) (s : State) (o : Outcome) (t : State) : Prop := o = .returned (some (.int 1)) ∧ Framed s o t [] 601024 7293034
def lw_Z (below : List Frame) (a : Array Value) (s : State) : State → Prop := fun t => ∃ o, t.status = .running ∧ Ended t below o ∧ lw_Q a s o t
/-- the law's own end, with 1 on the stack, nothing written that was there before, its room as the claim has it -/
theorem lw_ret {p : Program} {l : Launch} {e : Env} {s : State} {m : MethodId} {below : List Frame} {meth : Method} {c : Code} {b : Nat} (hx : p.tables.exec = Jvm.exec) (hb : c.code = code) (hr : meth.sig.returnType = ret) (hlocks : meth.locks = false) {pc : Nat} {H : Heap} {ls : Array Slot} (hdg : decode code pc = .ok (.ireturn, 1)) : W p l e room_1 s m #[Value.ref b] below meth c H [] 601024 7293034 (lw_Z below #[Value.ref b] s) (F0 m pc ls [.int 1]) := by
  intro T hT X
  obtain ⟨fs, hret, hrun, hended, hW, hframe⟩ := X.leave (v := some (.int 1)) (hlocks := hlocks) (fun h => by rw [hr] at h; cases h)
  have hmeth' : T.vm.method? m = some meth := X.method'
  refine ⟨T.setFrames fs, ?_, .returned (some (.int 1)), hrun, hended, rfl, ⟨_, rfl⟩, hW, hframe⟩
  jvm_step X.here [X.here.top, hx, hb, hdg, hmeth', hr, ret, narrow_b1]
  (try refine ⟨rfl, ?_⟩); (try refine ⟨rfl, ?_⟩)
  first | (intro acts; rw [hret _ acts rfl rfl rfl]) | rw [hret _ _ rfl rfl rfl]
  exact Steps.refl _
/-- what holds at the law's entry: the machine, the code, the tables' words (any of lw_tbl by 'hts w (by decide +kernel)'), the script of L ints xs at the cell b, what the Statement gives of the start (any of its parts by flat_of_before) -/
def lw_At (p : Program) (s : State) (m : MethodId) (meth : Method) (c : Code) (b L : Nat) (xs : Nat → Int32) : Prop :=
  p.tables.exec = Jvm.exec ∧ c.code = code ∧ meth.sig.returnType = ret ∧ c.maxLocals = 7 ∧ s.vm.findClass R_law = some m.cls ∧ (∀ w ∈ lw_tbl, w.before #[Value.ref b] s = true) ∧ va_X b L xs s s.heap ∧ b < s.heap.size ∧ meth.locks = false ∧ (Jvm.Cond.and given_1 narrow_1).before #[Value.ref b] s = true
/-! THE LAW: its start -/
theorem lw_exit {γ : Gm} {b Ln c1 n1 : Nat} {X : Nat → Int32} {i : Int} {σ : St} {xs : va_W} (h1 : c1 ≤ 601024) (h2 : n1 ≤ 7293034) : GW γ mLaw room_1 (ZL γ b Ln X) (fun below args s => lw_Z below args s) c1 n1 1491 (LL γ b i none none) [] σ xs := by
  refine h_iconst (q := 1492) dL_law_1491 rfl ?_
  intro p e s m args below meth c H locs ls C hS hC hG hl
  obtain ⟨z1, z2, z3, z4, rfl, z6⟩ := C.2.2.2.2.2.2.2.2.2.2
  refine va_forget (fun q hq => by rw [← z4]; exact hS.2.2 q hq) ?_
  rw [show zI 1 = (1 : Int32) by decide]
  exact W.widen h1 h2 (lw_ret C.1 C.2.1 C.2.2.1 C.2.2.2.2.2.2.1 dL_law_1492)
theorem ZL.n {γ : Gm} {b Ln : Nat} {X : Nat → Int32} : ∀ args s meth c, ZL γ b Ln X args s meth c → Nst s := fun _ _ _ _ h => h.2.2.2.2.2
theorem inv_0 : Inv (zS (-1)) := by
  have hT : ∀ p : Int, mT (zS (-1)) p = 0 := fun p => by
    unfold mT
    split <;> rfl
  have a1 : (0 : Int) ≤ 0 ∧ (0 : Int) ≤ 128 := by decide
  have a2 : (-1 : Int) ≤ -1 ∧ (-1 : Int) ≤ 128 := by decide
  have a3 : (-1 : Int) ≤ -1 ∧ (-1 : Int) ≤ 2147483647 := by decide
  have a4 : (-1 : Int) ≤ 0 ∧ (0 : Int) ≤ 128 := by decide
  have c1 : (0 : Int) ≤ 0 ∧ (0 : Int) ≤ 60 := by decide
  have c2 : (0 : Int) ≤ 0 ∧ (0 : Int) < 65536 := by decide
  have c3 : (0 : Int) ≤ 0 ∧ (0 : Int) ≤ 3 := by decide
  have c4 : (-1 : Int) ≤ -1 ∧ (-1 : Int) ≤ 60 := by decide
  have c5 : (-1 : Int) ≤ 0 ∧ (0 : Int) ≤ 60 := by decide
  have c6 : (-1 : Int) ≤ 0 ∧ (0 : Int) ≤ 2147483647 := by decide
  have c7 : (0 : Int) ≤ 0 ∧ (0 : Int) ≤ 2147483647 := by decide
  refine ⟨⟨fun i => a1, fun j k => a2, fun j k => a2, fun j => a3, a4⟩, fun j k _ => ⟨rfl, rfl⟩, ⟨c1, fun j => c2, c1, fun j => c3, fun j => c2, fun j => c4, fun j => c5, fun j => c5, fun j => c6, fun j => c5, fun j => c5, c6, c7⟩, ⟨rfl, ?_, ⟨rfl, fun p h => absurd ((hT p).symm.trans h) (by decide), by decide, by decide⟩⟩, fun j _ => Or.inr ⟨rfl, rfl⟩, rfl, fun h => absurd rfl h⟩
  funext p
  rw [hT p]
  unfold pAt
  split <;> rfl
def ivL : List (Nat × Nat) := [(18, 0), (17, 0), (16, 0), (15, 0), (14, 0), (13, 0), (12, 0), (11, 0), (10, 0), (9, 0), (8, 0), (4, 3), (3, 3), (1, 3), (0, 3), (2, 3), (4, 2), (3, 2), (1, 2), (0, 2), (2, 2), (4, 1), (3, 1), (1, 1), (0, 1), (2, 1), (4, 0), (3, 0), (1, 0), (0, 0), (2, 0), (7, 0), (4, 4), (3, 4), (1, 4), (0, 4), (2, 4), (5, 0), (1, 6), (0, 6), (1, 5), (0, 5), (6, 0)]
def ixT : List (List Nat) := [[29, 24, 19, 14, 35, 41, 39], [28, 23, 18, 13, 34, 40, 38], [30, 25, 20, 15, 36], [27, 22, 17, 12, 33], [26, 21, 16, 11, 32], [37], [42], [31], [10], [9], [8], [7], [6], [5], [4], [3], [2], [1], [0]]
def ixW (k i : Nat) : Nat := (ixT.getD k []).getD i 0
def gaW (AL : List Nat) : Nat → Nat → Nat := fun k i => AL.getD (ixW k i) 0
def gvW : Nat → Nat → Prop := fun k i => vK k i = true
theorem iv_ix : ∀ k, k < 19 → ∀ i, i < 7 → vK k i = true → ivL[ixW k i]? = some (k, i) := by decide +kernel
theorem vK_b {k i : Nat} (h : vK k i = true) : k < 19 ∧ i < 7 := by
  unfold vK at h
  split at h <;> simp at h <;> omega
def fW (γ : Gm) (AL : List Nat) (q : Nat × Nat) : Nat × va_E := (gaW AL q.1 q.2, ct (wg γ (gaW AL) gvW) (zS (-1)) q.1 q.2)
theorem sw_full {γ : Gm} {M : Md} {R : Room} {Z : Array Value → State → Method → Code → Prop} {Q : List Frame → Array Value → State → State → Prop} {c1 n1 pc : Nat} {L : List (Option Value)} {st : List Value} {σ : St} {xs : va_W} (AL : List Nat) (hA : xs.map (·.1) = (ivL.map (fW γ AL)).map (·.1)) (hP : ∀ H, va_P (gD γ) vwCl xs H → va_P (gD γ) vwCl (ivL.map (fW γ AL)) H) (kk : GW (wg γ (gaW AL) gvW) M R Z Q c1 n1 pc L st (zS (-1)) []) : GW (em γ) M R Z Q c1 n1 pc L st σ xs := by
  have key : ∀ k i, vK k i = true → (ivL.map (fW γ AL))[ixW k i]? = some (fW γ AL (k, i)) := fun k i hv => by
    have hb := vK_b hv
    rw [List.getElem?_map, iv_ix k hb.1 i hb.2 hv]
    rfl
  refine GW.sw (a := gaW AL) (v := gvW) (σ' := zS (-1)) (ys := []) (fun H h => ?_) (fun hD h0 => ?_) (fun _ => kk)
  · exact ⟨fun k i hv => hP H h _ _ (key k i hv), fun k q hq => absurd hq (by simp)⟩
  · have hD' : va_D (fr γ) (ivL.map (fW γ AL)) := va_D.al hA hD
    refine ⟨h0, fun k i k' i' h1 h2 he => ?_, fun k i h1 => hD'.2 _ _ (key k i h1), ⟨fun i j p q hp => absurd hp (by simp), fun k q hq => absurd hq (by simp)⟩, fun k i _ q hq => absurd hq (by simp), fun k i h => h⟩
    have hx := hD'.1 _ _ _ _ (key k i h1) (key k' i' h2) he
    have b1 := vK_b h1
    have b2 := vK_b h2
    have e1 := iv_ix k b1.1 i b1.2 h1
    rw [hx, iv_ix k' b2.1 i' b2.2 h2] at e1
    cases e1
    exact ⟨rfl, rfl⟩
set_option maxRecDepth 100000 in
set_option maxHeartbeats 4000000 in
theorem lw_go {γ : Gm} {b Ln : Nat} {X : Nat → Int32} (hLn : Ln ≤ 2048) : GW (em γ) mLaw room_1 (ZL (em γ) b Ln X) (fun below args s => lw_Z below args s) 0 0 0 [some (.ref b), none, none, none, none, none, none] [] (zS (-1)) [] := by
  refine h_newO (q := 3) (C := RX4) (T := TX4) (N := 6) (ci := 3) (fs := [.null, .null, .null, .null, .int (zI 0), .int (zI 0)]) dL_law_0 rfl ⟨nw_L4.1, nw_L4.2, iok_X4.2.1⟩ uin_X4 tyX4_ok rfl (fun j hj => by rcases (show j = 0 ∨ j = 1 ∨ j = 2 ∨ j = 3 ∨ j = 4 ∨ j = 5 by omega) with rfl | rfl | rfl | rfl | rfl | rfl <;> rfl) ⟨(Nat.le_of_ble_eq_true rfl), (Nat.le_of_ble_eq_true rfl)⟩ (fun x => ?_)
  refine h_dup (q := 4) dL_law_3 rfl rfl ?_
  refine h_callI (My := mX4_init) (q := 7) ZL.n dL_law_4 rfl kL_90 iok_X4 i_loom ⟨(Nat.le_of_ble_eq_true rfl), (Nat.le_of_ble_eq_true rfl)⟩ ⟨(Nat.le_of_ble_eq_true rfl), (Nat.le_of_ble_eq_true rfl)⟩ (Nat.le_of_ble_eq_true rfl) (fun w hw => ?_)
  obtain ⟨t1, s1, t2, s2, c, p, t, s, b9, e, r, p0, t0, z0, b0, e0, p1, y1, z1, b1, e1, p2, y2, z2, b2, e2, p3, y3, z3, b3, e3, rfl⟩ := hw
  refine h_astore_n (q := 8) dL_law_7 rfl (Nat.le_of_ble_eq_true rfl) (Lst.setL rfl rfl) ?_
  refine h_newO (q := 11) (C := RX5) (T := TX5) (N := 15) (ci := 4) (fs := [.null, .int (zI 0), .null, .int (zI 0), .null, .null, .null, .null, .null, .null, .null, .int (zI 0), .int (zI 0), .int (zI 0), .int (zI 0)]) dL_law_8 rfl ⟨nw_L5.1, nw_L5.2, iok_X5.2.1⟩ uin_X5 tyX5_ok rfl (fun j hj => by rcases (show j = 0 ∨ j = 1 ∨ j = 2 ∨ j = 3 ∨ j = 4 ∨ j = 5 ∨ j = 6 ∨ j = 7 ∨ j = 8 ∨ j = 9 ∨ j = 10 ∨ j = 11 ∨ j = 12 ∨ j = 13 ∨ j = 14 by omega) with rfl | rfl | rfl | rfl | rfl | rfl | rfl | rfl | rfl | rfl | rfl | rfl | rfl | rfl | rfl <;> rfl) ⟨(Nat.le_of_ble_eq_true rfl), (Nat.le_of_ble_eq_true rfl)⟩ (fun y => ?_)
  refine h_dup (q := 12) dL_law_11 rfl rfl ?_
  refine h_callI (My := mX5_init) (q := 15) ZL.n dL_law_12 rfl kL_93 iok_X5 i_model ⟨(Nat.le_of_ble_eq_true rfl), (Nat.le_of_ble_eq_true rfl)⟩ ⟨(Nat.le_of_ble_eq_true rfl), (Nat.le_of_ble_eq_true rfl)⟩ (Nat.le_of_ble_eq_true rfl) (fun w hw => ?_)
  obtain ⟨v9, v10, v11, v12, v13, v14, v15, v16, v17, rfl⟩ := hw
  refine h_astore_n (q := 16) dL_law_15 rfl (Nat.le_of_ble_eq_true rfl) (Lst.setL rfl rfl) ?_
  refine h_iconst (q := 17) dL_law_16 rfl ?_
  refine h_newL (q := 19) (N := 1) dL_law_17 rfl rfl (by decide) ac_L (Nat.le_of_ble_eq_true rfl) (Nat.le_of_ble_eq_true rfl) (fun o => ?_)
  refine h_astore_n (q := 20) dL_law_19 rfl (Nat.le_of_ble_eq_true rfl) (Lst.setL rfl rfl) ?_
  refine h_iconst (q := 21) dL_law_20 rfl ?_
  refine h_istore (q := 23) dL_law_21 rfl (Nat.le_of_ble_eq_true rfl) (Lst.setL rfl rfl) ?_
  refine sw_full [o, v17, v16, v15, v14, v13, v12, v11, v10, v9, y, e3, b3, z3, y3, p3, e2, b2, z2, y2, p2, e1, b1, z1, y1, p1, e0, b0, z0, t0, p0, r, e, b9, s, t, p, c, s2, t2, s1, t1, x] rfl (fun H h => ?_) ?_
  · exact (va_P.cs (h 0 _ rfl) (va_P.cs (h 1 _ rfl) (va_P.cs (h 2 _ rfl) (va_P.cs (h 3 _ rfl) (va_P.cs (h 4 _ rfl) (va_P.cs (h 5 _ rfl) (va_P.cs (at_i (h 6 _ rfl) (fun j hj => by rcases (show j = 0 ∨ j = 1 ∨ j = 2 ∨ j = 3 by omega) with rfl | rfl | rfl | rfl <;> rfl)) (va_P.cs (h 7 _ rfl) (va_P.cs (h 8 _ rfl) (va_P.cs (h 9 _ rfl) (va_P.cs (h 10 _ rfl) (va_P.cs (h 11 _ rfl) (va_P.cs (h 12 _ rfl) (va_P.cs (h 13 _ rfl) (va_P.cs (h 14 _ rfl) (va_P.cs (h 15 _ rfl) (va_P.cs (h 16 _ rfl) (va_P.cs (h 17 _ rfl) (va_P.cs (h 18 _ rfl) (va_P.cs (h 19 _ rfl) (va_P.cs (h 20 _ rfl) (va_P.cs (h 21 _ rfl) (va_P.cs (h 22 _ rfl) (va_P.cs (h 23 _ rfl) (va_P.cs (h 24 _ rfl) (va_P.cs (h 25 _ rfl) (va_P.cs (h 26 _ rfl) (va_P.cs (h 27 _ rfl) (va_P.cs (h 28 _ rfl) (va_P.cs (h 29 _ rfl) (va_P.cs (h 30 _ rfl) (va_P.cs (at_q (h 31 _ rfl) (fun j hj => by rcases (show j = 0 ∨ j = 1 ∨ j = 2 ∨ j = 3 by omega) with rfl | rfl | rfl | rfl <;> rfl)) (va_P.cs (h 32 _ rfl) (va_P.cs (h 33 _ rfl) (va_P.cs (h 34 _ rfl) (va_P.cs (h 35 _ rfl) (va_P.cs (h 36 _ rfl) (va_P.cs (h 37 _ rfl) (va_P.cs (h 38 _ rfl) (va_P.cs (h 39 _ rfl) (va_P.cs (h 40 _ rfl) (va_P.cs (h 41 _ rfl) (va_P.cs (h 42 _ rfl) (fun k q hq => absurd hq (by simp)))))))))))))))))))))))))))))))))))))))))))))
  · exact GW.zm (fun _ _ _ _ h => h) (lp_go (γ := wg γ (gaW [o, v17, v16, v15, v14, v13, v12, v11, v10, v9, y, e3, b3, z3, y3, p3, e2, b2, z2, y2, p2, e1, b1, z1, y1, p1, e0, b0, z0, t0, p0, r, e, b9, s, t, p, c, s2, t2, s1, t1, x]) gvW) (fun k i h => h) hLn (fun c1 n1 i σ h1 h2 _ => lw_exit h1 h2) 512 _ _ 0 (zS (-1)) (by decide) (by decide) (by omega) (by decide) (Nat.le_of_ble_eq_true rfl) (Nat.le_of_ble_eq_true rfl) inv_0)
