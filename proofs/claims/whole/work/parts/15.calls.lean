/-! ROWS: returns, calls, throws, constants -/
section CALLS
variable {γ : Gm} {M : Md} {d k n : Nat} {Qr : Option Value → St → va_W → Prop} {Qx : String → St → va_W → Prop} {c1 n1 pc q : Nat} {L : List (Option Value)} {st : List Value} {σ : St} {xs : va_W}
theorem r_reti {v : Int32} (hd : decode M.2.1 pc = .ok (.ireturn, 1)) (hr : M.2.2.2 = some .int) (hk : c1 ≤ k) (hn : n1 ≤ n) (hQ : Qr (some (.int v)) σ xs) : RW γ M d k n Qr Qx c1 n1 pc L [.int v] σ xs := by
  intro p e s m args below meth c H locs ls C hS hC hG hl
  exact W.widen hk hn (vx_ret (W.iret C.1 C.2.1 (C.2.2.1.trans hr) (fun t ht hW => ⟨_, σ, xs, rfl, hQ, by rw [ht]; exact hC, hG, hS.F ht⟩) hS.2.2 hd C.2.2.2.2.2.2.1))
theorem r_retz {v : Int32} {ty : FieldType} (hd : decode M.2.1 pc = .ok (.ireturn, 1)) (hr : M.2.2.2 = some ty) (hty : narrow ty (.int v) = .int v) (hk : c1 ≤ k) (hn : n1 ≤ n) (hQ : Qr (some (.int v)) σ xs) : RW γ M d k n Qr Qx c1 n1 pc L [.int v] σ xs := by
  intro p e s m args below meth c H locs ls C hS hC hG hl
  exact W.widen hk hn (vx_ret (W.zret C.1 C.2.1 (C.2.2.1.trans hr) hty (fun t ht hW => ⟨_, σ, xs, rfl, hQ, by rw [ht]; exact hC, hG, hS.F ht⟩) hS.2.2 hd C.2.2.2.2.2.2.1))
theorem r_retl {v : Int64} (hd : decode M.2.1 pc = .ok (.lreturn, 1)) (hr : M.2.2.2 = some .long) (hk : c1 ≤ k) (hn : n1 ≤ n) (hQ : Qr (some (.long v)) σ xs) : RW γ M d k n Qr Qx c1 n1 pc L [.long v] σ xs := by
  intro p e s m args below meth c H locs ls C hS hC hG hl
  exact W.widen hk hn (vx_ret (W.lret C.1 C.2.1 (C.2.2.1.trans hr) (fun t ht hW => ⟨_, σ, xs, rfl, hQ, by rw [ht]; exact hC, hG, hS.F ht⟩) hS.2.2 hd C.2.2.2.2.2.2.1))
theorem r_reta {a : Nat} {N : String} (hd : decode M.2.1 pc = .ok (.areturn, 1)) (hr : M.2.2.2 = some (.object N)) (hk : c1 ≤ k) (hn : n1 ≤ n) (hQ : Qr (some (.ref a)) σ xs) : RW γ M d k n Qr Qx c1 n1 pc L [.ref a] σ xs := by
  intro p e s m args below meth c H locs ls C hS hC hG hl
  exact W.widen hk hn (vx_ret (W.aret C.1 C.2.1 (C.2.2.1.trans hr) (Or.inl ⟨N, rfl⟩) (Or.inr ⟨a, rfl⟩) (fun t ht hW => ⟨_, σ, xs, rfl, hQ, by rw [ht]; exact hC, hG, hS.F ht⟩) hS.2.2 hd C.2.2.2.2.2.2.1))
theorem r_retv (hd : decode M.2.1 pc = .ok (.return_, 1)) (hr : M.2.2.2 = none) (hk : c1 ≤ k) (hn : n1 ≤ n) (hQ : Qr none σ xs) : RW γ M d k n Qr Qx c1 n1 pc L [] σ xs := by
  intro p e s m args below meth c H locs ls C hS hC hG hl
  exact W.widen hk hn (vx_ret (W.vret C.1 C.2.1 (C.2.2.1.trans hr) (fun t ht hW => ⟨_, σ, xs, rfl, hQ, by rw [ht]; exact hC, hG, hS.F ht⟩) hS.2.2 hd C.2.2.2.2.2.2.1))
/-- a text of the constant table -/
theorem r_ldcS {idx i : Nat} {tx : String} (hd : decode M.2.1 pc = .ok (.ldc idx, 2)) (hq : pc + 2 = q) (hm : (M.1.cls, idx, i, tx) ∈ stab) (kk : RW γ M d k n Qr Qx c1 n1 q L (.ref (gK γ i) :: st) σ xs) : RW γ M d k n Qr Qx c1 n1 pc L st σ xs := by
  subst hq
  intro p e s m args below meth c H locs ls C hS hC hG hl
  exact va_ldcS C.1 C.2.1 C.2.2.2.2.1 (C.2.2.2.2.2.2.2.2.1.2.1 _ hm) hd (kk p e s m args below meth c H locs ls C hS hC hG hl)
theorem r_ldcI {idx : Nat} {z : Int} (hd : decode M.2.1 pc = .ok (.ldc idx, 2)) (hq : pc + 2 = q) (hm : Cond.constant M.1.cls idx (zI z) ∈ uw) (kk : RW γ M d k n Qr Qx c1 n1 q L (.int (zI z) :: st) σ xs) : RW γ M d k n Qr Qx c1 n1 pc L st σ xs := by
  subst hq
  intro p e s m args below meth c H locs ls C hS hC hG hl
  exact lv_ldc C.1 C.2.1 C.2.2.2.2.1 (C.2.2.2.2.2.1 _ hm) hd (kk p e s m args below meth c H locs ls C hS hC hG hl)
theorem r_ldc2 {idx : Nat} {z : Int} (hd : decode M.2.1 pc = .ok (.ldc2_w idx, 3)) (hq : pc + 3 = q) (hm : Cond.constantLong M.1.cls idx (zL z) ∈ uw) (kk : RW γ M d k n Qr Qx c1 n1 q L (.long (zL z) :: st) σ xs) : RW γ M d k n Qr Qx c1 n1 pc L st σ xs := by
  subst hq
  intro p e s m args below meth c H locs ls C hS hC hG hl
  exact lv_ldc2 C.1 C.2.1 C.2.2.2.2.1 (C.2.2.2.2.2.1 _ hm) hd (kk p e s m args below meth c H locs ls C hS hC hG hl)

/-- what the callee needs, of the caller's state -/
theorem Pr_of {γ : Gm} {M : Md} {p : Program} {s : State} {m : MethodId} {args : Array Value} {meth : Method} {c : Code} {H : Heap} {locs : List Loc} {σ : St} {xs : va_W} {av : List Value} (C : Cx γ M p s m args meth c) (hS : va_S (fr γ) s.heap H locs) (hC : Cl γ σ xs H) (hG : Gok γ xs) {U : State} (hU : U.heap = H) (hW : s.WarmedH U.vm) : va_Pc av (Pr γ σ xs) av.toArray U := by
  refine ⟨rfl, by rw [hU]; exact Nat.le_trans C.2.2.2.2.2.2.2.2.2.1 hS.1, C.2.2.2.2.2.2.2.2.1.move hW (fun q h1 h2 => by rw [hU]; exact hS.2.1 q h1 h2), va_K.moved hW.alike C.2.2.2.2.2.2.2.1, by rw [hU]; exact hC, hG⟩
/-- behind a call: the answer, or the throw goes on to the caller's caller -/
theorem RW.back {My : Md} {dy ky ny : Nat} {a9 : Array Value} {st0 : List Value} {Qr2 : Option Value → St → va_W → Prop} {Qx2 : String → St → va_W → Prop}
    (hk : c1 + ky ≤ k) (hn : n1 + ny ≤ n)
    (kr : ∀ (v : Option Value) (σ' : St) (xs' : va_W), Qr2 v σ' xs' → RW γ M d k n Qr Qx (c1 + ky) (n1 + ny) (pc + 3) L (v.toList ++ st) σ' xs')
    (kx : ∀ (E : String) (σ' : St) (xs' : va_W), Qx2 E σ' xs' → Qx E σ' xs')
    (hr : ∀ (p : Program) (e : Env) (s : State) (m : MethodId) (args : Array Value) (below : List Frame) (meth : Method) (c : Code) (H : Heap) (locs : List Loc) (ls : Array Slot), Cx γ M p s m args meth c → va_S (fr γ) s.heap H locs → Cl γ σ xs H → Gok γ xs → Lc ls M.2.2.1 L →
      vx_Run p (gl γ) e (rmL d k n) s m args below meth c H locs c1 n1 ky ny (F0 m pc ls st0) st (QcOf γ Qr2 a9) (XcOf γ Qx2) (fr γ)) :
    RW γ M d k n Qr Qx c1 n1 pc L st0 σ xs := by
  intro p e s m args below meth c H locs ls C hS hC hG hl T hT X
  rcases hr p e s m args below meth c H locs ls C hS hC hG hl T hT X with ⟨v, st₀, t, T', L9, h0, X', hL, e1, e2, ⟨v', σ', xs', hv, hq, hc', hg', hF⟩, stp⟩ | ⟨q9, st₀, t, T', L9, E, ce, h0, X', hL, e1, e2, ⟨σ', xs', hq, hc', hg', hF⟩, hce, hcv, hcl, stp⟩
  · cases hv
    obtain ⟨k1, k2, k3⟩ := vx_keep h0 e1 hS (fun q _ h => h) (fun q h => h) hL hF
    obtain ⟨t2, a1, b1⟩ := kr v σ' xs' hq p e s m args below meth c T'.heap (locs ++ L9) ls C k3 (by rw [e1]; exact hc') hg' hl T' rfl X'
    exact ⟨t2, stp t2 a1, b1⟩
  · obtain ⟨k1, k2, k3⟩ := vx_keep h0 e1 hS (fun q _ h => h) (fun q h => h) hL hF
    have hout := vx_out (p := p) (l := gl γ) (e := e) (R := rmL d k n) (s := s) (m := m) (args := args) (below := below) (meth := meth) (c := c) (H := T'.heap) (locs := locs ++ L9) (cells := c1 + ky) (slots := n1 + ny) (ls := ls) (rest := st) (Qc := QcOf γ Qr) (XC := XcOf γ Qx) (free := fr γ) (pc := pc) (E := E) (ce := ce) (q := q9) (mc := k) (ms := n)
      (fun x hx => absurd (C.2.2.2.2.2.2.2.2.2.2.2 x hx) id) C.2.2.2.2.2.2.1 (by rw [e1]; exact hce) hcv hcl
      (fun t9 ht9 _ => ⟨σ', xs', kx E σ' xs' hq, by rw [ht9, e1]; exact hc', hg', k3.F ht9⟩) k3.2.2 hk hn
    obtain ⟨t2, a1, b1⟩ := hout T' rfl X'
    exact ⟨t2, stp.trans a1, b1⟩

theorem r_callv {My : Md} {dy ky ny idx kd i ci a : Nat} {fs : List Value} {r : vw_C} {As : List Value} {Qr2 : Option Value → St → va_W → Prop} {Qx2 : String → St → va_W → Prop} (hd : decode M.2.1 pc = .ok (.invokevirtual idx, 3)) (hq : pc + 3 = q) (hlink : Cond.methodLink M.1.cls idx My.1 ∈ uw) (hV : Vok My a) (hv : gv γ kd i) (hct : ct γ σ kd i = .inr (ci, fs)) (hc : vwCl[ci]? = some r) (hr1 : r.1 = My.1.cls)
    (hE : Ev γ My dy ky ny (.ref (ga γ kd i) :: As) σ xs Qr2 Qx2) (hlen : As.length = a) (hR : dy + 1 ≤ d ∧ 8 + (My.2.2.1 + 11) + 30 * dy ≤ 30 * d) (hk : c1 + ky ≤ k ∧ n1 + ny ≤ n) (hroom : (st.map fun v => v.category).sum ≤ 8) (kx : ∀ (E : String) (σ' : St) (xs' : va_W), Qx2 E σ' xs' → Qx E σ' xs')
    (kk : ∀ (v : Option Value) (σ' : St) (xs' : va_W), Qr2 v σ' xs' → RW γ M d k n Qr Qx (c1 + ky) (n1 + ny) q L (v.toList ++ st) σ' xs') : RW γ M d k n Qr Qx c1 n1 pc L (As.reverse ++ .ref (ga γ kd i) :: st) σ xs := by
  subst hq
  refine RW.back (My := My) (dy := dy) (ky := ky) (ny := ny) (a9 := (Value.ref (ga γ kd i) :: As).toArray) (st := st) hk.1 hk.2 kk kx ?_
  intro p e s m args below meth c H locs ls C hS hC hG hl
  obtain ⟨v1, v2, v3, v4, v5, v6, v7⟩ := hV
  have hT : GoodIn uw (wsV M.1.cls idx My.1.cls My.1 (uM My)) := uw_sub (fun w hw => by
    rcases List.mem_append.mp hw with h | h
    · simp only [List.mem_cons, List.not_mem_nil, or_false] at h
      rcases h with rfl | rfl | rfl | rfl
      · exact hlink
      · exact v1
      · exact v2
      · exact v3
    · exact uM_uw v4 w h)
  have hat := hC.1 kd i hv
  rw [hct] at hat
  obtain ⟨r9, h1, cell, q1, q2, q3, -⟩ := hat
  cases Option.some.inj (hc.symm.trans h1)
  have hK := C.2.2.2.2.2.2.2.1.1 ci r hc
  refine vx_runV (Ts := uw) (own := M.1.cls) (C := My.1.cls) (nL := M.2.2.1) (cc := M.2.1) (bytes := My.2.1) (maxL := My.2.2.1) (ret := My.2.2.2) (n := a) ⟨C.1, C.2.1, C.2.2.2.1, C.2.2.2.2.1, C.2.2.2.2.2.1⟩ hE (cwV a C.2.2.2.2.2.1 hT rfl rfl rfl ⟨rfl, v5, v6, v7⟩ hR) ⟨FrameBlind_Pr γ _ σ xs, ⟨cell, q1, by rw [q3]; rfl, by rw [q2, ← hr1]; exact hK.2.1⟩, fun U hU hW => Pr_of C hS hC hG hU hW⟩ rfl hlen hl.1 rfl (lv_room hroom) hd hk
theorem r_calls {My : Md} {dy ky ny idx a : Nat} {As : List Value} {Qr2 : Option Value → St → va_W → Prop} {Qx2 : String → St → va_W → Prop} (hd : decode M.2.1 pc = .ok (.invokestatic idx, 3)) (hq : pc + 3 = q) (hlink : Cond.methodLink M.1.cls idx My.1 ∈ uw) (hV : Sok My a)
    (hE : Ev γ My dy ky ny As σ xs Qr2 Qx2) (hlen : As.length = a) (hR : dy + 1 ≤ d ∧ 8 + (My.2.2.1 + 11) + 30 * dy ≤ 30 * d) (hk : c1 + ky ≤ k ∧ n1 + ny ≤ n) (hroom : (st.map fun v => v.category).sum ≤ 8) (kx : ∀ (E : String) (σ' : St) (xs' : va_W), Qx2 E σ' xs' → Qx E σ' xs')
    (kk : ∀ (v : Option Value) (σ' : St) (xs' : va_W), Qr2 v σ' xs' → RW γ M d k n Qr Qx (c1 + ky) (n1 + ny) q L (v.toList ++ st) σ' xs') : RW γ M d k n Qr Qx c1 n1 pc L (As.reverse ++ st) σ xs := by
  subst hq
  refine RW.back (My := My) (dy := dy) (ky := ky) (ny := ny) (a9 := As.toArray) (st := st) hk.1 hk.2 kk kx ?_
  intro p e s m args below meth c H locs ls C hS hC hG hl
  obtain ⟨v1, v3, v4, v5, v6, v7⟩ := hV
  have hT : GoodIn uw (va_wsS M.1.cls idx My.1 (uM My)) := uw_sub (fun w hw => by
    rcases List.mem_append.mp hw with h | h
    · simp only [List.mem_cons, List.not_mem_nil, or_false] at h
      rcases h with rfl | rfl | rfl
      · exact hlink
      · exact v1
      · exact v3
    · exact uM_uw v4 w h)
  refine vx_runS (Ts := uw) (own := M.1.cls) (nL := M.2.2.1) (cc := M.2.1) (bytes := My.2.1) (maxL := My.2.2.1) (ret := My.2.2.2) (n := a) ⟨C.1, C.2.1, C.2.2.2.1, C.2.2.2.2.1, C.2.2.2.2.2.1⟩ hE (va_cwS a C.2.2.2.2.2.1 hT rfl rfl rfl ⟨v5, v6, v7⟩ hR) ⟨FrameBlind_Pr γ _ σ xs, fun U hU hW => Pr_of C hS hC hG hU hW⟩ rfl hlen hl.1 rfl (lv_room hroom) hd hk
/-- a call of a text's method -/
theorem r_callt {My : Md} {dy ky ny idx i a : Nat} {As : List Value} {Qr2 : Option Value → St → va_W → Prop} {Qx2 : String → St → va_W → Prop} (hd : decode M.2.1 pc = .ok (.invokevirtual idx, 3)) (hq : pc + 3 = q) (hlink : Cond.methodLink M.1.cls idx My.1 ∈ uw) (hV : Vok My a) (hi : i < nS) (hr1 : My.1.cls = "java/lang/String")
    (hE : Ev γ My dy ky ny (.ref (gK γ i) :: As) σ xs Qr2 Qx2) (hlen : As.length = a) (hR : dy + 1 ≤ d ∧ 8 + (My.2.2.1 + 11) + 30 * dy ≤ 30 * d) (hk : c1 + ky ≤ k ∧ n1 + ny ≤ n) (hroom : (st.map fun v => v.category).sum ≤ 8) (kx : ∀ (E : String) (σ' : St) (xs' : va_W), Qx2 E σ' xs' → Qx E σ' xs')
    (kk : ∀ (v : Option Value) (σ' : St) (xs' : va_W), Qr2 v σ' xs' → RW γ M d k n Qr Qx (c1 + ky) (n1 + ny) q L (v.toList ++ st) σ' xs') : RW γ M d k n Qr Qx c1 n1 pc L (As.reverse ++ .ref (gK γ i) :: st) σ xs := by
  subst hq
  refine RW.back (My := My) (dy := dy) (ky := ky) (ny := ny) (a9 := (Value.ref (gK γ i) :: As).toArray) (st := st) hk.1 hk.2 kk kx ?_
  intro p e s m args below meth c H locs ls C hS hC hG hl
  obtain ⟨v1, v2, v3, v4, v5, v6, v7⟩ := hV
  have hT : GoodIn uw (wsV M.1.cls idx My.1.cls My.1 (uM My)) := uw_sub (fun w hw => by
    rcases List.mem_append.mp hw with h | h
    · simp only [List.mem_cons, List.not_mem_nil, or_false] at h
      rcases h with rfl | rfl | rfl | rfl
      · exact hlink
      · exact v1
      · exact v2
      · exact v3
    · exact uM_uw v4 w h)
  obtain ⟨cell, h1, h2, h3, -⟩ := (C.2.2.2.2.2.2.2.2.1.1 i hi).1.kept hS.2.1
  refine vx_runV (Ts := uw) (own := M.1.cls) (C := My.1.cls) (nL := M.2.2.1) (cc := M.2.1) (bytes := My.2.1) (maxL := My.2.2.1) (ret := My.2.2.2) (n := a) ⟨C.1, C.2.1, C.2.2.2.1, C.2.2.2.2.1, C.2.2.2.2.2.1⟩ hE (cwV a C.2.2.2.2.2.1 hT rfl rfl rfl ⟨rfl, v5, v6, v7⟩ hR) ⟨FrameBlind_Pr γ _ σ xs, ⟨cell, h1, h2, by rw [hr1]; exact h3⟩, fun U hU hW => Pr_of C hS hC hG hU hW⟩ rfl hlen hl.1 rfl (lv_room hroom) hd hk
/-- throw new X("..") -/
theorem r_throw {ik is ic i : Nat} {X tx : String} (d0 : decode M.2.1 pc = .ok (.new ik, 3)) (d3 : decode M.2.1 (pc + 3) = .ok (.dup, 1)) (d4 : decode M.2.1 (pc + 4) = .ok (.ldc is, 2)) (d6 : decode M.2.1 (pc + 6) = .ok (.invokespecial ic, 3)) (d9 : decode M.2.1 (pc + 9) = .ok (.athrow, 1))
    (hX : X ∈ exc5) (hm : (M.1.cls, is, i, tx) ∈ stab) (hw : (Cond.classLink M.1.cls ik X ∈ uw ∧ Cond.initialized X ∈ uw) ∧ (∀ w ∈ vx_atS M.1.cls ic X ["java/lang/RuntimeException", "java/lang/Exception"], w ∈ uw ∨ w = .castable X X ∨ ∃ Y ∈ exc3, w = .declares (Bundle.initS Y)) ∧ (∀ w ∈ Cond.classLink M.1.cls ik X :: Cond.initialized X :: vx_atS M.1.cls ic X ["java/lang/RuntimeException", "java/lang/Exception"], vx_ot w = true) ∧ Bundle.fit X = true)
    (hd6 : 6 ≤ d) (hk : c1 + 1 ≤ k) (hn : n1 + 6 ≤ n) (hroom : (st.map fun v => v.category).sum ≤ 8) (hQ : Qx X σ xs) : RW γ M d k n Qr Qx c1 n1 pc L st σ xs := by
  intro p e s m args below meth c H locs ls C hS hC hG hl
  obtain ⟨⟨w1, w2⟩, w3, w4, w5⟩ := hw
  have hB := C.2.2.2.2.2.2.2.2.1
  refine vx_throwS (names := ["java/lang/RuntimeException", "java/lang/Exception"]) C.1 C.2.1 hG.1 C.2.2.2.2.1 w5 (by decide +kernel) (C.2.2.2.2.2.1 _ w1) (C.2.2.2.2.2.1 _ w2) (hB.2.1 _ hm) (fun w hw => ?_) w4 hB.2.2.2.1.1 hB.2.2.2.1.2 hS (hl.1.trans C.2.2.2.1.symm) d0 d3 d4 d6 d9 (fun x hx => absurd (C.2.2.2.2.2.2.2.2.2.2.2 x hx) id) ?_ ?_ ?_ ?_ C.2.2.2.2.2.2.1 ?_ hS.2.2 hk hn
  · rcases w3 w hw with h | rfl | ⟨Y, hY, rfl⟩
    · exact C.2.2.2.2.2.1 _ h
    · exact va_Nw.use rfl (hB.2.2.2.2.1.1 X hX)
    · exact va_Nw.use rfl (hB.2.2.2.2.1.2 Y hY)
  · show 2 + 3 < d
    omega
  · show _ + (13 * (2 + 1) + 43) ≤ 30 * d
    omega
  · exact hk
  · exact hn
  · intro t hvm hz hk9
    exact ⟨σ, xs, hQ, hC.kept hk9, hG, Nat.le_trans hS.1 hz, fun q h1 h2 => (hk9 q (Nat.lt_of_lt_of_le h1 hS.1)).trans (hS.2.1 q h1 h2)⟩
-- the JDK's texts: coder, value, the byte row
theorem r_strC {i idx : Nat} (hd : decode M.2.1 pc = .ok (.getfield idx, 3)) (hq : pc + 3 = q) (hi : i < nS) (hf : Cond.fieldLink M.1.cls idx "java/lang/String" "coder" "B" ∈ uw) (kk : RW γ M d k n Qr Qx c1 n1 q L (.int (zI 0) :: st) σ xs) : RW γ M d k n Qr Qx c1 n1 pc L (.ref (gK γ i) :: st) σ xs := by
  subst hq
  intro p e s m args below meth c H locs ls C hS hC hG hl
  exact vk_getf C.1 C.2.1 (C.2.2.2.2.2.2.2.2.1.1 i hi).2.1 hS C.2.2.2.2.1 (C.2.2.2.2.2.1 _ hf) (fun x h => h) hd (kk p e s m args below meth c H locs ls C hS hC hG hl)
theorem r_strV {i idx : Nat} (hd : decode M.2.1 pc = .ok (.getfield idx, 3)) (hq : pc + 3 = q) (hi : i < nS) (hf : Cond.fieldLink M.1.cls idx "java/lang/String" "value" "[B" ∈ uw) (kk : RW γ M d k n Qr Qx c1 n1 q L (.ref (gV γ i) :: st) σ xs) : RW γ M d k n Qr Qx c1 n1 pc L (.ref (gK γ i) :: st) σ xs := by
  subst hq
  intro p e s m args below meth c H locs ls C hS hC hG hl
  exact vk_getf C.1 C.2.1 (C.2.2.2.2.2.2.2.2.1.1 i hi).2.2.1 hS C.2.2.2.2.1 (C.2.2.2.2.2.1 _ hf) (fun x h => h) hd (kk p e s m args below meth c H locs ls C hS hC hG hl)
theorem r_strS {idx : Nat} (hd : decode M.2.1 pc = .ok (.getstatic idx, 3)) (hq : pc + 3 = q) (hf : Cond.fieldLink M.1.cls idx "java/lang/String" "COMPACT_STRINGS" "Z" ∈ uw) (kk : RW γ M d k n Qr Qx c1 n1 q L (.int (zI 1) :: st) σ xs) : RW γ M d k n Qr Qx c1 n1 pc L st σ xs := by
  subst hq
  intro p e s m args below meth c H locs ls C hS hC hG hl
  exact va_gets C.1 C.2.1 C.2.2.2.2.2.2.2.2.1.2.2.1 hS C.2.2.2.2.1 (C.2.2.2.2.2.1 _ hf) (fun x h => h) hd (kk p e s m args below meth c H locs ls C hS hC hG hl)
theorem r_strB {i : Nat} {z : Int} (hd : decode M.2.1 pc = .ok (.baload, 1)) (hq : pc + 1 = q) (hi : i < nS) (hz : 0 ≤ z ∧ z < ((tS i).length : Int) ∧ z ≤ 2147483647) (kk : RW γ M d k n Qr Qx c1 n1 q L (.int (zI ((tS i).getD z.toNat 0)) :: st) σ xs) : RW γ M d k n Qr Qx c1 n1 pc L (.int (zI z) :: .ref (gV γ i) :: st) σ xs := by
  subst hq
  intro p e s m args below meth c H locs ls C hS hC hG hl
  refine va_tb C.1 C.2.1 (C.2.2.2.2.2.2.2.2.1.1 i hi).2.2.2 hS (zI_in hz.1 hz.2.1 hz.2.2) (v := .int (zI ((tS i).getD z.toNat 0))) (by rw [zI_clamp ⟨hz.1, hz.2.2⟩]) hd (kk p e s m args below meth c H locs ls C hS hC hG hl)
theorem r_strL {i : Nat} (hd : decode M.2.1 pc = .ok (.arraylength, 1)) (hq : pc + 1 = q) (hi : i < nS) (kk : RW γ M d k n Qr Qx c1 n1 q L (.int (zI (tS i).length) :: st) σ xs) : RW γ M d k n Qr Qx c1 n1 pc L (.ref (gV γ i) :: st) σ xs := by
  subst hq
  intro p e s m args below meth c H locs ls C hS hC hG hl
  exact va_tlen C.1 C.2.1 (C.2.2.2.2.2.2.2.2.1.1 i hi).2.2.2 hS (zI_ofNat _) hd (kk p e s m args below meth c H locs ls C hS hC hG hl)
theorem r_sio {idx : Nat} (hd : decode M.2.1 pc = .ok (.getstatic idx, 3)) (hq : pc + 3 = q) (hf : Cond.fieldLink M.1.cls idx "jdk/internal/util/Preconditions" "SIOOBE_FORMATTER" "Ljava/util/function/BiFunction;" ∈ uw) (kn : RW γ M d k n Qr Qx c1 n1 q L (.null :: st) σ xs) (kr : ∀ t : Nat, RW γ M d k n Qr Qx c1 n1 q L (.ref t :: st) σ xs) : RW γ M d k n Qr Qx c1 n1 pc L st σ xs := by
  subst hq
  intro p e s m args below meth c H locs ls C hS hC hG hl
  rcases C.2.2.2.2.2.2.2.2.1.2.2.2.2.2.1 with h | ⟨t, h⟩
  · exact va_gets C.1 C.2.1 h hS C.2.2.2.2.1 (C.2.2.2.2.2.1 _ hf) (fun x h => h) hd (kn p e s m args below meth c H locs ls C hS hC hG hl)
  · exact va_gets C.1 C.2.1 h hS C.2.2.2.2.1 (C.2.2.2.2.2.1 _ hf) (fun x h => h) hd (kr t p e s m args below meth c H locs ls C hS hC hG hl)
theorem r_pop {v : Value} (hd : decode M.2.1 pc = .ok (.pop, 1)) (hq : pc + 1 = q) (hv : v.category = 1) (kk : RW γ M d k n Qr Qx c1 n1 q L st σ xs) : RW γ M d k n Qr Qx c1 n1 pc L (v :: st) σ xs := by
  subst hq
  intro p e s m args below meth c H locs ls C hS hC hG hl
  exact lv_pop C.1 C.2.1 hd hv (kk p e s m args below meth c H locs ls C hS hC hG hl)
theorem r_max {idx : Nat} {a b : Int} (hd : decode M.2.1 pc = .ok (.invokestatic idx, 3)) (hq : pc + 3 = q) (hw : Cond.methodLink M.1.cls idx Lib.Math.max.name ∈ uw ∧ Cond.static Lib.Math.max.name ∈ uw ∧ Cond.initialized "java/lang/Math" ∈ uw ∧ Cond.code Lib.Math.max.name Lib.Math.max.code 2 (some .int) ∈ uw) (ha : -2147483648 ≤ a ∧ a ≤ 2147483647) (hb : -2147483648 ≤ b ∧ b ≤ 2147483647) (h1 : 1 ≤ d) (hk : c1 ≤ k) (hn : n1 ≤ n) (hroom : (st.map fun v => v.category).sum ≤ 8) (kk : RW γ M d k n Qr Qx c1 n1 q L (.int (zI (if a < b then b else a)) :: st) σ xs) : RW γ M d k n Qr Qx c1 n1 pc L (.int (zI b) :: .int (zI a) :: st) σ xs := by
  subst hq
  intro p e s m args below meth c H locs ls C hS hC hG hl
  refine va_mmax C.1 C.2.1 (C.2.2.2.1.trans hl.1.symm) C.2.2.2.2.1 (C.2.2.2.2.2.1 _ hw.1) (C.2.2.2.2.2.1 _ hw.2.1) (C.2.2.2.2.2.1 _ hw.2.2.1) (C.2.2.2.2.2.1 _ hw.2.2.2) (show 1 ≤ d from h1) (show _ ≤ 30 * d by omega) (show c1 ≤ k from hk) (show n1 ≤ n from hn) hd ?_
  have e9 : (if zI a < zI b then zI b else zI a) = zI (if a < b then b else a) := by
    by_cases h : a < b
    · rw [if_pos h, if_pos ((zI_lt ha hb).mpr h)]
    · rw [if_neg h, if_neg (fun z => h ((zI_lt ha hb).mp z))]
  rw [e9]
  exact kk p e s m args below meth c H locs ls C hS hC hG hl
theorem r_min {idx : Nat} {a b : Int} (hd : decode M.2.1 pc = .ok (.invokestatic idx, 3)) (hq : pc + 3 = q) (hw : Cond.methodLink M.1.cls idx Lib.Math.min.name ∈ uw ∧ Cond.static Lib.Math.min.name ∈ uw ∧ Cond.initialized "java/lang/Math" ∈ uw ∧ Cond.code Lib.Math.min.name Lib.Math.min.code 2 (some .int) ∈ uw) (ha : -2147483648 ≤ a ∧ a ≤ 2147483647) (hb : -2147483648 ≤ b ∧ b ≤ 2147483647) (h1 : 1 ≤ d) (hk : c1 ≤ k) (hn : n1 ≤ n) (hroom : (st.map fun v => v.category).sum ≤ 8) (kk : RW γ M d k n Qr Qx c1 n1 q L (.int (zI (if b < a then b else a)) :: st) σ xs) : RW γ M d k n Qr Qx c1 n1 pc L (.int (zI b) :: .int (zI a) :: st) σ xs := by
  subst hq
  intro p e s m args below meth c H locs ls C hS hC hG hl
  refine va_mmin C.1 C.2.1 (C.2.2.2.1.trans hl.1.symm) C.2.2.2.2.1 (C.2.2.2.2.2.1 _ hw.1) (C.2.2.2.2.2.1 _ hw.2.1) (C.2.2.2.2.2.1 _ hw.2.2.1) (C.2.2.2.2.2.1 _ hw.2.2.2) (show 1 ≤ d from h1) (show _ ≤ 30 * d by omega) (show c1 ≤ k from hk) (show n1 ≤ n from hn) hd ?_
  have e9 : (if zI b < zI a then zI b else zI a) = zI (if b < a then b else a) := by
    by_cases h : b < a
    · rw [if_pos h, if_pos ((zI_lt hb ha).mpr h)]
    · rw [if_neg h, if_neg (fun z => h ((zI_lt hb ha).mp z))]
  rw [e9]
  exact kk p e s m args below meth c H locs ls C hS hC hG hl
theorem r_i2b {a : Int} (hd : decode M.2.1 pc = .ok (.i2b, 1)) (hq : pc + 1 = q) (ha : 0 ≤ a ∧ a ≤ 255) (kk : ∀ z : Int, ((a < 128 ∧ z = a) ∨ (128 ≤ a ∧ z = a - 256)) → RW γ M d k n Qr Qx c1 n1 q L (.int (zI z) :: st) σ xs) : RW γ M d k n Qr Qx c1 n1 pc L (.int (zI a) :: st) σ xs := by
  subst hq
  intro p e s m args below meth c H locs ls C hS hC hG hl
  have e8 : ∀ z : Int, -128 ≤ z → z ≤ 127 → (zI a).toInt.bmod (2 ^ 8) = z → (zI a).toInt8.toInt32 = zI z := fun z h1 h2 h => by
    apply Int32.toInt_inj.mp
    rw [Int8.toInt_toInt32, Int32.toInt_toInt8, zI_toInt (z := z) (by omega) (by omega)]
    exact h
  by_cases h : a < 128
  · exact lv_i2b C.1 C.2.1 hd (e8 a (by omega) (by omega) (by rw [zI_toInt (by omega) (by omega)]; unfold Int.bmod; simp; omega)) (kk a (by omega) p e s m args below meth c H locs ls C hS hC hG hl)
  · exact lv_i2b C.1 C.2.1 hd (e8 (a - 256) (by omega) (by omega) (by rw [zI_toInt (by omega) (by omega)]; unfold Int.bmod; simp; omega)) (kk (a - 256) (by omega) p e s m args below meth c H locs ls C hS hC hG hl)
end CALLS
