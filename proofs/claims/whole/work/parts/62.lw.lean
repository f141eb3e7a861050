/-! THE LAW: its rows -/
abbrev mLaw : Md := (⟨RL, "law", "([I)Z"⟩, cL_law, 7, some .boolean)
/-- what the tables say of the nest mates' constructors -/
def Nst (s : State) : Prop := va_Nw (.methodLinkNest RX4 9 yX3_init RX4) s ∧ va_Nw (.methodLinkNest RX4 21 yX1_init RX4) s ∧ va_Nw (.methodLinkNest RX0 11 yX3_init RX4) s
def ZL (γ : Gm) (b Ln : Nat) (X : Nat → Int32) : Array Value → State → Method → Code → Prop := fun args s _ _ => va_X b Ln X s s.heap ∧ b < s.heap.size ∧ ¬ fr γ b ∧ gB γ = s.heap.size ∧ args = #[.ref b] ∧ Nst s
abbrev sx (X : Nat → Int32) (i k : Int) : Int := (X (i + k).toNat).toInt
theorem sx_r (X : Nat → Int32) (i k : Int) : -2147483648 ≤ sx X i k ∧ sx X i k ≤ 2147483647 := by
  have h1 := Int32.toInt_lt (X (i + k).toNat)
  have h2 := Int32.le_toInt (X (i + k).toNat)
  unfold sx
  omega
section LROWS
variable {γ : Gm} {M : Md} {R : Room} {Z : Array Value → State → Method → Code → Prop} {Q : List Frame → Array Value → State → State → Prop} {c1 n1 pc q : Nat} {L : List (Option Value)} {st : List Value} {σ σ1 : St} {xs xs1 : va_W}
theorem h_lcmpE {v : Int64} (hd : decode M.2.1 pc = .ok (.lcmp, 1)) (hq : pc + 1 = q) (kk : GW γ M R Z Q c1 n1 q L (.int (zI 0) :: st) σ xs) : GW γ M R Z Q c1 n1 pc L (.long v :: .long v :: st) σ xs := by
  subst hq
  intro p e s m args below meth c H locs ls C hS hC hG hl
  refine W.lcmp C.1 C.2.1 hd ?_
  rw [show lg_cmp v v = zI 0 by simp [lg_cmp]; rfl]
  exact kk p e s m args below meth c H locs ls C hS hC hG hl
theorem h_sld {b Ln : Nat} {X : Nat → Int32} {z : Int} (hd : decode M.2.1 pc = .ok (.iaload, 1)) (hq : pc + 1 = q) (hz : 0 ≤ z ∧ z < (Ln : Int) ∧ z ≤ 2147483647) (kk : GW γ M R (ZL γ b Ln X) Q c1 n1 q L (.int (zI (X z.toNat).toInt) :: st) σ xs) : GW γ M R (ZL γ b Ln X) Q c1 n1 pc L (.int (zI z) :: .ref b :: st) σ xs := by
  subst hq
  intro p e s m args below meth c H locs ls C hS hC hG hl
  obtain ⟨z1, z2, z3, -⟩ := C.2.2.2.2.2.2.2.2.2.2
  refine va_sld C.1 C.2.1 z1 z2 z3 hS (zI_in hz.1 hz.2.1 hz.2.2) hd ?_
  rw [zI_clamp ⟨hz.1, hz.2.2⟩, ← zI_of (X z.toNat)]
  exact kk p e s m args below meth c H locs ls C hS hC hG hl
theorem h_slen {b Ln : Nat} {X : Nat → Int32} (hd : decode M.2.1 pc = .ok (.arraylength, 1)) (hq : pc + 1 = q) (kk : GW γ M R (ZL γ b Ln X) Q c1 n1 q L (.int (zI (Ln : Int)) :: st) σ xs) : GW γ M R (ZL γ b Ln X) Q c1 n1 pc L (.ref b :: st) σ xs := by
  subst hq
  intro p e s m args below meth c H locs ls C hS hC hG hl
  obtain ⟨z1, z2, z3, -⟩ := C.2.2.2.2.2.2.2.2.2.2
  refine va_slen C.1 C.2.1 z1 z2 z3 hS hd ?_
  rw [zI_ofNat]
  exact kk p e s m args below meth c H locs ls C hS hC hG hl
theorem h_tabI {dflt lo hi : Int} {offs : Array Int} {len : Nat} {z off : Int} {tgt : Nat} (hd : decode M.2.1 pc = .ok (.tableswitch dflt lo hi offs, len)) (hr : -2147483648 ≤ z ∧ z ≤ 2147483647) (h1 : ¬ z < lo) (h2 : ¬ hi < z) (ho : offs[(z - lo).toNat]? = some off) (ht : (pc : Int) + off = (tgt : Int)) (kk : GW γ M R Z Q c1 n1 tgt L st σ xs) : GW γ M R Z Q c1 n1 pc L (.int (zI z) :: st) σ xs := by
  intro p e s m args below meth c H locs ls C hS hC hG hl
  exact lv_tableIn C.1 C.2.1 hd (by rw [zI_toInt hr.1 hr.2]; exact h1) (by rw [zI_toInt hr.1 hr.2]; exact h2) (by rw [zI_toInt hr.1 hr.2]; exact ho) ht (kk p e s m args below meth c H locs ls C hS hC hG hl)
theorem h_tabO {dflt lo hi : Int} {offs : Array Int} {len : Nat} {z : Int} {tgt : Nat} (hd : decode M.2.1 pc = .ok (.tableswitch dflt lo hi offs, len)) (hr : -2147483648 ≤ z ∧ z ≤ 2147483647) (h : z < lo ∨ hi < z) (ht : (pc : Int) + dflt = (tgt : Int)) (kk : GW γ M R Z Q c1 n1 tgt L st σ xs) : GW γ M R Z Q c1 n1 pc L (.int (zI z) :: st) σ xs := by
  intro p e s m args below meth c H locs ls C hS hC hG hl
  exact lv_tableOut C.1 C.2.1 hd (by rw [zI_toInt hr.1 hr.2]; exact h) ht (kk p e s m args below meth c H locs ls C hS hC hG hl)
/-- a call of a helper -/
theorem h_callS {My : Md} {hh : List (Nat × Nat × Nat × Nat)} {dy ky ny idx a : Nat} {As : List Value} {Qr2 : Option Value → St → va_W → Prop} (hd : decode M.2.1 pc = .ok (.invokestatic idx, 3)) (hq : pc + 3 = q) (hlink : Cond.methodLink M.1.cls idx My.1 ∈ uw) (hV : SokH My hh a)
    (hE : EvH γ My hh dy ky ny As σ xs Qr2 nX) (hlen : As.length = a) (hR : dy + 1 ≤ R.frames ∧ 8 + (My.2.2.1 + 11) + 30 * dy ≤ R.locals) (hk : c1 + ky ≤ R.cells ∧ n1 + ny ≤ R.slots) (hroom : (st.map fun v => v.category).sum ≤ 8)
    (kk : ∀ (v : Option Value) (σ' : St) (xs' : va_W), Qr2 v σ' xs' → GW γ M R Z Q (c1 + ky) (n1 + ny) q L (v.toList ++ st) σ' xs') : GW γ M R Z Q c1 n1 pc L (As.reverse ++ st) σ xs := by
  subst hq
  refine GW.back (ky := ky) (ny := ny) (a9 := As.toArray) (st := st) (Qx2 := nX) kk (fun _ _ _ h => h.elim) ?_
  intro p e s m args below meth c H locs ls C hS hC hG hl
  obtain ⟨v1, v3, v4, v5, v6, v7⟩ := hV
  have hT : GoodIn uw (va_wsS M.1.cls idx My.1 (uH My hh)) := uw_sub (fun w hw => by
    rcases List.mem_append.mp hw with h | h
    · simp only [List.mem_cons, List.not_mem_nil, or_false] at h
      rcases h with rfl | rfl | rfl
      · exact hlink
      · exact v1
      · exact v3
    · rcases List.mem_cons.mp h with rfl | h
      · exact v4
      · exact h)
  refine vx_runSX (Ts := uw) (own := M.1.cls) (nL := M.2.2.1) (cc := M.2.1) (bytes := My.2.1) (maxL := My.2.2.1) (ret := My.2.2.2) (hh := hh) (n := a) ⟨C.1, C.2.1, C.2.2.2.1, C.2.2.2.2.1, C.2.2.2.2.2.1⟩ hE (vx_cwSW a C.2.2.2.2.2.1 hT rfl rfl rfl ⟨v5, v6, v7⟩ hR) ⟨FrameBlind_Pr γ _ σ xs, fun U hU hW => Pr_ofG C hS hC hG hU hW⟩ rfl hlen hl.1 rfl (lv_room hroom) hd hk
theorem hS_2 {My : Md} {hh : List (Nat × Nat × Nat × Nat)} {dy ky ny idx : Nat} {a0 : Value} {a1 : Value} {w : Value} (hd : decode M.2.1 pc = .ok (.invokestatic idx, 3)) (hq : pc + 3 = q) (hlink : Cond.methodLink M.1.cls idx My.1 ∈ uw) (hV : SokH My hh 2) (hE : EvH γ My hh dy ky ny [a0, a1] σ xs (rtn (some w) σ1 xs1) nX) (hR : dy + 1 ≤ R.frames ∧ 8 + (My.2.2.1 + 11) + 30 * dy ≤ R.locals) (hk : c1 + ky ≤ R.cells ∧ n1 + ny ≤ R.slots) (hroom : (st.map fun v => v.category).sum ≤ 8) (kk : GW γ M R Z Q (c1 + ky) (n1 + ny) q L (w :: st) σ1 xs1) : GW γ M R Z Q c1 n1 pc L (a1 :: a0 :: st) σ xs :=
  h_callS (As := [a0, a1]) hd hq hlink hV hE rfl hR hk hroom (fun v σ' xs' hQ => by obtain ⟨rfl, rfl, rfl⟩ := hQ; exact kk)
theorem hS_3 {My : Md} {hh : List (Nat × Nat × Nat × Nat)} {dy ky ny idx : Nat} {a0 : Value} {a1 : Value} {a2 : Value} {w : Value} (hd : decode M.2.1 pc = .ok (.invokestatic idx, 3)) (hq : pc + 3 = q) (hlink : Cond.methodLink M.1.cls idx My.1 ∈ uw) (hV : SokH My hh 3) (hE : EvH γ My hh dy ky ny [a0, a1, a2] σ xs (rtn (some w) σ1 xs1) nX) (hR : dy + 1 ≤ R.frames ∧ 8 + (My.2.2.1 + 11) + 30 * dy ≤ R.locals) (hk : c1 + ky ≤ R.cells ∧ n1 + ny ≤ R.slots) (hroom : (st.map fun v => v.category).sum ≤ 8) (kk : GW γ M R Z Q (c1 + ky) (n1 + ny) q L (w :: st) σ1 xs1) : GW γ M R Z Q c1 n1 pc L (a2 :: a1 :: a0 :: st) σ xs :=
  h_callS (As := [a0, a1, a2]) hd hq hlink hV hE rfl hR hk hroom (fun v σ' xs' hQ => by obtain ⟨rfl, rfl, rfl⟩ := hQ; exact kk)
theorem hS_4 {My : Md} {hh : List (Nat × Nat × Nat × Nat)} {dy ky ny idx : Nat} {a0 : Value} {a1 : Value} {a2 : Value} {a3 : Value} {w : Value} (hd : decode M.2.1 pc = .ok (.invokestatic idx, 3)) (hq : pc + 3 = q) (hlink : Cond.methodLink M.1.cls idx My.1 ∈ uw) (hV : SokH My hh 4) (hE : EvH γ My hh dy ky ny [a0, a1, a2, a3] σ xs (rtn (some w) σ1 xs1) nX) (hR : dy + 1 ≤ R.frames ∧ 8 + (My.2.2.1 + 11) + 30 * dy ≤ R.locals) (hk : c1 + ky ≤ R.cells ∧ n1 + ny ≤ R.slots) (hroom : (st.map fun v => v.category).sum ≤ 8) (kk : GW γ M R Z Q (c1 + ky) (n1 + ny) q L (w :: st) σ1 xs1) : GW γ M R Z Q c1 n1 pc L (a3 :: a2 :: a1 :: a0 :: st) σ xs :=
  h_callS (As := [a0, a1, a2, a3]) hd hq hlink hV hE rfl hR hk hroom (fun v σ' xs' hQ => by obtain ⟨rfl, rfl, rfl⟩ := hQ; exact kk)
theorem hS_5 {My : Md} {hh : List (Nat × Nat × Nat × Nat)} {dy ky ny idx : Nat} {a0 : Value} {a1 : Value} {a2 : Value} {a3 : Value} {a4 : Value} {w : Value} (hd : decode M.2.1 pc = .ok (.invokestatic idx, 3)) (hq : pc + 3 = q) (hlink : Cond.methodLink M.1.cls idx My.1 ∈ uw) (hV : SokH My hh 5) (hE : EvH γ My hh dy ky ny [a0, a1, a2, a3, a4] σ xs (rtn (some w) σ1 xs1) nX) (hR : dy + 1 ≤ R.frames ∧ 8 + (My.2.2.1 + 11) + 30 * dy ≤ R.locals) (hk : c1 + ky ≤ R.cells ∧ n1 + ny ≤ R.slots) (hroom : (st.map fun v => v.category).sum ≤ 8) (kk : GW γ M R Z Q (c1 + ky) (n1 + ny) q L (w :: st) σ1 xs1) : GW γ M R Z Q c1 n1 pc L (a4 :: a3 :: a2 :: a1 :: a0 :: st) σ xs :=
  h_callS (As := [a0, a1, a2, a3, a4]) hd hq hlink hV hE rfl hR hk hroom (fun v σ' xs' hQ => by obtain ⟨rfl, rfl, rfl⟩ := hQ; exact kk)
theorem hM_0 {My : Md} {dy ky ny idx : Nat} {Qr2 : Option Value → St → va_W → Prop} (hd : decode M.2.1 pc = .ok (.invokevirtual idx, 3)) (hq : pc + 3 = q) (hlink : Cond.methodLink M.1.cls idx My.1 ∈ uw) (hV : Vok My 0) (hv : gv γ 8 0) (hr1 : RX5 = My.1.cls) (hE : Ev γ My dy ky ny [.ref (ga γ 8 0)] σ xs Qr2 nX) (hR : dy + 1 ≤ R.frames ∧ 8 + (My.2.2.1 + 11) + 30 * dy ≤ R.locals) (hk : c1 + ky ≤ R.cells ∧ n1 + ny ≤ R.slots) (hroom : (st.map fun v => v.category).sum ≤ 8) (kk : ∀ (v : Option Value) (σ' : St) (xs' : va_W), Qr2 v σ' xs' → GW γ M R Z Q (c1 + ky) (n1 + ny) q L (v.toList ++ st) σ' xs') : GW γ M R Z Q c1 n1 pc L (.ref (ga γ 8 0) :: st) σ xs :=
  h_callv (kd := 8) (i := 0) (ci := 4) (As := []) hd hq hlink hV hv rfl rfl hr1 hE rfl hR hk hroom (fun _ _ _ h => h.elim) kk
theorem hM_1 {My : Md} {dy ky ny idx : Nat} {a0 : Value} {Qr2 : Option Value → St → va_W → Prop} (hd : decode M.2.1 pc = .ok (.invokevirtual idx, 3)) (hq : pc + 3 = q) (hlink : Cond.methodLink M.1.cls idx My.1 ∈ uw) (hV : Vok My 1) (hv : gv γ 8 0) (hr1 : RX5 = My.1.cls) (hE : Ev γ My dy ky ny [.ref (ga γ 8 0), a0] σ xs Qr2 nX) (hR : dy + 1 ≤ R.frames ∧ 8 + (My.2.2.1 + 11) + 30 * dy ≤ R.locals) (hk : c1 + ky ≤ R.cells ∧ n1 + ny ≤ R.slots) (hroom : (st.map fun v => v.category).sum ≤ 8) (kk : ∀ (v : Option Value) (σ' : St) (xs' : va_W), Qr2 v σ' xs' → GW γ M R Z Q (c1 + ky) (n1 + ny) q L (v.toList ++ st) σ' xs') : GW γ M R Z Q c1 n1 pc L (a0 :: .ref (ga γ 8 0) :: st) σ xs :=
  h_callv (kd := 8) (i := 0) (ci := 4) (As := [a0]) hd hq hlink hV hv rfl rfl hr1 hE rfl hR hk hroom (fun _ _ _ h => h.elim) kk
theorem hM_2 {My : Md} {dy ky ny idx : Nat} {a0 : Value} {a1 : Value} {Qr2 : Option Value → St → va_W → Prop} (hd : decode M.2.1 pc = .ok (.invokevirtual idx, 3)) (hq : pc + 3 = q) (hlink : Cond.methodLink M.1.cls idx My.1 ∈ uw) (hV : Vok My 2) (hv : gv γ 8 0) (hr1 : RX5 = My.1.cls) (hE : Ev γ My dy ky ny [.ref (ga γ 8 0), a0, a1] σ xs Qr2 nX) (hR : dy + 1 ≤ R.frames ∧ 8 + (My.2.2.1 + 11) + 30 * dy ≤ R.locals) (hk : c1 + ky ≤ R.cells ∧ n1 + ny ≤ R.slots) (hroom : (st.map fun v => v.category).sum ≤ 8) (kk : ∀ (v : Option Value) (σ' : St) (xs' : va_W), Qr2 v σ' xs' → GW γ M R Z Q (c1 + ky) (n1 + ny) q L (v.toList ++ st) σ' xs') : GW γ M R Z Q c1 n1 pc L (a1 :: a0 :: .ref (ga γ 8 0) :: st) σ xs :=
  h_callv (kd := 8) (i := 0) (ci := 4) (As := [a0, a1]) hd hq hlink hV hv rfl rfl hr1 hE rfl hR hk hroom (fun _ _ _ h => h.elim) kk
theorem hM_3 {My : Md} {dy ky ny idx : Nat} {a0 : Value} {a1 : Value} {a2 : Value} {Qr2 : Option Value → St → va_W → Prop} (hd : decode M.2.1 pc = .ok (.invokevirtual idx, 3)) (hq : pc + 3 = q) (hlink : Cond.methodLink M.1.cls idx My.1 ∈ uw) (hV : Vok My 3) (hv : gv γ 8 0) (hr1 : RX5 = My.1.cls) (hE : Ev γ My dy ky ny [.ref (ga γ 8 0), a0, a1, a2] σ xs Qr2 nX) (hR : dy + 1 ≤ R.frames ∧ 8 + (My.2.2.1 + 11) + 30 * dy ≤ R.locals) (hk : c1 + ky ≤ R.cells ∧ n1 + ny ≤ R.slots) (hroom : (st.map fun v => v.category).sum ≤ 8) (kk : ∀ (v : Option Value) (σ' : St) (xs' : va_W), Qr2 v σ' xs' → GW γ M R Z Q (c1 + ky) (n1 + ny) q L (v.toList ++ st) σ' xs') : GW γ M R Z Q c1 n1 pc L (a2 :: a1 :: a0 :: .ref (ga γ 8 0) :: st) σ xs :=
  h_callv (kd := 8) (i := 0) (ci := 4) (As := [a0, a1, a2]) hd hq hlink hV hv rfl rfl hr1 hE rfl hR hk hroom (fun _ _ _ h => h.elim) kk
theorem hX_0 {My : Md} {dy ky ny idx : Nat} {Qr2 : Option Value → St → va_W → Prop} (hd : decode M.2.1 pc = .ok (.invokevirtual idx, 3)) (hq : pc + 3 = q) (hlink : Cond.methodLink M.1.cls idx My.1 ∈ uw) (hV : Vok My 0) (hv : gv γ 6 0) (hr1 : RX4 = My.1.cls) (hE : Ev γ My dy ky ny [.ref (ga γ 6 0)] σ xs Qr2 nX) (hR : dy + 1 ≤ R.frames ∧ 8 + (My.2.2.1 + 11) + 30 * dy ≤ R.locals) (hk : c1 + ky ≤ R.cells ∧ n1 + ny ≤ R.slots) (hroom : (st.map fun v => v.category).sum ≤ 8) (kk : ∀ (v : Option Value) (σ' : St) (xs' : va_W), Qr2 v σ' xs' → GW γ M R Z Q (c1 + ky) (n1 + ny) q L (v.toList ++ st) σ' xs') : GW γ M R Z Q c1 n1 pc L (.ref (ga γ 6 0) :: st) σ xs :=
  h_callv (kd := 6) (i := 0) (ci := 3) (As := []) hd hq hlink hV hv rfl rfl hr1 hE rfl hR hk hroom (fun _ _ _ h => h.elim) kk
theorem h_thrown {idx : Nat} {r : Int} (hG : Full γ) (hd : decode M.2.1 pc = .ok (.invokevirtual idx, 3)) (hq : pc + 3 = q) (hlink : Cond.methodLink M.1.cls idx mX5_thrown.1 ∈ uw) (hR : 1 + 1 ≤ R.frames ∧ 8 + (mX5_thrown.2.2.1 + 11) + 30 * 1 ≤ R.locals) (hk : c1 + 0 ≤ R.cells ∧ n1 + 0 ≤ R.slots) (hroom : (st.map fun v => v.category).sum ≤ 8) (hcd : mcd σ = r) (kk : GW γ M R Z Q (c1 + 0) (n1 + 0) q L (.int (zI r) :: st) σ xs) : GW γ M R Z Q c1 n1 pc L (.ref (ga γ 8 0) :: st) σ xs := by
  subst hcd
  exact hM_0 (My := mX5_thrown) hd hq hlink vX5_thrown (hG _ _ rfl) rfl (m_thrown hG) hR hk hroom (fun v σ' xs' hQ => by obtain ⟨rfl, rfl, rfl⟩ := hQ; exact kk)
end LROWS
/-- an answer, and what is then true -/
def QM (v : Value) (P : St → Prop) (xs : va_W) : Option Value → St → va_W → Prop := fun r s x => x = xs ∧ r = some v ∧ P s
theorem QM.of {γ : Gm} {M : Md} {d k n : Nat} {av : List Value} {σ σ2 : St} {xs : va_W} {v : Value} (h : Ev γ M d k n av σ xs (rtn (some v) σ2 xs) nX) : Ev γ M d k n av σ xs (QM v (fun s => s = σ2) xs) nX := h.mono (fun _ _ _ q => ⟨q.2.2, q.1, q.2.1⟩) (fun _ _ _ q => q)
abbrev LL (γ : Gm) (b : Nat) (i : Int) (u w : Option Value) : List (Option Value) := [some (.ref b), some (.ref (ga γ 6 0)), some (.ref (ga γ 8 0)), some (.ref (ga γ 18 0)), some (.int (zI i)), u, w]
