/-! STRING CONSTANTS by their places, contracts, walks -/
def tSl : List (List Int) := [[58, 47, 63, 35], [43, 45, 46], [35], [34, 60, 62, 92, 94, 96, 123, 124, 125], [47, 63, 35], [63, 35], [64], [58], [], [47, 47], [63], [37, 91, 93, 48], [110, 111, 32, 115, 105, 103, 110, 32, 116, 104, 97, 116, 32, 99, 97, 110, 32, 98, 101, 32, 116, 121, 112, 101, 100], [116, 111, 111, 32, 109, 97, 110, 121, 32, 115, 105, 103, 110, 115], [116, 104, 101, 32, 118, 97, 108, 117, 101, 32, 105, 115, 32, 111, 117, 116, 32, 111, 102, 32, 114, 97, 110, 103, 101], [48, 49, 50, 51, 52, 53, 54, 55, 56, 57, 97, 98, 99, 100, 101, 102], [48, 49, 50, 51, 52, 53, 54, 55, 56, 57, 65, 66, 67, 68, 69, 70], [110, 111, 32, 115, 117, 99, 104, 32, 119, 111, 114, 100], [104, 116, 116, 112], [102, 105, 108, 101], [109, 97, 105, 108, 116, 111], [97], [47], [117, 115, 101, 114], [117, 58, 112], [104, 111, 115, 116], [119, 46, 120, 45, 121, 46, 99, 111, 109], [49, 46, 50, 46, 51, 46, 52], [49, 46, 50, 46, 51, 46, 50, 53, 54], [58, 56, 49], [45], [46], [97, 45], [57], [95], [112, 47, 113], [46, 46], [120, 61, 49, 38, 121, 61, 50], [59, 118, 61, 49], [37, 52, 49, 37, 55, 101], [126, 40, 33, 41, 42, 39], [36], [123], [60, 62], [50, 49, 52, 55, 52, 56, 51, 54, 52, 56], [116, 104, 101, 32, 116, 101, 120, 116, 32, 105, 115, 32, 101, 109, 112, 116, 121], [110, 111, 32, 115, 117, 99, 104, 32, 112, 108, 97, 99, 101], [110, 111, 32, 115, 117, 99, 104, 32, 115, 108, 111, 116], [97, 32, 98, 97, 100, 32, 115, 105, 103, 110, 32, 105, 110, 32, 116, 104, 101, 32, 97, 117, 116, 104, 111, 114, 105, 116, 121], [110, 111, 32, 116, 101, 120, 116, 32, 119, 97, 115, 32, 114, 101, 102, 117, 115, 101, 100], [116, 104, 101, 32, 115, 108, 111, 116, 32, 104, 97, 115, 32, 110, 111, 32, 97, 100, 100, 114, 101, 115, 115], [115, 109, 97, 117, 104, 112, 113, 102, 119], [110, 111, 32, 115, 117, 99, 104, 32, 112, 97, 114, 116], [116, 104, 101, 32, 112, 97, 114, 116, 32, 104, 97, 115, 32, 110, 111, 32, 115, 117, 99, 104, 32, 112, 108, 97, 99, 101], [116, 104, 101, 32, 97, 100, 100, 114, 101, 115, 115, 32, 100, 111, 101, 115, 32, 110, 111, 116, 32, 104, 97, 118, 101, 32, 116, 104, 97, 116, 32, 112, 97, 114, 116], [115, 97, 112, 113, 102], [110, 111, 32, 112, 97, 114, 116, 32, 116, 104, 97, 116, 32, 99, 97, 110, 32, 98, 101, 32, 109, 105, 120, 101, 100], [97, 110, 32, 111, 112, 97, 113, 117, 101, 32, 97, 100, 100, 114, 101, 115, 115], [104, 116, 116, 112, 32, 102, 105, 108, 101, 32, 109, 97, 105, 108, 116, 111, 32, 97, 32, 58, 32, 47, 47, 32, 47, 32, 63, 32, 35, 32, 64, 32, 117, 115, 101, 114, 32, 117, 58, 112, 32, 104, 111, 115, 116, 32, 119, 46, 120, 45, 121, 46, 99, 111, 109, 32, 49, 46, 50, 46, 51, 46, 52, 32, 49, 46, 50, 46, 51, 46, 50, 53, 54, 32, 58, 56, 49, 32, 45, 32, 46, 32, 97, 45, 32, 57, 32, 95, 32, 112, 47, 113, 32, 46, 46, 32, 120, 61, 49, 38, 121, 61, 50, 32, 59, 118, 61, 49, 32, 37, 52, 49, 37, 55, 101, 32, 126, 40, 33, 41, 42, 39, 32, 36, 32, 123, 32, 60, 62, 32, 50, 49, 52, 55, 52, 56, 51, 54, 52, 56, 32]]
def tS (n : Nat) : List Int := tSl.getD n []
def nS : Nat := 59
def stab : List (String × Nat × Nat × String) := [(RX2, 15, 0, ":/?#"), (RX2, 34, 1, "+-."), (RX1, 100, 2, "#"), (RX1, 140, 3, "\"<>\\^`{|}"), (RX1, 110, 4, "/?#"), (RX1, 116, 5, "?#"), (RX1, 118, 6, "@"), (RX1, 120, 7, ":"), (RX4, 227, 8, ""), (RX4, 229, 7, ":"), (RX4, 239, 2, "#"), (RX4, 235, 9, "//"), (RX4, 237, 10, "?"), (RX4, 33, 11, "%[]0"), (RX4, 43, 12, "no sign that can be typed"), (RX4, 199, 13, "too many signs"), (RX4, 60, 14, "the value is out of range"), (RX4, 62, 15, "0123456789abcdef"), (RX4, 64, 16, "0123456789ABCDEF"), (RX4, 72, 17, "no such word"), (RX4, 247, 18, "http"), (RX4, 249, 19, "file"), (RX4, 251, 20, "mailto"), (RX4, 253, 21, "a"), (RX4, 255, 22, "/"), (RX4, 257, 6, "@"), (RX4, 259, 23, "user"), (RX4, 261, 24, "u:p"), (RX4, 263, 25, "host"), (RX4, 265, 26, "w.x-y.com"), (RX4, 267, 27, "1.2.3.4"), (RX4, 269, 28, "1.2.3.256"), (RX4, 271, 29, ":81"), (RX4, 273, 30, "-"), (RX4, 275, 31, "."), (RX4, 277, 32, "a-"), (RX4, 279, 33, "9"), (RX4, 281, 34, "_"), (RX4, 283, 35, "p/q"), (RX4, 285, 36, ".."), (RX4, 287, 37, "x=1&y=2"), (RX4, 289, 38, ";v=1"), (RX4, 291, 39, "%41%7e"), (RX4, 293, 40, "~(!)*'"), (RX4, 295, 41, "$"), (RX4, 297, 42, "{"), (RX4, 299, 43, "<>"), (RX4, 301, 44, "2147483648"), (RX4, 87, 45, "the text is empty"), (RX4, 96, 46, "no such place"), (RX4, 221, 47, "no such slot"), (RX2, 50, 4, "/?#"), (RX2, 52, 3, "\"<>\\^`{|}"), (RX4, 110, 48, "a bad sign in the authority"), (RX4, 219, 49, "no text was refused"), (RX4, 223, 50, "the slot has no address"), (RX4, 197, 51, "smauhpqfw"), (RX4, 225, 52, "no such part"), (RX4, 159, 53, "the part has no such place"), (RX4, 168, 54, "the address does not have that part"), (RX4, 188, 55, "sapqf"), (RX4, 190, 56, "no part that can be mixed"), (RX4, 194, 57, "an opaque address"), (RX5, 74, 58, "http file mailto a : // / ? # @ user u:p host w.x-y.com 1.2.3.4 1.2.3.256 :81 - . a- 9 _ p/q .. x=1&y=2 ;v=1 %41%7e ~(!)*' $ { <> 2147483648 "), (RX5, 83, 0, ":/?#"), (RX5, 125, 4, "/?#"), (RX5, 45, 51, "smauhpqfw"), (RX5, 117, 2, "#"), (RX5, 131, 5, "?#"), (RX5, 186, 55, "sapqf")]
def exc3 : List String := ["java/lang/RuntimeException", "java/lang/Exception", "java/lang/Throwable"]
def exc5 : List String := ["java/lang/IllegalArgumentException", "java/lang/IllegalStateException", "java/lang/IndexOutOfBoundsException", "java/util/NoSuchElementException", "java/lang/UnsupportedOperationException"]
/-- what the Statement gives of texts, statics and classes, at a method's start -/
def Bs (γ : Gm) (s : State) : Prop :=
  (∀ n, n < nS → va_O "java/lang/String" (gK γ n) (fr γ) s s.heap ∧ va_OF "java/lang/String" "coder" "B" (.int 0) (gK γ n) (fr γ) s s.heap ∧ va_OF "java/lang/String" "value" "[B" (.ref (gV γ n)) (gK γ n) (fr γ) s s.heap ∧ va_T .byte (gV γ n) (tS n).length (fun j => .int (zI ((tS n).getD j 0))) (fr γ) s s.heap) ∧
  (∀ q ∈ stab, vk_R q.1 q.2.1 q.2.2.2 (gK γ q.2.2.1) s) ∧ va_Z "java/lang/String" "COMPACT_STRINGS" "Z" (.int 1) (fr γ) s s.heap ∧
  (vx_Zq Bundle.tN "UNASSIGNED_STACK" Bundle.steD (fr γ) s s.heap ∧ vx_Zq Bundle.tN "SUPPRESSED_SENTINEL" Bundle.listD (fr γ) s s.heap) ∧
  ((∀ X ∈ exc5, va_Nw (.castable X X) s) ∧ ∀ Y ∈ exc3, va_Nw (.declares (Bundle.initS Y)) s) ∧ va_Zq "jdk/internal/util/Preconditions" "SIOOBE_FORMATTER" "Ljava/util/function/BiFunction;" (fr γ) s s.heap ∧ (∀ X ∈ exc5, ∀ Y ∈ exc5, X ≠ Y → va_Nc X Y s) ∧ va_AO "Linkloom$Address" s
theorem Bs.move {γ : Gm} {u U : State} (hW : u.WarmedH U.vm) (hh : ∀ q : Nat, q < u.heap.size → ¬ fr γ q → U.heap[q]? = u.heap[q]?) (h : Bs γ u) : Bs γ U := by
  obtain ⟨h1, h2, h3, ⟨h4, h5⟩, h6, h8, h7, h9⟩ := h
  have ha := hW.alike
  refine ⟨fun n hn => ?_, fun q hq => (h2 q hq).warm hW, (h3.moved ha).kept hh, ⟨(h4.moved ha).kept hh, (h5.moved ha).kept hh⟩, ⟨fun X hX => va_Nw.warmC hW (h6.1 X hX), fun Y hY => va_Nw.warmD hW (h6.2 Y hY)⟩, (h8.moved ha).kept hh, fun X hX Y hY hne => ?_, h9.moved ha⟩
  · obtain ⟨a1, a2, a3, a4⟩ := h1 n hn
    exact ⟨(a1.moved ha).kept hh, (a2.moved ha).kept hh, (a3.moved ha).kept hh, (a4.moved ha).kept hh⟩
  · obtain ⟨c, t, b1, b2, b3⟩ := h7 X hX Y hY hne
    exact ⟨c, t, by rw [ha.findClass]; exact b1, by rw [ha.findClass]; exact b2, by rw [← b3]; exact (ha.assignable c t)⟩
-- a method's start, its ends, its contract
def Pr (γ : Gm) (σ : St) (xs : va_W) (U : State) : Prop := gB γ ≤ U.heap.size ∧ Bs γ U ∧ va_K (gD γ) vwCl (tysG γ) U ∧ Cl γ σ xs U.heap ∧ Gok γ xs
def QcOf (γ : Gm) (Qr : Option Value → St → va_W → Prop) : Array Value → State → Outcome → State → Prop := fun _ st o t => ∃ (v : Option Value) (σ' : St) (xs' : va_W), o = .returned v ∧ Qr v σ' xs' ∧ Cl γ σ' xs' t.heap ∧ Gok γ xs' ∧ va_F (fr γ) st t
def XcOf (γ : Gm) (Qx : String → St → va_W → Prop) : String → State → State → Prop := fun E st t => ∃ (σ' : St) (xs' : va_W), Qx E σ' xs' ∧ Cl γ σ' xs' t.heap ∧ Gok γ xs' ∧ va_F (fr γ) st t
/-- the contract of a method: at depth d, making at most k cells of n slots; it returns with Qr, or throws with Qx -/
def Ev (γ : Gm) (M : Md) (d k n : Nat) (av : List Value) (σ : St) (xs : va_W) (Qr : Option Value → St → va_W → Prop) (Qx : String → St → va_W → Prop) : Prop :=
  vx_Met (gl γ) M.1 (uM M) (rmL d k n) (va_Pc av (Pr γ σ xs)) (QcOf γ Qr) (XcOf γ Qx) k n (fr γ)
/-- nothing is thrown -/
def nX : String → St → va_W → Prop := fun _ _ _ => False
def Cx (γ : Gm) (M : Md) (p : Program) (s : State) (m : MethodId) (args : Array Value) (meth : Method) (c : Code) : Prop :=
  p.tables.exec = Jvm.exec ∧ c.code = M.2.1 ∧ meth.sig.returnType = M.2.2.2 ∧ c.maxLocals = M.2.2.1 ∧ s.vm.findClass M.1.cls = some m.cls ∧ (∀ w ∈ uw, w.before args s = true) ∧ meth.locks = false ∧ va_K (gD γ) vwCl (tysG γ) s ∧ Bs γ s ∧ gB γ ≤ s.heap.size ∧ meth.name = M.1.name ∧ (∀ x ∈ c.exceptionTable.toList, False)
/-- the locals, by their places -/
def Lc (ls : Array Slot) (nL : Nat) (L : List (Option Value)) : Prop := ls.size = nL ∧ lv_wf ls ∧ ∀ (i : Nat) (v : Value), L[i]? = some (some v) → ls[i]? = some (.val v)
/-- from here on (pc, locals L, stack st, state σ, further cells xs; c1 cells of n1 slots made so far) the method meets its ends -/
def RW (γ : Gm) (M : Md) (d k n : Nat) (Qr : Option Value → St → va_W → Prop) (Qx : String → St → va_W → Prop) (c1 n1 : Nat) (pc : Nat) (L : List (Option Value)) (st : List Value) (σ : St) (xs : va_W) : Prop :=
  ∀ (p : Program) (e : Env) (s : State) (m : MethodId) (args : Array Value) (below : List Frame) (meth : Method) (c : Code) (H : Heap) (locs : List Loc) (ls : Array Slot),
    Cx γ M p s m args meth c → va_S (fr γ) s.heap H locs → Cl γ σ xs H → Gok γ xs → Lc ls M.2.2.1 L →
    W p (gl γ) e (rmL d k n) s m args below meth c H locs c1 n1 (vx_MQ below (QcOf γ Qr) (XcOf γ Qx) args s k n (fr γ)) (F0 m pc ls st)
theorem Lc.entry (av : List Value) {n : Nat} {L : List (Option Value)} (h : (lg_sl av).length ≤ n) (hL : ∀ (i : Nat) (v : Value), L[i]? = some (some v) → (i, v) ∈ lv_args 0 av) : Lc ((lg_sl av ++ List.replicate (n - (lg_sl av).length) Slot.unset).toArray) n L := by
  obtain ⟨h1, h2, h3⟩ := lv_entry av h
  exact ⟨h1, h2, fun i v hi => h3 (i, v) (hL i v hi)⟩
theorem Lc.at {ls : Array Slot} {nL : Nat} {L : List (Option Value)} (h : Lc ls nL L) {i : Nat} {v : Value} (hi : L[i]? = some (some v)) : ls[i]? = some (.val v) := h.2.2 i v hi
/-- fewer known locals -/
theorem Lc.sub {ls : Array Slot} {nL : Nat} {L L' : List (Option Value)} (h : Lc ls nL L) (hs : ∀ (i : Nat) (v : Value), L'[i]? = some (some v) → L[i]? = some (some v)) : Lc ls nL L' := ⟨h.1, h.2.1, fun i v hi => h.2.2 i v (hs i v hi)⟩
theorem FrameBlind_Pr (γ : Gm) (av : List Value) (σ : St) (xs : va_W) : FrameBlind (va_Pc av (Pr γ σ xs)) := by
  intro a U g mk ⟨h1, h2, h3, h4, h5, h6⟩
  exact ⟨h1, h2, h3.move (U := U.calling g mk a) (State.WarmedH.refl U) (fun _ _ _ => rfl), va_K.moved (u := U) (U := U.calling g mk a) (Vm.Alike.refl U.vm) h4, h5, h6⟩
/-- a contract by a walk from its entry -/
theorem Ev.of {γ : Gm} {M : Md} {d k n : Nat} {av : List Value} {σ : St} {xs : va_W} {Qr : Option Value → St → va_W → Prop} {Qx : String → St → va_W → Prop} (L : List (Option Value)) (hy : plainName M.1.cls = true) (hlen : (lg_sl av).length ≤ M.2.2.1) (hL : ∀ (i : Nat) (v : Value), L[i]? = some (some v) → (i, v) ∈ lv_args 0 av)
    (body : RW γ M d k n Qr Qx 0 0 0 L [] σ xs) : Ev γ M d k n av σ xs Qr Qx := by
  refine vx_ofW (cc := M.2.1) (maxL := M.2.2.1) (ret := M.2.2.2) hy rfl ?_
  intro p e s m args below meth c s₁ B hml htab hv
  obtain ⟨rfl, h1, h2, h3, h4, h5⟩ := hv
  have hts := atoms_spec (ws := uM M) B.pre
  rw [lg_entry_eq]
  exact body p e s m av.toArray below meth c s.heap [] _ ⟨B.exec, B.bytes, B.returns, hml, findClass_of_methodNamed B.named, fun w hw => hts w (List.mem_cons_of_mem _ hw), B.notSynchronized, h3, h2, h1, (name_of_methodNamed B.named B.method).1, htab⟩ va_S.rf h4 h5 (Lc.entry av hlen hL)
/-- the state may be named anew -/
theorem RW.cast {γ : Gm} {M : Md} {d k n : Nat} {Qr : Option Value → St → va_W → Prop} {Qx : String → St → va_W → Prop} {c1 n1 pc : Nat} {L : List (Option Value)} {st st' : List Value} {σ σ' : St} {xs : va_W} (h1 : σ = σ') (h2 : st = st') (k9 : RW γ M d k n Qr Qx c1 n1 pc L st' σ' xs) : RW γ M d k n Qr Qx c1 n1 pc L st σ xs := by subst h1; subst h2; exact k9
theorem RW.sub {γ : Gm} {M : Md} {d k n : Nat} {Qr : Option Value → St → va_W → Prop} {Qx : String → St → va_W → Prop} {c1 n1 pc : Nat} {L L' : List (Option Value)} {st : List Value} {σ : St} {xs : va_W} (hs : ∀ (i : Nat) (v : Value), L'[i]? = some (some v) → L[i]? = some (some v)) (k9 : RW γ M d k n Qr Qx c1 n1 pc L' st σ xs) : RW γ M d k n Qr Qx c1 n1 pc L st σ xs :=
  fun p e s m args below meth c H locs ls C hS hC hG hl => k9 p e s m args below meth c H locs ls C hS hC hG (hl.sub hs)
/-- weaker ends -/
theorem Ev.mono {γ : Gm} {M : Md} {d k n : Nat} {av : List Value} {σ : St} {xs : va_W} {Qr Qr' : Option Value → St → va_W → Prop} {Qx Qx' : String → St → va_W → Prop} (h : Ev γ M d k n av σ xs Qr Qx) (h1 : ∀ v σ' xs', Qr v σ' xs' → Qr' v σ' xs') (h2 : ∀ v σ' xs', Qx v σ' xs' → Qx' v σ' xs') : Ev γ M d k n av σ xs Qr' Qx' := by
  intro p e ha hc hk s m args below hf happ hP hK
  obtain ⟨j, o, g1, g2, g3, hq⟩ := h p e ha hc hk s m args below hf happ hP hK
  refine ⟨j, o, g1, g2, g3, ?_⟩
  rcases hq with ⟨⟨v, σ', xs', q1, q2, q3⟩, q4⟩ | ⟨q, rfl, E, ce, L, ⟨σ', xs', q2, q3⟩, q4⟩
  · exact Or.inl ⟨⟨v, σ', xs', q1, h1 _ _ _ q2, q3⟩, q4⟩
  · exact Or.inr ⟨q, rfl, E, ce, L, ⟨σ', xs', h2 _ _ _ q2, q3⟩, q4⟩
