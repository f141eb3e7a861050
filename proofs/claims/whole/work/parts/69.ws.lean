/-! THE START: what the Statement gives of it -/
def scond (q : String × Nat × Nat × String) : List Cond :=
  [.exactly (.string q.1 q.2.1) "java/lang/String", .eq (.field (.string q.1 q.2.1) "java/lang/String" "coder" "B") (.int 0), .arrayOf (.field (.string q.1 q.2.1) "java/lang/String" "value" "[B") .byte, .eq (.length (.field (.string q.1 q.2.1) "java/lang/String" "value" "[B")) (.int (Int32.ofNat (tS q.2.2.1).length))] ++
  (List.range (tS q.2.2.1).length).map fun j => .eq (.elem (.field (.string q.1 q.2.1) "java/lang/String" "value" "[B") (.int (Int32.ofNat j))) (.int (zI ((tS q.2.2.1).getD j 0)))
def FL : List Cond := flatC (Jvm.Cond.and given_1 narrow_1)
def subq : List Cond → List Cond → Bool
  | [], _ => true
  | _ :: _, [] => false
  | a :: l, b :: m => if a = b then subq l m else subq (a :: l) m
theorem subq_mem : ∀ (m l : List Cond), subq l m = true → ∀ w ∈ l, w ∈ m := by
  intro m
  induction m with
  | nil =>
    intro l h w hw
    cases l with
    | nil => exact absurd hw (by simp)
    | cons a l => exact absurd h (by simp [subq])
  | cons b m ih =>
    intro l h w hw
    cases l with
    | nil => exact absurd hw (by simp)
    | cons a l =>
      unfold subq at h
      by_cases e : a = b
      · rw [if_pos e] at h
        rcases List.mem_cons.mp hw with rfl | hw
        · rw [e]
          exact List.mem_cons_self
        · exact List.mem_cons_of_mem _ (ih l h w hw)
      · rw [if_neg e] at h
        exact List.mem_cons_of_mem _ (ih (a :: l) h w hw)
theorem nar_s : subq (stab.flatMap scond) FL = true := by decide +kernel
theorem nar_q {q : String × Nat × Nat × String} (hq : q ∈ stab) {w : Cond} (hw : w ∈ scond q) : w ∈ FL := subq_mem _ _ nar_s w (List.mem_flatMap.mpr ⟨q, hq, hw⟩)
def repR (n : Nat) : String × Nat × Nat × String := (stab.find? (fun q => q.2.2.1 == n)).getD ("", 0, 0, "")
theorem rep_ok : ∀ n, n < nS → repR n ∈ stab ∧ (repR n).2.2.1 = n := by decide +kernel
theorem rep_eq : ∀ q ∈ stab, q.2.2.1 < nS ∧ (q = repR q.2.2.1 ∨ Cond.eq (.string (repR q.2.2.1).1 (repR q.2.2.1).2.1) (.string q.1 q.2.1) ∈ FL) := by decide +kernel
theorem stab_t : ∀ q ∈ stab, Cond.stringRef q.1 q.2.1 q.2.2.2 ∈ lw_tbl := by decide +kernel
theorem fl_c : ∀ X ∈ exc5, ∀ Y ∈ exc5, X ≠ Y → Cond.not (.castable X Y) ∈ FL := by decide +kernel
theorem fl_x : ∀ X ∈ exc5, Cond.castable X X ∈ lw_tbl := by decide +kernel
theorem fl_d : ∀ Y ∈ exc3, Cond.declares (Bundle.initS Y) ∈ lw_tbl := by decide +kernel
theorem fl_s : Cond.eq (.static "java/lang/String" "COMPACT_STRINGS" "Z") (.int 1) ∈ FL ∧ Cond.isRef (.static "jdk/internal/util/Preconditions" "SIOOBE_FORMATTER" "Ljava/util/function/BiFunction;") ∈ FL ∧ Cond.isRef (.static Bundle.tN "UNASSIGNED_STACK" Bundle.steD) ∈ FL ∧ Cond.isRef (.static Bundle.tN "SUPPRESSED_SENTINEL" Bundle.listD) ∈ FL := by decide +kernel
theorem fl_l : Cond.laysStatic "java/lang/String" "COMPACT_STRINGS" "Z" ∈ lw_tbl ∧ Cond.laysStatic "jdk/internal/util/Preconditions" "SIOOBE_FORMATTER" "Ljava/util/function/BiFunction;" ∈ lw_tbl ∧ Cond.laysStatic Bundle.tN "UNASSIGNED_STACK" Bundle.steD ∈ lw_tbl ∧ Cond.laysStatic Bundle.tN "SUPPRESSED_SENTINEL" Bundle.listD ∈ lw_tbl := by decide +kernel
theorem fl_i : Cond.initialized "java/lang/String" ∈ lw_tbl ∧ Cond.initialized "jdk/internal/util/Preconditions" ∈ lw_tbl ∧ Cond.initialized Bundle.tN ∈ lw_tbl := by decide +kernel
theorem fl_a : Cond.arrayOver (.object "Linkloom$Address") ∈ lw_tbl := by decide +kernel
theorem tS_len : ∀ n, n < nS → (tS n).length < 2 ^ 31 := by decide +kernel
/-- one text: its cell, its row -/
def txt (A : Nat → Prop) (args : Array Value) (s : State) (q : String × Nat × Nat × String) (a v : Nat) : Prop :=
  (Term.string q.1 q.2.1).eval args s none [] s = some (.ref a) ∧ va_O "java/lang/String" a A s s.heap ∧ va_OF "java/lang/String" "coder" "B" (.int 0) a A s s.heap ∧ va_OF "java/lang/String" "value" "[B" (.ref v) a A s s.heap ∧ va_T .byte v (tS q.2.2.1).length (fun j => .int (zI ((tS q.2.2.1).getD j 0))) A s s.heap
theorem txt_of {A : Nat → Prop} {args : Array Value} {s : State} (hall : ∀ w ∈ FL, w.before args s = true) (hA : ∀ a : Nat, a < s.heap.size → ¬ A a) {q : String × Nat × Nat × String} (hq : q ∈ stab) : ∃ a v, txt A args s q a v := by
  have hw : ∀ w ∈ scond q, w.before args s = true := fun w h => hall w (nar_q hq h)
  have hn := tS_len _ (rep_eq q hq).1
  unfold scond at hw
  obtain ⟨a, c, cA, kA, q1, q2, q3, q4, q5, q6, -⟩ := Cond.exactly_spec (args := args) (first := s) (o := none) (s := s) (idx := []) (t := .string q.1 q.2.1) (cls := "java/lang/String") (hw _ (List.mem_append_left _ List.mem_cons_self))
  have hco := hw _ (List.mem_append_left _ (List.mem_cons_of_mem _ List.mem_cons_self))
  have har := hw _ (List.mem_append_left _ (List.mem_cons_of_mem _ (List.mem_cons_of_mem _ List.mem_cons_self)))
  have hle := hw _ (List.mem_append_left _ (List.mem_cons_of_mem _ (List.mem_cons_of_mem _ (List.mem_cons_of_mem _ List.mem_cons_self))))
  have hel : ∀ j : Nat, j < (tS q.2.2.1).length → (Cond.eq (.elem (.field (.string q.1 q.2.1) "java/lang/String" "value" "[B") (.int (Int32.ofNat j))) (.int (zI ((tS q.2.2.1).getD j 0)))).before args s = true := fun j hj => hw _ (List.mem_append_right _ (List.mem_map.mpr ⟨j, List.mem_range.mpr hj, rfl⟩))
  obtain ⟨t, ht, hT⟩ := va_Tof (f := fun j => .int (zI ((tS q.2.2.1).getD j 0))) (A := A) hn har (va_eqt hle) (fun j hj => va_eqt (hel j hj)) hA
  exact ⟨a, t, q1, ⟨cA, q3, q5, by rw [q6]; exact q2, hA a (Array.getElem?_eq_some_iff.mp q3).1⟩, vk_OFof q1 (va_eqt hco) hA, vk_OFof q1 ht hA, hT⟩
theorem txts {A : Nat → Prop} {args : Array Value} {s : State} (hts : ∀ w ∈ lw_tbl, w.before args s = true) (hall : ∀ w ∈ FL, w.before args s = true) (hA : ∀ a : Nat, a < s.heap.size → ¬ A a) : ∃ K V : Nat → Nat, (∀ n, n < nS → va_O "java/lang/String" (K n) A s s.heap ∧ va_OF "java/lang/String" "coder" "B" (.int 0) (K n) A s s.heap ∧ va_OF "java/lang/String" "value" "[B" (.ref (V n)) (K n) A s s.heap ∧ va_T .byte (V n) (tS n).length (fun j => .int (zI ((tS n).getD j 0))) A s s.heap) ∧ ∀ q ∈ stab, vk_R q.1 q.2.1 q.2.2.2 (K q.2.2.1) s := by
  have h0 : ∀ n : Nat, ∃ p : Nat × Nat, n < nS → txt A args s (repR n) p.1 p.2 := by
    intro n
    by_cases hn : n < nS
    · obtain ⟨a, v, h⟩ := txt_of hall hA (rep_ok n hn).1
      exact ⟨(a, v), fun _ => h⟩
    · exact ⟨(0, 0), fun h => absurd h hn⟩
  obtain ⟨ad, had⟩ := Classical.axiomOfChoice h0
  refine ⟨fun n => (ad n).1, fun n => (ad n).2, fun n hn => ?_, fun q hq => ?_⟩
  · obtain ⟨-, h2⟩ := had n hn
    rw [(rep_ok n hn).2] at h2
    exact h2
  · obtain ⟨hn, he⟩ := rep_eq q hq
    have h1 := (had _ hn).1
    refine vk_R.of (A := args) (hts _ (stab_t q hq)) ?_
    rcases he with he | he
    · rw [he] at h1 ⊢
      rw [(rep_ok _ hn).2] at h1
      rw [(rep_ok _ hn).2]
      exact h1
    · exact va_eqR (hall _ he) h1
theorem mkG {l : Launch} {s : State} {args : Array Value} (hts : ∀ w ∈ lw_tbl, w.before args s = true) (hall : ∀ w ∈ FL, w.before args s = true) : ∃ γ : Gm, gl γ = l ∧ gB γ = s.heap.size ∧ Bs γ s ∧ va_K (gD γ) vwCl (tysG γ) s := by
  have hu : ∀ w ∈ uw, w.before args s = true := fun w h => hts w (uw_tbl h)
  have hA : ∀ a : Nat, a < s.heap.size → ¬ (fun q : Nat => s.heap.size ≤ q) a := fun a h => Nat.not_le.mpr h
  obtain ⟨K, V, hS, hR⟩ := txts hts hall hA
  obtain ⟨c0, i0, k0⟩ := u_known (C := RX0) (T := TX0) (N := 5) hu uin_X0 (hu _ nw_10.2)
  obtain ⟨c1, i1, k1⟩ := u_known (C := RX1) (T := TX1) (N := 3) hu uin_X1 (hu _ nw_41.2)
  obtain ⟨c3, i3, k3⟩ := u_known (C := RX3) (T := TX3) (N := 2) hu uin_X3 (hu _ nw_43.2)
  obtain ⟨c4, i4, k4⟩ := u_known (C := RX4) (T := TX4) (N := 6) hu uin_X4 (hu _ nw_L4.2)
  obtain ⟨c5, i5, k5⟩ := u_known (C := RX5) (T := TX5) (N := 15) hu uin_X5 (hu _ nw_L5.2)
  obtain ⟨aC, kC, pC, C1, C2, C3⟩ := Cond.arrayClass_spec (args := args) (first := s) (o := none) (s := s) (idx := []) (type := .char) (hu _ ac_C)
  obtain ⟨aI, kI, pI, I1, I2, I3⟩ := Cond.arrayClass_spec (args := args) (first := s) (o := none) (s := s) (idx := []) (type := .int) (hu _ aI)
  obtain ⟨aL, kL, pL, L1, L2, L3⟩ := Cond.arrayClass_spec (args := args) (first := s) (o := none) (s := s) (idx := []) (type := .long) (hu _ ac_L)
  obtain ⟨pQ, aQ, kQ, Q1, -, Q2, Q3, Q4⟩ := Cond.arrayOver_spec (args := args) (first := s) (o := none) (s := s) (idx := []) (n := "Linkloom$Address") (hts _ fl_a)
  refine ⟨(l, s.heap.size, (fun c => match c with | 0 => c0 | 1 => c1 | 2 => c3 | 3 => c4 | _ => c5, fun c => match c with | 0 => i0 | 1 => i1 | 2 => i3 | 3 => i4 | _ => i5), (fun k => match k with | 0 => aC | 1 => aI | 2 => aL | _ => aQ), (fun _ _ => 0), (fun _ _ => False), K, V), rfl, rfl, ⟨hS, hR, va_Zof (hts _ fl_l.1) (hts _ fl_i.1) (va_eqt (hall _ fl_s.1)) hA, ⟨vx_Zqof (hts _ fl_l.2.2.1) (hts _ fl_i.2.2) (hall _ fl_s.2.2.1) hA, vx_Zqof (hts _ fl_l.2.2.2) (hts _ fl_i.2.2) (hall _ fl_s.2.2.2) hA⟩, ⟨fun X hX => va_tabs rfl rfl (hts _ (fl_x X hX)), fun Y hY => va_tabs rfl rfl (hts _ (fl_d Y hY))⟩, va_Zqof (hts _ fl_l.2.1) (hts _ fl_i.2.1) (hall _ fl_s.2.1) hA, fun X hX Y hY hne => va_Nc.of (hall _ (fl_c X hX Y hY hne)), va_AO.of (hts _ fl_a)⟩, fun c q hq => ?_, fun k q hq => ?_⟩
  · rcases c with _ | _ | _ | _ | _ | c
    · cases hq; exact k0
    · cases hq; exact k1
    · cases hq; exact k3
    · cases hq; exact k4
    · cases hq; exact k5
    · exact absurd hq (by simp)
  · rcases k with _ | _ | _ | _ | k
    · cases hq; exact ⟨fun n z => ⟨fun k h => (by cases h), kC, C2, pC, C3⟩, C1⟩
    · cases hq; exact ⟨fun n z => ⟨fun k h => (by cases h), kI, I2, pI, I3⟩, I1⟩
    · cases hq; exact ⟨fun n z => ⟨fun k h => (by cases h), kL, L2, pL, L3⟩, L1⟩
    · cases hq; exact ⟨fun n z => ⟨fun k h => (by cases h), kQ, Q2, pQ, Q3⟩, kQ, pQ, Q2, Q3, Q1, Q4⟩
    · exact absurd hq (by simp [tysG])
-- ===== YOUR PART BEGINS =====
/-- YOUR PART: from the entry, for every script of at most 2048 ints, the law comes to its end with true ('hflags': the launch's flags, for a law that throws: no stack traces) -/
theorem whole_start {p : Program} {e : Env} {s : State} {m : MethodId} {below : List Frame} {meth : Method} {c : Code} (l : Launch) (hflags : l.flags = flags0) {b L : Nat} {xs : Nat → Int32} (hL : L ≤ 2048) (C0 : lw_At p s m meth c b L xs) : W p l e room_1 s m #[Value.ref b] below meth c s.heap [] 0 0 (lw_Z below #[Value.ref b] s) (entryFrame m ([Value.ref b] : List Value).toArray 7) := by
  obtain ⟨hx, hb, hr, hml, hown, hts, hX, hbl, hlk, hgv⟩ := C0
  obtain ⟨γ, g1, g2, hB, hK⟩ := mkG (l := l) hts (flat_of_before _ hgv)
  subst g1
  have hst : (gl γ).stackTraces = false := by
    unfold Launch.stackTraces
    rw [hflags]
    decide
  rw [lg_entry_eq]
  exact lw_go (γ := γ) hL p e s m #[.ref b] below meth c s.heap [] _ ⟨hx, hb, hr, hml, hown, fun w hw => hts w (uw_tbl hw), hlk, hK, hB, Nat.le_of_eq g2, hX, hbl, (by show ¬ gB γ ≤ b; omega), g2, rfl, Nst.of hts⟩ va_S.rf ⟨fun k i h => h.elim, fun k q hq => absurd hq (by simp)⟩ (Gok.ofD (em_E γ) hst ⟨fun i j p q hp => absurd hp (by simp), fun k q hq => absurd hq (by simp)⟩) (Lc.entry (L := [.ref b].map some ++ List.replicate 6 none) [.ref b] (Nat.le_of_ble_eq_true rfl) (args1 rfl))
-- ===== YOUR PART ENDS =====
set_option maxHeartbeats 4000000 in
theorem lw_walk (l : Launch) (hflags : l.flags = flags0) (b : Addr) (xs : List Int32) : MetFree l x (headSpec (Jvm.Cond.code x code maxLocals ret :: tables_1) room_1) (lw_P b xs) (fun _ _ _ _ _ => True) lw_Q := by
  refine MetFree.of_bodyS (code := code) (maxLocals := maxLocals) (ret := ret) (by decide) ?_ ?_
  · intro args s m h hn
    obtain ⟨meth, c, h1, h2, h3, h4, h5, h6, -, -⟩ := Cond.code_spec hn (atoms_spec (ws := Jvm.Cond.code x code maxLocals ret :: tables_1) h _ List.mem_cons_self)
    exact ⟨meth, c, h1, h2, h3, h4, h5, h6⟩
  · intro p e s m args below meth c s₁ B hml0 hP _
    obtain ⟨rfl, hx, hbd, hgv⟩ := hP
    obtain ⟨scr, harrAt, hlist, hof, hsmall⟩ := hx
    obtain ⟨hcb, hkn, -, -⟩ := State.arrayAt?_spec harrAt
    have hown : s.vm.findClass R_law = some m.cls := findClass_of_methodNamed B.named
    have hts0 : ∀ c ∈ (Jvm.Cond.code x code maxLocals ret :: tables_1), c.before #[Value.ref b] s = true := atoms_spec (ws := Jvm.Cond.code x code maxLocals ret :: tables_1) B.pre
    have hts : ∀ w ∈ lw_tbl, w.before #[Value.ref b] s = true := k2_hts_sels lw_privs (fun w hw => hts0 w (List.mem_cons_of_mem _ hw)) lw_privs_ok
    have hml : c.maxLocals = 7 := B.maxLocals_eq (hts0 _ List.mem_cons_self)
    have X₀ : Stand p l e room_1 s m #[Value.ref b] below meth c s₁ [] 0 0 := Stand.of_body B
    have hh0 : s₁.heap = s.heap := by rw [B.state]; rfl
    have hsz : scr.slots.size = xs.length := by rw [← Array.length_toList, hlist, List.length_map]
    have hval : ∀ j : Nat, j < xs.length → scr.slots[j]? = some (.int (xs.getD j 0)) := fun j hj => by
      rw [← Array.getElem?_toList, hlist]
      simp [hj]
    have hbl : b < s.heap.size := (Array.getElem?_eq_some_iff.mp hcb).1
    have hX : va_X b xs.length (fun j => xs.getD j 0) s s.heap := ⟨scr, hcb, hof, hkn, hsz, hval⟩
    have K : W p l e room_1 s m #[Value.ref b] below meth c s₁.heap [] 0 0 (lw_Z below #[Value.ref b] s) (entryFrame m ([Value.ref b] : List Value).toArray 7) := by
      rw [hh0]
      exact whole_start l hflags hbd ⟨B.exec, B.bytes, B.returns, hml, hown, hts, hX, hbl, B.notSynchronized, hgv⟩
    obtain ⟨t, a1, o, b1, b2, b3⟩ := K s₁ rfl X₀
    exact ⟨t, o, a1, b1, b2, b3⟩
theorem lw_pre_spec {args : Array Value} {s : State} (h : (Jvm.Cond.and given_1 narrow_1).before args s = true) (hr : rest_1_c.before args s = true) : ∃ (b : Addr) (xs : List Int32), lw_P b xs args s := by
  have hs := flat_of_before _ h
  have hq := flat_of_before _ hr
  have hc : (Cond.count 1).before args s = true := hs _ (by decide +kernel)
  have harr : (Cond.arrayOf (.arg 0) .int).before args s = true := hs _ (by decide +kernel)
  have hle : (Cond.le (.length (.arg 0)) (.int 2048)).before args s = true := hs _ (by decide +kernel)
  have hlen : (Cond.isInt (.length (.arg 0))).before args s = true := hq _ (by decide +kernel)
  have hall : (Cond.all (.arg 0) (.isInt (.elem (.arg 0) (.index 0)))).before args s = true := hq _ (by decide +kernel)
  obtain ⟨b, xs, hb, hx⟩ := State.ints_of_pre rfl harr hlen hall
  have hsm : xs.length < 2 ^ 31 := hx.choose_spec.2.2.2
  have hev : (Term.length (.arg 0)).eval args s none [] s = some (.int xs.length.toInt32) := hx.length_eval hb
  have hv := Cond.le_ints hev (show (Term.int 2048).eval args s none [] s = some (.int 2048) from rfl)
  have hd : xs.length.toInt32 ≤ 2048 := by
    simpa [Cond.before, Cond.holds, hv] using hle
  have hN : xs.length ≤ 2048 := (Int32.ofNat_le_ofNat hsm (by decide)).mp (show Int32.ofNat xs.length ≤ Int32.ofNat 2048 from hd)
  exact ⟨b, xs, Cond.one_arg hc (show args[0]? = some (.ref b) from hb), hx, hN, h⟩
theorem lw_comes (l : Launch) (hflags : l.flags = flags0) : Comes l x (Jvm.Cond.code x code maxLocals ret :: tables_1) room_1 (fun tb e args s => Calls_1 tb e args s ∧ rest_1 tb e args s ∧ Pre_1 tb e args s)
    (fun _ _ args s o t => lw_Q args s o t) := by
  intro p e ha hc hk s m args below hf hfit hheap happ hpre
  obtain ⟨b, xs, hP⟩ := lw_pre_spec hpre.2.2 hpre.2.1
  obtain ⟨k, o, h1, h2, h3, hQ⟩ := lw_walk l hflags b xs p e ha hc hk s m args below hf ((Spec.applies_iff_loose hf).mp happ).1 hP trivial
  exact ⟨k, o, h1, h2, h3, hQ⟩
theorem lw_frame {s t : State} {o : Outcome} {args : Array Value} (h : Framed s o t [] 601024 7293034) :
    Framed s o t (fieldLocs frame_1_writes args s ++ arrayLocs frame_1_arrays args s ++ staticLocs frame_1_statics s) 601024 7293034 := h
theorem lw_limb (L : Cond) (hL : ∀ (args : Array Value) (s t : State), L.after args s (.returned (some (.int 1))) t = true) :
    ArmFor flags0 classFile x code maxLocals ret World_1 tables_1 room_1 Calls_1 rest_1 Pre_1
      (fun tb e a s o t => postC L tb e a s o t ∧ Framed s o t (fieldLocs frame_1_writes a s ++ arrayLocs frame_1_arrays a s ++ staticLocs frame_1_statics s) 601024 7293034) := by
  intro l hflags _ _ p e ha hc hk s m args below hf hfit hheap happ hpre
  obtain ⟨k, o, h1, h2, h3, rfl, hF⟩ := lw_comes l hflags p e ha hc hk s m args below hf hfit hheap happ hpre
  exact ⟨k, _, h1, h2, h3, hL args s _, lw_frame hF⟩
theorem i_vc : Claimed_1_1 ∧ Claimed_1_2 := ⟨lw_limb limb_1_1 (fun args s t => by simp [limb_1_1, Cond.after, Cond.holds, Cond.value]), lw_limb limb_1_2 (fun args s t => Cond.after_iff.mpr (by
  first | (rw [show limb_1_2 = Cond.eq .result (.int 1) from rfl, Cond.eq_ints (x := 1) (y := 1) rfl rfl]; simp; done) | (simp [limb_1_2, Cond.value, Term.eval]; done)))⟩
