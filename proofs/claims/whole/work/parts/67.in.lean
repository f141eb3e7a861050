/-! THE CONSTRUCTORS: their walks -/
theorem ac_C : Cond.arrayClass .char ∈ uw := uw_at 82 (by decide +kernel)
theorem ac_L : Cond.arrayClass .long ∈ uw := uw_at 1156 (by decide +kernel)
-- what the cells hold
abbrev oT (s : Nat) : va_E := .inr (2, [.ref s, .int (zI 0)])
abbrev oA (t b e : Nat) (v : Int) : va_E := .inr (0, [.ref t, .ref b, .ref e, .int (zI v), .int (zI 0)])
abbrev oC (a t : Nat) : va_E := .inr (1, [.ref a, .ref t, .int (zI 0)])
abbrev oX (t r c l : Nat) : va_E := .inr (3, [.ref t, .ref r, .ref c, .ref l, .int (zI 0), .int (zI 0)])
abbrev cA (γ : Gm) : va_E := .inl (gc γ 0, (128, .inl (fun _ => zI 0)))
abbrev iA (γ : Gm) (N : Nat) (v : Int) : va_E := .inl (gc γ 1, (N, .inl (fun _ => zI v)))
abbrev qA (γ : Gm) (f : Nat → Option Nat) : va_E := .inl (gc γ 3, (4, .inr (.inr (.inr (.inr f)))))
/-- an array's cell looks at no place behind its end -/
theorem arrV_c {c : ClassId} {N : Nat} {f g : Nat → Value} (h : ∀ j, j < N → f j = g j) : arrV c N f = arrV c N g := by
  unfold arrV
  congr 1
  exact congrArg _ (funext fun j => h j.val j.isLt)
theorem at_i {D : va_G} {cl : List vw_C} {a N : Nat} {c : ClassId} {f g : Nat → Int32} {H : Heap} (h : va_at D cl (a, .inl (c, (N, .inl f))) H) (e : ∀ j, j < N → f j = g j) : va_at D cl (a, .inl (c, (N, .inl g))) H := by
  have h : H[a]? = some (arrV c N (fun j => .int (f j))) := h
  show H[a]? = some (arrV c N (fun j => .int (g j)))
  rw [h, arrV_c (fun j hj => by rw [e j hj])]
theorem at_q {D : va_G} {cl : List vw_C} {a N : Nat} {c : ClassId} {f g : Nat → Option Nat} {H : Heap} (h : va_at D cl (a, .inl (c, (N, .inr (.inr (.inr (.inr f)))))) H) (e : ∀ j, j < N → f j = g j) : va_at D cl (a, .inl (c, (N, .inr (.inr (.inr (.inr g)))))) H := by
  have h : H[a]? = some (arrV c N (fun j => va_rf (f j))) := h
  show H[a]? = some (arrV c N (fun j => va_rf (g j)))
  rw [h, arrV_c (fun j hj => by rw [e j hj])]
/-- a state like all else 0, with v in the parts' rows -/
def zS (v : Int) : St := ((fun _ => 0, fun _ _ => 0, fun _ _ => v, fun _ _ => v, fun _ => v, fun _ => false, 0, 0, 0), (fun _ => 0, 0, fun _ => 0, 0, fun _ => 0, fun _ => -1, fun _ => 0, fun _ => 0, fun _ => 0, fun _ => 0, fun _ => 0, 0, 0, 0, 0), 0)
theorem pFg_z (j : Nat) : ∀ k : Int, k ≤ 9 → ∀ σ : St, 0 ≤ k → (∀ q : Nat, (q : Int) < k → bg σ j q = -1 ∧ en σ j q = -1) → (∀ q : Nat, q < 9 → bg (pFgF σ j k) j q = -1 ∧ en (pFgF σ j k) j q = -1) ∧ pt (pFgF σ j k) j = -1 ∧ hld (pFgF σ j k) j = false := by
  refine up (fun k hk ih σ h0 h => ?_)
  rw [pFgF.eq_def]
  by_cases h9 : k < 9
  · rw [if_pos h9]
    refine ih (k + 1) (by omega) (by omega) _ (by omega) (fun q hq => ?_)
    unfold pMk
    rw [if_pos (by omega)]
    show u2 (bg σ) j k.toNat (-1) j q = -1 ∧ u2 (en σ) j k.toNat (-1) j q = -1
    unfold u2
    rw [u1_s, u1_s]
    by_cases hz : q = k.toNat
    · subst hz
      rw [u1_s, u1_s]
      exact ⟨rfl, rfl⟩
    · rw [u1_n _ _ hz, u1_n _ _ hz]
      exact h q (by omega)
  · rw [if_neg h9]
    refine ⟨fun q hq => h q (by omega), ?_, ?_⟩
    · show u1 (pt σ) j (-1) j = -1
      rw [u1_s]
    · show u1 (hld σ) j false j = false
      rw [u1_s]
theorem x0_wholeV {γ : Gm} {σ : St} {xs : va_W} {j : Nat} (v2 : gv γ 2 j) : Ev γ mX0_whole 1 0 0 [.ref (ga γ 2 j)] σ xs (rtn (some (.ref (ga γ 0 j))) σ xs) nX := by
  refine Ev.of1 0 [some (.ref (ga γ 2 j))] rfl pn_X0_whole rfl (Nat.le_of_ble_eq_true rfl) ?_
  refine r_aload_n (q := 1) dX0_whole_0 rfl rfl ?_
  refine g_X0_whole (q := 4) dX0_whole_1 rfl fX0_12 v2 ?_
  refine r_reta dX0_whole_4 rfl (by decide) (by decide) ?_
  exact ⟨rfl, rfl, rfl⟩
def gF (t a b e : Nat) : Nat → Nat → Nat := fun k _ => match k with
  | 0 => t
  | 2 => a
  | 3 => b
  | _ => e
def gVf : Nat → Nat → Prop := fun k i => i = 0 ∧ (k = 2 ∨ k = 3 ∨ k = 4)
theorem va_D.nd {A : Nat → Prop} {xs : va_W} (h : va_D A xs) {i j : Nat} {p q : Nat × va_E} (hp : xs[i]? = some p) (hq : xs[j]? = some q) (hne : i ≠ j) : p.1 ≠ q.1 := fun z => hne (h.1 i j p q hp hq z)
section MK2
variable {γ : Gm} {M : Md} {R : Room} {Z : Array Value → State → Method → Code → Prop} {Q : List Frame → Array Value → State → State → Prop} {c1 n1 pc q : Nat} {L : List (Option Value)} {st : List Value} {σ σ1 : St} {xs xs1 : va_W}
theorem h_icmp_ge {a b off : Int} {tgt : Nat} (hd : decode M.2.1 pc = .ok (.if_icmp .ge off, 3)) (hq : pc + 3 = q) (ht : (pc : Int) + off = (tgt : Int)) (ha : -2147483648 ≤ a ∧ a ≤ 2147483647) (hb : -2147483648 ≤ b ∧ b ≤ 2147483647) (kt : b ≤ a → GW γ M R Z Q c1 n1 tgt L st σ xs) (kf : a < b → GW γ M R Z Q c1 n1 q L st σ xs) : GW γ M R Z Q c1 n1 pc L (.int (zI b) :: .int (zI a) :: st) σ xs := by
  subst hq
  intro p e s m args below meth c H locs ls C hS hC hG hl
  have hcv := zI_ge ha hb
  exact lv_icmp_ge C.1 C.2.1 hd ht (fun h => kt (by have := hcv.mp h; omega) p e s m args below meth c H locs ls C hS hC hG hl) (fun h => kf (by have := mt hcv.mpr h; omega) p e s m args below meth c H locs ls C hS hC hG hl)
abbrev adr (γ : Gm) (a t s b e : Nat) (v : Int) (xs : va_W) : va_W := (e, iA γ 9 v) :: (b, iA γ 9 v) :: (s, cA γ) :: (t, oT s) :: (a, oA t b e v) :: xs
abbrev adw (γ : Gm) (a t s b e : Nat) (xs : va_W) : va_W := (s, cA γ) :: (t, oT s) :: xs
theorem sw3 {a t s b e : Nat} {v : Int} (kk : va_D (fr γ) (adr γ a t s b e v xs) → GW (wg γ (gF t a b e) gVf) M R Z Q c1 n1 pc L st (zS v) (adw γ a t s b e xs)) : GW (em γ) M R Z Q c1 n1 pc L st σ (adr γ a t s b e v xs) := by
  refine GW.sw (fun H hP => ⟨fun k i hv => ?_, ?_⟩) (fun hD h0 => ?_) kk
  · obtain ⟨rfl, rfl | rfl | rfl⟩ := hv
    · exact hP 4 _ rfl
    · exact hP 1 _ rfl
    · exact hP 0 _ rfl
  · exact va_P.cs (hP 2 _ rfl) (va_P.cs (hP 3 _ rfl) hP.tl.tl.tl.tl.tl)
  · have hab : a ≠ b := hD.nd (i := 4) (j := 1) rfl rfl (by decide)
    have hae : a ≠ e := hD.nd (i := 4) (j := 0) rfl rfl (by decide)
    have hbe : b ≠ e := hD.nd (i := 1) (j := 0) rfl rfl (by decide)
    refine ⟨h0, ?_, ?_, ⟨fun i j p q hp hq he => ?_, fun k q hq => ?_⟩, ?_, ?_⟩
    · rintro k i k' i' ⟨rfl, h1⟩ ⟨rfl, h2⟩ he
      rcases h1 with rfl | rfl | rfl <;> rcases h2 with rfl | rfl | rfl <;> first | exact ⟨rfl, rfl⟩ | exact absurd he hab | exact absurd he hae | exact absurd he hbe | exact absurd he.symm hab | exact absurd he.symm hae | exact absurd he.symm hbe
    · rintro k i ⟨rfl, rfl | rfl | rfl⟩
      · exact hD.2 4 _ rfl
      · exact hD.2 1 _ rfl
      · exact hD.2 0 _ rfl
    · have key : ∀ (k : Nat) (q : Nat × va_E), (adw γ a t s b e xs)[k]? = some q → (adr γ a t s b e v xs)[if k < 2 then k + 2 else k + 3]? = some q := by
        intro k q hq
        rcases k with _ | _ | k
        · exact hq
        · exact hq
        · rw [if_neg (by omega)]
          exact hq
      have := hD.1 _ _ p q (key i p hp) (key j q hq) he
      split at this <;> split at this <;> omega
    · rcases k with _ | _ | k
      · exact hD.2 2 _ hq
      · exact hD.2 3 _ hq
      · exact hD.2 (k + 5) _ hq
    · rintro k i ⟨rfl, h1⟩ q hq
      obtain ⟨n, hn⟩ := List.getElem?_of_mem hq
      have key : ∃ m, (adr γ a t s b e v xs)[m]? = some q ∧ m ≠ 4 ∧ m ≠ 1 ∧ m ≠ 0 := by
        rcases n with _ | _ | n
        · exact ⟨2, hn, by decide, by decide, by decide⟩
        · exact ⟨3, hn, by decide, by decide, by decide⟩
        · exact ⟨n + 5, hn, by omega, by omega, by omega⟩
      obtain ⟨m, hm, m1, m2, m3⟩ := key
      rcases h1 with rfl | rfl | rfl
      · exact hD.nd (j := 4) hm rfl m1
      · exact hD.nd (j := 1) hm rfl m2
      · exact hD.nd (j := 0) hm rfl m3
    · rintro k i ⟨rfl, rfl | rfl | rfl⟩ <;> rfl
theorem ws3 {a t s b e : Nat} {v w : Int} {σ' : St} (hD : va_D (fr γ) (adr γ a t s b e v xs)) (h : (∀ q : Nat, q < 9 → bg σ' 0 q = w ∧ en σ' 0 q = w) ∧ pt σ' 0 = w ∧ hld σ' 0 = false) (kk : GW (em γ) M R Z Q c1 n1 pc L st σ (adr γ a t s b e w xs)) : GW (wg γ (gF t a b e) gVf) M R Z Q c1 n1 pc L st σ' (adw γ a t s b e xs) := by
  obtain ⟨h1, h2, h3⟩ := h
  refine GW.ws (xs := adr γ a t s b e w xs) (fun H hC => ?_) (va_D.al (xs := adr γ a t s b e v xs) (ys := adr γ a t s b e w xs) rfl hD) kk
  have c2 := hC.1 2 0 ⟨rfl, Or.inl rfl⟩
  have c3 := hC.1 3 0 ⟨rfl, Or.inr (Or.inl rfl)⟩
  have c4 := hC.1 4 0 ⟨rfl, Or.inr (Or.inr rfl)⟩
  have e2 : ct (wg γ (gF t a b e) gVf) σ' 2 0 = oA t b e w := by
    show Sum.inr (0, [Value.ref t, .ref b, .ref e, .int (zI (pt σ' 0)), .int (zI (bI (hld σ' 0)))]) = _
    rw [h2, h3]
    rfl
  rw [e2] at c2
  exact va_P.cs (at_i c4 (fun j hj => by rw [(h1 j hj).2])) (va_P.cs (at_i c3 (fun j hj => by rw [(h1 j hj).1])) (va_P.cs (hC.2 0 _ rfl) (va_P.cs (hC.2 1 _ rfl) (va_P.cs c2 hC.2.tl.tl))))
theorem mv_forget {a t s b e idx : Nat} (hd : decode M.2.1 pc = .ok (.invokevirtual idx, 3)) (hq : pc + 3 = q) (hlink : Cond.methodLink M.1.cls idx mX0_forget.1 ∈ uw) (hR : 2 + 1 ≤ R.frames ∧ 8 + (mX0_forget.2.2.1 + 11) + 30 * 2 ≤ R.locals) (hk : c1 + 0 ≤ R.cells ∧ n1 + 0 ≤ R.slots) (kk : GW (em γ) M R Z Q c1 n1 q L [] σ (adr γ a t s b e (-1) xs)) : GW (em γ) M R Z Q c1 n1 pc L [.ref a] σ (adr γ a t s b e 0 xs) := by
  refine sw3 (fun hD => ?_)
  have h := pFg_z 0 0 (by decide) (zS 0) (by decide) (fun q hq => absurd hq (by omega))
  refine h_callv (γ := wg γ (gF t a b e) gVf) (My := mX0_forget) (kd := 2) (i := 0) (ci := 0) (As := []) (st := []) hd hq hlink vX0_forget ⟨rfl, Or.inl rfl⟩ rfl rfl rfl (x0_forget (γ := wg γ (gF t a b e) gVf) (j := 0) ⟨rfl, Or.inl rfl⟩ ⟨rfl, Or.inr (Or.inl rfl)⟩ ⟨rfl, Or.inr (Or.inr rfl)⟩) rfl hR hk (by decide) (fun _ _ _ z => z.elim) (fun v σ' xs' hQ => ?_)
  obtain ⟨rfl, rfl, rfl⟩ := hQ
  exact ws3 hD h kk
theorem mv_whole {a t s b e idx : Nat} (hd : decode M.2.1 pc = .ok (.invokevirtual idx, 3)) (hq : pc + 3 = q) (hlink : Cond.methodLink M.1.cls idx mX0_whole.1 ∈ uw) (hR : 1 + 1 ≤ R.frames ∧ 8 + (mX0_whole.2.2.1 + 11) + 30 * 1 ≤ R.locals) (hk : c1 + 0 ≤ R.cells ∧ n1 + 0 ≤ R.slots) (hroom : (st.map fun v => v.category).sum ≤ 8) (kk : GW (em γ) M R Z Q c1 n1 q L (.ref t :: st) σ (adr γ a t s b e (-1) xs)) : GW (em γ) M R Z Q c1 n1 pc L (.ref a :: st) σ (adr γ a t s b e (-1) xs) := by
  refine sw3 (fun hD => ?_)
  refine h_callv (γ := wg γ (gF t a b e) gVf) (My := mX0_whole) (kd := 2) (i := 0) (ci := 0) (As := []) (st := st) hd hq hlink vX0_whole ⟨rfl, Or.inl rfl⟩ rfl rfl rfl (x0_wholeV (γ := wg γ (gF t a b e) gVf) (j := 0) ⟨rfl, Or.inl rfl⟩) rfl hR hk hroom (fun _ _ _ z => z.elim) (fun v σ' xs' hQ => ?_)
  obtain ⟨rfl, rfl, rfl⟩ := hQ
  exact ws3 hD ⟨fun q _ => ⟨rfl, rfl⟩, rfl, rfl⟩ kk
end MK2
section INIT
variable {γ : Gm} {σ : St} {xs : va_W}

set_option maxRecDepth 100000 in
set_option maxHeartbeats 4000000 in
theorem i_text {a : Nat} : EvI (em γ) mX3_init 1 1 128 a σ ((a, .inr (2, [.null, .int (zI 0)])) :: xs) (fun x => ∃ s, x = (s, cA γ) :: (a, oT s) :: xs) := by
  refine EvI.of 0 [some (.ref a)] rfl pn_X3_init (Nat.le_of_ble_eq_true rfl) ?_
  refine h_aload_n (q := 1) dX3_init_0 rfl rfl ?_
  refine h_oinit (q := 4) dX3_init_1 rfl oi_X3 ⟨(Nat.le_of_ble_eq_true rfl), (Nat.le_of_ble_eq_true rfl)⟩ ?_
  refine h_aload_n (q := 5) dX3_init_4 rfl rfl ?_
  refine h_sipush (q := 8) dX3_init_5 rfl (by decide) ?_
  refine h_newC (q := 10) (N := 128) dX3_init_8 rfl rfl (by decide) ac_C (Nat.le_of_ble_eq_true rfl) (Nat.le_of_ble_eq_true rfl) (fun s => ?_)
  refine h_putF (C := RX3) (T := TX3) (ty0 := tyX3) (k := 0) (ix := 1) (ty := .array .char) (q := 13) (em_E γ) (ZI.i rfl) dX3_init_10 rfl rfl fX3_9 uin_X3 tyX3_ok nmX3 rfl (by decide) rfl rfl (by decide +kernel) rfl rfl (Nat.le_of_ble_eq_true rfl) ?_
  exact h_retI dX3_init_13 iok_X3 (Nat.le_of_ble_eq_true rfl) (Nat.le_of_ble_eq_true rfl) ⟨s, rfl⟩
set_option maxRecDepth 100000 in
set_option maxHeartbeats 4000000 in
theorem i_addr {a : Nat} : EvI (em γ) mX0_init 3 4 148 a σ ((a, .inr (0, [.null, .null, .null, .int (zI 0), .int (zI 0)])) :: xs) (fun x => ∃ t s b e, x = adr γ a t s b e (-1) xs) := by
  refine EvI.of 0 [some (.ref a)] rfl pn_X0_init (Nat.le_of_ble_eq_true rfl) ?_
  refine h_aload_n (q := 1) dX0_init_0 rfl rfl ?_
  refine h_oinit (q := 4) dX0_init_1 rfl oi_X0 ⟨(Nat.le_of_ble_eq_true rfl), (Nat.le_of_ble_eq_true rfl)⟩ ?_
  refine h_aload_n (q := 5) dX0_init_4 rfl rfl ?_
  refine h_newO (q := 8) (C := RX3) (T := TX3) (N := 2) (ci := 2) (fs := [.null, .int (zI 0)]) dX0_init_5 rfl ⟨nw_03, nw_43.2, iok_X3.2.1⟩ uin_X3 tyX3_ok rfl (fun j hj => by rcases (show j = 0 ∨ j = 1 by omega) with rfl | rfl <;> rfl) ⟨(Nat.le_of_ble_eq_true rfl), (Nat.le_of_ble_eq_true rfl)⟩ (fun t => ?_)
  refine h_dup (q := 9) dX0_init_8 rfl rfl ?_
  refine h_callN (My := mX3_init) (q := 12) ZI.n dX0_init_9 rfl (fun s h => h.2.2) iok_X3 i_text ⟨(Nat.le_of_ble_eq_true rfl), (Nat.le_of_ble_eq_true rfl)⟩ ⟨(Nat.le_of_ble_eq_true rfl), (Nat.le_of_ble_eq_true rfl)⟩ (Nat.le_of_ble_eq_true rfl) (fun x hx => ?_)
  obtain ⟨s, rfl⟩ := hx
  refine h_putF (C := RX0) (T := TX0) (ty0 := tyX0) (k := 0) (ix := 2) (ty := .object "Linkloom$Text") (q := 15) (em_E γ) (ZI.i rfl) dX0_init_12 rfl rfl fX0_12 uin_X0 tyX0_ok nmX0 rfl (by decide) rfl rfl (by decide +kernel) rfl rfl (Nat.le_of_ble_eq_true rfl) ?_
  refine h_aload_n (q := 16) dX0_init_15 rfl rfl ?_
  refine h_bipush (q := 18) dX0_init_16 rfl (by decide) ?_
  refine h_newI (q := 20) (N := 9) dX0_init_18 rfl rfl (by decide) aI (Nat.le_of_ble_eq_true rfl) (Nat.le_of_ble_eq_true rfl) (fun b => ?_)
  refine h_putF (C := RX0) (T := TX0) (ty0 := tyX0) (k := 1) (ix := 3) (ty := .array .int) (q := 23) (em_E γ) (ZI.i rfl) dX0_init_20 rfl rfl fX0_18 uin_X0 tyX0_ok nmX0 rfl (by decide) rfl rfl (by decide +kernel) rfl rfl (Nat.le_of_ble_eq_true rfl) ?_
  refine h_aload_n (q := 24) dX0_init_23 rfl rfl ?_
  refine h_bipush (q := 26) dX0_init_24 rfl (by decide) ?_
  refine h_newI (q := 28) (N := 9) dX0_init_26 rfl rfl (by decide) aI (Nat.le_of_ble_eq_true rfl) (Nat.le_of_ble_eq_true rfl) (fun e => ?_)
  refine h_putF (C := RX0) (T := TX0) (ty0 := tyX0) (k := 2) (ix := 4) (ty := .array .int) (q := 31) (em_E γ) (ZI.i rfl) dX0_init_28 rfl rfl fX0_22 uin_X0 tyX0_ok nmX0 rfl (by decide) rfl rfl (by decide +kernel) rfl rfl (Nat.le_of_ble_eq_true rfl) ?_
  refine h_aload_n (q := 32) dX0_init_31 rfl rfl ?_
  refine mv_forget (t := t) (s := s) (b := b) (e := e) (q := 35) dX0_init_32 rfl kX0_25 ⟨(Nat.le_of_ble_eq_true rfl), (Nat.le_of_ble_eq_true rfl)⟩ ⟨(Nat.le_of_ble_eq_true rfl), (Nat.le_of_ble_eq_true rfl)⟩ ?_
  exact h_retI dX0_init_35 iok_X0 (Nat.le_of_ble_eq_true rfl) (Nat.le_of_ble_eq_true rfl) ⟨t, s, b, e, rfl⟩
set_option maxRecDepth 100000 in
set_option maxHeartbeats 4000000 in
theorem i_cut {a : Nat} : EvI (em γ) mX1_init 4 5 153 a σ ((a, .inr (1, [.null, .null, .int (zI 0)])) :: xs) (fun x => ∃ p t s b e, x = adr γ p t s b e (-1) ((a, oC p t) :: xs)) := by
  refine EvI.of 0 [some (.ref a)] rfl pn_X1_init (Nat.le_of_ble_eq_true rfl) ?_
  refine h_aload_n (q := 1) dX1_init_0 rfl rfl ?_
  refine h_oinit (q := 4) dX1_init_1 rfl oi_X1 ⟨(Nat.le_of_ble_eq_true rfl), (Nat.le_of_ble_eq_true rfl)⟩ ?_
  refine h_aload_n (q := 5) dX1_init_4 rfl rfl ?_
  refine h_newO (q := 8) (C := RX0) (T := TX0) (N := 5) (ci := 0) (fs := [.null, .null, .null, .int (zI 0), .int (zI 0)]) dX1_init_5 rfl ⟨nw_10.1, nw_10.2, iok_X0.2.1⟩ uin_X0 tyX0_ok rfl (fun j hj => by rcases (show j = 0 ∨ j = 1 ∨ j = 2 ∨ j = 3 ∨ j = 4 by omega) with rfl | rfl | rfl | rfl | rfl <;> rfl) ⟨(Nat.le_of_ble_eq_true rfl), (Nat.le_of_ble_eq_true rfl)⟩ (fun p => ?_)
  refine h_dup (q := 9) dX1_init_8 rfl rfl ?_
  refine h_callI (My := mX0_init) (q := 12) ZI.n dX1_init_9 rfl kX1_11 iok_X0 i_addr ⟨(Nat.le_of_ble_eq_true rfl), (Nat.le_of_ble_eq_true rfl)⟩ ⟨(Nat.le_of_ble_eq_true rfl), (Nat.le_of_ble_eq_true rfl)⟩ (Nat.le_of_ble_eq_true rfl) (fun x hx => ?_)
  obtain ⟨t, s, b, e, rfl⟩ := hx
  refine h_putF (C := RX1) (T := TX1) (ty0 := tyX1) (k := 0) (ix := 5) (ty := .object "Linkloom$Address") (q := 15) (em_E γ) (ZI.i rfl) dX1_init_12 rfl rfl fX1_12 uin_X1 tyX1_ok nmX1 rfl (by decide) rfl rfl (by decide +kernel) rfl rfl (Nat.le_of_ble_eq_true rfl) ?_
  refine h_aload_n (q := 16) dX1_init_15 rfl rfl ?_
  refine h_aload_n (q := 17) dX1_init_16 rfl rfl ?_
  refine h_getX (C := RX1) (T := TX1) (ix := 5) (j := 0) (q := 20) dX1_init_17 rfl rfl fX1_12 uin_X1 rfl (by decide) rfl ?_
  refine mv_whole (t := t) (s := s) (b := b) (e := e) (q := 23) dX1_init_20 rfl kX1_18 ⟨(Nat.le_of_ble_eq_true rfl), (Nat.le_of_ble_eq_true rfl)⟩ ⟨(Nat.le_of_ble_eq_true rfl), (Nat.le_of_ble_eq_true rfl)⟩ (Nat.le_of_ble_eq_true rfl) ?_
  refine h_putF (C := RX1) (T := TX1) (ty0 := tyX1) (k := 1) (ix := 5) (ty := .object "Linkloom$Text") (q := 26) (em_E γ) (ZI.i rfl) dX1_init_23 rfl rfl fX1_22 uin_X1 tyX1_ok nmX1 rfl (by decide) rfl rfl (by decide +kernel) rfl rfl (Nat.le_of_ble_eq_true rfl) ?_
  exact h_retI dX1_init_26 iok_X1 (Nat.le_of_ble_eq_true rfl) (Nat.le_of_ble_eq_true rfl) ⟨p, t, s, b, e, rfl⟩
set_option maxRecDepth 100000 in
set_option maxHeartbeats 4000000 in
theorem i_loom {a : Nat} : EvI (em γ) mX4_init 5 31 1032 a σ ((a, .inr (3, [.null, .null, .null, .null, .int (zI 0), .int (zI 0)])) :: xs) (fun x => ∃ t1 s1 t2 s2 c p t s b e r p0 t0 z0 b0 e0 p1 y1 z1 b1 e1 p2 y2 z2 b2 e2 p3 y3 z3 b3 e3, x = adr γ p3 y3 z3 b3 e3 (-1) (adr γ p2 y2 z2 b2 e2 (-1) (adr γ p1 y1 z1 b1 e1 (-1) (adr γ p0 t0 z0 b0 e0 (-1) ((r, qA γ (va_up (va_up (va_up (va_up (fun _ => none) 0 (some p0)) 1 (some p1)) 2 (some p2)) 3 (some p3))) :: adr γ p t s b e (-1) ((c, oC p t) :: (s2, cA γ) :: (t2, oT s2) :: (s1, cA γ) :: (t1, oT s1) :: (a, oX t1 r c t2) :: xs)))))) := by
  refine EvI.of 1 [some (.ref a), none] rfl pn_X4_init (Nat.le_of_ble_eq_true rfl) ?_
  refine h_aload_n (q := 1) dX4_init_0 rfl rfl ?_
  refine h_oinit (q := 4) dX4_init_1 rfl oi_X4 ⟨(Nat.le_of_ble_eq_true rfl), (Nat.le_of_ble_eq_true rfl)⟩ ?_
  refine h_aload_n (q := 5) dX4_init_4 rfl rfl ?_
  refine h_newO (q := 8) (C := RX3) (T := TX3) (N := 2) (ci := 2) (fs := [.null, .int (zI 0)]) dX4_init_5 rfl ⟨nw_43.1, nw_43.2, iok_X3.2.1⟩ uin_X3 tyX3_ok rfl (fun j hj => by rcases (show j = 0 ∨ j = 1 by omega) with rfl | rfl <;> rfl) ⟨(Nat.le_of_ble_eq_true rfl), (Nat.le_of_ble_eq_true rfl)⟩ (fun t1 => ?_)
  refine h_dup (q := 9) dX4_init_8 rfl rfl ?_
  refine h_callN (My := mX3_init) (q := 12) ZI.n dX4_init_9 rfl (fun s h => h.1) iok_X3 i_text ⟨(Nat.le_of_ble_eq_true rfl), (Nat.le_of_ble_eq_true rfl)⟩ ⟨(Nat.le_of_ble_eq_true rfl), (Nat.le_of_ble_eq_true rfl)⟩ (Nat.le_of_ble_eq_true rfl) (fun x hx => ?_)
  obtain ⟨s1, rfl⟩ := hx
  refine h_putF (C := RX4) (T := TX4) (ty0 := tyX4) (k := 0) (ix := 2) (ty := .object "Linkloom$Text") (q := 15) (em_E γ) (ZI.i rfl) dX4_init_12 rfl rfl fX4_10 uin_X4 tyX4_ok nmX4 rfl (by decide) rfl rfl (by decide +kernel) rfl rfl (Nat.le_of_ble_eq_true rfl) ?_
  refine h_aload_n (q := 16) dX4_init_15 rfl rfl ?_
  refine h_newO (q := 19) (C := RX3) (T := TX3) (N := 2) (ci := 2) (fs := [.null, .int (zI 0)]) dX4_init_16 rfl ⟨nw_43.1, nw_43.2, iok_X3.2.1⟩ uin_X3 tyX3_ok rfl (fun j hj => by rcases (show j = 0 ∨ j = 1 by omega) with rfl | rfl <;> rfl) ⟨(Nat.le_of_ble_eq_true rfl), (Nat.le_of_ble_eq_true rfl)⟩ (fun t2 => ?_)
  refine h_dup (q := 20) dX4_init_19 rfl rfl ?_
  refine h_callN (My := mX3_init) (q := 23) ZI.n dX4_init_20 rfl (fun s h => h.1) iok_X3 i_text ⟨(Nat.le_of_ble_eq_true rfl), (Nat.le_of_ble_eq_true rfl)⟩ ⟨(Nat.le_of_ble_eq_true rfl), (Nat.le_of_ble_eq_true rfl)⟩ (Nat.le_of_ble_eq_true rfl) (fun x hx => ?_)
  obtain ⟨s2, rfl⟩ := hx
  refine h_putF (C := RX4) (T := TX4) (ty0 := tyX4) (k := 3) (ix := 4) (ty := .object "Linkloom$Text") (q := 26) (em_E γ) (ZI.i rfl) dX4_init_23 rfl rfl fX4_16 uin_X4 tyX4_ok nmX4 rfl (by decide) rfl rfl (by decide +kernel) rfl rfl (Nat.le_of_ble_eq_true rfl) ?_
  refine h_aload_n (q := 27) dX4_init_26 rfl rfl ?_
  refine h_newO (q := 30) (C := RX1) (T := TX1) (N := 3) (ci := 1) (fs := [.null, .null, .int (zI 0)]) dX4_init_27 rfl ⟨nw_41.1, nw_41.2, iok_X1.2.1⟩ uin_X1 tyX1_ok rfl (fun j hj => by rcases (show j = 0 ∨ j = 1 ∨ j = 2 by omega) with rfl | rfl | rfl <;> rfl) ⟨(Nat.le_of_ble_eq_true rfl), (Nat.le_of_ble_eq_true rfl)⟩ (fun c => ?_)
  refine h_dup (q := 31) dX4_init_30 rfl rfl ?_
  refine h_callN (My := mX1_init) (q := 34) ZI.n dX4_init_31 rfl (fun s h => h.2.1) iok_X1 i_cut ⟨(Nat.le_of_ble_eq_true rfl), (Nat.le_of_ble_eq_true rfl)⟩ ⟨(Nat.le_of_ble_eq_true rfl), (Nat.le_of_ble_eq_true rfl)⟩ (Nat.le_of_ble_eq_true rfl) (fun x hx => ?_)
  obtain ⟨p, t, s, b, e, rfl⟩ := hx
  refine h_putF (C := RX4) (T := TX4) (ty0 := tyX4) (k := 2) (ix := 10) (ty := .object "Linkloom$Cutter") (q := 37) (em_E γ) (ZI.i rfl) dX4_init_34 rfl rfl fX4_22 uin_X4 tyX4_ok nmX4 rfl (by decide) rfl rfl (by decide +kernel) rfl rfl (Nat.le_of_ble_eq_true rfl) ?_
  refine h_aload_n (q := 38) dX4_init_37 rfl rfl ?_
  refine h_iconst (q := 39) dX4_init_38 rfl ?_
  refine h_newQ (q := 42) (N := 4) dX4_init_39 rfl nw_40 rfl (by decide) ⟨(Nat.le_of_ble_eq_true rfl), (Nat.le_of_ble_eq_true rfl)⟩ (fun r => ?_)
  refine h_putF (C := RX4) (T := TX4) (ty0 := tyX4) (k := 1) (ix := 11) (ty := .array (.object "Linkloom$Address")) (q := 45) (em_E γ) (ZI.i rfl) dX4_init_42 rfl rfl fX4_28 uin_X4 tyX4_ok nmX4 rfl (by decide) rfl rfl (by decide +kernel) rfl rfl (Nat.le_of_ble_eq_true rfl) ?_
  refine h_iconst (q := 46) dX4_init_45 rfl ?_
  refine h_istore_n (q := 47) dX4_init_46 rfl (Nat.le_of_ble_eq_true rfl) (Lst.setL rfl rfl) ?_
  refine h_iload_n (q := 48) dX4_init_47 rfl rfl ?_
  refine h_aload_n (q := 49) dX4_init_48 rfl rfl ?_
  refine h_getX (C := RX4) (T := TX4) (ix := 11) (j := 1) (q := 52) dX4_init_49 rfl rfl fX4_28 uin_X4 rfl (by decide) rfl ?_
  refine h_alenX (ix := 0) (t0 := 3) (z := 4) (q := 53) dX4_init_52 rfl rfl rfl rfl ?_
  refine h_icmp_ge (q := 56) (tgt := 75) dX4_init_53 rfl (by decide) (by decide) (by decide) (fun z => absurd z (by decide)) (fun _ => ?_)
  refine h_aload_n (q := 57) dX4_init_56 rfl rfl ?_
  refine h_getX (C := RX4) (T := TX4) (ix := 11) (j := 1) (q := 60) dX4_init_57 rfl rfl fX4_28 uin_X4 rfl (by decide) rfl ?_
  refine h_iload_n (q := 61) dX4_init_60 rfl rfl ?_
  refine h_newO (q := 64) (C := RX0) (T := TX0) (N := 5) (ci := 0) (fs := [.null, .null, .null, .int (zI 0), .int (zI 0)]) dX4_init_61 rfl ⟨nw_40, nw_10.2, iok_X0.2.1⟩ uin_X0 tyX0_ok rfl (fun j hj => by rcases (show j = 0 ∨ j = 1 ∨ j = 2 ∨ j = 3 ∨ j = 4 by omega) with rfl | rfl | rfl | rfl | rfl <;> rfl) ⟨(Nat.le_of_ble_eq_true rfl), (Nat.le_of_ble_eq_true rfl)⟩ (fun p0 => ?_)
  refine h_dup (q := 65) dX4_init_64 rfl rfl ?_
  refine h_callI (My := mX0_init) (q := 68) ZI.n dX4_init_65 rfl kX4_32 iok_X0 i_addr ⟨(Nat.le_of_ble_eq_true rfl), (Nat.le_of_ble_eq_true rfl)⟩ ⟨(Nat.le_of_ble_eq_true rfl), (Nat.le_of_ble_eq_true rfl)⟩ (Nat.le_of_ble_eq_true rfl) (fun x hx => ?_)
  obtain ⟨t0, z0, b0, e0, rfl⟩ := hx
  refine h_astX (ix := 5) (jx := 4) (q := 69) (em_E γ) dX4_init_68 rfl rfl rfl (by decide) ?_
  refine h_iinc (q := 72) dX4_init_69 rfl rfl (Nat.le_of_ble_eq_true rfl) (Lst.setL rfl rfl) ?_
  refine h_goto (q := 47) dX4_init_72 (by decide) ?_
  refine h_iload_n (q := 48) dX4_init_47 rfl rfl ?_
  refine h_aload_n (q := 49) dX4_init_48 rfl rfl ?_
  refine h_getX (C := RX4) (T := TX4) (ix := 16) (j := 1) (q := 52) dX4_init_49 rfl rfl fX4_28 uin_X4 rfl (by decide) rfl ?_
  refine h_alenX (ix := 5) (t0 := 3) (z := 4) (q := 53) dX4_init_52 rfl rfl rfl rfl ?_
  refine h_icmp_ge (q := 56) (tgt := 75) dX4_init_53 rfl (by decide) (by decide) (by decide) (fun z => absurd z (by decide)) (fun _ => ?_)
  refine h_aload_n (q := 57) dX4_init_56 rfl rfl ?_
  refine h_getX (C := RX4) (T := TX4) (ix := 16) (j := 1) (q := 60) dX4_init_57 rfl rfl fX4_28 uin_X4 rfl (by decide) rfl ?_
  refine h_iload_n (q := 61) dX4_init_60 rfl rfl ?_
  refine h_newO (q := 64) (C := RX0) (T := TX0) (N := 5) (ci := 0) (fs := [.null, .null, .null, .int (zI 0), .int (zI 0)]) dX4_init_61 rfl ⟨nw_40, nw_10.2, iok_X0.2.1⟩ uin_X0 tyX0_ok rfl (fun j hj => by rcases (show j = 0 ∨ j = 1 ∨ j = 2 ∨ j = 3 ∨ j = 4 by omega) with rfl | rfl | rfl | rfl | rfl <;> rfl) ⟨(Nat.le_of_ble_eq_true rfl), (Nat.le_of_ble_eq_true rfl)⟩ (fun p1 => ?_)
  refine h_dup (q := 65) dX4_init_64 rfl rfl ?_
  refine h_callI (My := mX0_init) (q := 68) ZI.n dX4_init_65 rfl kX4_32 iok_X0 i_addr ⟨(Nat.le_of_ble_eq_true rfl), (Nat.le_of_ble_eq_true rfl)⟩ ⟨(Nat.le_of_ble_eq_true rfl), (Nat.le_of_ble_eq_true rfl)⟩ (Nat.le_of_ble_eq_true rfl) (fun x hx => ?_)
  obtain ⟨y1, z1, b1, e1, rfl⟩ := hx
  refine h_astX (ix := 10) (jx := 4) (q := 69) (em_E γ) dX4_init_68 rfl rfl rfl (by decide) ?_
  refine h_iinc (q := 72) dX4_init_69 rfl rfl (Nat.le_of_ble_eq_true rfl) (Lst.setL rfl rfl) ?_
  refine h_goto (q := 47) dX4_init_72 (by decide) ?_
  refine h_iload_n (q := 48) dX4_init_47 rfl rfl ?_
  refine h_aload_n (q := 49) dX4_init_48 rfl rfl ?_
  refine h_getX (C := RX4) (T := TX4) (ix := 21) (j := 1) (q := 52) dX4_init_49 rfl rfl fX4_28 uin_X4 rfl (by decide) rfl ?_
  refine h_alenX (ix := 10) (t0 := 3) (z := 4) (q := 53) dX4_init_52 rfl rfl rfl rfl ?_
  refine h_icmp_ge (q := 56) (tgt := 75) dX4_init_53 rfl (by decide) (by decide) (by decide) (fun z => absurd z (by decide)) (fun _ => ?_)
  refine h_aload_n (q := 57) dX4_init_56 rfl rfl ?_
  refine h_getX (C := RX4) (T := TX4) (ix := 21) (j := 1) (q := 60) dX4_init_57 rfl rfl fX4_28 uin_X4 rfl (by decide) rfl ?_
  refine h_iload_n (q := 61) dX4_init_60 rfl rfl ?_
  refine h_newO (q := 64) (C := RX0) (T := TX0) (N := 5) (ci := 0) (fs := [.null, .null, .null, .int (zI 0), .int (zI 0)]) dX4_init_61 rfl ⟨nw_40, nw_10.2, iok_X0.2.1⟩ uin_X0 tyX0_ok rfl (fun j hj => by rcases (show j = 0 ∨ j = 1 ∨ j = 2 ∨ j = 3 ∨ j = 4 by omega) with rfl | rfl | rfl | rfl | rfl <;> rfl) ⟨(Nat.le_of_ble_eq_true rfl), (Nat.le_of_ble_eq_true rfl)⟩ (fun p2 => ?_)
  refine h_dup (q := 65) dX4_init_64 rfl rfl ?_
  refine h_callI (My := mX0_init) (q := 68) ZI.n dX4_init_65 rfl kX4_32 iok_X0 i_addr ⟨(Nat.le_of_ble_eq_true rfl), (Nat.le_of_ble_eq_true rfl)⟩ ⟨(Nat.le_of_ble_eq_true rfl), (Nat.le_of_ble_eq_true rfl)⟩ (Nat.le_of_ble_eq_true rfl) (fun x hx => ?_)
  obtain ⟨y2, z2, b2, e2, rfl⟩ := hx
  refine h_astX (ix := 15) (jx := 4) (q := 69) (em_E γ) dX4_init_68 rfl rfl rfl (by decide) ?_
  refine h_iinc (q := 72) dX4_init_69 rfl rfl (Nat.le_of_ble_eq_true rfl) (Lst.setL rfl rfl) ?_
  refine h_goto (q := 47) dX4_init_72 (by decide) ?_
  refine h_iload_n (q := 48) dX4_init_47 rfl rfl ?_
  refine h_aload_n (q := 49) dX4_init_48 rfl rfl ?_
  refine h_getX (C := RX4) (T := TX4) (ix := 26) (j := 1) (q := 52) dX4_init_49 rfl rfl fX4_28 uin_X4 rfl (by decide) rfl ?_
  refine h_alenX (ix := 15) (t0 := 3) (z := 4) (q := 53) dX4_init_52 rfl rfl rfl rfl ?_
  refine h_icmp_ge (q := 56) (tgt := 75) dX4_init_53 rfl (by decide) (by decide) (by decide) (fun z => absurd z (by decide)) (fun _ => ?_)
  refine h_aload_n (q := 57) dX4_init_56 rfl rfl ?_
  refine h_getX (C := RX4) (T := TX4) (ix := 26) (j := 1) (q := 60) dX4_init_57 rfl rfl fX4_28 uin_X4 rfl (by decide) rfl ?_
  refine h_iload_n (q := 61) dX4_init_60 rfl rfl ?_
  refine h_newO (q := 64) (C := RX0) (T := TX0) (N := 5) (ci := 0) (fs := [.null, .null, .null, .int (zI 0), .int (zI 0)]) dX4_init_61 rfl ⟨nw_40, nw_10.2, iok_X0.2.1⟩ uin_X0 tyX0_ok rfl (fun j hj => by rcases (show j = 0 ∨ j = 1 ∨ j = 2 ∨ j = 3 ∨ j = 4 by omega) with rfl | rfl | rfl | rfl | rfl <;> rfl) ⟨(Nat.le_of_ble_eq_true rfl), (Nat.le_of_ble_eq_true rfl)⟩ (fun p3 => ?_)
  refine h_dup (q := 65) dX4_init_64 rfl rfl ?_
  refine h_callI (My := mX0_init) (q := 68) ZI.n dX4_init_65 rfl kX4_32 iok_X0 i_addr ⟨(Nat.le_of_ble_eq_true rfl), (Nat.le_of_ble_eq_true rfl)⟩ ⟨(Nat.le_of_ble_eq_true rfl), (Nat.le_of_ble_eq_true rfl)⟩ (Nat.le_of_ble_eq_true rfl) (fun x hx => ?_)
  obtain ⟨y3, z3, b3, e3, rfl⟩ := hx
  refine h_astX (ix := 20) (jx := 4) (q := 69) (em_E γ) dX4_init_68 rfl rfl rfl (by decide) ?_
  refine h_iinc (q := 72) dX4_init_69 rfl rfl (Nat.le_of_ble_eq_true rfl) (Lst.setL rfl rfl) ?_
  refine h_goto (q := 47) dX4_init_72 (by decide) ?_
  refine h_iload_n (q := 48) dX4_init_47 rfl rfl ?_
  refine h_aload_n (q := 49) dX4_init_48 rfl rfl ?_
  refine h_getX (C := RX4) (T := TX4) (ix := 31) (j := 1) (q := 52) dX4_init_49 rfl rfl fX4_28 uin_X4 rfl (by decide) rfl ?_
  refine h_alenX (ix := 20) (t0 := 3) (z := 4) (q := 53) dX4_init_52 rfl rfl rfl rfl ?_
  refine h_icmp_ge (q := 56) (tgt := 75) dX4_init_53 rfl (by decide) (by decide) (by decide) (fun _ => ?_) (fun z => absurd z (by decide))
  exact h_retI dX4_init_75 iok_X4 (Nat.le_of_ble_eq_true rfl) (Nat.le_of_ble_eq_true rfl) ⟨t1, s1, t2, s2, c, p, t, s, b, e, r, p0, t0, z0, b0, e0, p1, y1, z1, b1, e1, p2, y2, z2, b2, e2, p3, y3, z3, b3, e3, rfl⟩
set_option maxRecDepth 100000 in
set_option maxHeartbeats 4000000 in
theorem i_model {a : Nat} : EvI (em γ) mX5_init 1 9 458 a σ ((a, .inr (4, [.null, .int (zI 0), .null, .int (zI 0), .null, .null, .null, .null, .null, .null, .null, .int (zI 0), .int (zI 0), .int (zI 0), .int (zI 0)])) :: xs) (fun x => ∃ v9 v10 v11 v12 v13 v14 v15 v16 v17, x = (v17, iA γ 9 0) :: (v16, iA γ 9 0) :: (v15, iA γ 4 0) :: (v14, iA γ 36 0) :: (v13, iA γ 36 0) :: (v12, .inl (gc γ 1, (4, .inl (fun j => zI (u1 (u1 (u1 (u1 (fun _ => 0) 0 (-1)) 1 (-1)) 2 (-1)) 3 (-1) j))))) :: (v11, iA γ 240 0) :: (v10, iA γ 60 0) :: (v9, iA γ 60 0) :: (a, .inr (4, [.ref v9, .int (zI 0), .ref v10, .int (zI 0), .ref v11, .ref v12, .ref v13, .ref v14, .ref v15, .ref v16, .ref v17, .int (zI 0), .int (zI 0), .int (zI 0), .int (zI 0)])) :: xs) := by
  refine EvI.of 0 [some (.ref a)] rfl pn_X5_init (Nat.le_of_ble_eq_true rfl) ?_
  refine h_aload_n (q := 1) dX5_init_0 rfl rfl ?_
  refine h_oinit (q := 4) dX5_init_1 rfl oi_X5 ⟨(Nat.le_of_ble_eq_true rfl), (Nat.le_of_ble_eq_true rfl)⟩ ?_
  refine h_aload_n (q := 5) dX5_init_4 rfl rfl ?_
  refine h_bipush (q := 7) dX5_init_5 rfl (by decide) ?_
  refine h_newI (q := 9) (N := 60) dX5_init_7 rfl rfl (by decide) aI (Nat.le_of_ble_eq_true rfl) (Nat.le_of_ble_eq_true rfl) (fun v9 => ?_)
  refine h_putF (C := RX5) (T := TX5) (ty0 := tyX5) (k := 0) (ix := 1) (ty := .array .int) (q := 12) (em_E γ) (ZI.i rfl) dX5_init_9 rfl rfl fX5_7 uin_X5 tyX5_ok nmX5 rfl (by decide) rfl rfl (by decide +kernel) rfl rfl (Nat.le_of_ble_eq_true rfl) ?_
  refine h_aload_n (q := 13) dX5_init_12 rfl rfl ?_
  refine h_bipush (q := 15) dX5_init_13 rfl (by decide) ?_
  refine h_newI (q := 17) (N := 60) dX5_init_15 rfl rfl (by decide) aI (Nat.le_of_ble_eq_true rfl) (Nat.le_of_ble_eq_true rfl) (fun v10 => ?_)
  refine h_putF (C := RX5) (T := TX5) (ty0 := tyX5) (k := 2) (ix := 2) (ty := .array .int) (q := 20) (em_E γ) (ZI.i rfl) dX5_init_17 rfl rfl fX5_13 uin_X5 tyX5_ok nmX5 rfl (by decide) rfl rfl (by decide +kernel) rfl rfl (Nat.le_of_ble_eq_true rfl) ?_
  refine h_aload_n (q := 21) dX5_init_20 rfl rfl ?_
  refine h_sipush (q := 24) dX5_init_21 rfl (by decide) ?_
  refine h_newI (q := 26) (N := 240) dX5_init_24 rfl rfl (by decide) aI (Nat.le_of_ble_eq_true rfl) (Nat.le_of_ble_eq_true rfl) (fun v11 => ?_)
  refine h_putF (C := RX5) (T := TX5) (ty0 := tyX5) (k := 4) (ix := 3) (ty := .array .int) (q := 29) (em_E γ) (ZI.i rfl) dX5_init_26 rfl rfl fX5_16 uin_X5 tyX5_ok nmX5 rfl (by decide) rfl rfl (by decide +kernel) rfl rfl (Nat.le_of_ble_eq_true rfl) ?_
  refine h_aload_n (q := 30) dX5_init_29 rfl rfl ?_
  refine h_iconst (q := 31) dX5_init_30 rfl ?_
  refine h_newI (q := 33) (N := 4) dX5_init_31 rfl rfl (by decide) aI (Nat.le_of_ble_eq_true rfl) (Nat.le_of_ble_eq_true rfl) (fun v12 => ?_)
  refine h_dup (q := 34) dX5_init_33 rfl rfl ?_
  refine h_iconst (q := 35) dX5_init_34 rfl ?_
  refine h_iconst (q := 36) dX5_init_35 rfl ?_
  refine h_xist (ix := 0) (f := (fun _ => 0)) (N := 4) (q := 37) rfl dX5_init_36 rfl (by decide) ?_
  refine h_dup (q := 38) dX5_init_37 rfl rfl ?_
  refine h_iconst (q := 39) dX5_init_38 rfl ?_
  refine h_iconst (q := 40) dX5_init_39 rfl ?_
  refine h_xist (ix := 0) (f := (u1 (fun _ => 0) 0 (-1))) (N := 4) (q := 41) rfl dX5_init_40 rfl (by decide) ?_
  refine h_dup (q := 42) dX5_init_41 rfl rfl ?_
  refine h_iconst (q := 43) dX5_init_42 rfl ?_
  refine h_iconst (q := 44) dX5_init_43 rfl ?_
  refine h_xist (ix := 0) (f := (u1 (u1 (fun _ => 0) 0 (-1)) 1 (-1))) (N := 4) (q := 45) rfl dX5_init_44 rfl (by decide) ?_
  refine h_dup (q := 46) dX5_init_45 rfl rfl ?_
  refine h_iconst (q := 47) dX5_init_46 rfl ?_
  refine h_iconst (q := 48) dX5_init_47 rfl ?_
  refine h_xist (ix := 0) (f := (u1 (u1 (u1 (fun _ => 0) 0 (-1)) 1 (-1)) 2 (-1))) (N := 4) (q := 49) rfl dX5_init_48 rfl (by decide) ?_
  refine h_putF (C := RX5) (T := TX5) (ty0 := tyX5) (k := 5) (ix := 4) (ty := .array .int) (q := 52) (em_E γ) (ZI.i rfl) dX5_init_49 rfl rfl fX5_19 uin_X5 tyX5_ok nmX5 rfl (by decide) rfl rfl (by decide +kernel) rfl rfl (Nat.le_of_ble_eq_true rfl) ?_
  refine h_aload_n (q := 53) dX5_init_52 rfl rfl ?_
  refine h_bipush (q := 55) dX5_init_53 rfl (by decide) ?_
  refine h_newI (q := 57) (N := 36) dX5_init_55 rfl rfl (by decide) aI (Nat.le_of_ble_eq_true rfl) (Nat.le_of_ble_eq_true rfl) (fun v13 => ?_)
  refine h_putF (C := RX5) (T := TX5) (ty0 := tyX5) (k := 6) (ix := 5) (ty := .array .int) (q := 60) (em_E γ) (ZI.i rfl) dX5_init_57 rfl rfl fX5_22 uin_X5 tyX5_ok nmX5 rfl (by decide) rfl rfl (by decide +kernel) rfl rfl (Nat.le_of_ble_eq_true rfl) ?_
  refine h_aload_n (q := 61) dX5_init_60 rfl rfl ?_
  refine h_bipush (q := 63) dX5_init_61 rfl (by decide) ?_
  refine h_newI (q := 65) (N := 36) dX5_init_63 rfl rfl (by decide) aI (Nat.le_of_ble_eq_true rfl) (Nat.le_of_ble_eq_true rfl) (fun v14 => ?_)
  refine h_putF (C := RX5) (T := TX5) (ty0 := tyX5) (k := 7) (ix := 6) (ty := .array .int) (q := 68) (em_E γ) (ZI.i rfl) dX5_init_65 rfl rfl fX5_25 uin_X5 tyX5_ok nmX5 rfl (by decide) rfl rfl (by decide +kernel) rfl rfl (Nat.le_of_ble_eq_true rfl) ?_
  refine h_aload_n (q := 69) dX5_init_68 rfl rfl ?_
  refine h_iconst (q := 70) dX5_init_69 rfl ?_
  refine h_newI (q := 72) (N := 4) dX5_init_70 rfl rfl (by decide) aI (Nat.le_of_ble_eq_true rfl) (Nat.le_of_ble_eq_true rfl) (fun v15 => ?_)
  refine h_putF (C := RX5) (T := TX5) (ty0 := tyX5) (k := 8) (ix := 7) (ty := .array .int) (q := 75) (em_E γ) (ZI.i rfl) dX5_init_72 rfl rfl fX5_28 uin_X5 tyX5_ok nmX5 rfl (by decide) rfl rfl (by decide +kernel) rfl rfl (Nat.le_of_ble_eq_true rfl) ?_
  refine h_aload_n (q := 76) dX5_init_75 rfl rfl ?_
  refine h_bipush (q := 78) dX5_init_76 rfl (by decide) ?_
  refine h_newI (q := 80) (N := 9) dX5_init_78 rfl rfl (by decide) aI (Nat.le_of_ble_eq_true rfl) (Nat.le_of_ble_eq_true rfl) (fun v16 => ?_)
  refine h_putF (C := RX5) (T := TX5) (ty0 := tyX5) (k := 9) (ix := 8) (ty := .array .int) (q := 83) (em_E γ) (ZI.i rfl) dX5_init_80 rfl rfl fX5_31 uin_X5 tyX5_ok nmX5 rfl (by decide) rfl rfl (by decide +kernel) rfl rfl (Nat.le_of_ble_eq_true rfl) ?_
  refine h_aload_n (q := 84) dX5_init_83 rfl rfl ?_
  refine h_bipush (q := 86) dX5_init_84 rfl (by decide) ?_
  refine h_newI (q := 88) (N := 9) dX5_init_86 rfl rfl (by decide) aI (Nat.le_of_ble_eq_true rfl) (Nat.le_of_ble_eq_true rfl) (fun v17 => ?_)
  refine h_putF (C := RX5) (T := TX5) (ty0 := tyX5) (k := 10) (ix := 9) (ty := .array .int) (q := 91) (em_E γ) (ZI.i rfl) dX5_init_88 rfl rfl fX5_34 uin_X5 tyX5_ok nmX5 rfl (by decide) rfl rfl (by decide +kernel) rfl rfl (Nat.le_of_ble_eq_true rfl) ?_
  exact h_retI dX5_init_91 iok_X5 (Nat.le_of_ble_eq_true rfl) (Nat.le_of_ble_eq_true rfl) ⟨v9, v10, v11, v12, v13, v14, v15, v16, v17, rfl⟩
end INIT
