/-! Text: its methods as functions of the state -/
def Wk (σ : St) : Prop := (∀ i, 0 ≤ cnt σ i ∧ cnt σ i ≤ 128) ∧ (∀ j k, -1 ≤ bg σ j k ∧ bg σ j k ≤ 128) ∧ (∀ j k, -1 ≤ en σ j k ∧ en σ j k ≤ 128) ∧ (∀ j, -1 ≤ pt σ j ∧ pt σ j ≤ 2147483647) ∧ -1 ≤ rf σ ∧ rf σ ≤ 128
def pAt (σ : St) (i : Nat) (p : Int) : Int := if 0 ≤ p ∧ p < cnt σ i ∧ p < 128 then sg σ i p.toNat % 65536 else 0
theorem pAt_rng (σ : St) (i : Nat) (p : Int) : 0 ≤ pAt σ i p ∧ pAt σ i p < 65536 := by unfold pAt; split <;> omega
def pPut (σ : St) (i : Nat) (c : Int) : St := if cnt σ i < 128 then sCnt (sSg σ (u2 (sg σ) i (cnt σ i).toNat c)) (u1 (cnt σ) i (cnt σ i + 1)) else σ
def pShort (σ : St) (i : Nat) (f : Int) : St := if 0 ≤ f ∧ f < cnt σ i then sCnt σ (u1 (cnt σ) i f) else σ
def pPutS (σ : St) (i : Nat) : List Int → St
  | [] => σ
  | c :: l => pPutS (pPut σ i c) i l
def pPutR (σ : St) (i j : Nat) (b e : Int) : St := if b < e then pPutR (pPut σ i (pAt σ j b)) i j (b + 1) e else σ
termination_by (e - b).toNat
decreasing_by omega
def pTak (σ : St) (i j : Nat) (p : Int) : St := if p < cnt σ j ∧ p < 128 then pTak (sSg σ (u2 (sg σ) i p.toNat (pAt σ j p))) i j (p + 1) else sCnt σ (u1 (cnt σ) i (cnt σ j))
termination_by (128 - p).toNat
decreasing_by omega
def nxt (P : Int → Bool) (b e : Int) : Int := if b < e then (if P b = true then b else nxt P (b + 1) e) else e
termination_by (e - b).toNat
decreasing_by omega
def pRng (σ : St) (i j : Nat) (b ob p e : Int) : Bool := if p < e then (if pAt σ i p = pAt σ j (ob + p - b) then pRng σ i j b ob (p + 1) e else false) else true
termination_by (e - p).toNat
decreasing_by omega
/-- the sign at p is one of the text n -/
def isC (t : Int → Int) (n : Nat) (p : Int) : Bool := decide (0 ≤ ixO (tS n) (t p))
theorem nxt_rng (P : Int → Bool) (e : Int) : ∀ b, b ≤ e → b ≤ nxt P b e ∧ nxt P b e ≤ e := by
  refine up (fun p hp ih => ?_)
  unfold nxt
  split
  · split
    · omega
    · have := ih (p + 1) (by omega) (by omega)
      omega
  · omega
theorem Wk_cnt {σ : St} {f : Nat → Int} (h : Wk σ) (hf : ∀ i, 0 ≤ f i ∧ f i ≤ 128) : Wk (sCnt σ f) := ⟨hf, h.2⟩
theorem Wk_sg {σ : St} {f : Nat → Nat → Int} (h : Wk σ) : Wk (sSg σ f) := h
theorem Wk_put {σ : St} (h : Wk σ) (i : Nat) (c : Int) : Wk (pPut σ i c) := by
  unfold pPut
  split
  · refine Wk_cnt (Wk_sg h) (fun j => ?_)
    have h1 := h.1 j
    have h2 := h.1 i
    unfold u1
    split <;> omega
  · exact h
theorem Wk_short {σ : St} (h : Wk σ) (i : Nat) (f : Int) : Wk (pShort σ i f) := by
  unfold pShort
  split
  · refine Wk_cnt h (fun j => ?_)
    have h1 := h.1 j
    have h2 := h.1 i
    unfold u1
    split <;> omega
  · exact h
theorem Wk_putS {i : Nat} : ∀ (l : List Int) {σ : St}, Wk σ → Wk (pPutS σ i l) := by
  intro l
  induction l with
  | nil => intro σ h; exact h
  | cons c l ih => intro σ h; exact ih (Wk_put h i c)
theorem Wk_putR {i j : Nat} {e : Int} : ∀ b, b ≤ e + 1 → ∀ {σ : St}, Wk σ → Wk (pPutR σ i j b e) := by
  refine up (fun p hp ih σ h => ?_)
  unfold pPutR
  split
  · exact ih (p + 1) (by omega) (by omega) (Wk_put h i _)
  · exact h
theorem Wk_putR' {i j : Nat} {b e : Int} {σ : St} (h : Wk σ) : Wk (pPutR σ i j b e) := by
  by_cases hb : b ≤ e + 1
  · exact Wk_putR b hb h
  · unfold pPutR
    rw [if_neg (by omega)]
    exact h
theorem Wk_tak {i j : Nat} : ∀ p : Int, p ≤ 129 → ∀ {σ : St}, Wk σ → Wk (pTak σ i j p) := by
  refine up (fun p hp ih σ h => ?_)
  unfold pTak
  split
  · exact ih (p + 1) (by omega) (by omega) (Wk_sg h)
  · refine Wk_cnt h (fun k => ?_)
    have h1 := h.1 k
    have h2 := h.1 j
    unfold u1
    split <;> omega
section X3
variable {γ : Gm} {σ : St} {xs : va_W} {i j : Nat}
set_option maxRecDepth 100000 in
set_option maxHeartbeats 4000000 in
theorem x3_count (hG : Full γ) (hi : vK 0 i = true) : Ev γ mX3_count 1 0 0 [.ref (ga γ 0 i)] σ xs (rtn (some (.int (zI (cnt σ i)))) σ xs) nX := by
  refine Ev.of1 0 [some (.ref (ga γ 0 i))] rfl pn_X3_count rfl (Nat.le_of_ble_eq_true rfl) ?_
  refine r_aload_n (q := 1) dX3_count_0 rfl rfl ?_
  refine g_X3_count (q := 4) dX3_count_1 rfl fX3_15 (hG _ _ (by first | rfl | exact hi)) ?_
  refine r_reti dX3_count_4 rfl (by decide) (by decide) ?_
  exact ret_i rfl
set_option maxRecDepth 100000 in
set_option maxHeartbeats 4000000 in
theorem x3_at (hG : Full γ) (hi : vK 0 i = true) (hW : Wk σ) {p : Int} (hp : -2147483648 ≤ p ∧ p ≤ 2147483647) : Ev γ mX3_at 1 0 0 [.ref (ga γ 0 i), .int (zI p)] σ xs (rtn (some (.int (zI (pAt σ i p)))) σ xs) nX := by
  refine Ev.of1 0 [some (.ref (ga γ 0 i)), some (.int (zI p))] rfl pn_X3_at rfl (Nat.le_of_ble_eq_true rfl) ?_
  have hc := hW.1 i
  refine r_iload_n (q := 1) dX3_at_0 rfl rfl ?_
  refine r_if_lt (q := 4) (tgt := 30) dX3_at_1 rfl (by decide) (by omega) (fun h1 => ?_) (fun h1 => ?_)
  · refine r_iconst (q := 31) dX3_at_30 rfl ?_
    refine r_retz dX3_at_31 rfl (narC (by omega)) (by decide) (by decide) ?_
    first
      | (exfalso; omega)
      | exact ret_i (by unfold pAt; first | rw [if_pos (by omega)] | rw [if_neg (by omega)])
  · refine r_iload_n (q := 5) dX3_at_4 rfl rfl ?_
    refine r_aload_n (q := 6) dX3_at_5 rfl rfl ?_
    refine g_X3_count (q := 9) dX3_at_6 rfl fX3_15 (hG _ _ (by first | rfl | exact hi)) ?_
    refine r_icmp_ge (q := 12) (tgt := 30) dX3_at_9 rfl (by decide) (by omega) (by omega) (fun h9 => ?_) (fun h9 => ?_)
    · refine r_iconst (q := 31) dX3_at_30 rfl ?_
      refine r_retz dX3_at_31 rfl (narC (by omega)) (by decide) (by decide) ?_
      first
        | (exfalso; omega)
        | exact ret_i (by unfold pAt; first | rw [if_pos (by omega)] | rw [if_neg (by omega)])
    · refine r_iload_n (q := 13) dX3_at_12 rfl rfl ?_
      refine r_aload_n (q := 14) dX3_at_13 rfl rfl ?_
      refine g_X3_signs (q := 17) dX3_at_14 rfl fX3_9 (hG _ _ (by first | rfl | exact hi)) ?_
      refine r_alen (q := 18) (t0 := 0) (z := 128) rfl rfl rfl dX3_at_17 rfl (hG _ _ (by first | rfl | exact hi)) ?_
      refine r_icmp_ge (q := 21) (tgt := 30) dX3_at_18 rfl (by decide) (by omega) (by omega) (fun h18 => ?_) (fun h18 => ?_)
      · refine r_iconst (q := 31) dX3_at_30 rfl ?_
        refine r_retz dX3_at_31 rfl (narC (by omega)) (by decide) (by decide) ?_
        first
          | (exfalso; omega)
          | exact ret_i (by unfold pAt; first | rw [if_pos (by omega)] | rw [if_neg (by omega)])
      · refine r_aload_n (q := 22) dX3_at_21 rfl rfl ?_
        refine g_X3_signs (q := 25) dX3_at_22 rfl fX3_9 (hG _ _ (by first | rfl | exact hi)) ?_
        refine r_iload_n (q := 26) dX3_at_25 rfl rfl ?_
        refine r_cald (q := 27) dX3_at_26 rfl (hG _ _ (by first | rfl | exact hi)) (by omega) ?_
        refine r_goto (q := 31) dX3_at_27 (by decide) ?_
        refine r_retz dX3_at_31 rfl (narC (by omega)) (by decide) (by decide) ?_
        first
          | (exfalso; omega)
          | exact ret_i (by unfold pAt; first | rw [if_pos (by omega)] | rw [if_neg (by omega)])
set_option maxRecDepth 100000 in
set_option maxHeartbeats 4000000 in
theorem x3_put (hG : Full γ) (hi : vK 0 i = true) (hW : Wk σ) {c : Int} : Ev γ mX3_put 1 0 0 [.ref (ga γ 0 i), .int (zI c)] σ xs (rtn none (pPut σ i c) xs) nX := by
  refine Ev.of1 0 [some (.ref (ga γ 0 i)), some (.int (zI c))] rfl pn_X3_put rfl (Nat.le_of_ble_eq_true rfl) ?_
  have hc := hW.1 i
  refine r_aload_n (q := 1) dX3_put_0 rfl rfl ?_
  refine g_X3_count (q := 4) dX3_put_1 rfl fX3_15 (hG _ _ (by first | rfl | exact hi)) ?_
  refine r_if_lt (q := 7) (tgt := 39) dX3_put_4 rfl (by decide) (by omega) (fun h4 => ?_) (fun h4 => ?_)
  · refine r_retv dX3_put_39 rfl (by decide) (by decide) ?_
    first
      | (exfalso; omega)
      | exact ret_v (by unfold pPut; first | (rw [if_pos (by omega)]; rfl) | (rw [if_neg (by omega)]))
  · refine r_aload_n (q := 8) dX3_put_7 rfl rfl ?_
    refine g_X3_count (q := 11) dX3_put_8 rfl fX3_15 (hG _ _ (by first | rfl | exact hi)) ?_
    refine r_aload_n (q := 12) dX3_put_11 rfl rfl ?_
    refine g_X3_signs (q := 15) dX3_put_12 rfl fX3_9 (hG _ _ (by first | rfl | exact hi)) ?_
    refine r_alen (q := 16) (t0 := 0) (z := 128) rfl rfl rfl dX3_put_15 rfl (hG _ _ (by first | rfl | exact hi)) ?_
    refine r_icmp_ge (q := 19) (tgt := 39) dX3_put_16 rfl (by decide) (by omega) (by omega) (fun h16 => ?_) (fun h16 => ?_)
    · refine r_retv dX3_put_39 rfl (by decide) (by decide) ?_
      first
        | (exfalso; omega)
        | exact ret_v (by unfold pPut; first | (rw [if_pos (by omega)]; rfl) | (rw [if_neg (by omega)]))
    · refine r_aload_n (q := 20) dX3_put_19 rfl rfl ?_
      refine g_X3_signs (q := 23) dX3_put_20 rfl fX3_9 (hG _ _ (by first | rfl | exact hi)) ?_
      refine r_aload_n (q := 24) dX3_put_23 rfl rfl ?_
      refine g_X3_count (q := 27) dX3_put_24 rfl fX3_15 (hG _ _ (by first | rfl | exact hi)) ?_
      refine r_iload_n (q := 28) dX3_put_27 rfl rfl ?_
      refine r_cast (q := 29) dX3_put_28 rfl (hG _ _ (by first | rfl | exact hi)) (by omega) ?_
      refine r_aload_n (q := 30) dX3_put_29 rfl rfl ?_
      refine r_dup (q := 31) dX3_put_30 rfl rfl ?_
      refine g_X3_count (q := 34) dX3_put_31 rfl fX3_15 (hG _ _ (by first | rfl | exact hi)) ?_
      refine r_iconst (q := 35) dX3_put_34 rfl ?_
      refine r_iadd (q := 36) dX3_put_35 rfl ?_
      refine p_X3_count (q := 39) dX3_put_36 rfl fX3_15 (hG _ _ (by first | rfl | exact hi)) ?_
      refine r_retv dX3_put_39 rfl (by decide) (by decide) ?_
      first
        | (exfalso; omega)
        | exact ret_v (by unfold pPut; first | (rw [if_pos (by omega)]; rfl) | (rw [if_neg (by omega)]))
set_option maxRecDepth 100000 in
set_option maxHeartbeats 4000000 in
theorem x3_shorten (hG : Full γ) (hi : vK 0 i = true) (hW : Wk σ) {p : Int} (hp : -2147483648 ≤ p ∧ p ≤ 2147483647) : Ev γ mX3_shorten 1 0 0 [.ref (ga γ 0 i), .int (zI p)] σ xs (rtn none (pShort σ i p) xs) nX := by
  refine Ev.of1 0 [some (.ref (ga γ 0 i)), some (.int (zI p))] rfl pn_X3_shorten rfl (Nat.le_of_ble_eq_true rfl) ?_
  have hc := hW.1 i
  refine r_iload_n (q := 1) dX3_shorten_0 rfl rfl ?_
  refine r_if_lt (q := 4) (tgt := 17) dX3_shorten_1 rfl (by decide) (by omega) (fun h1 => ?_) (fun h1 => ?_)
  · refine r_retv dX3_shorten_17 rfl (by decide) (by decide) ?_
    exact ret_v (by unfold pShort; first | (rw [if_pos (by omega)]) | (rw [if_neg (by omega)]))
  · refine r_iload_n (q := 5) dX3_shorten_4 rfl rfl ?_
    refine r_aload_n (q := 6) dX3_shorten_5 rfl rfl ?_
    refine g_X3_count (q := 9) dX3_shorten_6 rfl fX3_15 (hG _ _ (by first | rfl | exact hi)) ?_
    refine r_icmp_ge (q := 12) (tgt := 17) dX3_shorten_9 rfl (by decide) (by omega) (by omega) (fun h9 => ?_) (fun h9 => ?_)
    · refine r_retv dX3_shorten_17 rfl (by decide) (by decide) ?_
      exact ret_v (by unfold pShort; first | (rw [if_pos (by omega)]) | (rw [if_neg (by omega)]))
    · refine r_aload_n (q := 13) dX3_shorten_12 rfl rfl ?_
      refine r_iload_n (q := 14) dX3_shorten_13 rfl rfl ?_
      refine p_X3_count (q := 17) dX3_shorten_14 rfl fX3_15 (hG _ _ (by first | rfl | exact hi)) ?_
      refine r_retv dX3_shorten_17 rfl (by decide) (by decide) ?_
      exact ret_v (by unfold pShort; first | (rw [if_pos (by omega)]) | (rw [if_neg (by omega)]))
theorem drop_get {l : List Int} {p : Int} (h0 : 0 ≤ p) (h1 : p < l.length) : l.drop p.toNat = l.getD p.toNat 0 :: l.drop (p + 1).toNat := by
  have hl : p.toNat < l.length := by omega
  rw [List.drop_eq_getElem_cons hl, List.getD_eq_getElem?_getD, List.getElem?_eq_getElem hl, show (p + 1).toNat = p.toNat + 1 by omega]
  rfl
set_option maxRecDepth 100000 in
set_option maxHeartbeats 4000000 in
theorem x3_putAll (hG : Full γ) (hi : vK 0 i = true) (hW : Wk σ) {w : Nat} (hw : w < nS) : Ev γ mX3_putAll 5 0 0 [.ref (ga γ 0 i), .ref (gK γ w)] σ xs (rtn none (pPutS σ i (tS w)) xs) nX := by
  refine Ev.of1 1 [some (.ref (ga γ 0 i)), some (.ref (gK γ w)), none] rfl pn_X3_putAll rfl (Nat.le_of_ble_eq_true rfl) ?_
  have hlen := (tS_ok w hw).1
  have loop : ∀ p : Int, p ≤ (tS w).length → ∀ σ1 : St, Wk σ1 → 0 ≤ p → pPutS σ1 i ((tS w).drop p.toNat) = pPutS σ i (tS w) → RW γ mX3_putAll 5 0 0 (rtn none (pPutS σ i (tS w)) xs) nX 0 0 2 [some (.ref (ga γ 0 i)), some (.ref (gK γ w)), some (.int (zI p))] [] σ1 xs := by
    refine up (fun p hp ih σ1 hW h0 hr => ?_)
    refine r_iload_n (q := 3) dX3_putAll_2 rfl rfl ?_
    refine r_aload_n (q := 4) dX3_putAll_3 rfl rfl ?_
    refine cT_0 (My := mJ0_length_8abf5) (q := 7) dX3_putAll_4 rfl kX3_19 vJ0_length_8abf5 hw rfl (j_length hw) ⟨by decide, by decide⟩ ⟨by decide, by decide⟩ (Nat.le_of_ble_eq_true rfl) ?_
    refine r_icmp_ge (q := 10) (tgt := 25) dX3_putAll_7 rfl (by decide) (by have := (tS_ok w hw).1; omega) (by have := (tS_ok w hw).1; omega) (fun h7 => ?_) (fun h7 => ?_)
    · refine r_retv dX3_putAll_25 rfl (by decide) (by decide) ?_
      exact ret_v (by rw [← hr, List.drop_eq_nil_iff.mpr (by omega)]; rfl)
    · refine r_aload_n (q := 11) dX3_putAll_10 rfl rfl ?_
      refine r_aload_n (q := 12) dX3_putAll_11 rfl rfl ?_
      refine r_iload_n (q := 13) dX3_putAll_12 rfl rfl ?_
      refine cT_1 (My := mJ0_charAt_5068e) (q := 16) dX3_putAll_13 rfl kX3_25 vJ0_charAt_5068e hw rfl (j_charAt hw (by omega)) ⟨by decide, by decide⟩ ⟨by decide, by decide⟩ (Nat.le_of_ble_eq_true rfl) ?_
      refine cX3_1v (My := mX3_put) (q := 19) dX3_putAll_16 rfl kX3_29 vX3_put (hG _ _ (by first | rfl | exact hi)) rfl (x3_put hG (by first | exact hi | exact hj) (by assumption)) ⟨by decide, by decide⟩ ⟨by decide, by decide⟩ (Nat.le_of_ble_eq_true rfl) ?_
      refine r_iinc (q := 22) dX3_putAll_19 rfl rfl (by decide) (Lst.setL rfl rfl) ?_
      refine r_goto (q := 2) dX3_putAll_22 (by decide) ?_
      exact ih (p + 1) (by omega) (by omega) _ (Wk_put hW i _) (by omega) (by rw [← hr, drop_get (p := p) (by omega) (by omega)]; rfl)
  refine r_iconst (q := 1) dX3_putAll_0 rfl ?_
  refine r_istore_n (q := 2) dX3_putAll_1 rfl (by decide) (Lst.setL rfl rfl) ?_
  exact loop 0 (by omega) σ hW (by omega) rfl
set_option maxRecDepth 100000 in
set_option maxHeartbeats 4000000 in
theorem x3_putRange (hG : Full γ) (hi : vK 0 i = true) (hj : vK 0 j = true) (hW : Wk σ) {b e : Int} (hb : -300 ≤ b ∧ -300 ≤ e) (he : b ≤ 300 ∧ e ≤ 300) : Ev γ mX3_putRange 2 0 0 [.ref (ga γ 0 i), .ref (ga γ 0 j), .int (zI b), .int (zI e)] σ xs (rtn none (pPutR σ i j b e) xs) nX := by
  refine Ev.of1 1 [some (.ref (ga γ 0 i)), some (.ref (ga γ 0 j)), some (.int (zI b)), some (.int (zI e)), none] rfl pn_X3_putRange rfl (Nat.le_of_ble_eq_true rfl) ?_
  have loop : ∀ p : Int, p ≤ 301 → ∀ σ1 : St, Wk σ1 → b ≤ p → pPutR σ1 i j p e = pPutR σ i j b e → RW γ mX3_putRange 2 0 0 (rtn none (pPutR σ i j b e) xs) nX 0 0 3 [some (.ref (ga γ 0 i)), some (.ref (ga γ 0 j)), some (.int (zI b)), some (.int (zI e)), some (.int (zI p))] [] σ1 xs := by
    refine up (fun p hp ih σ1 hW h0 hr => ?_)
    refine r_iload (q := 5) dX3_putRange_3 rfl rfl ?_
    refine r_iload_n (q := 6) dX3_putRange_5 rfl rfl ?_
    refine r_icmp_ge (q := 9) (tgt := 25) dX3_putRange_6 rfl (by decide) (by omega) (by omega) (fun h6 => ?_) (fun h6 => ?_)
    · refine r_retv dX3_putRange_25 rfl (by decide) (by decide) ?_
      exact ret_v (by rw [← hr]; unfold pPutR; rw [if_neg (by omega)])
    · refine r_aload_n (q := 10) dX3_putRange_9 rfl rfl ?_
      refine r_aload_n (q := 11) dX3_putRange_10 rfl rfl ?_
      refine r_iload (q := 13) dX3_putRange_11 rfl rfl ?_
      refine cX3_1 (My := mX3_at) (q := 16) dX3_putRange_13 rfl kX3_33 vX3_at (hG _ _ (by first | rfl | exact hi | exact hj)) rfl (x3_at hG (by first | exact hi | exact hj) (by assumption) (by omega)) ⟨by decide, by decide⟩ ⟨by decide, by decide⟩ (Nat.le_of_ble_eq_true rfl) ?_
      refine cX3_1v (My := mX3_put) (q := 19) dX3_putRange_16 rfl kX3_29 vX3_put (hG _ _ (by first | rfl | exact hi | exact hj)) rfl (x3_put hG (by first | exact hi | exact hj) (by assumption)) ⟨by decide, by decide⟩ ⟨by decide, by decide⟩ (Nat.le_of_ble_eq_true rfl) ?_
      refine r_iinc (q := 22) dX3_putRange_19 rfl rfl (by decide) (Lst.setL rfl rfl) ?_
      refine r_goto (q := 3) dX3_putRange_22 (by decide) ?_
      exact ih (p + 1) (by omega) (by omega) _ (Wk_put hW i _) (by omega) (by rw [← hr, pPutR.eq_def σ1 i j p e, if_pos (by omega)])
  refine r_iload_n (q := 1) dX3_putRange_0 rfl rfl ?_
  refine r_istore (q := 3) dX3_putRange_1 rfl (by decide) (Lst.setL rfl rfl) ?_
  exact loop b (by omega) σ hW (by omega) rfl
set_option maxRecDepth 100000 in
set_option maxHeartbeats 4000000 in
theorem x3_takeOver (hG : Full γ) (hi : vK 0 i = true) (hj : vK 0 j = true) (hW : Wk σ) : Ev γ mX3_takeOver 2 0 0 [.ref (ga γ 0 i), .ref (ga γ 0 j)] σ xs (rtn none (pTak σ i j 0) xs) nX := by
  refine Ev.of1 1 [some (.ref (ga γ 0 i)), some (.ref (ga γ 0 j)), none] rfl pn_X3_takeOver rfl (Nat.le_of_ble_eq_true rfl) ?_
  have loop : ∀ p : Int, p ≤ 200 → ∀ σ1 : St, Wk σ1 → 0 ≤ p → pTak σ1 i j p = pTak σ i j 0 → RW γ mX3_takeOver 2 0 0 (rtn none (pTak σ i j 0) xs) nX 0 0 2 [some (.ref (ga γ 0 i)), some (.ref (ga γ 0 j)), some (.int (zI p))] [] σ1 xs := by
    refine up (fun p hp ih σ1 hW h0 hr => ?_)
    refine r_iload_n (q := 3) dX3_takeOver_2 rfl rfl ?_
    refine r_aload_n (q := 4) dX3_takeOver_3 rfl rfl ?_
    refine g_X3_count (q := 7) dX3_takeOver_4 rfl fX3_15 (hG _ _ (by first | rfl | exact hi | exact hj)) ?_
    refine r_icmp_ge (q := 10) (tgt := 36) dX3_takeOver_7 rfl (by decide) (by have hc := hW.1 j; omega) (by have hc := hW.1 j; omega) (fun h7 => ?_) (fun h7 => ?_)
    · refine r_aload_n (q := 37) dX3_takeOver_36 rfl rfl ?_
      refine r_aload_n (q := 38) dX3_takeOver_37 rfl rfl ?_
      refine g_X3_count (q := 41) dX3_takeOver_38 rfl fX3_15 (hG _ _ (by first | rfl | exact hi | exact hj)) ?_
      refine p_X3_count (q := 44) dX3_takeOver_41 rfl fX3_15 (hG _ _ (by first | rfl | exact hi | exact hj)) ?_
      refine r_retv dX3_takeOver_44 rfl (by decide) (by decide) ?_
      exact ret_v (by rw [← hr]; unfold pTak; rw [if_neg (by omega)])
    · refine r_iload_n (q := 11) dX3_takeOver_10 rfl rfl ?_
      refine r_aload_n (q := 12) dX3_takeOver_11 rfl rfl ?_
      refine g_X3_signs (q := 15) dX3_takeOver_12 rfl fX3_9 (hG _ _ (by first | rfl | exact hi | exact hj)) ?_
      refine r_alen (q := 16) (t0 := 0) (z := 128) rfl rfl rfl dX3_takeOver_15 rfl (hG _ _ (by first | rfl | exact hi | exact hj)) ?_
      refine r_icmp_ge (q := 19) (tgt := 36) dX3_takeOver_16 rfl (by decide) (by have hc := hW.1 j; omega) (by have hc := hW.1 j; omega) (fun h16 => ?_) (fun h16 => ?_)
      · refine r_aload_n (q := 37) dX3_takeOver_36 rfl rfl ?_
        refine r_aload_n (q := 38) dX3_takeOver_37 rfl rfl ?_
        refine g_X3_count (q := 41) dX3_takeOver_38 rfl fX3_15 (hG _ _ (by first | rfl | exact hi | exact hj)) ?_
        refine p_X3_count (q := 44) dX3_takeOver_41 rfl fX3_15 (hG _ _ (by first | rfl | exact hi | exact hj)) ?_
        refine r_retv dX3_takeOver_44 rfl (by decide) (by decide) ?_
        exact ret_v (by rw [← hr]; unfold pTak; rw [if_neg (by omega)])
      · refine r_aload_n (q := 20) dX3_takeOver_19 rfl rfl ?_
        refine g_X3_signs (q := 23) dX3_takeOver_20 rfl fX3_9 (hG _ _ (by first | rfl | exact hi | exact hj)) ?_
        refine r_iload_n (q := 24) dX3_takeOver_23 rfl rfl ?_
        refine r_aload_n (q := 25) dX3_takeOver_24 rfl rfl ?_
        refine r_iload_n (q := 26) dX3_takeOver_25 rfl rfl ?_
        refine cX3_1 (My := mX3_at) (q := 29) dX3_takeOver_26 rfl kX3_33 vX3_at (hG _ _ (by first | rfl | exact hi | exact hj)) rfl (x3_at hG (by first | exact hi | exact hj) (by assumption) (by omega)) ⟨by decide, by decide⟩ ⟨by decide, by decide⟩ (Nat.le_of_ble_eq_true rfl) ?_
        refine r_cast (q := 30) dX3_takeOver_29 rfl (hG _ _ (by first | rfl | exact hi | exact hj)) (by omega) ?_
        refine r_iinc (q := 33) dX3_takeOver_30 rfl rfl (by decide) (Lst.setL rfl rfl) ?_
        refine r_goto (q := 2) dX3_takeOver_33 (by decide) ?_
        exact ih (p + 1) (by omega) (by omega) _ (Wk_sg hW) (by omega) (by rw [← hr, pTak.eq_def σ1 i j p, if_pos (by omega)])
  refine r_iconst (q := 1) dX3_takeOver_0 rfl ?_
  refine r_istore_n (q := 2) dX3_takeOver_1 rfl (by decide) (Lst.setL rfl rfl) ?_
  exact loop 0 (by omega) σ hW (by omega) rfl
set_option maxRecDepth 100000 in
set_option maxHeartbeats 4000000 in
theorem x3_next (hG : Full γ) (hi : vK 0 i = true) (hW : Wk σ) {w : Nat} (hw : w < nS) {b e : Int} (hb : -300 ≤ b ∧ -300 ≤ e) (he : b ≤ 300 ∧ e ≤ 300) : Ev γ mX3_next 5 0 0 [.ref (ga γ 0 i), .ref (gK γ w), .int (zI b), .int (zI e)] σ xs (rtn (some (.int (zI (nxt (isC (pAt σ i) w) b e)))) σ xs) nX := by
  refine Ev.of1 1 [some (.ref (ga γ 0 i)), some (.ref (gK γ w)), some (.int (zI b)), some (.int (zI e)), none] rfl pn_X3_next rfl (Nat.le_of_ble_eq_true rfl) ?_
  have loop : ∀ p : Int, p ≤ 301 → b ≤ p → nxt (isC (pAt σ i) w) p e = nxt (isC (pAt σ i) w) b e → RW γ mX3_next 5 0 0 (rtn (some (.int (zI (nxt (isC (pAt σ i) w) b e)))) σ xs) nX 0 0 3 [some (.ref (ga γ 0 i)), some (.ref (gK γ w)), some (.int (zI b)), some (.int (zI e)), some (.int (zI p))] [] σ xs := by
    refine up (fun p hp ih h0 hr => ?_)
    refine r_iload (q := 5) dX3_next_3 rfl rfl ?_
    refine r_iload_n (q := 6) dX3_next_5 rfl rfl ?_
    refine r_icmp_ge (q := 9) (tgt := 31) dX3_next_6 rfl (by decide) (by have h9 := ixO_rng w hw (pAt σ i p); omega) (by have h9 := ixO_rng w hw (pAt σ i p); omega) (fun h6 => ?_) (fun h6 => ?_)
    · refine r_iload_n (q := 32) dX3_next_31 rfl rfl ?_
      refine r_reti dX3_next_32 rfl (by decide) (by decide) ?_
      first
        | exact ret_i (by rw [← hr]; unfold nxt; rw [if_neg (by omega)])
        | exact ret_i (by rw [← hr]; unfold nxt; rw [if_pos (by omega), if_pos (by unfold isC; simp; omega)])
    · refine r_aload_n (q := 10) dX3_next_9 rfl rfl ?_
      refine r_aload_n (q := 11) dX3_next_10 rfl rfl ?_
      refine r_iload (q := 13) dX3_next_11 rfl rfl ?_
      refine cX3_1 (My := mX3_at) (q := 16) dX3_next_13 rfl kX3_33 vX3_at (hG _ _ (by first | rfl | exact hi)) rfl (x3_at hG (by first | exact hi | exact hj) (by assumption) (by omega)) ⟨by decide, by decide⟩ ⟨by decide, by decide⟩ (Nat.le_of_ble_eq_true rfl) ?_
      refine cT_1 (My := mJ0_indexOf_0f7a4) (q := 19) dX3_next_16 rfl kX3_36 vJ0_indexOf_0f7a4 hw rfl (j_indexOf hw (by have h9 := pAt_rng σ i p; omega)) ⟨by decide, by decide⟩ ⟨by decide, by decide⟩ (Nat.le_of_ble_eq_true rfl) ?_
      refine r_if_lt (q := 22) (tgt := 25) dX3_next_19 rfl (by decide) (by have h9 := ixO_rng w hw (pAt σ i p); omega) (fun h19 => ?_) (fun h19 => ?_)
      · refine r_iinc (q := 28) dX3_next_25 rfl rfl (by decide) (Lst.setL rfl rfl) ?_
        refine r_goto (q := 3) dX3_next_28 (by decide) ?_
        exact ih (p + 1) (by omega) (by omega) (by omega) (by rw [← hr, nxt.eq_def (isC (pAt σ i) w) p e, if_pos (by omega), if_neg (by unfold isC; simp; omega)])
      · refine r_iload (q := 24) dX3_next_22 rfl rfl ?_
        refine r_reti dX3_next_24 rfl (by decide) (by decide) ?_
        first
          | exact ret_i (by rw [← hr]; unfold nxt; rw [if_neg (by omega)])
          | exact ret_i (by rw [← hr]; unfold nxt; rw [if_pos (by omega), if_pos (by unfold isC; simp; omega)])
  refine r_iload_n (q := 1) dX3_next_0 rfl rfl ?_
  refine r_istore (q := 3) dX3_next_1 rfl (by decide) (Lst.setL rfl rfl) ?_
  exact loop b (by omega) (by omega) rfl
set_option maxRecDepth 100000 in
set_option maxHeartbeats 4000000 in
theorem x3_isRange (hG : Full γ) (hi : vK 0 i = true) (hj : vK 0 j = true) (hW : Wk σ) {b e ob : Int} (hb : -1 ≤ b ∧ -300 ≤ e) (he : b ≤ 300 ∧ e ≤ 300) (hob : -1 ≤ ob ∧ ob ≤ 300) : Ev γ mX3_isRange 2 0 0 [.ref (ga γ 0 i), .int (zI b), .int (zI e), .ref (ga γ 0 j), .int (zI ob)] σ xs (rtn (some (.int (zI (bI (pRng σ i j b ob b e))))) σ xs) nX := by
  refine Ev.of1 1 [some (.ref (ga γ 0 i)), some (.int (zI b)), some (.int (zI e)), some (.ref (ga γ 0 j)), some (.int (zI ob)), none] rfl pn_X3_isRange rfl (Nat.le_of_ble_eq_true rfl) ?_
  have loop : ∀ p : Int, p ≤ 301 → b ≤ p → pRng σ i j b ob p e = pRng σ i j b ob b e → RW γ mX3_isRange 2 0 0 (rtn (some (.int (zI (bI (pRng σ i j b ob b e))))) σ xs) nX 0 0 3 [some (.ref (ga γ 0 i)), some (.int (zI b)), some (.int (zI e)), some (.ref (ga γ 0 j)), some (.int (zI ob)), some (.int (zI p))] [] σ xs := by
    refine up (fun p hp ih h0 hr => ?_)
    refine r_iload (q := 5) dX3_isRange_3 rfl rfl ?_
    refine r_iload_n (q := 6) dX3_isRange_5 rfl rfl ?_
    refine r_icmp_ge (q := 9) (tgt := 37) dX3_isRange_6 rfl (by decide) (by have h8 := pAt_rng σ i p; have h9 := pAt_rng σ j (ob + p - b); omega) (by have h8 := pAt_rng σ i p; have h9 := pAt_rng σ j (ob + p - b); omega) (fun h6 => ?_) (fun h6 => ?_)
    · refine r_iconst (q := 38) dX3_isRange_37 rfl ?_
      refine r_retz dX3_isRange_38 rfl (by first | rfl | exact narB _) (by decide) (by decide) ?_
      first
        | exact ret_i (by rw [← hr]; unfold pRng; rw [if_neg (by omega)]; rfl)
        | exact ret_i (by rw [← hr]; unfold pRng; rw [if_pos (by omega), if_neg (by omega)]; rfl)
    · refine r_aload_n (q := 10) dX3_isRange_9 rfl rfl ?_
      refine r_iload (q := 12) dX3_isRange_10 rfl rfl ?_
      refine cX3_1 (My := mX3_at) (q := 15) dX3_isRange_12 rfl kX3_33 vX3_at (hG _ _ (by first | rfl | exact hi | exact hj)) rfl (x3_at hG (by first | exact hi | exact hj) (by assumption) (by omega)) ⟨by decide, by decide⟩ ⟨by decide, by decide⟩ (Nat.le_of_ble_eq_true rfl) ?_
      refine r_aload_n (q := 16) dX3_isRange_15 rfl rfl ?_
      refine r_iload (q := 18) dX3_isRange_16 rfl rfl ?_
      refine r_iload (q := 20) dX3_isRange_18 rfl rfl ?_
      refine r_iadd (q := 21) dX3_isRange_20 rfl ?_
      refine r_iload_n (q := 22) dX3_isRange_21 rfl rfl ?_
      refine r_isub (q := 23) dX3_isRange_22 rfl ?_
      refine cX3_1 (My := mX3_at) (q := 26) dX3_isRange_23 rfl kX3_33 vX3_at (hG _ _ (by first | rfl | exact hi | exact hj)) rfl (x3_at hG (by first | exact hi | exact hj) (by assumption) (by omega)) ⟨by decide, by decide⟩ ⟨by decide, by decide⟩ (Nat.le_of_ble_eq_true rfl) ?_
      refine r_icmp_eq (q := 29) (tgt := 31) dX3_isRange_26 rfl (by decide) (by have h8 := pAt_rng σ i p; have h9 := pAt_rng σ j (ob + p - b); omega) (by have h8 := pAt_rng σ i p; have h9 := pAt_rng σ j (ob + p - b); omega) (fun h26 => ?_) (fun h26 => ?_)
      · refine r_iinc (q := 34) dX3_isRange_31 rfl rfl (by decide) (Lst.setL rfl rfl) ?_
        refine r_goto (q := 3) dX3_isRange_34 (by decide) ?_
        exact ih (p + 1) (by omega) (by omega) (by omega) (by rw [← hr, pRng.eq_def σ i j b ob p e, if_pos (by omega), if_pos (by omega)])
      · refine r_iconst (q := 30) dX3_isRange_29 rfl ?_
        refine r_retz dX3_isRange_30 rfl (by first | rfl | exact narB _) (by decide) (by decide) ?_
        first
          | exact ret_i (by rw [← hr]; unfold pRng; rw [if_neg (by omega)]; rfl)
          | exact ret_i (by rw [← hr]; unfold pRng; rw [if_pos (by omega), if_neg (by omega)]; rfl)
  refine r_iload_n (q := 1) dX3_isRange_0 rfl rfl ?_
  refine r_istore (q := 3) dX3_isRange_1 rfl (by decide) (Lst.setL rfl rfl) ?_
  exact loop b (by omega) (by omega) rfl
end X3
