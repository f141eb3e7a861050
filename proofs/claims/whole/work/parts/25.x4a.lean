/-! Linkloom: its methods as functions of the state -/
def Same (σ σ' : St) : Prop := bg σ' = bg σ ∧ en σ' = en σ ∧ pt σ' = pt σ ∧ hld σ' = hld σ ∧ rf σ' = rf σ ∧ rc σ' = rc σ ∧ rp σ' = rp σ ∧ σ'.2 = σ.2
theorem Same.rfl' {σ : St} : Same σ σ := ⟨rfl, rfl, rfl, rfl, rfl, rfl, rfl, rfl⟩
theorem Same.trans {a b c : St} (h : Same a b) (g : Same b c) : Same a c := ⟨g.1.trans h.1, g.2.1.trans h.2.1, g.2.2.1.trans h.2.2.1, g.2.2.2.1.trans h.2.2.2.1, g.2.2.2.2.1.trans h.2.2.2.2.1, g.2.2.2.2.2.1.trans h.2.2.2.2.2.1, g.2.2.2.2.2.2.1.trans h.2.2.2.2.2.2.1, g.2.2.2.2.2.2.2.trans h.2.2.2.2.2.2.2⟩
theorem Same.put (σ : St) (i : Nat) (c : Int) : Same σ (pPut σ i c) := by unfold pPut; split <;> exact ⟨rfl, rfl, rfl, rfl, rfl, rfl, rfl, rfl⟩
theorem Same.short (σ : St) (i : Nat) (f : Int) : Same σ (pShort σ i f) := by unfold pShort; split <;> exact ⟨rfl, rfl, rfl, rfl, rfl, rfl, rfl, rfl⟩
theorem Same.putS (i : Nat) : ∀ (l : List Int) (σ : St), Same σ (pPutS σ i l) := by
  intro l
  induction l with
  | nil => intro σ; exact Same.rfl'
  | cons c l ih => intro σ; exact (Same.put σ i c).trans (ih _)
theorem Same.putR0 (i j : Nat) (e : Int) : ∀ b : Int, b ≤ e + 1 → ∀ σ : St, Same σ (pPutR σ i j b e) := by
  refine up (fun p hp ih σ => ?_)
  rw [pPutR.eq_def]
  split
  · exact (Same.put σ i _).trans (ih (p + 1) (by omega) (by omega) _)
  · exact Same.rfl'
theorem Same.putR (σ : St) (i j : Nat) (b e : Int) : Same σ (pPutR σ i j b e) := by
  by_cases hb : b ≤ e + 1
  · exact Same.putR0 i j e b hb σ
  · rw [pPutR.eq_def, if_neg (by omega)]
    exact Same.rfl'
theorem Same.putP (σ : St) (j : Nat) (k : Int) (i : Nat) : Same σ (pPutP σ j k i) := Same.putR σ i j _ _
theorem Same.R9 {σ σ' : St} (h : Same σ σ') (h9 : R9 σ) : R9 σ' := fun j k hk => by rw [h.1, h.2.1]; exact h9 j k hk
theorem Wk_putP {σ : St} (h : Wk σ) (j : Nat) (k : Int) (i : Nat) : Wk (pPutP σ j k i) := Wk_putR' h
def okTy (c : Int) : Bool := decide (33 ≤ c ∧ c ≤ 126 ∧ ixO (tS 11) c < 0)
def pWP (σ : St) (w1 j : Nat) (k : Int) (w2 : Nat) : St := if pHas σ j k = true then pPutS (pPutP (pPutS σ 6 (tS w1)) j k 6) 6 (tS w2) else σ
def wsel (sw k : Int) (j i : Nat) : Nat := if sw = k then i else j
def wv1 (σ : St) (j i : Nat) (sw : Int) : St := pWP (pShort σ 6 0) 8 (wsel sw 0 j i) 0 7
def wv2 (σ : St) (j i : Nat) (sw : Int) : St := if pHas (wv1 σ j i sw) j 5 = true then wv1 σ j i sw else pWP (wv1 σ j i sw) 8 j 1 8
def wv3 (σ : St) (j i : Nat) (sw : Int) : St := pWP (wv2 σ j i sw) 9 (wsel sw 2 j i) 2 8
def wv4 (σ : St) (j i : Nat) (sw : Int) : St := pWP (wv3 σ j i sw) 8 (wsel sw 5 j i) 5 8
def wv5 (σ : St) (j i : Nat) (sw : Int) : St := pWP (wv4 σ j i sw) 10 (wsel sw 6 j i) 6 8
def pWv (σ : St) (j i : Nat) (sw : Int) : St := pWP (wv5 σ j i sw) 2 (wsel sw 7 j i) 7 8
theorem Same.wp (σ : St) (w1 j : Nat) (k : Int) (w2 : Nat) : Same σ (pWP σ w1 j k w2) := by
  unfold pWP
  split
  · exact ((Same.putS 6 _ σ).trans (Same.putP _ j k 6)).trans (Same.putS 6 _ _)
  · exact Same.rfl'
theorem Wk_wp {σ : St} (h : Wk σ) (w1 j : Nat) (k : Int) (w2 : Nat) : Wk (pWP σ w1 j k w2) := by
  unfold pWP
  split
  · exact Wk_putS _ (Wk_putP (Wk_putS _ h) _ _ _)
  · exact h
theorem wv1_ok {σ : St} (h : Wk σ) (j i : Nat) (sw : Int) : Wk (wv1 σ j i sw) ∧ Same σ (wv1 σ j i sw) := ⟨Wk_wp (Wk_short h _ _) _ _ _ _, (Same.short σ 6 0).trans (Same.wp _ _ _ _ _)⟩
theorem wv2_ok {σ : St} (h : Wk σ) (j i : Nat) (sw : Int) : Wk (wv2 σ j i sw) ∧ Same σ (wv2 σ j i sw) := by
  have h1 := wv1_ok h j i sw
  unfold wv2
  split
  · exact h1
  · exact ⟨Wk_wp h1.1 _ _ _ _, h1.2.trans (Same.wp _ _ _ _ _)⟩
theorem wv3_ok {σ : St} (h : Wk σ) (j i : Nat) (sw : Int) : Wk (wv3 σ j i sw) ∧ Same σ (wv3 σ j i sw) := ⟨Wk_wp (wv2_ok h j i sw).1 _ _ _ _, (wv2_ok h j i sw).2.trans (Same.wp _ _ _ _ _)⟩
theorem wv4_ok {σ : St} (h : Wk σ) (j i : Nat) (sw : Int) : Wk (wv4 σ j i sw) ∧ Same σ (wv4 σ j i sw) := ⟨Wk_wp (wv3_ok h j i sw).1 _ _ _ _, (wv3_ok h j i sw).2.trans (Same.wp _ _ _ _ _)⟩
theorem wv5_ok {σ : St} (h : Wk σ) (j i : Nat) (sw : Int) : Wk (wv5 σ j i sw) ∧ Same σ (wv5 σ j i sw) := ⟨Wk_wp (wv4_ok h j i sw).1 _ _ _ _, (wv4_ok h j i sw).2.trans (Same.wp _ _ _ _ _)⟩
theorem pWv_ok {σ : St} (h : Wk σ) (j i : Nat) (sw : Int) : Wk (pWv σ j i sw) ∧ Same σ (pWv σ j i sw) := ⟨Wk_wp (wv5_ok h j i sw).1 _ _ _ _, (wv5_ok h j i sw).2.trans (Same.wp _ _ _ _ _)⟩
theorem vk2 {k : Int} (h : 0 ≤ k ∧ k < 4) : vK 2 k.toNat = true := by simp [vK]; omega
theorem wsel_ok {sw k : Int} {j i : Nat} (hj : vK 2 j = true) (hi : vK 2 i = true) : vK 2 (wsel sw k j i) = true := by unfold wsel; split; exact hi; exact hj
section X4
variable {γ : Gm} {σ : St} {xs : va_W} {i j : Nat}
set_option maxRecDepth 100000 in
set_option maxHeartbeats 4000000 in
theorem x4_slotAt (hG : Full γ) {k : Int} (hk : 0 ≤ k ∧ k < 4) : Ev γ mX4_slotAt 6 0 0 [.ref (ga γ 6 0), .int (zI k)] σ xs (rtn (some (.ref (ga γ 2 k.toNat))) σ xs) nX := by
  refine Ev.of1 0 [some (.ref (ga γ 6 0)), some (.int (zI k))] rfl pn_X4_slotAt rfl (Nat.le_of_ble_eq_true rfl) ?_
  refine r_iload_n (q := 1) dX4_slotAt_0 rfl rfl ?_
  refine r_if_lt (q := 4) (tgt := 13) dX4_slotAt_1 rfl (by decide) (by omega) (fun h1 => ?_) (fun h1 => ?_)
  · exfalso; omega
  · refine r_iload_n (q := 5) dX4_slotAt_4 rfl rfl ?_
    refine r_aload_n (q := 6) dX4_slotAt_5 rfl rfl ?_
    refine g_X4_slots (i := 0) (q := 9) dX4_slotAt_6 rfl fX4_28 (hG _ _ rfl) ?_
    refine r_alen (q := 10) (t0 := 3) (z := 4) rfl rfl rfl dX4_slotAt_9 rfl (hG _ _ rfl) ?_
    refine r_icmp_lt (q := 13) (tgt := 23) dX4_slotAt_10 rfl (by decide) (by omega) (by omega) (fun h10 => ?_) (fun h10 => ?_)
    · refine r_aload_n (q := 24) dX4_slotAt_23 rfl rfl ?_
      refine g_X4_slots (i := 0) (q := 27) dX4_slotAt_24 rfl fX4_28 (hG _ _ rfl) ?_
      refine r_iload_n (q := 28) dX4_slotAt_27 rfl rfl ?_
      refine r_aaldS (q := 29) dX4_slotAt_28 rfl (hG _ _ rfl) (by omega) ?_
      refine r_reta dX4_slotAt_29 rfl (by decide) (by decide) ?_
      exact ⟨rfl, rfl, rfl⟩
    · exfalso; omega
set_option maxRecDepth 100000 in
set_option maxHeartbeats 4000000 in
theorem x4_slotAt_b (hG : Full γ) {k : Int} (hr : -2147483648 ≤ k ∧ k ≤ 2147483647) (hk : k < 0 ∨ 4 ≤ k) : Ev γ mX4_slotAt 6 1 6 [.ref (ga γ 6 0), .int (zI k)] σ xs (nR) (thr "java/lang/IndexOutOfBoundsException" σ xs) := by
  refine Ev.of1 0 [some (.ref (ga γ 6 0)), some (.int (zI k))] rfl pn_X4_slotAt rfl (Nat.le_of_ble_eq_true rfl) ?_
  refine r_iload_n (q := 1) dX4_slotAt_0 rfl rfl ?_
  refine r_if_lt (q := 4) (tgt := 13) dX4_slotAt_1 rfl (by decide) (by omega) (fun h1 => ?_) (fun h1 => ?_)
  · refine r_throw (i := 47) (tx := "no such slot") dX4_slotAt_13 dX4_slotAt_16 dX4_slotAt_17 dX4_slotAt_19 dX4_slotAt_22 (by decide) (List.mem_of_getElem? (i := 50) rfl) tw_74 (by decide) (by decide) (by decide) (Nat.le_of_ble_eq_true rfl) ?_
    exact ⟨rfl, rfl, rfl⟩
  · refine r_iload_n (q := 5) dX4_slotAt_4 rfl rfl ?_
    refine r_aload_n (q := 6) dX4_slotAt_5 rfl rfl ?_
    refine g_X4_slots (i := 0) (q := 9) dX4_slotAt_6 rfl fX4_28 (hG _ _ rfl) ?_
    refine r_alen (q := 10) (t0 := 3) (z := 4) rfl rfl rfl dX4_slotAt_9 rfl (hG _ _ rfl) ?_
    refine r_icmp_lt (q := 13) (tgt := 23) dX4_slotAt_10 rfl (by decide) (by omega) (by omega) (fun h10 => ?_) (fun h10 => ?_)
    · exfalso; omega
    · refine r_throw (i := 47) (tx := "no such slot") dX4_slotAt_13 dX4_slotAt_16 dX4_slotAt_17 dX4_slotAt_19 dX4_slotAt_22 (by decide) (List.mem_of_getElem? (i := 50) rfl) tw_74 (by decide) (by decide) (by decide) (Nat.le_of_ble_eq_true rfl) ?_
      exact ⟨rfl, rfl, rfl⟩
set_option maxRecDepth 100000 in
set_option maxHeartbeats 4000000 in
theorem x4_checkHeld (hG : Full γ) (hj : vK 2 j = true) (hh : hld σ j = true) : Ev γ mX4_checkHeld 6 0 0 [.ref (ga γ 2 j)] σ xs (rtn none σ xs) nX := by
  refine Ev.of1 0 [some (.ref (ga γ 2 j))] rfl pn_X4_checkHeld rfl (Nat.le_of_ble_eq_true rfl) ?_
  refine r_aload_n (q := 1) dX4_checkHeld_0 rfl rfl ?_
  refine cX0_0 (My := mX0_isHeld) (q := 4) dX4_checkHeld_1 rfl kX4_135 vX0_isHeld (hG _ _ hj) rfl (x0_isHeld hG hj) ⟨by decide, by decide⟩ ⟨by decide, by decide⟩ (Nat.le_of_ble_eq_true rfl) ?_
  refine r_ifB_ne (q := 7) (tgt := 17) dX4_checkHeld_4 rfl (by decide) (fun h4 => ?_) (fun h4 => ?_)
  · refine r_retv dX4_checkHeld_17 rfl (by decide) (by decide) ?_
    exact ret_v rfl
  · rw [hh] at h4; exact absurd h4 (by decide)
set_option maxRecDepth 100000 in
set_option maxHeartbeats 4000000 in
theorem x4_checkHeld_b (hG : Full γ) (hj : vK 2 j = true) (hh : hld σ j = false) : Ev γ mX4_checkHeld 6 1 6 [.ref (ga γ 2 j)] σ xs (nR) (thr "java/util/NoSuchElementException" σ xs) := by
  refine Ev.of1 0 [some (.ref (ga γ 2 j))] rfl pn_X4_checkHeld rfl (Nat.le_of_ble_eq_true rfl) ?_
  refine r_aload_n (q := 1) dX4_checkHeld_0 rfl rfl ?_
  refine cX0_0 (My := mX0_isHeld) (q := 4) dX4_checkHeld_1 rfl kX4_135 vX0_isHeld (hG _ _ hj) rfl (x0_isHeld hG hj) ⟨by decide, by decide⟩ ⟨by decide, by decide⟩ (Nat.le_of_ble_eq_true rfl) ?_
  refine r_ifB_ne (q := 7) (tgt := 17) dX4_checkHeld_4 rfl (by decide) (fun h4 => ?_) (fun h4 => ?_)
  · rw [hh] at h4; exact absurd h4 (by decide)
  · refine r_throwN (i := 50) (tx := "the slot has no address") dX4_checkHeld_7 dX4_checkHeld_10 dX4_checkHeld_11 dX4_checkHeld_13 dX4_checkHeld_16 rfl (List.mem_of_getElem? (i := 55) rfl) (by decide) (by decide) (by decide) (Nat.le_of_ble_eq_true rfl) ?_
    exact ⟨rfl, rfl, rfl⟩
set_option maxRecDepth 100000 in
set_option maxHeartbeats 4000000 in
theorem x4_partOf {c : Int} (hc : -2147483648 ≤ c ∧ c ≤ 2147483647) (h0 : 0 ≤ ixO (tS 51) c) : Ev γ mX4_partOf 6 0 0 [.int (zI c)] σ xs (rtn (some (.int (zI (ixO (tS 51) c)))) σ xs) nX := by
  refine Ev.of1 1 [some (.int (zI c)), none] rfl pn_X4_partOf rfl (Nat.le_of_ble_eq_true rfl) ?_
  refine r_ldcS (i := 51) (tx := "smauhpqfw") (q := 2) dX4_partOf_0 rfl (List.mem_of_getElem? (i := 56) rfl) ?_
  refine r_iload_n (q := 3) dX4_partOf_2 rfl rfl ?_
  refine cT_1 (My := mJ0_indexOf_0f7a4) (q := 6) dX4_partOf_3 rfl kX4_35 vJ0_indexOf_0f7a4 (by decide) rfl (j_indexOf (by decide) hc) ⟨by decide, by decide⟩ ⟨by decide, by decide⟩ (Nat.le_of_ble_eq_true rfl) ?_
  refine r_istore_n (q := 7) dX4_partOf_6 rfl (by decide) (Lst.setL rfl rfl) ?_
  refine r_iload_n (q := 8) dX4_partOf_7 rfl rfl ?_
  refine r_if_ge (q := 11) (tgt := 21) dX4_partOf_8 rfl (by decide) (ixO_r (by decide) _) (fun h8 => ?_) (fun h8 => ?_)
  · refine r_iload_n (q := 22) dX4_partOf_21 rfl rfl ?_
    refine r_reti dX4_partOf_22 rfl (by decide) (by decide) ?_
    exact ret_i rfl
  · exfalso; omega
set_option maxRecDepth 100000 in
set_option maxHeartbeats 4000000 in
theorem x4_partOf_b {c : Int} (hc : -2147483648 ≤ c ∧ c ≤ 2147483647) (h0 : ixO (tS 51) c < 0) : Ev γ mX4_partOf 6 1 6 [.int (zI c)] σ xs (nR) (thr "java/lang/IllegalArgumentException" σ xs) := by
  refine Ev.of1 1 [some (.int (zI c)), none] rfl pn_X4_partOf rfl (Nat.le_of_ble_eq_true rfl) ?_
  refine r_ldcS (i := 51) (tx := "smauhpqfw") (q := 2) dX4_partOf_0 rfl (List.mem_of_getElem? (i := 56) rfl) ?_
  refine r_iload_n (q := 3) dX4_partOf_2 rfl rfl ?_
  refine cT_1 (My := mJ0_indexOf_0f7a4) (q := 6) dX4_partOf_3 rfl kX4_35 vJ0_indexOf_0f7a4 (by decide) rfl (j_indexOf (by decide) hc) ⟨by decide, by decide⟩ ⟨by decide, by decide⟩ (Nat.le_of_ble_eq_true rfl) ?_
  refine r_istore_n (q := 7) dX4_partOf_6 rfl (by decide) (Lst.setL rfl rfl) ?_
  refine r_iload_n (q := 8) dX4_partOf_7 rfl rfl ?_
  refine r_if_ge (q := 11) (tgt := 21) dX4_partOf_8 rfl (by decide) (ixO_r (by decide) _) (fun h8 => ?_) (fun h8 => ?_)
  · exfalso; omega
  · refine r_throw (i := 52) (tx := "no such part") dX4_partOf_11 dX4_partOf_14 dX4_partOf_15 dX4_partOf_17 dX4_partOf_20 (by decide) (List.mem_of_getElem? (i := 57) rfl) tw_45 (by decide) (by decide) (by decide) (Nat.le_of_ble_eq_true rfl) ?_
    exact ⟨rfl, rfl, rfl⟩
set_option maxRecDepth 100000 in
set_option maxHeartbeats 4000000 in
theorem x4_checkRoom (hG : Full γ) (hW : Wk σ) {m : Int} (hm : -200 ≤ m ∧ m ≤ 300) (h : cnt σ 5 + m ≤ 60) : Ev γ mX4_checkRoom 6 0 0 [.ref (ga γ 6 0), .int (zI m)] σ xs (rtn none σ xs) nX := by
  refine Ev.of1 0 [some (.ref (ga γ 6 0)), some (.int (zI m))] rfl pn_X4_checkRoom rfl (Nat.le_of_ble_eq_true rfl) ?_
  have hc := hW.1 5
  refine r_aload_n (q := 1) dX4_checkRoom_0 rfl rfl ?_
  refine g_X4_text (i := 0) (q := 4) dX4_checkRoom_1 rfl fX4_10 (hG _ _ rfl) ?_
  refine cX3_0 (My := mX3_count) (q := 7) dX4_checkRoom_4 rfl kX4_56 vX3_count (hG _ _ rfl) rfl (x3_count hG rfl) ⟨by decide, by decide⟩ ⟨by decide, by decide⟩ (Nat.le_of_ble_eq_true rfl) ?_
  refine r_iload_n (q := 8) dX4_checkRoom_7 rfl rfl ?_
  refine r_iadd (q := 9) dX4_checkRoom_8 rfl ?_
  refine r_bipush (q := 11) dX4_checkRoom_9 rfl (bip (by decide) (by decide)) ?_
  refine r_icmp_le (q := 14) (tgt := 24) dX4_checkRoom_11 rfl (by decide) (by omega) (by omega) (fun h11 => ?_) (fun h11 => ?_)
  · refine r_retv dX4_checkRoom_24 rfl (by decide) (by decide) ?_
    exact ret_v rfl
  · exfalso; omega
set_option maxRecDepth 100000 in
set_option maxHeartbeats 4000000 in
theorem x4_checkRoom_b (hG : Full γ) (hW : Wk σ) {m : Int} (hm : -200 ≤ m ∧ m ≤ 300) (h : 60 < cnt σ 5 + m) : Ev γ mX4_checkRoom 6 1 6 [.ref (ga γ 6 0), .int (zI m)] σ xs (nR) (thr "java/lang/IllegalStateException" σ xs) := by
  refine Ev.of1 0 [some (.ref (ga γ 6 0)), some (.int (zI m))] rfl pn_X4_checkRoom rfl (Nat.le_of_ble_eq_true rfl) ?_
  have hc := hW.1 5
  refine r_aload_n (q := 1) dX4_checkRoom_0 rfl rfl ?_
  refine g_X4_text (i := 0) (q := 4) dX4_checkRoom_1 rfl fX4_10 (hG _ _ rfl) ?_
  refine cX3_0 (My := mX3_count) (q := 7) dX4_checkRoom_4 rfl kX4_56 vX3_count (hG _ _ rfl) rfl (x3_count hG rfl) ⟨by decide, by decide⟩ ⟨by decide, by decide⟩ (Nat.le_of_ble_eq_true rfl) ?_
  refine r_iload_n (q := 8) dX4_checkRoom_7 rfl rfl ?_
  refine r_iadd (q := 9) dX4_checkRoom_8 rfl ?_
  refine r_bipush (q := 11) dX4_checkRoom_9 rfl (bip (by decide) (by decide)) ?_
  refine r_icmp_le (q := 14) (tgt := 24) dX4_checkRoom_11 rfl (by decide) (by omega) (by omega) (fun h11 => ?_) (fun h11 => ?_)
  · exfalso; omega
  · refine r_throw (i := 13) (tx := "too many signs") dX4_checkRoom_14 dX4_checkRoom_17 dX4_checkRoom_18 dX4_checkRoom_20 dX4_checkRoom_23 (by decide) (List.mem_of_getElem? (i := 15) rfl) tw_112 (by decide) (by decide) (by decide) (Nat.le_of_ble_eq_true rfl) ?_
    exact ⟨rfl, rfl, rfl⟩
set_option maxRecDepth 100000 in
set_option maxHeartbeats 4000000 in
theorem x4_checkRefused (hG : Full γ) (hrc : 0 ≤ rc σ ∧ rc σ ≤ 2147483647) (h : rc σ ≠ 0) : Ev γ mX4_checkRefused 6 0 0 [.ref (ga γ 6 0)] σ xs (rtn none σ xs) nX := by
  refine Ev.of1 0 [some (.ref (ga γ 6 0))] rfl pn_X4_checkRefused rfl (Nat.le_of_ble_eq_true rfl) ?_
  refine r_aload_n (q := 1) dX4_checkRefused_0 rfl rfl ?_
  refine g_X4_refusalCount (i := 0) (q := 4) dX4_checkRefused_1 rfl fX4_125 (hG _ _ rfl) ?_
  refine r_if_ne (q := 7) (tgt := 17) dX4_checkRefused_4 rfl (by decide) (by omega) (fun h4 => ?_) (fun h4 => ?_)
  · refine r_retv dX4_checkRefused_17 rfl (by decide) (by decide) ?_
    exact ret_v rfl
  · exfalso; omega
set_option maxRecDepth 100000 in
set_option maxHeartbeats 4000000 in
theorem x4_checkRefused_b (hG : Full γ) (hrc : 0 ≤ rc σ ∧ rc σ ≤ 2147483647) (h : rc σ = 0) : Ev γ mX4_checkRefused 6 1 6 [.ref (ga γ 6 0)] σ xs (nR) (thr "java/util/NoSuchElementException" σ xs) := by
  refine Ev.of1 0 [some (.ref (ga γ 6 0))] rfl pn_X4_checkRefused rfl (Nat.le_of_ble_eq_true rfl) ?_
  refine r_aload_n (q := 1) dX4_checkRefused_0 rfl rfl ?_
  refine g_X4_refusalCount (i := 0) (q := 4) dX4_checkRefused_1 rfl fX4_125 (hG _ _ rfl) ?_
  refine r_if_ne (q := 7) (tgt := 17) dX4_checkRefused_4 rfl (by decide) (by omega) (fun h4 => ?_) (fun h4 => ?_)
  · exfalso; omega
  · refine r_throwN (i := 49) (tx := "no text was refused") dX4_checkRefused_7 dX4_checkRefused_10 dX4_checkRefused_11 dX4_checkRefused_13 dX4_checkRefused_16 rfl (List.mem_of_getElem? (i := 54) rfl) (by decide) (by decide) (by decide) (Nat.le_of_ble_eq_true rfl) ?_
    exact ⟨rfl, rfl, rfl⟩
set_option maxRecDepth 100000 in
set_option maxHeartbeats 4000000 in
theorem x4_addressAt (hG : Full γ) {k : Int} (hk : 0 ≤ k ∧ k < 4) (hh : hld σ k.toNat = true) : Ev γ mX4_addressAt 7 0 0 [.ref (ga γ 6 0), .int (zI k)] σ xs (rtn (some (.ref (ga γ 2 k.toNat))) σ xs) nX := by
  refine Ev.of1 1 [some (.ref (ga γ 6 0)), some (.int (zI k)), none] rfl pn_X4_addressAt rfl (Nat.le_of_ble_eq_true rfl) ?_
  refine r_aload_n (q := 1) dX4_addressAt_0 rfl rfl ?_
  refine r_iload_n (q := 2) dX4_addressAt_1 rfl rfl ?_
  refine cX4_1 (My := mX4_slotAt) (q := 5) dX4_addressAt_2 rfl kX4_98 vX4_slotAt (hG _ _ (by first | rfl | exact hj | exact hi | exact vk2 hk | exact vk2 hk2)) rfl (x4_slotAt hG hk) ⟨by decide, by decide⟩ ⟨by decide, by decide⟩ (Nat.le_of_ble_eq_true rfl) ?_
  refine r_astore_n (q := 6) dX4_addressAt_5 rfl (by decide) (Lst.setL rfl rfl) ?_
  refine r_aload_n (q := 7) dX4_addressAt_6 rfl rfl ?_
  refine cS_1v (My := mX4_checkHeld) (q := 10) dX4_addressAt_7 rfl kX4_153 vX4_checkHeld (x4_checkHeld hG (by first | exact vk2 hk | exact vk2 hk2) (by assumption)) ⟨by decide, by decide⟩ ⟨by decide, by decide⟩ (Nat.le_of_ble_eq_true rfl) ?_
  refine r_aload_n (q := 11) dX4_addressAt_10 rfl rfl ?_
  refine r_reta dX4_addressAt_11 rfl (by decide) (by decide) ?_
  exact ⟨rfl, rfl, rfl⟩
set_option maxRecDepth 100000 in
set_option maxHeartbeats 4000000 in
theorem x4_addressAt_b1 (hG : Full γ) {k : Int} (hr : -2147483648 ≤ k ∧ k ≤ 2147483647) (hk : k < 0 ∨ 4 ≤ k) : Ev γ mX4_addressAt 7 1 6 [.ref (ga γ 6 0), .int (zI k)] σ xs (nR) (thr "java/lang/IndexOutOfBoundsException" σ xs) := by
  refine Ev.of1 1 [some (.ref (ga γ 6 0)), some (.int (zI k)), none] rfl pn_X4_addressAt rfl (Nat.le_of_ble_eq_true rfl) ?_
  refine r_aload_n (q := 1) dX4_addressAt_0 rfl rfl ?_
  refine r_iload_n (q := 2) dX4_addressAt_1 rfl rfl ?_
  refine tX4_1 (My := mX4_slotAt) (q := 5) dX4_addressAt_2 rfl kX4_98 vX4_slotAt (hG _ _ rfl) rfl (x4_slotAt_b hG (by omega) hk) ⟨by decide, by decide⟩ ⟨by decide, by decide⟩ (Nat.le_of_ble_eq_true rfl) ?_
  exact ⟨rfl, rfl, rfl⟩
set_option maxRecDepth 100000 in
set_option maxHeartbeats 4000000 in
theorem x4_addressAt_b2 (hG : Full γ) {k : Int} (hk : 0 ≤ k ∧ k < 4) (hh : hld σ k.toNat = false) : Ev γ mX4_addressAt 7 1 6 [.ref (ga γ 6 0), .int (zI k)] σ xs (nR) (thr "java/util/NoSuchElementException" σ xs) := by
  refine Ev.of1 1 [some (.ref (ga γ 6 0)), some (.int (zI k)), none] rfl pn_X4_addressAt rfl (Nat.le_of_ble_eq_true rfl) ?_
  refine r_aload_n (q := 1) dX4_addressAt_0 rfl rfl ?_
  refine r_iload_n (q := 2) dX4_addressAt_1 rfl rfl ?_
  refine cX4_1 (My := mX4_slotAt) (q := 5) dX4_addressAt_2 rfl kX4_98 vX4_slotAt (hG _ _ (by first | rfl | exact hj | exact hi | exact vk2 hk | exact vk2 hk2)) rfl (x4_slotAt hG hk) ⟨by decide, by decide⟩ ⟨by decide, by decide⟩ (Nat.le_of_ble_eq_true rfl) ?_
  refine r_astore_n (q := 6) dX4_addressAt_5 rfl (by decide) (Lst.setL rfl rfl) ?_
  refine r_aload_n (q := 7) dX4_addressAt_6 rfl rfl ?_
  refine tS_1v (My := mX4_checkHeld) (q := 10) dX4_addressAt_7 rfl kX4_153 vX4_checkHeld (x4_checkHeld_b hG (vk2 hk) hh) ⟨by decide, by decide⟩ ⟨by decide, by decide⟩ (Nat.le_of_ble_eq_true rfl) ?_
  exact ⟨rfl, rfl, rfl⟩
set_option maxRecDepth 100000 in
set_option maxHeartbeats 4000000 in
theorem x4_type (hG : Full γ) (hW : Wk σ) {c : Int} (hc : 0 ≤ c ∧ c < 65536) (h : okTy c = true) (hn : cnt σ 5 + 1 ≤ 60) : Ev γ mX4_type 7 0 0 [.ref (ga γ 6 0), .int (zI c)] σ xs (rtn (some (.int (zI (cnt σ 5 + 1)))) (pPut σ 5 c) xs) nX := by
  refine Ev.of1 0 [some (.ref (ga γ 6 0)), some (.int (zI c))] rfl pn_X4_type rfl (Nat.le_of_ble_eq_true rfl) ?_
  have hc5 := hW.1 5
  have h0 := of_decide_eq_true h
  refine r_iload_n (q := 1) dX4_type_0 rfl rfl ?_
  refine r_bipush (q := 3) dX4_type_1 rfl (bip (by decide) (by decide)) ?_
  refine r_icmp_lt (q := 6) (tgt := 21) dX4_type_3 rfl (by decide) (by first | omega | exact ixO_r (by decide) _) (by first | omega | exact ixO_r (by decide) _) (fun h3 => ?_) (fun h3 => ?_)
  · exfalso; omega
  · refine r_iload_n (q := 7) dX4_type_6 rfl rfl ?_
    refine r_bipush (q := 9) dX4_type_7 rfl (bip (by decide) (by decide)) ?_
    refine r_icmp_gt (q := 12) (tgt := 21) dX4_type_9 rfl (by decide) (by first | omega | exact ixO_r (by decide) _) (by first | omega | exact ixO_r (by decide) _) (fun h9 => ?_) (fun h9 => ?_)
    · exfalso; omega
    · refine r_ldcS (i := 11) (tx := "%[]0") (q := 14) dX4_type_12 rfl (List.mem_of_getElem? (i := 13) rfl) ?_
      refine r_iload_n (q := 15) dX4_type_14 rfl rfl ?_
      refine cT_1 (My := mJ0_indexOf_0f7a4) (q := 18) dX4_type_15 rfl kX4_35 vJ0_indexOf_0f7a4 (by decide) rfl (j_indexOf (by decide) (by omega)) ⟨by decide, by decide⟩ ⟨by decide, by decide⟩ (Nat.le_of_ble_eq_true rfl) ?_
      refine r_if_lt (q := 21) (tgt := 31) dX4_type_18 rfl (by decide) (by first | omega | exact ixO_r (by decide) _) (fun h18 => ?_) (fun h18 => ?_)
      · refine r_aload_n (q := 32) dX4_type_31 rfl rfl ?_
        refine r_iconst (q := 33) dX4_type_32 rfl ?_
        refine cX4_1v (My := mX4_checkRoom) (q := 36) dX4_type_33 rfl kX4_48 vX4_checkRoom (hG _ _ rfl) rfl (x4_checkRoom hG hW (by omega) (by omega)) ⟨by decide, by decide⟩ ⟨by decide, by decide⟩ (Nat.le_of_ble_eq_true rfl) ?_
        refine r_aload_n (q := 37) dX4_type_36 rfl rfl ?_
        refine g_X4_text (i := 0) (q := 40) dX4_type_37 rfl fX4_10 (hG _ _ rfl) ?_
        refine r_iload_n (q := 41) dX4_type_40 rfl rfl ?_
        refine cX3_1v (My := mX3_put) (q := 44) dX4_type_41 rfl kX4_52 vX3_put (hG _ _ rfl) rfl (x3_put hG rfl (by repeat (first | assumption | apply Wk_put))) ⟨by decide, by decide⟩ ⟨by decide, by decide⟩ (Nat.le_of_ble_eq_true rfl) ?_
        refine r_aload_n (q := 45) dX4_type_44 rfl rfl ?_
        refine g_X4_text (i := 0) (q := 48) dX4_type_45 rfl fX4_10 (hG _ _ rfl) ?_
        refine cX3_0 (My := mX3_count) (q := 51) dX4_type_48 rfl kX4_56 vX3_count (hG _ _ rfl) rfl (x3_count hG rfl) ⟨by decide, by decide⟩ ⟨by decide, by decide⟩ (Nat.le_of_ble_eq_true rfl) ?_
        refine r_reti dX4_type_51 rfl (by decide) (by decide) ?_
        exact ret_i (by unfold pPut; rw [if_pos (by omega)]; show u1 (cnt σ) 5 (cnt σ 5 + 1) 5 = _; exact u1_s _ _ _)
      · exfalso; omega
set_option maxRecDepth 100000 in
set_option maxHeartbeats 4000000 in
theorem x4_type_b1 (hG : Full γ) (hW : Wk σ) {c : Int} (hc : 0 ≤ c ∧ c < 65536) (h : okTy c = false) : Ev γ mX4_type 7 1 6 [.ref (ga γ 6 0), .int (zI c)] σ xs (nR) (thr "java/lang/IllegalArgumentException" σ xs) := by
  refine Ev.of1 0 [some (.ref (ga γ 6 0)), some (.int (zI c))] rfl pn_X4_type rfl (Nat.le_of_ble_eq_true rfl) ?_
  have hc5 := hW.1 5
  have h0 := of_decide_eq_false h
  refine r_iload_n (q := 1) dX4_type_0 rfl rfl ?_
  refine r_bipush (q := 3) dX4_type_1 rfl (bip (by decide) (by decide)) ?_
  refine r_icmp_lt (q := 6) (tgt := 21) dX4_type_3 rfl (by decide) (by first | omega | exact ixO_r (by decide) _) (by first | omega | exact ixO_r (by decide) _) (fun h3 => ?_) (fun h3 => ?_)
  · refine r_throw (i := 12) (tx := "no sign that can be typed") dX4_type_21 dX4_type_24 dX4_type_25 dX4_type_27 dX4_type_30 (by decide) (List.mem_of_getElem? (i := 14) rfl) tw_45 (by decide) (by decide) (by decide) (Nat.le_of_ble_eq_true rfl) ?_
    exact ⟨rfl, rfl, rfl⟩
  · refine r_iload_n (q := 7) dX4_type_6 rfl rfl ?_
    refine r_bipush (q := 9) dX4_type_7 rfl (bip (by decide) (by decide)) ?_
    refine r_icmp_gt (q := 12) (tgt := 21) dX4_type_9 rfl (by decide) (by first | omega | exact ixO_r (by decide) _) (by first | omega | exact ixO_r (by decide) _) (fun h9 => ?_) (fun h9 => ?_)
    · refine r_throw (i := 12) (tx := "no sign that can be typed") dX4_type_21 dX4_type_24 dX4_type_25 dX4_type_27 dX4_type_30 (by decide) (List.mem_of_getElem? (i := 14) rfl) tw_45 (by decide) (by decide) (by decide) (Nat.le_of_ble_eq_true rfl) ?_
      exact ⟨rfl, rfl, rfl⟩
    · refine r_ldcS (i := 11) (tx := "%[]0") (q := 14) dX4_type_12 rfl (List.mem_of_getElem? (i := 13) rfl) ?_
      refine r_iload_n (q := 15) dX4_type_14 rfl rfl ?_
      refine cT_1 (My := mJ0_indexOf_0f7a4) (q := 18) dX4_type_15 rfl kX4_35 vJ0_indexOf_0f7a4 (by decide) rfl (j_indexOf (by decide) (by omega)) ⟨by decide, by decide⟩ ⟨by decide, by decide⟩ (Nat.le_of_ble_eq_true rfl) ?_
      refine r_if_lt (q := 21) (tgt := 31) dX4_type_18 rfl (by decide) (by first | omega | exact ixO_r (by decide) _) (fun h18 => ?_) (fun h18 => ?_)
      · exfalso; omega
      · refine r_throw (i := 12) (tx := "no sign that can be typed") dX4_type_21 dX4_type_24 dX4_type_25 dX4_type_27 dX4_type_30 (by decide) (List.mem_of_getElem? (i := 14) rfl) tw_45 (by decide) (by decide) (by decide) (Nat.le_of_ble_eq_true rfl) ?_
        exact ⟨rfl, rfl, rfl⟩
set_option maxRecDepth 100000 in
set_option maxHeartbeats 4000000 in
theorem x4_type_b2 (hG : Full γ) (hW : Wk σ) {c : Int} (hc : 0 ≤ c ∧ c < 65536) (h : okTy c = true) (hn : 60 < cnt σ 5 + 1) : Ev γ mX4_type 7 1 6 [.ref (ga γ 6 0), .int (zI c)] σ xs (nR) (thr "java/lang/IllegalStateException" σ xs) := by
  refine Ev.of1 0 [some (.ref (ga γ 6 0)), some (.int (zI c))] rfl pn_X4_type rfl (Nat.le_of_ble_eq_true rfl) ?_
  have hc5 := hW.1 5
  have h0 := of_decide_eq_true h
  refine r_iload_n (q := 1) dX4_type_0 rfl rfl ?_
  refine r_bipush (q := 3) dX4_type_1 rfl (bip (by decide) (by decide)) ?_
  refine r_icmp_lt (q := 6) (tgt := 21) dX4_type_3 rfl (by decide) (by first | omega | exact ixO_r (by decide) _) (by first | omega | exact ixO_r (by decide) _) (fun h3 => ?_) (fun h3 => ?_)
  · exfalso; omega
  · refine r_iload_n (q := 7) dX4_type_6 rfl rfl ?_
    refine r_bipush (q := 9) dX4_type_7 rfl (bip (by decide) (by decide)) ?_
    refine r_icmp_gt (q := 12) (tgt := 21) dX4_type_9 rfl (by decide) (by first | omega | exact ixO_r (by decide) _) (by first | omega | exact ixO_r (by decide) _) (fun h9 => ?_) (fun h9 => ?_)
    · exfalso; omega
    · refine r_ldcS (i := 11) (tx := "%[]0") (q := 14) dX4_type_12 rfl (List.mem_of_getElem? (i := 13) rfl) ?_
      refine r_iload_n (q := 15) dX4_type_14 rfl rfl ?_
      refine cT_1 (My := mJ0_indexOf_0f7a4) (q := 18) dX4_type_15 rfl kX4_35 vJ0_indexOf_0f7a4 (by decide) rfl (j_indexOf (by decide) (by omega)) ⟨by decide, by decide⟩ ⟨by decide, by decide⟩ (Nat.le_of_ble_eq_true rfl) ?_
      refine r_if_lt (q := 21) (tgt := 31) dX4_type_18 rfl (by decide) (by first | omega | exact ixO_r (by decide) _) (fun h18 => ?_) (fun h18 => ?_)
      · refine r_aload_n (q := 32) dX4_type_31 rfl rfl ?_
        refine r_iconst (q := 33) dX4_type_32 rfl ?_
        refine tX4_1v (My := mX4_checkRoom) (q := 36) dX4_type_33 rfl kX4_48 vX4_checkRoom (hG _ _ rfl) rfl (x4_checkRoom_b hG hW (by omega) (by omega)) ⟨by decide, by decide⟩ ⟨by decide, by decide⟩ (Nat.le_of_ble_eq_true rfl) ?_
        exact ⟨rfl, rfl, rfl⟩
      · exfalso; omega
set_option maxRecDepth 100000 in
set_option maxHeartbeats 4000000 in
theorem x4_length (hG : Full γ) : Ev γ mX4_length 7 0 0 [.ref (ga γ 6 0)] σ xs (rtn (some (.int (zI (cnt σ 5)))) σ xs) nX := by
  refine Ev.of1 0 [some (.ref (ga γ 6 0))] rfl pn_X4_length rfl (Nat.le_of_ble_eq_true rfl) ?_
  refine r_aload_n (q := 1) dX4_length_0 rfl rfl ?_
  refine g_X4_text (i := 0) (q := 4) dX4_length_1 rfl fX4_10 (hG _ _ rfl) ?_
  refine cX3_0 (My := mX3_count) (q := 7) dX4_length_4 rfl kX4_56 vX3_count (hG _ _ rfl) rfl (x3_count hG rfl) ⟨by decide, by decide⟩ ⟨by decide, by decide⟩ (Nat.le_of_ble_eq_true rfl) ?_
  refine r_reti dX4_length_7 rfl (by decide) (by decide) ?_
  exact ret_i rfl
set_option maxRecDepth 100000 in
set_option maxHeartbeats 4000000 in
theorem x4_wipe (hG : Full γ) (hW : Wk σ) : Ev γ mX4_wipe 7 0 0 [.ref (ga γ 6 0)] σ xs (rtn (some (.int (zI (cnt σ 5)))) (pShort σ 5 0) xs) nX := by
  refine Ev.of1 1 [some (.ref (ga γ 6 0)), none] rfl pn_X4_wipe rfl (Nat.le_of_ble_eq_true rfl) ?_
  refine r_aload_n (q := 1) dX4_wipe_0 rfl rfl ?_
  refine g_X4_text (i := 0) (q := 4) dX4_wipe_1 rfl fX4_10 (hG _ _ rfl) ?_
  refine cX3_0 (My := mX3_count) (q := 7) dX4_wipe_4 rfl kX4_56 vX3_count (hG _ _ rfl) rfl (x3_count hG rfl) ⟨by decide, by decide⟩ ⟨by decide, by decide⟩ (Nat.le_of_ble_eq_true rfl) ?_
  refine r_istore_n (q := 8) dX4_wipe_7 rfl (by decide) (Lst.setL rfl rfl) ?_
  refine r_aload_n (q := 9) dX4_wipe_8 rfl rfl ?_
  refine g_X4_text (i := 0) (q := 12) dX4_wipe_9 rfl fX4_10 (hG _ _ rfl) ?_
  refine r_iconst (q := 13) dX4_wipe_12 rfl ?_
  refine cX3_1v (My := mX3_shorten) (q := 16) dX4_wipe_13 rfl kX4_93 vX3_shorten (hG _ _ rfl) rfl (x3_shorten hG rfl hW (by decide)) ⟨by decide, by decide⟩ ⟨by decide, by decide⟩ (Nat.le_of_ble_eq_true rfl) ?_
  refine r_iload_n (q := 17) dX4_wipe_16 rfl rfl ?_
  refine r_reti dX4_wipe_17 rfl (by decide) (by decide) ?_
  exact ret_i rfl
/-- an escape stands at the end -/
def isEsc (σ : St) : Bool := decide (pAt σ 5 (cnt σ 5 - 3) = 37)
def dropN (σ : St) : Int := if isEsc σ = true then cnt σ 5 - 3 else cnt σ 5 - 1
set_option maxRecDepth 100000 in
set_option maxHeartbeats 4000000 in
theorem x4_drop (hG : Full γ) (hW : Wk σ) (h0 : cnt σ 5 ≠ 0) : Ev γ mX4_drop 7 0 0 [.ref (ga γ 6 0)] σ xs (rtn (some (.int (zI (cnt (pShort σ 5 (dropN σ)) 5)))) (pShort σ 5 (dropN σ)) xs) nX := by
  refine Ev.of1 2 [some (.ref (ga γ 6 0)), none, none] rfl pn_X4_drop rfl (Nat.le_of_ble_eq_true rfl) ?_
  have hc5 := hW.1 5
  have J43 : ∀ z : Bool, z = isEsc σ → RW γ mX4_drop 7 0 0 (rtn (some (.int (zI (cnt (pShort σ 5 (dropN σ)) 5)))) (pShort σ 5 (dropN σ)) xs) nX 0 0 43 [some (.ref (ga γ 6 0)), some (.int (zI (cnt σ 5))), some (.int (zI (bI z)))] [] σ xs := by
    intro z hz
    refine r_aload_n (q := 44) dX4_drop_43 rfl rfl ?_
    refine g_X4_text (i := 0) (q := 47) dX4_drop_44 rfl fX4_10 (hG _ _ rfl) ?_
    refine r_iload_n (q := 48) dX4_drop_47 rfl rfl ?_
    refine r_ifB_eq (q := 51) (tgt := 57) dX4_drop_48 rfl (by decide) (fun h48 => ?_) (fun h48 => ?_)
    · refine r_iload_n (q := 58) dX4_drop_57 rfl rfl ?_
      refine r_iconst (q := 59) dX4_drop_58 rfl ?_
      refine r_isub (q := 60) dX4_drop_59 rfl ?_
      refine cX3_1v (My := mX3_shorten) (q := 63) dX4_drop_60 rfl kX4_93 vX3_shorten (hG _ _ rfl) rfl (x3_shorten hG rfl hW (by omega)) ⟨by decide, by decide⟩ ⟨by decide, by decide⟩ (Nat.le_of_ble_eq_true rfl) ?_
      refine r_aload_n (q := 64) dX4_drop_63 rfl rfl ?_
      refine g_X4_text (i := 0) (q := 67) dX4_drop_64 rfl fX4_10 (hG _ _ rfl) ?_
      refine cX3_0 (My := mX3_count) (q := 70) dX4_drop_67 rfl kX4_56 vX3_count (hG _ _ rfl) rfl (x3_count hG rfl) ⟨by decide, by decide⟩ ⟨by decide, by decide⟩ (Nat.le_of_ble_eq_true rfl) ?_
      refine r_reti dX4_drop_70 rfl (by decide) (by decide) ?_
      first
        | exact ret_is (by unfold dropN; rw [if_pos (by rw [← hz]; assumption)]) (by unfold dropN; rw [if_pos (by rw [← hz]; assumption)])
        | exact ret_is (by unfold dropN; rw [if_neg (by rw [← hz, h48]; decide)]) (by unfold dropN; rw [if_neg (by rw [← hz, h48]; decide)])
    · refine r_iload_n (q := 52) dX4_drop_51 rfl rfl ?_
      refine r_iconst (q := 53) dX4_drop_52 rfl ?_
      refine r_isub (q := 54) dX4_drop_53 rfl ?_
      refine r_goto (q := 60) dX4_drop_54 (by decide) ?_
      refine cX3_1v (My := mX3_shorten) (q := 63) dX4_drop_60 rfl kX4_93 vX3_shorten (hG _ _ rfl) rfl (x3_shorten hG rfl hW (by omega)) ⟨by decide, by decide⟩ ⟨by decide, by decide⟩ (Nat.le_of_ble_eq_true rfl) ?_
      refine r_aload_n (q := 64) dX4_drop_63 rfl rfl ?_
      refine g_X4_text (i := 0) (q := 67) dX4_drop_64 rfl fX4_10 (hG _ _ rfl) ?_
      refine cX3_0 (My := mX3_count) (q := 70) dX4_drop_67 rfl kX4_56 vX3_count (hG _ _ rfl) rfl (x3_count hG rfl) ⟨by decide, by decide⟩ ⟨by decide, by decide⟩ (Nat.le_of_ble_eq_true rfl) ?_
      refine r_reti dX4_drop_70 rfl (by decide) (by decide) ?_
      first
        | exact ret_is (by unfold dropN; rw [if_pos (by rw [← hz]; assumption)]) (by unfold dropN; rw [if_pos (by rw [← hz]; assumption)])
        | exact ret_is (by unfold dropN; rw [if_neg (by rw [← hz, h48]; decide)]) (by unfold dropN; rw [if_neg (by rw [← hz, h48]; decide)])
  refine r_aload_n (q := 1) dX4_drop_0 rfl rfl ?_
  refine g_X4_text (i := 0) (q := 4) dX4_drop_1 rfl fX4_10 (hG _ _ rfl) ?_
  refine cX3_0 (My := mX3_count) (q := 7) dX4_drop_4 rfl kX4_56 vX3_count (hG _ _ rfl) rfl (x3_count hG rfl) ⟨by decide, by decide⟩ ⟨by decide, by decide⟩ (Nat.le_of_ble_eq_true rfl) ?_
  refine r_istore_n (q := 8) dX4_drop_7 rfl (by decide) (Lst.setL rfl rfl) ?_
  refine r_iload_n (q := 9) dX4_drop_8 rfl rfl ?_
  refine r_if_ne (q := 12) (tgt := 22) dX4_drop_9 rfl (by decide) (by first | omega | exact pAt_r _ _ _) (fun h9 => ?_) (fun h9 => ?_)
  · refine r_aload_n (q := 23) dX4_drop_22 rfl rfl ?_
    refine g_X4_text (i := 0) (q := 26) dX4_drop_23 rfl fX4_10 (hG _ _ rfl) ?_
    refine r_iload_n (q := 27) dX4_drop_26 rfl rfl ?_
    refine r_iconst (q := 28) dX4_drop_27 rfl ?_
    refine r_isub (q := 29) dX4_drop_28 rfl ?_
    refine cX3_1 (My := mX3_at) (q := 32) dX4_drop_29 rfl kX4_90 vX3_at (hG _ _ rfl) rfl (x3_at hG rfl hW (by omega)) ⟨by decide, by decide⟩ ⟨by decide, by decide⟩ (Nat.le_of_ble_eq_true rfl) ?_
    refine r_bipush (q := 34) dX4_drop_32 rfl (bip (by decide) (by decide)) ?_
    refine r_icmp_ne (q := 37) (tgt := 41) dX4_drop_34 rfl (by decide) (by first | omega | exact pAt_r _ _ _) (by first | omega | exact pAt_r _ _ _) (fun h34 => ?_) (fun h34 => ?_)
    · refine r_iconst (q := 42) dX4_drop_41 rfl ?_
      refine r_istore_n (q := 43) dX4_drop_42 rfl (by decide) (Lst.setL rfl rfl) ?_
      first
        | exact J43 true (by unfold isEsc; rw [decide_eq_true (by assumption)])
        | exact J43 false (by unfold isEsc; rw [decide_eq_false (by assumption)])
    · refine r_iconst (q := 38) dX4_drop_37 rfl ?_
      refine r_goto (q := 42) dX4_drop_38 (by decide) ?_
      refine r_istore_n (q := 43) dX4_drop_42 rfl (by decide) (Lst.setL rfl rfl) ?_
      first
        | exact J43 true (by unfold isEsc; rw [decide_eq_true (by assumption)])
        | exact J43 false (by unfold isEsc; rw [decide_eq_false (by assumption)])
  · exfalso; omega
set_option maxRecDepth 100000 in
set_option maxHeartbeats 4000000 in
theorem x4_drop_b (hG : Full γ) (hW : Wk σ) (h0 : cnt σ 5 = 0) : Ev γ mX4_drop 7 1 6 [.ref (ga γ 6 0)] σ xs (nR) (thr "java/util/NoSuchElementException" σ xs) := by
  refine Ev.of1 2 [some (.ref (ga γ 6 0)), none, none] rfl pn_X4_drop rfl (Nat.le_of_ble_eq_true rfl) ?_
  have hc5 := hW.1 5
  refine r_aload_n (q := 1) dX4_drop_0 rfl rfl ?_
  refine g_X4_text (i := 0) (q := 4) dX4_drop_1 rfl fX4_10 (hG _ _ rfl) ?_
  refine cX3_0 (My := mX3_count) (q := 7) dX4_drop_4 rfl kX4_56 vX3_count (hG _ _ rfl) rfl (x3_count hG rfl) ⟨by decide, by decide⟩ ⟨by decide, by decide⟩ (Nat.le_of_ble_eq_true rfl) ?_
  refine r_istore_n (q := 8) dX4_drop_7 rfl (by decide) (Lst.setL rfl rfl) ?_
  refine r_iload_n (q := 9) dX4_drop_8 rfl rfl ?_
  refine r_if_ne (q := 12) (tgt := 22) dX4_drop_9 rfl (by decide) (by omega) (fun h9 => ?_) (fun h9 => ?_)
  · exfalso; omega
  · refine r_throwN (i := 45) (tx := "the text is empty") dX4_drop_12 dX4_drop_15 dX4_drop_16 dX4_drop_18 dX4_drop_21 rfl (List.mem_of_getElem? (i := 48) rfl) (by decide) (by decide) (by decide) (Nat.le_of_ble_eq_true rfl) ?_
    exact ⟨rfl, rfl, rfl⟩
set_option maxRecDepth 100000 in
set_option maxHeartbeats 4000000 in
theorem x4_signAt (hG : Full γ) (hW : Wk σ) {p : Int} (hp : 0 ≤ p ∧ p < cnt σ 5) : Ev γ mX4_signAt 7 0 0 [.ref (ga γ 6 0), .int (zI p)] σ xs (rtn (some (.int (zI (pAt σ 5 p)))) σ xs) nX := by
  refine Ev.of1 0 [some (.ref (ga γ 6 0)), some (.int (zI p))] rfl pn_X4_signAt rfl (Nat.le_of_ble_eq_true rfl) ?_
  have hc5 := hW.1 5
  have h9 := pAt_rng σ 5 p
  refine r_iload_n (q := 1) dX4_signAt_0 rfl rfl ?_
  refine r_if_lt (q := 4) (tgt := 15) dX4_signAt_1 rfl (by decide) (by omega) (fun h1 => ?_) (fun h1 => ?_)
  · exfalso; omega
  · refine r_iload_n (q := 5) dX4_signAt_4 rfl rfl ?_
    refine r_aload_n (q := 6) dX4_signAt_5 rfl rfl ?_
    refine g_X4_text (i := 0) (q := 9) dX4_signAt_6 rfl fX4_10 (hG _ _ rfl) ?_
    refine cX3_0 (My := mX3_count) (q := 12) dX4_signAt_9 rfl kX4_56 vX3_count (hG _ _ rfl) rfl (x3_count hG rfl) ⟨by decide, by decide⟩ ⟨by decide, by decide⟩ (Nat.le_of_ble_eq_true rfl) ?_
    refine r_icmp_lt (q := 15) (tgt := 25) dX4_signAt_12 rfl (by decide) (by omega) (by omega) (fun h12 => ?_) (fun h12 => ?_)
    · refine r_aload_n (q := 26) dX4_signAt_25 rfl rfl ?_
      refine g_X4_text (i := 0) (q := 29) dX4_signAt_26 rfl fX4_10 (hG _ _ rfl) ?_
      refine r_iload_n (q := 30) dX4_signAt_29 rfl rfl ?_
      refine cX3_1 (My := mX3_at) (q := 33) dX4_signAt_30 rfl kX4_90 vX3_at (hG _ _ rfl) rfl (x3_at hG rfl hW (by omega)) ⟨by decide, by decide⟩ ⟨by decide, by decide⟩ (Nat.le_of_ble_eq_true rfl) ?_
      refine r_retz dX4_signAt_33 rfl (narC (by omega)) (by decide) (by decide) ?_
      exact ret_i rfl
    · exfalso; omega
set_option maxRecDepth 100000 in
set_option maxHeartbeats 4000000 in
theorem x4_signAt_b (hG : Full γ) (hW : Wk σ) {p : Int} (hr : -2147483648 ≤ p ∧ p ≤ 2147483647) (hp : p < 0 ∨ cnt σ 5 ≤ p) : Ev γ mX4_signAt 7 1 6 [.ref (ga γ 6 0), .int (zI p)] σ xs (nR) (thr "java/lang/IndexOutOfBoundsException" σ xs) := by
  refine Ev.of1 0 [some (.ref (ga γ 6 0)), some (.int (zI p))] rfl pn_X4_signAt rfl (Nat.le_of_ble_eq_true rfl) ?_
  have hc5 := hW.1 5
  refine r_iload_n (q := 1) dX4_signAt_0 rfl rfl ?_
  refine r_if_lt (q := 4) (tgt := 15) dX4_signAt_1 rfl (by decide) (by omega) (fun h1 => ?_) (fun h1 => ?_)
  · refine r_throw (i := 46) (tx := "no such place") dX4_signAt_15 dX4_signAt_18 dX4_signAt_19 dX4_signAt_21 dX4_signAt_24 (by decide) (List.mem_of_getElem? (i := 49) rfl) tw_74 (by decide) (by decide) (by decide) (Nat.le_of_ble_eq_true rfl) ?_
    exact ⟨rfl, rfl, rfl⟩
  · refine r_iload_n (q := 5) dX4_signAt_4 rfl rfl ?_
    refine r_aload_n (q := 6) dX4_signAt_5 rfl rfl ?_
    refine g_X4_text (i := 0) (q := 9) dX4_signAt_6 rfl fX4_10 (hG _ _ rfl) ?_
    refine cX3_0 (My := mX3_count) (q := 12) dX4_signAt_9 rfl kX4_56 vX3_count (hG _ _ rfl) rfl (x3_count hG rfl) ⟨by decide, by decide⟩ ⟨by decide, by decide⟩ (Nat.le_of_ble_eq_true rfl) ?_
    refine r_icmp_lt (q := 15) (tgt := 25) dX4_signAt_12 rfl (by decide) (by omega) (by omega) (fun h12 => ?_) (fun h12 => ?_)
    · exfalso; omega
    · refine r_throw (i := 46) (tx := "no such place") dX4_signAt_15 dX4_signAt_18 dX4_signAt_19 dX4_signAt_21 dX4_signAt_24 (by decide) (List.mem_of_getElem? (i := 49) rfl) tw_74 (by decide) (by decide) (by decide) (Nat.le_of_ble_eq_true rfl) ?_
      exact ⟨rfl, rfl, rfl⟩
def hexS (s : Bool) : Nat := if s = true then 15 else 16
def hexD (s : Bool) (v : Int) : Int := (tS (hexS s)).getD v.toNat 0
theorem hexS_ok (s : Bool) : hexS s < nS ∧ (tS (hexS s)).length = 16 := by cases s <;> decide
theorem shr4 {v : Int} (h : 0 ≤ v ∧ v ≤ 255) : zI v >>> (zI 4 &&& 31) = zI (v / 16) := by
  obtain ⟨m, rfl⟩ : ∃ m : Nat, v = (m : Int) := ⟨v.toNat, by omega⟩
  have h1 := pk_shrN (n := m) (by omega) (zI 4 &&& 31) 4 (by decide)
  have e : nI m = zI (m : Int) := zI_ofNat m
  have e2 : nI (m / 2 ^ 4) = zI ((m : Int) / 16) := by rw [show nI (m / 2 ^ 4) = zI ((m / 2 ^ 4 : Nat) : Int) from zI_ofNat _]; congr 1
  rw [e, e2] at h1
  exact h1
theorem and15 {v : Int} (h : 0 ≤ v ∧ v ≤ 255) : zI v &&& zI 15 = zI (v % 16) := by
  obtain ⟨m, rfl⟩ : ∃ m : Nat, v = (m : Int) := ⟨v.toNat, by omega⟩
  have h1 := pk_andN (n := m) (by omega) (m := zI 15) 4 (by decide)
  have e : nI m = zI (m : Int) := zI_ofNat m
  have e2 : nI (m % 2 ^ 4) = zI ((m : Int) % 16) := by rw [show nI (m % 2 ^ 4) = zI ((m % 2 ^ 4 : Nat) : Int) from zI_ofNat _]; congr 1
  rw [e, e2] at h1
  exact h1
def pEsc (σ : St) (v : Int) (s : Bool) : St := pPut (pPut (pPut σ 5 37) 5 (hexD s (v / 16 % 16))) 5 (hexD s (v % 16))
theorem hexD_r (s : Bool) (v : Int) : 0 ≤ hexD s v ∧ hexD s v < 128 := tS_rng (hexS_ok s).1 v
set_option maxRecDepth 100000 in
set_option maxHeartbeats 4000000 in
theorem x4_escape (hG : Full γ) (hW : Wk σ) {v : Int} {s : Bool} (hv : 0 ≤ v ∧ v ≤ 255) (hn : cnt σ 5 + 3 ≤ 60) : Ev γ mX4_escape 7 0 0 [.ref (ga γ 6 0), .int (zI v), .int (zI (bI s))] σ xs (rtn (some (.int (zI (cnt (pEsc σ v s) 5)))) (pEsc σ v s) xs) nX := by
  refine Ev.of1 1 [some (.ref (ga γ 6 0)), some (.int (zI v)), some (.int (zI (bI s))), none] rfl pn_X4_escape rfl (Nat.le_of_ble_eq_true rfl) ?_
  have hc5 := hW.1 5
  have J37 : ∀ w : Nat, w = hexS s → RW γ mX4_escape 7 0 0 (rtn (some (.int (zI (cnt (pEsc σ v s) 5)))) (pEsc σ v s) xs) nX 0 0 37 [some (.ref (ga γ 6 0)), some (.int (zI v)), some (.int (zI (bI s))), none] [.ref (gK γ w)] σ xs := by
    intro w hw
    subst hw
    refine r_astore_n (q := 38) dX4_escape_37 rfl (by decide) (Lst.setL rfl rfl) ?_
    refine r_aload_n (q := 39) dX4_escape_38 rfl rfl ?_
    refine g_X4_text (i := 0) (q := 42) dX4_escape_39 rfl fX4_10 (hG _ _ rfl) ?_
    refine r_bipush (q := 44) dX4_escape_42 rfl (bip (by decide) (by decide)) ?_
    refine cX3_1v (My := mX3_put) (q := 47) dX4_escape_44 rfl kX4_52 vX3_put (hG _ _ rfl) rfl (x3_put hG rfl (by repeat (first | assumption | apply Wk_put))) ⟨by decide, by decide⟩ ⟨by decide, by decide⟩ (Nat.le_of_ble_eq_true rfl) ?_
    refine r_aload_n (q := 48) dX4_escape_47 rfl rfl ?_
    refine g_X4_text (i := 0) (q := 51) dX4_escape_48 rfl fX4_10 (hG _ _ rfl) ?_
    refine r_aload_n (q := 52) dX4_escape_51 rfl rfl ?_
    refine r_iload_n (q := 53) dX4_escape_52 rfl rfl ?_
    refine r_iconst (q := 54) dX4_escape_53 rfl ?_
    refine r_ishr (q := 55) dX4_escape_54 rfl (shr4 hv) ?_
    refine r_bipush (q := 57) dX4_escape_55 rfl (bip (by decide) (by decide)) ?_
    refine r_iand (q := 58) dX4_escape_57 rfl ?_
    rw [and15 (by omega)]
    refine cT_1 (My := mJ0_charAt_5068e) (q := 61) dX4_escape_58 rfl kX4_66 vJ0_charAt_5068e (hexS_ok s).1 rfl (j_charAt (hexS_ok s).1 (by have := (hexS_ok s).2; omega)) ⟨by decide, by decide⟩ ⟨by decide, by decide⟩ (Nat.le_of_ble_eq_true rfl) ?_
    refine cX3_1v (My := mX3_put) (q := 64) dX4_escape_61 rfl kX4_52 vX3_put (hG _ _ rfl) rfl (x3_put hG rfl (by repeat (first | assumption | apply Wk_put))) ⟨by decide, by decide⟩ ⟨by decide, by decide⟩ (Nat.le_of_ble_eq_true rfl) ?_
    refine r_aload_n (q := 65) dX4_escape_64 rfl rfl ?_
    refine g_X4_text (i := 0) (q := 68) dX4_escape_65 rfl fX4_10 (hG _ _ rfl) ?_
    refine r_aload_n (q := 69) dX4_escape_68 rfl rfl ?_
    refine r_iload_n (q := 70) dX4_escape_69 rfl rfl ?_
    refine r_bipush (q := 72) dX4_escape_70 rfl (bip (by decide) (by decide)) ?_
    refine r_iand (q := 73) dX4_escape_72 rfl ?_
    rw [and15 (by omega)]
    refine cT_1 (My := mJ0_charAt_5068e) (q := 76) dX4_escape_73 rfl kX4_66 vJ0_charAt_5068e (hexS_ok s).1 rfl (j_charAt (hexS_ok s).1 (by have := (hexS_ok s).2; omega)) ⟨by decide, by decide⟩ ⟨by decide, by decide⟩ (Nat.le_of_ble_eq_true rfl) ?_
    refine cX3_1v (My := mX3_put) (q := 79) dX4_escape_76 rfl kX4_52 vX3_put (hG _ _ rfl) rfl (x3_put hG rfl (by repeat (first | assumption | apply Wk_put))) ⟨by decide, by decide⟩ ⟨by decide, by decide⟩ (Nat.le_of_ble_eq_true rfl) ?_
    refine r_aload_n (q := 80) dX4_escape_79 rfl rfl ?_
    refine g_X4_text (i := 0) (q := 83) dX4_escape_80 rfl fX4_10 (hG _ _ rfl) ?_
    refine cX3_0 (My := mX3_count) (q := 86) dX4_escape_83 rfl kX4_56 vX3_count (hG _ _ rfl) rfl (x3_count hG rfl) ⟨by decide, by decide⟩ ⟨by decide, by decide⟩ (Nat.le_of_ble_eq_true rfl) ?_
    refine r_reti dX4_escape_86 rfl (by decide) (by decide) ?_
    exact ret_i rfl
  refine r_iload_n (q := 1) dX4_escape_0 rfl rfl ?_
  refine r_if_lt (q := 4) (tgt := 11) dX4_escape_1 rfl (by decide) (by omega) (fun h1 => ?_) (fun h1 => ?_)
  · exfalso; omega
  · refine r_iload_n (q := 5) dX4_escape_4 rfl rfl ?_
    refine r_sipush (q := 8) dX4_escape_5 rfl (sip (by decide) (by decide)) ?_
    refine r_icmp_le (q := 11) (tgt := 21) dX4_escape_8 rfl (by decide) (by omega) (by omega) (fun h8 => ?_) (fun h8 => ?_)
    · refine r_aload_n (q := 22) dX4_escape_21 rfl rfl ?_
      refine r_iconst (q := 23) dX4_escape_22 rfl ?_
      refine cX4_1v (My := mX4_checkRoom) (q := 26) dX4_escape_23 rfl kX4_48 vX4_checkRoom (hG _ _ rfl) rfl (x4_checkRoom hG hW (by omega) (by omega)) ⟨by decide, by decide⟩ ⟨by decide, by decide⟩ (Nat.le_of_ble_eq_true rfl) ?_
      refine r_iload_n (q := 27) dX4_escape_26 rfl rfl ?_
      refine r_ifB_eq (q := 30) (tgt := 35) dX4_escape_27 rfl (by decide) (fun h27 => ?_) (fun h27 => ?_)
      · refine r_ldcS (i := 16) (tx := "0123456789ABCDEF") (q := 37) dX4_escape_35 rfl (List.mem_of_getElem? (i := 18) rfl) ?_
        first
          | exact J37 15 (by unfold hexS; rw [if_pos (by assumption)])
          | exact J37 16 (by unfold hexS; rw [h27]; rfl)
      · refine r_ldcS (i := 15) (tx := "0123456789abcdef") (q := 32) dX4_escape_30 rfl (List.mem_of_getElem? (i := 17) rfl) ?_
        refine r_goto (q := 37) dX4_escape_32 (by decide) ?_
        first
          | exact J37 15 (by unfold hexS; rw [if_pos (by assumption)])
          | exact J37 16 (by unfold hexS; rw [h27]; rfl)
    · exfalso; omega
set_option maxRecDepth 100000 in
set_option maxHeartbeats 4000000 in
theorem x4_escape_b1 (hG : Full γ) (hW : Wk σ) {v : Int} {s : Bool} (hr : -2147483648 ≤ v ∧ v ≤ 2147483647) (hv : v < 0 ∨ 255 < v) : Ev γ mX4_escape 7 1 6 [.ref (ga γ 6 0), .int (zI v), .int (zI (bI s))] σ xs (nR) (thr "java/lang/IllegalArgumentException" σ xs) := by
  refine Ev.of1 1 [some (.ref (ga γ 6 0)), some (.int (zI v)), some (.int (zI (bI s))), none] rfl pn_X4_escape rfl (Nat.le_of_ble_eq_true rfl) ?_
  refine r_iload_n (q := 1) dX4_escape_0 rfl rfl ?_
  refine r_if_lt (q := 4) (tgt := 11) dX4_escape_1 rfl (by decide) (by omega) (fun h1 => ?_) (fun h1 => ?_)
  · refine r_throw (i := 14) (tx := "the value is out of range") dX4_escape_11 dX4_escape_14 dX4_escape_15 dX4_escape_17 dX4_escape_20 (by decide) (List.mem_of_getElem? (i := 16) rfl) tw_45 (by decide) (by decide) (by decide) (Nat.le_of_ble_eq_true rfl) ?_
    exact ⟨rfl, rfl, rfl⟩
  · refine r_iload_n (q := 5) dX4_escape_4 rfl rfl ?_
    refine r_sipush (q := 8) dX4_escape_5 rfl (sip (by decide) (by decide)) ?_
    refine r_icmp_le (q := 11) (tgt := 21) dX4_escape_8 rfl (by decide) (by omega) (by omega) (fun h8 => ?_) (fun h8 => ?_)
    · exfalso; omega
    · refine r_throw (i := 14) (tx := "the value is out of range") dX4_escape_11 dX4_escape_14 dX4_escape_15 dX4_escape_17 dX4_escape_20 (by decide) (List.mem_of_getElem? (i := 16) rfl) tw_45 (by decide) (by decide) (by decide) (Nat.le_of_ble_eq_true rfl) ?_
      exact ⟨rfl, rfl, rfl⟩
set_option maxRecDepth 100000 in
set_option maxHeartbeats 4000000 in
theorem x4_escape_b2 (hG : Full γ) (hW : Wk σ) {v : Int} {s : Bool} (hv : 0 ≤ v ∧ v ≤ 255) (hn : 60 < cnt σ 5 + 3) : Ev γ mX4_escape 7 1 6 [.ref (ga γ 6 0), .int (zI v), .int (zI (bI s))] σ xs (nR) (thr "java/lang/IllegalStateException" σ xs) := by
  refine Ev.of1 1 [some (.ref (ga γ 6 0)), some (.int (zI v)), some (.int (zI (bI s))), none] rfl pn_X4_escape rfl (Nat.le_of_ble_eq_true rfl) ?_
  refine r_iload_n (q := 1) dX4_escape_0 rfl rfl ?_
  refine r_if_lt (q := 4) (tgt := 11) dX4_escape_1 rfl (by decide) (by omega) (fun h1 => ?_) (fun h1 => ?_)
  · exfalso; omega
  · refine r_iload_n (q := 5) dX4_escape_4 rfl rfl ?_
    refine r_sipush (q := 8) dX4_escape_5 rfl (sip (by decide) (by decide)) ?_
    refine r_icmp_le (q := 11) (tgt := 21) dX4_escape_8 rfl (by decide) (by omega) (by omega) (fun h8 => ?_) (fun h8 => ?_)
    · refine r_aload_n (q := 22) dX4_escape_21 rfl rfl ?_
      refine r_iconst (q := 23) dX4_escape_22 rfl ?_
      refine tX4_1v (My := mX4_checkRoom) (q := 26) dX4_escape_23 rfl kX4_48 vX4_checkRoom (hG _ _ rfl) rfl (x4_checkRoom_b hG hW (by omega) (by omega)) ⟨by decide, by decide⟩ ⟨by decide, by decide⟩ (Nat.le_of_ble_eq_true rfl) ?_
      exact ⟨rfl, rfl, rfl⟩
    · exfalso; omega
end X4
