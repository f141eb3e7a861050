/-! Address: its methods as functions of the state -/
def pBeg (σ : St) (j : Nat) (k : Int) : Int := if 0 ≤ k ∧ k < 9 then bg σ j k.toNat else -1
def pEnd (σ : St) (j : Nat) (k : Int) : Int := if 0 ≤ k ∧ k < 9 then en σ j k.toNat else -1
def pHas (σ : St) (j : Nat) (k : Int) : Bool := decide (pBeg σ j k ≠ -1)
def pSiz (σ : St) (j : Nat) (k : Int) : Int := if pBeg σ j k = -1 then -1 else pEnd σ j k - pBeg σ j k
def pPutP (σ : St) (j : Nat) (k : Int) (i : Nat) : St := pPutR σ i j (pBeg σ j k) (pEnd σ j k)
def pIsW (σ : St) (j i : Nat) : Bool := if cnt σ j = cnt σ i then pRng σ j i 0 0 0 (cnt σ j) else false
def pSkip (σ : St) (j : Nat) : Bool := if pHas σ j 5 = true ∧ pHas σ j 2 = false then gSl (pAt σ j) (pBeg σ j 1) else false
def pWoS (σ : St) (j i : Nat) : Bool := if cnt σ j = cnt σ i + 2 then (if pRng σ j i 0 0 0 (pBeg σ j 1) = true then pRng σ j i (pBeg σ j 1 + 2) (pBeg σ j 1) (pBeg σ j 1 + 2) (cnt σ j) else false) else false
def pPA (σ : St) (j i : Nat) (k : Int) : Bool := if pSiz σ j k = pSiz σ i k then pRng σ j i (pBeg σ j k) (pBeg σ i k) (pBeg σ j k) (pEnd σ j k) else false
def pPAsF (σ : St) (j i : Nat) (a k : Int) : Int := if k < 9 then pPAsF σ j i (if pPA σ j i k = true then a + 1 else a) (k + 1) else a
termination_by (9 - k).toNat
decreasing_by omega
def pPAs (σ : St) (j i : Nat) : Int := pPAsF σ j i 0 0
def pSumF (σ : St) (j : Nat) (a k : Int) : Int := if k < 9 then pSumF σ j (31 * a + pSiz σ j k) (k + 1) else 31 * a + pt σ j
termination_by (9 - k).toNat
decreasing_by omega
def pSum (σ : St) (j : Nat) (a : Int) : Int := if hld σ j = true then pSumF σ j a 0 else 31 * a
def pMk (σ : St) (j : Nat) (k b e : Int) : St := if 0 ≤ k ∧ k < 9 then sEn (sBg σ (u2 (bg σ) j k.toNat b)) (u2 (en σ) j k.toNat e) else σ
def pATkF (σ : St) (j i : Nat) (k : Int) : St := if k < 9 then pATkF (pMk σ j k (pBeg σ i k) (pEnd σ i k)) j i (k + 1) else sHd (sPt σ (u1 (pt σ) j (pt σ i))) (u1 (hld σ) j (hld σ i))
termination_by (9 - k).toNat
decreasing_by omega
def pATk (σ : St) (j i : Nat) : St := pATkF (pTak σ j i 0) j i 0
def pFgF (σ : St) (j : Nat) (k : Int) : St := if k < 9 then pFgF (pMk σ j k (-1) (-1)) j (k + 1) else sHd (sPt σ (u1 (pt σ) j (-1))) (u1 (hld σ) j false)
termination_by (9 - k).toNat
decreasing_by omega
def pFg (σ : St) (j : Nat) : St := pFgF σ j 0
theorem pBeg_r {σ : St} (h : Wk σ) (j : Nat) (k : Int) : -1 ≤ pBeg σ j k ∧ pBeg σ j k ≤ 128 := by unfold pBeg; split; exact h.2.1 j _; omega
theorem pEnd_r {σ : St} (h : Wk σ) (j : Nat) (k : Int) : -1 ≤ pEnd σ j k ∧ pEnd σ j k ≤ 128 := by unfold pEnd; split; exact h.2.2.1 j _; omega
theorem pSiz_r {σ : St} (h : Wk σ) (j : Nat) (k : Int) : -200 ≤ pSiz σ j k ∧ pSiz σ j k ≤ 200 := by
  have h1 := pBeg_r h j k
  have h2 := pEnd_r h j k
  unfold pSiz
  split <;> omega
theorem Wk_mk {σ : St} (h : Wk σ) (j : Nat) (k : Int) {b e : Int} (hb : -1 ≤ b ∧ b ≤ 128) (he : -1 ≤ e ∧ e ≤ 128) : Wk (pMk σ j k b e) := by
  unfold pMk
  split
  · refine ⟨h.1, fun j' k' => ?_, fun j' k' => ?_, h.2.2.2⟩
    · have := h.2.1 j' k'
      show -1 ≤ u2 (bg σ) j k.toNat b j' k' ∧ u2 (bg σ) j k.toNat b j' k' ≤ 128
      unfold u2 u1
      split
      · subst_vars
        dsimp only
        split <;> omega
      · omega
    · have := h.2.2.1 j' k'
      show -1 ≤ u2 (en σ) j k.toNat e j' k' ∧ u2 (en σ) j k.toNat e j' k' ≤ 128
      unfold u2 u1
      split
      · subst_vars
        dsimp only
        split <;> omega
      · omega
  · exact h
theorem Wk_pt {σ : St} (h : Wk σ) (j : Nat) {v : Int} (hv : -1 ≤ v ∧ v ≤ 2147483647) : Wk (sPt σ (u1 (pt σ) j v)) := by
  refine ⟨h.1, h.2.1, h.2.2.1, fun j' => ?_, h.2.2.2.2⟩
  have := h.2.2.2.1 j'
  show -1 ≤ u1 (pt σ) j v j' ∧ u1 (pt σ) j v j' ≤ 2147483647
  unfold u1
  split <;> omega
theorem Wk_hd {σ : St} (h : Wk σ) (f : Nat → Bool) : Wk (sHd σ f) := h
theorem Wk_rf {σ : St} (h : Wk σ) {v : Int} (hv : -1 ≤ v ∧ v ≤ 128) : Wk (sRf σ v) := ⟨h.1, h.2.1, h.2.2.1, h.2.2.2.1, hv⟩
theorem Wk_atkF {j i : Nat} : ∀ k : Int, k ≤ 10 → ∀ {σ : St}, Wk σ → Wk (pATkF σ j i k) := by
  refine up (fun k hk ih σ h => ?_)
  unfold pATkF
  split
  · exact ih (k + 1) (by omega) (by omega) (Wk_mk h j k (pBeg_r h i k) (pEnd_r h i k))
  · exact Wk_hd (Wk_pt h j (h.2.2.2.1 i)) _
theorem Wk_atk {j i : Nat} {σ : St} (h : Wk σ) : Wk (pATk σ j i) := Wk_atkF 0 (by omega) (Wk_tak 0 (by omega) h)
theorem Wk_fgF {j : Nat} : ∀ k : Int, k ≤ 10 → ∀ {σ : St}, Wk σ → Wk (pFgF σ j k) := by
  refine up (fun k hk ih σ h => ?_)
  unfold pFgF
  split
  · exact ih (k + 1) (by omega) (by omega) (Wk_mk h j k (by omega) (by omega))
  · exact Wk_hd (Wk_pt h j (by omega)) _
theorem Wk_fg {j : Nat} {σ : St} (h : Wk σ) : Wk (pFg σ j) := Wk_fgF 0 (by omega) h
theorem vK20 {j : Nat} (h : vK 2 j = true) : vK 0 j = true := by simp [vK] at h ⊢; omega
section X0
variable {γ : Gm} {σ : St} {xs : va_W} {i j : Nat}
set_option maxRecDepth 100000 in
set_option maxHeartbeats 4000000 in
theorem x0_whole (hG : Full γ) (hj : vK 2 j = true) : Ev γ mX0_whole 1 0 0 [.ref (ga γ 2 j)] σ xs (rtn (some (.ref (ga γ 0 j))) σ xs) nX := by
  refine Ev.of1 0 [some (.ref (ga γ 2 j))] rfl pn_X0_whole rfl (Nat.le_of_ble_eq_true rfl) ?_
  refine r_aload_n (q := 1) dX0_whole_0 rfl rfl ?_
  refine g_X0_whole (q := 4) dX0_whole_1 rfl fX0_12 (hG _ _ (by first | rfl | exact hj | exact vK20 hj)) ?_
  refine r_reta dX0_whole_4 rfl (by decide) (by decide) ?_
  exact ⟨rfl, rfl, rfl⟩
set_option maxRecDepth 100000 in
set_option maxHeartbeats 4000000 in
theorem x0_isHeld (hG : Full γ) (hj : vK 2 j = true) : Ev γ mX0_isHeld 1 0 0 [.ref (ga γ 2 j)] σ xs (rtn (some (.int (zI (bI (hld σ j))))) σ xs) nX := by
  refine Ev.of1 0 [some (.ref (ga γ 2 j))] rfl pn_X0_isHeld rfl (Nat.le_of_ble_eq_true rfl) ?_
  refine r_aload_n (q := 1) dX0_isHeld_0 rfl rfl ?_
  refine g_X0_isHeld (q := 4) dX0_isHeld_1 rfl fX0_28 (hG _ _ (by first | rfl | exact hj | exact vK20 hj)) ?_
  refine r_retz dX0_isHeld_4 rfl (narB _) (by decide) (by decide) ?_
  exact ret_i rfl
set_option maxRecDepth 100000 in
set_option maxHeartbeats 4000000 in
theorem x0_portNumber (hG : Full γ) (hj : vK 2 j = true) : Ev γ mX0_portNumber 1 0 0 [.ref (ga γ 2 j)] σ xs (rtn (some (.int (zI (pt σ j)))) σ xs) nX := by
  refine Ev.of1 0 [some (.ref (ga γ 2 j))] rfl pn_X0_portNumber rfl (Nat.le_of_ble_eq_true rfl) ?_
  refine r_aload_n (q := 1) dX0_portNumber_0 rfl rfl ?_
  refine g_X0_portNumber (q := 4) dX0_portNumber_1 rfl fX0_32 (hG _ _ (by first | rfl | exact hj | exact vK20 hj)) ?_
  refine r_reti dX0_portNumber_4 rfl (by decide) (by decide) ?_
  exact ret_i rfl
set_option maxRecDepth 100000 in
set_option maxHeartbeats 4000000 in
theorem x0_beginOf (hG : Full γ) (hj : vK 2 j = true) (hW : Wk σ) {k : Int} (hk : -2147483648 ≤ k ∧ k ≤ 2147483647) : Ev γ mX0_beginOf 1 0 0 [.ref (ga γ 2 j), .int (zI k)] σ xs (rtn (some (.int (zI (pBeg σ j k)))) σ xs) nX := by
  refine Ev.of1 0 [some (.ref (ga γ 2 j)), some (.int (zI k))] rfl pn_X0_beginOf rfl (Nat.le_of_ble_eq_true rfl) ?_
  refine r_iload_n (q := 1) dX0_beginOf_0 rfl rfl ?_
  refine r_if_lt (q := 4) (tgt := 22) dX0_beginOf_1 rfl (by decide) (by omega) (fun h1 => ?_) (fun h1 => ?_)
  · refine r_iconst (q := 23) dX0_beginOf_22 rfl ?_
    refine r_reti dX0_beginOf_23 rfl (by decide) (by decide) ?_
    exact ret_i (by unfold pBeg; first | rw [if_pos (by omega)] | rw [if_neg (by omega)])
  · refine r_iload_n (q := 5) dX0_beginOf_4 rfl rfl ?_
    refine r_aload_n (q := 6) dX0_beginOf_5 rfl rfl ?_
    refine g_X0_begins (q := 9) dX0_beginOf_6 rfl fX0_18 (hG _ _ (by first | rfl | exact hj | exact vK20 hj)) ?_
    refine r_alen (q := 10) (t0 := 1) (z := 9) rfl rfl rfl dX0_beginOf_9 rfl (hG _ _ (by first | rfl | exact hj | exact vK20 hj)) ?_
    refine r_icmp_ge (q := 13) (tgt := 22) dX0_beginOf_10 rfl (by decide) (by omega) (by omega) (fun h10 => ?_) (fun h10 => ?_)
    · refine r_iconst (q := 23) dX0_beginOf_22 rfl ?_
      refine r_reti dX0_beginOf_23 rfl (by decide) (by decide) ?_
      exact ret_i (by unfold pBeg; first | rw [if_pos (by omega)] | rw [if_neg (by omega)])
    · refine r_aload_n (q := 14) dX0_beginOf_13 rfl rfl ?_
      refine g_X0_begins (q := 17) dX0_beginOf_14 rfl fX0_18 (hG _ _ (by first | rfl | exact hj | exact vK20 hj)) ?_
      refine r_iload_n (q := 18) dX0_beginOf_17 rfl rfl ?_
      refine l_bg (q := 19) dX0_beginOf_18 rfl (hG _ _ (by first | rfl | exact hj | exact vK20 hj)) (by omega) ?_
      refine r_goto (q := 23) dX0_beginOf_19 (by decide) ?_
      refine r_reti dX0_beginOf_23 rfl (by decide) (by decide) ?_
      exact ret_i (by unfold pBeg; first | rw [if_pos (by omega)] | rw [if_neg (by omega)])
set_option maxRecDepth 100000 in
set_option maxHeartbeats 4000000 in
theorem x0_endOf (hG : Full γ) (hj : vK 2 j = true) (hW : Wk σ) {k : Int} (hk : -2147483648 ≤ k ∧ k ≤ 2147483647) : Ev γ mX0_endOf 1 0 0 [.ref (ga γ 2 j), .int (zI k)] σ xs (rtn (some (.int (zI (pEnd σ j k)))) σ xs) nX := by
  refine Ev.of1 0 [some (.ref (ga γ 2 j)), some (.int (zI k))] rfl pn_X0_endOf rfl (Nat.le_of_ble_eq_true rfl) ?_
  refine r_iload_n (q := 1) dX0_endOf_0 rfl rfl ?_
  refine r_if_lt (q := 4) (tgt := 22) dX0_endOf_1 rfl (by decide) (by omega) (fun h1 => ?_) (fun h1 => ?_)
  · refine r_iconst (q := 23) dX0_endOf_22 rfl ?_
    refine r_reti dX0_endOf_23 rfl (by decide) (by decide) ?_
    exact ret_i (by unfold pEnd; first | rw [if_pos (by omega)] | rw [if_neg (by omega)])
  · refine r_iload_n (q := 5) dX0_endOf_4 rfl rfl ?_
    refine r_aload_n (q := 6) dX0_endOf_5 rfl rfl ?_
    refine g_X0_ends (q := 9) dX0_endOf_6 rfl fX0_22 (hG _ _ (by first | rfl | exact hj | exact vK20 hj)) ?_
    refine r_alen (q := 10) (t0 := 1) (z := 9) rfl rfl rfl dX0_endOf_9 rfl (hG _ _ (by first | rfl | exact hj | exact vK20 hj)) ?_
    refine r_icmp_ge (q := 13) (tgt := 22) dX0_endOf_10 rfl (by decide) (by omega) (by omega) (fun h10 => ?_) (fun h10 => ?_)
    · refine r_iconst (q := 23) dX0_endOf_22 rfl ?_
      refine r_reti dX0_endOf_23 rfl (by decide) (by decide) ?_
      exact ret_i (by unfold pEnd; first | rw [if_pos (by omega)] | rw [if_neg (by omega)])
    · refine r_aload_n (q := 14) dX0_endOf_13 rfl rfl ?_
      refine g_X0_ends (q := 17) dX0_endOf_14 rfl fX0_22 (hG _ _ (by first | rfl | exact hj | exact vK20 hj)) ?_
      refine r_iload_n (q := 18) dX0_endOf_17 rfl rfl ?_
      refine l_en (q := 19) dX0_endOf_18 rfl (hG _ _ (by first | rfl | exact hj | exact vK20 hj)) (by omega) ?_
      refine r_goto (q := 23) dX0_endOf_19 (by decide) ?_
      refine r_reti dX0_endOf_23 rfl (by decide) (by decide) ?_
      exact ret_i (by unfold pEnd; first | rw [if_pos (by omega)] | rw [if_neg (by omega)])
set_option maxRecDepth 100000 in
set_option maxHeartbeats 4000000 in
theorem x0_has (hG : Full γ) (hj : vK 2 j = true) (hW : Wk σ) {k : Int} (hk : -2147483648 ≤ k ∧ k ≤ 2147483647) : Ev γ mX0_has 2 0 0 [.ref (ga γ 2 j), .int (zI k)] σ xs (rtn (some (.int (zI (bI (pHas σ j k))))) σ xs) nX := by
  refine Ev.of1 0 [some (.ref (ga γ 2 j)), some (.int (zI k))] rfl pn_X0_has rfl (Nat.le_of_ble_eq_true rfl) ?_
  refine r_aload_n (q := 1) dX0_has_0 rfl rfl ?_
  refine r_iload_n (q := 2) dX0_has_1 rfl rfl ?_
  refine cX0_1 (My := mX0_beginOf) (q := 5) dX0_has_2 rfl kX0_36 vX0_beginOf (hG _ _ (by first | rfl | exact hj | exact vK20 hj)) rfl (x0_beginOf hG (by first | exact hj | exact hi) hW (by omega)) ⟨by decide, by decide⟩ ⟨by decide, by decide⟩ (Nat.le_of_ble_eq_true rfl) ?_
  refine r_iconst (q := 6) dX0_has_5 rfl ?_
  refine r_icmp_eq (q := 9) (tgt := 13) dX0_has_6 rfl (by decide) (by first | omega | (have h1 := pBeg_r hW j k; omega) | (have h1 := pSiz_r hW j k; omega) | (have h1 := pSiz_r hW i k; omega)) (by first | omega | (have h1 := pBeg_r hW j k; omega) | (have h1 := pSiz_r hW j k; omega) | (have h1 := pSiz_r hW i k; omega)) (fun h6 => ?_) (fun h6 => ?_)
  · refine r_iconst (q := 14) dX0_has_13 rfl ?_
    refine r_retz dX0_has_14 rfl (by first | rfl | exact narB _) (by decide) (by decide) ?_
    exact ret_i (by unfold pHas; simp [bI]; omega)
  · refine r_iconst (q := 10) dX0_has_9 rfl ?_
    refine r_goto (q := 14) dX0_has_10 (by decide) ?_
    refine r_retz dX0_has_14 rfl (by first | rfl | exact narB _) (by decide) (by decide) ?_
    exact ret_i (by unfold pHas; simp [bI]; omega)
set_option maxRecDepth 100000 in
set_option maxHeartbeats 4000000 in
theorem x0_sizeOf (hG : Full γ) (hj : vK 2 j = true) (hW : Wk σ) {k : Int} (hk : -2147483648 ≤ k ∧ k ≤ 2147483647) : Ev γ mX0_sizeOf 3 0 0 [.ref (ga γ 2 j), .int (zI k)] σ xs (rtn (some (.int (zI (pSiz σ j k)))) σ xs) nX := by
  refine Ev.of1 0 [some (.ref (ga γ 2 j)), some (.int (zI k))] rfl pn_X0_sizeOf rfl (Nat.le_of_ble_eq_true rfl) ?_
  refine r_aload_n (q := 1) dX0_sizeOf_0 rfl rfl ?_
  refine r_iload_n (q := 2) dX0_sizeOf_1 rfl rfl ?_
  refine cX0_1 (My := mX0_has) (q := 5) dX0_sizeOf_2 rfl kX0_40 vX0_has (hG _ _ (by first | rfl | exact hj | exact vK20 hj)) rfl (x0_has hG hj hW (by omega)) ⟨by decide, by decide⟩ ⟨by decide, by decide⟩ (Nat.le_of_ble_eq_true rfl) ?_
  refine r_ifB_eq (q := 8) (tgt := 22) dX0_sizeOf_5 rfl (by decide) (fun h5 => ?_) (fun h5 => ?_)
  · refine r_iconst (q := 23) dX0_sizeOf_22 rfl ?_
    refine r_reti dX0_sizeOf_23 rfl (by decide) (by decide) ?_
    exact ret_i (by unfold pSiz; unfold pHas at h5; simp at h5; first | rw [if_pos (by omega)] | rw [if_neg (by omega)])
  · refine r_aload_n (q := 9) dX0_sizeOf_8 rfl rfl ?_
    refine r_iload_n (q := 10) dX0_sizeOf_9 rfl rfl ?_
    refine cX0_1 (My := mX0_endOf) (q := 13) dX0_sizeOf_10 rfl kX0_44 vX0_endOf (hG _ _ (by first | rfl | exact hj | exact vK20 hj)) rfl (x0_endOf hG (by first | exact hj | exact hi) hW (by omega)) ⟨by decide, by decide⟩ ⟨by decide, by decide⟩ (Nat.le_of_ble_eq_true rfl) ?_
    refine r_aload_n (q := 14) dX0_sizeOf_13 rfl rfl ?_
    refine r_iload_n (q := 15) dX0_sizeOf_14 rfl rfl ?_
    refine cX0_1 (My := mX0_beginOf) (q := 18) dX0_sizeOf_15 rfl kX0_36 vX0_beginOf (hG _ _ (by first | rfl | exact hj | exact vK20 hj)) rfl (x0_beginOf hG (by first | exact hj | exact hi) hW (by omega)) ⟨by decide, by decide⟩ ⟨by decide, by decide⟩ (Nat.le_of_ble_eq_true rfl) ?_
    refine r_isub (q := 19) dX0_sizeOf_18 rfl ?_
    refine r_goto (q := 23) dX0_sizeOf_19 (by decide) ?_
    refine r_reti dX0_sizeOf_23 rfl (by decide) (by decide) ?_
    exact ret_i (by unfold pSiz; unfold pHas at h5; simp at h5; first | rw [if_pos (by omega)] | rw [if_neg (by omega)])
set_option maxRecDepth 100000 in
set_option maxHeartbeats 4000000 in
theorem x0_signOf (hG : Full γ) (hj : vK 2 j = true) (hW : Wk σ) {k : Int} (hk : -2147483648 ≤ k ∧ k ≤ 2147483647) {p : Int} (hp : -1 ≤ p ∧ p ≤ 1000000) : Ev γ mX0_signOf 2 0 0 [.ref (ga γ 2 j), .int (zI k), .int (zI p)] σ xs (rtn (some (.int (zI (pAt σ j (pBeg σ j k + p))))) σ xs) nX := by
  refine Ev.of1 0 [some (.ref (ga γ 2 j)), some (.int (zI k)), some (.int (zI p))] rfl pn_X0_signOf rfl (Nat.le_of_ble_eq_true rfl) ?_
  have h1 := pBeg_r hW j k
  have h2 := pAt_rng σ j (pBeg σ j k + p)
  refine r_aload_n (q := 1) dX0_signOf_0 rfl rfl ?_
  refine g_X0_whole (q := 4) dX0_signOf_1 rfl fX0_12 (hG _ _ (by first | rfl | exact hj | exact vK20 hj)) ?_
  refine r_aload_n (q := 5) dX0_signOf_4 rfl rfl ?_
  refine r_iload_n (q := 6) dX0_signOf_5 rfl rfl ?_
  refine cX0_1 (My := mX0_beginOf) (q := 9) dX0_signOf_6 rfl kX0_36 vX0_beginOf (hG _ _ (by first | rfl | exact hj | exact vK20 hj)) rfl (x0_beginOf hG (by first | exact hj | exact hi) hW (by omega)) ⟨by decide, by decide⟩ ⟨by decide, by decide⟩ (Nat.le_of_ble_eq_true rfl) ?_
  refine r_iload_n (q := 10) dX0_signOf_9 rfl rfl ?_
  refine r_iadd (q := 11) dX0_signOf_10 rfl ?_
  refine cX3_1 (My := mX3_at) (q := 14) dX0_signOf_11 rfl kX0_47 vX3_at (hG _ _ (by first | rfl | exact hj | exact vK20 hj)) rfl (x3_at hG (vK20 hj) hW (by omega)) ⟨by decide, by decide⟩ ⟨by decide, by decide⟩ (Nat.le_of_ble_eq_true rfl) ?_
  refine r_retz dX0_signOf_14 rfl (narC (by omega)) (by decide) (by decide) ?_
  exact ret_i rfl
set_option maxRecDepth 100000 in
set_option maxHeartbeats 4000000 in
theorem x0_putPart (hG : Full γ) (hj : vK 2 j = true) (hi : vK 0 i = true) (hW : Wk σ) {k : Int} (hk : -2147483648 ≤ k ∧ k ≤ 2147483647) : Ev γ mX0_putPart 3 0 0 [.ref (ga γ 2 j), .int (zI k), .ref (ga γ 0 i)] σ xs (rtn none (pPutP σ j k i) xs) nX := by
  refine Ev.of1 0 [some (.ref (ga γ 2 j)), some (.int (zI k)), some (.ref (ga γ 0 i))] rfl pn_X0_putPart rfl (Nat.le_of_ble_eq_true rfl) ?_
  have h1 := pBeg_r hW j k
  have h2 := pEnd_r hW j k
  refine r_aload_n (q := 1) dX0_putPart_0 rfl rfl ?_
  refine r_aload_n (q := 2) dX0_putPart_1 rfl rfl ?_
  refine g_X0_whole (q := 5) dX0_putPart_2 rfl fX0_12 (hG _ _ (by first | rfl | exact hj | exact hi | exact vK20 hj)) ?_
  refine r_aload_n (q := 6) dX0_putPart_5 rfl rfl ?_
  refine r_iload_n (q := 7) dX0_putPart_6 rfl rfl ?_
  refine cX0_1 (My := mX0_beginOf) (q := 10) dX0_putPart_7 rfl kX0_36 vX0_beginOf (hG _ _ (by first | rfl | exact hj | exact hi | exact vK20 hj)) rfl (x0_beginOf hG hj hW (by omega)) ⟨by decide, by decide⟩ ⟨by decide, by decide⟩ (Nat.le_of_ble_eq_true rfl) ?_
  refine r_aload_n (q := 11) dX0_putPart_10 rfl rfl ?_
  refine r_iload_n (q := 12) dX0_putPart_11 rfl rfl ?_
  refine cX0_1 (My := mX0_endOf) (q := 15) dX0_putPart_12 rfl kX0_44 vX0_endOf (hG _ _ (by first | rfl | exact hj | exact hi | exact vK20 hj)) rfl (x0_endOf hG hj hW (by omega)) ⟨by decide, by decide⟩ ⟨by decide, by decide⟩ (Nat.le_of_ble_eq_true rfl) ?_
  refine cX3_3v (My := mX3_putRange) (q := 18) dX0_putPart_15 rfl kX0_51 vX3_putRange (hG _ _ (by first | rfl | exact hj | exact hi | exact vK20 hj)) rfl (x3_putRange hG hi (vK20 hj) hW (by omega) (by omega)) ⟨by decide, by decide⟩ ⟨by decide, by decide⟩ (Nat.le_of_ble_eq_true rfl) ?_
  refine r_retv dX0_putPart_18 rfl (by decide) (by decide) ?_
  exact ret_v rfl
set_option maxRecDepth 100000 in
set_option maxHeartbeats 4000000 in
theorem x0_isWhole (hG : Full γ) (hj : vK 2 j = true) (hi : vK 0 i = true) (hW : Wk σ) : Ev γ mX0_isWhole 3 0 0 [.ref (ga γ 2 j), .ref (ga γ 0 i)] σ xs (rtn (some (.int (zI (bI (pIsW σ j i))))) σ xs) nX := by
  refine Ev.of1 0 [some (.ref (ga γ 2 j)), some (.ref (ga γ 0 i))] rfl pn_X0_isWhole rfl (Nat.le_of_ble_eq_true rfl) ?_
  have h1 := hW.1 j
  have h2 := hW.1 i
  refine r_aload_n (q := 1) dX0_isWhole_0 rfl rfl ?_
  refine g_X0_whole (q := 4) dX0_isWhole_1 rfl fX0_12 (hG _ _ (by first | rfl | exact hj | exact hi | exact vK20 hj)) ?_
  refine cX3_0 (My := mX3_count) (q := 7) dX0_isWhole_4 rfl kX0_55 vX3_count (hG _ _ (by first | rfl | exact hj | exact hi | exact vK20 hj)) rfl (x3_count hG (by first | exact vK20 hj | exact hi)) ⟨by decide, by decide⟩ ⟨by decide, by decide⟩ (Nat.le_of_ble_eq_true rfl) ?_
  refine r_aload_n (q := 8) dX0_isWhole_7 rfl rfl ?_
  refine cX3_0 (My := mX3_count) (q := 11) dX0_isWhole_8 rfl kX0_55 vX3_count (hG _ _ (by first | rfl | exact hj | exact hi | exact vK20 hj)) rfl (x3_count hG (by first | exact vK20 hj | exact hi)) ⟨by decide, by decide⟩ ⟨by decide, by decide⟩ (Nat.le_of_ble_eq_true rfl) ?_
  refine r_icmp_ne (q := 14) (tgt := 38) dX0_isWhole_11 rfl (by decide) (by omega) (by omega) (fun h11 => ?_) (fun h11 => ?_)
  · refine r_iconst (q := 39) dX0_isWhole_38 rfl ?_
    refine r_retz dX0_isWhole_39 rfl (by first | rfl | exact narB _) (by decide) (by decide) ?_
    exact ret_i (by unfold pIsW; first | (rw [if_pos (by omega), h31]; rfl) | (rw [if_neg (by omega)]; rfl))
  · refine r_aload_n (q := 15) dX0_isWhole_14 rfl rfl ?_
    refine g_X0_whole (q := 18) dX0_isWhole_15 rfl fX0_12 (hG _ _ (by first | rfl | exact hj | exact hi | exact vK20 hj)) ?_
    refine r_iconst (q := 19) dX0_isWhole_18 rfl ?_
    refine r_aload_n (q := 20) dX0_isWhole_19 rfl rfl ?_
    refine g_X0_whole (q := 23) dX0_isWhole_20 rfl fX0_12 (hG _ _ (by first | rfl | exact hj | exact hi | exact vK20 hj)) ?_
    refine cX3_0 (My := mX3_count) (q := 26) dX0_isWhole_23 rfl kX0_55 vX3_count (hG _ _ (by first | rfl | exact hj | exact hi | exact vK20 hj)) rfl (x3_count hG (by first | exact vK20 hj | exact hi)) ⟨by decide, by decide⟩ ⟨by decide, by decide⟩ (Nat.le_of_ble_eq_true rfl) ?_
    refine r_aload_n (q := 27) dX0_isWhole_26 rfl rfl ?_
    refine r_iconst (q := 28) dX0_isWhole_27 rfl ?_
    refine cX3_4 (My := mX3_isRange) (q := 31) dX0_isWhole_28 rfl kX0_59 vX3_isRange (hG _ _ (by first | rfl | exact hj | exact hi | exact vK20 hj)) rfl (x3_isRange hG (vK20 hj) hi hW (by omega) (by omega) (by omega)) ⟨by decide, by decide⟩ ⟨by decide, by decide⟩ (Nat.le_of_ble_eq_true rfl) ?_
    refine r_ifB_eq (q := 34) (tgt := 38) dX0_isWhole_31 rfl (by decide) (fun h31 => ?_) (fun h31 => ?_)
    · refine r_iconst (q := 39) dX0_isWhole_38 rfl ?_
      refine r_retz dX0_isWhole_39 rfl (by first | rfl | exact narB _) (by decide) (by decide) ?_
      exact ret_i (by unfold pIsW; first | (rw [if_pos (by omega), h31]; rfl) | (rw [if_neg (by omega)]; rfl))
    · refine r_iconst (q := 35) dX0_isWhole_34 rfl ?_
      refine r_goto (q := 39) dX0_isWhole_35 (by decide) ?_
      refine r_retz dX0_isWhole_39 rfl (by first | rfl | exact narB _) (by decide) (by decide) ?_
      exact ret_i (by unfold pIsW; first | (rw [if_pos (by omega), h31]; rfl) | (rw [if_neg (by omega)]; rfl))
set_option maxRecDepth 100000 in
set_option maxHeartbeats 4000000 in
theorem x0_isSkippingSlashes (hG : Full γ) (hj : vK 2 j = true) (hW : Wk σ) : Ev γ mX0_isSkippingSlashes 4 0 0 [.ref (ga γ 2 j)] σ xs (rtn (some (.int (zI (bI (pSkip σ j))))) σ xs) nX := by
  refine Ev.of1 0 [some (.ref (ga γ 2 j))] rfl pn_X0_isSkippingSlashes rfl (Nat.le_of_ble_eq_true rfl) ?_
  have h1 := pBeg_r hW j 1
  refine r_aload_n (q := 1) dX0_isSkippingSlashes_0 rfl rfl ?_
  refine r_iconst (q := 2) dX0_isSkippingSlashes_1 rfl ?_
  refine cX0_1 (My := mX0_has) (q := 5) dX0_isSkippingSlashes_2 rfl kX0_40 vX0_has (hG _ _ (by first | rfl | exact hj | exact vK20 hj)) rfl (x0_has hG hj hW (by omega)) ⟨by decide, by decide⟩ ⟨by decide, by decide⟩ (Nat.le_of_ble_eq_true rfl) ?_
  refine r_ifB_eq (q := 8) (tgt := 35) dX0_isSkippingSlashes_5 rfl (by decide) (fun h5 => ?_) (fun h5 => ?_)
  · refine r_iconst (q := 36) dX0_isSkippingSlashes_35 rfl ?_
    refine r_retz dX0_isSkippingSlashes_36 rfl (by first | rfl | exact narB _) (by decide) (by decide) ?_
    exact ret_i (by unfold pSkip; first | (rw [if_pos ⟨h5, h13⟩, h28]; rfl) | (rw [if_neg (by simp_all)]; rfl))
  · refine r_aload_n (q := 9) dX0_isSkippingSlashes_8 rfl rfl ?_
    refine r_iconst (q := 10) dX0_isSkippingSlashes_9 rfl ?_
    refine cX0_1 (My := mX0_has) (q := 13) dX0_isSkippingSlashes_10 rfl kX0_40 vX0_has (hG _ _ (by first | rfl | exact hj | exact vK20 hj)) rfl (x0_has hG hj hW (by omega)) ⟨by decide, by decide⟩ ⟨by decide, by decide⟩ (Nat.le_of_ble_eq_true rfl) ?_
    refine r_ifB_ne (q := 16) (tgt := 35) dX0_isSkippingSlashes_13 rfl (by decide) (fun h13 => ?_) (fun h13 => ?_)
    · refine r_iconst (q := 36) dX0_isSkippingSlashes_35 rfl ?_
      refine r_retz dX0_isSkippingSlashes_36 rfl (by first | rfl | exact narB _) (by decide) (by decide) ?_
      exact ret_i (by unfold pSkip; first | (rw [if_pos ⟨h5, h13⟩, h28]; rfl) | (rw [if_neg (by simp_all)]; rfl))
    · refine r_aload_n (q := 17) dX0_isSkippingSlashes_16 rfl rfl ?_
      refine g_X0_whole (q := 20) dX0_isSkippingSlashes_17 rfl fX0_12 (hG _ _ (by first | rfl | exact hj | exact vK20 hj)) ?_
      refine r_aload_n (q := 21) dX0_isSkippingSlashes_20 rfl rfl ?_
      refine r_iconst (q := 22) dX0_isSkippingSlashes_21 rfl ?_
      refine cX0_1 (My := mX0_beginOf) (q := 25) dX0_isSkippingSlashes_22 rfl kX0_36 vX0_beginOf (hG _ _ (by first | rfl | exact hj | exact vK20 hj)) rfl (x0_beginOf hG (by first | exact hj | exact hi) hW (by omega)) ⟨by decide, by decide⟩ ⟨by decide, by decide⟩ (Nat.le_of_ble_eq_true rfl) ?_
      refine cS_2 (My := mX2_isSlashed) (q := 28) dX0_isSkippingSlashes_25 rfl kX0_63 vX2_isSlashed (x2_isSlashed hG (vK20 hj) hW (by omega)) ⟨by decide, by decide⟩ ⟨by decide, by decide⟩ (Nat.le_of_ble_eq_true rfl) ?_
      refine r_ifB_eq (q := 31) (tgt := 35) dX0_isSkippingSlashes_28 rfl (by decide) (fun h28 => ?_) (fun h28 => ?_)
      · refine r_iconst (q := 36) dX0_isSkippingSlashes_35 rfl ?_
        refine r_retz dX0_isSkippingSlashes_36 rfl (by first | rfl | exact narB _) (by decide) (by decide) ?_
        exact ret_i (by unfold pSkip; first | (rw [if_pos ⟨h5, h13⟩, h28]; rfl) | (rw [if_neg (by simp_all)]; rfl))
      · refine r_iconst (q := 32) dX0_isSkippingSlashes_31 rfl ?_
        refine r_goto (q := 36) dX0_isSkippingSlashes_32 (by decide) ?_
        refine r_retz dX0_isSkippingSlashes_36 rfl (by first | rfl | exact narB _) (by decide) (by decide) ?_
        exact ret_i (by unfold pSkip; first | (rw [if_pos ⟨h5, h13⟩, h28]; rfl) | (rw [if_neg (by simp_all)]; rfl))
set_option maxRecDepth 100000 in
set_option maxHeartbeats 4000000 in
theorem x0_isWholeWithoutSlashes (hG : Full γ) (hj : vK 2 j = true) (hi : vK 0 i = true) (hW : Wk σ) : Ev γ mX0_isWholeWithoutSlashes 3 0 0 [.ref (ga γ 2 j), .ref (ga γ 0 i)] σ xs (rtn (some (.int (zI (bI (pWoS σ j i))))) σ xs) nX := by
  refine Ev.of1 1 [some (.ref (ga γ 2 j)), some (.ref (ga γ 0 i)), none] rfl pn_X0_isWholeWithoutSlashes rfl (Nat.le_of_ble_eq_true rfl) ?_
  have h1 := hW.1 j
  have h2 := hW.1 i
  have h3 := pBeg_r hW j 1
  refine r_aload_n (q := 1) dX0_isWholeWithoutSlashes_0 rfl rfl ?_
  refine r_iconst (q := 2) dX0_isWholeWithoutSlashes_1 rfl ?_
  refine cX0_1 (My := mX0_beginOf) (q := 5) dX0_isWholeWithoutSlashes_2 rfl kX0_36 vX0_beginOf (hG _ _ (by first | rfl | exact hj | exact hi | exact vK20 hj)) rfl (x0_beginOf hG hj hW (by omega)) ⟨by decide, by decide⟩ ⟨by decide, by decide⟩ (Nat.le_of_ble_eq_true rfl) ?_
  refine r_istore_n (q := 6) dX0_isWholeWithoutSlashes_5 rfl (by decide) (Lst.setL rfl rfl) ?_
  refine r_aload_n (q := 7) dX0_isWholeWithoutSlashes_6 rfl rfl ?_
  refine g_X0_whole (q := 10) dX0_isWholeWithoutSlashes_7 rfl fX0_12 (hG _ _ (by first | rfl | exact hj | exact hi | exact vK20 hj)) ?_
  refine cX3_0 (My := mX3_count) (q := 13) dX0_isWholeWithoutSlashes_10 rfl kX0_55 vX3_count (hG _ _ (by first | rfl | exact hj | exact hi | exact vK20 hj)) rfl (x3_count hG (by first | exact vK20 hj | exact hi)) ⟨by decide, by decide⟩ ⟨by decide, by decide⟩ (Nat.le_of_ble_eq_true rfl) ?_
  refine r_aload_n (q := 14) dX0_isWholeWithoutSlashes_13 rfl rfl ?_
  refine cX3_0 (My := mX3_count) (q := 17) dX0_isWholeWithoutSlashes_14 rfl kX0_55 vX3_count (hG _ _ (by first | rfl | exact hj | exact hi | exact vK20 hj)) rfl (x3_count hG (by first | exact vK20 hj | exact hi)) ⟨by decide, by decide⟩ ⟨by decide, by decide⟩ (Nat.le_of_ble_eq_true rfl) ?_
  refine r_iconst (q := 18) dX0_isWholeWithoutSlashes_17 rfl ?_
  refine r_iadd (q := 19) dX0_isWholeWithoutSlashes_18 rfl ?_
  refine r_icmp_ne (q := 22) (tgt := 62) dX0_isWholeWithoutSlashes_19 rfl (by decide) (by omega) (by omega) (fun h19 => ?_) (fun h19 => ?_)
  · refine r_iconst (q := 63) dX0_isWholeWithoutSlashes_62 rfl ?_
    refine r_retz dX0_isWholeWithoutSlashes_63 rfl (by first | rfl | exact narB _) (by decide) (by decide) ?_
    exact ret_i (by unfold pWoS; first | (rw [if_pos (by omega), if_pos h33, h55]; rfl) | (rw [if_pos (by omega), if_neg (by simp [h33])]; rfl) | (rw [if_neg (by omega)]; rfl))
  · refine r_aload_n (q := 23) dX0_isWholeWithoutSlashes_22 rfl rfl ?_
    refine g_X0_whole (q := 26) dX0_isWholeWithoutSlashes_23 rfl fX0_12 (hG _ _ (by first | rfl | exact hj | exact hi | exact vK20 hj)) ?_
    refine r_iconst (q := 27) dX0_isWholeWithoutSlashes_26 rfl ?_
    refine r_iload_n (q := 28) dX0_isWholeWithoutSlashes_27 rfl rfl ?_
    refine r_aload_n (q := 29) dX0_isWholeWithoutSlashes_28 rfl rfl ?_
    refine r_iconst (q := 30) dX0_isWholeWithoutSlashes_29 rfl ?_
    refine cX3_4 (My := mX3_isRange) (q := 33) dX0_isWholeWithoutSlashes_30 rfl kX0_59 vX3_isRange (hG _ _ (by first | rfl | exact hj | exact hi | exact vK20 hj)) rfl (x3_isRange hG (vK20 hj) hi hW (by omega) (by omega) (by omega)) ⟨by decide, by decide⟩ ⟨by decide, by decide⟩ (Nat.le_of_ble_eq_true rfl) ?_
    refine r_ifB_eq (q := 36) (tgt := 62) dX0_isWholeWithoutSlashes_33 rfl (by decide) (fun h33 => ?_) (fun h33 => ?_)
    · refine r_iconst (q := 63) dX0_isWholeWithoutSlashes_62 rfl ?_
      refine r_retz dX0_isWholeWithoutSlashes_63 rfl (by first | rfl | exact narB _) (by decide) (by decide) ?_
      exact ret_i (by unfold pWoS; first | (rw [if_pos (by omega), if_pos h33, h55]; rfl) | (rw [if_pos (by omega), if_neg (by simp [h33])]; rfl) | (rw [if_neg (by omega)]; rfl))
    · refine r_aload_n (q := 37) dX0_isWholeWithoutSlashes_36 rfl rfl ?_
      refine g_X0_whole (q := 40) dX0_isWholeWithoutSlashes_37 rfl fX0_12 (hG _ _ (by first | rfl | exact hj | exact hi | exact vK20 hj)) ?_
      refine r_iload_n (q := 41) dX0_isWholeWithoutSlashes_40 rfl rfl ?_
      refine r_iconst (q := 42) dX0_isWholeWithoutSlashes_41 rfl ?_
      refine r_iadd (q := 43) dX0_isWholeWithoutSlashes_42 rfl ?_
      refine r_aload_n (q := 44) dX0_isWholeWithoutSlashes_43 rfl rfl ?_
      refine g_X0_whole (q := 47) dX0_isWholeWithoutSlashes_44 rfl fX0_12 (hG _ _ (by first | rfl | exact hj | exact hi | exact vK20 hj)) ?_
      refine cX3_0 (My := mX3_count) (q := 50) dX0_isWholeWithoutSlashes_47 rfl kX0_55 vX3_count (hG _ _ (by first | rfl | exact hj | exact hi | exact vK20 hj)) rfl (x3_count hG (by first | exact vK20 hj | exact hi)) ⟨by decide, by decide⟩ ⟨by decide, by decide⟩ (Nat.le_of_ble_eq_true rfl) ?_
      refine r_aload_n (q := 51) dX0_isWholeWithoutSlashes_50 rfl rfl ?_
      refine r_iload_n (q := 52) dX0_isWholeWithoutSlashes_51 rfl rfl ?_
      refine cX3_4 (My := mX3_isRange) (q := 55) dX0_isWholeWithoutSlashes_52 rfl kX0_59 vX3_isRange (hG _ _ (by first | rfl | exact hj | exact hi | exact vK20 hj)) rfl (x3_isRange hG (vK20 hj) hi hW (by omega) (by omega) (by omega)) ⟨by decide, by decide⟩ ⟨by decide, by decide⟩ (Nat.le_of_ble_eq_true rfl) ?_
      refine r_ifB_eq (q := 58) (tgt := 62) dX0_isWholeWithoutSlashes_55 rfl (by decide) (fun h55 => ?_) (fun h55 => ?_)
      · refine r_iconst (q := 63) dX0_isWholeWithoutSlashes_62 rfl ?_
        refine r_retz dX0_isWholeWithoutSlashes_63 rfl (by first | rfl | exact narB _) (by decide) (by decide) ?_
        exact ret_i (by unfold pWoS; first | (rw [if_pos (by omega), if_pos h33, h55]; rfl) | (rw [if_pos (by omega), if_neg (by simp [h33])]; rfl) | (rw [if_neg (by omega)]; rfl))
      · refine r_iconst (q := 59) dX0_isWholeWithoutSlashes_58 rfl ?_
        refine r_goto (q := 63) dX0_isWholeWithoutSlashes_59 (by decide) ?_
        refine r_retz dX0_isWholeWithoutSlashes_63 rfl (by first | rfl | exact narB _) (by decide) (by decide) ?_
        exact ret_i (by unfold pWoS; first | (rw [if_pos (by omega), if_pos h33, h55]; rfl) | (rw [if_pos (by omega), if_neg (by simp [h33])]; rfl) | (rw [if_neg (by omega)]; rfl))
set_option maxRecDepth 100000 in
set_option maxHeartbeats 4000000 in
theorem x0_isPartAlike (hG : Full γ) (hj : vK 2 j = true) (hi : vK 2 i = true) (hW : Wk σ) {k : Int} (hk : -2147483648 ≤ k ∧ k ≤ 2147483647) : Ev γ mX0_isPartAlike 4 0 0 [.ref (ga γ 2 j), .ref (ga γ 2 i), .int (zI k)] σ xs (rtn (some (.int (zI (bI (pPA σ j i k))))) σ xs) nX := by
  refine Ev.of1 0 [some (.ref (ga γ 2 j)), some (.ref (ga γ 2 i)), some (.int (zI k))] rfl pn_X0_isPartAlike rfl (Nat.le_of_ble_eq_true rfl) ?_
  have h1 := pBeg_r hW j k
  have h2 := pEnd_r hW j k
  have h3 := pBeg_r hW i k
  have h4 := pSiz_r hW j k
  have h6 := pSiz_r hW i k
  refine r_aload_n (q := 1) dX0_isPartAlike_0 rfl rfl ?_
  refine r_iload_n (q := 2) dX0_isPartAlike_1 rfl rfl ?_
  refine cX0_1 (My := mX0_sizeOf) (q := 5) dX0_isPartAlike_2 rfl kX0_73 vX0_sizeOf (hG _ _ (by first | rfl | exact hj | exact hi | exact vK20 hj | exact vK20 hi)) rfl (x0_sizeOf hG (by first | exact hj | exact hi) hW (by omega)) ⟨by decide, by decide⟩ ⟨by decide, by decide⟩ (Nat.le_of_ble_eq_true rfl) ?_
  refine r_aload_n (q := 6) dX0_isPartAlike_5 rfl rfl ?_
  refine r_iload_n (q := 7) dX0_isPartAlike_6 rfl rfl ?_
  refine cX0_1 (My := mX0_sizeOf) (q := 10) dX0_isPartAlike_7 rfl kX0_73 vX0_sizeOf (hG _ _ (by first | rfl | exact hj | exact hi | exact vK20 hj | exact vK20 hi)) rfl (x0_sizeOf hG (by first | exact hj | exact hi) hW (by omega)) ⟨by decide, by decide⟩ ⟨by decide, by decide⟩ (Nat.le_of_ble_eq_true rfl) ?_
  refine r_icmp_ne (q := 13) (tgt := 46) dX0_isPartAlike_10 rfl (by decide) (by omega) (by omega) (fun h10 => ?_) (fun h10 => ?_)
  · refine r_iconst (q := 47) dX0_isPartAlike_46 rfl ?_
    refine r_retz dX0_isPartAlike_47 rfl (by first | rfl | exact narB _) (by decide) (by decide) ?_
    exact ret_i (by unfold pPA; first | (rw [if_pos (by omega), h39]; rfl) | (rw [if_neg (by omega)]; rfl))
  · refine r_aload_n (q := 14) dX0_isPartAlike_13 rfl rfl ?_
    refine g_X0_whole (q := 17) dX0_isPartAlike_14 rfl fX0_12 (hG _ _ (by first | rfl | exact hj | exact hi | exact vK20 hj | exact vK20 hi)) ?_
    refine r_aload_n (q := 18) dX0_isPartAlike_17 rfl rfl ?_
    refine r_iload_n (q := 19) dX0_isPartAlike_18 rfl rfl ?_
    refine cX0_1 (My := mX0_beginOf) (q := 22) dX0_isPartAlike_19 rfl kX0_36 vX0_beginOf (hG _ _ (by first | rfl | exact hj | exact hi | exact vK20 hj | exact vK20 hi)) rfl (x0_beginOf hG (by first | exact hj | exact hi) hW (by omega)) ⟨by decide, by decide⟩ ⟨by decide, by decide⟩ (Nat.le_of_ble_eq_true rfl) ?_
    refine r_aload_n (q := 23) dX0_isPartAlike_22 rfl rfl ?_
    refine r_iload_n (q := 24) dX0_isPartAlike_23 rfl rfl ?_
    refine cX0_1 (My := mX0_endOf) (q := 27) dX0_isPartAlike_24 rfl kX0_44 vX0_endOf (hG _ _ (by first | rfl | exact hj | exact hi | exact vK20 hj | exact vK20 hi)) rfl (x0_endOf hG (by first | exact hj | exact hi) hW (by omega)) ⟨by decide, by decide⟩ ⟨by decide, by decide⟩ (Nat.le_of_ble_eq_true rfl) ?_
    refine r_aload_n (q := 28) dX0_isPartAlike_27 rfl rfl ?_
    refine g_X0_whole (q := 31) dX0_isPartAlike_28 rfl fX0_12 (hG _ _ (by first | rfl | exact hj | exact hi | exact vK20 hj | exact vK20 hi)) ?_
    refine r_aload_n (q := 32) dX0_isPartAlike_31 rfl rfl ?_
    refine r_iload_n (q := 33) dX0_isPartAlike_32 rfl rfl ?_
    refine cX0_1 (My := mX0_beginOf) (q := 36) dX0_isPartAlike_33 rfl kX0_36 vX0_beginOf (hG _ _ (by first | rfl | exact hj | exact hi | exact vK20 hj | exact vK20 hi)) rfl (x0_beginOf hG (by first | exact hj | exact hi) hW (by omega)) ⟨by decide, by decide⟩ ⟨by decide, by decide⟩ (Nat.le_of_ble_eq_true rfl) ?_
    refine cX3_4 (My := mX3_isRange) (q := 39) dX0_isPartAlike_36 rfl kX0_59 vX3_isRange (hG _ _ (by first | rfl | exact hj | exact hi | exact vK20 hj | exact vK20 hi)) rfl (x3_isRange hG (vK20 hj) (vK20 hi) hW (by omega) (by omega) (by omega)) ⟨by decide, by decide⟩ ⟨by decide, by decide⟩ (Nat.le_of_ble_eq_true rfl) ?_
    refine r_ifB_eq (q := 42) (tgt := 46) dX0_isPartAlike_39 rfl (by decide) (fun h39 => ?_) (fun h39 => ?_)
    · refine r_iconst (q := 47) dX0_isPartAlike_46 rfl ?_
      refine r_retz dX0_isPartAlike_47 rfl (by first | rfl | exact narB _) (by decide) (by decide) ?_
      exact ret_i (by unfold pPA; first | (rw [if_pos (by omega), h39]; rfl) | (rw [if_neg (by omega)]; rfl))
    · refine r_iconst (q := 43) dX0_isPartAlike_42 rfl ?_
      refine r_goto (q := 47) dX0_isPartAlike_43 (by decide) ?_
      refine r_retz dX0_isPartAlike_47 rfl (by first | rfl | exact narB _) (by decide) (by decide) ?_
      exact ret_i (by unfold pPA; first | (rw [if_pos (by omega), h39]; rfl) | (rw [if_neg (by omega)]; rfl))
set_option maxRecDepth 100000 in
set_option maxHeartbeats 4000000 in
theorem x0_partsAlike (hG : Full γ) (hj : vK 2 j = true) (hi : vK 2 i = true) (hW : Wk σ) : Ev γ mX0_partsAlike 5 0 0 [.ref (ga γ 2 j), .ref (ga γ 2 i)] σ xs (rtn (some (.int (zI (pPAs σ j i)))) σ xs) nX := by
  refine Ev.of1 2 [some (.ref (ga γ 2 j)), some (.ref (ga γ 2 i)), none, none] rfl pn_X0_partsAlike rfl (Nat.le_of_ble_eq_true rfl) ?_
  have loop : ∀ k : Int, k ≤ 20 → 0 ≤ k → ∀ a : Int, 0 ≤ a ∧ a ≤ k → pPAsF σ j i a k = pPAs σ j i → RW γ mX0_partsAlike 5 0 0 (rtn (some (.int (zI (pPAs σ j i)))) σ xs) nX 0 0 4 [some (.ref (ga γ 2 j)), some (.ref (ga γ 2 i)), some (.int (zI a)), some (.int (zI k))] [] σ xs := by
    refine up (fun k hk9 ih h0 a ha hr => ?_)
    refine r_iload_n (q := 5) dX0_partsAlike_4 rfl rfl ?_
    refine r_bipush (q := 7) dX0_partsAlike_5 rfl (bip (by decide) (by decide)) ?_
    refine r_icmp_ge (q := 10) (tgt := 28) dX0_partsAlike_7 rfl (by decide) (by omega) (by omega) (fun h7 => ?_) (fun h7 => ?_)
    · refine r_iload_n (q := 29) dX0_partsAlike_28 rfl rfl ?_
      refine r_reti dX0_partsAlike_29 rfl (by decide) (by decide) ?_
      exact ret_i (by rw [← hr]; unfold pPAsF; rw [if_neg (by omega)])
    · refine r_aload_n (q := 11) dX0_partsAlike_10 rfl rfl ?_
      refine r_aload_n (q := 12) dX0_partsAlike_11 rfl rfl ?_
      refine r_iload_n (q := 13) dX0_partsAlike_12 rfl rfl ?_
      refine cX0_2 (My := mX0_isPartAlike) (q := 16) dX0_partsAlike_13 rfl kX0_69 vX0_isPartAlike (hG _ _ (by first | rfl | exact hj | exact hi | exact vK20 hj | exact vK20 hi)) rfl (x0_isPartAlike hG hj hi hW (by omega)) ⟨by decide, by decide⟩ ⟨by decide, by decide⟩ (Nat.le_of_ble_eq_true rfl) ?_
      refine r_ifB_eq (q := 19) (tgt := 22) dX0_partsAlike_16 rfl (by decide) (fun h16 => ?_) (fun h16 => ?_)
      · refine r_iinc (q := 25) dX0_partsAlike_22 rfl rfl (by decide) (Lst.setL rfl rfl) ?_
        refine r_goto (q := 4) dX0_partsAlike_25 (by decide) ?_
        first
          | exact ih (k + 1) (by omega) (by omega) (by omega) _ (by omega) (by rw [← hr, pPAsF.eq_def σ j i a k, if_pos (by omega), if_pos h16])
          | exact ih (k + 1) (by omega) (by omega) (by omega) _ (by omega) (by rw [← hr, pPAsF.eq_def σ j i a k, if_pos (by omega), if_neg (by simp [h16])])
      · refine r_iinc (q := 22) dX0_partsAlike_19 rfl rfl (by decide) (Lst.setL rfl rfl) ?_
        refine r_iinc (q := 25) dX0_partsAlike_22 rfl rfl (by decide) (Lst.setL rfl rfl) ?_
        refine r_goto (q := 4) dX0_partsAlike_25 (by decide) ?_
        first
          | exact ih (k + 1) (by omega) (by omega) (by omega) _ (by omega) (by rw [← hr, pPAsF.eq_def σ j i a k, if_pos (by omega), if_pos h16])
          | exact ih (k + 1) (by omega) (by omega) (by omega) _ (by omega) (by rw [← hr, pPAsF.eq_def σ j i a k, if_pos (by omega), if_neg (by simp [h16])])
  refine r_iconst (q := 1) dX0_partsAlike_0 rfl ?_
  refine r_istore_n (q := 2) dX0_partsAlike_1 rfl (by decide) (Lst.setL rfl rfl) ?_
  refine r_iconst (q := 3) dX0_partsAlike_2 rfl ?_
  refine r_istore_n (q := 4) dX0_partsAlike_3 rfl (by decide) (Lst.setL rfl rfl) ?_
  exact loop 0 (by omega) (by omega) 0 (by omega) rfl
set_option maxRecDepth 100000 in
set_option maxHeartbeats 4000000 in
theorem x0_mark (v2 : gv γ 2 j) (v3 : gv γ 3 j) (v4 : gv γ 4 j) {k : Int} (hk : -2147483648 ≤ k ∧ k ≤ 2147483647) {b e : Int} : Ev γ mX0_mark 1 0 0 [.ref (ga γ 2 j), .int (zI k), .int (zI b), .int (zI e)] σ xs (rtn none (pMk σ j k b e) xs) nX := by
  refine Ev.of1 0 [some (.ref (ga γ 2 j)), some (.int (zI k)), some (.int (zI b)), some (.int (zI e))] rfl pn_X0_mark rfl (Nat.le_of_ble_eq_true rfl) ?_
  refine r_iload_n (q := 1) dX0_mark_0 rfl rfl ?_
  refine r_if_lt (q := 4) (tgt := 36) dX0_mark_1 rfl (by decide) (by omega) (fun h1 => ?_) (fun h1 => ?_)
  · refine r_retv dX0_mark_36 rfl (by decide) (by decide) ?_
    exact ret_v (by unfold pMk; first | (rw [if_pos (by omega)]; rfl) | (rw [if_neg (by omega)]) | (exfalso; omega))
  · refine r_iload_n (q := 5) dX0_mark_4 rfl rfl ?_
    refine r_aload_n (q := 6) dX0_mark_5 rfl rfl ?_
    refine g_X0_begins (q := 9) dX0_mark_6 rfl fX0_18 (by first | exact v2 | exact v3 | exact v4) ?_
    refine r_alen (q := 10) (t0 := 1) (z := 9) rfl rfl rfl dX0_mark_9 rfl (by first | exact v2 | exact v3 | exact v4) ?_
    refine r_icmp_ge (q := 13) (tgt := 36) dX0_mark_10 rfl (by decide) (by omega) (by omega) (fun h10 => ?_) (fun h10 => ?_)
    · refine r_retv dX0_mark_36 rfl (by decide) (by decide) ?_
      exact ret_v (by unfold pMk; first | (rw [if_pos (by omega)]; rfl) | (rw [if_neg (by omega)]) | (exfalso; omega))
    · refine r_iload_n (q := 14) dX0_mark_13 rfl rfl ?_
      refine r_aload_n (q := 15) dX0_mark_14 rfl rfl ?_
      refine g_X0_ends (q := 18) dX0_mark_15 rfl fX0_22 (by first | exact v2 | exact v3 | exact v4) ?_
      refine r_alen (q := 19) (t0 := 1) (z := 9) rfl rfl rfl dX0_mark_18 rfl (by first | exact v2 | exact v3 | exact v4) ?_
      refine r_icmp_ge (q := 22) (tgt := 36) dX0_mark_19 rfl (by decide) (by omega) (by omega) (fun h19 => ?_) (fun h19 => ?_)
      · refine r_retv dX0_mark_36 rfl (by decide) (by decide) ?_
        exact ret_v (by unfold pMk; first | (rw [if_pos (by omega)]; rfl) | (rw [if_neg (by omega)]) | (exfalso; omega))
      · refine r_aload_n (q := 23) dX0_mark_22 rfl rfl ?_
        refine g_X0_begins (q := 26) dX0_mark_23 rfl fX0_18 (by first | exact v2 | exact v3 | exact v4) ?_
        refine r_iload_n (q := 27) dX0_mark_26 rfl rfl ?_
        refine r_iload_n (q := 28) dX0_mark_27 rfl rfl ?_
        refine s_bg (q := 29) dX0_mark_28 rfl (by first | exact v2 | exact v3 | exact v4) (by omega) ?_
        refine r_aload_n (q := 30) dX0_mark_29 rfl rfl ?_
        refine g_X0_ends (q := 33) dX0_mark_30 rfl fX0_22 (by first | exact v2 | exact v3 | exact v4) ?_
        refine r_iload_n (q := 34) dX0_mark_33 rfl rfl ?_
        refine r_iload_n (q := 35) dX0_mark_34 rfl rfl ?_
        refine s_en (q := 36) dX0_mark_35 rfl (by first | exact v2 | exact v3 | exact v4) (by omega) ?_
        refine r_retv dX0_mark_36 rfl (by decide) (by decide) ?_
        exact ret_v (by unfold pMk; first | (rw [if_pos (by omega)]; rfl) | (rw [if_neg (by omega)]) | (exfalso; omega))
set_option maxRecDepth 100000 in
set_option maxHeartbeats 4000000 in
theorem x0_forget (v2 : gv γ 2 j) (v3 : gv γ 3 j) (v4 : gv γ 4 j) : Ev γ mX0_forget 2 0 0 [.ref (ga γ 2 j)] σ xs (rtn none (pFg σ j) xs) nX := by
  refine Ev.of1 1 [some (.ref (ga γ 2 j)), none] rfl pn_X0_forget rfl (Nat.le_of_ble_eq_true rfl) ?_
  have loop : ∀ k : Int, k ≤ 20 → ∀ σ1 : St, 0 ≤ k → pFgF σ1 j k = pFg σ j → RW γ mX0_forget 2 0 0 (rtn none (pFg σ j) xs) nX 0 0 2 [some (.ref (ga γ 2 j)), some (.int (zI k))] [] σ1 xs := by
    refine up (fun k hk9 ih σ1 h0 hr => ?_)
    refine r_iload_n (q := 3) dX0_forget_2 rfl rfl ?_
    refine r_bipush (q := 5) dX0_forget_3 rfl (bip (by decide) (by decide)) ?_
    refine r_icmp_ge (q := 8) (tgt := 21) dX0_forget_5 rfl (by decide) (by omega) (by omega) (fun h5 => ?_) (fun h5 => ?_)
    · refine r_aload_n (q := 22) dX0_forget_21 rfl rfl ?_
      refine r_iconst (q := 23) dX0_forget_22 rfl ?_
      refine p_X0_portNumber (q := 26) dX0_forget_23 rfl fX0_32 (by first | exact v2 | exact v3 | exact v4) ?_
      refine r_aload_n (q := 27) dX0_forget_26 rfl rfl ?_
      refine r_iconst (q := 28) dX0_forget_27 rfl ?_
      refine p_X0_isHeld (q := 31) (w := false) dX0_forget_28 rfl fX0_28 (by first | exact v2 | exact v3 | exact v4) ?_
      refine r_retv dX0_forget_31 rfl (by decide) (by decide) ?_
      exact ret_v (by rw [← hr]; unfold pFgF; rw [if_neg (by omega)]; rfl)
    · refine r_aload_n (q := 9) dX0_forget_8 rfl rfl ?_
      refine r_iload_n (q := 10) dX0_forget_9 rfl rfl ?_
      refine r_iconst (q := 11) dX0_forget_10 rfl ?_
      refine r_iconst (q := 12) dX0_forget_11 rfl ?_
      refine cX0_3v (My := mX0_mark) (q := 15) dX0_forget_12 rfl kX0_82 vX0_mark (by first | exact v2 | exact v3 | exact v4) rfl (x0_mark v2 v3 v4 (by omega)) ⟨by decide, by decide⟩ ⟨by decide, by decide⟩ (Nat.le_of_ble_eq_true rfl) ?_
      refine r_iinc (q := 18) dX0_forget_15 rfl rfl (by decide) (Lst.setL rfl rfl) ?_
      refine r_goto (q := 2) dX0_forget_18 (by decide) ?_
      exact ih (k + 1) (by omega) (by omega) _ (by omega) (by rw [← hr, pFgF.eq_def σ1 j k, if_pos (by omega)])
  refine r_iconst (q := 1) dX0_forget_0 rfl ?_
  refine r_istore_n (q := 2) dX0_forget_1 rfl (by decide) (Lst.setL rfl rfl) ?_
  exact loop 0 (by omega) σ (by omega) rfl
set_option maxRecDepth 100000 in
set_option maxHeartbeats 4000000 in
theorem x0_setPort (hG : Full γ) (hj : vK 2 j = true) {v : Int} : Ev γ mX0_setPort 1 0 0 [.ref (ga γ 2 j), .int (zI v)] σ xs (rtn none (sPt σ (u1 (pt σ) j v)) xs) nX := by
  refine Ev.of1 0 [some (.ref (ga γ 2 j)), some (.int (zI v))] rfl pn_X0_setPort rfl (Nat.le_of_ble_eq_true rfl) ?_
  refine r_aload_n (q := 1) dX0_setPort_0 rfl rfl ?_
  refine r_iload_n (q := 2) dX0_setPort_1 rfl rfl ?_
  refine p_X0_portNumber (q := 5) dX0_setPort_2 rfl fX0_32 (hG _ _ (by first | rfl | exact hj | exact vK20 hj)) ?_
  refine r_retv dX0_setPort_5 rfl (by decide) (by decide) ?_
  exact ret_v rfl
set_option maxRecDepth 100000 in
set_option maxHeartbeats 4000000 in
theorem x0_setHeld (hG : Full γ) (hj : vK 2 j = true) {h : Bool} : Ev γ mX0_setHeld 1 0 0 [.ref (ga γ 2 j), .int (zI (bI h))] σ xs (rtn none (sHd σ (u1 (hld σ) j h)) xs) nX := by
  refine Ev.of1 0 [some (.ref (ga γ 2 j)), some (.int (zI (bI h)))] rfl pn_X0_setHeld rfl (Nat.le_of_ble_eq_true rfl) ?_
  refine r_aload_n (q := 1) dX0_setHeld_0 rfl rfl ?_
  refine r_iload_n (q := 2) dX0_setHeld_1 rfl rfl ?_
  refine p_X0_isHeld (q := 5) dX0_setHeld_2 rfl fX0_28 (hG _ _ (by first | rfl | exact hj | exact vK20 hj)) ?_
  refine r_retv dX0_setHeld_5 rfl (by decide) (by decide) ?_
  exact ret_v rfl
set_option maxRecDepth 100000 in
set_option maxHeartbeats 4000000 in
theorem x0_takeOver (hG : Full γ) (hj : vK 2 j = true) (hi : vK 2 i = true) (hW : Wk σ) : Ev γ mX0_takeOver 3 0 0 [.ref (ga γ 2 j), .ref (ga γ 2 i)] σ xs (rtn none (pATk σ j i) xs) nX := by
  refine Ev.of1 1 [some (.ref (ga γ 2 j)), some (.ref (ga γ 2 i)), none] rfl pn_X0_takeOver rfl (Nat.le_of_ble_eq_true rfl) ?_
  have loop : ∀ k : Int, k ≤ 20 → ∀ σ1 : St, Wk σ1 → 0 ≤ k → pATkF σ1 j i k = pATk σ j i → RW γ mX0_takeOver 3 0 0 (rtn none (pATk σ j i) xs) nX 0 0 13 [some (.ref (ga γ 2 j)), some (.ref (ga γ 2 i)), some (.int (zI k))] [] σ1 xs := by
    refine up (fun k hk9 ih σ1 hW h0 hr => ?_)
    refine r_iload_n (q := 14) dX0_takeOver_13 rfl rfl ?_
    refine r_bipush (q := 16) dX0_takeOver_14 rfl (bip (by decide) (by decide)) ?_
    refine r_icmp_ge (q := 19) (tgt := 40) dX0_takeOver_16 rfl (by decide) (by omega) (by omega) (fun h16 => ?_) (fun h16 => ?_)
    · refine r_aload_n (q := 41) dX0_takeOver_40 rfl rfl ?_
      refine r_aload_n (q := 42) dX0_takeOver_41 rfl rfl ?_
      refine g_X0_portNumber (q := 45) dX0_takeOver_42 rfl fX0_32 (hG _ _ (by first | rfl | exact hj | exact hi | exact vK20 hj | exact vK20 hi)) ?_
      refine p_X0_portNumber (q := 48) dX0_takeOver_45 rfl fX0_32 (hG _ _ (by first | rfl | exact hj | exact hi | exact vK20 hj | exact vK20 hi)) ?_
      refine r_aload_n (q := 49) dX0_takeOver_48 rfl rfl ?_
      refine r_aload_n (q := 50) dX0_takeOver_49 rfl rfl ?_
      refine g_X0_isHeld (q := 53) dX0_takeOver_50 rfl fX0_28 (hG _ _ (by first | rfl | exact hj | exact hi | exact vK20 hj | exact vK20 hi)) ?_
      refine p_X0_isHeld (q := 56) dX0_takeOver_53 rfl fX0_28 (hG _ _ (by first | rfl | exact hj | exact hi | exact vK20 hj | exact vK20 hi)) ?_
      refine r_retv dX0_takeOver_56 rfl (by decide) (by decide) ?_
      exact ret_v (by rw [← hr]; unfold pATkF; rw [if_neg (by omega)]; rfl)
    · refine r_aload_n (q := 20) dX0_takeOver_19 rfl rfl ?_
      refine r_iload_n (q := 21) dX0_takeOver_20 rfl rfl ?_
      refine r_aload_n (q := 22) dX0_takeOver_21 rfl rfl ?_
      refine r_iload_n (q := 23) dX0_takeOver_22 rfl rfl ?_
      refine cX0_1 (My := mX0_beginOf) (q := 26) dX0_takeOver_23 rfl kX0_36 vX0_beginOf (hG _ _ (by first | rfl | exact hj | exact hi | exact vK20 hj | exact vK20 hi)) rfl (x0_beginOf hG hi hW (by omega)) ⟨by decide, by decide⟩ ⟨by decide, by decide⟩ (Nat.le_of_ble_eq_true rfl) ?_
      refine r_aload_n (q := 27) dX0_takeOver_26 rfl rfl ?_
      refine r_iload_n (q := 28) dX0_takeOver_27 rfl rfl ?_
      refine cX0_1 (My := mX0_endOf) (q := 31) dX0_takeOver_28 rfl kX0_44 vX0_endOf (hG _ _ (by first | rfl | exact hj | exact hi | exact vK20 hj | exact vK20 hi)) rfl (x0_endOf hG hi hW (by omega)) ⟨by decide, by decide⟩ ⟨by decide, by decide⟩ (Nat.le_of_ble_eq_true rfl) ?_
      refine cX0_3v (My := mX0_mark) (q := 34) dX0_takeOver_31 rfl kX0_82 vX0_mark (hG _ _ (by first | rfl | exact hj | exact hi | exact vK20 hj | exact vK20 hi)) rfl (x0_mark (hG _ _ hj) (hG _ _ hj) (hG _ _ hj) (by omega)) ⟨by decide, by decide⟩ ⟨by decide, by decide⟩ (Nat.le_of_ble_eq_true rfl) ?_
      refine r_iinc (q := 37) dX0_takeOver_34 rfl rfl (by decide) (Lst.setL rfl rfl) ?_
      refine r_goto (q := 13) dX0_takeOver_37 (by decide) ?_
      exact ih (k + 1) (by omega) (by omega) _ (Wk_mk hW j k (pBeg_r hW i k) (pEnd_r hW i k)) (by omega) (by rw [← hr, pATkF.eq_def σ1 j i k, if_pos (by omega)])
  refine r_aload_n (q := 1) dX0_takeOver_0 rfl rfl ?_
  refine g_X0_whole (q := 4) dX0_takeOver_1 rfl fX0_12 (hG _ _ (by first | rfl | exact hj | exact hi | exact vK20 hj | exact vK20 hi)) ?_
  refine r_aload_n (q := 5) dX0_takeOver_4 rfl rfl ?_
  refine g_X0_whole (q := 8) dX0_takeOver_5 rfl fX0_12 (hG _ _ (by first | rfl | exact hj | exact hi | exact vK20 hj | exact vK20 hi)) ?_
  refine cX3_1v (My := mX3_takeOver) (q := 11) dX0_takeOver_8 rfl kX0_78 vX3_takeOver (hG _ _ (by first | rfl | exact hj | exact hi | exact vK20 hj | exact vK20 hi)) rfl (x3_takeOver hG (vK20 hj) (vK20 hi) hW) ⟨by decide, by decide⟩ ⟨by decide, by decide⟩ (Nat.le_of_ble_eq_true rfl) ?_
  refine r_iconst (q := 12) dX0_takeOver_11 rfl ?_
  refine r_istore_n (q := 13) dX0_takeOver_12 rfl (by decide) (Lst.setL rfl rfl) ?_
  exact loop 0 (by omega) _ (Wk_tak 0 (by omega) hW) (by omega) rfl
set_option maxRecDepth 100000 in
set_option maxHeartbeats 4000000 in
theorem x0_sumBehind (hG : Full γ) (hj : vK 2 j = true) (hW : Wk σ) {s : Int} : Ev γ mX0_sumBehind 4 0 0 [.ref (ga γ 2 j), .long (zL s)] σ xs (rtn (some (.long (zL (pSum σ j s)))) σ xs) nX := by
  refine Ev.of [some (.ref (ga γ 2 j)), some (.long (zL s)), none, none, none, none] pn_X0_sumBehind (Nat.le_of_ble_eq_true rfl) ?_ ?_
  · intro i v h
    match i, h with
    | 0, h => cases h; simp [lv_args]
    | 1, h => cases h; simp [lv_args, Value.category]
    | 2, h => simp at h
    | 3, h => simp at h
    | 4, h => simp at h
    | 5, h => simp at h
    | i + 6, h => simp at h
  have loop : ∀ k : Int, k ≤ 20 → ∀ a : Int, 0 ≤ k → pSumF σ j a k = pSumF σ j s 0 → RW γ mX0_sumBehind 4 0 0 (rtn (some (.long (zL (pSumF σ j s 0)))) σ xs) nX 0 0 18 [some (.ref (ga γ 2 j)), some (.long (zL s)), none, some (.long (zL a)), none, some (.int (zI k))] [] σ xs := by
    refine up (fun k hk9 ih a h0 hr => ?_)
    refine r_iload (q := 20) dX0_sumBehind_18 rfl rfl ?_
    refine r_bipush (q := 22) dX0_sumBehind_20 rfl (bip (by decide) (by decide)) ?_
    refine r_icmp_ge (q := 25) (tgt := 45) dX0_sumBehind_22 rfl (by decide) (by first | omega | (have h1 := pSiz_r hW j k; omega) | (have h1 := hW.2.2.2.1 j; omega)) (by first | omega | (have h1 := pSiz_r hW j k; omega) | (have h1 := hW.2.2.2.1 j; omega)) (fun h22 => ?_) (fun h22 => ?_)
    · refine r_ldc2 (q := 48) dX0_sumBehind_45 rfl cX0_76 ?_
      refine r_lload_n (q := 49) dX0_sumBehind_48 rfl rfl ?_
      refine r_lmul (q := 50) dX0_sumBehind_49 rfl ?_
      refine r_aload_n (q := 51) dX0_sumBehind_50 rfl rfl ?_
      refine g_X0_portNumber (q := 54) dX0_sumBehind_51 rfl fX0_32 (hG _ _ (by first | rfl | exact hj | exact vK20 hj)) ?_
      refine r_i2l (q := 55) dX0_sumBehind_54 rfl (by first | omega | (have h1 := pSiz_r hW j k; omega) | (have h1 := hW.2.2.2.1 j; omega)) ?_
      refine r_ladd (q := 56) dX0_sumBehind_55 rfl ?_
      refine r_retl dX0_sumBehind_56 rfl (by decide) (by decide) ?_
      exact ret_l (by rw [← hr]; unfold pSumF; rw [if_neg (by omega)])
    · refine r_ldc2 (q := 28) dX0_sumBehind_25 rfl cX0_76 ?_
      refine r_lload_n (q := 29) dX0_sumBehind_28 rfl rfl ?_
      refine r_lmul (q := 30) dX0_sumBehind_29 rfl ?_
      refine r_aload_n (q := 31) dX0_sumBehind_30 rfl rfl ?_
      refine r_iload (q := 33) dX0_sumBehind_31 rfl rfl ?_
      refine cX0_1 (My := mX0_sizeOf) (q := 36) dX0_sumBehind_33 rfl kX0_73 vX0_sizeOf (hG _ _ (by first | rfl | exact hj | exact vK20 hj)) rfl (x0_sizeOf hG hj hW (by omega)) ⟨by decide, by decide⟩ ⟨by decide, by decide⟩ (Nat.le_of_ble_eq_true rfl) ?_
      refine r_i2l (q := 37) dX0_sumBehind_36 rfl (by first | omega | (have h1 := pSiz_r hW j k; omega) | (have h1 := hW.2.2.2.1 j; omega)) ?_
      refine r_ladd (q := 38) dX0_sumBehind_37 rfl ?_
      refine r_lstore_n (q := 39) dX0_sumBehind_38 rfl (by decide) (Lst.set2 rfl) ?_
      refine r_iinc (q := 42) dX0_sumBehind_39 rfl rfl (by decide) (Lst.setL rfl rfl) ?_
      refine r_goto (q := 18) dX0_sumBehind_42 (by decide) ?_
      exact ih (k + 1) (by omega) (by omega) _ (by omega) (by rw [← hr, pSumF.eq_def σ j a k, if_pos (by omega)])
  refine r_aload_n (q := 1) dX0_sumBehind_0 rfl rfl ?_
  refine g_X0_isHeld (q := 4) dX0_sumBehind_1 rfl fX0_28 (hG _ _ (by first | rfl | exact hj | exact vK20 hj)) ?_
  refine r_ifB_ne (q := 7) (tgt := 13) dX0_sumBehind_4 rfl (by decide) (fun h4 => ?_) (fun h4 => ?_)
  · refine r_lload_n (q := 14) dX0_sumBehind_13 rfl rfl ?_
    refine r_lstore_n (q := 15) dX0_sumBehind_14 rfl (by decide) (Lst.set2 rfl) ?_
    refine r_iconst (q := 16) dX0_sumBehind_15 rfl ?_
    refine r_istore (q := 18) dX0_sumBehind_16 rfl (by decide) (Lst.setL rfl rfl) ?_
    have e9 : pSum σ j s = pSumF σ j s 0 := by unfold pSum; rw [if_pos h4]
    rw [e9]
    exact loop 0 (by omega) _ (by omega) rfl
  · refine r_ldc2 (q := 10) dX0_sumBehind_7 rfl cX0_76 ?_
    refine r_lload_n (q := 11) dX0_sumBehind_10 rfl rfl ?_
    refine r_lmul (q := 12) dX0_sumBehind_11 rfl ?_
    refine r_retl dX0_sumBehind_12 rfl (by decide) (by decide) ?_
    exact ret_l (by unfold pSum; rw [if_neg (by simp [h4])])
end X0
