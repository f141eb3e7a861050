/-! The model: slots and parts -/
def mF (σ : St) (j k : Int) : Int := mfr σ (9 * j + k).toNat
def mTo (σ : St) (j k : Int) : Int := mto σ (9 * j + k).toNat
def mHas (σ : St) (j k : Int) : Bool := decide (0 ≤ mF σ j k)
def mMany (σ : St) (j k : Int) : Int := if mF σ j k < 0 then -1 else mTo σ j k - mF σ j k
def mNoS (σ : St) (j : Int) : Int := if 0 ≤ j ∧ j ≤ 3 then (if mlo σ j.toNat < 0 then 2 else 0) else 1
def mNoP (σ : St) (j c : Int) : Int := if 0 ≤ j ∧ j ≤ 3 then (if ixO (tS 51) c < 0 then 2 else if mlo σ j.toNat < 0 then 3 else 0) else 1
theorem ix51 (c : Int) : -1 ≤ ixO (tS 51) c ∧ ixO (tS 51) c ≤ 8 := by
  have e : tS 51 = [115, 109, 97, 117, 104, 112, 113, 102, 119] := rfl
  rw [e]
  unfold ixO
  simp only [ixF]
  repeat' split
  all_goals omega
section X5
variable {γ : Gm} {σ : St} {xs : va_W}
set_option maxRecDepth 100000 in
set_option maxHeartbeats 4000000 in
theorem m_noSlot (hG : Full γ) (hM : Mw σ) {j : Int} (hr : -2147483648 ≤ j ∧ j ≤ 2147483647) {v : Int} (hN : mNoS σ j = v) : Ev γ mX5_noSlot 3 0 0 [.ref (ga γ 8 0), .int (zI (j))] σ xs (rtn (some (.int (zI (v)))) σ xs) nX := by
  refine Ev.of1 0 [some (.ref (ga γ 8 0)), some (.int (zI (j)))] rfl pn_X5_noSlot rfl (Nat.le_of_ble_eq_true rfl) ?_
  have hlo := hM.lo j.toNat
  refine r_iload_n (q := 1) dX5_noSlot_0 rfl rfl ?_
  refine cS_1 (My := mX5_isSlot) (q := 4) dX5_noSlot_1 rfl kX5_145 vX5_isSlot (m_isSlot (by omega)) ⟨by decide, by decide⟩ ⟨by decide, by decide⟩ (Nat.le_of_ble_eq_true rfl) ?_
  refine r_ifB_ne (q := 7) (tgt := 11) dX5_noSlot_4 rfl (by decide) (fun h4 => ?_) (fun h4 => ?_)
  · refine r_aload_n (q := 12) dX5_noSlot_11 rfl rfl ?_
    refine g_X5_long_ (i := 0) (q := 15) dX5_noSlot_12 rfl fX5_19 (hG _ _ rfl) ?_
    refine r_iload_n (q := 16) dX5_noSlot_15 rfl rfl ?_
    refine l_mlo (i := 0) (q := 17) dX5_noSlot_16 rfl (hG _ _ rfl) (by simp at h4; omega) ?_
    refine r_if_ge (q := 20) (tgt := 24) dX5_noSlot_17 rfl (by decide) (by omega) (fun h17 => ?_) (fun h17 => ?_)
    · refine r_iconst (q := 25) dX5_noSlot_24 rfl ?_
      refine r_reti dX5_noSlot_25 rfl (by decide) (by decide) ?_
      exact ret_i (by rw [← hN]; unfold mNoS; simp at *; first | omega | (rw [if_pos (by omega), if_pos (by omega)]) | (rw [if_pos (by omega), if_neg (by omega)]) | rw [if_neg (by omega)])
    · refine r_iconst (q := 21) dX5_noSlot_20 rfl ?_
      refine r_goto (q := 25) dX5_noSlot_21 (by decide) ?_
      refine r_reti dX5_noSlot_25 rfl (by decide) (by decide) ?_
      exact ret_i (by rw [← hN]; unfold mNoS; simp at *; first | omega | (rw [if_pos (by omega), if_pos (by omega)]) | (rw [if_pos (by omega), if_neg (by omega)]) | rw [if_neg (by omega)])
  · refine r_iconst (q := 8) dX5_noSlot_7 rfl ?_
    refine r_goto (q := 25) dX5_noSlot_8 (by decide) ?_
    refine r_reti dX5_noSlot_25 rfl (by decide) (by decide) ?_
    exact ret_i (by rw [← hN]; unfold mNoS; simp at *; first | omega | (rw [if_pos (by omega), if_pos (by omega)]) | (rw [if_pos (by omega), if_neg (by omega)]) | rw [if_neg (by omega)])
set_option maxRecDepth 100000 in
set_option maxHeartbeats 4000000 in
theorem m_noPart (hG : Full γ) (hM : Mw σ) {j : Int} (hr : -2147483648 ≤ j ∧ j ≤ 2147483647) {c : Int} (hc : -2147483648 ≤ c ∧ c ≤ 2147483647) {v : Int} (hN : mNoP σ j c = v) : Ev γ mX5_noPart 6 0 0 [.ref (ga γ 8 0), .int (zI (j)), .int (zI (c))] σ xs (rtn (some (.int (zI (v)))) σ xs) nX := by
  refine Ev.of1 0 [some (.ref (ga γ 8 0)), some (.int (zI (j))), some (.int (zI (c)))] rfl pn_X5_noPart rfl (Nat.le_of_ble_eq_true rfl) ?_
  have hlo := hM.lo j.toNat
  refine r_iload_n (q := 1) dX5_noPart_0 rfl rfl ?_
  refine cS_1 (My := mX5_isSlot) (q := 4) dX5_noPart_1 rfl kX5_145 vX5_isSlot (m_isSlot (by omega)) ⟨by decide, by decide⟩ ⟨by decide, by decide⟩ (Nat.le_of_ble_eq_true rfl) ?_
  refine r_ifB_ne (q := 7) (tgt := 11) dX5_noPart_4 rfl (by decide) (fun h4 => ?_) (fun h4 => ?_)
  · refine r_iload_n (q := 12) dX5_noPart_11 rfl rfl ?_
    refine cS_1 (My := mX5_partOf) (q := 15) dX5_noPart_12 rfl kX5_100 vX5_partOf (m_partOf hc) ⟨by decide, by decide⟩ ⟨by decide, by decide⟩ (Nat.le_of_ble_eq_true rfl) ?_
    refine r_if_ge (q := 18) (tgt := 22) dX5_noPart_15 rfl (by decide) (by first | omega | (have := ix51 c; omega)) (fun h15 => ?_) (fun h15 => ?_)
    · refine r_aload_n (q := 23) dX5_noPart_22 rfl rfl ?_
      refine g_X5_long_ (i := 0) (q := 26) dX5_noPart_23 rfl fX5_19 (hG _ _ rfl) ?_
      refine r_iload_n (q := 27) dX5_noPart_26 rfl rfl ?_
      refine l_mlo (i := 0) (q := 28) dX5_noPart_27 rfl (hG _ _ rfl) (by simp at h4; omega) ?_
      refine r_if_ge (q := 31) (tgt := 35) dX5_noPart_28 rfl (by decide) (by first | omega | (have := ix51 c; omega)) (fun h28 => ?_) (fun h28 => ?_)
      · refine r_iconst (q := 36) dX5_noPart_35 rfl ?_
        refine r_reti dX5_noPart_36 rfl (by decide) (by decide) ?_
        exact ret_i (by rw [← hN]; unfold mNoP; simp at h4; first | (rw [if_pos (by omega), if_neg (by omega), if_pos (by omega)]) | (rw [if_pos (by omega), if_neg (by omega), if_neg (by omega)]) | (rw [if_pos (by omega), if_pos (by omega)]) | rw [if_neg (by omega)])
      · refine r_iconst (q := 32) dX5_noPart_31 rfl ?_
        refine r_goto (q := 36) dX5_noPart_32 (by decide) ?_
        refine r_reti dX5_noPart_36 rfl (by decide) (by decide) ?_
        exact ret_i (by rw [← hN]; unfold mNoP; simp at h4; first | (rw [if_pos (by omega), if_neg (by omega), if_pos (by omega)]) | (rw [if_pos (by omega), if_neg (by omega), if_neg (by omega)]) | (rw [if_pos (by omega), if_pos (by omega)]) | rw [if_neg (by omega)])
    · refine r_iconst (q := 19) dX5_noPart_18 rfl ?_
      refine r_goto (q := 36) dX5_noPart_19 (by decide) ?_
      refine r_reti dX5_noPart_36 rfl (by decide) (by decide) ?_
      exact ret_i (by rw [← hN]; unfold mNoP; simp at h4; first | (rw [if_pos (by omega), if_neg (by omega), if_pos (by omega)]) | (rw [if_pos (by omega), if_neg (by omega), if_neg (by omega)]) | (rw [if_pos (by omega), if_pos (by omega)]) | rw [if_neg (by omega)])
  · refine r_iconst (q := 8) dX5_noPart_7 rfl ?_
    refine r_goto (q := 36) dX5_noPart_8 (by decide) ?_
    refine r_reti dX5_noPart_36 rfl (by decide) (by decide) ?_
    exact ret_i (by rw [← hN]; unfold mNoP; simp at h4; first | (rw [if_pos (by omega), if_neg (by omega), if_pos (by omega)]) | (rw [if_pos (by omega), if_neg (by omega), if_neg (by omega)]) | (rw [if_pos (by omega), if_pos (by omega)]) | rw [if_neg (by omega)])
set_option maxRecDepth 100000 in
set_option maxHeartbeats 4000000 in
theorem m_has (hG : Full γ) (hM : Mw σ) {j : Int} (hj : 0 ≤ j ∧ j < 4) {c k : Int} (hc : -2147483648 ≤ c ∧ c ≤ 2147483647) (hk : ixO (tS 51) c = k) (h0 : 0 ≤ k) : Ev γ mX5_has 6 0 0 [.ref (ga γ 8 0), .int (zI (j)), .int (zI (c))] σ xs (rtn (some (.int (zI (bI (mHas σ j k))))) σ xs) nX := by
  refine Ev.of1 0 [some (.ref (ga γ 8 0)), some (.int (zI (j))), some (.int (zI (c)))] rfl pn_X5_has rfl (Nat.le_of_ble_eq_true rfl) ?_
  have h8 := ix51 c
  rw [hk] at h8
  have hfr := hM.fr (9 * j + k).toNat
  refine r_aload_n (q := 1) dX5_has_0 rfl rfl ?_
  refine g_X5_from (i := 0) (q := 4) dX5_has_1 rfl fX5_22 (hG _ _ rfl) ?_
  refine r_bipush (q := 6) dX5_has_4 rfl (bip (by decide) (by decide)) ?_
  refine r_iload_n (q := 7) dX5_has_6 rfl rfl ?_
  refine r_imul (q := 8) dX5_has_7 rfl ?_
  refine r_iload_n (q := 9) dX5_has_8 rfl rfl ?_
  refine cS_1 (My := mX5_partOf) (q := 12) dX5_has_9 rfl kX5_100 vX5_partOf (m_partOf hc) ⟨by decide, by decide⟩ ⟨by decide, by decide⟩ (Nat.le_of_ble_eq_true rfl) ?_
  refine r_iadd (q := 13) dX5_has_12 rfl ?_
  refine l_mfr (i := 0) (q := 14) dX5_has_13 rfl (hG _ _ rfl) (by rw [hk]; omega) ?_
  refine r_if_lt (q := 17) (tgt := 21) dX5_has_14 rfl (by decide) (by rw [hk]; omega) (fun h14 => ?_) (fun h14 => ?_)
  · refine r_iconst (q := 22) dX5_has_21 rfl ?_
    refine r_retz dX5_has_22 rfl (by first | rfl | exact narB _) (by decide) (by decide) ?_
    exact ret_i (by rw [hk] at h14; unfold mHas mF; simp [bI]; omega)
  · refine r_iconst (q := 18) dX5_has_17 rfl ?_
    refine r_goto (q := 22) dX5_has_18 (by decide) ?_
    refine r_retz dX5_has_22 rfl (by first | rfl | exact narB _) (by decide) (by decide) ?_
    exact ret_i (by rw [hk] at h14; unfold mHas mF; simp [bI]; omega)
set_option maxRecDepth 100000 in
set_option maxHeartbeats 4000000 in
theorem m_many (hG : Full γ) (hM : Mw σ) {j : Int} (hj : 0 ≤ j ∧ j < 4) {k : Int} (hk : 0 ≤ k ∧ k ≤ 8) : Ev γ mX5_many 1 0 0 [.ref (ga γ 8 0), .int (zI (j)), .int (zI (k))] σ xs (rtn (some (.int (zI (mMany σ j k)))) σ xs) nX := by
  refine Ev.of1 0 [some (.ref (ga γ 8 0)), some (.int (zI (j))), some (.int (zI (k)))] rfl pn_X5_many rfl (Nat.le_of_ble_eq_true rfl) ?_
  have hfr := hM.fr (9 * j + k).toNat
  refine r_aload_n (q := 1) dX5_many_0 rfl rfl ?_
  refine g_X5_from (i := 0) (q := 4) dX5_many_1 rfl fX5_22 (hG _ _ rfl) ?_
  refine r_bipush (q := 6) dX5_many_4 rfl (bip (by decide) (by decide)) ?_
  refine r_iload_n (q := 7) dX5_many_6 rfl rfl ?_
  refine r_imul (q := 8) dX5_many_7 rfl ?_
  refine r_iload_n (q := 9) dX5_many_8 rfl rfl ?_
  refine r_iadd (q := 10) dX5_many_9 rfl ?_
  refine l_mfr (i := 0) (q := 11) dX5_many_10 rfl (hG _ _ rfl) (by omega) ?_
  refine r_if_ge (q := 14) (tgt := 18) dX5_many_11 rfl (by decide) (by omega) (fun h11 => ?_) (fun h11 => ?_)
  · refine r_aload_n (q := 19) dX5_many_18 rfl rfl ?_
    refine g_X5_to (i := 0) (q := 22) dX5_many_19 rfl fX5_25 (hG _ _ rfl) ?_
    refine r_bipush (q := 24) dX5_many_22 rfl (bip (by decide) (by decide)) ?_
    refine r_iload_n (q := 25) dX5_many_24 rfl rfl ?_
    refine r_imul (q := 26) dX5_many_25 rfl ?_
    refine r_iload_n (q := 27) dX5_many_26 rfl rfl ?_
    refine r_iadd (q := 28) dX5_many_27 rfl ?_
    refine l_mto (i := 0) (q := 29) dX5_many_28 rfl (hG _ _ rfl) (by omega) ?_
    refine r_aload_n (q := 30) dX5_many_29 rfl rfl ?_
    refine g_X5_from (i := 0) (q := 33) dX5_many_30 rfl fX5_22 (hG _ _ rfl) ?_
    refine r_bipush (q := 35) dX5_many_33 rfl (bip (by decide) (by decide)) ?_
    refine r_iload_n (q := 36) dX5_many_35 rfl rfl ?_
    refine r_imul (q := 37) dX5_many_36 rfl ?_
    refine r_iload_n (q := 38) dX5_many_37 rfl rfl ?_
    refine r_iadd (q := 39) dX5_many_38 rfl ?_
    refine l_mfr (i := 0) (q := 40) dX5_many_39 rfl (hG _ _ rfl) (by omega) ?_
    refine r_isub (q := 41) dX5_many_40 rfl ?_
    refine r_reti dX5_many_41 rfl (by decide) (by decide) ?_
    exact ret_i (by unfold mMany mF mTo; first | rw [if_pos (by omega)] | rw [if_neg (by omega)])
  · refine r_iconst (q := 15) dX5_many_14 rfl ?_
    refine r_goto (q := 41) dX5_many_15 (by decide) ?_
    refine r_reti dX5_many_41 rfl (by decide) (by decide) ?_
    exact ret_i (by unfold mMany mF mTo; first | rw [if_pos (by omega)] | rw [if_neg (by omega)])
set_option maxRecDepth 100000 in
set_option maxHeartbeats 4000000 in
theorem m_refusals (hG : Full γ) : Ev γ mX5_refusals 1 0 0 [.ref (ga γ 8 0)] σ xs (rtn (some (.int (zI (mrf σ)))) (sMcd σ 0) xs) nX := by
  refine Ev.of1 0 [some (.ref (ga γ 8 0))] rfl pn_X5_refusals rfl (Nat.le_of_ble_eq_true rfl) ?_
  refine r_aload_n (q := 1) dX5_refusals_0 rfl rfl ?_
  refine r_iconst (q := 2) dX5_refusals_1 rfl ?_
  refine p_X5_code (i := 0) (q := 5) dX5_refusals_2 rfl fX5_37 (hG _ _ rfl) ?_
  refine r_aload_n (q := 6) dX5_refusals_5 rfl rfl ?_
  refine g_X5_refused (i := 0) (q := 9) dX5_refusals_6 rfl fX5_151 (hG _ _ rfl) ?_
  refine r_reti dX5_refusals_9 rfl (by decide) (by decide) ?_
  exact ret_is rfl rfl
set_option maxRecDepth 100000 in
set_option maxHeartbeats 4000000 in
theorem m_refusedAt_1 (hG : Full γ) (hM : Mw σ) (h : mrf σ = 0) : Ev γ mX5_refusedAt 2 0 0 [.ref (ga γ 8 0)] σ xs (rtn (some (.int (zI (0)))) (sMcd σ 1) xs) nX := by
  refine Ev.of1 0 [some (.ref (ga γ 8 0))] rfl pn_X5_refusedAt rfl (Nat.le_of_ble_eq_true rfl) ?_
  have hrf := hM.rf
  refine r_aload_n (q := 1) dX5_refusedAt_0 rfl rfl ?_
  refine r_aload_n (q := 2) dX5_refusedAt_1 rfl rfl ?_
  refine g_X5_refused (i := 0) (q := 5) dX5_refusedAt_2 rfl fX5_151 (hG _ _ rfl) ?_
  refine r_if_ne (q := 8) (tgt := 12) dX5_refusedAt_5 rfl (by decide) (by omega) (fun h5 => ?_) (fun h5 => ?_)
  · exfalso; omega
  · refine r_iconst (q := 9) dX5_refusedAt_8 rfl ?_
    refine r_goto (q := 13) dX5_refusedAt_9 (by decide) ?_
    refine cX5_1 (My := mX5_fails) (q := 16) dX5_refusedAt_13 rfl kX5_63 vX5_fails (hG _ _ rfl) rfl (m_fails hG (by omega)) ⟨by decide, by decide⟩ ⟨by decide, by decide⟩ (Nat.le_of_ble_eq_true rfl) ?_
    refine r_ifB_eq (q := 19) (tgt := 23) dX5_refusedAt_16 rfl (by decide) (fun h16 => ?_) (fun h16 => ?_)
    · exact absurd h16 (by decide)
    · refine r_iconst (q := 20) dX5_refusedAt_19 rfl ?_
      refine r_goto (q := 27) dX5_refusedAt_20 (by decide) ?_
      refine r_reti dX5_refusedAt_27 rfl (by decide) (by decide) ?_
      exact ret_is rfl rfl
set_option maxRecDepth 100000 in
set_option maxHeartbeats 4000000 in
theorem m_refusedAt_0 (hG : Full γ) (hM : Mw σ) (h : mrf σ ≠ 0) : Ev γ mX5_refusedAt 2 0 0 [.ref (ga γ 8 0)] σ xs (rtn (some (.int (zI (mpl σ)))) (sMcd σ 0) xs) nX := by
  refine Ev.of1 0 [some (.ref (ga γ 8 0))] rfl pn_X5_refusedAt rfl (Nat.le_of_ble_eq_true rfl) ?_
  have hrf := hM.rf
  refine r_aload_n (q := 1) dX5_refusedAt_0 rfl rfl ?_
  refine r_aload_n (q := 2) dX5_refusedAt_1 rfl rfl ?_
  refine g_X5_refused (i := 0) (q := 5) dX5_refusedAt_2 rfl fX5_151 (hG _ _ rfl) ?_
  refine r_if_ne (q := 8) (tgt := 12) dX5_refusedAt_5 rfl (by decide) (by omega) (fun h5 => ?_) (fun h5 => ?_)
  · refine r_iconst (q := 13) dX5_refusedAt_12 rfl ?_
    refine cX5_1 (My := mX5_fails) (q := 16) dX5_refusedAt_13 rfl kX5_63 vX5_fails (hG _ _ rfl) rfl (m_fails hG (by omega)) ⟨by decide, by decide⟩ ⟨by decide, by decide⟩ (Nat.le_of_ble_eq_true rfl) ?_
    refine r_ifB_eq (q := 19) (tgt := 23) dX5_refusedAt_16 rfl (by decide) (fun h16 => ?_) (fun h16 => ?_)
    · refine r_aload_n (q := 24) dX5_refusedAt_23 rfl rfl ?_
      refine g_X5_place (i := 0) (q := 27) dX5_refusedAt_24 rfl fX5_154 (hG _ _ rfl) ?_
      refine r_reti dX5_refusedAt_27 rfl (by decide) (by decide) ?_
      exact ret_is rfl rfl
    · exact absurd h16 (by decide)
  · exfalso; omega
set_option maxRecDepth 100000 in
set_option maxHeartbeats 4000000 in
theorem m_isTold_1 (hG : Full γ) (hM : Mw σ) (h : mrf σ = 0) : Ev γ mX5_isTold 2 0 0 [.ref (ga γ 8 0)] σ xs (rtn (some (.int (zI (bI false)))) (sMcd σ 1) xs) nX := by
  refine Ev.of1 0 [some (.ref (ga γ 8 0))] rfl pn_X5_isTold rfl (Nat.le_of_ble_eq_true rfl) ?_
  have hrf := hM.rf
  refine r_aload_n (q := 1) dX5_isTold_0 rfl rfl ?_
  refine r_aload_n (q := 2) dX5_isTold_1 rfl rfl ?_
  refine g_X5_refused (i := 0) (q := 5) dX5_isTold_2 rfl fX5_151 (hG _ _ rfl) ?_
  refine r_if_ne (q := 8) (tgt := 12) dX5_isTold_5 rfl (by decide) (by omega) (fun h5 => ?_) (fun h5 => ?_)
  · exfalso; omega
  · refine r_iconst (q := 9) dX5_isTold_8 rfl ?_
    refine r_goto (q := 13) dX5_isTold_9 (by decide) ?_
    refine cX5_1 (My := mX5_fails) (q := 16) dX5_isTold_13 rfl kX5_63 vX5_fails (hG _ _ rfl) rfl (m_fails hG (by omega)) ⟨by decide, by decide⟩ ⟨by decide, by decide⟩ (Nat.le_of_ble_eq_true rfl) ?_
    refine r_ifB_ne (q := 19) (tgt := 23) dX5_isTold_16 rfl (by decide) (fun h16 => ?_) (fun h16 => ?_)
    · refine r_iconst (q := 24) dX5_isTold_23 rfl ?_
      refine r_retz dX5_isTold_24 rfl (by first | rfl | exact narB _) (by decide) (by decide) ?_
      exact ret_is rfl rfl
    · exact absurd h16 (by decide)
set_option maxRecDepth 100000 in
set_option maxHeartbeats 4000000 in
theorem m_isTold_0 (hG : Full γ) (hM : Mw σ) (h : mrf σ ≠ 0) : Ev γ mX5_isTold 2 0 0 [.ref (ga γ 8 0)] σ xs (rtn (some (.int (zI (bI true)))) (sMcd σ 0) xs) nX := by
  refine Ev.of1 0 [some (.ref (ga γ 8 0))] rfl pn_X5_isTold rfl (Nat.le_of_ble_eq_true rfl) ?_
  have hrf := hM.rf
  refine r_aload_n (q := 1) dX5_isTold_0 rfl rfl ?_
  refine r_aload_n (q := 2) dX5_isTold_1 rfl rfl ?_
  refine g_X5_refused (i := 0) (q := 5) dX5_isTold_2 rfl fX5_151 (hG _ _ rfl) ?_
  refine r_if_ne (q := 8) (tgt := 12) dX5_isTold_5 rfl (by decide) (by omega) (fun h5 => ?_) (fun h5 => ?_)
  · refine r_iconst (q := 13) dX5_isTold_12 rfl ?_
    refine cX5_1 (My := mX5_fails) (q := 16) dX5_isTold_13 rfl kX5_63 vX5_fails (hG _ _ rfl) rfl (m_fails hG (by omega)) ⟨by decide, by decide⟩ ⟨by decide, by decide⟩ (Nat.le_of_ble_eq_true rfl) ?_
    refine r_ifB_ne (q := 19) (tgt := 23) dX5_isTold_16 rfl (by decide) (fun h16 => ?_) (fun h16 => ?_)
    · exact absurd h16 (by decide)
    · refine r_iconst (q := 20) dX5_isTold_19 rfl ?_
      refine r_goto (q := 24) dX5_isTold_20 (by decide) ?_
      refine r_retz dX5_isTold_24 rfl (by first | rfl | exact narB _) (by decide) (by decide) ?_
      exact ret_is rfl rfl
  · exfalso; omega
set_option maxRecDepth 100000 in
set_option maxHeartbeats 4000000 in
theorem m_isThere_1 (hG : Full γ) (hM : Mw σ) {j : Int} (hr : -2147483648 ≤ j ∧ j ≤ 2147483647) (h : ¬ (0 ≤ j ∧ j ≤ 3)) : Ev γ mX5_isThere 3 0 0 [.ref (ga γ 8 0), .int (zI (j))] σ xs (rtn (some (.int (zI (bI false)))) (sMcd σ 1) xs) nX := by
  refine Ev.of1 0 [some (.ref (ga γ 8 0)), some (.int (zI (j)))] rfl pn_X5_isThere rfl (Nat.le_of_ble_eq_true rfl) ?_
  refine r_aload_n (q := 1) dX5_isThere_0 rfl rfl ?_
  refine r_iload_n (q := 2) dX5_isThere_1 rfl rfl ?_
  refine cS_1 (My := mX5_isSlot) (q := 5) dX5_isThere_2 rfl kX5_145 vX5_isSlot (m_isSlot (by omega)) ⟨by decide, by decide⟩ ⟨by decide, by decide⟩ (Nat.le_of_ble_eq_true rfl) ?_
  refine r_ifB_eq (q := 8) (tgt := 12) dX5_isThere_5 rfl (by decide) (fun h5 => ?_) (fun h5 => ?_)
  · refine r_iconst (q := 13) dX5_isThere_12 rfl ?_
    refine cX5_1 (My := mX5_fails) (q := 16) dX5_isThere_13 rfl kX5_63 vX5_fails (hG _ _ rfl) rfl (m_fails hG (by omega)) ⟨by decide, by decide⟩ ⟨by decide, by decide⟩ (Nat.le_of_ble_eq_true rfl) ?_
    refine r_ifB_ne (q := 19) (tgt := 32) dX5_isThere_16 rfl (by decide) (fun h16 => ?_) (fun h16 => ?_)
    · refine r_iconst (q := 33) dX5_isThere_32 rfl ?_
      refine r_retz dX5_isThere_33 rfl (by first | rfl | exact narB _) (by decide) (by decide) ?_
      exact ret_is rfl rfl
    · exact absurd h16 (by decide)
  · exfalso; simp at h5; omega
set_option maxRecDepth 100000 in
set_option maxHeartbeats 4000000 in
theorem m_isThere_0 (hG : Full γ) (hM : Mw σ) {j : Int} (hj : 0 ≤ j ∧ j < 4) : Ev γ mX5_isThere 3 0 0 [.ref (ga γ 8 0), .int (zI (j))] σ xs (rtn (some (.int (zI (bI (decide (0 ≤ mlo σ j.toNat)))))) (sMcd σ 0) xs) nX := by
  refine Ev.of1 0 [some (.ref (ga γ 8 0)), some (.int (zI (j)))] rfl pn_X5_isThere rfl (Nat.le_of_ble_eq_true rfl) ?_
  have hlo := hM.lo j.toNat
  refine r_aload_n (q := 1) dX5_isThere_0 rfl rfl ?_
  refine r_iload_n (q := 2) dX5_isThere_1 rfl rfl ?_
  refine cS_1 (My := mX5_isSlot) (q := 5) dX5_isThere_2 rfl kX5_145 vX5_isSlot (m_isSlot (by omega)) ⟨by decide, by decide⟩ ⟨by decide, by decide⟩ (Nat.le_of_ble_eq_true rfl) ?_
  refine r_ifB_eq (q := 8) (tgt := 12) dX5_isThere_5 rfl (by decide) (fun h5 => ?_) (fun h5 => ?_)
  · exfalso; simp at h5; omega
  · refine r_iconst (q := 9) dX5_isThere_8 rfl ?_
    refine r_goto (q := 13) dX5_isThere_9 (by decide) ?_
    refine cX5_1 (My := mX5_fails) (q := 16) dX5_isThere_13 rfl kX5_63 vX5_fails (hG _ _ rfl) rfl (m_fails hG (by omega)) ⟨by decide, by decide⟩ ⟨by decide, by decide⟩ (Nat.le_of_ble_eq_true rfl) ?_
    refine r_ifB_ne (q := 19) (tgt := 32) dX5_isThere_16 rfl (by decide) (fun h16 => ?_) (fun h16 => ?_)
    · refine r_iconst (q := 33) dX5_isThere_32 rfl ?_
      refine r_retz dX5_isThere_33 rfl (by first | rfl | exact narB _) (by decide) (by decide) ?_
      first
        | exact absurd h16 (by decide)
        | exact ret_is (by have h25 : 0 ≤ mlo σ j.toNat := h25; rw [decide_eq_true h25]; rfl) rfl
        | exact ret_is (by have h25 : mlo σ j.toNat < 0 := h25; rw [decide_eq_false (by omega)]; rfl) rfl
    · refine r_aload_n (q := 20) dX5_isThere_19 rfl rfl ?_
      refine g_X5_long_ (i := 0) (q := 23) dX5_isThere_20 rfl fX5_19 (hG _ _ rfl) ?_
      refine r_iload_n (q := 24) dX5_isThere_23 rfl rfl ?_
      refine l_mlo (i := 0) (q := 25) dX5_isThere_24 rfl (hG _ _ rfl) (by omega) ?_
      refine r_if_lt (q := 28) (tgt := 32) dX5_isThere_25 rfl (by decide) (by first | omega | (have h8 : -1 ≤ mlo (sMcd σ 0) j.toNat ∧ mlo (sMcd σ 0) j.toNat ≤ 60 := hlo; omega)) (fun h25 => ?_) (fun h25 => ?_)
      · refine r_iconst (q := 33) dX5_isThere_32 rfl ?_
        refine r_retz dX5_isThere_33 rfl (by first | rfl | exact narB _) (by decide) (by decide) ?_
        first
          | exact absurd h16 (by decide)
          | exact ret_is (by have h25 : 0 ≤ mlo σ j.toNat := h25; rw [decide_eq_true h25]; rfl) rfl
          | exact ret_is (by have h25 : mlo σ j.toNat < 0 := h25; rw [decide_eq_false (by omega)]; rfl) rfl
      · refine r_iconst (q := 29) dX5_isThere_28 rfl ?_
        refine r_goto (q := 33) dX5_isThere_29 (by decide) ?_
        refine r_retz dX5_isThere_33 rfl (by first | rfl | exact narB _) (by decide) (by decide) ?_
        first
          | exact absurd h16 (by decide)
          | exact ret_is (by have h25 : 0 ≤ mlo σ j.toNat := h25; rw [decide_eq_true h25]; rfl) rfl
          | exact ret_is (by have h25 : mlo σ j.toNat < 0 := h25; rw [decide_eq_false (by omega)]; rfl) rfl
set_option maxRecDepth 100000 in
set_option maxHeartbeats 4000000 in
theorem m_isAbsolute_e (hG : Full γ) (hM : Mw σ) {j : Int} (hr : -2147483648 ≤ j ∧ j ≤ 2147483647) {v : Int} (hv : 0 < v ∧ v ≤ 5) (hN : mNoS σ j = v) : Ev γ mX5_isAbsolute 8 0 0 [.ref (ga γ 8 0), .int (zI (j))] σ xs (rtn (some (.int (zI (bI false)))) (sMcd σ v) xs) nX := by
  refine Ev.of1 0 [some (.ref (ga γ 8 0)), some (.int (zI (j)))] rfl pn_X5_isAbsolute rfl (Nat.le_of_ble_eq_true rfl) ?_
  refine r_aload_n (q := 1) dX5_isAbsolute_0 rfl rfl ?_
  refine r_aload_n (q := 2) dX5_isAbsolute_1 rfl rfl ?_
  refine r_iload_n (q := 3) dX5_isAbsolute_2 rfl rfl ?_
  refine cX5_1 (My := mX5_noSlot) (q := 6) dX5_isAbsolute_3 rfl kX5_157 vX5_noSlot (hG _ _ rfl) rfl (m_noSlot hG hM (by omega) hN) ⟨by decide, by decide⟩ ⟨by decide, by decide⟩ (Nat.le_of_ble_eq_true rfl) ?_
  refine cX5_1 (My := mX5_fails) (q := 9) dX5_isAbsolute_6 rfl kX5_63 vX5_fails (hG _ _ rfl) rfl (m_fails hG (by omega)) ⟨by decide, by decide⟩ ⟨by decide, by decide⟩ (Nat.le_of_ble_eq_true rfl) ?_
  refine r_ifB_ne (q := 12) (tgt := 26) dX5_isAbsolute_9 rfl (by decide) (fun h9 => ?_) (fun h9 => ?_)
  · refine r_iconst (q := 27) dX5_isAbsolute_26 rfl ?_
    refine r_retz dX5_isAbsolute_27 rfl (by first | rfl | exact narB _) (by decide) (by decide) ?_
    exact ret_is rfl rfl
  · have := of_decide_eq_false h9; omega
set_option maxRecDepth 100000 in
set_option maxHeartbeats 4000000 in
theorem m_isAbsolute_0 (hG : Full γ) (hM : Mw σ) {j : Int} (hj : 0 ≤ j ∧ j < 4) (hN : mNoS σ j = 0) : Ev γ mX5_isAbsolute 8 0 0 [.ref (ga γ 8 0), .int (zI (j))] σ xs (rtn (some (.int (zI (bI (mHas σ j 0))))) (sMcd σ 0) xs) nX := by
  refine Ev.of1 0 [some (.ref (ga γ 8 0)), some (.int (zI (j)))] rfl pn_X5_isAbsolute rfl (Nat.le_of_ble_eq_true rfl) ?_
  refine r_aload_n (q := 1) dX5_isAbsolute_0 rfl rfl ?_
  refine r_aload_n (q := 2) dX5_isAbsolute_1 rfl rfl ?_
  refine r_iload_n (q := 3) dX5_isAbsolute_2 rfl rfl ?_
  refine cX5_1 (My := mX5_noSlot) (q := 6) dX5_isAbsolute_3 rfl kX5_157 vX5_noSlot (hG _ _ rfl) rfl (m_noSlot hG hM (by omega) hN) ⟨by decide, by decide⟩ ⟨by decide, by decide⟩ (Nat.le_of_ble_eq_true rfl) ?_
  refine cX5_1 (My := mX5_fails) (q := 9) dX5_isAbsolute_6 rfl kX5_63 vX5_fails (hG _ _ rfl) rfl (m_fails hG (by omega)) ⟨by decide, by decide⟩ ⟨by decide, by decide⟩ (Nat.le_of_ble_eq_true rfl) ?_
  refine r_ifB_ne (q := 12) (tgt := 26) dX5_isAbsolute_9 rfl (by decide) (fun h9 => ?_) (fun h9 => ?_)
  · refine r_iconst (q := 27) dX5_isAbsolute_26 rfl ?_
    refine r_retz dX5_isAbsolute_27 rfl (by first | rfl | exact narB _) (by decide) (by decide) ?_
    first
      | exact absurd h9 (by decide)
      | exact ret_is (by rw [show mHas σ j 0 = true from h19]; rfl) rfl
      | exact ret_is (by rw [show mHas σ j 0 = false from h19]; rfl) rfl
  · refine r_aload_n (q := 13) dX5_isAbsolute_12 rfl rfl ?_
    refine r_iload_n (q := 14) dX5_isAbsolute_13 rfl rfl ?_
    refine r_bipush (q := 16) dX5_isAbsolute_14 rfl (bip (by decide) (by decide)) ?_
    refine cX5_2 (My := mX5_has) (q := 19) dX5_isAbsolute_16 rfl kX5_160 vX5_has (hG _ _ rfl) rfl (m_has hG (hM.cd 0) hj (by decide) rfl (by decide)) ⟨by decide, by decide⟩ ⟨by decide, by decide⟩ (Nat.le_of_ble_eq_true rfl) ?_
    refine r_ifB_eq (q := 22) (tgt := 26) dX5_isAbsolute_19 rfl (by decide) (fun h19 => ?_) (fun h19 => ?_)
    · refine r_iconst (q := 27) dX5_isAbsolute_26 rfl ?_
      refine r_retz dX5_isAbsolute_27 rfl (by first | rfl | exact narB _) (by decide) (by decide) ?_
      first
        | exact absurd h9 (by decide)
        | exact ret_is (by rw [show mHas σ j 0 = true from h19]; rfl) rfl
        | exact ret_is (by rw [show mHas σ j 0 = false from h19]; rfl) rfl
    · refine r_iconst (q := 23) dX5_isAbsolute_22 rfl ?_
      refine r_goto (q := 27) dX5_isAbsolute_23 (by decide) ?_
      refine r_retz dX5_isAbsolute_27 rfl (by first | rfl | exact narB _) (by decide) (by decide) ?_
      first
        | exact absurd h9 (by decide)
        | exact ret_is (by rw [show mHas σ j 0 = true from h19]; rfl) rfl
        | exact ret_is (by rw [show mHas σ j 0 = false from h19]; rfl) rfl
set_option maxRecDepth 100000 in
set_option maxHeartbeats 4000000 in
theorem m_isOpaque_e (hG : Full γ) (hM : Mw σ) {j : Int} (hr : -2147483648 ≤ j ∧ j ≤ 2147483647) {v : Int} (hv : 0 < v ∧ v ≤ 5) (hN : mNoS σ j = v) : Ev γ mX5_isOpaque 8 0 0 [.ref (ga γ 8 0), .int (zI (j))] σ xs (rtn (some (.int (zI (bI false)))) (sMcd σ v) xs) nX := by
  refine Ev.of1 0 [some (.ref (ga γ 8 0)), some (.int (zI (j)))] rfl pn_X5_isOpaque rfl (Nat.le_of_ble_eq_true rfl) ?_
  refine r_aload_n (q := 1) dX5_isOpaque_0 rfl rfl ?_
  refine r_aload_n (q := 2) dX5_isOpaque_1 rfl rfl ?_
  refine r_iload_n (q := 3) dX5_isOpaque_2 rfl rfl ?_
  refine cX5_1 (My := mX5_noSlot) (q := 6) dX5_isOpaque_3 rfl kX5_157 vX5_noSlot (hG _ _ rfl) rfl (m_noSlot hG hM (by omega) hN) ⟨by decide, by decide⟩ ⟨by decide, by decide⟩ (Nat.le_of_ble_eq_true rfl) ?_
  refine cX5_1 (My := mX5_fails) (q := 9) dX5_isOpaque_6 rfl kX5_63 vX5_fails (hG _ _ rfl) rfl (m_fails hG (by omega)) ⟨by decide, by decide⟩ ⟨by decide, by decide⟩ (Nat.le_of_ble_eq_true rfl) ?_
  refine r_ifB_ne (q := 12) (tgt := 26) dX5_isOpaque_9 rfl (by decide) (fun h9 => ?_) (fun h9 => ?_)
  · refine r_iconst (q := 27) dX5_isOpaque_26 rfl ?_
    refine r_retz dX5_isOpaque_27 rfl (by first | rfl | exact narB _) (by decide) (by decide) ?_
    exact ret_is rfl rfl
  · have := of_decide_eq_false h9; omega
set_option maxRecDepth 100000 in
set_option maxHeartbeats 4000000 in
theorem m_isOpaque_0 (hG : Full γ) (hM : Mw σ) {j : Int} (hj : 0 ≤ j ∧ j < 4) (hN : mNoS σ j = 0) : Ev γ mX5_isOpaque 8 0 0 [.ref (ga γ 8 0), .int (zI (j))] σ xs (rtn (some (.int (zI (bI (!mHas σ j 5))))) (sMcd σ 0) xs) nX := by
  refine Ev.of1 0 [some (.ref (ga γ 8 0)), some (.int (zI (j)))] rfl pn_X5_isOpaque rfl (Nat.le_of_ble_eq_true rfl) ?_
  refine r_aload_n (q := 1) dX5_isOpaque_0 rfl rfl ?_
  refine r_aload_n (q := 2) dX5_isOpaque_1 rfl rfl ?_
  refine r_iload_n (q := 3) dX5_isOpaque_2 rfl rfl ?_
  refine cX5_1 (My := mX5_noSlot) (q := 6) dX5_isOpaque_3 rfl kX5_157 vX5_noSlot (hG _ _ rfl) rfl (m_noSlot hG hM (by omega) hN) ⟨by decide, by decide⟩ ⟨by decide, by decide⟩ (Nat.le_of_ble_eq_true rfl) ?_
  refine cX5_1 (My := mX5_fails) (q := 9) dX5_isOpaque_6 rfl kX5_63 vX5_fails (hG _ _ rfl) rfl (m_fails hG (by omega)) ⟨by decide, by decide⟩ ⟨by decide, by decide⟩ (Nat.le_of_ble_eq_true rfl) ?_
  refine r_ifB_ne (q := 12) (tgt := 26) dX5_isOpaque_9 rfl (by decide) (fun h9 => ?_) (fun h9 => ?_)
  · refine r_iconst (q := 27) dX5_isOpaque_26 rfl ?_
    refine r_retz dX5_isOpaque_27 rfl (by first | rfl | exact narB _) (by decide) (by decide) ?_
    first
      | exact absurd h9 (by decide)
      | exact ret_is (by rw [show mHas σ j 5 = true from h19]; rfl) rfl
      | exact ret_is (by rw [show mHas σ j 5 = false from h19]; rfl) rfl
  · refine r_aload_n (q := 13) dX5_isOpaque_12 rfl rfl ?_
    refine r_iload_n (q := 14) dX5_isOpaque_13 rfl rfl ?_
    refine r_bipush (q := 16) dX5_isOpaque_14 rfl (bip (by decide) (by decide)) ?_
    refine cX5_2 (My := mX5_has) (q := 19) dX5_isOpaque_16 rfl kX5_160 vX5_has (hG _ _ rfl) rfl (m_has hG (hM.cd 0) hj (by decide) rfl (by decide)) ⟨by decide, by decide⟩ ⟨by decide, by decide⟩ (Nat.le_of_ble_eq_true rfl) ?_
    refine r_ifB_ne (q := 22) (tgt := 26) dX5_isOpaque_19 rfl (by decide) (fun h19 => ?_) (fun h19 => ?_)
    · refine r_iconst (q := 27) dX5_isOpaque_26 rfl ?_
      refine r_retz dX5_isOpaque_27 rfl (by first | rfl | exact narB _) (by decide) (by decide) ?_
      first
        | exact absurd h9 (by decide)
        | exact ret_is (by rw [show mHas σ j 5 = true from h19]; rfl) rfl
        | exact ret_is (by rw [show mHas σ j 5 = false from h19]; rfl) rfl
    · refine r_iconst (q := 23) dX5_isOpaque_22 rfl ?_
      refine r_goto (q := 27) dX5_isOpaque_23 (by decide) ?_
      refine r_retz dX5_isOpaque_27 rfl (by first | rfl | exact narB _) (by decide) (by decide) ?_
      first
        | exact absurd h9 (by decide)
        | exact ret_is (by rw [show mHas σ j 5 = true from h19]; rfl) rfl
        | exact ret_is (by rw [show mHas σ j 5 = false from h19]; rfl) rfl
set_option maxRecDepth 100000 in
set_option maxHeartbeats 4000000 in
theorem m_port_e (hG : Full γ) (hM : Mw σ) {j : Int} (hr : -2147483648 ≤ j ∧ j ≤ 2147483647) {v : Int} (hv : 0 < v ∧ v ≤ 5) (hN : mNoS σ j = v) : Ev γ mX5_port 4 0 0 [.ref (ga γ 8 0), .int (zI (j))] σ xs (rtn (some (.int (zI (0)))) (sMcd σ v) xs) nX := by
  refine Ev.of1 0 [some (.ref (ga γ 8 0)), some (.int (zI (j)))] rfl pn_X5_port rfl (Nat.le_of_ble_eq_true rfl) ?_
  refine r_aload_n (q := 1) dX5_port_0 rfl rfl ?_
  refine r_aload_n (q := 2) dX5_port_1 rfl rfl ?_
  refine r_iload_n (q := 3) dX5_port_2 rfl rfl ?_
  refine cX5_1 (My := mX5_noSlot) (q := 6) dX5_port_3 rfl kX5_157 vX5_noSlot (hG _ _ rfl) rfl (m_noSlot hG hM (by omega) hN) ⟨by decide, by decide⟩ ⟨by decide, by decide⟩ (Nat.le_of_ble_eq_true rfl) ?_
  refine cX5_1 (My := mX5_fails) (q := 9) dX5_port_6 rfl kX5_63 vX5_fails (hG _ _ rfl) rfl (m_fails hG (by omega)) ⟨by decide, by decide⟩ ⟨by decide, by decide⟩ (Nat.le_of_ble_eq_true rfl) ?_
  refine r_ifB_eq (q := 12) (tgt := 16) dX5_port_9 rfl (by decide) (fun h9 => ?_) (fun h9 => ?_)
  · have := of_decide_eq_false h9; omega
  · refine r_iconst (q := 13) dX5_port_12 rfl ?_
    refine r_goto (q := 22) dX5_port_13 (by decide) ?_
    refine r_reti dX5_port_22 rfl (by decide) (by decide) ?_
    exact ret_is rfl rfl
set_option maxRecDepth 100000 in
set_option maxHeartbeats 4000000 in
theorem m_port_0 (hG : Full γ) (hM : Mw σ) {j : Int} (hj : 0 ≤ j ∧ j < 4) (hN : mNoS σ j = 0) : Ev γ mX5_port 4 0 0 [.ref (ga γ 8 0), .int (zI (j))] σ xs (rtn (some (.int (zI (mpo σ j.toNat)))) (sMcd σ 0) xs) nX := by
  refine Ev.of1 0 [some (.ref (ga γ 8 0)), some (.int (zI (j)))] rfl pn_X5_port rfl (Nat.le_of_ble_eq_true rfl) ?_
  refine r_aload_n (q := 1) dX5_port_0 rfl rfl ?_
  refine r_aload_n (q := 2) dX5_port_1 rfl rfl ?_
  refine r_iload_n (q := 3) dX5_port_2 rfl rfl ?_
  refine cX5_1 (My := mX5_noSlot) (q := 6) dX5_port_3 rfl kX5_157 vX5_noSlot (hG _ _ rfl) rfl (m_noSlot hG hM (by omega) hN) ⟨by decide, by decide⟩ ⟨by decide, by decide⟩ (Nat.le_of_ble_eq_true rfl) ?_
  refine cX5_1 (My := mX5_fails) (q := 9) dX5_port_6 rfl kX5_63 vX5_fails (hG _ _ rfl) rfl (m_fails hG (by omega)) ⟨by decide, by decide⟩ ⟨by decide, by decide⟩ (Nat.le_of_ble_eq_true rfl) ?_
  refine r_ifB_eq (q := 12) (tgt := 16) dX5_port_9 rfl (by decide) (fun h9 => ?_) (fun h9 => ?_)
  · refine r_aload_n (q := 17) dX5_port_16 rfl rfl ?_
    refine g_X5_ports (i := 0) (q := 20) dX5_port_17 rfl fX5_28 (hG _ _ rfl) ?_
    refine r_iload_n (q := 21) dX5_port_20 rfl rfl ?_
    refine l_mpo (i := 0) (q := 22) dX5_port_21 rfl (hG _ _ rfl) (by omega) ?_
    refine r_reti dX5_port_22 rfl (by decide) (by decide) ?_
    exact ret_is rfl rfl
  · exact absurd h9 (by decide)
set_option maxRecDepth 100000 in
set_option maxHeartbeats 4000000 in
theorem m_size_e (hG : Full γ) (hM : Mw σ) {j : Int} (hr : -2147483648 ≤ j ∧ j ≤ 2147483647) {c : Int} (hc : -2147483648 ≤ c ∧ c ≤ 2147483647) {v : Int} (hv : 0 < v ∧ v ≤ 5) (hN : mNoP σ j c = v) : Ev γ mX5_size 7 0 0 [.ref (ga γ 8 0), .int (zI (j)), .int (zI (c))] σ xs (rtn (some (.int (zI (0)))) (sMcd σ v) xs) nX := by
  refine Ev.of1 0 [some (.ref (ga γ 8 0)), some (.int (zI (j))), some (.int (zI (c)))] rfl pn_X5_size rfl (Nat.le_of_ble_eq_true rfl) ?_
  refine r_aload_n (q := 1) dX5_size_0 rfl rfl ?_
  refine r_aload_n (q := 2) dX5_size_1 rfl rfl ?_
  refine r_iload_n (q := 3) dX5_size_2 rfl rfl ?_
  refine r_iload_n (q := 4) dX5_size_3 rfl rfl ?_
  refine cX5_2 (My := mX5_noPart) (q := 7) dX5_size_4 rfl kX5_164 vX5_noPart (hG _ _ rfl) rfl (m_noPart hG hM (by omega) hc hN) ⟨by decide, by decide⟩ ⟨by decide, by decide⟩ (Nat.le_of_ble_eq_true rfl) ?_
  refine cX5_1 (My := mX5_fails) (q := 10) dX5_size_7 rfl kX5_63 vX5_fails (hG _ _ rfl) rfl (m_fails hG (by omega)) ⟨by decide, by decide⟩ ⟨by decide, by decide⟩ (Nat.le_of_ble_eq_true rfl) ?_
  refine r_ifB_eq (q := 13) (tgt := 17) dX5_size_10 rfl (by decide) (fun h10 => ?_) (fun h10 => ?_)
  · have := of_decide_eq_false h10; omega
  · refine r_iconst (q := 14) dX5_size_13 rfl ?_
    refine r_goto (q := 26) dX5_size_14 (by decide) ?_
    refine r_reti dX5_size_26 rfl (by decide) (by decide) ?_
    exact ret_is rfl rfl
set_option maxRecDepth 100000 in
set_option maxHeartbeats 4000000 in
theorem m_size_0 (hG : Full γ) (hM : Mw σ) {j : Int} (hj : 0 ≤ j ∧ j < 4) {c : Int} (hc : -2147483648 ≤ c ∧ c ≤ 2147483647) (h0 : 0 ≤ ixO (tS 51) c) (hN : mNoP σ j c = 0) : Ev γ mX5_size 7 0 0 [.ref (ga γ 8 0), .int (zI (j)), .int (zI (c))] σ xs (rtn (some (.int (zI (mMany σ j (ixO (tS 51) c))))) (sMcd σ 0) xs) nX := by
  refine Ev.of1 0 [some (.ref (ga γ 8 0)), some (.int (zI (j))), some (.int (zI (c)))] rfl pn_X5_size rfl (Nat.le_of_ble_eq_true rfl) ?_
  have h8 := ix51 c
  refine r_aload_n (q := 1) dX5_size_0 rfl rfl ?_
  refine r_aload_n (q := 2) dX5_size_1 rfl rfl ?_
  refine r_iload_n (q := 3) dX5_size_2 rfl rfl ?_
  refine r_iload_n (q := 4) dX5_size_3 rfl rfl ?_
  refine cX5_2 (My := mX5_noPart) (q := 7) dX5_size_4 rfl kX5_164 vX5_noPart (hG _ _ rfl) rfl (m_noPart hG hM (by omega) hc hN) ⟨by decide, by decide⟩ ⟨by decide, by decide⟩ (Nat.le_of_ble_eq_true rfl) ?_
  refine cX5_1 (My := mX5_fails) (q := 10) dX5_size_7 rfl kX5_63 vX5_fails (hG _ _ rfl) rfl (m_fails hG (by omega)) ⟨by decide, by decide⟩ ⟨by decide, by decide⟩ (Nat.le_of_ble_eq_true rfl) ?_
  refine r_ifB_eq (q := 13) (tgt := 17) dX5_size_10 rfl (by decide) (fun h10 => ?_) (fun h10 => ?_)
  · refine r_aload_n (q := 18) dX5_size_17 rfl rfl ?_
    refine r_iload_n (q := 19) dX5_size_18 rfl rfl ?_
    refine r_iload_n (q := 20) dX5_size_19 rfl rfl ?_
    refine cS_1 (My := mX5_partOf) (q := 23) dX5_size_20 rfl kX5_100 vX5_partOf (m_partOf hc) ⟨by decide, by decide⟩ ⟨by decide, by decide⟩ (Nat.le_of_ble_eq_true rfl) ?_
    refine cX5_2 (My := mX5_many) (q := 26) dX5_size_23 rfl kX5_168 vX5_many (hG _ _ rfl) rfl (m_many hG (hM.cd 0) hj (by have := ix51 c; omega)) ⟨by decide, by decide⟩ ⟨by decide, by decide⟩ (Nat.le_of_ble_eq_true rfl) ?_
    refine r_reti dX5_size_26 rfl (by decide) (by decide) ?_
    exact ret_is rfl rfl
  · exact absurd h10 (by decide)
set_option maxRecDepth 100000 in
set_option maxHeartbeats 4000000 in
theorem m_begin_e (hG : Full γ) (hM : Mw σ) {j : Int} (hr : -2147483648 ≤ j ∧ j ≤ 2147483647) {c : Int} (hc : -2147483648 ≤ c ∧ c ≤ 2147483647) {v : Int} (hv : 0 < v ∧ v ≤ 5) (hN : mNoP σ j c = v) : Ev γ mX5_begin 7 0 0 [.ref (ga γ 8 0), .int (zI (j)), .int (zI (c))] σ xs (rtn (some (.int (zI (0)))) (sMcd σ v) xs) nX := by
  refine Ev.of1 0 [some (.ref (ga γ 8 0)), some (.int (zI (j))), some (.int (zI (c)))] rfl pn_X5_begin rfl (Nat.le_of_ble_eq_true rfl) ?_
  refine r_aload_n (q := 1) dX5_begin_0 rfl rfl ?_
  refine r_aload_n (q := 2) dX5_begin_1 rfl rfl ?_
  refine r_iload_n (q := 3) dX5_begin_2 rfl rfl ?_
  refine r_iload_n (q := 4) dX5_begin_3 rfl rfl ?_
  refine cX5_2 (My := mX5_noPart) (q := 7) dX5_begin_4 rfl kX5_164 vX5_noPart (hG _ _ rfl) rfl (m_noPart hG hM (by omega) hc hN) ⟨by decide, by decide⟩ ⟨by decide, by decide⟩ (Nat.le_of_ble_eq_true rfl) ?_
  refine cX5_1 (My := mX5_fails) (q := 10) dX5_begin_7 rfl kX5_63 vX5_fails (hG _ _ rfl) rfl (m_fails hG (by omega)) ⟨by decide, by decide⟩ ⟨by decide, by decide⟩ (Nat.le_of_ble_eq_true rfl) ?_
  refine r_ifB_eq (q := 13) (tgt := 17) dX5_begin_10 rfl (by decide) (fun h10 => ?_) (fun h10 => ?_)
  · have := of_decide_eq_false h10; omega
  · refine r_iconst (q := 14) dX5_begin_13 rfl ?_
    refine r_goto (q := 31) dX5_begin_14 (by decide) ?_
    refine r_reti dX5_begin_31 rfl (by decide) (by decide) ?_
    exact ret_is rfl rfl
set_option maxRecDepth 100000 in
set_option maxHeartbeats 4000000 in
theorem m_begin_0 (hG : Full γ) (hM : Mw σ) {j : Int} (hj : 0 ≤ j ∧ j < 4) {c : Int} (hc : -2147483648 ≤ c ∧ c ≤ 2147483647) (h0 : 0 ≤ ixO (tS 51) c) (hN : mNoP σ j c = 0) : Ev γ mX5_begin 7 0 0 [.ref (ga γ 8 0), .int (zI (j)), .int (zI (c))] σ xs (rtn (some (.int (zI (mF σ j (ixO (tS 51) c))))) (sMcd σ 0) xs) nX := by
  refine Ev.of1 0 [some (.ref (ga γ 8 0)), some (.int (zI (j))), some (.int (zI (c)))] rfl pn_X5_begin rfl (Nat.le_of_ble_eq_true rfl) ?_
  have h8 := ix51 c
  refine r_aload_n (q := 1) dX5_begin_0 rfl rfl ?_
  refine r_aload_n (q := 2) dX5_begin_1 rfl rfl ?_
  refine r_iload_n (q := 3) dX5_begin_2 rfl rfl ?_
  refine r_iload_n (q := 4) dX5_begin_3 rfl rfl ?_
  refine cX5_2 (My := mX5_noPart) (q := 7) dX5_begin_4 rfl kX5_164 vX5_noPart (hG _ _ rfl) rfl (m_noPart hG hM (by omega) hc hN) ⟨by decide, by decide⟩ ⟨by decide, by decide⟩ (Nat.le_of_ble_eq_true rfl) ?_
  refine cX5_1 (My := mX5_fails) (q := 10) dX5_begin_7 rfl kX5_63 vX5_fails (hG _ _ rfl) rfl (m_fails hG (by omega)) ⟨by decide, by decide⟩ ⟨by decide, by decide⟩ (Nat.le_of_ble_eq_true rfl) ?_
  refine r_ifB_eq (q := 13) (tgt := 17) dX5_begin_10 rfl (by decide) (fun h10 => ?_) (fun h10 => ?_)
  · refine r_aload_n (q := 18) dX5_begin_17 rfl rfl ?_
    refine g_X5_from (i := 0) (q := 21) dX5_begin_18 rfl fX5_22 (hG _ _ rfl) ?_
    refine r_bipush (q := 23) dX5_begin_21 rfl (bip (by decide) (by decide)) ?_
    refine r_iload_n (q := 24) dX5_begin_23 rfl rfl ?_
    refine r_imul (q := 25) dX5_begin_24 rfl ?_
    refine r_iload_n (q := 26) dX5_begin_25 rfl rfl ?_
    refine cS_1 (My := mX5_partOf) (q := 29) dX5_begin_26 rfl kX5_100 vX5_partOf (m_partOf hc) ⟨by decide, by decide⟩ ⟨by decide, by decide⟩ (Nat.le_of_ble_eq_true rfl) ?_
    refine r_iadd (q := 30) dX5_begin_29 rfl ?_
    refine l_mfr (i := 0) (q := 31) dX5_begin_30 rfl (hG _ _ rfl) (by omega) ?_
    refine r_reti dX5_begin_31 rfl (by decide) (by decide) ?_
    exact ret_is rfl rfl
  · exact absurd h10 (by decide)
set_option maxRecDepth 100000 in
set_option maxHeartbeats 4000000 in
theorem m_partSign_e (hG : Full γ) (hM : Mw σ) {j : Int} (hr : -2147483648 ≤ j ∧ j ≤ 2147483647) {c : Int} (hc : -2147483648 ≤ c ∧ c ≤ 2147483647) {v : Int} (hv : 0 < v ∧ v ≤ 5) (hN : mNoP σ j c = v) {p : Int} (hp : -2147483648 ≤ p ∧ p ≤ 2147483647) : Ev γ mX5_partSign 7 0 0 [.ref (ga γ 8 0), .int (zI (j)), .int (zI (c)), .int (zI (p))] σ xs (rtn (some (.int (zI (0)))) (sMcd σ v) xs) nX := by
  refine Ev.of1 1 [some (.ref (ga γ 8 0)), some (.int (zI (j))), some (.int (zI (c))), some (.int (zI (p))), none] rfl pn_X5_partSign rfl (Nat.le_of_ble_eq_true rfl) ?_
  refine r_aload_n (q := 1) dX5_partSign_0 rfl rfl ?_
  refine r_iload_n (q := 2) dX5_partSign_1 rfl rfl ?_
  refine r_iload_n (q := 3) dX5_partSign_2 rfl rfl ?_
  refine cX5_2 (My := mX5_noPart) (q := 6) dX5_partSign_3 rfl kX5_164 vX5_noPart (hG _ _ rfl) rfl (m_noPart hG hM (by omega) hc hN) ⟨by decide, by decide⟩ ⟨by decide, by decide⟩ (Nat.le_of_ble_eq_true rfl) ?_
  refine r_istore (q := 8) dX5_partSign_6 rfl (by decide) (Lst.setL rfl rfl) ?_
  refine r_aload_n (q := 9) dX5_partSign_8 rfl rfl ?_
  refine r_iload (q := 11) dX5_partSign_9 rfl rfl ?_
  refine r_if_le (q := 14) (tgt := 19) dX5_partSign_11 rfl (by decide) (by omega) (fun h11 => ?_) (fun h11 => ?_)
  · exfalso; omega
  · refine r_iload (q := 16) dX5_partSign_14 rfl rfl ?_
    refine r_goto (q := 43) dX5_partSign_16 (by decide) ?_
    refine cX5_1 (My := mX5_fails) (q := 46) dX5_partSign_43 rfl kX5_63 vX5_fails (hG _ _ rfl) rfl (m_fails hG (by omega)) ⟨by decide, by decide⟩ ⟨by decide, by decide⟩ (Nat.le_of_ble_eq_true rfl) ?_
    refine r_ifB_eq (q := 49) (tgt := 51) dX5_partSign_46 rfl (by decide) (fun h46 => ?_) (fun h46 => ?_)
    · have := of_decide_eq_false h46; omega
    · refine r_iconst (q := 50) dX5_partSign_49 rfl ?_
      refine r_retz dX5_partSign_50 rfl (narC (by omega)) (by decide) (by decide) ?_
      exact ret_is rfl rfl
theorem mMany_r {σ : St} (hM : Mw σ) (j k : Int) : -200 ≤ mMany σ j k ∧ mMany σ j k ≤ 200 := by
  have h1 := hM.fr (9 * j + k).toNat
  have h2 := hM.to (9 * j + k).toNat
  unfold mMany mF mTo
  split <;> omega
set_option maxRecDepth 100000 in
set_option maxHeartbeats 4000000 in
theorem m_partSign_3 (hG : Full γ) (hM : Mw σ) {j : Int} (hj : 0 ≤ j ∧ j < 4) {c : Int} (hc : -2147483648 ≤ c ∧ c ≤ 2147483647) (h0 : 0 ≤ ixO (tS 51) c) (hN : mNoP σ j c = 0) {p : Int} (hp : -2147483648 ≤ p ∧ p ≤ 2147483647) (hb : ¬ (0 ≤ p ∧ p < mMany σ j (ixO (tS 51) c))) : Ev γ mX5_partSign 7 0 0 [.ref (ga γ 8 0), .int (zI (j)), .int (zI (c)), .int (zI (p))] σ xs (rtn (some (.int (zI (0)))) (sMcd σ 3) xs) nX := by
  refine Ev.of1 1 [some (.ref (ga γ 8 0)), some (.int (zI (j))), some (.int (zI (c))), some (.int (zI (p))), none] rfl pn_X5_partSign rfl (Nat.le_of_ble_eq_true rfl) ?_
  have h8 := ix51 c
  refine r_aload_n (q := 1) dX5_partSign_0 rfl rfl ?_
  refine r_iload_n (q := 2) dX5_partSign_1 rfl rfl ?_
  refine r_iload_n (q := 3) dX5_partSign_2 rfl rfl ?_
  refine cX5_2 (My := mX5_noPart) (q := 6) dX5_partSign_3 rfl kX5_164 vX5_noPart (hG _ _ rfl) rfl (m_noPart hG hM (by omega) hc hN) ⟨by decide, by decide⟩ ⟨by decide, by decide⟩ (Nat.le_of_ble_eq_true rfl) ?_
  refine r_istore (q := 8) dX5_partSign_6 rfl (by decide) (Lst.setL rfl rfl) ?_
  refine r_aload_n (q := 9) dX5_partSign_8 rfl rfl ?_
  refine r_iload (q := 11) dX5_partSign_9 rfl rfl ?_
  refine r_if_le (q := 14) (tgt := 19) dX5_partSign_11 rfl (by decide) (by omega) (fun h11 => ?_) (fun h11 => ?_)
  · refine r_iload_n (q := 20) dX5_partSign_19 rfl rfl ?_
    refine r_iconst (q := 21) dX5_partSign_20 rfl ?_
    refine r_aload_n (q := 22) dX5_partSign_21 rfl rfl ?_
    refine r_iload_n (q := 23) dX5_partSign_22 rfl rfl ?_
    refine r_iload_n (q := 24) dX5_partSign_23 rfl rfl ?_
    refine cS_1 (My := mX5_partOf) (q := 27) dX5_partSign_24 rfl kX5_100 vX5_partOf (m_partOf hc) ⟨by decide, by decide⟩ ⟨by decide, by decide⟩ (Nat.le_of_ble_eq_true rfl) ?_
    refine cX5_2 (My := mX5_many) (q := 30) dX5_partSign_27 rfl kX5_168 vX5_many (hG _ _ rfl) rfl (m_many hG hM hj (by omega)) ⟨by decide, by decide⟩ ⟨by decide, by decide⟩ (Nat.le_of_ble_eq_true rfl) ?_
    refine r_iconst (q := 31) dX5_partSign_30 rfl ?_
    refine r_isub (q := 32) dX5_partSign_31 rfl ?_
    refine cS_3 (My := mX5_in) (q := 35) dX5_partSign_32 rfl kX5_41 vX5_in (m_in (by omega) (by omega) (by have hm9 := mMany_r hM j (ixO (tS 51) c); omega)) ⟨by decide, by decide⟩ ⟨by decide, by decide⟩ (Nat.le_of_ble_eq_true rfl) ?_
    refine r_ifB_eq (q := 38) (tgt := 42) dX5_partSign_35 rfl (by decide) (fun h35 => ?_) (fun h35 => ?_)
    · refine r_iconst (q := 43) dX5_partSign_42 rfl ?_
      refine cX5_1 (My := mX5_fails) (q := 46) dX5_partSign_43 rfl kX5_63 vX5_fails (hG _ _ rfl) rfl (m_fails hG (by omega)) ⟨by decide, by decide⟩ ⟨by decide, by decide⟩ (Nat.le_of_ble_eq_true rfl) ?_
      refine r_ifB_eq (q := 49) (tgt := 51) dX5_partSign_46 rfl (by decide) (fun h46 => ?_) (fun h46 => ?_)
      · exact absurd h46 (by decide)
      · refine r_iconst (q := 50) dX5_partSign_49 rfl ?_
        refine r_retz dX5_partSign_50 rfl (narC (by omega)) (by decide) (by decide) ?_
        exact ret_is rfl rfl
    · exfalso; simp at h35; omega
  · exfalso; omega
set_option maxRecDepth 100000 in
set_option maxHeartbeats 4000000 in
theorem m_partSign_0 (hG : Full γ) (hM : Mw σ) {j : Int} (hj : 0 ≤ j ∧ j < 4) {c : Int} (hc : -2147483648 ≤ c ∧ c ≤ 2147483647) (h0 : 0 ≤ ixO (tS 51) c) (hN : mNoP σ j c = 0) {p : Int} (hp : -2147483648 ≤ p ∧ p ≤ 2147483647) (hb : 0 ≤ p ∧ p < mMany σ j (ixO (tS 51) c)) : Ev γ mX5_partSign 7 0 0 [.ref (ga γ 8 0), .int (zI (j)), .int (zI (c)), .int (zI (p))] σ xs (rtn (some (.int (zI (msg σ (60 * j + (mF σ j (ixO (tS 51) c) + p)).toNat)))) (sMcd σ 0) xs) nX := by
  refine Ev.of1 1 [some (.ref (ga γ 8 0)), some (.int (zI (j))), some (.int (zI (c))), some (.int (zI (p))), none] rfl pn_X5_partSign rfl (Nat.le_of_ble_eq_true rfl) ?_
  have h8 := ix51 c
  have hb2 : 0 ≤ mF σ j (ixO (tS 51) c) ∧ p < mTo σ j (ixO (tS 51) c) - mF σ j (ixO (tS 51) c) := by
    unfold mMany at hb
    split at hb <;> omega
  have hto := hM.to (9 * j + ixO (tS 51) c).toNat
  have hto2 : mTo σ j (ixO (tS 51) c) ≤ 60 := hto.2
  refine r_aload_n (q := 1) dX5_partSign_0 rfl rfl ?_
  refine r_iload_n (q := 2) dX5_partSign_1 rfl rfl ?_
  refine r_iload_n (q := 3) dX5_partSign_2 rfl rfl ?_
  refine cX5_2 (My := mX5_noPart) (q := 6) dX5_partSign_3 rfl kX5_164 vX5_noPart (hG _ _ rfl) rfl (m_noPart hG hM (by omega) hc hN) ⟨by decide, by decide⟩ ⟨by decide, by decide⟩ (Nat.le_of_ble_eq_true rfl) ?_
  refine r_istore (q := 8) dX5_partSign_6 rfl (by decide) (Lst.setL rfl rfl) ?_
  refine r_aload_n (q := 9) dX5_partSign_8 rfl rfl ?_
  refine r_iload (q := 11) dX5_partSign_9 rfl rfl ?_
  refine r_if_le (q := 14) (tgt := 19) dX5_partSign_11 rfl (by decide) (by omega) (fun h11 => ?_) (fun h11 => ?_)
  · refine r_iload_n (q := 20) dX5_partSign_19 rfl rfl ?_
    refine r_iconst (q := 21) dX5_partSign_20 rfl ?_
    refine r_aload_n (q := 22) dX5_partSign_21 rfl rfl ?_
    refine r_iload_n (q := 23) dX5_partSign_22 rfl rfl ?_
    refine r_iload_n (q := 24) dX5_partSign_23 rfl rfl ?_
    refine cS_1 (My := mX5_partOf) (q := 27) dX5_partSign_24 rfl kX5_100 vX5_partOf (m_partOf hc) ⟨by decide, by decide⟩ ⟨by decide, by decide⟩ (Nat.le_of_ble_eq_true rfl) ?_
    refine cX5_2 (My := mX5_many) (q := 30) dX5_partSign_27 rfl kX5_168 vX5_many (hG _ _ rfl) rfl (m_many hG hM hj (by omega)) ⟨by decide, by decide⟩ ⟨by decide, by decide⟩ (Nat.le_of_ble_eq_true rfl) ?_
    refine r_iconst (q := 31) dX5_partSign_30 rfl ?_
    refine r_isub (q := 32) dX5_partSign_31 rfl ?_
    refine cS_3 (My := mX5_in) (q := 35) dX5_partSign_32 rfl kX5_41 vX5_in (m_in (by omega) (by omega) (by have hm9 := mMany_r hM j (ixO (tS 51) c); omega)) ⟨by decide, by decide⟩ ⟨by decide, by decide⟩ (Nat.le_of_ble_eq_true rfl) ?_
    refine r_ifB_eq (q := 38) (tgt := 42) dX5_partSign_35 rfl (by decide) (fun h35 => ?_) (fun h35 => ?_)
    · exfalso; simp at h35; omega
    · refine r_iconst (q := 39) dX5_partSign_38 rfl ?_
      refine r_goto (q := 43) dX5_partSign_39 (by decide) ?_
      refine cX5_1 (My := mX5_fails) (q := 46) dX5_partSign_43 rfl kX5_63 vX5_fails (hG _ _ rfl) rfl (m_fails hG (by omega)) ⟨by decide, by decide⟩ ⟨by decide, by decide⟩ (Nat.le_of_ble_eq_true rfl) ?_
      refine r_ifB_eq (q := 49) (tgt := 51) dX5_partSign_46 rfl (by decide) (fun h46 => ?_) (fun h46 => ?_)
      · refine r_aload_n (q := 52) dX5_partSign_51 rfl rfl ?_
        refine g_X5_signs (i := 0) (q := 55) dX5_partSign_52 rfl fX5_16 (hG _ _ rfl) ?_
        refine r_bipush (q := 57) dX5_partSign_55 rfl (bip (by decide) (by decide)) ?_
        refine r_iload_n (q := 58) dX5_partSign_57 rfl rfl ?_
        refine r_imul (q := 59) dX5_partSign_58 rfl ?_
        refine r_aload_n (q := 60) dX5_partSign_59 rfl rfl ?_
        refine g_X5_from (i := 0) (q := 63) dX5_partSign_60 rfl fX5_22 (hG _ _ rfl) ?_
        refine r_bipush (q := 65) dX5_partSign_63 rfl (bip (by decide) (by decide)) ?_
        refine r_iload_n (q := 66) dX5_partSign_65 rfl rfl ?_
        refine r_imul (q := 67) dX5_partSign_66 rfl ?_
        refine r_iload_n (q := 68) dX5_partSign_67 rfl rfl ?_
        refine cS_1 (My := mX5_partOf) (q := 71) dX5_partSign_68 rfl kX5_100 vX5_partOf (m_partOf hc) ⟨by decide, by decide⟩ ⟨by decide, by decide⟩ (Nat.le_of_ble_eq_true rfl) ?_
        refine r_iadd (q := 72) dX5_partSign_71 rfl ?_
        refine l_mfr (i := 0) (q := 73) dX5_partSign_72 rfl (hG _ _ rfl) (by first | (show 0 ≤ 9 * j + ixO (tS 51) c ∧ 9 * j + ixO (tS 51) c < 36; omega) | (show 0 ≤ 60 * j + mF σ j (ixO (tS 51) c) + p ∧ 60 * j + mF σ j (ixO (tS 51) c) + p < 240; omega)) ?_
        refine r_iadd (q := 74) dX5_partSign_73 rfl ?_
        refine r_iload_n (q := 75) dX5_partSign_74 rfl rfl ?_
        refine r_iadd (q := 76) dX5_partSign_75 rfl ?_
        refine l_msg (i := 0) (q := 77) dX5_partSign_76 rfl (hG _ _ rfl) (by first | (show 0 ≤ 9 * j + ixO (tS 51) c ∧ 9 * j + ixO (tS 51) c < 36; omega) | (show 0 ≤ 60 * j + mF σ j (ixO (tS 51) c) + p ∧ 60 * j + mF σ j (ixO (tS 51) c) + p < 240; omega)) ?_
        refine r_i2c (q := 78) dX5_partSign_77 rfl ?_
        refine r_retz dX5_partSign_78 rfl (narC (by omega)) (by decide) (by decide) ?_
        have h9 := hM.sg (60 * j + mF σ j (ixO (tS 51) c) + p).toNat
        exact ret_is (by show msg σ (60 * j + mF σ j (ixO (tS 51) c) + p).toNat % 65536 = _; rw [show 60 * j + (mF σ j (ixO (tS 51) c) + p) = 60 * j + mF σ j (ixO (tS 51) c) + p by omega]; omega) rfl
      · exact absurd h46 (by decide)
  · exfalso; omega
end X5
