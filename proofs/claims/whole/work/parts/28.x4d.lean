/-! Linkloom: copy, alike, together, mix -/
section X4d
variable {γ : Gm} {σ : St} {xs : va_W} {i j : Nat}
set_option maxRecDepth 100000 in
set_option maxHeartbeats 4000000 in
theorem x4_copy (hG : Full γ) {k : Int} (hk : 0 ≤ k ∧ k < 4) {k2 : Int} (hk2 : 0 ≤ k2 ∧ k2 < 4) (hW : Wk σ) : Ev γ mX4_copy 8 0 0 [.ref (ga γ 6 0), .int (zI k), .int (zI k2)] σ xs (rtn (some (.int (zI (cntF (pCopy σ k k2) 0 0)))) (pCopy σ k k2) xs) nX := by
  refine Ev.of1 6 [some (.ref (ga γ 6 0)), some (.int (zI k)), some (.int (zI k2)), none, none, none, none, none, none] rfl pn_X4_copy rfl (Nat.le_of_ble_eq_true rfl) ?_
  have loop : ∀ q : Int, q ≤ 5 → 0 ≤ q → ∀ a : Int, 0 ≤ a ∧ a ≤ q → cntF (pCopy σ k k2) a q = cntF (pCopy σ k k2) 0 0 → RW γ mX4_copy 8 0 0 (rtn (some (.int (zI (cntF (pCopy σ k k2) 0 0)))) (pCopy σ k k2) xs) nX 0 0 32 [some (.ref (ga γ 6 0)), some (.int (zI k)), some (.int (zI k2)), some (.ref (ga γ 2 k.toNat)), some (.int (zI a)), some (.ref (ga γ 7 0)), some (.int (zI 4)), some (.int (zI q)), none] [] (pCopy σ k k2) xs := by
    refine up (fun q hq9 ih h0 a ha hr => ?_)
    refine r_iload (q := 34) dX4_copy_32 rfl rfl ?_
    refine r_iload (q := 36) dX4_copy_34 rfl rfl ?_
    refine r_icmp_ge (q := 39) (tgt := 63) dX4_copy_36 rfl (by decide) (by omega) (by omega) (fun h36 => ?_) (fun h36 => ?_)
    · refine r_iload (q := 65) dX4_copy_63 rfl rfl ?_
      refine r_reti dX4_copy_65 rfl (by decide) (by decide) ?_
      exact ret_i (by rw [← hr, cntF.eq_def (pCopy σ k k2) a q, if_neg (by omega)])
    · refine r_aload (q := 41) dX4_copy_39 rfl rfl ?_
      refine r_iload (q := 43) dX4_copy_41 rfl rfl ?_
      refine r_aaldS (q := 44) dX4_copy_43 rfl (hG _ _ (by first | rfl | exact vk2 (by omega))) (by omega) ?_
      refine r_astore (q := 46) dX4_copy_44 rfl (by decide) (Lst.setL rfl rfl) ?_
      refine r_aload (q := 48) dX4_copy_46 rfl rfl ?_
      refine cX0_0 (My := mX0_isHeld) (q := 51) dX4_copy_48 rfl kX4_135 vX0_isHeld (hG _ _ (by first | rfl | exact vk2 (by omega))) rfl (x0_isHeld hG (vk2 (by omega))) ⟨by decide, by decide⟩ ⟨by decide, by decide⟩ (Nat.le_of_ble_eq_true rfl) ?_
      refine r_ifB_eq (q := 54) (tgt := 57) dX4_copy_51 rfl (by decide) (fun h51 => ?_) (fun h51 => ?_)
      · refine r_iinc (q := 60) dX4_copy_57 rfl rfl (by decide) (Lst.setL rfl rfl) ?_
        refine r_goto (q := 32) dX4_copy_60 (by decide) ?_
        refine RW.drop 8 ?_
        first
          | exact ih (q + 1) (by omega) (by omega) (by omega) (a + 1) (by omega) (by rw [← hr, cntF.eq_def (pCopy σ k k2) a q, if_pos (by omega), if_pos (show hld (pCopy σ k k2) q.toNat = true by assumption)])
          | exact ih (q + 1) (by omega) (by omega) (by omega) a (by omega) (by rw [← hr, cntF.eq_def (pCopy σ k k2) a q, if_pos (by omega), if_neg (by rw [show hld (pCopy σ k k2) q.toNat = false by assumption]; decide)])
      · refine r_iinc (q := 57) dX4_copy_54 rfl rfl (by decide) (Lst.setL rfl rfl) ?_
        refine r_iinc (q := 60) dX4_copy_57 rfl rfl (by decide) (Lst.setL rfl rfl) ?_
        refine r_goto (q := 32) dX4_copy_60 (by decide) ?_
        refine RW.drop 8 ?_
        first
          | exact ih (q + 1) (by omega) (by omega) (by omega) (a + 1) (by omega) (by rw [← hr, cntF.eq_def (pCopy σ k k2) a q, if_pos (by omega), if_pos (show hld (pCopy σ k k2) q.toNat = true by assumption)])
          | exact ih (q + 1) (by omega) (by omega) (by omega) a (by omega) (by rw [← hr, cntF.eq_def (pCopy σ k k2) a q, if_pos (by omega), if_neg (by rw [show hld (pCopy σ k k2) q.toNat = false by assumption]; decide)])
  refine r_aload_n (q := 1) dX4_copy_0 rfl rfl ?_
  refine r_iload_n (q := 2) dX4_copy_1 rfl rfl ?_
  refine cX4_1 (My := mX4_slotAt) (q := 5) dX4_copy_2 rfl kX4_98 vX4_slotAt (hG _ _ (by first | rfl | exact hj | exact hi | exact vk2 hk | exact vk2 hk2)) rfl (x4_slotAt hG hk) ⟨by decide, by decide⟩ ⟨by decide, by decide⟩ (Nat.le_of_ble_eq_true rfl) ?_
  refine r_astore_n (q := 6) dX4_copy_5 rfl (by decide) (Lst.setL rfl rfl) ?_
  refine r_aload_n (q := 7) dX4_copy_6 rfl rfl ?_
  refine r_iload_n (q := 8) dX4_copy_7 rfl rfl ?_
  refine cX4_1 (My := mX4_slotAt) (q := 11) dX4_copy_8 rfl kX4_98 vX4_slotAt (hG _ _ (by first | rfl | exact hj | exact hi | exact vk2 hk | exact vk2 hk2)) rfl (x4_slotAt hG hk2) ⟨by decide, by decide⟩ ⟨by decide, by decide⟩ (Nat.le_of_ble_eq_true rfl) ?_
  refine r_aload_n (q := 12) dX4_copy_11 rfl rfl ?_
  refine cX0_1v (My := mX0_takeOver) (q := 15) dX4_copy_12 rfl kX4_121 vX0_takeOver (hG _ _ (by first | rfl | exact hj | exact hi | exact vk2 hk | exact vk2 hk2)) rfl (x0_takeOver hG (vk2 hk2) (vk2 hk) hW) ⟨by decide, by decide⟩ ⟨by decide, by decide⟩ (Nat.le_of_ble_eq_true rfl) ?_
  refine r_iconst (q := 16) dX4_copy_15 rfl ?_
  refine r_istore (q := 18) dX4_copy_16 rfl (by decide) (Lst.setL rfl rfl) ?_
  refine r_aload_n (q := 19) dX4_copy_18 rfl rfl ?_
  refine g_X4_slots (i := 0) (q := 22) dX4_copy_19 rfl fX4_28 (hG _ _ (by first | rfl | exact hj | exact hi | exact vk2 hk | exact vk2 hk2)) ?_
  refine r_astore (q := 24) dX4_copy_22 rfl (by decide) (Lst.setL rfl rfl) ?_
  refine r_aload (q := 26) dX4_copy_24 rfl rfl ?_
  refine r_alen (q := 27) (t0 := 3) (z := 4) rfl rfl rfl dX4_copy_26 rfl (hG _ _ (by first | rfl | exact hj | exact hi | exact vk2 hk | exact vk2 hk2)) ?_
  refine r_istore (q := 29) dX4_copy_27 rfl (by decide) (Lst.setL rfl rfl) ?_
  refine r_iconst (q := 30) dX4_copy_29 rfl ?_
  refine r_istore (q := 32) dX4_copy_30 rfl (by decide) (Lst.setL rfl rfl) ?_
  exact loop 0 (by omega) (by omega) 0 (by omega) rfl
set_option maxRecDepth 100000 in
set_option maxHeartbeats 4000000 in
theorem x4_copy_b1 (hG : Full γ) {k : Int} (hr : -2147483648 ≤ k ∧ k ≤ 2147483647) (hk : k < 0 ∨ 4 ≤ k) {k2 : Int} : Ev γ mX4_copy 8 1 6 [.ref (ga γ 6 0), .int (zI k), .int (zI k2)] σ xs (nR) (thr "java/lang/IndexOutOfBoundsException" σ xs) := by
  refine Ev.of1 6 [some (.ref (ga γ 6 0)), some (.int (zI k)), some (.int (zI k2)), none, none, none, none, none, none] rfl pn_X4_copy rfl (Nat.le_of_ble_eq_true rfl) ?_
  refine r_aload_n (q := 1) dX4_copy_0 rfl rfl ?_
  refine r_iload_n (q := 2) dX4_copy_1 rfl rfl ?_
  refine tX4_1 (My := mX4_slotAt) (q := 5) dX4_copy_2 rfl kX4_98 vX4_slotAt (hG _ _ rfl) rfl (x4_slotAt_b hG (by omega) hk) ⟨by decide, by decide⟩ ⟨by decide, by decide⟩ (Nat.le_of_ble_eq_true rfl) ?_
  exact ⟨rfl, rfl, rfl⟩
set_option maxRecDepth 100000 in
set_option maxHeartbeats 4000000 in
theorem x4_copy_b2 (hG : Full γ) {k : Int} (hk : 0 ≤ k ∧ k < 4) {k2 : Int} (hr2 : -2147483648 ≤ k2 ∧ k2 ≤ 2147483647) (hk2 : k2 < 0 ∨ 4 ≤ k2) : Ev γ mX4_copy 8 1 6 [.ref (ga γ 6 0), .int (zI k), .int (zI k2)] σ xs (nR) (thr "java/lang/IndexOutOfBoundsException" σ xs) := by
  refine Ev.of1 6 [some (.ref (ga γ 6 0)), some (.int (zI k)), some (.int (zI k2)), none, none, none, none, none, none] rfl pn_X4_copy rfl (Nat.le_of_ble_eq_true rfl) ?_
  refine r_aload_n (q := 1) dX4_copy_0 rfl rfl ?_
  refine r_iload_n (q := 2) dX4_copy_1 rfl rfl ?_
  refine cX4_1 (My := mX4_slotAt) (q := 5) dX4_copy_2 rfl kX4_98 vX4_slotAt (hG _ _ (by first | rfl | exact hj | exact hi | exact vk2 hk)) rfl (x4_slotAt hG hk) ⟨by decide, by decide⟩ ⟨by decide, by decide⟩ (Nat.le_of_ble_eq_true rfl) ?_
  refine r_astore_n (q := 6) dX4_copy_5 rfl (by decide) (Lst.setL rfl rfl) ?_
  refine r_aload_n (q := 7) dX4_copy_6 rfl rfl ?_
  refine r_iload_n (q := 8) dX4_copy_7 rfl rfl ?_
  refine tX4_1 (My := mX4_slotAt) (q := 11) dX4_copy_8 rfl kX4_98 vX4_slotAt (hG _ _ (by first | rfl | exact hj | exact hi | exact vk2 hk)) rfl (x4_slotAt_b hG hr2 hk2) ⟨by decide, by decide⟩ ⟨by decide, by decide⟩ (Nat.le_of_ble_eq_true rfl) ?_
  exact ⟨rfl, rfl, rfl⟩
set_option maxRecDepth 100000 in
set_option maxHeartbeats 4000000 in
theorem x4_alike (hG : Full γ) {k : Int} (hk : 0 ≤ k ∧ k < 4) {k2 : Int} (hk2 : 0 ≤ k2 ∧ k2 < 4) (hh : hld σ k.toNat = true) (hh2 : hld σ k2.toNat = true) (hW : Wk σ) : Ev γ mX4_alike 7 0 0 [.ref (ga γ 6 0), .int (zI k), .int (zI k2)] σ xs (rtn (some (.int (zI (pPAs σ k.toNat k2.toNat)))) σ xs) nX := by
  refine Ev.of1 2 [some (.ref (ga γ 6 0)), some (.int (zI k)), some (.int (zI k2)), none, none] rfl pn_X4_alike rfl (Nat.le_of_ble_eq_true rfl) ?_
  refine r_aload_n (q := 1) dX4_alike_0 rfl rfl ?_
  refine r_iload_n (q := 2) dX4_alike_1 rfl rfl ?_
  refine cX4_1 (My := mX4_slotAt) (q := 5) dX4_alike_2 rfl kX4_98 vX4_slotAt (hG _ _ (by first | rfl | exact hj | exact hi | exact vk2 hk | exact vk2 hk2)) rfl (x4_slotAt hG hk) ⟨by decide, by decide⟩ ⟨by decide, by decide⟩ (Nat.le_of_ble_eq_true rfl) ?_
  refine r_astore_n (q := 6) dX4_alike_5 rfl (by decide) (Lst.setL rfl rfl) ?_
  refine r_aload_n (q := 7) dX4_alike_6 rfl rfl ?_
  refine r_iload_n (q := 8) dX4_alike_7 rfl rfl ?_
  refine cX4_1 (My := mX4_slotAt) (q := 11) dX4_alike_8 rfl kX4_98 vX4_slotAt (hG _ _ (by first | rfl | exact hj | exact hi | exact vk2 hk | exact vk2 hk2)) rfl (x4_slotAt hG hk2) ⟨by decide, by decide⟩ ⟨by decide, by decide⟩ (Nat.le_of_ble_eq_true rfl) ?_
  refine r_astore (q := 13) dX4_alike_11 rfl (by decide) (Lst.setL rfl rfl) ?_
  refine r_aload_n (q := 14) dX4_alike_13 rfl rfl ?_
  refine cS_1v (My := mX4_checkHeld) (q := 17) dX4_alike_14 rfl kX4_153 vX4_checkHeld (x4_checkHeld hG (vk2 hk) hh) ⟨by decide, by decide⟩ ⟨by decide, by decide⟩ (Nat.le_of_ble_eq_true rfl) ?_
  refine r_aload (q := 19) dX4_alike_17 rfl rfl ?_
  refine cS_1v (My := mX4_checkHeld) (q := 22) dX4_alike_19 rfl kX4_153 vX4_checkHeld (x4_checkHeld hG (vk2 hk2) hh2) ⟨by decide, by decide⟩ ⟨by decide, by decide⟩ (Nat.le_of_ble_eq_true rfl) ?_
  refine r_aload_n (q := 23) dX4_alike_22 rfl rfl ?_
  refine r_aload (q := 25) dX4_alike_23 rfl rfl ?_
  refine cX0_1 (My := mX0_partsAlike) (q := 28) dX4_alike_25 rfl kX4_174 vX0_partsAlike (hG _ _ (by first | rfl | exact hj | exact hi | exact vk2 hk | exact vk2 hk2)) rfl (x0_partsAlike hG (vk2 hk) (vk2 hk2) hW) ⟨by decide, by decide⟩ ⟨by decide, by decide⟩ (Nat.le_of_ble_eq_true rfl) ?_
  refine r_reti dX4_alike_28 rfl (by decide) (by decide) ?_
  exact ret_i rfl
set_option maxRecDepth 100000 in
set_option maxHeartbeats 4000000 in
theorem x4_alike_b1 (hG : Full γ) {k : Int} (hr : -2147483648 ≤ k ∧ k ≤ 2147483647) (hk : k < 0 ∨ 4 ≤ k) {k2 : Int} : Ev γ mX4_alike 7 1 6 [.ref (ga γ 6 0), .int (zI k), .int (zI k2)] σ xs (nR) (thr "java/lang/IndexOutOfBoundsException" σ xs) := by
  refine Ev.of1 2 [some (.ref (ga γ 6 0)), some (.int (zI k)), some (.int (zI k2)), none, none] rfl pn_X4_alike rfl (Nat.le_of_ble_eq_true rfl) ?_
  refine r_aload_n (q := 1) dX4_alike_0 rfl rfl ?_
  refine r_iload_n (q := 2) dX4_alike_1 rfl rfl ?_
  refine tX4_1 (My := mX4_slotAt) (q := 5) dX4_alike_2 rfl kX4_98 vX4_slotAt (hG _ _ rfl) rfl (x4_slotAt_b hG (by omega) hk) ⟨by decide, by decide⟩ ⟨by decide, by decide⟩ (Nat.le_of_ble_eq_true rfl) ?_
  exact ⟨rfl, rfl, rfl⟩
set_option maxRecDepth 100000 in
set_option maxHeartbeats 4000000 in
theorem x4_alike_b2 (hG : Full γ) {k : Int} (hk : 0 ≤ k ∧ k < 4) {k2 : Int} (hr2 : -2147483648 ≤ k2 ∧ k2 ≤ 2147483647) (hk2 : k2 < 0 ∨ 4 ≤ k2) : Ev γ mX4_alike 7 1 6 [.ref (ga γ 6 0), .int (zI k), .int (zI k2)] σ xs (nR) (thr "java/lang/IndexOutOfBoundsException" σ xs) := by
  refine Ev.of1 2 [some (.ref (ga γ 6 0)), some (.int (zI k)), some (.int (zI k2)), none, none] rfl pn_X4_alike rfl (Nat.le_of_ble_eq_true rfl) ?_
  refine r_aload_n (q := 1) dX4_alike_0 rfl rfl ?_
  refine r_iload_n (q := 2) dX4_alike_1 rfl rfl ?_
  refine cX4_1 (My := mX4_slotAt) (q := 5) dX4_alike_2 rfl kX4_98 vX4_slotAt (hG _ _ (by first | rfl | exact hj | exact hi | exact vk2 hk)) rfl (x4_slotAt hG hk) ⟨by decide, by decide⟩ ⟨by decide, by decide⟩ (Nat.le_of_ble_eq_true rfl) ?_
  refine r_astore_n (q := 6) dX4_alike_5 rfl (by decide) (Lst.setL rfl rfl) ?_
  refine r_aload_n (q := 7) dX4_alike_6 rfl rfl ?_
  refine r_iload_n (q := 8) dX4_alike_7 rfl rfl ?_
  refine tX4_1 (My := mX4_slotAt) (q := 11) dX4_alike_8 rfl kX4_98 vX4_slotAt (hG _ _ (by first | rfl | exact hj | exact hi | exact vk2 hk)) rfl (x4_slotAt_b hG hr2 hk2) ⟨by decide, by decide⟩ ⟨by decide, by decide⟩ (Nat.le_of_ble_eq_true rfl) ?_
  exact ⟨rfl, rfl, rfl⟩
set_option maxRecDepth 100000 in
set_option maxHeartbeats 4000000 in
theorem x4_alike_b3 (hG : Full γ) {k : Int} (hk : 0 ≤ k ∧ k < 4) {k2 : Int} (hk2 : 0 ≤ k2 ∧ k2 < 4) (hh : hld σ k.toNat = false) : Ev γ mX4_alike 7 1 6 [.ref (ga γ 6 0), .int (zI k), .int (zI k2)] σ xs (nR) (thr "java/util/NoSuchElementException" σ xs) := by
  refine Ev.of1 2 [some (.ref (ga γ 6 0)), some (.int (zI k)), some (.int (zI k2)), none, none] rfl pn_X4_alike rfl (Nat.le_of_ble_eq_true rfl) ?_
  refine r_aload_n (q := 1) dX4_alike_0 rfl rfl ?_
  refine r_iload_n (q := 2) dX4_alike_1 rfl rfl ?_
  refine cX4_1 (My := mX4_slotAt) (q := 5) dX4_alike_2 rfl kX4_98 vX4_slotAt (hG _ _ (by first | rfl | exact hj | exact hi | exact vk2 hk | exact vk2 hk2)) rfl (x4_slotAt hG hk) ⟨by decide, by decide⟩ ⟨by decide, by decide⟩ (Nat.le_of_ble_eq_true rfl) ?_
  refine r_astore_n (q := 6) dX4_alike_5 rfl (by decide) (Lst.setL rfl rfl) ?_
  refine r_aload_n (q := 7) dX4_alike_6 rfl rfl ?_
  refine r_iload_n (q := 8) dX4_alike_7 rfl rfl ?_
  refine cX4_1 (My := mX4_slotAt) (q := 11) dX4_alike_8 rfl kX4_98 vX4_slotAt (hG _ _ (by first | rfl | exact hj | exact hi | exact vk2 hk | exact vk2 hk2)) rfl (x4_slotAt hG hk2) ⟨by decide, by decide⟩ ⟨by decide, by decide⟩ (Nat.le_of_ble_eq_true rfl) ?_
  refine r_astore (q := 13) dX4_alike_11 rfl (by decide) (Lst.setL rfl rfl) ?_
  refine r_aload_n (q := 14) dX4_alike_13 rfl rfl ?_
  refine tS_1v (My := mX4_checkHeld) (q := 17) dX4_alike_14 rfl kX4_153 vX4_checkHeld (x4_checkHeld_b hG (vk2 hk) hh) ⟨by decide, by decide⟩ ⟨by decide, by decide⟩ (Nat.le_of_ble_eq_true rfl) ?_
  exact ⟨rfl, rfl, rfl⟩
set_option maxRecDepth 100000 in
set_option maxHeartbeats 4000000 in
theorem x4_alike_b4 (hG : Full γ) {k : Int} (hk : 0 ≤ k ∧ k < 4) {k2 : Int} (hk2 : 0 ≤ k2 ∧ k2 < 4) (hh : hld σ k.toNat = true) (hh2 : hld σ k2.toNat = false) : Ev γ mX4_alike 7 1 6 [.ref (ga γ 6 0), .int (zI k), .int (zI k2)] σ xs (nR) (thr "java/util/NoSuchElementException" σ xs) := by
  refine Ev.of1 2 [some (.ref (ga γ 6 0)), some (.int (zI k)), some (.int (zI k2)), none, none] rfl pn_X4_alike rfl (Nat.le_of_ble_eq_true rfl) ?_
  refine r_aload_n (q := 1) dX4_alike_0 rfl rfl ?_
  refine r_iload_n (q := 2) dX4_alike_1 rfl rfl ?_
  refine cX4_1 (My := mX4_slotAt) (q := 5) dX4_alike_2 rfl kX4_98 vX4_slotAt (hG _ _ (by first | rfl | exact hj | exact hi | exact vk2 hk | exact vk2 hk2)) rfl (x4_slotAt hG hk) ⟨by decide, by decide⟩ ⟨by decide, by decide⟩ (Nat.le_of_ble_eq_true rfl) ?_
  refine r_astore_n (q := 6) dX4_alike_5 rfl (by decide) (Lst.setL rfl rfl) ?_
  refine r_aload_n (q := 7) dX4_alike_6 rfl rfl ?_
  refine r_iload_n (q := 8) dX4_alike_7 rfl rfl ?_
  refine cX4_1 (My := mX4_slotAt) (q := 11) dX4_alike_8 rfl kX4_98 vX4_slotAt (hG _ _ (by first | rfl | exact hj | exact hi | exact vk2 hk | exact vk2 hk2)) rfl (x4_slotAt hG hk2) ⟨by decide, by decide⟩ ⟨by decide, by decide⟩ (Nat.le_of_ble_eq_true rfl) ?_
  refine r_astore (q := 13) dX4_alike_11 rfl (by decide) (Lst.setL rfl rfl) ?_
  refine r_aload_n (q := 14) dX4_alike_13 rfl rfl ?_
  refine cS_1v (My := mX4_checkHeld) (q := 17) dX4_alike_14 rfl kX4_153 vX4_checkHeld (x4_checkHeld hG (vk2 hk) hh) ⟨by decide, by decide⟩ ⟨by decide, by decide⟩ (Nat.le_of_ble_eq_true rfl) ?_
  refine r_aload (q := 19) dX4_alike_17 rfl rfl ?_
  refine tS_1v (My := mX4_checkHeld) (q := 22) dX4_alike_19 rfl kX4_153 vX4_checkHeld (x4_checkHeld_b hG (vk2 hk2) hh2) ⟨by decide, by decide⟩ ⟨by decide, by decide⟩ (Nat.le_of_ble_eq_true rfl) ?_
  exact ⟨rfl, rfl, rfl⟩
set_option maxRecDepth 100000 in
set_option maxHeartbeats 4000000 in
theorem x4_together (hG : Full γ) {k : Int} (hk : 0 ≤ k ∧ k < 4) (hh : hld σ k.toNat = true) (hW : Wk σ) : Ev γ mX4_together 8 0 0 [.ref (ga γ 6 0), .int (zI k)] σ xs (rtn (some (.int (zI (bI (pIsW (pTog σ k) k.toNat 5))))) (pTog σ k) xs) nX := by
  refine Ev.of1 1 [some (.ref (ga γ 6 0)), some (.int (zI k)), none] rfl pn_X4_together rfl (Nat.le_of_ble_eq_true rfl) ?_
  refine r_aload_n (q := 1) dX4_together_0 rfl rfl ?_
  refine r_iload_n (q := 2) dX4_together_1 rfl rfl ?_
  refine cX4_1 (My := mX4_addressAt) (q := 5) dX4_together_2 rfl kX4_139 vX4_addressAt (hG _ _ (by first | rfl | exact hj | exact hi | exact vk2 hk)) rfl (x4_addressAt hG hk hh) ⟨by decide, by decide⟩ ⟨by decide, by decide⟩ (Nat.le_of_ble_eq_true rfl) ?_
  refine r_astore_n (q := 6) dX4_together_5 rfl (by decide) (Lst.setL rfl rfl) ?_
  refine r_aload_n (q := 7) dX4_together_6 rfl rfl ?_
  refine r_aload_n (q := 8) dX4_together_7 rfl rfl ?_
  refine r_aload_n (q := 9) dX4_together_8 rfl rfl ?_
  refine r_iconst (q := 10) dX4_together_9 rfl ?_
  refine cX4_3v (My := mX4_weave) (q := 13) dX4_together_10 rfl kX4_178 vX4_weave (hG _ _ (by first | rfl | exact hj | exact hi | exact vk2 hk)) rfl (x4_weave hG (vk2 hk) (vk2 hk) hW (by decide)) ⟨by decide, by decide⟩ ⟨by decide, by decide⟩ (Nat.le_of_ble_eq_true rfl) ?_
  refine r_aload_n (q := 14) dX4_together_13 rfl rfl ?_
  refine g_X4_text (i := 0) (q := 17) dX4_together_14 rfl fX4_10 (hG _ _ (by first | rfl | exact hj | exact hi | exact vk2 hk)) ?_
  refine r_aload_n (q := 18) dX4_together_17 rfl rfl ?_
  refine g_X4_loom (i := 0) (q := 21) dX4_together_18 rfl fX4_16 (hG _ _ (by first | rfl | exact hj | exact hi | exact vk2 hk)) ?_
  refine cX3_1v (My := mX3_takeOver) (q := 24) dX4_together_21 rfl kX4_182 vX3_takeOver (hG _ _ (by first | rfl | exact hj | exact hi | exact vk2 hk)) rfl (x3_takeOver hG rfl rfl (pWv_ok hW _ _ _).1) ⟨by decide, by decide⟩ ⟨by decide, by decide⟩ (Nat.le_of_ble_eq_true rfl) ?_
  refine r_aload_n (q := 25) dX4_together_24 rfl rfl ?_
  refine r_aload_n (q := 26) dX4_together_25 rfl rfl ?_
  refine g_X4_text (i := 0) (q := 29) dX4_together_26 rfl fX4_10 (hG _ _ (by first | rfl | exact hj | exact hi | exact vk2 hk)) ?_
  refine cX0_1 (My := mX0_isWhole) (q := 32) dX4_together_29 rfl kX4_185 vX0_isWhole (hG _ _ (by first | rfl | exact hj | exact hi | exact vk2 hk)) rfl (x0_isWhole hG (vk2 hk) rfl (Wk_tak 0 (by omega) (pWv_ok hW _ _ _).1)) ⟨by decide, by decide⟩ ⟨by decide, by decide⟩ (Nat.le_of_ble_eq_true rfl) ?_
  refine r_retz dX4_together_32 rfl (narB _) (by decide) (by decide) ?_
  exact ret_is rfl rfl
set_option maxRecDepth 100000 in
set_option maxHeartbeats 4000000 in
theorem x4_together_b1 (hG : Full γ) {k : Int} (hr : -2147483648 ≤ k ∧ k ≤ 2147483647) (hk : k < 0 ∨ 4 ≤ k) : Ev γ mX4_together 8 1 6 [.ref (ga γ 6 0), .int (zI k)] σ xs (nR) (thr "java/lang/IndexOutOfBoundsException" σ xs) := by
  refine Ev.of1 1 [some (.ref (ga γ 6 0)), some (.int (zI k)), none] rfl pn_X4_together rfl (Nat.le_of_ble_eq_true rfl) ?_
  refine r_aload_n (q := 1) dX4_together_0 rfl rfl ?_
  refine r_iload_n (q := 2) dX4_together_1 rfl rfl ?_
  refine tX4_1 (My := mX4_addressAt) (q := 5) dX4_together_2 rfl kX4_139 vX4_addressAt (hG _ _ rfl) rfl (x4_addressAt_b1 hG hr hk) ⟨by decide, by decide⟩ ⟨by decide, by decide⟩ (Nat.le_of_ble_eq_true rfl) ?_
  exact ⟨rfl, rfl, rfl⟩
set_option maxRecDepth 100000 in
set_option maxHeartbeats 4000000 in
theorem x4_together_b2 (hG : Full γ) {k : Int} (hk : 0 ≤ k ∧ k < 4) (hh : hld σ k.toNat = false) : Ev γ mX4_together 8 1 6 [.ref (ga γ 6 0), .int (zI k)] σ xs (nR) (thr "java/util/NoSuchElementException" σ xs) := by
  refine Ev.of1 1 [some (.ref (ga γ 6 0)), some (.int (zI k)), none] rfl pn_X4_together rfl (Nat.le_of_ble_eq_true rfl) ?_
  refine r_aload_n (q := 1) dX4_together_0 rfl rfl ?_
  refine r_iload_n (q := 2) dX4_together_1 rfl rfl ?_
  refine tX4_1 (My := mX4_addressAt) (q := 5) dX4_together_2 rfl kX4_139 vX4_addressAt (hG _ _ rfl) rfl (x4_addressAt_b2 hG hk hh) ⟨by decide, by decide⟩ ⟨by decide, by decide⟩ (Nat.le_of_ble_eq_true rfl) ?_
  exact ⟨rfl, rfl, rfl⟩
set_option maxRecDepth 100000 in
set_option maxHeartbeats 4000000 in
theorem x4_mix (hG : Full γ) {k : Int} (hk : 0 ≤ k ∧ k < 4) {k2 : Int} (hk2 : 0 ≤ k2 ∧ k2 < 4) {c : Int} (hc : 0 ≤ c ∧ c < 65536) (hh : hld σ k.toNat = true) (hh2 : hld σ k2.toNat = true) (hW : Wk σ) (h0 : 0 ≤ ixO (tS 55) c) (hp : pHas σ k.toNat 5 = true) (hp2 : pHas σ k2.toNat 5 = true) (hn : cnt (pMixW σ k k2 c) 6 ≤ 60) : Ev γ mX4_mix 8 0 0 [.ref (ga γ 6 0), .int (zI k), .int (zI k2), .int (zI c)] σ xs (rtn (some (.int (zI (cnt (pMix σ k k2 c) 5)))) (pMix σ k k2 c) xs) nX := by
  refine Ev.of1 2 [some (.ref (ga γ 6 0)), some (.int (zI k)), some (.int (zI k2)), some (.int (zI c)), none, none] rfl pn_X4_mix rfl (Nat.le_of_ble_eq_true rfl) ?_
  have hWm : Wk (pMixW σ k k2 c) := (pWv_ok hW _ _ _).1
  have hc6 := hWm.1 6
  have hc6b : cnt (pWv σ k.toNat k2.toNat (ixO (tS 51) c)) 6 = cnt (pMixW σ k k2 c) 6 := rfl
  refine r_aload_n (q := 1) dX4_mix_0 rfl rfl ?_
  refine r_iload_n (q := 2) dX4_mix_1 rfl rfl ?_
  refine cX4_1 (My := mX4_slotAt) (q := 5) dX4_mix_2 rfl kX4_98 vX4_slotAt (hG _ _ (by first | rfl | exact hj | exact hi | exact vk2 hk | exact vk2 hk2)) rfl (x4_slotAt hG hk) ⟨by decide, by decide⟩ ⟨by decide, by decide⟩ (Nat.le_of_ble_eq_true rfl) ?_
  refine r_astore (q := 7) dX4_mix_5 rfl (by decide) (Lst.setL rfl rfl) ?_
  refine r_aload_n (q := 8) dX4_mix_7 rfl rfl ?_
  refine r_iload_n (q := 9) dX4_mix_8 rfl rfl ?_
  refine cX4_1 (My := mX4_slotAt) (q := 12) dX4_mix_9 rfl kX4_98 vX4_slotAt (hG _ _ (by first | rfl | exact hj | exact hi | exact vk2 hk | exact vk2 hk2)) rfl (x4_slotAt hG hk2) ⟨by decide, by decide⟩ ⟨by decide, by decide⟩ (Nat.le_of_ble_eq_true rfl) ?_
  refine r_astore (q := 14) dX4_mix_12 rfl (by decide) (Lst.setL rfl rfl) ?_
  refine r_aload (q := 16) dX4_mix_14 rfl rfl ?_
  refine cS_1v (My := mX4_checkHeld) (q := 19) dX4_mix_16 rfl kX4_153 vX4_checkHeld (x4_checkHeld hG (vk2 hk) hh) ⟨by decide, by decide⟩ ⟨by decide, by decide⟩ (Nat.le_of_ble_eq_true rfl) ?_
  refine r_aload (q := 21) dX4_mix_19 rfl rfl ?_
  refine cS_1v (My := mX4_checkHeld) (q := 24) dX4_mix_21 rfl kX4_153 vX4_checkHeld (x4_checkHeld hG (vk2 hk2) hh2) ⟨by decide, by decide⟩ ⟨by decide, by decide⟩ (Nat.le_of_ble_eq_true rfl) ?_
  refine r_ldcS (i := 55) (tx := "sapqf") (q := 26) dX4_mix_24 rfl (List.mem_of_getElem? (i := 60) rfl) ?_
  refine r_iload_n (q := 27) dX4_mix_26 rfl rfl ?_
  refine cT_1 (My := mJ0_indexOf_0f7a4) (q := 30) dX4_mix_27 rfl kX4_35 vJ0_indexOf_0f7a4 (by decide) rfl (j_indexOf (by decide) (by omega)) ⟨by decide, by decide⟩ ⟨by decide, by decide⟩ (Nat.le_of_ble_eq_true rfl) ?_
  refine r_if_ge (q := 33) (tgt := 43) dX4_mix_30 rfl (by decide) (by first | omega | exact ixO_r (by decide) _) (fun h30 => ?_) (fun h30 => ?_)
  · refine r_aload (q := 45) dX4_mix_43 rfl rfl ?_
    refine r_iconst (q := 46) dX4_mix_45 rfl ?_
    refine cX0_1 (My := mX0_has) (q := 49) dX4_mix_46 rfl kX4_142 vX0_has (hG _ _ (by first | rfl | exact hj | exact hi | exact vk2 hk | exact vk2 hk2)) rfl (x0_has hG (vk2 hk) hW (by decide)) ⟨by decide, by decide⟩ ⟨by decide, by decide⟩ (Nat.le_of_ble_eq_true rfl) ?_
    refine r_ifB_eq (q := 52) (tgt := 61) dX4_mix_49 rfl (by decide) (fun h49 => ?_) (fun h49 => ?_)
    · first   | (rw [hp] at h49; exact absurd h49 (by decide))   | (rw [hp2] at h58; exact absurd h58 (by decide))
    · refine r_aload (q := 54) dX4_mix_52 rfl rfl ?_
      refine r_iconst (q := 55) dX4_mix_54 rfl ?_
      refine cX0_1 (My := mX0_has) (q := 58) dX4_mix_55 rfl kX4_142 vX0_has (hG _ _ (by first | rfl | exact hj | exact hi | exact vk2 hk | exact vk2 hk2)) rfl (x0_has hG (vk2 hk2) hW (by decide)) ⟨by decide, by decide⟩ ⟨by decide, by decide⟩ (Nat.le_of_ble_eq_true rfl) ?_
      refine r_ifB_ne (q := 61) (tgt := 71) dX4_mix_58 rfl (by decide) (fun h58 => ?_) (fun h58 => ?_)
      · refine r_aload_n (q := 72) dX4_mix_71 rfl rfl ?_
        refine r_aload (q := 74) dX4_mix_72 rfl rfl ?_
        refine r_aload (q := 76) dX4_mix_74 rfl rfl ?_
        refine r_ldcS (i := 51) (tx := "smauhpqfw") (q := 78) dX4_mix_76 rfl (List.mem_of_getElem? (i := 56) rfl) ?_
        refine r_iload_n (q := 79) dX4_mix_78 rfl rfl ?_
        refine cT_1 (My := mJ0_indexOf_0f7a4) (q := 82) dX4_mix_79 rfl kX4_35 vJ0_indexOf_0f7a4 (by decide) rfl (j_indexOf (by decide) (by omega)) ⟨by decide, by decide⟩ ⟨by decide, by decide⟩ (Nat.le_of_ble_eq_true rfl) ?_
        refine cX4_3v (My := mX4_weave) (q := 85) dX4_mix_82 rfl kX4_178 vX4_weave (hG _ _ (by first | rfl | exact hj | exact hi | exact vk2 hk | exact vk2 hk2)) rfl (x4_weave hG (vk2 hk) (vk2 hk2) hW (ixO_r (by decide) _)) ⟨by decide, by decide⟩ ⟨by decide, by decide⟩ (Nat.le_of_ble_eq_true rfl) ?_
        refine r_aload_n (q := 86) dX4_mix_85 rfl rfl ?_
        refine g_X4_loom (i := 0) (q := 89) dX4_mix_86 rfl fX4_16 (hG _ _ (by first | rfl | exact hj | exact hi | exact vk2 hk | exact vk2 hk2)) ?_
        refine cX3_0 (My := mX3_count) (q := 92) dX4_mix_89 rfl kX4_56 vX3_count (hG _ _ (by first | rfl | exact hj | exact hi | exact vk2 hk | exact vk2 hk2)) rfl (x3_count hG rfl) ⟨by decide, by decide⟩ ⟨by decide, by decide⟩ (Nat.le_of_ble_eq_true rfl) ?_
        refine r_bipush (q := 94) dX4_mix_92 rfl (bip (by decide) (by decide)) ?_
        refine r_icmp_le (q := 97) (tgt := 107) dX4_mix_94 rfl (by decide) (by first | omega | exact ixO_r (by decide) _) (by first | omega | exact ixO_r (by decide) _) (fun h94 => ?_) (fun h94 => ?_)
        · refine r_aload_n (q := 108) dX4_mix_107 rfl rfl ?_
          refine g_X4_text (i := 0) (q := 111) dX4_mix_108 rfl fX4_10 (hG _ _ (by first | rfl | exact hj | exact hi | exact vk2 hk | exact vk2 hk2)) ?_
          refine r_aload_n (q := 112) dX4_mix_111 rfl rfl ?_
          refine g_X4_loom (i := 0) (q := 115) dX4_mix_112 rfl fX4_16 (hG _ _ (by first | rfl | exact hj | exact hi | exact vk2 hk | exact vk2 hk2)) ?_
          refine cX3_1v (My := mX3_takeOver) (q := 118) dX4_mix_115 rfl kX4_182 vX3_takeOver (hG _ _ (by first | rfl | exact hj | exact hi | exact vk2 hk | exact vk2 hk2)) rfl (x3_takeOver hG rfl rfl hWm) ⟨by decide, by decide⟩ ⟨by decide, by decide⟩ (Nat.le_of_ble_eq_true rfl) ?_
          refine r_aload_n (q := 119) dX4_mix_118 rfl rfl ?_
          refine g_X4_text (i := 0) (q := 122) dX4_mix_119 rfl fX4_10 (hG _ _ (by first | rfl | exact hj | exact hi | exact vk2 hk | exact vk2 hk2)) ?_
          refine cX3_0 (My := mX3_count) (q := 125) dX4_mix_122 rfl kX4_56 vX3_count (hG _ _ (by first | rfl | exact hj | exact hi | exact vk2 hk | exact vk2 hk2)) rfl (x3_count hG rfl) ⟨by decide, by decide⟩ ⟨by decide, by decide⟩ (Nat.le_of_ble_eq_true rfl) ?_
          refine r_reti dX4_mix_125 rfl (by decide) (by decide) ?_
          exact ret_is rfl rfl
        · exfalso; omega
      · first   | (rw [hp] at h49; exact absurd h49 (by decide))   | (rw [hp2] at h58; exact absurd h58 (by decide))
  · exfalso; omega
set_option maxRecDepth 100000 in
set_option maxHeartbeats 4000000 in
theorem x4_mix_b1 (hG : Full γ) {k : Int} (hr : -2147483648 ≤ k ∧ k ≤ 2147483647) (hk : k < 0 ∨ 4 ≤ k) {k2 c : Int} : Ev γ mX4_mix 8 1 6 [.ref (ga γ 6 0), .int (zI k), .int (zI k2), .int (zI c)] σ xs (nR) (thr "java/lang/IndexOutOfBoundsException" σ xs) := by
  refine Ev.of1 2 [some (.ref (ga γ 6 0)), some (.int (zI k)), some (.int (zI k2)), some (.int (zI c)), none, none] rfl pn_X4_mix rfl (Nat.le_of_ble_eq_true rfl) ?_
  refine r_aload_n (q := 1) dX4_mix_0 rfl rfl ?_
  refine r_iload_n (q := 2) dX4_mix_1 rfl rfl ?_
  refine tX4_1 (My := mX4_slotAt) (q := 5) dX4_mix_2 rfl kX4_98 vX4_slotAt (hG _ _ rfl) rfl (x4_slotAt_b hG (by omega) hk) ⟨by decide, by decide⟩ ⟨by decide, by decide⟩ (Nat.le_of_ble_eq_true rfl) ?_
  exact ⟨rfl, rfl, rfl⟩
set_option maxRecDepth 100000 in
set_option maxHeartbeats 4000000 in
theorem x4_mix_b2 (hG : Full γ) {k : Int} (hk : 0 ≤ k ∧ k < 4) {k2 : Int} (hr2 : -2147483648 ≤ k2 ∧ k2 ≤ 2147483647) (hk2 : k2 < 0 ∨ 4 ≤ k2) {c : Int} : Ev γ mX4_mix 8 1 6 [.ref (ga γ 6 0), .int (zI k), .int (zI k2), .int (zI c)] σ xs (nR) (thr "java/lang/IndexOutOfBoundsException" σ xs) := by
  refine Ev.of1 2 [some (.ref (ga γ 6 0)), some (.int (zI k)), some (.int (zI k2)), some (.int (zI c)), none, none] rfl pn_X4_mix rfl (Nat.le_of_ble_eq_true rfl) ?_
  refine r_aload_n (q := 1) dX4_mix_0 rfl rfl ?_
  refine r_iload_n (q := 2) dX4_mix_1 rfl rfl ?_
  refine cX4_1 (My := mX4_slotAt) (q := 5) dX4_mix_2 rfl kX4_98 vX4_slotAt (hG _ _ (by first | rfl | exact hj | exact hi | exact vk2 hk)) rfl (x4_slotAt hG hk) ⟨by decide, by decide⟩ ⟨by decide, by decide⟩ (Nat.le_of_ble_eq_true rfl) ?_
  refine r_astore (q := 7) dX4_mix_5 rfl (by decide) (Lst.setL rfl rfl) ?_
  refine r_aload_n (q := 8) dX4_mix_7 rfl rfl ?_
  refine r_iload_n (q := 9) dX4_mix_8 rfl rfl ?_
  refine tX4_1 (My := mX4_slotAt) (q := 12) dX4_mix_9 rfl kX4_98 vX4_slotAt (hG _ _ (by first | rfl | exact hj | exact hi | exact vk2 hk)) rfl (x4_slotAt_b hG hr2 hk2) ⟨by decide, by decide⟩ ⟨by decide, by decide⟩ (Nat.le_of_ble_eq_true rfl) ?_
  exact ⟨rfl, rfl, rfl⟩
set_option maxRecDepth 100000 in
set_option maxHeartbeats 4000000 in
theorem x4_mix_b3 (hG : Full γ) {k : Int} (hk : 0 ≤ k ∧ k < 4) {k2 : Int} (hk2 : 0 ≤ k2 ∧ k2 < 4) (hh : hld σ k.toNat = false) {c : Int} : Ev γ mX4_mix 8 1 6 [.ref (ga γ 6 0), .int (zI k), .int (zI k2), .int (zI c)] σ xs (nR) (thr "java/util/NoSuchElementException" σ xs) := by
  refine Ev.of1 2 [some (.ref (ga γ 6 0)), some (.int (zI k)), some (.int (zI k2)), some (.int (zI c)), none, none] rfl pn_X4_mix rfl (Nat.le_of_ble_eq_true rfl) ?_
  refine r_aload_n (q := 1) dX4_mix_0 rfl rfl ?_
  refine r_iload_n (q := 2) dX4_mix_1 rfl rfl ?_
  refine cX4_1 (My := mX4_slotAt) (q := 5) dX4_mix_2 rfl kX4_98 vX4_slotAt (hG _ _ (by first | rfl | exact hj | exact hi | exact vk2 hk | exact vk2 hk2)) rfl (x4_slotAt hG hk) ⟨by decide, by decide⟩ ⟨by decide, by decide⟩ (Nat.le_of_ble_eq_true rfl) ?_
  refine r_astore (q := 7) dX4_mix_5 rfl (by decide) (Lst.setL rfl rfl) ?_
  refine r_aload_n (q := 8) dX4_mix_7 rfl rfl ?_
  refine r_iload_n (q := 9) dX4_mix_8 rfl rfl ?_
  refine cX4_1 (My := mX4_slotAt) (q := 12) dX4_mix_9 rfl kX4_98 vX4_slotAt (hG _ _ (by first | rfl | exact hj | exact hi | exact vk2 hk | exact vk2 hk2)) rfl (x4_slotAt hG hk2) ⟨by decide, by decide⟩ ⟨by decide, by decide⟩ (Nat.le_of_ble_eq_true rfl) ?_
  refine r_astore (q := 14) dX4_mix_12 rfl (by decide) (Lst.setL rfl rfl) ?_
  refine r_aload (q := 16) dX4_mix_14 rfl rfl ?_
  refine tS_1v (My := mX4_checkHeld) (q := 19) dX4_mix_16 rfl kX4_153 vX4_checkHeld (x4_checkHeld_b hG (vk2 hk) hh) ⟨by decide, by decide⟩ ⟨by decide, by decide⟩ (Nat.le_of_ble_eq_true rfl) ?_
  exact ⟨rfl, rfl, rfl⟩
set_option maxRecDepth 100000 in
set_option maxHeartbeats 4000000 in
theorem x4_mix_b4 (hG : Full γ) {k : Int} (hk : 0 ≤ k ∧ k < 4) {k2 : Int} (hk2 : 0 ≤ k2 ∧ k2 < 4) (hh : hld σ k.toNat = true) (hh2 : hld σ k2.toNat = false) {c : Int} : Ev γ mX4_mix 8 1 6 [.ref (ga γ 6 0), .int (zI k), .int (zI k2), .int (zI c)] σ xs (nR) (thr "java/util/NoSuchElementException" σ xs) := by
  refine Ev.of1 2 [some (.ref (ga γ 6 0)), some (.int (zI k)), some (.int (zI k2)), some (.int (zI c)), none, none] rfl pn_X4_mix rfl (Nat.le_of_ble_eq_true rfl) ?_
  refine r_aload_n (q := 1) dX4_mix_0 rfl rfl ?_
  refine r_iload_n (q := 2) dX4_mix_1 rfl rfl ?_
  refine cX4_1 (My := mX4_slotAt) (q := 5) dX4_mix_2 rfl kX4_98 vX4_slotAt (hG _ _ (by first | rfl | exact hj | exact hi | exact vk2 hk | exact vk2 hk2)) rfl (x4_slotAt hG hk) ⟨by decide, by decide⟩ ⟨by decide, by decide⟩ (Nat.le_of_ble_eq_true rfl) ?_
  refine r_astore (q := 7) dX4_mix_5 rfl (by decide) (Lst.setL rfl rfl) ?_
  refine r_aload_n (q := 8) dX4_mix_7 rfl rfl ?_
  refine r_iload_n (q := 9) dX4_mix_8 rfl rfl ?_
  refine cX4_1 (My := mX4_slotAt) (q := 12) dX4_mix_9 rfl kX4_98 vX4_slotAt (hG _ _ (by first | rfl | exact hj | exact hi | exact vk2 hk | exact vk2 hk2)) rfl (x4_slotAt hG hk2) ⟨by decide, by decide⟩ ⟨by decide, by decide⟩ (Nat.le_of_ble_eq_true rfl) ?_
  refine r_astore (q := 14) dX4_mix_12 rfl (by decide) (Lst.setL rfl rfl) ?_
  refine r_aload (q := 16) dX4_mix_14 rfl rfl ?_
  refine cS_1v (My := mX4_checkHeld) (q := 19) dX4_mix_16 rfl kX4_153 vX4_checkHeld (x4_checkHeld hG (vk2 hk) hh) ⟨by decide, by decide⟩ ⟨by decide, by decide⟩ (Nat.le_of_ble_eq_true rfl) ?_
  refine r_aload (q := 21) dX4_mix_19 rfl rfl ?_
  refine tS_1v (My := mX4_checkHeld) (q := 24) dX4_mix_21 rfl kX4_153 vX4_checkHeld (x4_checkHeld_b hG (vk2 hk2) hh2) ⟨by decide, by decide⟩ ⟨by decide, by decide⟩ (Nat.le_of_ble_eq_true rfl) ?_
  exact ⟨rfl, rfl, rfl⟩
set_option maxRecDepth 100000 in
set_option maxHeartbeats 4000000 in
theorem x4_mix_b5 (hG : Full γ) {k : Int} (hk : 0 ≤ k ∧ k < 4) {k2 : Int} (hk2 : 0 ≤ k2 ∧ k2 < 4) {c : Int} (hc : 0 ≤ c ∧ c < 65536) (hh : hld σ k.toNat = true) (hh2 : hld σ k2.toNat = true) (h0 : ixO (tS 55) c < 0) : Ev γ mX4_mix 8 1 6 [.ref (ga γ 6 0), .int (zI k), .int (zI k2), .int (zI c)] σ xs (nR) (thr "java/lang/IllegalArgumentException" σ xs) := by
  refine Ev.of1 2 [some (.ref (ga γ 6 0)), some (.int (zI k)), some (.int (zI k2)), some (.int (zI c)), none, none] rfl pn_X4_mix rfl (Nat.le_of_ble_eq_true rfl) ?_
  refine r_aload_n (q := 1) dX4_mix_0 rfl rfl ?_
  refine r_iload_n (q := 2) dX4_mix_1 rfl rfl ?_
  refine cX4_1 (My := mX4_slotAt) (q := 5) dX4_mix_2 rfl kX4_98 vX4_slotAt (hG _ _ (by first | rfl | exact hj | exact hi | exact vk2 hk | exact vk2 hk2)) rfl (x4_slotAt hG hk) ⟨by decide, by decide⟩ ⟨by decide, by decide⟩ (Nat.le_of_ble_eq_true rfl) ?_
  refine r_astore (q := 7) dX4_mix_5 rfl (by decide) (Lst.setL rfl rfl) ?_
  refine r_aload_n (q := 8) dX4_mix_7 rfl rfl ?_
  refine r_iload_n (q := 9) dX4_mix_8 rfl rfl ?_
  refine cX4_1 (My := mX4_slotAt) (q := 12) dX4_mix_9 rfl kX4_98 vX4_slotAt (hG _ _ (by first | rfl | exact hj | exact hi | exact vk2 hk | exact vk2 hk2)) rfl (x4_slotAt hG hk2) ⟨by decide, by decide⟩ ⟨by decide, by decide⟩ (Nat.le_of_ble_eq_true rfl) ?_
  refine r_astore (q := 14) dX4_mix_12 rfl (by decide) (Lst.setL rfl rfl) ?_
  refine r_aload (q := 16) dX4_mix_14 rfl rfl ?_
  refine cS_1v (My := mX4_checkHeld) (q := 19) dX4_mix_16 rfl kX4_153 vX4_checkHeld (x4_checkHeld hG (vk2 hk) hh) ⟨by decide, by decide⟩ ⟨by decide, by decide⟩ (Nat.le_of_ble_eq_true rfl) ?_
  refine r_aload (q := 21) dX4_mix_19 rfl rfl ?_
  refine cS_1v (My := mX4_checkHeld) (q := 24) dX4_mix_21 rfl kX4_153 vX4_checkHeld (x4_checkHeld hG (vk2 hk2) hh2) ⟨by decide, by decide⟩ ⟨by decide, by decide⟩ (Nat.le_of_ble_eq_true rfl) ?_
  refine r_ldcS (i := 55) (tx := "sapqf") (q := 26) dX4_mix_24 rfl (List.mem_of_getElem? (i := 60) rfl) ?_
  refine r_iload_n (q := 27) dX4_mix_26 rfl rfl ?_
  refine cT_1 (My := mJ0_indexOf_0f7a4) (q := 30) dX4_mix_27 rfl kX4_35 vJ0_indexOf_0f7a4 (by decide) rfl (j_indexOf (by decide) (by omega)) ⟨by decide, by decide⟩ ⟨by decide, by decide⟩ (Nat.le_of_ble_eq_true rfl) ?_
  refine r_if_ge (q := 33) (tgt := 43) dX4_mix_30 rfl (by decide) (by first | omega | exact ixO_r (by decide) _) (fun h30 => ?_) (fun h30 => ?_)
  · exfalso; omega
  · refine r_throw (i := 56) (tx := "no part that can be mixed") dX4_mix_33 dX4_mix_36 dX4_mix_37 dX4_mix_39 dX4_mix_42 (by decide) (List.mem_of_getElem? (i := 61) rfl) tw_45 (by decide) (by decide) (by decide) (Nat.le_of_ble_eq_true rfl) ?_
    exact ⟨rfl, rfl, rfl⟩
set_option maxRecDepth 100000 in
set_option maxHeartbeats 4000000 in
theorem x4_mix_b6 (hG : Full γ) {k : Int} (hk : 0 ≤ k ∧ k < 4) {k2 : Int} (hk2 : 0 ≤ k2 ∧ k2 < 4) {c : Int} (hc : 0 ≤ c ∧ c < 65536) (hh : hld σ k.toNat = true) (hh2 : hld σ k2.toNat = true) (hW : Wk σ) (h0 : 0 ≤ ixO (tS 55) c) (hp : pHas σ k.toNat 5 = false) : Ev γ mX4_mix 8 1 6 [.ref (ga γ 6 0), .int (zI k), .int (zI k2), .int (zI c)] σ xs (nR) (thr "java/lang/UnsupportedOperationException" σ xs) := by
  refine Ev.of1 2 [some (.ref (ga γ 6 0)), some (.int (zI k)), some (.int (zI k2)), some (.int (zI c)), none, none] rfl pn_X4_mix rfl (Nat.le_of_ble_eq_true rfl) ?_
  refine r_aload_n (q := 1) dX4_mix_0 rfl rfl ?_
  refine r_iload_n (q := 2) dX4_mix_1 rfl rfl ?_
  refine cX4_1 (My := mX4_slotAt) (q := 5) dX4_mix_2 rfl kX4_98 vX4_slotAt (hG _ _ (by first | rfl | exact hj | exact hi | exact vk2 hk | exact vk2 hk2)) rfl (x4_slotAt hG hk) ⟨by decide, by decide⟩ ⟨by decide, by decide⟩ (Nat.le_of_ble_eq_true rfl) ?_
  refine r_astore (q := 7) dX4_mix_5 rfl (by decide) (Lst.setL rfl rfl) ?_
  refine r_aload_n (q := 8) dX4_mix_7 rfl rfl ?_
  refine r_iload_n (q := 9) dX4_mix_8 rfl rfl ?_
  refine cX4_1 (My := mX4_slotAt) (q := 12) dX4_mix_9 rfl kX4_98 vX4_slotAt (hG _ _ (by first | rfl | exact hj | exact hi | exact vk2 hk | exact vk2 hk2)) rfl (x4_slotAt hG hk2) ⟨by decide, by decide⟩ ⟨by decide, by decide⟩ (Nat.le_of_ble_eq_true rfl) ?_
  refine r_astore (q := 14) dX4_mix_12 rfl (by decide) (Lst.setL rfl rfl) ?_
  refine r_aload (q := 16) dX4_mix_14 rfl rfl ?_
  refine cS_1v (My := mX4_checkHeld) (q := 19) dX4_mix_16 rfl kX4_153 vX4_checkHeld (x4_checkHeld hG (vk2 hk) hh) ⟨by decide, by decide⟩ ⟨by decide, by decide⟩ (Nat.le_of_ble_eq_true rfl) ?_
  refine r_aload (q := 21) dX4_mix_19 rfl rfl ?_
  refine cS_1v (My := mX4_checkHeld) (q := 24) dX4_mix_21 rfl kX4_153 vX4_checkHeld (x4_checkHeld hG (vk2 hk2) hh2) ⟨by decide, by decide⟩ ⟨by decide, by decide⟩ (Nat.le_of_ble_eq_true rfl) ?_
  refine r_ldcS (i := 55) (tx := "sapqf") (q := 26) dX4_mix_24 rfl (List.mem_of_getElem? (i := 60) rfl) ?_
  refine r_iload_n (q := 27) dX4_mix_26 rfl rfl ?_
  refine cT_1 (My := mJ0_indexOf_0f7a4) (q := 30) dX4_mix_27 rfl kX4_35 vJ0_indexOf_0f7a4 (by decide) rfl (j_indexOf (by decide) (by omega)) ⟨by decide, by decide⟩ ⟨by decide, by decide⟩ (Nat.le_of_ble_eq_true rfl) ?_
  refine r_if_ge (q := 33) (tgt := 43) dX4_mix_30 rfl (by decide) (by first | omega | exact ixO_r (by decide) _) (fun h30 => ?_) (fun h30 => ?_)
  · refine r_aload (q := 45) dX4_mix_43 rfl rfl ?_
    refine r_iconst (q := 46) dX4_mix_45 rfl ?_
    refine cX0_1 (My := mX0_has) (q := 49) dX4_mix_46 rfl kX4_142 vX0_has (hG _ _ (by first | rfl | exact hj | exact hi | exact vk2 hk | exact vk2 hk2)) rfl (x0_has hG (vk2 hk) hW (by decide)) ⟨by decide, by decide⟩ ⟨by decide, by decide⟩ (Nat.le_of_ble_eq_true rfl) ?_
    refine r_ifB_eq (q := 52) (tgt := 61) dX4_mix_49 rfl (by decide) (fun h49 => ?_) (fun h49 => ?_)
    · refine r_throw (i := 57) (tx := "an opaque address") dX4_mix_61 dX4_mix_64 dX4_mix_65 dX4_mix_67 dX4_mix_70 (by decide) (List.mem_of_getElem? (i := 62) rfl) tw_196 (by decide) (by decide) (by decide) (Nat.le_of_ble_eq_true rfl) ?_
      exact ⟨rfl, rfl, rfl⟩
    · rw [hp] at h49; exact absurd h49 (by decide)
  · exfalso; omega
set_option maxRecDepth 100000 in
set_option maxHeartbeats 4000000 in
theorem x4_mix_b7 (hG : Full γ) {k : Int} (hk : 0 ≤ k ∧ k < 4) {k2 : Int} (hk2 : 0 ≤ k2 ∧ k2 < 4) {c : Int} (hc : 0 ≤ c ∧ c < 65536) (hh : hld σ k.toNat = true) (hh2 : hld σ k2.toNat = true) (hW : Wk σ) (h0 : 0 ≤ ixO (tS 55) c) (hp : pHas σ k.toNat 5 = true) (hp2 : pHas σ k2.toNat 5 = false) : Ev γ mX4_mix 8 1 6 [.ref (ga γ 6 0), .int (zI k), .int (zI k2), .int (zI c)] σ xs (nR) (thr "java/lang/UnsupportedOperationException" σ xs) := by
  refine Ev.of1 2 [some (.ref (ga γ 6 0)), some (.int (zI k)), some (.int (zI k2)), some (.int (zI c)), none, none] rfl pn_X4_mix rfl (Nat.le_of_ble_eq_true rfl) ?_
  refine r_aload_n (q := 1) dX4_mix_0 rfl rfl ?_
  refine r_iload_n (q := 2) dX4_mix_1 rfl rfl ?_
  refine cX4_1 (My := mX4_slotAt) (q := 5) dX4_mix_2 rfl kX4_98 vX4_slotAt (hG _ _ (by first | rfl | exact hj | exact hi | exact vk2 hk | exact vk2 hk2)) rfl (x4_slotAt hG hk) ⟨by decide, by decide⟩ ⟨by decide, by decide⟩ (Nat.le_of_ble_eq_true rfl) ?_
  refine r_astore (q := 7) dX4_mix_5 rfl (by decide) (Lst.setL rfl rfl) ?_
  refine r_aload_n (q := 8) dX4_mix_7 rfl rfl ?_
  refine r_iload_n (q := 9) dX4_mix_8 rfl rfl ?_
  refine cX4_1 (My := mX4_slotAt) (q := 12) dX4_mix_9 rfl kX4_98 vX4_slotAt (hG _ _ (by first | rfl | exact hj | exact hi | exact vk2 hk | exact vk2 hk2)) rfl (x4_slotAt hG hk2) ⟨by decide, by decide⟩ ⟨by decide, by decide⟩ (Nat.le_of_ble_eq_true rfl) ?_
  refine r_astore (q := 14) dX4_mix_12 rfl (by decide) (Lst.setL rfl rfl) ?_
  refine r_aload (q := 16) dX4_mix_14 rfl rfl ?_
  refine cS_1v (My := mX4_checkHeld) (q := 19) dX4_mix_16 rfl kX4_153 vX4_checkHeld (x4_checkHeld hG (vk2 hk) hh) ⟨by decide, by decide⟩ ⟨by decide, by decide⟩ (Nat.le_of_ble_eq_true rfl) ?_
  refine r_aload (q := 21) dX4_mix_19 rfl rfl ?_
  refine cS_1v (My := mX4_checkHeld) (q := 24) dX4_mix_21 rfl kX4_153 vX4_checkHeld (x4_checkHeld hG (vk2 hk2) hh2) ⟨by decide, by decide⟩ ⟨by decide, by decide⟩ (Nat.le_of_ble_eq_true rfl) ?_
  refine r_ldcS (i := 55) (tx := "sapqf") (q := 26) dX4_mix_24 rfl (List.mem_of_getElem? (i := 60) rfl) ?_
  refine r_iload_n (q := 27) dX4_mix_26 rfl rfl ?_
  refine cT_1 (My := mJ0_indexOf_0f7a4) (q := 30) dX4_mix_27 rfl kX4_35 vJ0_indexOf_0f7a4 (by decide) rfl (j_indexOf (by decide) (by omega)) ⟨by decide, by decide⟩ ⟨by decide, by decide⟩ (Nat.le_of_ble_eq_true rfl) ?_
  refine r_if_ge (q := 33) (tgt := 43) dX4_mix_30 rfl (by decide) (by first | omega | exact ixO_r (by decide) _) (fun h30 => ?_) (fun h30 => ?_)
  · refine r_aload (q := 45) dX4_mix_43 rfl rfl ?_
    refine r_iconst (q := 46) dX4_mix_45 rfl ?_
    refine cX0_1 (My := mX0_has) (q := 49) dX4_mix_46 rfl kX4_142 vX0_has (hG _ _ (by first | rfl | exact hj | exact hi | exact vk2 hk | exact vk2 hk2)) rfl (x0_has hG (vk2 hk) hW (by decide)) ⟨by decide, by decide⟩ ⟨by decide, by decide⟩ (Nat.le_of_ble_eq_true rfl) ?_
    refine r_ifB_eq (q := 52) (tgt := 61) dX4_mix_49 rfl (by decide) (fun h49 => ?_) (fun h49 => ?_)
    · refine r_throw (i := 57) (tx := "an opaque address") dX4_mix_61 dX4_mix_64 dX4_mix_65 dX4_mix_67 dX4_mix_70 (by decide) (List.mem_of_getElem? (i := 62) rfl) tw_196 (by decide) (by decide) (by decide) (Nat.le_of_ble_eq_true rfl) ?_
      exact ⟨rfl, rfl, rfl⟩
    · refine r_aload (q := 54) dX4_mix_52 rfl rfl ?_
      refine r_iconst (q := 55) dX4_mix_54 rfl ?_
      refine cX0_1 (My := mX0_has) (q := 58) dX4_mix_55 rfl kX4_142 vX0_has (hG _ _ (by first | rfl | exact hj | exact hi | exact vk2 hk | exact vk2 hk2)) rfl (x0_has hG (vk2 hk2) hW (by decide)) ⟨by decide, by decide⟩ ⟨by decide, by decide⟩ (Nat.le_of_ble_eq_true rfl) ?_
      refine r_ifB_ne (q := 61) (tgt := 71) dX4_mix_58 rfl (by decide) (fun h58 => ?_) (fun h58 => ?_)
      · rw [hp2] at h58; exact absurd h58 (by decide)
      · refine r_throw (i := 57) (tx := "an opaque address") dX4_mix_61 dX4_mix_64 dX4_mix_65 dX4_mix_67 dX4_mix_70 (by decide) (List.mem_of_getElem? (i := 62) rfl) tw_196 (by decide) (by decide) (by decide) (Nat.le_of_ble_eq_true rfl) ?_
        exact ⟨rfl, rfl, rfl⟩
  · exfalso; omega
set_option maxRecDepth 100000 in
set_option maxHeartbeats 4000000 in
theorem x4_mix_b8 (hG : Full γ) {k : Int} (hk : 0 ≤ k ∧ k < 4) {k2 : Int} (hk2 : 0 ≤ k2 ∧ k2 < 4) {c : Int} (hc : 0 ≤ c ∧ c < 65536) (hh : hld σ k.toNat = true) (hh2 : hld σ k2.toNat = true) (hW : Wk σ) (h0 : 0 ≤ ixO (tS 55) c) (hp : pHas σ k.toNat 5 = true) (hp2 : pHas σ k2.toNat 5 = true) (hn : 60 < cnt (pMixW σ k k2 c) 6) : Ev γ mX4_mix 8 1 6 [.ref (ga γ 6 0), .int (zI k), .int (zI k2), .int (zI c)] σ xs (nR) (thr "java/lang/IllegalStateException" (pMixW σ k k2 c) xs) := by
  refine Ev.of1 2 [some (.ref (ga γ 6 0)), some (.int (zI k)), some (.int (zI k2)), some (.int (zI c)), none, none] rfl pn_X4_mix rfl (Nat.le_of_ble_eq_true rfl) ?_
  have hWm : Wk (pMixW σ k k2 c) := (pWv_ok hW _ _ _).1
  have hc6 := hWm.1 6
  have hc6b : cnt (pWv σ k.toNat k2.toNat (ixO (tS 51) c)) 6 = cnt (pMixW σ k k2 c) 6 := rfl
  refine r_aload_n (q := 1) dX4_mix_0 rfl rfl ?_
  refine r_iload_n (q := 2) dX4_mix_1 rfl rfl ?_
  refine cX4_1 (My := mX4_slotAt) (q := 5) dX4_mix_2 rfl kX4_98 vX4_slotAt (hG _ _ (by first | rfl | exact hj | exact hi | exact vk2 hk | exact vk2 hk2)) rfl (x4_slotAt hG hk) ⟨by decide, by decide⟩ ⟨by decide, by decide⟩ (Nat.le_of_ble_eq_true rfl) ?_
  refine r_astore (q := 7) dX4_mix_5 rfl (by decide) (Lst.setL rfl rfl) ?_
  refine r_aload_n (q := 8) dX4_mix_7 rfl rfl ?_
  refine r_iload_n (q := 9) dX4_mix_8 rfl rfl ?_
  refine cX4_1 (My := mX4_slotAt) (q := 12) dX4_mix_9 rfl kX4_98 vX4_slotAt (hG _ _ (by first | rfl | exact hj | exact hi | exact vk2 hk | exact vk2 hk2)) rfl (x4_slotAt hG hk2) ⟨by decide, by decide⟩ ⟨by decide, by decide⟩ (Nat.le_of_ble_eq_true rfl) ?_
  refine r_astore (q := 14) dX4_mix_12 rfl (by decide) (Lst.setL rfl rfl) ?_
  refine r_aload (q := 16) dX4_mix_14 rfl rfl ?_
  refine cS_1v (My := mX4_checkHeld) (q := 19) dX4_mix_16 rfl kX4_153 vX4_checkHeld (x4_checkHeld hG (vk2 hk) hh) ⟨by decide, by decide⟩ ⟨by decide, by decide⟩ (Nat.le_of_ble_eq_true rfl) ?_
  refine r_aload (q := 21) dX4_mix_19 rfl rfl ?_
  refine cS_1v (My := mX4_checkHeld) (q := 24) dX4_mix_21 rfl kX4_153 vX4_checkHeld (x4_checkHeld hG (vk2 hk2) hh2) ⟨by decide, by decide⟩ ⟨by decide, by decide⟩ (Nat.le_of_ble_eq_true rfl) ?_
  refine r_ldcS (i := 55) (tx := "sapqf") (q := 26) dX4_mix_24 rfl (List.mem_of_getElem? (i := 60) rfl) ?_
  refine r_iload_n (q := 27) dX4_mix_26 rfl rfl ?_
  refine cT_1 (My := mJ0_indexOf_0f7a4) (q := 30) dX4_mix_27 rfl kX4_35 vJ0_indexOf_0f7a4 (by decide) rfl (j_indexOf (by decide) (by omega)) ⟨by decide, by decide⟩ ⟨by decide, by decide⟩ (Nat.le_of_ble_eq_true rfl) ?_
  refine r_if_ge (q := 33) (tgt := 43) dX4_mix_30 rfl (by decide) (by first | omega | exact ixO_r (by decide) _) (fun h30 => ?_) (fun h30 => ?_)
  · refine r_aload (q := 45) dX4_mix_43 rfl rfl ?_
    refine r_iconst (q := 46) dX4_mix_45 rfl ?_
    refine cX0_1 (My := mX0_has) (q := 49) dX4_mix_46 rfl kX4_142 vX0_has (hG _ _ (by first | rfl | exact hj | exact hi | exact vk2 hk | exact vk2 hk2)) rfl (x0_has hG (vk2 hk) hW (by decide)) ⟨by decide, by decide⟩ ⟨by decide, by decide⟩ (Nat.le_of_ble_eq_true rfl) ?_
    refine r_ifB_eq (q := 52) (tgt := 61) dX4_mix_49 rfl (by decide) (fun h49 => ?_) (fun h49 => ?_)
    · first | (rw [hp] at h49; exact absurd h49 (by decide)) | (rw [hp2] at h58; exact absurd h58 (by decide))
    · refine r_aload (q := 54) dX4_mix_52 rfl rfl ?_
      refine r_iconst (q := 55) dX4_mix_54 rfl ?_
      refine cX0_1 (My := mX0_has) (q := 58) dX4_mix_55 rfl kX4_142 vX0_has (hG _ _ (by first | rfl | exact hj | exact hi | exact vk2 hk | exact vk2 hk2)) rfl (x0_has hG (vk2 hk2) hW (by decide)) ⟨by decide, by decide⟩ ⟨by decide, by decide⟩ (Nat.le_of_ble_eq_true rfl) ?_
      refine r_ifB_ne (q := 61) (tgt := 71) dX4_mix_58 rfl (by decide) (fun h58 => ?_) (fun h58 => ?_)
      · refine r_aload_n (q := 72) dX4_mix_71 rfl rfl ?_
        refine r_aload (q := 74) dX4_mix_72 rfl rfl ?_
        refine r_aload (q := 76) dX4_mix_74 rfl rfl ?_
        refine r_ldcS (i := 51) (tx := "smauhpqfw") (q := 78) dX4_mix_76 rfl (List.mem_of_getElem? (i := 56) rfl) ?_
        refine r_iload_n (q := 79) dX4_mix_78 rfl rfl ?_
        refine cT_1 (My := mJ0_indexOf_0f7a4) (q := 82) dX4_mix_79 rfl kX4_35 vJ0_indexOf_0f7a4 (by decide) rfl (j_indexOf (by decide) (by omega)) ⟨by decide, by decide⟩ ⟨by decide, by decide⟩ (Nat.le_of_ble_eq_true rfl) ?_
        refine cX4_3v (My := mX4_weave) (q := 85) dX4_mix_82 rfl kX4_178 vX4_weave (hG _ _ (by first | rfl | exact hj | exact hi | exact vk2 hk | exact vk2 hk2)) rfl (x4_weave hG (vk2 hk) (vk2 hk2) hW (ixO_r (by decide) _)) ⟨by decide, by decide⟩ ⟨by decide, by decide⟩ (Nat.le_of_ble_eq_true rfl) ?_
        refine r_aload_n (q := 86) dX4_mix_85 rfl rfl ?_
        refine g_X4_loom (i := 0) (q := 89) dX4_mix_86 rfl fX4_16 (hG _ _ (by first | rfl | exact hj | exact hi | exact vk2 hk | exact vk2 hk2)) ?_
        refine cX3_0 (My := mX3_count) (q := 92) dX4_mix_89 rfl kX4_56 vX3_count (hG _ _ (by first | rfl | exact hj | exact hi | exact vk2 hk | exact vk2 hk2)) rfl (x3_count hG rfl) ⟨by decide, by decide⟩ ⟨by decide, by decide⟩ (Nat.le_of_ble_eq_true rfl) ?_
        refine r_bipush (q := 94) dX4_mix_92 rfl (bip (by decide) (by decide)) ?_
        refine r_icmp_le (q := 97) (tgt := 107) dX4_mix_94 rfl (by decide) (by first | omega | exact ixO_r (by decide) _) (by first | omega | exact ixO_r (by decide) _) (fun h94 => ?_) (fun h94 => ?_)
        · exfalso; omega
        · refine r_throw (i := 13) (tx := "too many signs") dX4_mix_97 dX4_mix_100 dX4_mix_101 dX4_mix_103 dX4_mix_106 (by decide) (List.mem_of_getElem? (i := 15) rfl) tw_112 (by decide) (by decide) (by decide) (Nat.le_of_ble_eq_true rfl) ?_
          exact ⟨rfl, rfl, rfl⟩
      · first | (rw [hp] at h49; exact absurd h49 (by decide)) | (rw [hp2] at h58; exact absurd h58 (by decide))
  · exfalso; omega
end X4d
