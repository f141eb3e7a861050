/-! The model: alike, isTrue, checksum -/
theorem RW.wid {γ : Gm} {M : Md} {d k n : Nat} {Qr : Option Value → St → va_W → Prop} {Qx : String → St → va_W → Prop} {c1 n1 pc : Nat} {L : List (Option Value)} {st : List Value} {σ : St} {xs : va_W} (c2 n2 : Nat) (h1 : c1 ≤ c2) (h2 : n1 ≤ n2) (kk : RW γ M d k n Qr Qx c2 n2 pc L st σ xs) : RW γ M d k n Qr Qx c1 n1 pc L st σ xs := by
  intro p e s m args below meth c H locs ls C hS hC hG hl
  exact W.widen h1 h2 (kk p e s m args below meth c H locs ls C hS hC hG hl)
theorem mMany_b {σ : St} (hM : Mw σ) {i k p : Int} (h0 : 0 ≤ p) (h : p < mMany σ i k) : 0 ≤ mF σ i k ∧ mF σ i k + p < 60 := by
  have h1 : mTo σ i k ≤ 60 := (hM.to (9 * i + k).toNat).2
  unfold mMany at h
  split at h <;> omega
section X5
variable {γ : Gm} {σ : St} {xs : va_W}
set_option maxRecDepth 100000 in
set_option maxHeartbeats 4000000 in
theorem m_isAlike (hG : Full γ) (hM : Mw σ) {i j k : Int} (hi : 0 ≤ i ∧ i < 4) (hj : 0 ≤ j ∧ j < 4) (hk : 0 ≤ k ∧ k ≤ 8) : Ev γ mX5_isAlike 2 0 0 [.ref (ga γ 8 0), .int (zI (i)), .int (zI (j)), .int (zI (k))] σ xs (rtn (some (.int (zI (bI (mAlk σ i j k))))) σ xs) nX := by
  refine Ev.of1 1 [some (.ref (ga γ 8 0)), some (.int (zI (i))), some (.int (zI (j))), some (.int (zI (k))), none] rfl pn_X5_isAlike rfl (Nat.le_of_ble_eq_true rfl) ?_
  refine r_aload_n (q := 1) dX5_isAlike_0 rfl rfl ?_
  refine r_iload_n (q := 2) dX5_isAlike_1 rfl rfl ?_
  refine r_iload_n (q := 3) dX5_isAlike_2 rfl rfl ?_
  refine cX5_2 (My := mX5_many) (q := 6) dX5_isAlike_3 rfl kX5_168 vX5_many (hG _ _ rfl) rfl (m_many hG hM hi hk) ⟨by decide, by decide⟩ ⟨by decide, by decide⟩ (Nat.le_of_ble_eq_true rfl) ?_
  refine r_aload_n (q := 7) dX5_isAlike_6 rfl rfl ?_
  refine r_iload_n (q := 8) dX5_isAlike_7 rfl rfl ?_
  refine r_iload_n (q := 9) dX5_isAlike_8 rfl rfl ?_
  refine cX5_2 (My := mX5_many) (q := 12) dX5_isAlike_9 rfl kX5_168 vX5_many (hG _ _ rfl) rfl (m_many hG hM hj hk) ⟨by decide, by decide⟩ ⟨by decide, by decide⟩ (Nat.le_of_ble_eq_true rfl) ?_
  refine r_icmp_eq (q := 15) (tgt := 17) dX5_isAlike_12 rfl (by decide) (by first | omega | (have h9 := mMany_r hM i k; have h8 := mMany_r hM j k; omega) | (have h9 := hM.sg (60 * i + mF σ i k + p).toNat; have h8 := hM.sg (60 * j + mF σ j k + p).toNat; omega)) (by first | omega | (have h9 := mMany_r hM i k; have h8 := mMany_r hM j k; omega) | (have h9 := hM.sg (60 * i + mF σ i k + p).toNat; have h8 := hM.sg (60 * j + mF σ j k + p).toNat; omega)) (fun h12 => ?_) (fun h12 => ?_)
  · refine r_iconst (q := 18) dX5_isAlike_17 rfl ?_
    refine r_istore (q := 20) dX5_isAlike_18 rfl (by decide) (Lst.setL rfl rfl) ?_
    have hm : mMany σ i k = mMany σ j k := h12
    have hA : mAlk σ i j k = mAlkF σ i j k 0 := if_pos hm
    rw [hA]
    have loop : ∀ p : Int, p ≤ 300 → 0 ≤ p → mAlkF σ i j k p = mAlkF σ i j k 0 → RW γ mX5_isAlike 2 0 0 (rtn (some (.int (zI (bI (mAlkF σ i j k 0))))) σ xs) nX 0 0 20 [some (.ref (ga γ 8 0)), some (.int (zI (i))), some (.int (zI (j))), some (.int (zI (k))), some (.int (zI (p)))] [] σ xs := by
      refine up (fun p hp9 ih hp0 hr => ?_)
      refine r_iload (q := 22) dX5_isAlike_20 rfl rfl ?_
      refine r_aload_n (q := 23) dX5_isAlike_22 rfl rfl ?_
      refine r_iload_n (q := 24) dX5_isAlike_23 rfl rfl ?_
      refine r_iload_n (q := 25) dX5_isAlike_24 rfl rfl ?_
      refine cX5_2 (My := mX5_many) (q := 28) dX5_isAlike_25 rfl kX5_168 vX5_many (hG _ _ rfl) rfl (m_many hG hM hi hk) ⟨by decide, by decide⟩ ⟨by decide, by decide⟩ (Nat.le_of_ble_eq_true rfl) ?_
      refine r_icmp_ge (q := 31) (tgt := 90) dX5_isAlike_28 rfl (by decide) (by first | omega | (have h9 := mMany_r hM i k; have h8 := mMany_r hM j k; omega) | (have h9 := hM.sg (60 * i + mF σ i k + p).toNat; have h8 := hM.sg (60 * j + mF σ j k + p).toNat; omega)) (by first | omega | (have h9 := mMany_r hM i k; have h8 := mMany_r hM j k; omega) | (have h9 := hM.sg (60 * i + mF σ i k + p).toNat; have h8 := hM.sg (60 * j + mF σ j k + p).toNat; omega)) (fun h28 => ?_) (fun h28 => ?_)
      · refine r_iconst (q := 91) dX5_isAlike_90 rfl ?_
        refine r_retz dX5_isAlike_91 rfl (by first | rfl | exact narB _) (by decide) (by decide) ?_
        exact ret_i (by rw [← hr, mAlkF.eq_def σ i j k p, if_neg (by omega)]; rfl)
      · have hlt : p < mMany σ i k := by omega
        have e1 : mfr σ (9 * i + k).toNat = mF σ i k := rfl
        have e2 : mfr σ (9 * j + k).toNat = mF σ j k := rfl
        have b1 := mMany_b hM hp0 hlt
        have b2 := mMany_b (i := j) (k := k) hM hp0 (by omega)
        refine r_aload_n (q := 32) dX5_isAlike_31 rfl rfl ?_
        refine g_X5_signs (i := 0) (q := 35) dX5_isAlike_32 rfl fX5_16 (hG _ _ rfl) ?_
        refine r_bipush (q := 37) dX5_isAlike_35 rfl (bip (by decide) (by decide)) ?_
        refine r_iload_n (q := 38) dX5_isAlike_37 rfl rfl ?_
        refine r_imul (q := 39) dX5_isAlike_38 rfl ?_
        refine r_aload_n (q := 40) dX5_isAlike_39 rfl rfl ?_
        refine g_X5_from (i := 0) (q := 43) dX5_isAlike_40 rfl fX5_22 (hG _ _ rfl) ?_
        refine r_bipush (q := 45) dX5_isAlike_43 rfl (bip (by decide) (by decide)) ?_
        refine r_iload_n (q := 46) dX5_isAlike_45 rfl rfl ?_
        refine r_imul (q := 47) dX5_isAlike_46 rfl ?_
        refine r_iload_n (q := 48) dX5_isAlike_47 rfl rfl ?_
        refine r_iadd (q := 49) dX5_isAlike_48 rfl ?_
        refine l_mfr (i := 0) (q := 50) dX5_isAlike_49 rfl (hG _ _ rfl) (by omega) ?_
        refine r_iadd (q := 51) dX5_isAlike_50 rfl ?_
        rw [e1]
        refine r_iload (q := 53) dX5_isAlike_51 rfl rfl ?_
        refine r_iadd (q := 54) dX5_isAlike_53 rfl ?_
        refine l_msg (i := 0) (q := 55) dX5_isAlike_54 rfl (hG _ _ rfl) (by omega) ?_
        refine r_aload_n (q := 56) dX5_isAlike_55 rfl rfl ?_
        refine g_X5_signs (i := 0) (q := 59) dX5_isAlike_56 rfl fX5_16 (hG _ _ rfl) ?_
        refine r_bipush (q := 61) dX5_isAlike_59 rfl (bip (by decide) (by decide)) ?_
        refine r_iload_n (q := 62) dX5_isAlike_61 rfl rfl ?_
        refine r_imul (q := 63) dX5_isAlike_62 rfl ?_
        refine r_aload_n (q := 64) dX5_isAlike_63 rfl rfl ?_
        refine g_X5_from (i := 0) (q := 67) dX5_isAlike_64 rfl fX5_22 (hG _ _ rfl) ?_
        refine r_bipush (q := 69) dX5_isAlike_67 rfl (bip (by decide) (by decide)) ?_
        refine r_iload_n (q := 70) dX5_isAlike_69 rfl rfl ?_
        refine r_imul (q := 71) dX5_isAlike_70 rfl ?_
        refine r_iload_n (q := 72) dX5_isAlike_71 rfl rfl ?_
        refine r_iadd (q := 73) dX5_isAlike_72 rfl ?_
        refine l_mfr (i := 0) (q := 74) dX5_isAlike_73 rfl (hG _ _ rfl) (by omega) ?_
        refine r_iadd (q := 75) dX5_isAlike_74 rfl ?_
        rw [e2]
        refine r_iload (q := 77) dX5_isAlike_75 rfl rfl ?_
        refine r_iadd (q := 78) dX5_isAlike_77 rfl ?_
        refine l_msg (i := 0) (q := 79) dX5_isAlike_78 rfl (hG _ _ rfl) (by omega) ?_
        refine r_icmp_eq (q := 82) (tgt := 84) dX5_isAlike_79 rfl (by decide) (by first | omega | (have h9 := mMany_r hM i k; have h8 := mMany_r hM j k; omega) | (have h9 := hM.sg (60 * i + mF σ i k + p).toNat; have h8 := hM.sg (60 * j + mF σ j k + p).toNat; omega)) (by first | omega | (have h9 := mMany_r hM i k; have h8 := mMany_r hM j k; omega) | (have h9 := hM.sg (60 * i + mF σ i k + p).toNat; have h8 := hM.sg (60 * j + mF σ j k + p).toNat; omega)) (fun h79 => ?_) (fun h79 => ?_)
        · refine r_iinc (q := 87) dX5_isAlike_84 rfl rfl (by decide) (Lst.setL rfl rfl) ?_
          refine r_goto (q := 20) dX5_isAlike_87 (by decide) ?_
          exact ih (p + 1) (by omega) (by have h9 := mMany_r hM i k; omega) (by omega) (by rw [← hr, mAlkF.eq_def σ i j k p, if_pos (by omega), if_pos h79])
        · refine r_iconst (q := 83) dX5_isAlike_82 rfl ?_
          refine r_retz dX5_isAlike_83 rfl (by first | rfl | exact narB _) (by decide) (by decide) ?_
          exact ret_i (by rw [← hr, mAlkF.eq_def σ i j k p, if_pos (by omega), if_neg h79]; rfl)
    exact loop 0 (by omega) (by omega) rfl
  · refine r_iconst (q := 16) dX5_isAlike_15 rfl ?_
    refine r_retz dX5_isAlike_16 rfl (by first | rfl | exact narB _) (by decide) (by decide) ?_
    exact ret_i (by unfold mAlk; rw [if_neg h12]; rfl)
theorem mAlsF_r (σ : St) (i j : Int) : ∀ k : Int, k ≤ 10 → ∀ a : Int, a ≤ mAlsF σ i j a k ∧ mAlsF σ i j a k ≤ a + 10 - k := by
  refine up (fun k hk ih a => ?_)
  rw [mAlsF.eq_def]
  split
  · have h1 := ih (k + 1) (by omega) (by omega) (if mAlk σ i j k = true then a + 1 else a)
    split at h1 <;> rename_i hq <;> simp only [hq, if_true, if_false, Bool.false_eq_true] <;> omega
  · omega
set_option maxRecDepth 100000 in
set_option maxHeartbeats 4000000 in
theorem m_alike_1 (hG : Full γ) (hM : Mw σ) {i j : Int} (hr : -2147483648 ≤ i ∧ i ≤ 2147483647) (hr2 : -2147483648 ≤ j ∧ j ≤ 2147483647) (h : ¬ ((0 ≤ i ∧ i ≤ 3) ∧ (0 ≤ j ∧ j ≤ 3))) : Ev γ mX5_alike 3 0 0 [.ref (ga γ 8 0), .int (zI (i)), .int (zI (j))] σ xs (rtn (some (.int (zI (0)))) (sMcd σ 1) xs) nX := by
  refine Ev.of1 2 [some (.ref (ga γ 8 0)), some (.int (zI (i))), some (.int (zI (j))), none, none] rfl pn_X5_alike rfl (Nat.le_of_ble_eq_true rfl) ?_
  refine r_aload_n (q := 1) dX5_alike_0 rfl rfl ?_
  refine r_iload_n (q := 2) dX5_alike_1 rfl rfl ?_
  refine cS_1 (My := mX5_isSlot) (q := 5) dX5_alike_2 rfl kX5_145 vX5_isSlot (m_isSlot (by omega)) ⟨by decide, by decide⟩ ⟨by decide, by decide⟩ (Nat.le_of_ble_eq_true rfl) ?_
  refine r_ifB_eq (q := 8) (tgt := 15) dX5_alike_5 rfl (by decide) (fun h5 => ?_) (fun h5 => ?_)
  · refine r_iconst (q := 16) dX5_alike_15 rfl ?_
    refine r_goto (q := 42) dX5_alike_16 (by decide) ?_
    refine cX5_1 (My := mX5_fails) (q := 45) dX5_alike_42 rfl kX5_63 vX5_fails (hG _ _ rfl) rfl (m_fails hG (by omega)) ⟨by decide, by decide⟩ ⟨by decide, by decide⟩ (Nat.le_of_ble_eq_true rfl) ?_
    refine r_ifB_eq (q := 48) (tgt := 50) dX5_alike_45 rfl (by decide) (fun h45 => ?_) (fun h45 => ?_)
    · exact absurd h45 (by decide)
    · refine r_iconst (q := 49) dX5_alike_48 rfl ?_
      refine r_reti dX5_alike_49 rfl (by decide) (by decide) ?_
      exact ret_is rfl rfl
  · refine r_iload_n (q := 9) dX5_alike_8 rfl rfl ?_
    refine cS_1 (My := mX5_isSlot) (q := 12) dX5_alike_9 rfl kX5_145 vX5_isSlot (m_isSlot (by omega)) ⟨by decide, by decide⟩ ⟨by decide, by decide⟩ (Nat.le_of_ble_eq_true rfl) ?_
    refine r_ifB_ne (q := 15) (tgt := 19) dX5_alike_12 rfl (by decide) (fun h12 => ?_) (fun h12 => ?_)
    · exfalso; simp at *; omega
    · refine r_iconst (q := 16) dX5_alike_15 rfl ?_
      refine r_goto (q := 42) dX5_alike_16 (by decide) ?_
      refine cX5_1 (My := mX5_fails) (q := 45) dX5_alike_42 rfl kX5_63 vX5_fails (hG _ _ rfl) rfl (m_fails hG (by omega)) ⟨by decide, by decide⟩ ⟨by decide, by decide⟩ (Nat.le_of_ble_eq_true rfl) ?_
      refine r_ifB_eq (q := 48) (tgt := 50) dX5_alike_45 rfl (by decide) (fun h45 => ?_) (fun h45 => ?_)
      · exact absurd h45 (by decide)
      · refine r_iconst (q := 49) dX5_alike_48 rfl ?_
        refine r_reti dX5_alike_49 rfl (by decide) (by decide) ?_
        exact ret_is rfl rfl
set_option maxRecDepth 100000 in
set_option maxHeartbeats 4000000 in
theorem m_alike_2 (hG : Full γ) (hM : Mw σ) {i j : Int} (hi : 0 ≤ i ∧ i < 4) (hj : 0 ≤ j ∧ j < 4) (h : mlo σ i.toNat < 0 ∨ mlo σ j.toNat < 0) : Ev γ mX5_alike 3 0 0 [.ref (ga γ 8 0), .int (zI (i)), .int (zI (j))] σ xs (rtn (some (.int (zI (0)))) (sMcd σ 2) xs) nX := by
  refine Ev.of1 2 [some (.ref (ga γ 8 0)), some (.int (zI (i))), some (.int (zI (j))), none, none] rfl pn_X5_alike rfl (Nat.le_of_ble_eq_true rfl) ?_
  refine r_aload_n (q := 1) dX5_alike_0 rfl rfl ?_
  refine r_iload_n (q := 2) dX5_alike_1 rfl rfl ?_
  refine cS_1 (My := mX5_isSlot) (q := 5) dX5_alike_2 rfl kX5_145 vX5_isSlot (m_isSlot (by omega)) ⟨by decide, by decide⟩ ⟨by decide, by decide⟩ (Nat.le_of_ble_eq_true rfl) ?_
  refine r_ifB_eq (q := 8) (tgt := 15) dX5_alike_5 rfl (by decide) (fun h5 => ?_) (fun h5 => ?_)
  · exfalso; simp at *; omega
  · refine r_iload_n (q := 9) dX5_alike_8 rfl rfl ?_
    refine cS_1 (My := mX5_isSlot) (q := 12) dX5_alike_9 rfl kX5_145 vX5_isSlot (m_isSlot (by omega)) ⟨by decide, by decide⟩ ⟨by decide, by decide⟩ (Nat.le_of_ble_eq_true rfl) ?_
    refine r_ifB_ne (q := 15) (tgt := 19) dX5_alike_12 rfl (by decide) (fun h12 => ?_) (fun h12 => ?_)
    · refine r_aload_n (q := 20) dX5_alike_19 rfl rfl ?_
      refine g_X5_long_ (i := 0) (q := 23) dX5_alike_20 rfl fX5_19 (hG _ _ rfl) ?_
      refine r_iload_n (q := 24) dX5_alike_23 rfl rfl ?_
      refine l_mlo (i := 0) (q := 25) dX5_alike_24 rfl (hG _ _ rfl) (by omega) ?_
      refine r_if_lt (q := 28) (tgt := 37) dX5_alike_25 rfl (by decide) (by first | omega | (have h9 := hM.lo i.toNat; have h8 := hM.lo j.toNat; omega)) (fun h25 => ?_) (fun h25 => ?_)
      · refine r_iconst (q := 38) dX5_alike_37 rfl ?_
        refine r_goto (q := 42) dX5_alike_38 (by decide) ?_
        refine cX5_1 (My := mX5_fails) (q := 45) dX5_alike_42 rfl kX5_63 vX5_fails (hG _ _ rfl) rfl (m_fails hG (by omega)) ⟨by decide, by decide⟩ ⟨by decide, by decide⟩ (Nat.le_of_ble_eq_true rfl) ?_
        refine r_ifB_eq (q := 48) (tgt := 50) dX5_alike_45 rfl (by decide) (fun h45 => ?_) (fun h45 => ?_)
        · exact absurd h45 (by decide)
        · refine r_iconst (q := 49) dX5_alike_48 rfl ?_
          refine r_reti dX5_alike_49 rfl (by decide) (by decide) ?_
          exact ret_is rfl rfl
      · refine r_aload_n (q := 29) dX5_alike_28 rfl rfl ?_
        refine g_X5_long_ (i := 0) (q := 32) dX5_alike_29 rfl fX5_19 (hG _ _ rfl) ?_
        refine r_iload_n (q := 33) dX5_alike_32 rfl rfl ?_
        refine l_mlo (i := 0) (q := 34) dX5_alike_33 rfl (hG _ _ rfl) (by omega) ?_
        refine r_if_ge (q := 37) (tgt := 41) dX5_alike_34 rfl (by decide) (by first | omega | (have h9 := hM.lo i.toNat; have h8 := hM.lo j.toNat; omega)) (fun h34 => ?_) (fun h34 => ?_)
        · exfalso; omega
        · refine r_iconst (q := 38) dX5_alike_37 rfl ?_
          refine r_goto (q := 42) dX5_alike_38 (by decide) ?_
          refine cX5_1 (My := mX5_fails) (q := 45) dX5_alike_42 rfl kX5_63 vX5_fails (hG _ _ rfl) rfl (m_fails hG (by omega)) ⟨by decide, by decide⟩ ⟨by decide, by decide⟩ (Nat.le_of_ble_eq_true rfl) ?_
          refine r_ifB_eq (q := 48) (tgt := 50) dX5_alike_45 rfl (by decide) (fun h45 => ?_) (fun h45 => ?_)
          · exact absurd h45 (by decide)
          · refine r_iconst (q := 49) dX5_alike_48 rfl ?_
            refine r_reti dX5_alike_49 rfl (by decide) (by decide) ?_
            exact ret_is rfl rfl
    · exfalso; simp at *; omega
set_option maxRecDepth 100000 in
set_option maxHeartbeats 4000000 in
theorem m_alike_0 (hG : Full γ) (hM : Mw σ) {i j : Int} (hi : 0 ≤ i ∧ i < 4) (hj : 0 ≤ j ∧ j < 4) (h : 0 ≤ mlo σ i.toNat ∧ 0 ≤ mlo σ j.toNat) : Ev γ mX5_alike 3 0 0 [.ref (ga γ 8 0), .int (zI (i)), .int (zI (j))] σ xs (rtn (some (.int (zI (mAlsF (sMcd σ 0) i j 0 0)))) (sMcd σ 0) xs) nX := by
  refine Ev.of1 2 [some (.ref (ga γ 8 0)), some (.int (zI (i))), some (.int (zI (j))), none, none] rfl pn_X5_alike rfl (Nat.le_of_ble_eq_true rfl) ?_
  have main : ∀ s : St, Mw s → ∀ k : Int, k ≤ 9 → 0 ≤ k → ∀ a : Int, mAlsF s i j a k = mAlsF s i j 0 0 → RW γ mX5_alike 3 0 0 (rtn (some (.int (zI (mAlsF s i j 0 0)))) s xs) nX 0 0 55 [some (.ref (ga γ 8 0)), some (.int (zI (i))), some (.int (zI (j))), some (.int (zI (a))), some (.int (zI (k)))] [] s xs := by
    intro s hs
    refine up (fun k hk9 ih hk0 a hr => ?_)
    refine r_iload (q := 57) dX5_alike_55 rfl rfl ?_
    refine r_bipush (q := 59) dX5_alike_57 rfl (bip (by decide) (by decide)) ?_
    refine r_icmp_ge (q := 62) (tgt := 87) dX5_alike_59 rfl (by decide) (by omega) (by omega) (fun h59 => ?_) (fun h59 => ?_)
    · refine r_iload_n (q := 88) dX5_alike_87 rfl rfl ?_
      refine r_reti dX5_alike_88 rfl (by decide) (by decide) ?_
      exact ret_i (by rw [← hr, mAlsF.eq_def s i j a k, if_neg (by omega)])
    · refine r_iload_n (q := 63) dX5_alike_62 rfl rfl ?_
      refine r_aload_n (q := 64) dX5_alike_63 rfl rfl ?_
      refine r_iload_n (q := 65) dX5_alike_64 rfl rfl ?_
      refine r_iload_n (q := 66) dX5_alike_65 rfl rfl ?_
      refine r_iload (q := 68) dX5_alike_66 rfl rfl ?_
      refine cX5_3 (My := mX5_isAlike) (q := 71) dX5_alike_68 rfl kX5_175 vX5_isAlike (hG _ _ rfl) rfl (m_isAlike hG hs hi hj (by omega)) ⟨by decide, by decide⟩ ⟨by decide, by decide⟩ (Nat.le_of_ble_eq_true rfl) ?_
      refine r_ifB_eq (q := 74) (tgt := 78) dX5_alike_71 rfl (by decide) (fun h71 => ?_) (fun h71 => ?_)
      · refine r_iconst (q := 79) dX5_alike_78 rfl ?_
        refine r_iadd (q := 80) dX5_alike_79 rfl ?_
        refine r_istore_n (q := 81) dX5_alike_80 rfl (by decide) (Lst.setL rfl rfl) ?_
        refine r_iinc (q := 84) dX5_alike_81 rfl rfl (by decide) (Lst.setL rfl rfl) ?_
        refine r_goto (q := 55) dX5_alike_84 (by decide) ?_
        first
          | exact ih (k + 1) (by omega) (by omega) (by omega) _ (by rw [← hr, mAlsF.eq_def s i j a k, if_pos (by omega), if_pos h71])
          | exact ih (k + 1) (by omega) (by omega) (by omega) _ (by rw [← hr, mAlsF.eq_def s i j a k, if_pos (by omega), if_neg (by rw [h71]; decide), Int.add_zero])
      · refine r_iconst (q := 75) dX5_alike_74 rfl ?_
        refine r_goto (q := 79) dX5_alike_75 (by decide) ?_
        refine r_iadd (q := 80) dX5_alike_79 rfl ?_
        refine r_istore_n (q := 81) dX5_alike_80 rfl (by decide) (Lst.setL rfl rfl) ?_
        refine r_iinc (q := 84) dX5_alike_81 rfl rfl (by decide) (Lst.setL rfl rfl) ?_
        refine r_goto (q := 55) dX5_alike_84 (by decide) ?_
        first
          | exact ih (k + 1) (by omega) (by omega) (by omega) _ (by rw [← hr, mAlsF.eq_def s i j a k, if_pos (by omega), if_pos h71])
          | exact ih (k + 1) (by omega) (by omega) (by omega) _ (by rw [← hr, mAlsF.eq_def s i j a k, if_pos (by omega), if_neg (by rw [h71]; decide), Int.add_zero])
  refine r_aload_n (q := 1) dX5_alike_0 rfl rfl ?_
  refine r_iload_n (q := 2) dX5_alike_1 rfl rfl ?_
  refine cS_1 (My := mX5_isSlot) (q := 5) dX5_alike_2 rfl kX5_145 vX5_isSlot (m_isSlot (by omega)) ⟨by decide, by decide⟩ ⟨by decide, by decide⟩ (Nat.le_of_ble_eq_true rfl) ?_
  refine r_ifB_eq (q := 8) (tgt := 15) dX5_alike_5 rfl (by decide) (fun h5 => ?_) (fun h5 => ?_)
  · exfalso; simp at *; omega
  · refine r_iload_n (q := 9) dX5_alike_8 rfl rfl ?_
    refine cS_1 (My := mX5_isSlot) (q := 12) dX5_alike_9 rfl kX5_145 vX5_isSlot (m_isSlot (by omega)) ⟨by decide, by decide⟩ ⟨by decide, by decide⟩ (Nat.le_of_ble_eq_true rfl) ?_
    refine r_ifB_ne (q := 15) (tgt := 19) dX5_alike_12 rfl (by decide) (fun h12 => ?_) (fun h12 => ?_)
    · refine r_aload_n (q := 20) dX5_alike_19 rfl rfl ?_
      refine g_X5_long_ (i := 0) (q := 23) dX5_alike_20 rfl fX5_19 (hG _ _ rfl) ?_
      refine r_iload_n (q := 24) dX5_alike_23 rfl rfl ?_
      refine l_mlo (i := 0) (q := 25) dX5_alike_24 rfl (hG _ _ rfl) (by omega) ?_
      refine r_if_lt (q := 28) (tgt := 37) dX5_alike_25 rfl (by decide) (by first | omega | (have h9 := hM.lo i.toNat; have h8 := hM.lo j.toNat; omega)) (fun h25 => ?_) (fun h25 => ?_)
      · exfalso; omega
      · refine r_aload_n (q := 29) dX5_alike_28 rfl rfl ?_
        refine g_X5_long_ (i := 0) (q := 32) dX5_alike_29 rfl fX5_19 (hG _ _ rfl) ?_
        refine r_iload_n (q := 33) dX5_alike_32 rfl rfl ?_
        refine l_mlo (i := 0) (q := 34) dX5_alike_33 rfl (hG _ _ rfl) (by omega) ?_
        refine r_if_ge (q := 37) (tgt := 41) dX5_alike_34 rfl (by decide) (by first | omega | (have h9 := hM.lo i.toNat; have h8 := hM.lo j.toNat; omega)) (fun h34 => ?_) (fun h34 => ?_)
        · refine r_iconst (q := 42) dX5_alike_41 rfl ?_
          refine cX5_1 (My := mX5_fails) (q := 45) dX5_alike_42 rfl kX5_63 vX5_fails (hG _ _ rfl) rfl (m_fails hG (by omega)) ⟨by decide, by decide⟩ ⟨by decide, by decide⟩ (Nat.le_of_ble_eq_true rfl) ?_
          refine r_ifB_eq (q := 48) (tgt := 50) dX5_alike_45 rfl (by decide) (fun h45 => ?_) (fun h45 => ?_)
          · refine r_iconst (q := 51) dX5_alike_50 rfl ?_
            refine r_istore_n (q := 52) dX5_alike_51 rfl (by decide) (Lst.setL rfl rfl) ?_
            refine r_iconst (q := 53) dX5_alike_52 rfl ?_
            refine r_istore (q := 55) dX5_alike_53 rfl (by decide) (Lst.setL rfl rfl) ?_
            exact main (sMcd σ 0) (hM.cd 0) 0 (by omega) (by omega) 0 rfl
          · exact absurd h45 (by decide)
        · exfalso; omega
    · exfalso; simp at *; omega
set_option maxRecDepth 100000 in
set_option maxHeartbeats 4000000 in
theorem m_isTrue (hG : Full γ) : Ev γ mX5_isTrue 1 0 0 [.ref (ga γ 8 0)] σ xs (rtn (some (.int (zI (bI true)))) (sMcd σ 0) xs) nX := by
  refine Ev.of1 0 [some (.ref (ga γ 8 0))] rfl pn_X5_isTrue rfl (Nat.le_of_ble_eq_true rfl) ?_
  refine r_aload_n (q := 1) dX5_isTrue_0 rfl rfl ?_
  refine r_iconst (q := 2) dX5_isTrue_1 rfl ?_
  refine p_X5_code (i := 0) (q := 5) dX5_isTrue_2 rfl fX5_37 (hG _ _ rfl) ?_
  refine r_iconst (q := 6) dX5_isTrue_5 rfl ?_
  refine r_retz dX5_isTrue_6 rfl (by first | rfl | exact narB _) (by decide) (by decide) ?_
  exact ret_is rfl rfl
set_option maxRecDepth 100000 in
set_option maxHeartbeats 4000000 in
theorem m_checksum (hG : Full γ) (hM : Mw σ) : Ev γ mX5_checksum 2 0 0 [.ref (ga γ 8 0)] σ xs (rtn (some (.long (zL (mCk (sMcd σ 0))))) (sMcd σ 0) xs) nX := by
  refine Ev.of1 4 [some (.ref (ga γ 8 0)), none, none, none, none] rfl pn_X5_checksum rfl (Nat.le_of_ble_eq_true rfl) ?_
  have main : ∀ s : St, Mw s → RW γ mX5_checksum 2 0 0 (rtn (some (.long (zL (mCk s)))) s xs) nX 0 0 8 [some (.ref (ga γ 8 0)), none, none, none, none] [.long (zL 7)] s xs := by
    intro s hs
    have hz := hs.sz
    have loopk : ∀ k : Int, k ≤ 4 → 0 ≤ k → ∀ a : Int, mCkA s a k = mCk s → RW γ mX5_checksum 2 0 0 (rtn (some (.long (zL (mCk s)))) s xs) nX 0 0 53 [some (.ref (ga γ 8 0)), some (.long (zL (a))), none, some (.int (zI (k))), none] [] s xs := by
      refine up (fun k hk9 ih hk0 a hrk => ?_)
      have hJ : k < 4 → ∀ b : Int, b = mSum s k a → RW γ mX5_checksum 2 0 0 (rtn (some (.long (zL (mCk s)))) s xs) nX 0 0 136 [some (.ref (ga γ 8 0)), some (.long (zL (b))), none, some (.int (zI (k))), none] [] s xs := by
        intro hk4 b hb
        refine r_iinc (q := 139) dX5_checksum_136 rfl rfl (by decide) (Lst.setL rfl rfl) ?_
        refine r_goto (q := 53) dX5_checksum_139 (by decide) ?_
        refine RW.drop 4 ?_
        exact ih (k + 1) (by omega) (by omega) (by omega) _ (by rw [← hrk, mCkA.eq_def s a k, if_pos (by omega), hb])
      have J73 : k < 4 → ∀ b : Int, ((mlo s k.toNat < 0 ∧ b = 31 * a) ∨ (0 ≤ mlo s k.toNat ∧ b = a)) → RW γ mX5_checksum 2 0 0 (rtn (some (.long (zL (mCk s)))) s xs) nX 0 0 73 [some (.ref (ga γ 8 0)), some (.long (zL (b))), none, some (.int (zI (k))), none] [] s xs := by
        intro hk4 b hb
        have loopq : ∀ q : Int, q ≤ 9 → 0 ≤ q → ∀ b : Int, ((mlo s k.toNat < 0 ∧ b = mSum s k a ∧ q = 0) ∨ (0 ≤ mlo s k.toNat ∧ mSmF s k b q = mSum s k a)) → RW γ mX5_checksum 2 0 0 (rtn (some (.long (zL (mCk s)))) s xs) nX 0 0 76 [some (.ref (ga γ 8 0)), some (.long (zL (b))), none, some (.int (zI (k))), some (.int (zI (q)))] [] s xs := by
          refine up (fun q hq9 ih2 hq0 b hb => ?_)
          refine r_iload (q := 78) dX5_checksum_76 rfl rfl ?_
          refine r_bipush (q := 80) dX5_checksum_78 rfl (bip (by decide) (by decide)) ?_
          refine r_icmp_ge (q := 83) (tgt := 113) dX5_checksum_80 rfl (by decide) (by first | omega | (have h9 := hs.tx p.toNat; omega) | (have h9 := hs.rf; omega) | (have h9 := hs.lo k.toNat; omega) | (have h9 := hs.po k.toNat; omega) | (have h9 := mMany_r hs k q; omega)) (by first | omega | (have h9 := hs.tx p.toNat; omega) | (have h9 := hs.rf; omega) | (have h9 := hs.lo k.toNat; omega) | (have h9 := hs.po k.toNat; omega) | (have h9 := mMany_r hs k q; omega)) (fun h80 => ?_) (fun h80 => ?_)
          · refine r_aload_n (q := 114) dX5_checksum_113 rfl rfl ?_
            refine g_X5_long_ (i := 0) (q := 117) dX5_checksum_114 rfl fX5_19 (hG _ _ rfl) ?_
            refine r_iload_n (q := 118) dX5_checksum_117 rfl rfl ?_
            refine l_mlo (i := 0) (q := 119) dX5_checksum_118 rfl (hG _ _ rfl) (by omega) ?_
            refine r_if_lt (q := 122) (tgt := 136) dX5_checksum_119 rfl (by decide) (by first | omega | (have h9 := hs.tx p.toNat; omega) | (have h9 := hs.rf; omega) | (have h9 := hs.lo k.toNat; omega) | (have h9 := hs.po k.toNat; omega) | (have h9 := mMany_r hs k q; omega)) (fun h119 => ?_) (fun h119 => ?_)
            · first
                | (have hb2 : b = mSum s k a := by
                     rcases hb with z | z
                     · exact z.2.1
                     · omega
                   exact RW.drop 4 (hJ hk4 b hb2))
                | (have hb2 : mSmF s k b q = mSum s k a := by
                     rcases hb with z | z
                     · omega
                     · exact z.2
                   have eq9 : ¬ q < 9 := by
                     intro z
                     have h9 := hs.lo k.toNat
                     omega
                   refine RW.drop 4 ?_
                   exact hJ hk4 _ (by rw [← hb2, mSmF.eq_def s k b q, if_neg eq9]))
            · refine r_ldc2 (q := 125) dX5_checksum_122 rfl cX5_193 ?_
              refine r_lload_n (q := 126) dX5_checksum_125 rfl rfl ?_
              refine r_lmul (q := 127) dX5_checksum_126 rfl ?_
              refine r_aload_n (q := 128) dX5_checksum_127 rfl rfl ?_
              refine g_X5_ports (i := 0) (q := 131) dX5_checksum_128 rfl fX5_28 (hG _ _ rfl) ?_
              refine r_iload_n (q := 132) dX5_checksum_131 rfl rfl ?_
              refine l_mpo (i := 0) (q := 133) dX5_checksum_132 rfl (hG _ _ rfl) (by omega) ?_
              refine r_i2l (q := 134) dX5_checksum_133 rfl (by first | omega | (have h9 := hs.tx p.toNat; omega) | (have h9 := hs.rf; omega) | (have h9 := hs.lo k.toNat; omega) | (have h9 := hs.po k.toNat; omega) | (have h9 := mMany_r hs k q; omega)) ?_
              refine r_ladd (q := 135) dX5_checksum_134 rfl ?_
              refine r_lstore_n (q := 136) dX5_checksum_135 rfl (by decide) (Lst.set2 rfl) ?_
              first
                | (have hb2 : b = mSum s k a := by
                     rcases hb with z | z
                     · exact z.2.1
                     · omega
                   exact RW.drop 4 (hJ hk4 b hb2))
                | (have hb2 : mSmF s k b q = mSum s k a := by
                     rcases hb with z | z
                     · omega
                     · exact z.2
                   have eq9 : ¬ q < 9 := by
                     intro z
                     have h9 := hs.lo k.toNat
                     omega
                   refine RW.drop 4 ?_
                   exact hJ hk4 _ (by rw [← hb2, mSmF.eq_def s k b q, if_neg eq9]))
          · refine r_aload_n (q := 84) dX5_checksum_83 rfl rfl ?_
            refine g_X5_long_ (i := 0) (q := 87) dX5_checksum_84 rfl fX5_19 (hG _ _ rfl) ?_
            refine r_iload_n (q := 88) dX5_checksum_87 rfl rfl ?_
            refine l_mlo (i := 0) (q := 89) dX5_checksum_88 rfl (hG _ _ rfl) (by omega) ?_
            refine r_if_lt (q := 92) (tgt := 113) dX5_checksum_89 rfl (by decide) (by first | omega | (have h9 := hs.tx p.toNat; omega) | (have h9 := hs.rf; omega) | (have h9 := hs.lo k.toNat; omega) | (have h9 := hs.po k.toNat; omega) | (have h9 := mMany_r hs k q; omega)) (fun h89 => ?_) (fun h89 => ?_)
            · refine r_aload_n (q := 114) dX5_checksum_113 rfl rfl ?_
              refine g_X5_long_ (i := 0) (q := 117) dX5_checksum_114 rfl fX5_19 (hG _ _ rfl) ?_
              refine r_iload_n (q := 118) dX5_checksum_117 rfl rfl ?_
              refine l_mlo (i := 0) (q := 119) dX5_checksum_118 rfl (hG _ _ rfl) (by omega) ?_
              refine r_if_lt (q := 122) (tgt := 136) dX5_checksum_119 rfl (by decide) (by first | omega | (have h9 := hs.tx p.toNat; omega) | (have h9 := hs.rf; omega) | (have h9 := hs.lo k.toNat; omega) | (have h9 := hs.po k.toNat; omega) | (have h9 := mMany_r hs k q; omega)) (fun h119 => ?_) (fun h119 => ?_)
              · first
                  | (have hb2 : b = mSum s k a := by
                       rcases hb with z | z
                       · exact z.2.1
                       · omega
                     exact RW.drop 4 (hJ hk4 b hb2))
                  | (have hb2 : mSmF s k b q = mSum s k a := by
                       rcases hb with z | z
                       · omega
                       · exact z.2
                     have eq9 : ¬ q < 9 := by
                       intro z
                       have h9 := hs.lo k.toNat
                       omega
                     refine RW.drop 4 ?_
                     exact hJ hk4 _ (by rw [← hb2, mSmF.eq_def s k b q, if_neg eq9]))
              · refine r_ldc2 (q := 125) dX5_checksum_122 rfl cX5_193 ?_
                refine r_lload_n (q := 126) dX5_checksum_125 rfl rfl ?_
                refine r_lmul (q := 127) dX5_checksum_126 rfl ?_
                refine r_aload_n (q := 128) dX5_checksum_127 rfl rfl ?_
                refine g_X5_ports (i := 0) (q := 131) dX5_checksum_128 rfl fX5_28 (hG _ _ rfl) ?_
                refine r_iload_n (q := 132) dX5_checksum_131 rfl rfl ?_
                refine l_mpo (i := 0) (q := 133) dX5_checksum_132 rfl (hG _ _ rfl) (by omega) ?_
                refine r_i2l (q := 134) dX5_checksum_133 rfl (by first | omega | (have h9 := hs.tx p.toNat; omega) | (have h9 := hs.rf; omega) | (have h9 := hs.lo k.toNat; omega) | (have h9 := hs.po k.toNat; omega) | (have h9 := mMany_r hs k q; omega)) ?_
                refine r_ladd (q := 135) dX5_checksum_134 rfl ?_
                refine r_lstore_n (q := 136) dX5_checksum_135 rfl (by decide) (Lst.set2 rfl) ?_
                first
                  | (have hb2 : b = mSum s k a := by
                       rcases hb with z | z
                       · exact z.2.1
                       · omega
                     exact RW.drop 4 (hJ hk4 b hb2))
                  | (have hb2 : mSmF s k b q = mSum s k a := by
                       rcases hb with z | z
                       · omega
                       · exact z.2
                     have eq9 : ¬ q < 9 := by
                       intro z
                       have h9 := hs.lo k.toNat
                       omega
                     refine RW.drop 4 ?_
                     exact hJ hk4 _ (by rw [← hb2, mSmF.eq_def s k b q, if_neg eq9]))
            · refine r_ldc2 (q := 95) dX5_checksum_92 rfl cX5_193 ?_
              refine r_lload_n (q := 96) dX5_checksum_95 rfl rfl ?_
              refine r_lmul (q := 97) dX5_checksum_96 rfl ?_
              refine r_aload_n (q := 98) dX5_checksum_97 rfl rfl ?_
              refine r_iload_n (q := 99) dX5_checksum_98 rfl rfl ?_
              refine r_iload (q := 101) dX5_checksum_99 rfl rfl ?_
              refine cX5_2 (My := mX5_many) (q := 104) dX5_checksum_101 rfl kX5_168 vX5_many (hG _ _ rfl) rfl (m_many hG hs (by omega) (by omega)) ⟨by decide, by decide⟩ ⟨by decide, by decide⟩ (Nat.le_of_ble_eq_true rfl) ?_
              refine r_i2l (q := 105) dX5_checksum_104 rfl (by first | omega | (have h9 := hs.tx p.toNat; omega) | (have h9 := hs.rf; omega) | (have h9 := hs.lo k.toNat; omega) | (have h9 := hs.po k.toNat; omega) | (have h9 := mMany_r hs k q; omega)) ?_
              refine r_ladd (q := 106) dX5_checksum_105 rfl ?_
              refine r_lstore_n (q := 107) dX5_checksum_106 rfl (by decide) (Lst.set2 rfl) ?_
              refine r_iinc (q := 110) dX5_checksum_107 rfl rfl (by decide) (Lst.setL rfl rfl) ?_
              refine r_goto (q := 76) dX5_checksum_110 (by decide) ?_
              have hb2 : mSmF s k b q = mSum s k a := by
                rcases hb with z | z
                · omega
                · exact z.2
              exact ih2 (q + 1) (by omega) (by omega) (by omega) _ (Or.inr ⟨by omega, by rw [← hb2, mSmF.eq_def s k b q, if_pos (by omega)]⟩)
        refine r_iconst (q := 74) dX5_checksum_73 rfl ?_
        refine r_istore (q := 76) dX5_checksum_74 rfl (by decide) (Lst.setL rfl rfl) ?_
        exact loopq 0 (by omega) (by omega) b (by
          rcases hb with z | z
          · exact Or.inl ⟨z.1, by unfold mSum; rw [if_pos z.1]; exact z.2, rfl⟩
          · exact Or.inr ⟨z.1, by unfold mSum; rw [if_neg (by omega), z.2]⟩)
      refine r_iload_n (q := 54) dX5_checksum_53 rfl rfl ?_
      refine r_iconst (q := 55) dX5_checksum_54 rfl ?_
      refine r_icmp_ge (q := 58) (tgt := 142) dX5_checksum_55 rfl (by decide) (by first | omega | (have h9 := hs.tx p.toNat; omega) | (have h9 := hs.rf; omega) | (have h9 := hs.lo k.toNat; omega) | (have h9 := hs.po k.toNat; omega) | (have h9 := mMany_r hs k q; omega)) (by first | omega | (have h9 := hs.tx p.toNat; omega) | (have h9 := hs.rf; omega) | (have h9 := hs.lo k.toNat; omega) | (have h9 := hs.po k.toNat; omega) | (have h9 := mMany_r hs k q; omega)) (fun h55 => ?_) (fun h55 => ?_)
      · refine r_lload_n (q := 143) dX5_checksum_142 rfl rfl ?_
        refine r_retl dX5_checksum_143 rfl (by decide) (by decide) ?_
        exact ret_l (by rw [← hrk, mCkA.eq_def s a k, if_neg (by omega)])
      · refine r_aload_n (q := 59) dX5_checksum_58 rfl rfl ?_
        refine g_X5_long_ (i := 0) (q := 62) dX5_checksum_59 rfl fX5_19 (hG _ _ rfl) ?_
        refine r_iload_n (q := 63) dX5_checksum_62 rfl rfl ?_
        refine l_mlo (i := 0) (q := 64) dX5_checksum_63 rfl (hG _ _ rfl) (by omega) ?_
        refine r_if_ge (q := 67) (tgt := 73) dX5_checksum_64 rfl (by decide) (by first | omega | (have h9 := hs.tx p.toNat; omega) | (have h9 := hs.rf; omega) | (have h9 := hs.lo k.toNat; omega) | (have h9 := hs.po k.toNat; omega) | (have h9 := mMany_r hs k q; omega)) (fun h64 => ?_) (fun h64 => ?_)
        · first
            | exact J73 (by omega) _ (Or.inr ⟨by omega, rfl⟩)
            | exact J73 (by omega) _ (Or.inl ⟨by omega, rfl⟩)
        · refine r_ldc2 (q := 70) dX5_checksum_67 rfl cX5_193 ?_
          refine r_lload_n (q := 71) dX5_checksum_70 rfl rfl ?_
          refine r_lmul (q := 72) dX5_checksum_71 rfl ?_
          refine r_lstore_n (q := 73) dX5_checksum_72 rfl (by decide) (Lst.set2 rfl) ?_
          first
            | exact J73 (by omega) _ (Or.inr ⟨by omega, rfl⟩)
            | exact J73 (by omega) _ (Or.inl ⟨by omega, rfl⟩)
    have loopp : ∀ p : Int, p ≤ 60 → 0 ≤ p → ∀ a : Int, pk (mT s) (msz s) a p = pk (mT s) (msz s) 7 0 → RW γ mX5_checksum 2 0 0 (rtn (some (.long (zL (mCk s)))) s xs) nX 0 0 11 [some (.ref (ga γ 8 0)), some (.long (zL (a))), none, some (.int (zI (p))), none] [] s xs := by
      refine up (fun p hp9 ih hp0 a hr => ?_)
      refine r_iload_n (q := 12) dX5_checksum_11 rfl rfl ?_
      refine r_aload_n (q := 13) dX5_checksum_12 rfl rfl ?_
      refine g_X5_size (i := 0) (q := 16) dX5_checksum_13 rfl fX5_53 (hG _ _ rfl) ?_
      refine r_icmp_ge (q := 19) (tgt := 39) dX5_checksum_16 rfl (by decide) (by first | omega | (have h9 := hs.tx p.toNat; omega) | (have h9 := hs.rf; omega) | (have h9 := hs.lo k.toNat; omega) | (have h9 := hs.po k.toNat; omega) | (have h9 := mMany_r hs k q; omega)) (by first | omega | (have h9 := hs.tx p.toNat; omega) | (have h9 := hs.rf; omega) | (have h9 := hs.lo k.toNat; omega) | (have h9 := hs.po k.toNat; omega) | (have h9 := mMany_r hs k q; omega)) (fun h16 => ?_) (fun h16 => ?_)
      · refine r_ldc2 (q := 42) dX5_checksum_39 rfl cX5_193 ?_
        refine r_lload_n (q := 43) dX5_checksum_42 rfl rfl ?_
        refine r_lmul (q := 44) dX5_checksum_43 rfl ?_
        refine r_aload_n (q := 45) dX5_checksum_44 rfl rfl ?_
        refine g_X5_refused (i := 0) (q := 48) dX5_checksum_45 rfl fX5_151 (hG _ _ rfl) ?_
        refine r_i2l (q := 49) dX5_checksum_48 rfl (by first | omega | (have h9 := hs.tx p.toNat; omega) | (have h9 := hs.rf; omega) | (have h9 := hs.lo k.toNat; omega) | (have h9 := hs.po k.toNat; omega) | (have h9 := mMany_r hs k q; omega)) ?_
        refine r_ladd (q := 50) dX5_checksum_49 rfl ?_
        refine r_lstore_n (q := 51) dX5_checksum_50 rfl (by decide) (Lst.set2 rfl) ?_
        refine r_iconst (q := 52) dX5_checksum_51 rfl ?_
        refine r_istore_n (q := 53) dX5_checksum_52 rfl (by decide) (Lst.setL rfl rfl) ?_
        exact loopk 0 (by omega) (by omega) _ (by unfold mCk; rw [← hr, pk.eq_def (mT s) (msz s) a p, if_neg (by omega)])
      · refine r_ldc2 (q := 22) dX5_checksum_19 rfl cX5_193 ?_
        refine r_lload_n (q := 23) dX5_checksum_22 rfl rfl ?_
        refine r_lmul (q := 24) dX5_checksum_23 rfl ?_
        refine r_aload_n (q := 25) dX5_checksum_24 rfl rfl ?_
        refine g_X5_text (i := 0) (q := 28) dX5_checksum_25 rfl fX5_7 (hG _ _ rfl) ?_
        refine r_iload_n (q := 29) dX5_checksum_28 rfl rfl ?_
        refine l_mtx (i := 0) (q := 30) dX5_checksum_29 rfl (hG _ _ rfl) (by omega) ?_
        refine r_i2l (q := 31) dX5_checksum_30 rfl (by first | omega | (have h9 := hs.tx p.toNat; omega) | (have h9 := hs.rf; omega) | (have h9 := hs.lo k.toNat; omega) | (have h9 := hs.po k.toNat; omega) | (have h9 := mMany_r hs k q; omega)) ?_
        refine r_ladd (q := 32) dX5_checksum_31 rfl ?_
        refine r_lstore_n (q := 33) dX5_checksum_32 rfl (by decide) (Lst.set2 rfl) ?_
        refine r_iinc (q := 36) dX5_checksum_33 rfl rfl (by decide) (Lst.setL rfl rfl) ?_
        refine r_goto (q := 11) dX5_checksum_36 (by decide) ?_
        exact ih (p + 1) (by omega) (by omega) (by omega) _ (by rw [← hr, pk.eq_def (mT s) (msz s) a p, if_pos (by omega), mT_in (by omega)])
    refine r_lstore_n (q := 9) dX5_checksum_8 rfl (by decide) (Lst.set2 rfl) ?_
    refine r_iconst (q := 10) dX5_checksum_9 rfl ?_
    refine r_istore_n (q := 11) dX5_checksum_10 rfl (by decide) (Lst.setL rfl rfl) ?_
    exact loopp 0 (by omega) (by omega) 7 rfl
  refine r_aload_n (q := 1) dX5_checksum_0 rfl rfl ?_
  refine r_iconst (q := 2) dX5_checksum_1 rfl ?_
  refine p_X5_code (i := 0) (q := 5) dX5_checksum_2 rfl fX5_37 (hG _ _ rfl) ?_
  refine r_ldc2 (q := 8) dX5_checksum_5 rfl cX5_191 ?_
  exact main (sMcd σ 0) (hM.cd 0)
end X5
