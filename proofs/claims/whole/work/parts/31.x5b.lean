/-! The model: looking at the text -/
section X5
variable {γ : Gm} {σ : St} {xs : va_W}
set_option maxRecDepth 100000 in
set_option maxHeartbeats 4000000 in
theorem m_next (hG : Full γ) (hM : Mw σ) {w : Nat} (hw : w < nS) {b : Int} (hb : 0 ≤ b ∧ b ≤ msz σ) : Ev γ mX5_next 5 0 0 [.ref (ga γ 8 0), .int (zI (b)), .ref (gK γ w)] σ xs (rtn (some (.int (zI (nxt (isC (mT σ) w) b (msz σ))))) σ xs) nX := by
  refine Ev.of1 1 [some (.ref (ga γ 8 0)), some (.int (zI (b))), some (.ref (gK γ w)), none] rfl pn_X5_next rfl (Nat.le_of_ble_eq_true rfl) ?_
  have hs := hM.sz
  have loop : ∀ k : Int, k ≤ 100 → b ≤ k → k ≤ msz σ → nxt (isC (mT σ) w) k (msz σ) = nxt (isC (mT σ) w) b (msz σ) → RW γ mX5_next 5 0 0 (rtn (some (.int (zI (nxt (isC (mT σ) w) b (msz σ))))) σ xs) nX 0 0 2 [some (.ref (ga γ 8 0)), some (.int (zI (b))), some (.ref (gK γ w)), some (.int (zI (k)))] [] σ xs := by
    refine up (fun k hk9 ih hbk hke hr => ?_)
    refine r_iload_n (q := 3) dX5_next_2 rfl rfl ?_
    refine r_aload_n (q := 4) dX5_next_3 rfl rfl ?_
    refine g_X5_size (i := 0) (q := 7) dX5_next_4 rfl fX5_53 (hG _ _ rfl) ?_
    refine r_icmp_ge (q := 10) (tgt := 29) dX5_next_7 rfl (by decide) (by first | omega | exact ixO_r hw _) (by first | omega | exact ixO_r hw _) (fun h7 => ?_) (fun h7 => ?_)
    · refine r_iload_n (q := 30) dX5_next_29 rfl rfl ?_
      refine r_reti dX5_next_30 rfl (by decide) (by decide) ?_
      first
        | exact ret_i (by rw [← hr, nxt.eq_def (isC (mT σ) w) k, if_neg (by omega)]; omega)
        | exact ret_i (by rw [← hr, nxt.eq_def (isC (mT σ) w) k, if_pos (by omega), if_pos (show isC (mT σ) w k = true from decide_eq_true (by rw [mT_in (by omega)]; omega))])
    · refine r_aload_n (q := 11) dX5_next_10 rfl rfl ?_
      refine r_aload_n (q := 12) dX5_next_11 rfl rfl ?_
      refine g_X5_text (i := 0) (q := 15) dX5_next_12 rfl fX5_7 (hG _ _ rfl) ?_
      refine r_iload_n (q := 16) dX5_next_15 rfl rfl ?_
      refine l_mtx (i := 0) (q := 17) dX5_next_16 rfl (hG _ _ rfl) (by omega) ?_
      refine cT_1 (My := mJ0_indexOf_0f7a4) (q := 20) dX5_next_17 rfl kX5_47 vJ0_indexOf_0f7a4 hw rfl (j_indexOf hw (by have h8 := hM.tx k.toNat; omega)) ⟨by decide, by decide⟩ ⟨by decide, by decide⟩ (Nat.le_of_ble_eq_true rfl) ?_
      refine r_if_ge (q := 23) (tgt := 29) dX5_next_20 rfl (by decide) (by first | omega | exact ixO_r hw _) (fun h20 => ?_) (fun h20 => ?_)
      · refine r_iload_n (q := 30) dX5_next_29 rfl rfl ?_
        refine r_reti dX5_next_30 rfl (by decide) (by decide) ?_
        first
          | exact ret_i (by rw [← hr, nxt.eq_def (isC (mT σ) w) k, if_neg (by omega)]; omega)
          | exact ret_i (by rw [← hr, nxt.eq_def (isC (mT σ) w) k, if_pos (by omega), if_pos (show isC (mT σ) w k = true from decide_eq_true (by rw [mT_in (by omega)]; omega))])
      · refine r_iinc (q := 26) dX5_next_23 rfl rfl (by decide) (Lst.setL rfl rfl) ?_
        refine r_goto (q := 2) dX5_next_26 (by decide) ?_
        exact ih (k + 1) (by omega) (by omega) (by omega) (by omega) (by rw [← hr, nxt.eq_def (isC (mT σ) w) k, if_pos (by omega), if_neg (by rw [show isC (mT σ) w k = false from decide_eq_false (by rw [mT_in (by omega)]; omega)]; decide)])
  refine r_iload_n (q := 1) dX5_next_0 rfl rfl ?_
  refine r_istore_n (q := 2) dX5_next_1 rfl (by decide) (Lst.setL rfl rfl) ?_
  exact loop b (by omega) (by omega) (by omega) rfl
set_option maxRecDepth 100000 in
set_option maxHeartbeats 4000000 in
theorem m_rest (hG : Full γ) (hM : Mw σ) : Ev γ mX5_rest 6 0 0 [.ref (ga γ 8 0)] σ xs (rtn (some (.int (zI (gCol (mT σ) (msz σ) + 1)))) σ xs) nX := by
  refine Ev.of1 1 [some (.ref (ga γ 8 0)), none] rfl pn_X5_rest rfl (Nat.le_of_ble_eq_true rfl) ?_
  have hs := hM.sz
  have hc9 := gColP_rng (mT σ) hs.1
  have hc8 : nxt (isC (mT σ) 0) 0 (msz σ) = gColP (mT σ) (msz σ) := rfl
  have hx8 : ∀ j, -2147483648 ≤ mtx σ j ∧ mtx σ j ≤ 2147483647 := fun j => by have := hM.tx j; omega
  refine r_aload_n (q := 1) dX5_rest_0 rfl rfl ?_
  refine r_iconst (q := 2) dX5_rest_1 rfl ?_
  refine r_ldcS (i := 0) (tx := ":/?#") (q := 4) dX5_rest_2 rfl (List.mem_of_getElem? (i := 64) rfl) ?_
  refine cX5_2 (My := mX5_next) (q := 7) dX5_rest_4 rfl kX5_85 vX5_next (hG _ _ rfl) rfl (m_next hG hM (by decide) (by omega)) ⟨by decide, by decide⟩ ⟨by decide, by decide⟩ (Nat.le_of_ble_eq_true rfl) ?_
  refine r_istore_n (q := 8) dX5_rest_7 rfl (by decide) (Lst.setL rfl rfl) ?_
  refine r_iload_n (q := 9) dX5_rest_8 rfl rfl ?_
  refine r_aload_n (q := 10) dX5_rest_9 rfl rfl ?_
  refine g_X5_size (i := 0) (q := 13) dX5_rest_10 rfl fX5_53 (hG _ _ rfl) ?_
  refine r_icmp_ge (q := 16) (tgt := 33) dX5_rest_13 rfl (by decide) (by first | omega | exact hx8 _) (by first | omega | exact hx8 _) (fun h13 => ?_) (fun h13 => ?_)
  · refine r_iconst (q := 34) dX5_rest_33 rfl ?_
    refine r_reti dX5_rest_34 rfl (by decide) (by decide) ?_
    first
      | exact ret_i (by rw [gCol_y (by rw [mT_in (by omega)]; assumption)]; rfl)
      | exact ret_i (by rw [gCol_n (by first | (rw [mT_out (by omega)]; decide) | (rw [mT_in (by omega)]; assumption))]; rfl)
  · refine r_aload_n (q := 17) dX5_rest_16 rfl rfl ?_
    refine g_X5_text (i := 0) (q := 20) dX5_rest_17 rfl fX5_7 (hG _ _ rfl) ?_
    refine r_iload_n (q := 21) dX5_rest_20 rfl rfl ?_
    refine l_mtx (i := 0) (q := 22) dX5_rest_21 rfl (hG _ _ rfl) (by show 0 ≤ gColP (mT σ) (msz σ) ∧ gColP (mT σ) (msz σ) < 60; omega) ?_
    refine r_bipush (q := 24) dX5_rest_22 rfl (bip (by decide) (by decide)) ?_
    refine r_icmp_ne (q := 27) (tgt := 33) dX5_rest_24 rfl (by decide) (by first | omega | exact hx8 _) (by first | omega | exact hx8 _) (fun h24 => ?_) (fun h24 => ?_)
    · refine r_iconst (q := 34) dX5_rest_33 rfl ?_
      refine r_reti dX5_rest_34 rfl (by decide) (by decide) ?_
      first
        | exact ret_i (by rw [gCol_y (by rw [mT_in (by omega)]; assumption)]; rfl)
        | exact ret_i (by rw [gCol_n (by first | (rw [mT_out (by omega)]; decide) | (rw [mT_in (by omega)]; assumption))]; rfl)
    · refine r_iload_n (q := 28) dX5_rest_27 rfl rfl ?_
      refine r_iconst (q := 29) dX5_rest_28 rfl ?_
      refine r_iadd (q := 30) dX5_rest_29 rfl ?_
      refine r_goto (q := 34) dX5_rest_30 (by decide) ?_
      refine r_reti dX5_rest_34 rfl (by decide) (by decide) ?_
      first
        | exact ret_i (by rw [gCol_y (by rw [mT_in (by omega)]; assumption)]; rfl)
        | exact ret_i (by rw [gCol_n (by first | (rw [mT_out (by omega)]; decide) | (rw [mT_in (by omega)]; assumption))]; rfl)
set_option maxRecDepth 100000 in
set_option maxHeartbeats 4000000 in
theorem m_isAt (hG : Full γ) (hM : Mw σ) {p c : Int} (hp : 0 ≤ p ∧ p ≤ 1000) (hc : 1 ≤ c ∧ c ≤ 65535) : Ev γ mX5_isAt 1 0 0 [.ref (ga γ 8 0), .int (zI (p)), .int (zI (c))] σ xs (rtn (some (.int (zI (bI (decide (mT σ p = c)))))) σ xs) nX := by
  refine Ev.of1 0 [some (.ref (ga γ 8 0)), some (.int (zI (p))), some (.int (zI (c)))] rfl pn_X5_isAt rfl (Nat.le_of_ble_eq_true rfl) ?_
  have hs := hM.sz
  refine r_iload_n (q := 1) dX5_isAt_0 rfl rfl ?_
  refine r_aload_n (q := 2) dX5_isAt_1 rfl rfl ?_
  refine g_X5_size (i := 0) (q := 5) dX5_isAt_2 rfl fX5_53 (hG _ _ rfl) ?_
  refine r_icmp_ge (q := 8) (tgt := 22) dX5_isAt_5 rfl (by decide) (by first | omega | (have h8 := hM.tx p.toNat; omega)) (by first | omega | (have h8 := hM.tx p.toNat; omega)) (fun h5 => ?_) (fun h5 => ?_)
  · refine r_iconst (q := 23) dX5_isAt_22 rfl ?_
    refine r_retz dX5_isAt_23 rfl (by first | rfl | exact narB _) (by decide) (by decide) ?_
    first
      | exact ret_i (by rw [decide_eq_true (by rw [mT_in (by omega)]; assumption)]; rfl)
      | exact ret_i (by rw [decide_eq_false (by first | (rw [mT_in (by omega)]; assumption) | (rw [mT_out (by omega)]; omega))]; rfl)
  · refine r_aload_n (q := 9) dX5_isAt_8 rfl rfl ?_
    refine g_X5_text (i := 0) (q := 12) dX5_isAt_9 rfl fX5_7 (hG _ _ rfl) ?_
    refine r_iload_n (q := 13) dX5_isAt_12 rfl rfl ?_
    refine l_mtx (i := 0) (q := 14) dX5_isAt_13 rfl (hG _ _ rfl) (by omega) ?_
    refine r_iload_n (q := 15) dX5_isAt_14 rfl rfl ?_
    refine r_icmp_ne (q := 18) (tgt := 22) dX5_isAt_15 rfl (by decide) (by first | omega | (have h8 := hM.tx p.toNat; omega)) (by first | omega | (have h8 := hM.tx p.toNat; omega)) (fun h15 => ?_) (fun h15 => ?_)
    · refine r_iconst (q := 23) dX5_isAt_22 rfl ?_
      refine r_retz dX5_isAt_23 rfl (by first | rfl | exact narB _) (by decide) (by decide) ?_
      first
        | exact ret_i (by rw [decide_eq_true (by rw [mT_in (by omega)]; assumption)]; rfl)
        | exact ret_i (by rw [decide_eq_false (by first | (rw [mT_in (by omega)]; assumption) | (rw [mT_out (by omega)]; omega))]; rfl)
    · refine r_iconst (q := 19) dX5_isAt_18 rfl ?_
      refine r_goto (q := 23) dX5_isAt_19 (by decide) ?_
      refine r_retz dX5_isAt_23 rfl (by first | rfl | exact narB _) (by decide) (by decide) ?_
      first
        | exact ret_i (by rw [decide_eq_true (by rw [mT_in (by omega)]; assumption)]; rfl)
        | exact ret_i (by rw [decide_eq_false (by first | (rw [mT_in (by omega)]; assumption) | (rw [mT_out (by omega)]; omega))]; rfl)
def mBad (t : Int → Int) (b e : Int) : Int := if nxt (isC t 3) b e < e then nxt (isC t 3) b e else -1
set_option maxRecDepth 100000 in
set_option maxHeartbeats 4000000 in
theorem m_bad (hG : Full γ) (hM : Mw σ) {b e : Int} (hb : 0 ≤ b ∧ b ≤ e) (he : e ≤ msz σ) : Ev γ mX5_bad 2 0 0 [.ref (ga γ 8 0), .int (zI (b)), .int (zI (e))] σ xs (rtn (some (.int (zI (mBad (mT σ) b e)))) σ xs) nX := by
  refine Ev.of1 1 [some (.ref (ga γ 8 0)), some (.int (zI (b))), some (.int (zI (e))), none] rfl pn_X5_bad rfl (Nat.le_of_ble_eq_true rfl) ?_
  have hs := hM.sz
  have loop : ∀ k : Int, k ≤ 100 → b ≤ k → k ≤ e → nxt (isC (mT σ) 3) k e = nxt (isC (mT σ) 3) b e → RW γ mX5_bad 2 0 0 (rtn (some (.int (zI (mBad (mT σ) b e)))) σ xs) nX 0 0 2 [some (.ref (ga γ 8 0)), some (.int (zI (b))), some (.int (zI (e))), some (.int (zI (k)))] [] σ xs := by
    refine up (fun k hk9 ih hbk hke hr => ?_)
    refine r_iload_n (q := 3) dX5_bad_2 rfl rfl ?_
    refine r_iload_n (q := 4) dX5_bad_3 rfl rfl ?_
    refine r_icmp_ge (q := 7) (tgt := 27) dX5_bad_4 rfl (by decide) (by omega) (by omega) (fun h4 => ?_) (fun h4 => ?_)
    · refine r_iconst (q := 28) dX5_bad_27 rfl ?_
      refine r_reti dX5_bad_28 rfl (by decide) (by decide) ?_
      first
        | (have e9 : nxt (isC (mT σ) 3) b e = e := by rw [← hr, nxt.eq_def, if_neg (by omega)]
           exact ret_i (by unfold mBad; rw [if_neg (by omega)]))
        | (have e9 : nxt (isC (mT σ) 3) b e = k := by rw [← hr, nxt.eq_def, if_pos (by omega), if_pos (show isC (mT σ) 3 k = true by unfold isC; rw [mT_in (by omega)]; assumption)]
           exact ret_i (by unfold mBad; rw [e9, if_pos (by omega)]))
    · refine r_aload_n (q := 8) dX5_bad_7 rfl rfl ?_
      refine g_X5_text (i := 0) (q := 11) dX5_bad_8 rfl fX5_7 (hG _ _ rfl) ?_
      refine r_iload_n (q := 12) dX5_bad_11 rfl rfl ?_
      refine l_mtx (i := 0) (q := 13) dX5_bad_12 rfl (hG _ _ rfl) (by omega) ?_
      refine cS_1 (My := mX5_isBad) (q := 16) dX5_bad_13 rfl kX5_89 vX5_isBad (m_isBad (by have h8 := hM.tx k.toNat; omega)) ⟨by decide, by decide⟩ ⟨by decide, by decide⟩ (Nat.le_of_ble_eq_true rfl) ?_
      refine r_ifB_eq (q := 19) (tgt := 21) dX5_bad_16 rfl (by decide) (fun h16 => ?_) (fun h16 => ?_)
      · refine r_iinc (q := 24) dX5_bad_21 rfl rfl (by decide) (Lst.setL rfl rfl) ?_
        refine r_goto (q := 2) dX5_bad_24 (by decide) ?_
        exact ih (k + 1) (by omega) (by omega) (by omega) (by omega) (by rw [← hr, nxt.eq_def (isC (mT σ) 3) k, if_pos (by omega), if_neg (by rw [show isC (mT σ) 3 k = false by unfold isC; rw [mT_in (by omega)]; assumption]; decide)])
      · refine r_iload_n (q := 20) dX5_bad_19 rfl rfl ?_
        refine r_reti dX5_bad_20 rfl (by decide) (by decide) ?_
        first
          | (have e9 : nxt (isC (mT σ) 3) b e = e := by rw [← hr, nxt.eq_def, if_neg (by omega)]
             exact ret_i (by unfold mBad; rw [if_neg (by omega)]))
          | (have e9 : nxt (isC (mT σ) 3) b e = k := by rw [← hr, nxt.eq_def, if_pos (by omega), if_pos (show isC (mT σ) 3 k = true by unfold isC; rw [mT_in (by omega)]; assumption)]
             exact ret_i (by unfold mBad; rw [e9, if_pos (by omega)]))
  refine r_iload_n (q := 1) dX5_bad_0 rfl rfl ?_
  refine r_istore_n (q := 2) dX5_bad_1 rfl (by decide) (Lst.setL rfl rfl) ?_
  exact loop b (by omega) (by omega) (by omega) rfl
def mSl (t : Int → Int) (n : Int) : Int := if gSl t (gCol t n + 1) = true then gCol t n + 1 + 2 else -1
theorem mSl_y {t : Int → Int} {n : Int} (h : gSl t (gCol t n + 1) = true) : mSl t n = gCol t n + 1 + 2 := if_pos h
theorem mSl_n {t : Int → Int} {n : Int} (h : gSl t (gCol t n + 1) = false) : mSl t n = -1 := if_neg (by rw [h]; decide)
set_option maxRecDepth 100000 in
set_option maxHeartbeats 4000000 in
theorem m_slashes (hG : Full γ) (hM : Mw σ) : Ev γ mX5_slashes 7 0 0 [.ref (ga γ 8 0)] σ xs (rtn (some (.int (zI (mSl (mT σ) (msz σ))))) σ xs) nX := by
  refine Ev.of1 1 [some (.ref (ga γ 8 0)), none] rfl pn_X5_slashes rfl (Nat.le_of_ble_eq_true rfl) ?_
  have hs := hM.sz
  have hc9 := gCol_rng (mT σ) hs.1
  refine r_aload_n (q := 1) dX5_slashes_0 rfl rfl ?_
  refine cX5_0 (My := mX5_rest) (q := 4) dX5_slashes_1 rfl kX5_92 vX5_rest (hG _ _ rfl) rfl (m_rest hG hM) ⟨by decide, by decide⟩ ⟨by decide, by decide⟩ (Nat.le_of_ble_eq_true rfl) ?_
  refine r_istore_n (q := 5) dX5_slashes_4 rfl (by decide) (Lst.setL rfl rfl) ?_
  refine r_aload_n (q := 6) dX5_slashes_5 rfl rfl ?_
  refine r_iload_n (q := 7) dX5_slashes_6 rfl rfl ?_
  refine r_bipush (q := 9) dX5_slashes_7 rfl (bip (by decide) (by decide)) ?_
  refine cX5_2 (My := mX5_isAt) (q := 12) dX5_slashes_9 rfl kX5_96 vX5_isAt (hG _ _ rfl) rfl (m_isAt hG hM (by omega) (by omega)) ⟨by decide, by decide⟩ ⟨by decide, by decide⟩ (Nat.le_of_ble_eq_true rfl) ?_
  refine r_ifB_eq (q := 15) (tgt := 33) dX5_slashes_12 rfl (by decide) (fun h12 => ?_) (fun h12 => ?_)
  · refine r_iconst (q := 34) dX5_slashes_33 rfl ?_
    refine r_reti dX5_slashes_34 rfl (by decide) (by decide) ?_
    first
      | exact ret_i (mSl_y (decide_eq_true ⟨of_decide_eq_true h12, of_decide_eq_true h24⟩)).symm
      | exact ret_i (mSl_n (decide_eq_false (fun z => of_decide_eq_false h12 z.1))).symm
      | exact ret_i (mSl_n (decide_eq_false (fun z => of_decide_eq_false h24 z.2))).symm
  · refine r_aload_n (q := 16) dX5_slashes_15 rfl rfl ?_
    refine r_iload_n (q := 17) dX5_slashes_16 rfl rfl ?_
    refine r_iconst (q := 18) dX5_slashes_17 rfl ?_
    refine r_iadd (q := 19) dX5_slashes_18 rfl ?_
    refine r_bipush (q := 21) dX5_slashes_19 rfl (bip (by decide) (by decide)) ?_
    refine cX5_2 (My := mX5_isAt) (q := 24) dX5_slashes_21 rfl kX5_96 vX5_isAt (hG _ _ rfl) rfl (m_isAt hG hM (by omega) (by omega)) ⟨by decide, by decide⟩ ⟨by decide, by decide⟩ (Nat.le_of_ble_eq_true rfl) ?_
    refine r_ifB_eq (q := 27) (tgt := 33) dX5_slashes_24 rfl (by decide) (fun h24 => ?_) (fun h24 => ?_)
    · refine r_iconst (q := 34) dX5_slashes_33 rfl ?_
      refine r_reti dX5_slashes_34 rfl (by decide) (by decide) ?_
      first
        | exact ret_i (mSl_y (decide_eq_true ⟨of_decide_eq_true h12, of_decide_eq_true h24⟩)).symm
        | exact ret_i (mSl_n (decide_eq_false (fun z => of_decide_eq_false h12 z.1))).symm
        | exact ret_i (mSl_n (decide_eq_false (fun z => of_decide_eq_false h24 z.2))).symm
    · refine r_iload_n (q := 28) dX5_slashes_27 rfl rfl ?_
      refine r_iconst (q := 29) dX5_slashes_28 rfl ?_
      refine r_iadd (q := 30) dX5_slashes_29 rfl ?_
      refine r_goto (q := 34) dX5_slashes_30 (by decide) ?_
      refine r_reti dX5_slashes_34 rfl (by decide) (by decide) ?_
      first
        | exact ret_i (mSl_y (decide_eq_true ⟨of_decide_eq_true h12, of_decide_eq_true h24⟩)).symm
        | exact ret_i (mSl_n (decide_eq_false (fun z => of_decide_eq_false h12 z.1))).symm
        | exact ret_i (mSl_n (decide_eq_false (fun z => of_decide_eq_false h24 z.2))).symm
def mCut (σ : St) (k : Nat) (b e : Int) : St := sMen (sMbe σ (u1 (mbe σ) k b)) (u1 (men σ) k e)
set_option maxRecDepth 100000 in
set_option maxHeartbeats 4000000 in
theorem m_cut (hG : Full γ) {c b e : Int} {k : Nat} (hc : -2147483648 ≤ c ∧ c ≤ 2147483647) (hk : ixO (tS 51) c = (k : Int)) (h9 : k < 9) : Ev γ mX5_cut 6 0 0 [.ref (ga γ 8 0), .int (zI (c)), .int (zI (b)), .int (zI (e))] σ xs (rtn none (mCut σ k b e) xs) nX := by
  refine Ev.of1 0 [some (.ref (ga γ 8 0)), some (.int (zI (c))), some (.int (zI (b))), some (.int (zI (e)))] rfl pn_X5_cut rfl (Nat.le_of_ble_eq_true rfl) ?_
  refine r_aload_n (q := 1) dX5_cut_0 rfl rfl ?_
  refine g_X5_begin (i := 0) (q := 4) dX5_cut_1 rfl fX5_31 (hG _ _ rfl) ?_
  refine r_iload_n (q := 5) dX5_cut_4 rfl rfl ?_
  refine cS_1 (My := mX5_partOf) (q := 8) dX5_cut_5 rfl kX5_100 vX5_partOf (m_partOf hc) ⟨by decide, by decide⟩ ⟨by decide, by decide⟩ (Nat.le_of_ble_eq_true rfl) ?_
  refine r_iload_n (q := 9) dX5_cut_8 rfl rfl ?_
  refine s_mbe (i := 0) (q := 10) dX5_cut_9 rfl (hG _ _ rfl) (by omega) ?_
  refine r_aload_n (q := 11) dX5_cut_10 rfl rfl ?_
  refine g_X5_end (i := 0) (q := 14) dX5_cut_11 rfl fX5_34 (hG _ _ rfl) ?_
  refine r_iload_n (q := 15) dX5_cut_14 rfl rfl ?_
  refine cS_1 (My := mX5_partOf) (q := 18) dX5_cut_15 rfl kX5_100 vX5_partOf (m_partOf hc) ⟨by decide, by decide⟩ ⟨by decide, by decide⟩ (Nat.le_of_ble_eq_true rfl) ?_
  refine r_iload_n (q := 19) dX5_cut_18 rfl rfl ?_
  refine s_men (i := 0) (q := 20) dX5_cut_19 rfl (hG _ _ rfl) (by omega) ?_
  refine r_retv dX5_cut_20 rfl (by decide) (by decide) ?_
  exact ret_v (by rw [hk]; rfl)
end X5
