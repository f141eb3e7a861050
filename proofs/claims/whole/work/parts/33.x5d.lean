/-! The model: the authority, and all parts -/
theorem gNumF_r9 (t : Int → Int) (e most a p : Int) : True := trivial
section X5
variable {γ : Gm} {σ : St} {xs : va_W} {t : Int → Int} {n : Int}
set_option maxRecDepth 100000 in
set_option maxHeartbeats 4000000 in
theorem m_authority (hG : Full γ) (hP : Mp σ t n) {b e : Int} (hb : 0 ≤ b ∧ b ≤ e) (he : e ≤ n) : Ev γ mX5_authority 7 0 0 [.ref (ga γ 8 0), .int (zI (b)), .int (zI (e))] σ xs (rtn none (mAut σ t b e) xs) nX := by
  refine Ev.of1 6 [some (.ref (ga γ 8 0)), some (.int (zI (b))), some (.int (zI (e))), none, none, none, none, none, none] rfl pn_X5_authority rfl (Nat.le_of_ble_eq_true rfl) ?_
  have hn := hP.n
  have h_9 := h_r t hb.2
  have J168 : mAutB t b e = true → RW γ mX5_authority 7 0 0 (rtn none (mAut σ t b e) xs) nX 0 0 168 [some (.ref (ga γ 8 0)), some (.int (zI (b))), some (.int (zI (e))), some (.int (zI (hSign t b e))), some (.int (zI (hHost t b e))), some (.int (zI (hCol t b e))), some (.long (zL (mPort t b e))), none, none] [] (mAut1 σ t b e) xs := by
    intro hB
    refine r_aload_n (q := 169) dX5_authority_168 rfl rfl ?_
    refine r_bipush (q := 171) dX5_authority_169 rfl (bip (by decide) (by decide)) ?_
    refine r_iload (q := 173) dX5_authority_171 rfl rfl ?_
    refine r_iload (q := 175) dX5_authority_173 rfl rfl ?_
    refine cX5_3v (My := mX5_cut) (q := 178) dX5_authority_175 rfl kX5_113 vX5_cut (hG _ _ rfl) rfl (m_cut hG (k := 4) (by decide) (by decide) (by decide)) ⟨by decide, by decide⟩ ⟨by decide, by decide⟩ (Nat.le_of_ble_eq_true rfl) ?_
    refine r_iload (q := 180) dX5_authority_178 rfl rfl ?_
    refine r_iconst (q := 181) dX5_authority_180 rfl ?_
    refine r_iadd (q := 182) dX5_authority_181 rfl ?_
    refine r_iload_n (q := 183) dX5_authority_182 rfl rfl ?_
    refine r_icmp_ge (q := 186) (tgt := 193) dX5_authority_183 rfl (by decide) (by omega) (by omega) (fun h183 => ?_) (fun h183 => ?_)
    · refine r_retv dX5_authority_193 rfl (by decide) (by decide) ?_
      first
        | exact ret_v (by unfold mAut; rw [if_pos hB, if_pos (by omega)]; rfl)
        | exact ret_v (by unfold mAut; rw [if_pos hB, if_neg (by omega)]; rfl)
    · refine r_aload_n (q := 187) dX5_authority_186 rfl rfl ?_
      refine r_lload (q := 189) dX5_authority_187 rfl rfl ?_
      refine r_l2i (q := 190) dX5_authority_189 rfl ?_
      refine p_X5_port (i := 0) (q := 193) dX5_authority_190 rfl fX5_104 (hG _ _ rfl) ?_
      refine r_retv dX5_authority_193 rfl (by decide) (by decide) ?_
      first
        | exact ret_v (by unfold mAut; rw [if_pos hB, if_pos (by omega)]; rfl)
        | exact ret_v (by unfold mAut; rw [if_pos hB, if_neg (by omega)]; rfl)
  have J155 : mAutB t b e = true → RW γ mX5_authority 7 0 0 (rtn none (mAut σ t b e) xs) nX 0 0 155 [some (.ref (ga γ 8 0)), some (.int (zI (b))), some (.int (zI (e))), some (.int (zI (hSign t b e))), some (.int (zI (hHost t b e))), some (.int (zI (hCol t b e))), some (.long (zL (mPort t b e))), none, none] [] (σ) xs := by
    intro hB
    refine r_iload_n (q := 156) dX5_authority_155 rfl rfl ?_
    refine r_iload_n (q := 157) dX5_authority_156 rfl rfl ?_
    refine r_icmp_ge (q := 160) (tgt := 168) dX5_authority_157 rfl (by decide) (by omega) (by omega) (fun h157 => ?_) (fun h157 => ?_)
    · first
        | (have e9 : mAut1 σ t b e = mCut σ 3 b (hSign t b e) := if_pos (by omega)
           have J := J168 hB
           rw [e9] at J; exact J)
        | (have e9 : mAut1 σ t b e = σ := if_neg (by omega)
           have J := J168 hB
           rw [e9] at J; exact J)
    · refine r_aload_n (q := 161) dX5_authority_160 rfl rfl ?_
      refine r_bipush (q := 163) dX5_authority_161 rfl (bip (by decide) (by decide)) ?_
      refine r_iload_n (q := 164) dX5_authority_163 rfl rfl ?_
      refine r_iload_n (q := 165) dX5_authority_164 rfl rfl ?_
      refine cX5_3v (My := mX5_cut) (q := 168) dX5_authority_165 rfl kX5_113 vX5_cut (hG _ _ rfl) rfl (m_cut hG (k := 3) (by decide) (by decide) (by decide)) ⟨by decide, by decide⟩ ⟨by decide, by decide⟩ (Nat.le_of_ble_eq_true rfl) ?_
      first
        | (have e9 : mAut1 σ t b e = mCut σ 3 b (hSign t b e) := if_pos (by omega)
           have J := J168 hB
           rw [e9] at J; exact J)
        | (have e9 : mAut1 σ t b e = σ := if_neg (by omega)
           have J := J168 hB
           rw [e9] at J; exact J)
  have J89 : (mNumF t (hCol t b e) 0 0 (hHost t b e) || mLabF t (gStop t (hHost t b e) (hCol t b e)) (hHost t b e) 0 (hHost t b e)) = true → RW γ mX5_authority 7 0 0 (rtn none (mAut σ t b e) xs) nX 0 0 89 [some (.ref (ga γ 8 0)), some (.int (zI (b))), some (.int (zI (e))), some (.int (zI (hSign t b e))), some (.int (zI (hHost t b e))), some (.int (zI (hCol t b e))), none, none, none] [] (σ) xs := by
    intro hH
    have hyes : mPort t b e ≠ -1 → mAutB t b e = true := fun h => by unfold mAutB; rw [hH, decide_eq_true h]; rfl
    have hno : mPort t b e = -1 → mAutB t b e = false := fun h => by unfold mAutB; rw [decide_eq_false (by omega), Bool.and_false]
    have loop : ∀ k : Int, k ≤ 100 → hCol t b e + 1 ≤ k → k ≤ e + 1 → ∀ a : Int, (0 ≤ a ∧ a ≤ 2147483647) → gNumF t e 2147483647 a k = mPort t b e → RW γ mX5_authority 7 0 0 (rtn none (mAut σ t b e) xs) nX 0 0 98 [some (.ref (ga γ 8 0)), some (.int (zI (b))), some (.int (zI (e))), some (.int (zI (hSign t b e))), some (.int (zI (hHost t b e))), some (.int (zI (hCol t b e))), some (.long (zL a)), none, some (.int (zI (k)))] [] (σ) xs := by
      refine up (fun k hk9 ih hbk hke a ha hr => ?_)
      have hr0 := hP.r0 k
      refine r_iload (q := 100) dX5_authority_98 rfl rfl ?_
      refine r_iload_n (q := 101) dX5_authority_100 rfl rfl ?_
      refine r_icmp_ge (q := 104) (tgt := 155) dX5_authority_101 rfl (by decide) (by first | omega | exact hP.r _) (by first | omega | exact hP.r _) (fun h101 => ?_) (fun h101 => ?_)
      · have e9 : mPort t b e = a := by rw [← hr, gNumF.eq_def t e 2147483647 a k, if_neg (by omega)]
        have J := J155 (hyes (by omega))
        rw [e9] at J
        refine RW.drop 8 ?_
        exact J
      · refine r_aload_n (q := 105) dX5_authority_104 rfl rfl ?_
        refine g_X5_text (i := 0) (q := 108) dX5_authority_105 rfl fX5_7 (hG _ _ rfl) ?_
        refine r_iload (q := 110) dX5_authority_108 rfl rfl ?_
        refine l_mT hP (q := 111) dX5_authority_110 rfl (hG _ _ rfl) (by omega) ?_
        refine cS_1 (My := mX5_isDigit) (q := 114) dX5_authority_111 rfl kX5_110 vX5_isDigit (m_isDigit (hP.r _)) ⟨by decide, by decide⟩ ⟨by decide, by decide⟩ (Nat.le_of_ble_eq_true rfl) ?_
        refine r_ifB_ne (q := 117) (tgt := 118) dX5_authority_114 rfl (by decide) (fun h114 => ?_) (fun h114 => ?_)
        · refine r_ldc2 (q := 121) dX5_authority_118 rfl cX5_139 ?_
          refine r_lload (q := 123) dX5_authority_121 rfl rfl ?_
          refine r_lmul (q := 124) dX5_authority_123 rfl ?_
          refine r_aload_n (q := 125) dX5_authority_124 rfl rfl ?_
          refine g_X5_text (i := 0) (q := 128) dX5_authority_125 rfl fX5_7 (hG _ _ rfl) ?_
          refine r_iload (q := 130) dX5_authority_128 rfl rfl ?_
          refine l_mT hP (q := 131) dX5_authority_130 rfl (hG _ _ rfl) (by omega) ?_
          refine r_i2l (q := 132) dX5_authority_131 rfl (by first | omega | exact hP.r _) ?_
          refine r_ladd (q := 133) dX5_authority_132 rfl ?_
          refine r_ldc2 (q := 136) dX5_authority_133 rfl cX5_141 ?_
          refine r_lsub (q := 137) dX5_authority_136 rfl ?_
          refine r_lstore (q := 139) dX5_authority_137 rfl (by decide) (Lst.set2 rfl) ?_
          refine r_lload (q := 141) dX5_authority_139 rfl rfl ?_
          refine r_ldc2 (q := 144) dX5_authority_141 rfl cX5_143 ?_
          refine r_lcmp (q := 145) dX5_authority_144 rfl (by first | omega | exact hP.r _) (by first | omega | exact hP.r _) (fun z144 hz144 => ?_)
          refine r_if_le (q := 148) (tgt := 149) dX5_authority_145 rfl (by decide) (by first | omega | exact hP.r _) (fun h145 => ?_) (fun h145 => ?_)
          · refine r_iinc (q := 152) dX5_authority_149 rfl rfl (by decide) (Lst.setL rfl rfl) ?_
            refine r_goto (q := 98) dX5_authority_152 (by decide) ?_
            have hg := gDig_r h114
            have e8 : 10 * a + t k - 48 = 10 * a + (t k - 48) := by omega
            exact ih (k + 1) (by omega) (by omega) (by omega) (by omega) (10 * a + t k - 48) (by omega) (by rw [← hr, gNumF.eq_def t e 2147483647 a k, if_pos (by omega), if_pos h114, if_neg (by omega), e8])
          · refine r_retv dX5_authority_148 rfl (by decide) (by decide) ?_
            exact ret_v (by unfold mAut; rw [if_neg (by rw [show mAutB t b e = false from hno (by rw [← hr, gNumF.eq_def t e 2147483647 a k, if_pos (by omega)]; first | rw [if_neg (by rw [h114]; decide)] | rw [if_pos h114, if_pos (by omega)])]; decide)])
        · refine r_retv dX5_authority_117 rfl (by decide) (by decide) ?_
          exact ret_v (by unfold mAut; rw [if_neg (by rw [show mAutB t b e = false from hno (by rw [← hr, gNumF.eq_def t e 2147483647 a k, if_pos (by omega)]; first | rw [if_neg (by rw [h114]; decide)] | rw [if_pos h114, if_pos (by omega)])]; decide)])
    refine r_lconst (z := 0) (q := 90) dX5_authority_89 rfl (by decide +kernel) ?_
    refine r_lstore (q := 92) dX5_authority_90 rfl (by decide) (Lst.set2 rfl) ?_
    refine r_iload (q := 94) dX5_authority_92 rfl rfl ?_
    refine r_iconst (q := 95) dX5_authority_94 rfl ?_
    refine r_iadd (q := 96) dX5_authority_95 rfl ?_
    refine r_istore (q := 98) dX5_authority_96 rfl (by decide) (Lst.setL rfl rfl) ?_
    exact loop (hCol t b e + 1) (by omega) (by omega) (by omega) 0 (by omega) rfl
  have J66 : RW γ mX5_authority 7 0 0 (rtn none (mAut σ t b e) xs) nX 0 0 66 [some (.ref (ga γ 8 0)), some (.int (zI (b))), some (.int (zI (e))), some (.int (zI (hSign t b e))), some (.int (zI (hHost t b e))), some (.int (zI (hCol t b e))), none, none, none] [] (σ) xs := by
    refine r_aload_n (q := 67) dX5_authority_66 rfl rfl ?_
    refine r_iload (q := 69) dX5_authority_67 rfl rfl ?_
    refine r_iload (q := 71) dX5_authority_69 rfl rfl ?_
    refine cX5_2 (My := mX5_isNumbers) (q := 74) dX5_authority_71 rfl kX5_133 vX5_isNumbers (hG _ _ rfl) rfl (m_isNumbers hG hP (by omega) (by omega)) ⟨by decide, by decide⟩ ⟨by decide, by decide⟩ (Nat.le_of_ble_eq_true rfl) ?_
    refine r_ifB_ne (q := 77) (tgt := 89) dX5_authority_74 rfl (by decide) (fun h74 => ?_) (fun h74 => ?_)
    · first
        | exact J89 (by rw [h74]; rfl)
        | exact J89 (by rw [h85, Bool.or_true])
    · refine r_aload_n (q := 78) dX5_authority_77 rfl rfl ?_
      refine r_iload (q := 80) dX5_authority_78 rfl rfl ?_
      refine r_iload (q := 82) dX5_authority_80 rfl rfl ?_
      refine cX5_2 (My := mX5_isLabels) (q := 85) dX5_authority_82 rfl kX5_136 vX5_isLabels (hG _ _ rfl) rfl (m_isLabels hG hP (by omega) (by omega)) ⟨by decide, by decide⟩ ⟨by decide, by decide⟩ (Nat.le_of_ble_eq_true rfl) ?_
      refine r_ifB_ne (q := 88) (tgt := 89) dX5_authority_85 rfl (by decide) (fun h85 => ?_) (fun h85 => ?_)
      · first
          | exact J89 (by rw [h74]; rfl)
          | exact J89 (by rw [h85, Bool.or_true])
      · refine r_retv dX5_authority_88 rfl (by decide) (by decide) ?_
        exact ret_v (by unfold mAut; rw [if_neg (by unfold mAutB; rw [h74, h85]; simp)])
  have loop2 : ∀ k : Int, k ≤ 100 → hHost t b e ≤ k → k ≤ e → nxt (isC t 7) k e = hCol t b e → RW γ mX5_authority 7 0 0 (rtn none (mAut σ t b e) xs) nX 0 0 42 [some (.ref (ga γ 8 0)), some (.int (zI (b))), some (.int (zI (e))), some (.int (zI (hSign t b e))), some (.int (zI (hHost t b e))), some (.int (zI (k))), none, none, none] [] (σ) xs := by
    refine up (fun k hk9 ih hbk hke hr => ?_)
    refine r_iload (q := 44) dX5_authority_42 rfl rfl ?_
    refine r_iload_n (q := 45) dX5_authority_44 rfl rfl ?_
    refine r_icmp_ge (q := 48) (tgt := 66) dX5_authority_45 rfl (by decide) (by first | omega | exact hP.r _) (by first | omega | exact hP.r _) (fun h45 => ?_) (fun h45 => ?_)
    · first
        | (have e9 : hCol t b e = k := by rw [← hr, nxt.eq_def (isC t 7) k, if_neg (by omega)]; omega
           rw [e9] at J66; exact J66)
        | (have e9 : hCol t b e = k := by rw [← hr, nxt.eq_def (isC t 7) k, if_pos (by omega), if_pos (show isC t 7 k = true from (ix7 (t k)).trans (decide_eq_true (by omega)))]
           rw [e9] at J66; exact J66)
    · refine r_aload_n (q := 49) dX5_authority_48 rfl rfl ?_
      refine g_X5_text (i := 0) (q := 52) dX5_authority_49 rfl fX5_7 (hG _ _ rfl) ?_
      refine r_iload (q := 54) dX5_authority_52 rfl rfl ?_
      refine l_mT hP (q := 55) dX5_authority_54 rfl (hG _ _ rfl) (by omega) ?_
      refine r_bipush (q := 57) dX5_authority_55 rfl (bip (by decide) (by decide)) ?_
      refine r_icmp_eq (q := 60) (tgt := 66) dX5_authority_57 rfl (by decide) (by first | omega | exact hP.r _) (by first | omega | exact hP.r _) (fun h57 => ?_) (fun h57 => ?_)
      · first
          | (have e9 : hCol t b e = k := by rw [← hr, nxt.eq_def (isC t 7) k, if_neg (by omega)]; omega
             rw [e9] at J66; exact J66)
          | (have e9 : hCol t b e = k := by rw [← hr, nxt.eq_def (isC t 7) k, if_pos (by omega), if_pos (show isC t 7 k = true from (ix7 (t k)).trans (decide_eq_true (by omega)))]
             rw [e9] at J66; exact J66)
      · refine r_iinc (q := 63) dX5_authority_60 rfl rfl (by decide) (Lst.setL rfl rfl) ?_
        refine r_goto (q := 42) dX5_authority_63 (by decide) ?_
        exact ih (k + 1) (by omega) (by omega) (by omega) (by omega) (by rw [← hr, nxt.eq_def (isC t 7) k, if_pos (by omega), if_neg (by rw [show isC t 7 k = false from (ix7 (t k)).trans (decide_eq_false (by omega))]; decide)])
  have J36 : RW γ mX5_authority 7 0 0 (rtn none (mAut σ t b e) xs) nX 0 0 36 [some (.ref (ga γ 8 0)), some (.int (zI (b))), some (.int (zI (e))), some (.int (zI (hSign t b e))), none, none, none, none, none] [.int (zI (hHost t b e))] (σ) xs := by
    refine r_istore (q := 38) dX5_authority_36 rfl (by decide) (Lst.setL rfl rfl) ?_
    refine r_iload (q := 40) dX5_authority_38 rfl rfl ?_
    refine r_istore (q := 42) dX5_authority_40 rfl (by decide) (Lst.setL rfl rfl) ?_
    exact loop2 (hHost t b e) (by omega) (by omega) (by omega) rfl
  have J24 : RW γ mX5_authority 7 0 0 (rtn none (mAut σ t b e) xs) nX 0 0 24 [some (.ref (ga γ 8 0)), some (.int (zI (b))), some (.int (zI (e))), some (.int (zI (hSign t b e))), none, none, none, none, none] [] (σ) xs := by
    refine r_iload_n (q := 25) dX5_authority_24 rfl rfl ?_
    refine r_iload_n (q := 26) dX5_authority_25 rfl rfl ?_
    refine r_icmp_ge (q := 29) (tgt := 35) dX5_authority_26 rfl (by decide) (by omega) (by omega) (fun h26 => ?_) (fun h26 => ?_)
    · refine r_iload_n (q := 36) dX5_authority_35 rfl rfl ?_
      first
        | (have e9 : hHost t b e = hSign t b e + 1 := if_pos (by omega)
           exact RW.cast rfl (congrArg (fun z => [Value.int (zI z)]) e9.symm) J36)
        | (have e9 : hHost t b e = b := if_neg (by omega)
           exact RW.cast rfl (congrArg (fun z => [Value.int (zI z)]) e9.symm) J36)
    · refine r_iload_n (q := 30) dX5_authority_29 rfl rfl ?_
      refine r_iconst (q := 31) dX5_authority_30 rfl ?_
      refine r_iadd (q := 32) dX5_authority_31 rfl ?_
      refine r_goto (q := 36) dX5_authority_32 (by decide) ?_
      first
        | (have e9 : hHost t b e = hSign t b e + 1 := if_pos (by omega)
           exact RW.cast rfl (congrArg (fun z => [Value.int (zI z)]) e9.symm) J36)
        | (have e9 : hHost t b e = b := if_neg (by omega)
           exact RW.cast rfl (congrArg (fun z => [Value.int (zI z)]) e9.symm) J36)
  have loop1 : ∀ k : Int, k ≤ 100 → b ≤ k → k ≤ e → nxt (isC t 6) k e = hSign t b e → RW γ mX5_authority 7 0 0 (rtn none (mAut σ t b e) xs) nX 0 0 2 [some (.ref (ga γ 8 0)), some (.int (zI (b))), some (.int (zI (e))), some (.int (zI (k))), none, none, none, none, none] [] (σ) xs := by
    refine up (fun k hk9 ih hbk hke hr => ?_)
    refine r_iload_n (q := 3) dX5_authority_2 rfl rfl ?_
    refine r_iload_n (q := 4) dX5_authority_3 rfl rfl ?_
    refine r_icmp_ge (q := 7) (tgt := 24) dX5_authority_4 rfl (by decide) (by first | omega | exact hP.r _) (by first | omega | exact hP.r _) (fun h4 => ?_) (fun h4 => ?_)
    · first
        | (have e9 : hSign t b e = k := by rw [← hr, nxt.eq_def (isC t 6) k, if_neg (by omega)]; omega
           rw [e9] at J24; exact J24)
        | (have e9 : hSign t b e = k := by rw [← hr, nxt.eq_def (isC t 6) k, if_pos (by omega), if_pos (show isC t 6 k = true from (ix6 (t k)).trans (decide_eq_true (by omega)))]
           rw [e9] at J24; exact J24)
    · refine r_aload_n (q := 8) dX5_authority_7 rfl rfl ?_
      refine g_X5_text (i := 0) (q := 11) dX5_authority_8 rfl fX5_7 (hG _ _ rfl) ?_
      refine r_iload_n (q := 12) dX5_authority_11 rfl rfl ?_
      refine l_mT hP (q := 13) dX5_authority_12 rfl (hG _ _ rfl) (by omega) ?_
      refine r_bipush (q := 15) dX5_authority_13 rfl (bip (by decide) (by decide)) ?_
      refine r_icmp_eq (q := 18) (tgt := 24) dX5_authority_15 rfl (by decide) (by first | omega | exact hP.r _) (by first | omega | exact hP.r _) (fun h15 => ?_) (fun h15 => ?_)
      · first
          | (have e9 : hSign t b e = k := by rw [← hr, nxt.eq_def (isC t 6) k, if_neg (by omega)]; omega
             rw [e9] at J24; exact J24)
          | (have e9 : hSign t b e = k := by rw [← hr, nxt.eq_def (isC t 6) k, if_pos (by omega), if_pos (show isC t 6 k = true from (ix6 (t k)).trans (decide_eq_true (by omega)))]
             rw [e9] at J24; exact J24)
      · refine r_iinc (q := 21) dX5_authority_18 rfl rfl (by decide) (Lst.setL rfl rfl) ?_
        refine r_goto (q := 2) dX5_authority_21 (by decide) ?_
        exact ih (k + 1) (by omega) (by omega) (by omega) (by omega) (by rw [← hr, nxt.eq_def (isC t 6) k, if_pos (by omega), if_neg (by rw [show isC t 6 k = false from (ix6 (t k)).trans (decide_eq_false (by omega))]; decide)])
  refine r_iload_n (q := 1) dX5_authority_0 rfl rfl ?_
  refine r_istore_n (q := 2) dX5_authority_1 rfl (by decide) (Lst.setL rfl rfl) ?_
  exact loop1 b (by omega) (by omega) (by omega) rfl
end X5
