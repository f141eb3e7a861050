/-! The model: cutting a text -/
def Mp (σ : St) (t : Int → Int) (n : Int) : Prop := Mw σ ∧ mT σ = t ∧ msz σ = n
theorem Mp.n {σ : St} {t : Int → Int} {n : Int} (h : Mp σ t n) : 0 ≤ n ∧ n ≤ 60 := by have := h.1.sz; have := h.2.2; omega
theorem Mp.r {σ : St} {t : Int → Int} {n : Int} (h : Mp σ t n) (p : Int) : -2147483648 ≤ t p ∧ t p ≤ 2147483647 := by rw [← h.2.1]; have := mT_r h.1 p; omega
theorem Mp.r0 {σ : St} {t : Int → Int} {n : Int} (h : Mp σ t n) (p : Int) : 0 ≤ t p ∧ t p < 65536 := by rw [← h.2.1]; exact mT_r h.1 p
theorem Mp.z {σ : St} {t : Int → Int} {n : Int} (h : Mp σ t n) {p : Int} (hp : t p ≠ 0) : 0 ≤ p ∧ p < n := by
  rw [← h.2.1] at hp
  unfold mT at hp
  have := h.2.2
  split at hp
  · omega
  · exact absurd rfl hp
/-- a text that is nothing outside its places -/
def Tz (t : Int → Int) (n : Int) : Prop := 0 ≤ n ∧ n ≤ 60 ∧ (∀ p, t p ≠ 0 → 0 ≤ p ∧ p < n) ∧ ∀ p, 0 ≤ t p ∧ t p < 65536
theorem Mp.tz {σ : St} {t : Int → Int} {n : Int} (h : Mp σ t n) : Tz t n := ⟨h.n.1, h.n.2, fun _ hp => h.z hp, h.r0⟩
theorem Tz.lt {t : Int → Int} {n p c : Int} (h : Tz t n) (hc : c ≠ 0) (hp : t p = c) : 0 ≤ p ∧ p < n := h.2.2.1 p (by omega)
theorem Tz.sl {t : Int → Int} {n r : Int} (h : Tz t n) (hs : gSl t r = true) : 0 ≤ r ∧ r + 2 ≤ n := by
  have h1 := of_decide_eq_true hs
  have := h.lt (by decide) h1.1
  have := h.lt (by decide) h1.2
  omega
theorem Tz.eAut {t : Int → Int} {n r : Int} (h : Tz t n) (hr : 0 ≤ r ∧ r ≤ n) : r ≤ eAut t n r ∧ eAut t n r ≤ n ∧ (gSl t r = true → r + 2 ≤ eAut t n r) := by
  unfold Jvm.Pilot.CLinkloomLaw_law_r6611_859408.eAut
  split
  · rename_i hs
    have := h.sl hs
    have := nxt_rng (isC t 4) n (r + 2) (by omega)
    omega
  · rename_i hs
    exact ⟨by omega, by omega, fun z => absurd z hs⟩
theorem Tz.ePQ {t : Int → Int} {n b : Int} (h : Tz t n) (hb : 0 ≤ b ∧ b ≤ n) : b ≤ ePQ t n b ∧ ePQ t n b ≤ n := by
  have h1 := ePart_r t 5 hb.2
  unfold Jvm.Pilot.CLinkloomLaw_law_r6611_859408.ePQ
  split
  · rename_i hq
    have := h.lt (by decide) hq
    have := ePart_r t (n := n) (b := ePart t n b 5 + 1) 2 (by omega)
    omega
  · omega
theorem Tz.gCol {t : Int → Int} {n : Int} (h : Tz t n) : -1 ≤ gCol t n ∧ gCol t n + 1 ≤ n := by
  have h1 := gColP_rng t h.1
  have hn := h.1
  unfold Jvm.Pilot.CLinkloomLaw_law_r6611_859408.gCol
  split
  · rename_i hq
    have := h.lt (by decide) hq
    omega
  · omega
theorem Tz.cHash {t : Int → Int} {n : Int} (h : Tz t n) : 0 ≤ cHash t n ∧ cHash t n ≤ n := by
  have h1 := h.gCol
  have h3 := h.eAut (r := Jvm.Pilot.CLinkloomLaw_law_r6611_859408.gCol t n + 1) (by omega)
  unfold Jvm.Pilot.CLinkloomLaw_law_r6611_859408.cHash
  split
  · have := ePart_r t (n := n) (b := Jvm.Pilot.CLinkloomLaw_law_r6611_859408.gCol t n + 1) 2 (by omega)
    omega
  · have := h.ePQ (b := Jvm.Pilot.CLinkloomLaw_law_r6611_859408.eAut t n (Jvm.Pilot.CLinkloomLaw_law_r6611_859408.gCol t n + 1)) (by omega)
    omega
theorem ix6 (c : Int) : (decide (0 ≤ ixO (tS 6) c)) = decide (c = 64) := by
  have e : tS 6 = [64] := rfl
  rw [e]
  unfold ixO
  simp only [ixF]
  repeat' split
  all_goals (simp; try omega)
theorem ix7 (c : Int) : (decide (0 ≤ ixO (tS 7) c)) = decide (c = 58) := by
  have e : tS 7 = [58] := rfl
  rw [e]
  unfold ixO
  simp only [ixF]
  repeat' split
  all_goals (simp; try omega)
theorem ix2 (c : Int) : (decide (0 ≤ ixO (tS 2) c)) = decide (c = 35) := by
  have e : tS 2 = [35] := rfl
  rw [e]
  unfold ixO
  simp only [ixF]
  repeat' split
  all_goals (simp; try omega)
theorem ix1 (c : Int) : (decide (0 ≤ ixO (tS 1) c)) = decide (c = 43 ∨ c = 45 ∨ c = 46) := by
  have e : tS 1 = [43, 45, 46] := rfl
  rw [e]
  unfold ixO
  simp only [ixF]
  repeat' split
  all_goals (simp; try omega)
def mNumF (t : Int → Int) (e many num k : Int) : Bool := if k ≤ e then (if k < e ∧ gDig (t k) = true then (if 255 < 10 * num + t k - 48 then false else mNumF t e many (10 * num + t k - 48) (k + 1)) else (if (k < e ∧ t k ≠ 46) ∨ num = 0 then false else mNumF t e (many + 1) 0 (k + 1))) else decide (many = 4)
termination_by (e + 1 - k).toNat
decreasing_by all_goals omega
def mLabF (t : Int → Int) (s lab many k : Int) : Bool := if k ≤ s then (if k < s ∧ t k ≠ 46 then (if gLet (t k) = true ∨ gDig (t k) = true ∨ t k = 45 then mLabF t s lab many (k + 1) else false) else (if k = lab ∨ t lab = 45 ∨ t (k - 1) = 45 then false else (if k = s ∧ 1 < many + 1 ∧ gLet (t lab) = false then false else mLabF t s (k + 1) (many + 1) (k + 1)))) else true
termination_by (s + 1 - k).toNat
decreasing_by all_goals omega
def mPort (t : Int → Int) (b e : Int) : Int := gNumF t e 2147483647 0 (hCol t b e + 1)
def mAutB (t : Int → Int) (b e : Int) : Bool := (mNumF t (hCol t b e) 0 0 (hHost t b e) || mLabF t (gStop t (hHost t b e) (hCol t b e)) (hHost t b e) 0 (hHost t b e)) && decide (mPort t b e ≠ -1)
def mAut1 (σ : St) (t : Int → Int) (b e : Int) : St := if hSign t b e < e then mCut σ 3 b (hSign t b e) else σ
def mAut2 (σ : St) (t : Int → Int) (b e : Int) : St := mCut (mAut1 σ t b e) 4 (hHost t b e) (hCol t b e)
def mAut (σ : St) (t : Int → Int) (b e : Int) : St := if mAutB t b e = true then (if hCol t b e + 1 < e then sMpt (mAut2 σ t b e) (mPort t b e) else mAut2 σ t b e) else σ
section X5
variable {γ : Gm} {σ : St} {xs : va_W} {t : Int → Int} {n : Int}
theorem l_mT {M : Md} {d k c1 n1 n9 pc q : Nat} {Qr : Option Value → St → va_W → Prop} {Qx : String → St → va_W → Prop} {L : List (Option Value)} {st : List Value} {z : Int} (hP : Mp σ t n) (hd : decode M.2.1 pc = .ok (.iaload, 1)) (hq : pc + 1 = q) (hv : gv γ 9 0) (hz : 0 ≤ z ∧ z < n) (kk : RW γ M d k n9 Qr Qx c1 n1 q L (.int (zI (t z)) :: st) σ xs) : RW γ M d k n9 Qr Qx c1 n1 pc L (.int (zI z) :: .ref (ga γ 9 0) :: st) σ xs := by
  have hn := hP.n
  refine l_mtx (i := 0) hd hq hv (by omega) ?_
  have e9 : mtx σ z.toNat = t z := by rw [← hP.2.1, mT_in (by rw [hP.2.2]; exact hz)]
  rw [e9]
  exact kk
theorem p_next (hG : Full γ) (hP : Mp σ t n) {w : Nat} (hw : w < nS) {b : Int} (hb : 0 ≤ b ∧ b ≤ n) : Ev γ mX5_next 5 0 0 [.ref (ga γ 8 0), .int (zI b), .ref (gK γ w)] σ xs (rtn (some (.int (zI (nxt (isC t w) b n)))) σ xs) nX := by
  obtain ⟨h, rfl, rfl⟩ := hP
  exact m_next hG h hw hb
theorem p_rest (hG : Full γ) (hP : Mp σ t n) : Ev γ mX5_rest 6 0 0 [.ref (ga γ 8 0)] σ xs (rtn (some (.int (zI (gCol t n + 1)))) σ xs) nX := by
  obtain ⟨h, rfl, rfl⟩ := hP
  exact m_rest hG h
theorem p_isAt (hG : Full γ) (hP : Mp σ t n) {p c : Int} (hp : 0 ≤ p ∧ p ≤ 1000) (hc : 1 ≤ c ∧ c ≤ 65535) : Ev γ mX5_isAt 1 0 0 [.ref (ga γ 8 0), .int (zI p), .int (zI c)] σ xs (rtn (some (.int (zI (bI (decide (t p = c)))))) σ xs) nX := by
  obtain ⟨h, rfl, rfl⟩ := hP
  exact m_isAt hG h hp hc
theorem p_bad (hG : Full γ) (hP : Mp σ t n) {b e : Int} (hb : 0 ≤ b ∧ b ≤ e) (he : e ≤ n) : Ev γ mX5_bad 2 0 0 [.ref (ga γ 8 0), .int (zI b), .int (zI e)] σ xs (rtn (some (.int (zI (mBad t b e)))) σ xs) nX := by
  obtain ⟨h, rfl, rfl⟩ := hP
  exact m_bad hG h hb he
theorem p_slashes (hG : Full γ) (hP : Mp σ t n) : Ev γ mX5_slashes 7 0 0 [.ref (ga γ 8 0)] σ xs (rtn (some (.int (zI (mSl t n)))) σ xs) nX := by
  obtain ⟨h, rfl, rfl⟩ := hP
  exact m_slashes hG h
theorem gDig_r {c : Int} (h : gDig c = true) : 48 ≤ c ∧ c ≤ 57 := of_decide_eq_true h
set_option maxRecDepth 100000 in
set_option maxHeartbeats 4000000 in
theorem m_isNumbers (hG : Full γ) (hP : Mp σ t n) {b e : Int} (hb : 0 ≤ b ∧ b ≤ e) (he : e ≤ n) : Ev γ mX5_isNumbers 3 0 0 [.ref (ga γ 8 0), .int (zI (b)), .int (zI (e))] σ xs (rtn (some (.int (zI (bI (mNumF t e 0 0 b))))) σ xs) nX := by
  refine Ev.of1 3 [some (.ref (ga γ 8 0)), some (.int (zI (b))), some (.int (zI (e))), none, none, none] rfl pn_X5_isNumbers rfl (Nat.le_of_ble_eq_true rfl) ?_
  have hn := hP.n
  have loop : ∀ k : Int, k ≤ 100 → b ≤ k → k ≤ e + 1 → ∀ many num : Int, (0 ≤ many ∧ many ≤ k) → (0 ≤ num ∧ num ≤ 255) → mNumF t e many num k = mNumF t e 0 0 b → RW γ mX5_isNumbers 3 0 0 (rtn (some (.int (zI (bI (mNumF t e 0 0 b))))) σ xs) nX 0 0 8 [some (.ref (ga γ 8 0)), some (.int (zI (b))), some (.int (zI (e))), some (.int (zI (many))), some (.int (zI (num))), some (.int (zI (k)))] [] σ xs := by
    refine up (fun k hk9 ih hbk hke many num hm0 hn0 hr => ?_)
    have hr0 := hP.r0 k
    refine r_iload (q := 10) dX5_isNumbers_8 rfl rfl ?_
    refine r_iload_n (q := 11) dX5_isNumbers_10 rfl rfl ?_
    refine r_icmp_gt (q := 14) (tgt := 98) dX5_isNumbers_11 rfl (by decide) (by first | omega | exact hP.r _) (by first | omega | exact hP.r _) (fun h11 => ?_) (fun h11 => ?_)
    · refine r_iload_n (q := 99) dX5_isNumbers_98 rfl rfl ?_
      refine r_iconst (q := 100) dX5_isNumbers_99 rfl ?_
      refine r_icmp_ne (q := 103) (tgt := 107) dX5_isNumbers_100 rfl (by decide) (by first | omega | exact hP.r _) (by first | omega | exact hP.r _) (fun h100 => ?_) (fun h100 => ?_)
      · refine r_iconst (q := 108) dX5_isNumbers_107 rfl ?_
        refine r_retz dX5_isNumbers_108 rfl (by first | rfl | exact narB _) (by decide) (by decide) ?_
        exact ret_i (by rw [← hr, mNumF.eq_def t e many num k, if_neg (by omega)]; simp [bI]; omega)
      · refine r_iconst (q := 104) dX5_isNumbers_103 rfl ?_
        refine r_goto (q := 108) dX5_isNumbers_104 (by decide) ?_
        refine r_retz dX5_isNumbers_108 rfl (by first | rfl | exact narB _) (by decide) (by decide) ?_
        exact ret_i (by rw [← hr, mNumF.eq_def t e many num k, if_neg (by omega)]; simp [bI]; omega)
    · refine r_iload (q := 16) dX5_isNumbers_14 rfl rfl ?_
      refine r_iload_n (q := 17) dX5_isNumbers_16 rfl rfl ?_
      refine r_icmp_ge (q := 20) (tgt := 61) dX5_isNumbers_17 rfl (by decide) (by first | omega | exact hP.r _) (by first | omega | exact hP.r _) (fun h17 => ?_) (fun h17 => ?_)
      · refine r_iload (q := 63) dX5_isNumbers_61 rfl rfl ?_
        refine r_iload_n (q := 64) dX5_isNumbers_63 rfl rfl ?_
        refine r_icmp_ge (q := 67) (tgt := 79) dX5_isNumbers_64 rfl (by decide) (by first | omega | exact hP.r _) (by first | omega | exact hP.r _) (fun h64 => ?_) (fun h64 => ?_)
        · refine r_iload (q := 81) dX5_isNumbers_79 rfl rfl ?_
          refine r_if_ne (q := 84) (tgt := 86) dX5_isNumbers_81 rfl (by decide) (by first | omega | exact hP.r _) (fun h81 => ?_) (fun h81 => ?_)
          · refine r_iconst (q := 87) dX5_isNumbers_86 rfl ?_
            refine r_istore (q := 89) dX5_isNumbers_87 rfl (by decide) (Lst.setL rfl rfl) ?_
            refine r_iinc (q := 92) dX5_isNumbers_89 rfl rfl (by decide) (Lst.setL rfl rfl) ?_
            refine r_iinc (q := 95) dX5_isNumbers_92 rfl rfl (by decide) (Lst.setL rfl rfl) ?_
            refine r_goto (q := 8) dX5_isNumbers_95 (by decide) ?_
            first
              | exact ih (k + 1) (by omega) (by omega) (by omega) (by omega) many (10 * num + t k - 48) (by omega) (by have := gDig_r h30; omega) (by rw [← hr, mNumF.eq_def t e many num k, if_pos (by omega), if_pos ⟨by omega, h30⟩, if_neg (by omega)])
              | exact ih (k + 1) (by omega) (by omega) (by omega) (by omega) (many + 1) 0 (by omega) (by omega) (by rw [← hr, mNumF.eq_def t e many num k, if_pos (by omega), if_neg (by rintro ⟨z1, z2⟩; first | omega | (rw [h30] at z2; exact absurd z2 (by decide))), if_neg (by omega)])
          · refine r_iconst (q := 85) dX5_isNumbers_84 rfl ?_
            refine r_retz dX5_isNumbers_85 rfl (by first | rfl | exact narB _) (by decide) (by decide) ?_
            have hc : (k < e ∧ t k ≠ 46) ∨ num = 0 := by omega
            exact ret_i (by rw [← hr, mNumF.eq_def t e many num k, if_pos (by omega), if_neg (by rintro ⟨z1, z2⟩; first | omega | (rw [h30] at z2; exact absurd z2 (by decide))), if_pos hc]; rfl)
        · refine r_aload_n (q := 68) dX5_isNumbers_67 rfl rfl ?_
          refine g_X5_text (i := 0) (q := 71) dX5_isNumbers_68 rfl fX5_7 (hG _ _ rfl) ?_
          refine r_iload (q := 73) dX5_isNumbers_71 rfl rfl ?_
          refine l_mT hP (q := 74) dX5_isNumbers_73 rfl (hG _ _ rfl) (by omega) ?_
          refine r_bipush (q := 76) dX5_isNumbers_74 rfl (bip (by decide) (by decide)) ?_
          refine r_icmp_ne (q := 79) (tgt := 84) dX5_isNumbers_76 rfl (by decide) (by first | omega | exact hP.r _) (by first | omega | exact hP.r _) (fun h76 => ?_) (fun h76 => ?_)
          · refine r_iconst (q := 85) dX5_isNumbers_84 rfl ?_
            refine r_retz dX5_isNumbers_85 rfl (by first | rfl | exact narB _) (by decide) (by decide) ?_
            have hc : (k < e ∧ t k ≠ 46) ∨ num = 0 := by omega
            exact ret_i (by rw [← hr, mNumF.eq_def t e many num k, if_pos (by omega), if_neg (by rintro ⟨z1, z2⟩; first | omega | (rw [h30] at z2; exact absurd z2 (by decide))), if_pos hc]; rfl)
          · refine r_iload (q := 81) dX5_isNumbers_79 rfl rfl ?_
            refine r_if_ne (q := 84) (tgt := 86) dX5_isNumbers_81 rfl (by decide) (by first | omega | exact hP.r _) (fun h81 => ?_) (fun h81 => ?_)
            · refine r_iconst (q := 87) dX5_isNumbers_86 rfl ?_
              refine r_istore (q := 89) dX5_isNumbers_87 rfl (by decide) (Lst.setL rfl rfl) ?_
              refine r_iinc (q := 92) dX5_isNumbers_89 rfl rfl (by decide) (Lst.setL rfl rfl) ?_
              refine r_iinc (q := 95) dX5_isNumbers_92 rfl rfl (by decide) (Lst.setL rfl rfl) ?_
              refine r_goto (q := 8) dX5_isNumbers_95 (by decide) ?_
              first
                | exact ih (k + 1) (by omega) (by omega) (by omega) (by omega) many (10 * num + t k - 48) (by omega) (by have := gDig_r h30; omega) (by rw [← hr, mNumF.eq_def t e many num k, if_pos (by omega), if_pos ⟨by omega, h30⟩, if_neg (by omega)])
                | exact ih (k + 1) (by omega) (by omega) (by omega) (by omega) (many + 1) 0 (by omega) (by omega) (by rw [← hr, mNumF.eq_def t e many num k, if_pos (by omega), if_neg (by rintro ⟨z1, z2⟩; first | omega | (rw [h30] at z2; exact absurd z2 (by decide))), if_neg (by omega)])
            · refine r_iconst (q := 85) dX5_isNumbers_84 rfl ?_
              refine r_retz dX5_isNumbers_85 rfl (by first | rfl | exact narB _) (by decide) (by decide) ?_
              have hc : (k < e ∧ t k ≠ 46) ∨ num = 0 := by omega
              exact ret_i (by rw [← hr, mNumF.eq_def t e many num k, if_pos (by omega), if_neg (by rintro ⟨z1, z2⟩; first | omega | (rw [h30] at z2; exact absurd z2 (by decide))), if_pos hc]; rfl)
      · refine r_aload_n (q := 21) dX5_isNumbers_20 rfl rfl ?_
        refine g_X5_text (i := 0) (q := 24) dX5_isNumbers_21 rfl fX5_7 (hG _ _ rfl) ?_
        refine r_iload (q := 26) dX5_isNumbers_24 rfl rfl ?_
        refine l_mT hP (q := 27) dX5_isNumbers_26 rfl (hG _ _ rfl) (by omega) ?_
        refine cS_1 (My := mX5_isDigit) (q := 30) dX5_isNumbers_27 rfl kX5_110 vX5_isDigit (m_isDigit (hP.r _)) ⟨by decide, by decide⟩ ⟨by decide, by decide⟩ (Nat.le_of_ble_eq_true rfl) ?_
        refine r_ifB_eq (q := 33) (tgt := 61) dX5_isNumbers_30 rfl (by decide) (fun h30 => ?_) (fun h30 => ?_)
        · refine r_iload (q := 63) dX5_isNumbers_61 rfl rfl ?_
          refine r_iload_n (q := 64) dX5_isNumbers_63 rfl rfl ?_
          refine r_icmp_ge (q := 67) (tgt := 79) dX5_isNumbers_64 rfl (by decide) (by first | omega | exact hP.r _) (by first | omega | exact hP.r _) (fun h64 => ?_) (fun h64 => ?_)
          · refine r_iload (q := 81) dX5_isNumbers_79 rfl rfl ?_
            refine r_if_ne (q := 84) (tgt := 86) dX5_isNumbers_81 rfl (by decide) (by first | omega | exact hP.r _) (fun h81 => ?_) (fun h81 => ?_)
            · refine r_iconst (q := 87) dX5_isNumbers_86 rfl ?_
              refine r_istore (q := 89) dX5_isNumbers_87 rfl (by decide) (Lst.setL rfl rfl) ?_
              refine r_iinc (q := 92) dX5_isNumbers_89 rfl rfl (by decide) (Lst.setL rfl rfl) ?_
              refine r_iinc (q := 95) dX5_isNumbers_92 rfl rfl (by decide) (Lst.setL rfl rfl) ?_
              refine r_goto (q := 8) dX5_isNumbers_95 (by decide) ?_
              first
                | exact ih (k + 1) (by omega) (by omega) (by omega) (by omega) many (10 * num + t k - 48) (by omega) (by have := gDig_r h30; omega) (by rw [← hr, mNumF.eq_def t e many num k, if_pos (by omega), if_pos ⟨by omega, h30⟩, if_neg (by omega)])
                | exact ih (k + 1) (by omega) (by omega) (by omega) (by omega) (many + 1) 0 (by omega) (by omega) (by rw [← hr, mNumF.eq_def t e many num k, if_pos (by omega), if_neg (by rintro ⟨z1, z2⟩; first | omega | (rw [h30] at z2; exact absurd z2 (by decide))), if_neg (by omega)])
            · refine r_iconst (q := 85) dX5_isNumbers_84 rfl ?_
              refine r_retz dX5_isNumbers_85 rfl (by first | rfl | exact narB _) (by decide) (by decide) ?_
              have hc : (k < e ∧ t k ≠ 46) ∨ num = 0 := by omega
              exact ret_i (by rw [← hr, mNumF.eq_def t e many num k, if_pos (by omega), if_neg (by rintro ⟨z1, z2⟩; first | omega | (rw [h30] at z2; exact absurd z2 (by decide))), if_pos hc]; rfl)
          · refine r_aload_n (q := 68) dX5_isNumbers_67 rfl rfl ?_
            refine g_X5_text (i := 0) (q := 71) dX5_isNumbers_68 rfl fX5_7 (hG _ _ rfl) ?_
            refine r_iload (q := 73) dX5_isNumbers_71 rfl rfl ?_
            refine l_mT hP (q := 74) dX5_isNumbers_73 rfl (hG _ _ rfl) (by omega) ?_
            refine r_bipush (q := 76) dX5_isNumbers_74 rfl (bip (by decide) (by decide)) ?_
            refine r_icmp_ne (q := 79) (tgt := 84) dX5_isNumbers_76 rfl (by decide) (by first | omega | exact hP.r _) (by first | omega | exact hP.r _) (fun h76 => ?_) (fun h76 => ?_)
            · refine r_iconst (q := 85) dX5_isNumbers_84 rfl ?_
              refine r_retz dX5_isNumbers_85 rfl (by first | rfl | exact narB _) (by decide) (by decide) ?_
              have hc : (k < e ∧ t k ≠ 46) ∨ num = 0 := by omega
              exact ret_i (by rw [← hr, mNumF.eq_def t e many num k, if_pos (by omega), if_neg (by rintro ⟨z1, z2⟩; first | omega | (rw [h30] at z2; exact absurd z2 (by decide))), if_pos hc]; rfl)
            · refine r_iload (q := 81) dX5_isNumbers_79 rfl rfl ?_
              refine r_if_ne (q := 84) (tgt := 86) dX5_isNumbers_81 rfl (by decide) (by first | omega | exact hP.r _) (fun h81 => ?_) (fun h81 => ?_)
              · refine r_iconst (q := 87) dX5_isNumbers_86 rfl ?_
                refine r_istore (q := 89) dX5_isNumbers_87 rfl (by decide) (Lst.setL rfl rfl) ?_
                refine r_iinc (q := 92) dX5_isNumbers_89 rfl rfl (by decide) (Lst.setL rfl rfl) ?_
                refine r_iinc (q := 95) dX5_isNumbers_92 rfl rfl (by decide) (Lst.setL rfl rfl) ?_
                refine r_goto (q := 8) dX5_isNumbers_95 (by decide) ?_
                first
                  | exact ih (k + 1) (by omega) (by omega) (by omega) (by omega) many (10 * num + t k - 48) (by omega) (by have := gDig_r h30; omega) (by rw [← hr, mNumF.eq_def t e many num k, if_pos (by omega), if_pos ⟨by omega, h30⟩, if_neg (by omega)])
                  | exact ih (k + 1) (by omega) (by omega) (by omega) (by omega) (many + 1) 0 (by omega) (by omega) (by rw [← hr, mNumF.eq_def t e many num k, if_pos (by omega), if_neg (by rintro ⟨z1, z2⟩; first | omega | (rw [h30] at z2; exact absurd z2 (by decide))), if_neg (by omega)])
              · refine r_iconst (q := 85) dX5_isNumbers_84 rfl ?_
                refine r_retz dX5_isNumbers_85 rfl (by first | rfl | exact narB _) (by decide) (by decide) ?_
                have hc : (k < e ∧ t k ≠ 46) ∨ num = 0 := by omega
                exact ret_i (by rw [← hr, mNumF.eq_def t e many num k, if_pos (by omega), if_neg (by rintro ⟨z1, z2⟩; first | omega | (rw [h30] at z2; exact absurd z2 (by decide))), if_pos hc]; rfl)
        · refine r_bipush (q := 35) dX5_isNumbers_33 rfl (bip (by decide) (by decide)) ?_
          refine r_iload (q := 37) dX5_isNumbers_35 rfl rfl ?_
          refine r_imul (q := 38) dX5_isNumbers_37 rfl ?_
          refine r_aload_n (q := 39) dX5_isNumbers_38 rfl rfl ?_
          refine g_X5_text (i := 0) (q := 42) dX5_isNumbers_39 rfl fX5_7 (hG _ _ rfl) ?_
          refine r_iload (q := 44) dX5_isNumbers_42 rfl rfl ?_
          refine l_mT hP (q := 45) dX5_isNumbers_44 rfl (hG _ _ rfl) (by omega) ?_
          refine r_iadd (q := 46) dX5_isNumbers_45 rfl ?_
          refine r_bipush (q := 48) dX5_isNumbers_46 rfl (bip (by decide) (by decide)) ?_
          refine r_isub (q := 49) dX5_isNumbers_48 rfl ?_
          refine r_istore (q := 51) dX5_isNumbers_49 rfl (by decide) (Lst.setL rfl rfl) ?_
          refine r_iload (q := 53) dX5_isNumbers_51 rfl rfl ?_
          refine r_sipush (q := 56) dX5_isNumbers_53 rfl (sip (by decide) (by decide)) ?_
          refine r_icmp_le (q := 59) (tgt := 92) dX5_isNumbers_56 rfl (by decide) (by first | omega | exact hP.r _) (by first | omega | exact hP.r _) (fun h56 => ?_) (fun h56 => ?_)
          · refine r_iinc (q := 95) dX5_isNumbers_92 rfl rfl (by decide) (Lst.setL rfl rfl) ?_
            refine r_goto (q := 8) dX5_isNumbers_95 (by decide) ?_
            first
              | exact ih (k + 1) (by omega) (by omega) (by omega) (by omega) many (10 * num + t k - 48) (by omega) (by have := gDig_r h30; omega) (by rw [← hr, mNumF.eq_def t e many num k, if_pos (by omega), if_pos ⟨by omega, h30⟩, if_neg (by omega)])
              | exact ih (k + 1) (by omega) (by omega) (by omega) (by omega) (many + 1) 0 (by omega) (by omega) (by rw [← hr, mNumF.eq_def t e many num k, if_pos (by omega), if_neg (by rintro ⟨z1, z2⟩; first | omega | (rw [h30] at z2; exact absurd z2 (by decide))), if_neg (by omega)])
          · refine r_iconst (q := 60) dX5_isNumbers_59 rfl ?_
            refine r_retz dX5_isNumbers_60 rfl (by first | rfl | exact narB _) (by decide) (by decide) ?_
            exact ret_i (by rw [← hr, mNumF.eq_def t e many num k, if_pos (by omega), if_pos ⟨by omega, h30⟩, if_pos (by omega)]; rfl)
  refine r_iconst (q := 1) dX5_isNumbers_0 rfl ?_
  refine r_istore_n (q := 2) dX5_isNumbers_1 rfl (by decide) (Lst.setL rfl rfl) ?_
  refine r_iconst (q := 3) dX5_isNumbers_2 rfl ?_
  refine r_istore (q := 5) dX5_isNumbers_3 rfl (by decide) (Lst.setL rfl rfl) ?_
  refine r_iload_n (q := 6) dX5_isNumbers_5 rfl rfl ?_
  refine r_istore (q := 8) dX5_isNumbers_6 rfl (by decide) (Lst.setL rfl rfl) ?_
  exact loop b (by omega) (by omega) (by omega) 0 0 (by omega) (by omega) rfl
set_option maxRecDepth 100000 in
set_option maxHeartbeats 4000000 in
theorem m_isLabels (hG : Full γ) (hP : Mp σ t n) {b e : Int} (hb : 0 ≤ b ∧ b ≤ e) (he : e ≤ n) : Ev γ mX5_isLabels 3 0 0 [.ref (ga γ 8 0), .int (zI (b)), .int (zI (e))] σ xs (rtn (some (.int (zI (bI (mLabF t (gStop t b e) b 0 b))))) σ xs) nX := by
  refine Ev.of1 4 [some (.ref (ga γ 8 0)), some (.int (zI (b))), some (.int (zI (e))), none, none, none, none] rfl pn_X5_isLabels rfl (Nat.le_of_ble_eq_true rfl) ?_
  have hn := hP.n
  have hs9 : e - 1 ≤ gStop t b e ∧ gStop t b e ≤ e ∧ b ≤ gStop t b e := by unfold gStop; split <;> omega
  have loop : ∀ k : Int, k ≤ 100 → b ≤ k → k ≤ gStop t b e + 1 → ∀ lab many : Int, (b ≤ lab ∧ lab ≤ k) → (0 ≤ many ∧ many ≤ k) → mLabF t (gStop t b e) lab many k = mLabF t (gStop t b e) b 0 b → RW γ mX5_isLabels 3 0 0 (rtn (some (.int (zI (bI (mLabF t (gStop t b e) b 0 b))))) σ xs) nX 0 0 35 [some (.ref (ga γ 8 0)), some (.int (zI (b))), some (.int (zI (e))), some (.int (zI (gStop t b e))), some (.int (zI (lab))), some (.int (zI (many))), some (.int (zI (k)))] [] σ xs := by
    refine up (fun k hk9 ih hbk hke lab many hl0 hm0 hr => ?_)
    have hr0 := hP.r0 k
    have hr1 := hP.r0 lab
    have hr2 := hP.r0 (k - 1)
    refine r_iload (q := 37) dX5_isLabels_35 rfl rfl ?_
    refine r_iload_n (q := 38) dX5_isLabels_37 rfl rfl ?_
    refine r_icmp_gt (q := 41) (tgt := 176) dX5_isLabels_38 rfl (by decide) (by first | omega | exact hP.r _) (by first | omega | exact hP.r _) (fun h38 => ?_) (fun h38 => ?_)
    · refine r_iconst (q := 177) dX5_isLabels_176 rfl ?_
      refine r_retz dX5_isLabels_177 rfl (by first | rfl | exact narB _) (by decide) (by decide) ?_
      exact ret_i (by rw [← hr, mLabF.eq_def t (gStop t b e) lab many k, if_neg (by omega)]; rfl)
    · refine r_iload (q := 43) dX5_isLabels_41 rfl rfl ?_
      refine r_iload_n (q := 44) dX5_isLabels_43 rfl rfl ?_
      refine r_icmp_ge (q := 47) (tgt := 99) dX5_isLabels_44 rfl (by decide) (by first | omega | exact hP.r _) (by first | omega | exact hP.r _) (fun h44 => ?_) (fun h44 => ?_)
      · refine r_iload (q := 101) dX5_isLabels_99 rfl rfl ?_
        refine r_iload (q := 103) dX5_isLabels_101 rfl rfl ?_
        refine r_icmp_eq (q := 106) (tgt := 132) dX5_isLabels_103 rfl (by decide) (by first | omega | exact hP.r _) (by first | omega | exact hP.r _) (fun h103 => ?_) (fun h103 => ?_)
        · refine r_iconst (q := 133) dX5_isLabels_132 rfl ?_
          refine r_retz dX5_isLabels_133 rfl (by first | rfl | exact narB _) (by decide) (by decide) ?_
          have hc : k = lab ∨ t lab = 45 ∨ t (k - 1) = 45 := by omega
          exact ret_i (by rw [← hr, mLabF.eq_def t (gStop t b e) lab many k, if_pos (by omega), if_neg (by omega), if_pos hc]; rfl)
        · refine r_aload_n (q := 107) dX5_isLabels_106 rfl rfl ?_
          refine g_X5_text (i := 0) (q := 110) dX5_isLabels_107 rfl fX5_7 (hG _ _ rfl) ?_
          refine r_iload (q := 112) dX5_isLabels_110 rfl rfl ?_
          refine l_mT hP (q := 113) dX5_isLabels_112 rfl (hG _ _ rfl) (by omega) ?_
          refine r_bipush (q := 115) dX5_isLabels_113 rfl (bip (by decide) (by decide)) ?_
          refine r_icmp_eq (q := 118) (tgt := 132) dX5_isLabels_115 rfl (by decide) (by first | omega | exact hP.r _) (by first | omega | exact hP.r _) (fun h115 => ?_) (fun h115 => ?_)
          · refine r_iconst (q := 133) dX5_isLabels_132 rfl ?_
            refine r_retz dX5_isLabels_133 rfl (by first | rfl | exact narB _) (by decide) (by decide) ?_
            have hc : k = lab ∨ t lab = 45 ∨ t (k - 1) = 45 := by omega
            exact ret_i (by rw [← hr, mLabF.eq_def t (gStop t b e) lab many k, if_pos (by omega), if_neg (by omega), if_pos hc]; rfl)
          · refine r_aload_n (q := 119) dX5_isLabels_118 rfl rfl ?_
            refine g_X5_text (i := 0) (q := 122) dX5_isLabels_119 rfl fX5_7 (hG _ _ rfl) ?_
            refine r_iload (q := 124) dX5_isLabels_122 rfl rfl ?_
            refine r_iconst (q := 125) dX5_isLabels_124 rfl ?_
            refine r_isub (q := 126) dX5_isLabels_125 rfl ?_
            refine l_mT hP (q := 127) dX5_isLabels_126 rfl (hG _ _ rfl) (by omega) ?_
            refine r_bipush (q := 129) dX5_isLabels_127 rfl (bip (by decide) (by decide)) ?_
            refine r_icmp_ne (q := 132) (tgt := 134) dX5_isLabels_129 rfl (by decide) (by first | omega | exact hP.r _) (by first | omega | exact hP.r _) (fun h129 => ?_) (fun h129 => ?_)
            · refine r_iinc (q := 137) dX5_isLabels_134 rfl rfl (by decide) (Lst.setL rfl rfl) ?_
              refine r_iload (q := 139) dX5_isLabels_137 rfl rfl ?_
              refine r_iload_n (q := 140) dX5_isLabels_139 rfl rfl ?_
              refine r_icmp_ne (q := 143) (tgt := 164) dX5_isLabels_140 rfl (by decide) (by first | omega | exact hP.r _) (by first | omega | exact hP.r _) (fun h140 => ?_) (fun h140 => ?_)
              · refine r_iload (q := 166) dX5_isLabels_164 rfl rfl ?_
                refine r_iconst (q := 167) dX5_isLabels_166 rfl ?_
                refine r_iadd (q := 168) dX5_isLabels_167 rfl ?_
                refine r_istore (q := 170) dX5_isLabels_168 rfl (by decide) (Lst.setL rfl rfl) ?_
                refine r_iinc (q := 173) dX5_isLabels_170 rfl rfl (by decide) (Lst.setL rfl rfl) ?_
                refine r_goto (q := 35) dX5_isLabels_173 (by decide) ?_
                first
                  | (have hc : gLet (t k) = true ∨ gDig (t k) = true ∨ t k = 45 := by first | exact Or.inl (by assumption) | exact Or.inr (Or.inl (by assumption)) | exact Or.inr (Or.inr (by omega))
                     exact ih (k + 1) (by omega) (by omega) (by omega) (by omega) lab many (by omega) (by omega) (by rw [← hr, mLabF.eq_def t (gStop t b e) lab many k, if_pos (by omega), if_pos (by omega), if_pos hc]))
                  | exact ih (k + 1) (by omega) (by omega) (by omega) (by omega) (k + 1) (many + 1) (by omega) (by omega) (by rw [← hr, mLabF.eq_def t (gStop t b e) lab many k, if_pos (by omega), if_neg (by omega), if_neg (by omega), if_neg (by rintro ⟨z1, z2, z3⟩; first | omega | (rw [h159] at z3; exact absurd z3 (by decide)))])
              · refine r_iload (q := 145) dX5_isLabels_143 rfl rfl ?_
                refine r_iconst (q := 146) dX5_isLabels_145 rfl ?_
                refine r_icmp_le (q := 149) (tgt := 164) dX5_isLabels_146 rfl (by decide) (by first | omega | exact hP.r _) (by first | omega | exact hP.r _) (fun h146 => ?_) (fun h146 => ?_)
                · refine r_iload (q := 166) dX5_isLabels_164 rfl rfl ?_
                  refine r_iconst (q := 167) dX5_isLabels_166 rfl ?_
                  refine r_iadd (q := 168) dX5_isLabels_167 rfl ?_
                  refine r_istore (q := 170) dX5_isLabels_168 rfl (by decide) (Lst.setL rfl rfl) ?_
                  refine r_iinc (q := 173) dX5_isLabels_170 rfl rfl (by decide) (Lst.setL rfl rfl) ?_
                  refine r_goto (q := 35) dX5_isLabels_173 (by decide) ?_
                  first
                    | (have hc : gLet (t k) = true ∨ gDig (t k) = true ∨ t k = 45 := by first | exact Or.inl (by assumption) | exact Or.inr (Or.inl (by assumption)) | exact Or.inr (Or.inr (by omega))
                       exact ih (k + 1) (by omega) (by omega) (by omega) (by omega) lab many (by omega) (by omega) (by rw [← hr, mLabF.eq_def t (gStop t b e) lab many k, if_pos (by omega), if_pos (by omega), if_pos hc]))
                    | exact ih (k + 1) (by omega) (by omega) (by omega) (by omega) (k + 1) (many + 1) (by omega) (by omega) (by rw [← hr, mLabF.eq_def t (gStop t b e) lab many k, if_pos (by omega), if_neg (by omega), if_neg (by omega), if_neg (by rintro ⟨z1, z2, z3⟩; first | omega | (rw [h159] at z3; exact absurd z3 (by decide)))])
                · refine r_aload_n (q := 150) dX5_isLabels_149 rfl rfl ?_
                  refine g_X5_text (i := 0) (q := 153) dX5_isLabels_150 rfl fX5_7 (hG _ _ rfl) ?_
                  refine r_iload (q := 155) dX5_isLabels_153 rfl rfl ?_
                  refine l_mT hP (q := 156) dX5_isLabels_155 rfl (hG _ _ rfl) (by omega) ?_
                  refine cS_1 (My := mX5_isLetter) (q := 159) dX5_isLabels_156 rfl kX5_107 vX5_isLetter (m_isLetter (hP.r _)) ⟨by decide, by decide⟩ ⟨by decide, by decide⟩ (Nat.le_of_ble_eq_true rfl) ?_
                  refine r_ifB_ne (q := 162) (tgt := 164) dX5_isLabels_159 rfl (by decide) (fun h159 => ?_) (fun h159 => ?_)
                  · refine r_iload (q := 166) dX5_isLabels_164 rfl rfl ?_
                    refine r_iconst (q := 167) dX5_isLabels_166 rfl ?_
                    refine r_iadd (q := 168) dX5_isLabels_167 rfl ?_
                    refine r_istore (q := 170) dX5_isLabels_168 rfl (by decide) (Lst.setL rfl rfl) ?_
                    refine r_iinc (q := 173) dX5_isLabels_170 rfl rfl (by decide) (Lst.setL rfl rfl) ?_
                    refine r_goto (q := 35) dX5_isLabels_173 (by decide) ?_
                    first
                      | (have hc : gLet (t k) = true ∨ gDig (t k) = true ∨ t k = 45 := by first | exact Or.inl (by assumption) | exact Or.inr (Or.inl (by assumption)) | exact Or.inr (Or.inr (by omega))
                         exact ih (k + 1) (by omega) (by omega) (by omega) (by omega) lab many (by omega) (by omega) (by rw [← hr, mLabF.eq_def t (gStop t b e) lab many k, if_pos (by omega), if_pos (by omega), if_pos hc]))
                      | exact ih (k + 1) (by omega) (by omega) (by omega) (by omega) (k + 1) (many + 1) (by omega) (by omega) (by rw [← hr, mLabF.eq_def t (gStop t b e) lab many k, if_pos (by omega), if_neg (by omega), if_neg (by omega), if_neg (by rintro ⟨z1, z2, z3⟩; first | omega | (rw [h159] at z3; exact absurd z3 (by decide)))])
                  · refine r_iconst (q := 163) dX5_isLabels_162 rfl ?_
                    refine r_retz dX5_isLabels_163 rfl (by first | rfl | exact narB _) (by decide) (by decide) ?_
                    exact ret_i (by rw [← hr, mLabF.eq_def t (gStop t b e) lab many k, if_pos (by omega), if_neg (by omega), if_neg (by omega), if_pos ⟨by omega, by omega, h159⟩]; rfl)
            · refine r_iconst (q := 133) dX5_isLabels_132 rfl ?_
              refine r_retz dX5_isLabels_133 rfl (by first | rfl | exact narB _) (by decide) (by decide) ?_
              have hc : k = lab ∨ t lab = 45 ∨ t (k - 1) = 45 := by omega
              exact ret_i (by rw [← hr, mLabF.eq_def t (gStop t b e) lab many k, if_pos (by omega), if_neg (by omega), if_pos hc]; rfl)
      · refine r_aload_n (q := 48) dX5_isLabels_47 rfl rfl ?_
        refine g_X5_text (i := 0) (q := 51) dX5_isLabels_48 rfl fX5_7 (hG _ _ rfl) ?_
        refine r_iload (q := 53) dX5_isLabels_51 rfl rfl ?_
        refine l_mT hP (q := 54) dX5_isLabels_53 rfl (hG _ _ rfl) (by omega) ?_
        refine r_bipush (q := 56) dX5_isLabels_54 rfl (bip (by decide) (by decide)) ?_
        refine r_icmp_eq (q := 59) (tgt := 99) dX5_isLabels_56 rfl (by decide) (by first | omega | exact hP.r _) (by first | omega | exact hP.r _) (fun h56 => ?_) (fun h56 => ?_)
        · refine r_iload (q := 101) dX5_isLabels_99 rfl rfl ?_
          refine r_iload (q := 103) dX5_isLabels_101 rfl rfl ?_
          refine r_icmp_eq (q := 106) (tgt := 132) dX5_isLabels_103 rfl (by decide) (by first | omega | exact hP.r _) (by first | omega | exact hP.r _) (fun h103 => ?_) (fun h103 => ?_)
          · refine r_iconst (q := 133) dX5_isLabels_132 rfl ?_
            refine r_retz dX5_isLabels_133 rfl (by first | rfl | exact narB _) (by decide) (by decide) ?_
            have hc : k = lab ∨ t lab = 45 ∨ t (k - 1) = 45 := by omega
            exact ret_i (by rw [← hr, mLabF.eq_def t (gStop t b e) lab many k, if_pos (by omega), if_neg (by omega), if_pos hc]; rfl)
          · refine r_aload_n (q := 107) dX5_isLabels_106 rfl rfl ?_
            refine g_X5_text (i := 0) (q := 110) dX5_isLabels_107 rfl fX5_7 (hG _ _ rfl) ?_
            refine r_iload (q := 112) dX5_isLabels_110 rfl rfl ?_
            refine l_mT hP (q := 113) dX5_isLabels_112 rfl (hG _ _ rfl) (by omega) ?_
            refine r_bipush (q := 115) dX5_isLabels_113 rfl (bip (by decide) (by decide)) ?_
            refine r_icmp_eq (q := 118) (tgt := 132) dX5_isLabels_115 rfl (by decide) (by first | omega | exact hP.r _) (by first | omega | exact hP.r _) (fun h115 => ?_) (fun h115 => ?_)
            · refine r_iconst (q := 133) dX5_isLabels_132 rfl ?_
              refine r_retz dX5_isLabels_133 rfl (by first | rfl | exact narB _) (by decide) (by decide) ?_
              have hc : k = lab ∨ t lab = 45 ∨ t (k - 1) = 45 := by omega
              exact ret_i (by rw [← hr, mLabF.eq_def t (gStop t b e) lab many k, if_pos (by omega), if_neg (by omega), if_pos hc]; rfl)
            · refine r_aload_n (q := 119) dX5_isLabels_118 rfl rfl ?_
              refine g_X5_text (i := 0) (q := 122) dX5_isLabels_119 rfl fX5_7 (hG _ _ rfl) ?_
              refine r_iload (q := 124) dX5_isLabels_122 rfl rfl ?_
              refine r_iconst (q := 125) dX5_isLabels_124 rfl ?_
              refine r_isub (q := 126) dX5_isLabels_125 rfl ?_
              refine l_mT hP (q := 127) dX5_isLabels_126 rfl (hG _ _ rfl) (by omega) ?_
              refine r_bipush (q := 129) dX5_isLabels_127 rfl (bip (by decide) (by decide)) ?_
              refine r_icmp_ne (q := 132) (tgt := 134) dX5_isLabels_129 rfl (by decide) (by first | omega | exact hP.r _) (by first | omega | exact hP.r _) (fun h129 => ?_) (fun h129 => ?_)
              · refine r_iinc (q := 137) dX5_isLabels_134 rfl rfl (by decide) (Lst.setL rfl rfl) ?_
                refine r_iload (q := 139) dX5_isLabels_137 rfl rfl ?_
                refine r_iload_n (q := 140) dX5_isLabels_139 rfl rfl ?_
                refine r_icmp_ne (q := 143) (tgt := 164) dX5_isLabels_140 rfl (by decide) (by first | omega | exact hP.r _) (by first | omega | exact hP.r _) (fun h140 => ?_) (fun h140 => ?_)
                · refine r_iload (q := 166) dX5_isLabels_164 rfl rfl ?_
                  refine r_iconst (q := 167) dX5_isLabels_166 rfl ?_
                  refine r_iadd (q := 168) dX5_isLabels_167 rfl ?_
                  refine r_istore (q := 170) dX5_isLabels_168 rfl (by decide) (Lst.setL rfl rfl) ?_
                  refine r_iinc (q := 173) dX5_isLabels_170 rfl rfl (by decide) (Lst.setL rfl rfl) ?_
                  refine r_goto (q := 35) dX5_isLabels_173 (by decide) ?_
                  first
                    | (have hc : gLet (t k) = true ∨ gDig (t k) = true ∨ t k = 45 := by first | exact Or.inl (by assumption) | exact Or.inr (Or.inl (by assumption)) | exact Or.inr (Or.inr (by omega))
                       exact ih (k + 1) (by omega) (by omega) (by omega) (by omega) lab many (by omega) (by omega) (by rw [← hr, mLabF.eq_def t (gStop t b e) lab many k, if_pos (by omega), if_pos (by omega), if_pos hc]))
                    | exact ih (k + 1) (by omega) (by omega) (by omega) (by omega) (k + 1) (many + 1) (by omega) (by omega) (by rw [← hr, mLabF.eq_def t (gStop t b e) lab many k, if_pos (by omega), if_neg (by omega), if_neg (by omega), if_neg (by rintro ⟨z1, z2, z3⟩; first | omega | (rw [h159] at z3; exact absurd z3 (by decide)))])
                · refine r_iload (q := 145) dX5_isLabels_143 rfl rfl ?_
                  refine r_iconst (q := 146) dX5_isLabels_145 rfl ?_
                  refine r_icmp_le (q := 149) (tgt := 164) dX5_isLabels_146 rfl (by decide) (by first | omega | exact hP.r _) (by first | omega | exact hP.r _) (fun h146 => ?_) (fun h146 => ?_)
                  · refine r_iload (q := 166) dX5_isLabels_164 rfl rfl ?_
                    refine r_iconst (q := 167) dX5_isLabels_166 rfl ?_
                    refine r_iadd (q := 168) dX5_isLabels_167 rfl ?_
                    refine r_istore (q := 170) dX5_isLabels_168 rfl (by decide) (Lst.setL rfl rfl) ?_
                    refine r_iinc (q := 173) dX5_isLabels_170 rfl rfl (by decide) (Lst.setL rfl rfl) ?_
                    refine r_goto (q := 35) dX5_isLabels_173 (by decide) ?_
                    first
                      | (have hc : gLet (t k) = true ∨ gDig (t k) = true ∨ t k = 45 := by first | exact Or.inl (by assumption) | exact Or.inr (Or.inl (by assumption)) | exact Or.inr (Or.inr (by omega))
                         exact ih (k + 1) (by omega) (by omega) (by omega) (by omega) lab many (by omega) (by omega) (by rw [← hr, mLabF.eq_def t (gStop t b e) lab many k, if_pos (by omega), if_pos (by omega), if_pos hc]))
                      | exact ih (k + 1) (by omega) (by omega) (by omega) (by omega) (k + 1) (many + 1) (by omega) (by omega) (by rw [← hr, mLabF.eq_def t (gStop t b e) lab many k, if_pos (by omega), if_neg (by omega), if_neg (by omega), if_neg (by rintro ⟨z1, z2, z3⟩; first | omega | (rw [h159] at z3; exact absurd z3 (by decide)))])
                  · refine r_aload_n (q := 150) dX5_isLabels_149 rfl rfl ?_
                    refine g_X5_text (i := 0) (q := 153) dX5_isLabels_150 rfl fX5_7 (hG _ _ rfl) ?_
                    refine r_iload (q := 155) dX5_isLabels_153 rfl rfl ?_
                    refine l_mT hP (q := 156) dX5_isLabels_155 rfl (hG _ _ rfl) (by omega) ?_
                    refine cS_1 (My := mX5_isLetter) (q := 159) dX5_isLabels_156 rfl kX5_107 vX5_isLetter (m_isLetter (hP.r _)) ⟨by decide, by decide⟩ ⟨by decide, by decide⟩ (Nat.le_of_ble_eq_true rfl) ?_
                    refine r_ifB_ne (q := 162) (tgt := 164) dX5_isLabels_159 rfl (by decide) (fun h159 => ?_) (fun h159 => ?_)
                    · refine r_iload (q := 166) dX5_isLabels_164 rfl rfl ?_
                      refine r_iconst (q := 167) dX5_isLabels_166 rfl ?_
                      refine r_iadd (q := 168) dX5_isLabels_167 rfl ?_
                      refine r_istore (q := 170) dX5_isLabels_168 rfl (by decide) (Lst.setL rfl rfl) ?_
                      refine r_iinc (q := 173) dX5_isLabels_170 rfl rfl (by decide) (Lst.setL rfl rfl) ?_
                      refine r_goto (q := 35) dX5_isLabels_173 (by decide) ?_
                      first
                        | (have hc : gLet (t k) = true ∨ gDig (t k) = true ∨ t k = 45 := by first | exact Or.inl (by assumption) | exact Or.inr (Or.inl (by assumption)) | exact Or.inr (Or.inr (by omega))
                           exact ih (k + 1) (by omega) (by omega) (by omega) (by omega) lab many (by omega) (by omega) (by rw [← hr, mLabF.eq_def t (gStop t b e) lab many k, if_pos (by omega), if_pos (by omega), if_pos hc]))
                        | exact ih (k + 1) (by omega) (by omega) (by omega) (by omega) (k + 1) (many + 1) (by omega) (by omega) (by rw [← hr, mLabF.eq_def t (gStop t b e) lab many k, if_pos (by omega), if_neg (by omega), if_neg (by omega), if_neg (by rintro ⟨z1, z2, z3⟩; first | omega | (rw [h159] at z3; exact absurd z3 (by decide)))])
                    · refine r_iconst (q := 163) dX5_isLabels_162 rfl ?_
                      refine r_retz dX5_isLabels_163 rfl (by first | rfl | exact narB _) (by decide) (by decide) ?_
                      exact ret_i (by rw [← hr, mLabF.eq_def t (gStop t b e) lab many k, if_pos (by omega), if_neg (by omega), if_neg (by omega), if_pos ⟨by omega, by omega, h159⟩]; rfl)
              · refine r_iconst (q := 133) dX5_isLabels_132 rfl ?_
                refine r_retz dX5_isLabels_133 rfl (by first | rfl | exact narB _) (by decide) (by decide) ?_
                have hc : k = lab ∨ t lab = 45 ∨ t (k - 1) = 45 := by omega
                exact ret_i (by rw [← hr, mLabF.eq_def t (gStop t b e) lab many k, if_pos (by omega), if_neg (by omega), if_pos hc]; rfl)
        · refine r_aload_n (q := 60) dX5_isLabels_59 rfl rfl ?_
          refine g_X5_text (i := 0) (q := 63) dX5_isLabels_60 rfl fX5_7 (hG _ _ rfl) ?_
          refine r_iload (q := 65) dX5_isLabels_63 rfl rfl ?_
          refine l_mT hP (q := 66) dX5_isLabels_65 rfl (hG _ _ rfl) (by omega) ?_
          refine cS_1 (My := mX5_isLetter) (q := 69) dX5_isLabels_66 rfl kX5_107 vX5_isLetter (m_isLetter (hP.r _)) ⟨by decide, by decide⟩ ⟨by decide, by decide⟩ (Nat.le_of_ble_eq_true rfl) ?_
          refine r_ifB_ne (q := 72) (tgt := 170) dX5_isLabels_69 rfl (by decide) (fun h69 => ?_) (fun h69 => ?_)
          · refine r_iinc (q := 173) dX5_isLabels_170 rfl rfl (by decide) (Lst.setL rfl rfl) ?_
            refine r_goto (q := 35) dX5_isLabels_173 (by decide) ?_
            first
              | (have hc : gLet (t k) = true ∨ gDig (t k) = true ∨ t k = 45 := by first | exact Or.inl (by assumption) | exact Or.inr (Or.inl (by assumption)) | exact Or.inr (Or.inr (by omega))
                 exact ih (k + 1) (by omega) (by omega) (by omega) (by omega) lab many (by omega) (by omega) (by rw [← hr, mLabF.eq_def t (gStop t b e) lab many k, if_pos (by omega), if_pos (by omega), if_pos hc]))
              | exact ih (k + 1) (by omega) (by omega) (by omega) (by omega) (k + 1) (many + 1) (by omega) (by omega) (by rw [← hr, mLabF.eq_def t (gStop t b e) lab many k, if_pos (by omega), if_neg (by omega), if_neg (by omega), if_neg (by rintro ⟨z1, z2, z3⟩; first | omega | (rw [h159] at z3; exact absurd z3 (by decide)))])
          · refine r_aload_n (q := 73) dX5_isLabels_72 rfl rfl ?_
            refine g_X5_text (i := 0) (q := 76) dX5_isLabels_73 rfl fX5_7 (hG _ _ rfl) ?_
            refine r_iload (q := 78) dX5_isLabels_76 rfl rfl ?_
            refine l_mT hP (q := 79) dX5_isLabels_78 rfl (hG _ _ rfl) (by omega) ?_
            refine cS_1 (My := mX5_isDigit) (q := 82) dX5_isLabels_79 rfl kX5_110 vX5_isDigit (m_isDigit (hP.r _)) ⟨by decide, by decide⟩ ⟨by decide, by decide⟩ (Nat.le_of_ble_eq_true rfl) ?_
            refine r_ifB_ne (q := 85) (tgt := 170) dX5_isLabels_82 rfl (by decide) (fun h82 => ?_) (fun h82 => ?_)
            · refine r_iinc (q := 173) dX5_isLabels_170 rfl rfl (by decide) (Lst.setL rfl rfl) ?_
              refine r_goto (q := 35) dX5_isLabels_173 (by decide) ?_
              first
                | (have hc : gLet (t k) = true ∨ gDig (t k) = true ∨ t k = 45 := by first | exact Or.inl (by assumption) | exact Or.inr (Or.inl (by assumption)) | exact Or.inr (Or.inr (by omega))
                   exact ih (k + 1) (by omega) (by omega) (by omega) (by omega) lab many (by omega) (by omega) (by rw [← hr, mLabF.eq_def t (gStop t b e) lab many k, if_pos (by omega), if_pos (by omega), if_pos hc]))
                | exact ih (k + 1) (by omega) (by omega) (by omega) (by omega) (k + 1) (many + 1) (by omega) (by omega) (by rw [← hr, mLabF.eq_def t (gStop t b e) lab many k, if_pos (by omega), if_neg (by omega), if_neg (by omega), if_neg (by rintro ⟨z1, z2, z3⟩; first | omega | (rw [h159] at z3; exact absurd z3 (by decide)))])
            · refine r_aload_n (q := 86) dX5_isLabels_85 rfl rfl ?_
              refine g_X5_text (i := 0) (q := 89) dX5_isLabels_86 rfl fX5_7 (hG _ _ rfl) ?_
              refine r_iload (q := 91) dX5_isLabels_89 rfl rfl ?_
              refine l_mT hP (q := 92) dX5_isLabels_91 rfl (hG _ _ rfl) (by omega) ?_
              refine r_bipush (q := 94) dX5_isLabels_92 rfl (bip (by decide) (by decide)) ?_
              refine r_icmp_eq (q := 97) (tgt := 170) dX5_isLabels_94 rfl (by decide) (by first | omega | exact hP.r _) (by first | omega | exact hP.r _) (fun h94 => ?_) (fun h94 => ?_)
              · refine r_iinc (q := 173) dX5_isLabels_170 rfl rfl (by decide) (Lst.setL rfl rfl) ?_
                refine r_goto (q := 35) dX5_isLabels_173 (by decide) ?_
                first
                  | (have hc : gLet (t k) = true ∨ gDig (t k) = true ∨ t k = 45 := by first | exact Or.inl (by assumption) | exact Or.inr (Or.inl (by assumption)) | exact Or.inr (Or.inr (by omega))
                     exact ih (k + 1) (by omega) (by omega) (by omega) (by omega) lab many (by omega) (by omega) (by rw [← hr, mLabF.eq_def t (gStop t b e) lab many k, if_pos (by omega), if_pos (by omega), if_pos hc]))
                  | exact ih (k + 1) (by omega) (by omega) (by omega) (by omega) (k + 1) (many + 1) (by omega) (by omega) (by rw [← hr, mLabF.eq_def t (gStop t b e) lab many k, if_pos (by omega), if_neg (by omega), if_neg (by omega), if_neg (by rintro ⟨z1, z2, z3⟩; first | omega | (rw [h159] at z3; exact absurd z3 (by decide)))])
              · refine r_iconst (q := 98) dX5_isLabels_97 rfl ?_
                refine r_retz dX5_isLabels_98 rfl (by first | rfl | exact narB _) (by decide) (by decide) ?_
                exact ret_i (by rw [← hr, mLabF.eq_def t (gStop t b e) lab many k, if_pos (by omega), if_pos (by omega), if_neg (by rintro (z | z | z); (rw [h69] at z; exact absurd z (by decide)); (rw [h82] at z; exact absurd z (by decide)); omega)]; rfl)
  have J25 : RW γ mX5_isLabels 3 0 0 (rtn (some (.int (zI (bI (mLabF t (gStop t b e) b 0 b))))) σ xs) nX 0 0 25 [some (.ref (ga γ 8 0)), some (.int (zI (b))), some (.int (zI (e))), none, none, none, none] [.int (zI (gStop t b e))] σ xs := by
    refine r_istore_n (q := 26) dX5_isLabels_25 rfl (by decide) (Lst.setL rfl rfl) ?_
    refine r_iload_n (q := 27) dX5_isLabels_26 rfl rfl ?_
    refine r_istore (q := 29) dX5_isLabels_27 rfl (by decide) (Lst.setL rfl rfl) ?_
    refine r_iconst (q := 30) dX5_isLabels_29 rfl ?_
    refine r_istore (q := 32) dX5_isLabels_30 rfl (by decide) (Lst.setL rfl rfl) ?_
    refine r_iload_n (q := 33) dX5_isLabels_32 rfl rfl ?_
    refine r_istore (q := 35) dX5_isLabels_33 rfl (by decide) (Lst.setL rfl rfl) ?_
    exact loop b (by omega) (by omega) (by omega) b 0 (by omega) (by omega) rfl
  refine r_iload_n (q := 1) dX5_isLabels_0 rfl rfl ?_
  refine r_iload_n (q := 2) dX5_isLabels_1 rfl rfl ?_
  refine r_icmp_le (q := 5) (tgt := 24) dX5_isLabels_2 rfl (by decide) (by first | omega | exact hP.r _) (by first | omega | exact hP.r _) (fun h2 => ?_) (fun h2 => ?_)
  · refine r_iload_n (q := 25) dX5_isLabels_24 rfl rfl ?_
    first
      | (have e9 : gStop t b e = e - 1 := if_pos ⟨by omega, by omega⟩
         exact RW.cast rfl (congrArg (fun z => [Value.int (zI z)]) e9.symm) J25)
      | (have e9 : gStop t b e = e := if_neg (by omega)
         exact RW.cast rfl (congrArg (fun z => [Value.int (zI z)]) e9.symm) J25)
  · refine r_aload_n (q := 6) dX5_isLabels_5 rfl rfl ?_
    refine g_X5_text (i := 0) (q := 9) dX5_isLabels_6 rfl fX5_7 (hG _ _ rfl) ?_
    refine r_iload_n (q := 10) dX5_isLabels_9 rfl rfl ?_
    refine r_iconst (q := 11) dX5_isLabels_10 rfl ?_
    refine r_isub (q := 12) dX5_isLabels_11 rfl ?_
    refine l_mT hP (q := 13) dX5_isLabels_12 rfl (hG _ _ rfl) (by omega) ?_
    refine r_bipush (q := 15) dX5_isLabels_13 rfl (bip (by decide) (by decide)) ?_
    refine r_icmp_ne (q := 18) (tgt := 24) dX5_isLabels_15 rfl (by decide) (by first | omega | exact hP.r _) (by first | omega | exact hP.r _) (fun h15 => ?_) (fun h15 => ?_)
    · refine r_iload_n (q := 25) dX5_isLabels_24 rfl rfl ?_
      first
        | (have e9 : gStop t b e = e - 1 := if_pos ⟨by omega, by omega⟩
           exact RW.cast rfl (congrArg (fun z => [Value.int (zI z)]) e9.symm) J25)
        | (have e9 : gStop t b e = e := if_neg (by omega)
           exact RW.cast rfl (congrArg (fun z => [Value.int (zI z)]) e9.symm) J25)
    · refine r_iload_n (q := 19) dX5_isLabels_18 rfl rfl ?_
      refine r_iconst (q := 20) dX5_isLabels_19 rfl ?_
      refine r_isub (q := 21) dX5_isLabels_20 rfl ?_
      refine r_goto (q := 25) dX5_isLabels_21 (by decide) ?_
      first
        | (have e9 : gStop t b e = e - 1 := if_pos ⟨by omega, by omega⟩
           exact RW.cast rfl (congrArg (fun z => [Value.int (zI z)]) e9.symm) J25)
        | (have e9 : gStop t b e = e := if_neg (by omega)
           exact RW.cast rfl (congrArg (fun z => [Value.int (zI z)]) e9.symm) J25)
end X5
