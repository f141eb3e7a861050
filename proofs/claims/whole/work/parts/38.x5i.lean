/-! The model: parse, copy, alike, checksum -/
def cpy (g src : Nat → Int) (c i : Int) : Nat → Int := fun q => if c ≤ (q : Int) ∧ (q : Int) < c + i then src ((q : Int) - c).toNat else g q
theorem cpy_0 (g src : Nat → Int) (c : Int) : cpy g src c 0 = g := by
  funext q
  unfold cpy
  rw [if_neg (by omega)]
theorem cpy_s {g src : Nat → Int} {c i : Int} (hc : 0 ≤ c) (hi : 0 ≤ i) : u1 (cpy g src c i) (c + i).toNat (src i.toNat) = cpy g src c (i + 1) := by
  funext q
  unfold u1 cpy
  by_cases h1 : q = (c + i).toNat
  · rw [if_pos h1, if_pos (by omega)]
    congr 1
    omega
  · rw [if_neg h1]
    by_cases h2 : c ≤ (q : Int) ∧ (q : Int) < c + i
    · rw [if_pos h2, if_pos (by omega)]
    · rw [if_neg h2, if_neg (by omega)]
def blk60 (g : Nat → Int) (i j m : Int) : Nat → Int := fun q => if 60 * j ≤ (q : Int) ∧ (q : Int) < 60 * j + m then g (60 * i + ((q : Int) - 60 * j)).toNat else g q
theorem blk60_0 (g : Nat → Int) (i j : Int) : blk60 g i j 0 = g := by
  funext q
  unfold blk60
  rw [if_neg (by omega)]
theorem blk60_r {g : Nat → Int} {i j m : Int} (hi : 0 ≤ i) (hj : 0 ≤ j) (hm : 0 ≤ m ∧ m < 60) : blk60 g i j m (60 * i + m).toNat = g (60 * i + m).toNat := by
  unfold blk60
  rw [if_neg (by omega)]
theorem blk60_s {g : Nat → Int} {i j m : Int} (hi : 0 ≤ i) (hj : 0 ≤ j) (hm : 0 ≤ m ∧ m < 60) : u1 (blk60 g i j m) (60 * j + m).toNat (blk60 g i j m (60 * i + m).toNat) = blk60 g i j (m + 1) := by
  rw [blk60_r hi hj hm]
  funext q
  unfold u1 blk60
  by_cases h1 : q = (60 * j + m).toNat
  · rw [if_pos h1, if_pos (by omega)]
    congr 2
    omega
  · rw [if_neg h1]
    by_cases h2 : 60 * j ≤ (q : Int) ∧ (q : Int) < 60 * j + m
    · rw [if_pos h2, if_pos (by omega)]
    · rw [if_neg h2, if_neg (by omega)]
def blk9 (g : Nat → Int) (i j m : Int) : Nat → Int := fun q => if 9 * j ≤ (q : Int) ∧ (q : Int) < 9 * j + m then g (9 * i + ((q : Int) - 9 * j)).toNat else g q
theorem blk9_0 (g : Nat → Int) (i j : Int) : blk9 g i j 0 = g := by
  funext q
  unfold blk9
  rw [if_neg (by omega)]
theorem blk9_r {g : Nat → Int} {i j m : Int} (hi : 0 ≤ i) (hj : 0 ≤ j) (hm : 0 ≤ m ∧ m < 9) : blk9 g i j m (9 * i + m).toNat = g (9 * i + m).toNat := by
  unfold blk9
  rw [if_neg (by omega)]
theorem blk9_s {g : Nat → Int} {i j m : Int} (hi : 0 ≤ i) (hj : 0 ≤ j) (hm : 0 ≤ m ∧ m < 9) : u1 (blk9 g i j m) (9 * j + m).toNat (blk9 g i j m (9 * i + m).toNat) = blk9 g i j (m + 1) := by
  rw [blk9_r hi hj hm]
  funext q
  unfold u1 blk9
  by_cases h1 : q = (9 * j + m).toNat
  · rw [if_pos h1, if_pos (by omega)]
    congr 2
    omega
  · rw [if_neg h1]
    by_cases h2 : 9 * j ≤ (q : Int) ∧ (q : Int) < 9 * j + m
    · rw [if_pos h2, if_pos (by omega)]
    · rw [if_neg h2, if_neg (by omega)]
theorem st_sg (S : St) (g : Nat → Int) (ix : Nat) (v : Int) : sMsg (sMsg S g) (u1 (msg (sMsg S g)) ix v) = sMsg S (u1 g ix v) := rfl
theorem fr_fr (S : St) (f g : Nat → Int) : sMfr (sMfr S f) g = sMfr S g := rfl
theorem to_to (S : St) (f g : Nat → Int) : sMto (sMto S f) g = sMto S g := rfl
theorem fr_to (S : St) (f g : Nat → Int) : sMfr (sMto S f) g = sMto (sMfr S g) f := rfl
theorem sg_sg (S : St) : sMsg S (msg S) = S := rfl
theorem ft_ft (S : St) : sMto (sMfr S (mfr S)) (mto S) = S := rfl
theorem st_ft (S : St) (f t f2 t2 : Nat → Int) : sMto (sMfr (sMto (sMfr S f) t) f2) t2 = sMto (sMfr S f2) t2 := by rw [fr_to, fr_fr, to_to]
def mStoM (s : St) (j m : Int) : St := sMsg (sMlo s (u1 (mlo s) j.toNat (msz s))) (cpy (msg s) (mtx s) (60 * j) m)
def mStoF (s : St) (j m k : Int) : St := sMto (sMfr (mStoM s j m) (cpy (mfr s) (mbe s) (9 * j) k)) (cpy (mto s) (men s) (9 * j) k)
/-- the cut is kept in slot j -/
def mSto (s : St) (j : Int) : St := sMpo (mStoF s j (msz s) 9) (u1 (mpo s) j.toNat (mpt s))
theorem sg_lo (s : St) (l : Nat → Int) : sMsg (sMlo s l) (msg s) = sMlo s l := rfl
theorem sto_0 (s : St) (j : Int) : mStoM s j 0 = sMlo s (u1 (mlo s) j.toNat (msz s)) := by unfold mStoM; rw [cpy_0, sg_lo]
theorem sto_f (s : St) (j m : Int) : mStoF s j m 0 = mStoM s j m := by
  unfold mStoF
  rw [cpy_0, cpy_0]
  exact ft_ft (mStoM s j m)
theorem sto_po (s : St) (j m k : Int) : mpo (mStoF s j m k) = mpo s := rfl
theorem sto_pt (s : St) (j m k : Int) : mpt (mStoF s j m k) = mpt s := rfl
theorem sto_e {s : St} {j n : Int} (h : msz s = n) : sMpo (mStoF s j n 9) (u1 (mpo (mStoF s j n 9)) j.toNat (mpt (mStoF s j n 9))) = mSto s j := by
  rw [sto_po, sto_pt]
  unfold mSto
  rw [h]
def mCpyM (s : St) (i j m : Int) : St := sMsg (sMlo s (u1 (mlo s) j.toNat (mlo s i.toNat))) (blk60 (msg s) i j m)
def mCpyF (s : St) (i j k : Int) : St := sMto (sMfr (mCpyM s i j 60) (blk9 (mfr s) i j k)) (blk9 (mto s) i j k)
def mCpy (s : St) (i j : Int) : St := sMpo (mCpyF s i j 9) (u1 (mpo s) j.toNat (mpo s i.toNat))
def mCntF (s : St) (a k : Int) : Int := if k < 4 then mCntF s (if 0 ≤ mlo s k.toNat then a + 1 else a) (k + 1) else a
termination_by (4 - k).toNat
decreasing_by omega
def mAlkF (σ : St) (i j k p : Int) : Bool := if p < mMany σ i k then (if msg σ (60 * i + mF σ i k + p).toNat = msg σ (60 * j + mF σ j k + p).toNat then mAlkF σ i j k (p + 1) else false) else true
termination_by (mMany σ i k - p).toNat
decreasing_by omega
def mAlk (σ : St) (i j k : Int) : Bool := if mMany σ i k = mMany σ j k then mAlkF σ i j k 0 else false
def mAlsF (σ : St) (i j a k : Int) : Int := if k < 9 then mAlsF σ i j (if mAlk σ i j k = true then a + 1 else a) (k + 1) else a
termination_by (9 - k).toNat
decreasing_by omega
def pk (t : Int → Int) (n a p : Int) : Int := if p < n then pk t n (31 * a + t p) (p + 1) else a
termination_by (n - p).toNat
decreasing_by omega
def mSmF (σ : St) (j a k : Int) : Int := if k < 9 then mSmF σ j (31 * a + mMany σ j k) (k + 1) else 31 * a + mpo σ j.toNat
termination_by (9 - k).toNat
decreasing_by omega
def mSum (σ : St) (j a : Int) : Int := if mlo σ j.toNat < 0 then 31 * a else mSmF σ j a 0
def mCkA (σ : St) (a k : Int) : Int := if k < 4 then mCkA σ (mSum σ k a) (k + 1) else a
termination_by (4 - k).toNat
decreasing_by omega
def mCk (σ : St) : Int := mCkA σ (31 * pk (mT σ) (msz σ) 7 0 + mrf σ) 0
theorem mBad_ab {t : Int → Int} {b e : Int} (hb : 0 ≤ b ∧ b ≤ e) : (mBad t b e < 0 ↔ ¬ nxt (isC t 3) b e < e) := by
  have := nxt_rng (isC t 3) e b hb.2
  unfold mBad
  split <;> omega
theorem mFrF_r {t : Int → Int} {n : Int} : ∀ k : Int, k ≤ n + 1 → 0 ≤ k → -1 ≤ mFrF t n k ∧ mFrF t n k ≤ n := by
  refine up (fun k hk ih h0 => ?_)
  rw [mFrF.eq_def]
  split
  · split
    · omega
    · exact ih (k + 1) (by omega) (by omega) (by omega)
  · omega
theorem mPlF_r {t : Int → Int} {n h : Int} (hT : Tz t n) : -1 ≤ mPlF t n h ∧ mPlF t n h ≤ n := by
  have := hT.1
  unfold mPlF
  split
  · rename_i hq
    have := hT.lt (by decide) hq
    exact mFrF_r (h + 1) (by omega) (by omega)
  · omega
theorem mPl_r {t : Int → Int} {n : Int} (hT : Tz t n) : -1 ≤ mPl t n ∧ mPl t n ≤ n := by
  have hC := hT.gCol
  have hn := hT.1
  have hA := hT.eAut (r := gCol t n + 1) (by omega)
  have hF := fun h => mPlF_r (h := h) hT
  have e1 := ePart_r t (n := n) (b := gCol t n + 1) 2 (by omega)
  have b1 := mBad_r t (b := gCol t n + 1) (e := ePart t n (gCol t n + 1) 2) (by omega)
  have e2 := ePart_r t (n := n) (b := eAut t n (gCol t n + 1)) 5 (by omega)
  have b2 := mBad_r t (b := eAut t n (gCol t n + 1)) (e := ePart t n (eAut t n (gCol t n + 1)) 5) (by omega)
  have hW : -1 ≤ mPlW t n ∧ mPlW t n ≤ n := by
    unfold mPlW
    split
    · omega
    · have := gWr_r (t := t) (c := gCol t n) (by omega)
      omega
  unfold mPl
  split
  · exact hW
  · unfold mPlR
    split
    · unfold mPlO
      split
      · omega
      · split
        · omega
        · exact hF _
    · unfold mPlN
      split
      · omega
      · unfold mPlP
        split
        · omega
        · split
          · rename_i hq
            have hl := hT.lt (by decide) hq
            have e3 := ePart_r t (n := n) (b := ePart t n (eAut t n (gCol t n + 1)) 5 + 1) 2 (by omega)
            have b3 := mBad_r t (b := ePart t n (eAut t n (gCol t n + 1)) 5 + 1) (e := ePart t n (ePart t n (eAut t n (gCol t n + 1)) 5 + 1) 2) (by omega)
            unfold mPlQ
            split
            · omega
            · exact hF _
          · exact hF _
section X5
variable {γ : Gm} {σ : St} {xs : va_W} {t : Int → Int} {n : Int}
set_option maxRecDepth 100000 in
set_option maxHeartbeats 4000000 in
theorem m_parse_1 (hG : Full γ) (hP : Mp σ t n) {j : Int} (hr : -2147483648 ≤ j ∧ j ≤ 2147483647) (h : ¬ (0 ≤ j ∧ j ≤ 3)) : Ev γ mX5_parse 9 0 0 [.ref (ga γ 8 0), .int (zI (j))] σ xs (rtn (some (.int (zI (0)))) (sMcd σ 1) xs) nX := by
  refine Ev.of1 3 [some (.ref (ga γ 8 0)), some (.int (zI (j))), none, none, none] rfl pn_X5_parse rfl (Nat.le_of_ble_eq_true rfl) ?_
  have hn := hP.n
  have hT := hP.tz
  have hC := hT.gCol
  have hs8 : -1 ≤ mSl t n ∧ mSl t n ≤ 63 := by unfold mSl; split <;> omega
  have J33 : RW γ mX5_parse 9 0 0 (rtn (some (.int (zI (0)))) (sMcd σ 1) xs) nX 0 0 33 [some (.ref (ga γ 8 0)), some (.int (zI (j))), none, none, none] [.int (zI (bI (gAB t n)))] σ xs := by
    refine r_istore_n (q := 34) dX5_parse_33 rfl (by decide) (Lst.setL rfl rfl) ?_
    refine r_aload_n (q := 35) dX5_parse_34 rfl rfl ?_
    refine r_iload_n (q := 36) dX5_parse_35 rfl rfl ?_
    refine cS_1 (My := mX5_isSlot) (q := 39) dX5_parse_36 rfl kX5_145 vX5_isSlot (m_isSlot (by omega)) ⟨by decide, by decide⟩ ⟨by decide, by decide⟩ (Nat.le_of_ble_eq_true rfl) ?_
    refine r_ifB_ne (q := 42) (tgt := 46) dX5_parse_39 rfl (by decide) (fun h39 => ?_) (fun h39 => ?_)
    · exfalso; simp at h39; omega
    · refine r_iconst (q := 43) dX5_parse_42 rfl ?_
      refine r_goto (q := 55) dX5_parse_43 (by decide) ?_
      refine cX5_1 (My := mX5_fails) (q := 58) dX5_parse_55 rfl kX5_63 vX5_fails (hG _ _ rfl) rfl (m_fails hG (by omega)) ⟨by decide, by decide⟩ ⟨by decide, by decide⟩ (Nat.le_of_ble_eq_true rfl) ?_
      refine r_ifB_eq (q := 61) (tgt := 63) dX5_parse_58 rfl (by decide) (fun h58 => ?_) (fun h58 => ?_)
      · exact absurd h58 (by decide)
      · refine r_iconst (q := 62) dX5_parse_61 rfl ?_
        refine r_reti dX5_parse_62 rfl (by decide) (by decide) ?_
        exact ret_is rfl rfl
  refine r_aload_n (q := 1) dX5_parse_0 rfl rfl ?_
  refine cX5_0 (My := mX5_slashes) (q := 4) dX5_parse_1 rfl kX5_122 vX5_slashes (hG _ _ rfl) rfl (p_slashes hG hP) ⟨by decide, by decide⟩ ⟨by decide, by decide⟩ (Nat.le_of_ble_eq_true rfl) ?_
  refine r_if_lt (q := 7) (tgt := 32) dX5_parse_4 rfl (by decide) (by omega) (fun h4 => ?_) (fun h4 => ?_)
  · refine r_iconst (q := 33) dX5_parse_32 rfl ?_
    first
      | (have hg : gAB t n = false := by
           unfold gAB
           cases hgs : gSl t (gCol t n + 1)
           · rfl
           · have := mSl_y hgs; omega
         exact RW.cast rfl (show _ = [Value.int (zI (bI (gAB t n)))] by rw [hg]; rfl) J33)
      | (have hg : gAB t n = false := by unfold gAB; rw [if_pos hgs]; exact decide_eq_false (b8.mp (by omega))
         exact RW.cast rfl (show _ = [Value.int (zI (bI (gAB t n)))] by rw [hg]; rfl) J33)
      | (have hg : gAB t n = true := by unfold gAB; rw [if_pos hgs]; exact decide_eq_true (Classical.not_not.mp (fun z => absurd (b8.mpr z) (by omega)))
         exact RW.cast rfl (show _ = [Value.int (zI (bI (gAB t n)))] by rw [hg]; rfl) J33)
  · have hgs : gSl t (gCol t n + 1) = true := by
      cases hgs : gSl t (gCol t n + 1)
      · have := mSl_n hgs; omega
      · rfl
    have eS := mSl_y hgs
    have hA2 := hT.sl hgs
    have hB := nxt_rng (isC t 4) n (gCol t n + 1 + 2) (by omega)
    have hE : gABe t n = nxt (isC t 4) (gCol t n + 1 + 2) n := rfl
    have b9 := mBad_r t (b := gCol t n + 1 + 2) (e := gABe t n) (by omega)
    have b8 := mBad_ab (t := t) (b := gCol t n + 1 + 2) (e := gABe t n) (by omega)
    refine r_aload_n (q := 8) dX5_parse_7 rfl rfl ?_
    refine r_aload_n (q := 9) dX5_parse_8 rfl rfl ?_
    refine cX5_0 (My := mX5_slashes) (q := 12) dX5_parse_9 rfl kX5_122 vX5_slashes (hG _ _ rfl) rfl (p_slashes hG hP) ⟨by decide, by decide⟩ ⟨by decide, by decide⟩ (Nat.le_of_ble_eq_true rfl) ?_
    rw [eS]
    refine r_aload_n (q := 13) dX5_parse_12 rfl rfl ?_
    refine r_aload_n (q := 14) dX5_parse_13 rfl rfl ?_
    refine cX5_0 (My := mX5_slashes) (q := 17) dX5_parse_14 rfl kX5_122 vX5_slashes (hG _ _ rfl) rfl (p_slashes hG hP) ⟨by decide, by decide⟩ ⟨by decide, by decide⟩ (Nat.le_of_ble_eq_true rfl) ?_
    rw [eS]
    refine r_ldcS (i := 4) (tx := "/?#") (q := 19) dX5_parse_17 rfl (List.mem_of_getElem? (i := 65) rfl) ?_
    refine cX5_2 (My := mX5_next) (q := 22) dX5_parse_19 rfl kX5_85 vX5_next (hG _ _ rfl) rfl (p_next hG hP (by decide) (by omega)) ⟨by decide, by decide⟩ ⟨by decide, by decide⟩ (Nat.le_of_ble_eq_true rfl) ?_
    rw [← hE]
    refine cX5_2 (My := mX5_bad) (q := 25) dX5_parse_22 rfl kX5_119 vX5_bad (hG _ _ rfl) rfl (p_bad hG hP (by omega) (by omega)) ⟨by decide, by decide⟩ ⟨by decide, by decide⟩ (Nat.le_of_ble_eq_true rfl) ?_
    refine r_if_lt (q := 28) (tgt := 32) dX5_parse_25 rfl (by decide) (by omega) (fun h25 => ?_) (fun h25 => ?_)
    · refine r_iconst (q := 33) dX5_parse_32 rfl ?_
      first
        | (have hg : gAB t n = false := by
             unfold gAB
             cases hgs : gSl t (gCol t n + 1)
             · rfl
             · have := mSl_y hgs; omega
           exact RW.cast rfl (show _ = [Value.int (zI (bI (gAB t n)))] by rw [hg]; rfl) J33)
        | (have hg : gAB t n = false := by unfold gAB; rw [if_pos hgs]; exact decide_eq_false (b8.mp (by omega))
           exact RW.cast rfl (show _ = [Value.int (zI (bI (gAB t n)))] by rw [hg]; rfl) J33)
        | (have hg : gAB t n = true := by unfold gAB; rw [if_pos hgs]; exact decide_eq_true (Classical.not_not.mp (fun z => absurd (b8.mpr z) (by omega)))
           exact RW.cast rfl (show _ = [Value.int (zI (bI (gAB t n)))] by rw [hg]; rfl) J33)
    · refine r_iconst (q := 29) dX5_parse_28 rfl ?_
      refine r_goto (q := 33) dX5_parse_29 (by decide) ?_
      first
        | (have hg : gAB t n = false := by
             unfold gAB
             cases hgs : gSl t (gCol t n + 1)
             · rfl
             · have := mSl_y hgs; omega
           exact RW.cast rfl (show _ = [Value.int (zI (bI (gAB t n)))] by rw [hg]; rfl) J33)
        | (have hg : gAB t n = false := by unfold gAB; rw [if_pos hgs]; exact decide_eq_false (b8.mp (by omega))
           exact RW.cast rfl (show _ = [Value.int (zI (bI (gAB t n)))] by rw [hg]; rfl) J33)
        | (have hg : gAB t n = true := by unfold gAB; rw [if_pos hgs]; exact decide_eq_true (Classical.not_not.mp (fun z => absurd (b8.mpr z) (by omega)))
           exact RW.cast rfl (show _ = [Value.int (zI (bI (gAB t n)))] by rw [hg]; rfl) J33)
set_option maxRecDepth 100000 in
set_option maxHeartbeats 4000000 in
theorem m_parse_2 (hG : Full γ) (hP : Mp σ t n) {j : Int} (hj : 0 ≤ j ∧ j < 4) (h : gAB t n = true) : Ev γ mX5_parse 9 0 0 [.ref (ga γ 8 0), .int (zI (j))] σ xs (rtn (some (.int (zI (0)))) (sMcd σ 2) xs) nX := by
  refine Ev.of1 3 [some (.ref (ga γ 8 0)), some (.int (zI (j))), none, none, none] rfl pn_X5_parse rfl (Nat.le_of_ble_eq_true rfl) ?_
  have hn := hP.n
  have hT := hP.tz
  have hC := hT.gCol
  have hs8 : -1 ≤ mSl t n ∧ mSl t n ≤ 63 := by unfold mSl; split <;> omega
  have J33 : RW γ mX5_parse 9 0 0 (rtn (some (.int (zI (0)))) (sMcd σ 2) xs) nX 0 0 33 [some (.ref (ga γ 8 0)), some (.int (zI (j))), none, none, none] [.int (zI (bI (gAB t n)))] σ xs := by
    refine r_istore_n (q := 34) dX5_parse_33 rfl (by decide) (Lst.setL rfl rfl) ?_
    refine r_aload_n (q := 35) dX5_parse_34 rfl rfl ?_
    refine r_iload_n (q := 36) dX5_parse_35 rfl rfl ?_
    refine cS_1 (My := mX5_isSlot) (q := 39) dX5_parse_36 rfl kX5_145 vX5_isSlot (m_isSlot (by omega)) ⟨by decide, by decide⟩ ⟨by decide, by decide⟩ (Nat.le_of_ble_eq_true rfl) ?_
    refine r_ifB_ne (q := 42) (tgt := 46) dX5_parse_39 rfl (by decide) (fun h39 => ?_) (fun h39 => ?_)
    · refine r_iload_n (q := 47) dX5_parse_46 rfl rfl ?_
      refine r_ifB_eq (q := 50) (tgt := 54) dX5_parse_47 rfl (by decide) (fun h47 => ?_) (fun h47 => ?_)
      · rw [h] at h47; exact absurd h47 (by decide)
      · refine r_iconst (q := 51) dX5_parse_50 rfl ?_
        refine r_goto (q := 55) dX5_parse_51 (by decide) ?_
        refine cX5_1 (My := mX5_fails) (q := 58) dX5_parse_55 rfl kX5_63 vX5_fails (hG _ _ rfl) rfl (m_fails hG (by omega)) ⟨by decide, by decide⟩ ⟨by decide, by decide⟩ (Nat.le_of_ble_eq_true rfl) ?_
        refine r_ifB_eq (q := 61) (tgt := 63) dX5_parse_58 rfl (by decide) (fun h58 => ?_) (fun h58 => ?_)
        · exact absurd h58 (by decide)
        · refine r_iconst (q := 62) dX5_parse_61 rfl ?_
          refine r_reti dX5_parse_62 rfl (by decide) (by decide) ?_
          exact ret_is rfl rfl
    · exfalso; simp at h39; omega
  refine r_aload_n (q := 1) dX5_parse_0 rfl rfl ?_
  refine cX5_0 (My := mX5_slashes) (q := 4) dX5_parse_1 rfl kX5_122 vX5_slashes (hG _ _ rfl) rfl (p_slashes hG hP) ⟨by decide, by decide⟩ ⟨by decide, by decide⟩ (Nat.le_of_ble_eq_true rfl) ?_
  refine r_if_lt (q := 7) (tgt := 32) dX5_parse_4 rfl (by decide) (by omega) (fun h4 => ?_) (fun h4 => ?_)
  · refine r_iconst (q := 33) dX5_parse_32 rfl ?_
    first
      | (have hg : gAB t n = false := by
           unfold gAB
           cases hgs : gSl t (gCol t n + 1)
           · rfl
           · have := mSl_y hgs; omega
         exact RW.cast rfl (show _ = [Value.int (zI (bI (gAB t n)))] by rw [hg]; rfl) J33)
      | (have hg : gAB t n = false := by unfold gAB; rw [if_pos hgs]; exact decide_eq_false (b8.mp (by omega))
         exact RW.cast rfl (show _ = [Value.int (zI (bI (gAB t n)))] by rw [hg]; rfl) J33)
      | (have hg : gAB t n = true := by unfold gAB; rw [if_pos hgs]; exact decide_eq_true (Classical.not_not.mp (fun z => absurd (b8.mpr z) (by omega)))
         exact RW.cast rfl (show _ = [Value.int (zI (bI (gAB t n)))] by rw [hg]; rfl) J33)
  · have hgs : gSl t (gCol t n + 1) = true := by
      cases hgs : gSl t (gCol t n + 1)
      · have := mSl_n hgs; omega
      · rfl
    have eS := mSl_y hgs
    have hA2 := hT.sl hgs
    have hB := nxt_rng (isC t 4) n (gCol t n + 1 + 2) (by omega)
    have hE : gABe t n = nxt (isC t 4) (gCol t n + 1 + 2) n := rfl
    have b9 := mBad_r t (b := gCol t n + 1 + 2) (e := gABe t n) (by omega)
    have b8 := mBad_ab (t := t) (b := gCol t n + 1 + 2) (e := gABe t n) (by omega)
    refine r_aload_n (q := 8) dX5_parse_7 rfl rfl ?_
    refine r_aload_n (q := 9) dX5_parse_8 rfl rfl ?_
    refine cX5_0 (My := mX5_slashes) (q := 12) dX5_parse_9 rfl kX5_122 vX5_slashes (hG _ _ rfl) rfl (p_slashes hG hP) ⟨by decide, by decide⟩ ⟨by decide, by decide⟩ (Nat.le_of_ble_eq_true rfl) ?_
    rw [eS]
    refine r_aload_n (q := 13) dX5_parse_12 rfl rfl ?_
    refine r_aload_n (q := 14) dX5_parse_13 rfl rfl ?_
    refine cX5_0 (My := mX5_slashes) (q := 17) dX5_parse_14 rfl kX5_122 vX5_slashes (hG _ _ rfl) rfl (p_slashes hG hP) ⟨by decide, by decide⟩ ⟨by decide, by decide⟩ (Nat.le_of_ble_eq_true rfl) ?_
    rw [eS]
    refine r_ldcS (i := 4) (tx := "/?#") (q := 19) dX5_parse_17 rfl (List.mem_of_getElem? (i := 65) rfl) ?_
    refine cX5_2 (My := mX5_next) (q := 22) dX5_parse_19 rfl kX5_85 vX5_next (hG _ _ rfl) rfl (p_next hG hP (by decide) (by omega)) ⟨by decide, by decide⟩ ⟨by decide, by decide⟩ (Nat.le_of_ble_eq_true rfl) ?_
    rw [← hE]
    refine cX5_2 (My := mX5_bad) (q := 25) dX5_parse_22 rfl kX5_119 vX5_bad (hG _ _ rfl) rfl (p_bad hG hP (by omega) (by omega)) ⟨by decide, by decide⟩ ⟨by decide, by decide⟩ (Nat.le_of_ble_eq_true rfl) ?_
    refine r_if_lt (q := 28) (tgt := 32) dX5_parse_25 rfl (by decide) (by omega) (fun h25 => ?_) (fun h25 => ?_)
    · refine r_iconst (q := 33) dX5_parse_32 rfl ?_
      first
        | (have hg : gAB t n = false := by
             unfold gAB
             cases hgs : gSl t (gCol t n + 1)
             · rfl
             · have := mSl_y hgs; omega
           exact RW.cast rfl (show _ = [Value.int (zI (bI (gAB t n)))] by rw [hg]; rfl) J33)
        | (have hg : gAB t n = false := by unfold gAB; rw [if_pos hgs]; exact decide_eq_false (b8.mp (by omega))
           exact RW.cast rfl (show _ = [Value.int (zI (bI (gAB t n)))] by rw [hg]; rfl) J33)
        | (have hg : gAB t n = true := by unfold gAB; rw [if_pos hgs]; exact decide_eq_true (Classical.not_not.mp (fun z => absurd (b8.mpr z) (by omega)))
           exact RW.cast rfl (show _ = [Value.int (zI (bI (gAB t n)))] by rw [hg]; rfl) J33)
    · refine r_iconst (q := 29) dX5_parse_28 rfl ?_
      refine r_goto (q := 33) dX5_parse_29 (by decide) ?_
      first
        | (have hg : gAB t n = false := by
             unfold gAB
             cases hgs : gSl t (gCol t n + 1)
             · rfl
             · have := mSl_y hgs; omega
           exact RW.cast rfl (show _ = [Value.int (zI (bI (gAB t n)))] by rw [hg]; rfl) J33)
        | (have hg : gAB t n = false := by unfold gAB; rw [if_pos hgs]; exact decide_eq_false (b8.mp (by omega))
           exact RW.cast rfl (show _ = [Value.int (zI (bI (gAB t n)))] by rw [hg]; rfl) J33)
        | (have hg : gAB t n = true := by unfold gAB; rw [if_pos hgs]; exact decide_eq_true (Classical.not_not.mp (fun z => absurd (b8.mpr z) (by omega)))
           exact RW.cast rfl (show _ = [Value.int (zI (bI (gAB t n)))] by rw [hg]; rfl) J33)
set_option maxRecDepth 100000 in
set_option maxHeartbeats 4000000 in
theorem m_parse_r (hG : Full γ) (hP : Mp σ t n) {j : Int} (hj : 0 ≤ j ∧ j < 4) (h : gAB t n = false) (h9 : mPl t n ≠ -1) : Ev γ mX5_parse 9 0 0 [.ref (ga γ 8 0), .int (zI (j))] σ xs (fun v s x => x = xs ∧ v = some (.int (zI (mPl t n))) ∧ ∃ s0, Ep (sMcd σ 0) s0 ∧ s = sMpl (sMrf s0 (mrf s0 + 1)) (mPl t n)) nX := by
  refine Ev.of1 3 [some (.ref (ga γ 8 0)), some (.int (zI (j))), none, none, none] rfl pn_X5_parse rfl (Nat.le_of_ble_eq_true rfl) ?_
  have hn := hP.n
  have hT := hP.tz
  have hC := hT.gCol
  have hs8 : -1 ≤ mSl t n ∧ mSl t n ≤ 63 := by unfold mSl; split <;> omega
  have hP0 : Mp (sMcd σ 0) t n := hP
  have hr9 := mPl_r hT
  have J33 : RW γ mX5_parse 9 0 0 (fun v s x => x = xs ∧ v = some (.int (zI (mPl t n))) ∧ ∃ s0, Ep (sMcd σ 0) s0 ∧ s = sMpl (sMrf s0 (mrf s0 + 1)) (mPl t n)) nX 0 0 33 [some (.ref (ga γ 8 0)), some (.int (zI (j))), none, none, none] [.int (zI (bI (gAB t n)))] σ xs := by
    refine r_istore_n (q := 34) dX5_parse_33 rfl (by decide) (Lst.setL rfl rfl) ?_
    refine r_aload_n (q := 35) dX5_parse_34 rfl rfl ?_
    refine r_iload_n (q := 36) dX5_parse_35 rfl rfl ?_
    refine cS_1 (My := mX5_isSlot) (q := 39) dX5_parse_36 rfl kX5_145 vX5_isSlot (m_isSlot (by omega)) ⟨by decide, by decide⟩ ⟨by decide, by decide⟩ (Nat.le_of_ble_eq_true rfl) ?_
    refine r_ifB_ne (q := 42) (tgt := 46) dX5_parse_39 rfl (by decide) (fun h39 => ?_) (fun h39 => ?_)
    · refine r_iload_n (q := 47) dX5_parse_46 rfl rfl ?_
      refine r_ifB_eq (q := 50) (tgt := 54) dX5_parse_47 rfl (by decide) (fun h47 => ?_) (fun h47 => ?_)
      · refine r_iconst (q := 55) dX5_parse_54 rfl ?_
        refine cX5_1 (My := mX5_fails) (q := 58) dX5_parse_55 rfl kX5_63 vX5_fails (hG _ _ rfl) rfl (m_fails hG (by omega)) ⟨by decide, by decide⟩ ⟨by decide, by decide⟩ (Nat.le_of_ble_eq_true rfl) ?_
        refine r_ifB_eq (q := 61) (tgt := 63) dX5_parse_58 rfl (by decide) (fun h58 => ?_) (fun h58 => ?_)
        · refine r_aload_n (q := 64) dX5_parse_63 rfl rfl ?_
          refine r_callv (ci := 4) (As := []) (My := mX5_parts) (q := 67) dX5_parse_64 rfl kX5_148 vX5_parts (hG _ _ rfl) rfl rfl rfl (m_parts hG hP0) rfl ⟨by decide, by decide⟩ ⟨by decide, by decide⟩ (Nat.le_of_ble_eq_true rfl) (fun _ _ _ h => h.elim) (fun v s xs2 hQ => ?_)
          obtain ⟨rfl, rfl, hE, hF⟩ := hQ
          refine RW.cast rfl (show _ = [Value.int (zI (mPl t n))] from rfl) ?_
          refine r_istore_n (q := 68) dX5_parse_67 rfl (by decide) (Lst.setL rfl rfl) ?_
          refine r_iload_n (q := 69) dX5_parse_68 rfl rfl ?_
          refine r_if_lt (q := 72) (tgt := 89) dX5_parse_69 rfl (by decide) (by omega) (fun h69 => ?_) (fun h69 => ?_)
          · exfalso; omega
          · refine r_aload_n (q := 73) dX5_parse_72 rfl rfl ?_
            refine r_dup (q := 74) dX5_parse_73 rfl rfl ?_
            refine g_X5_refused (i := 0) (q := 77) dX5_parse_74 rfl fX5_151 (hG _ _ rfl) ?_
            refine r_iconst (q := 78) dX5_parse_77 rfl ?_
            refine r_iadd (q := 79) dX5_parse_78 rfl ?_
            refine p_X5_refused (i := 0) (q := 82) dX5_parse_79 rfl fX5_151 (hG _ _ rfl) ?_
            refine r_aload_n (q := 83) dX5_parse_82 rfl rfl ?_
            refine r_iload_n (q := 84) dX5_parse_83 rfl rfl ?_
            refine p_X5_place (i := 0) (q := 87) dX5_parse_84 rfl fX5_154 (hG _ _ rfl) ?_
            refine r_iload_n (q := 88) dX5_parse_87 rfl rfl ?_
            refine r_reti dX5_parse_88 rfl (by decide) (by decide) ?_
            exact ⟨rfl, rfl, s, hE, rfl⟩
        · exact absurd h58 (by decide)
      · rw [h] at h47; exact absurd h47 (by decide)
    · exfalso; simp at h39; omega
  refine r_aload_n (q := 1) dX5_parse_0 rfl rfl ?_
  refine cX5_0 (My := mX5_slashes) (q := 4) dX5_parse_1 rfl kX5_122 vX5_slashes (hG _ _ rfl) rfl (p_slashes hG hP) ⟨by decide, by decide⟩ ⟨by decide, by decide⟩ (Nat.le_of_ble_eq_true rfl) ?_
  refine r_if_lt (q := 7) (tgt := 32) dX5_parse_4 rfl (by decide) (by omega) (fun h4 => ?_) (fun h4 => ?_)
  · refine r_iconst (q := 33) dX5_parse_32 rfl ?_
    first
      | (have hg : gAB t n = false := by
           unfold gAB
           cases hgs : gSl t (gCol t n + 1)
           · rfl
           · have := mSl_y hgs; omega
         exact RW.cast rfl (show _ = [Value.int (zI (bI (gAB t n)))] by rw [hg]; rfl) J33)
      | (have hg : gAB t n = false := by unfold gAB; rw [if_pos hgs]; exact decide_eq_false (b8.mp (by omega))
         exact RW.cast rfl (show _ = [Value.int (zI (bI (gAB t n)))] by rw [hg]; rfl) J33)
      | (have hg : gAB t n = true := by unfold gAB; rw [if_pos hgs]; exact decide_eq_true (Classical.not_not.mp (fun z => absurd (b8.mpr z) (by omega)))
         exact RW.cast rfl (show _ = [Value.int (zI (bI (gAB t n)))] by rw [hg]; rfl) J33)
  · have hgs : gSl t (gCol t n + 1) = true := by
      cases hgs : gSl t (gCol t n + 1)
      · have := mSl_n hgs; omega
      · rfl
    have eS := mSl_y hgs
    have hA2 := hT.sl hgs
    have hB := nxt_rng (isC t 4) n (gCol t n + 1 + 2) (by omega)
    have hE : gABe t n = nxt (isC t 4) (gCol t n + 1 + 2) n := rfl
    have b9 := mBad_r t (b := gCol t n + 1 + 2) (e := gABe t n) (by omega)
    have b8 := mBad_ab (t := t) (b := gCol t n + 1 + 2) (e := gABe t n) (by omega)
    refine r_aload_n (q := 8) dX5_parse_7 rfl rfl ?_
    refine r_aload_n (q := 9) dX5_parse_8 rfl rfl ?_
    refine cX5_0 (My := mX5_slashes) (q := 12) dX5_parse_9 rfl kX5_122 vX5_slashes (hG _ _ rfl) rfl (p_slashes hG hP) ⟨by decide, by decide⟩ ⟨by decide, by decide⟩ (Nat.le_of_ble_eq_true rfl) ?_
    rw [eS]
    refine r_aload_n (q := 13) dX5_parse_12 rfl rfl ?_
    refine r_aload_n (q := 14) dX5_parse_13 rfl rfl ?_
    refine cX5_0 (My := mX5_slashes) (q := 17) dX5_parse_14 rfl kX5_122 vX5_slashes (hG _ _ rfl) rfl (p_slashes hG hP) ⟨by decide, by decide⟩ ⟨by decide, by decide⟩ (Nat.le_of_ble_eq_true rfl) ?_
    rw [eS]
    refine r_ldcS (i := 4) (tx := "/?#") (q := 19) dX5_parse_17 rfl (List.mem_of_getElem? (i := 65) rfl) ?_
    refine cX5_2 (My := mX5_next) (q := 22) dX5_parse_19 rfl kX5_85 vX5_next (hG _ _ rfl) rfl (p_next hG hP (by decide) (by omega)) ⟨by decide, by decide⟩ ⟨by decide, by decide⟩ (Nat.le_of_ble_eq_true rfl) ?_
    rw [← hE]
    refine cX5_2 (My := mX5_bad) (q := 25) dX5_parse_22 rfl kX5_119 vX5_bad (hG _ _ rfl) rfl (p_bad hG hP (by omega) (by omega)) ⟨by decide, by decide⟩ ⟨by decide, by decide⟩ (Nat.le_of_ble_eq_true rfl) ?_
    refine r_if_lt (q := 28) (tgt := 32) dX5_parse_25 rfl (by decide) (by omega) (fun h25 => ?_) (fun h25 => ?_)
    · refine r_iconst (q := 33) dX5_parse_32 rfl ?_
      first
        | (have hg : gAB t n = false := by
             unfold gAB
             cases hgs : gSl t (gCol t n + 1)
             · rfl
             · have := mSl_y hgs; omega
           exact RW.cast rfl (show _ = [Value.int (zI (bI (gAB t n)))] by rw [hg]; rfl) J33)
        | (have hg : gAB t n = false := by unfold gAB; rw [if_pos hgs]; exact decide_eq_false (b8.mp (by omega))
           exact RW.cast rfl (show _ = [Value.int (zI (bI (gAB t n)))] by rw [hg]; rfl) J33)
        | (have hg : gAB t n = true := by unfold gAB; rw [if_pos hgs]; exact decide_eq_true (Classical.not_not.mp (fun z => absurd (b8.mpr z) (by omega)))
           exact RW.cast rfl (show _ = [Value.int (zI (bI (gAB t n)))] by rw [hg]; rfl) J33)
    · refine r_iconst (q := 29) dX5_parse_28 rfl ?_
      refine r_goto (q := 33) dX5_parse_29 (by decide) ?_
      first
        | (have hg : gAB t n = false := by
             unfold gAB
             cases hgs : gSl t (gCol t n + 1)
             · rfl
             · have := mSl_y hgs; omega
           exact RW.cast rfl (show _ = [Value.int (zI (bI (gAB t n)))] by rw [hg]; rfl) J33)
        | (have hg : gAB t n = false := by unfold gAB; rw [if_pos hgs]; exact decide_eq_false (b8.mp (by omega))
           exact RW.cast rfl (show _ = [Value.int (zI (bI (gAB t n)))] by rw [hg]; rfl) J33)
        | (have hg : gAB t n = true := by unfold gAB; rw [if_pos hgs]; exact decide_eq_true (Classical.not_not.mp (fun z => absurd (b8.mpr z) (by omega)))
           exact RW.cast rfl (show _ = [Value.int (zI (bI (gAB t n)))] by rw [hg]; rfl) J33)
set_option maxRecDepth 100000 in
set_option maxHeartbeats 4000000 in
theorem m_parse_k (hG : Full γ) (hP : Mp σ t n) {j : Int} (hj : 0 ≤ j ∧ j < 4) (h : gAB t n = false) (h9 : mPl t n = -1) : Ev γ mX5_parse 9 0 0 [.ref (ga γ 8 0), .int (zI (j))] σ xs (rtn (some (.int (zI (-1)))) (mSto (mFin (sMcd σ 0) t n) j) xs) nX := by
  refine Ev.of1 3 [some (.ref (ga γ 8 0)), some (.int (zI (j))), none, none, none] rfl pn_X5_parse rfl (Nat.le_of_ble_eq_true rfl) ?_
  have hn := hP.n
  have hT := hP.tz
  have hC := hT.gCol
  have hs8 : -1 ≤ mSl t n ∧ mSl t n ≤ 63 := by unfold mSl; split <;> omega
  have hP0 : Mp (sMcd σ 0) t n := hP
  have hr9 := mPl_r hT
  have hPf := (Ep.fin hP0).mp hP0
  have Jl : ∀ s : St, s = mFin (sMcd σ 0) t n → ∀ i : Int, i ≤ n → 0 ≤ i → RW γ mX5_parse 9 0 0 (rtn (some (.int (zI (-1)))) (mSto (mFin (sMcd σ 0) t n) j) xs) nX 0 0 102 [some (.ref (ga γ 8 0)), some (.int (zI (j))), none, none, some (.int (zI (i)))] [] (mStoM s j i) xs := by
    intro s hs
    have hsz : msz s = n := by rw [hs]; exact hPf.2.2
    have J190 : RW γ mX5_parse 9 0 0 (rtn (some (.int (zI (-1)))) (mSto (mFin (sMcd σ 0) t n) j) xs) nX 0 0 190 [some (.ref (ga γ 8 0)), some (.int (zI (j))), none, none, none] [] (mStoF s j n 9) xs := by
      refine r_aload_n (q := 191) dX5_parse_190 rfl rfl ?_
      refine g_X5_ports (i := 0) (q := 194) dX5_parse_191 rfl fX5_28 (hG _ _ rfl) ?_
      refine r_iload_n (q := 195) dX5_parse_194 rfl rfl ?_
      refine r_aload_n (q := 196) dX5_parse_195 rfl rfl ?_
      refine g_X5_port (i := 0) (q := 199) dX5_parse_196 rfl fX5_104 (hG _ _ rfl) ?_
      refine s_mpo (i := 0) (q := 200) dX5_parse_199 rfl (hG _ _ rfl) (by omega) ?_
      refine r_iconst (q := 201) dX5_parse_200 rfl ?_
      refine r_reti dX5_parse_201 rfl (by decide) (by decide) ?_
      exact ret_is rfl ((sto_e hsz).trans (congrArg (fun z => mSto z j) hs))
    have loop2 : ∀ k : Int, k ≤ 9 → 0 ≤ k → RW γ mX5_parse 9 0 0 (rtn (some (.int (zI (-1)))) (mSto (mFin (sMcd σ 0) t n) j) xs) nX 0 0 139 [some (.ref (ga γ 8 0)), some (.int (zI (j))), none, none, some (.int (zI (k)))] [] (mStoF s j n k) xs := by
      refine up (fun k hk9 ih hk0 => ?_)
      refine r_iload (q := 141) dX5_parse_139 rfl rfl ?_
      refine r_bipush (q := 143) dX5_parse_141 rfl (bip (by decide) (by decide)) ?_
      refine r_icmp_ge (q := 146) (tgt := 190) dX5_parse_143 rfl (by decide) (by omega) (by omega) (fun h143 => ?_) (fun h143 => ?_)
      · have ek : k = 9 := by omega
        rw [ek]
        refine RW.drop 4 ?_
        exact J190
      · refine r_aload_n (q := 147) dX5_parse_146 rfl rfl ?_
        refine g_X5_from (i := 0) (q := 150) dX5_parse_147 rfl fX5_22 (hG _ _ rfl) ?_
        refine r_bipush (q := 152) dX5_parse_150 rfl (bip (by decide) (by decide)) ?_
        refine r_iload_n (q := 153) dX5_parse_152 rfl rfl ?_
        refine r_imul (q := 154) dX5_parse_153 rfl ?_
        refine r_iload (q := 156) dX5_parse_154 rfl rfl ?_
        refine r_iadd (q := 157) dX5_parse_156 rfl ?_
        refine r_aload_n (q := 158) dX5_parse_157 rfl rfl ?_
        refine g_X5_begin (i := 0) (q := 161) dX5_parse_158 rfl fX5_31 (hG _ _ rfl) ?_
        refine r_iload (q := 163) dX5_parse_161 rfl rfl ?_
        refine l_mbe (i := 0) (q := 164) dX5_parse_163 rfl (hG _ _ rfl) (by first | omega | (show 0 ≤ 9 * j + k ∧ 9 * j + k < 36; omega)) ?_
        refine s_mfr (i := 0) (q := 165) dX5_parse_164 rfl (hG _ _ rfl) (by first | omega | (show 0 ≤ 9 * j + k ∧ 9 * j + k < 36; omega)) ?_
        refine r_aload_n (q := 166) dX5_parse_165 rfl rfl ?_
        refine g_X5_to (i := 0) (q := 169) dX5_parse_166 rfl fX5_25 (hG _ _ rfl) ?_
        refine r_bipush (q := 171) dX5_parse_169 rfl (bip (by decide) (by decide)) ?_
        refine r_iload_n (q := 172) dX5_parse_171 rfl rfl ?_
        refine r_imul (q := 173) dX5_parse_172 rfl ?_
        refine r_iload (q := 175) dX5_parse_173 rfl rfl ?_
        refine r_iadd (q := 176) dX5_parse_175 rfl ?_
        refine r_aload_n (q := 177) dX5_parse_176 rfl rfl ?_
        refine g_X5_end (i := 0) (q := 180) dX5_parse_177 rfl fX5_34 (hG _ _ rfl) ?_
        refine r_iload (q := 182) dX5_parse_180 rfl rfl ?_
        refine l_men (i := 0) (q := 183) dX5_parse_182 rfl (hG _ _ rfl) (by first | omega | (show 0 ≤ 9 * j + k ∧ 9 * j + k < 36; omega)) ?_
        refine s_mto (i := 0) (q := 184) dX5_parse_183 rfl (hG _ _ rfl) (by first | omega | (show 0 ≤ 9 * j + k ∧ 9 * j + k < 36; omega)) ?_
        refine r_iinc (q := 187) dX5_parse_184 rfl rfl (by decide) (Lst.setL rfl rfl) ?_
        refine r_goto (q := 139) dX5_parse_187 (by decide) ?_
        refine RW.cast ((st_ft _ _ _ _ _).trans (congr (congrArg sMto (congrArg (sMfr _) (cpy_s (by omega) hk0))) (cpy_s (by omega) hk0))) rfl ?_
        exact ih (k + 1) (by omega) (by omega) (by omega)
    refine up (fun i hi9 ih hi0 => ?_)
    refine r_iload (q := 104) dX5_parse_102 rfl rfl ?_
    refine r_aload_n (q := 105) dX5_parse_104 rfl rfl ?_
    refine g_X5_size (i := 0) (q := 108) dX5_parse_105 rfl fX5_53 (hG _ _ rfl) ?_
    rw [show msz (mStoM s j i) = n from hsz]
    refine r_icmp_ge (q := 111) (tgt := 136) dX5_parse_108 rfl (by decide) (by omega) (by omega) (fun h108 => ?_) (fun h108 => ?_)
    · refine r_iconst (q := 137) dX5_parse_136 rfl ?_
      refine r_istore (q := 139) dX5_parse_137 rfl (by decide) (Lst.setL rfl rfl) ?_
      have ei : i = n := by omega
      rw [ei]
      refine RW.cast (sto_f s j n).symm rfl ?_
      exact loop2 0 (by omega) (by omega)
    · refine r_aload_n (q := 112) dX5_parse_111 rfl rfl ?_
      refine g_X5_signs (i := 0) (q := 115) dX5_parse_112 rfl fX5_16 (hG _ _ rfl) ?_
      refine r_bipush (q := 117) dX5_parse_115 rfl (bip (by decide) (by decide)) ?_
      refine r_iload_n (q := 118) dX5_parse_117 rfl rfl ?_
      refine r_imul (q := 119) dX5_parse_118 rfl ?_
      refine r_iload (q := 121) dX5_parse_119 rfl rfl ?_
      refine r_iadd (q := 122) dX5_parse_121 rfl ?_
      refine r_aload_n (q := 123) dX5_parse_122 rfl rfl ?_
      refine g_X5_text (i := 0) (q := 126) dX5_parse_123 rfl fX5_7 (hG _ _ rfl) ?_
      refine r_iload (q := 128) dX5_parse_126 rfl rfl ?_
      refine l_mtx (i := 0) (q := 129) dX5_parse_128 rfl (hG _ _ rfl) (by first | omega | (show 0 ≤ 60 * j + i ∧ 60 * j + i < 240; omega)) ?_
      refine s_msg (i := 0) (q := 130) dX5_parse_129 rfl (hG _ _ rfl) (by first | omega | (show 0 ≤ 60 * j + i ∧ 60 * j + i < 240; omega)) ?_
      refine r_iinc (q := 133) dX5_parse_130 rfl rfl (by decide) (Lst.setL rfl rfl) ?_
      refine r_goto (q := 102) dX5_parse_133 (by decide) ?_
      refine RW.cast ((st_sg _ _ _ _).trans (congrArg (sMsg _) (cpy_s (by omega) hi0))) rfl ?_
      exact ih (i + 1) (by omega) (by omega) (by omega)
  have J33 : RW γ mX5_parse 9 0 0 (rtn (some (.int (zI (-1)))) (mSto (mFin (sMcd σ 0) t n) j) xs) nX 0 0 33 [some (.ref (ga γ 8 0)), some (.int (zI (j))), none, none, none] [.int (zI (bI (gAB t n)))] σ xs := by
    refine r_istore_n (q := 34) dX5_parse_33 rfl (by decide) (Lst.setL rfl rfl) ?_
    refine r_aload_n (q := 35) dX5_parse_34 rfl rfl ?_
    refine r_iload_n (q := 36) dX5_parse_35 rfl rfl ?_
    refine cS_1 (My := mX5_isSlot) (q := 39) dX5_parse_36 rfl kX5_145 vX5_isSlot (m_isSlot (by omega)) ⟨by decide, by decide⟩ ⟨by decide, by decide⟩ (Nat.le_of_ble_eq_true rfl) ?_
    refine r_ifB_ne (q := 42) (tgt := 46) dX5_parse_39 rfl (by decide) (fun h39 => ?_) (fun h39 => ?_)
    · refine r_iload_n (q := 47) dX5_parse_46 rfl rfl ?_
      refine r_ifB_eq (q := 50) (tgt := 54) dX5_parse_47 rfl (by decide) (fun h47 => ?_) (fun h47 => ?_)
      · refine r_iconst (q := 55) dX5_parse_54 rfl ?_
        refine cX5_1 (My := mX5_fails) (q := 58) dX5_parse_55 rfl kX5_63 vX5_fails (hG _ _ rfl) rfl (m_fails hG (by omega)) ⟨by decide, by decide⟩ ⟨by decide, by decide⟩ (Nat.le_of_ble_eq_true rfl) ?_
        refine r_ifB_eq (q := 61) (tgt := 63) dX5_parse_58 rfl (by decide) (fun h58 => ?_) (fun h58 => ?_)
        · refine r_aload_n (q := 64) dX5_parse_63 rfl rfl ?_
          refine r_callv (ci := 4) (As := []) (My := mX5_parts) (q := 67) dX5_parse_64 rfl kX5_148 vX5_parts (hG _ _ rfl) rfl rfl rfl (m_parts hG hP0) rfl ⟨by decide, by decide⟩ ⟨by decide, by decide⟩ (Nat.le_of_ble_eq_true rfl) (fun _ _ _ h => h.elim) (fun v s xs2 hQ => ?_)
          obtain ⟨rfl, rfl, hE, hF⟩ := hQ
          refine RW.cast rfl (show _ = [Value.int (zI (mPl t n))] from rfl) ?_
          refine r_istore_n (q := 68) dX5_parse_67 rfl (by decide) (Lst.setL rfl rfl) ?_
          refine r_iload_n (q := 69) dX5_parse_68 rfl rfl ?_
          refine r_if_lt (q := 72) (tgt := 89) dX5_parse_69 rfl (by decide) (by omega) (fun h69 => ?_) (fun h69 => ?_)
          · have es := hF h9
            subst es
            refine r_aload_n (q := 90) dX5_parse_89 rfl rfl ?_
            refine g_X5_long_ (i := 0) (q := 93) dX5_parse_90 rfl fX5_19 (hG _ _ rfl) ?_
            refine r_iload_n (q := 94) dX5_parse_93 rfl rfl ?_
            refine r_aload_n (q := 95) dX5_parse_94 rfl rfl ?_
            refine g_X5_size (i := 0) (q := 98) dX5_parse_95 rfl fX5_53 (hG _ _ rfl) ?_
            refine s_mlo (i := 0) (q := 99) dX5_parse_98 rfl (hG _ _ rfl) (by omega) ?_
            refine r_iconst (q := 100) dX5_parse_99 rfl ?_
            refine r_istore (q := 102) dX5_parse_100 rfl (by decide) (Lst.setL rfl rfl) ?_
            refine RW.drop 2 (RW.drop 3 ?_)
            refine RW.cast (sto_0 (mFin (sMcd σ 0) t n) j).symm rfl ?_
            exact Jl _ rfl 0 (by omega) (by omega)
          · exfalso; omega
        · exact absurd h58 (by decide)
      · rw [h] at h47; exact absurd h47 (by decide)
    · exfalso; simp at h39; omega
  refine r_aload_n (q := 1) dX5_parse_0 rfl rfl ?_
  refine cX5_0 (My := mX5_slashes) (q := 4) dX5_parse_1 rfl kX5_122 vX5_slashes (hG _ _ rfl) rfl (p_slashes hG hP) ⟨by decide, by decide⟩ ⟨by decide, by decide⟩ (Nat.le_of_ble_eq_true rfl) ?_
  refine r_if_lt (q := 7) (tgt := 32) dX5_parse_4 rfl (by decide) (by omega) (fun h4 => ?_) (fun h4 => ?_)
  · refine r_iconst (q := 33) dX5_parse_32 rfl ?_
    first
      | (have hg : gAB t n = false := by
           unfold gAB
           cases hgs : gSl t (gCol t n + 1)
           · rfl
           · have := mSl_y hgs; omega
         exact RW.cast rfl (show _ = [Value.int (zI (bI (gAB t n)))] by rw [hg]; rfl) J33)
      | (have hg : gAB t n = false := by unfold gAB; rw [if_pos hgs]; exact decide_eq_false (b8.mp (by omega))
         exact RW.cast rfl (show _ = [Value.int (zI (bI (gAB t n)))] by rw [hg]; rfl) J33)
      | (have hg : gAB t n = true := by unfold gAB; rw [if_pos hgs]; exact decide_eq_true (Classical.not_not.mp (fun z => absurd (b8.mpr z) (by omega)))
         exact RW.cast rfl (show _ = [Value.int (zI (bI (gAB t n)))] by rw [hg]; rfl) J33)
  · have hgs : gSl t (gCol t n + 1) = true := by
      cases hgs : gSl t (gCol t n + 1)
      · have := mSl_n hgs; omega
      · rfl
    have eS := mSl_y hgs
    have hA2 := hT.sl hgs
    have hB := nxt_rng (isC t 4) n (gCol t n + 1 + 2) (by omega)
    have hE : gABe t n = nxt (isC t 4) (gCol t n + 1 + 2) n := rfl
    have b9 := mBad_r t (b := gCol t n + 1 + 2) (e := gABe t n) (by omega)
    have b8 := mBad_ab (t := t) (b := gCol t n + 1 + 2) (e := gABe t n) (by omega)
    refine r_aload_n (q := 8) dX5_parse_7 rfl rfl ?_
    refine r_aload_n (q := 9) dX5_parse_8 rfl rfl ?_
    refine cX5_0 (My := mX5_slashes) (q := 12) dX5_parse_9 rfl kX5_122 vX5_slashes (hG _ _ rfl) rfl (p_slashes hG hP) ⟨by decide, by decide⟩ ⟨by decide, by decide⟩ (Nat.le_of_ble_eq_true rfl) ?_
    rw [eS]
    refine r_aload_n (q := 13) dX5_parse_12 rfl rfl ?_
    refine r_aload_n (q := 14) dX5_parse_13 rfl rfl ?_
    refine cX5_0 (My := mX5_slashes) (q := 17) dX5_parse_14 rfl kX5_122 vX5_slashes (hG _ _ rfl) rfl (p_slashes hG hP) ⟨by decide, by decide⟩ ⟨by decide, by decide⟩ (Nat.le_of_ble_eq_true rfl) ?_
    rw [eS]
    refine r_ldcS (i := 4) (tx := "/?#") (q := 19) dX5_parse_17 rfl (List.mem_of_getElem? (i := 65) rfl) ?_
    refine cX5_2 (My := mX5_next) (q := 22) dX5_parse_19 rfl kX5_85 vX5_next (hG _ _ rfl) rfl (p_next hG hP (by decide) (by omega)) ⟨by decide, by decide⟩ ⟨by decide, by decide⟩ (Nat.le_of_ble_eq_true rfl) ?_
    rw [← hE]
    refine cX5_2 (My := mX5_bad) (q := 25) dX5_parse_22 rfl kX5_119 vX5_bad (hG _ _ rfl) rfl (p_bad hG hP (by omega) (by omega)) ⟨by decide, by decide⟩ ⟨by decide, by decide⟩ (Nat.le_of_ble_eq_true rfl) ?_
    refine r_if_lt (q := 28) (tgt := 32) dX5_parse_25 rfl (by decide) (by omega) (fun h25 => ?_) (fun h25 => ?_)
    · refine r_iconst (q := 33) dX5_parse_32 rfl ?_
      first
        | (have hg : gAB t n = false := by
             unfold gAB
             cases hgs : gSl t (gCol t n + 1)
             · rfl
             · have := mSl_y hgs; omega
           exact RW.cast rfl (show _ = [Value.int (zI (bI (gAB t n)))] by rw [hg]; rfl) J33)
        | (have hg : gAB t n = false := by unfold gAB; rw [if_pos hgs]; exact decide_eq_false (b8.mp (by omega))
           exact RW.cast rfl (show _ = [Value.int (zI (bI (gAB t n)))] by rw [hg]; rfl) J33)
        | (have hg : gAB t n = true := by unfold gAB; rw [if_pos hgs]; exact decide_eq_true (Classical.not_not.mp (fun z => absurd (b8.mpr z) (by omega)))
           exact RW.cast rfl (show _ = [Value.int (zI (bI (gAB t n)))] by rw [hg]; rfl) J33)
    · refine r_iconst (q := 29) dX5_parse_28 rfl ?_
      refine r_goto (q := 33) dX5_parse_29 (by decide) ?_
      first
        | (have hg : gAB t n = false := by
             unfold gAB
             cases hgs : gSl t (gCol t n + 1)
             · rfl
             · have := mSl_y hgs; omega
           exact RW.cast rfl (show _ = [Value.int (zI (bI (gAB t n)))] by rw [hg]; rfl) J33)
        | (have hg : gAB t n = false := by unfold gAB; rw [if_pos hgs]; exact decide_eq_false (b8.mp (by omega))
           exact RW.cast rfl (show _ = [Value.int (zI (bI (gAB t n)))] by rw [hg]; rfl) J33)
        | (have hg : gAB t n = true := by unfold gAB; rw [if_pos hgs]; exact decide_eq_true (Classical.not_not.mp (fun z => absurd (b8.mpr z) (by omega)))
           exact RW.cast rfl (show _ = [Value.int (zI (bI (gAB t n)))] by rw [hg]; rfl) J33)
set_option maxRecDepth 100000 in
set_option maxHeartbeats 4000000 in
theorem m_copy_e (hG : Full γ) (hM : Mw σ) {i j : Int} (hr : -2147483648 ≤ i ∧ i ≤ 2147483647) (hr2 : -2147483648 ≤ j ∧ j ≤ 2147483647) (h : ¬ ((0 ≤ i ∧ i ≤ 3) ∧ (0 ≤ j ∧ j ≤ 3))) : Ev γ mX5_copy 3 0 0 [.ref (ga γ 8 0), .int (zI (i)), .int (zI (j))] σ xs (rtn (some (.int (zI (0)))) (sMcd σ 1) xs) nX := by
  refine Ev.of1 2 [some (.ref (ga γ 8 0)), some (.int (zI (i))), some (.int (zI (j))), none, none] rfl pn_X5_copy rfl (Nat.le_of_ble_eq_true rfl) ?_
  refine r_aload_n (q := 1) dX5_copy_0 rfl rfl ?_
  refine r_iload_n (q := 2) dX5_copy_1 rfl rfl ?_
  refine cS_1 (My := mX5_isSlot) (q := 5) dX5_copy_2 rfl kX5_145 vX5_isSlot (m_isSlot (by omega)) ⟨by decide, by decide⟩ ⟨by decide, by decide⟩ (Nat.le_of_ble_eq_true rfl) ?_
  refine r_ifB_eq (q := 8) (tgt := 19) dX5_copy_5 rfl (by decide) (fun h5 => ?_) (fun h5 => ?_)
  · refine r_iconst (q := 20) dX5_copy_19 rfl ?_
    refine cX5_1 (My := mX5_fails) (q := 23) dX5_copy_20 rfl kX5_63 vX5_fails (hG _ _ rfl) rfl (m_fails hG (by omega)) ⟨by decide, by decide⟩ ⟨by decide, by decide⟩ (Nat.le_of_ble_eq_true rfl) ?_
    refine r_ifB_eq (q := 26) (tgt := 28) dX5_copy_23 rfl (by decide) (fun h23 => ?_) (fun h23 => ?_)
    · exact absurd h23 (by decide)
    · refine r_iconst (q := 27) dX5_copy_26 rfl ?_
      refine r_reti dX5_copy_27 rfl (by decide) (by decide) ?_
      exact ret_is rfl rfl
  · refine r_iload_n (q := 9) dX5_copy_8 rfl rfl ?_
    refine cS_1 (My := mX5_isSlot) (q := 12) dX5_copy_9 rfl kX5_145 vX5_isSlot (m_isSlot (by omega)) ⟨by decide, by decide⟩ ⟨by decide, by decide⟩ (Nat.le_of_ble_eq_true rfl) ?_
    refine r_ifB_eq (q := 15) (tgt := 19) dX5_copy_12 rfl (by decide) (fun h12 => ?_) (fun h12 => ?_)
    · refine r_iconst (q := 20) dX5_copy_19 rfl ?_
      refine cX5_1 (My := mX5_fails) (q := 23) dX5_copy_20 rfl kX5_63 vX5_fails (hG _ _ rfl) rfl (m_fails hG (by omega)) ⟨by decide, by decide⟩ ⟨by decide, by decide⟩ (Nat.le_of_ble_eq_true rfl) ?_
      refine r_ifB_eq (q := 26) (tgt := 28) dX5_copy_23 rfl (by decide) (fun h23 => ?_) (fun h23 => ?_)
      · exact absurd h23 (by decide)
      · refine r_iconst (q := 27) dX5_copy_26 rfl ?_
        refine r_reti dX5_copy_27 rfl (by decide) (by decide) ?_
        exact ret_is rfl rfl
    · exfalso; simp at *; omega
set_option maxRecDepth 100000 in
set_option maxHeartbeats 4000000 in
theorem m_copy_0 (hG : Full γ) (hM : Mw σ) {i j : Int} (hi : 0 ≤ i ∧ i < 4) (hj : 0 ≤ j ∧ j < 4) : Ev γ mX5_copy 3 0 0 [.ref (ga γ 8 0), .int (zI (i)), .int (zI (j))] σ xs (rtn (some (.int (zI (mCntF (mCpy (sMcd σ 0) i j) 0 0)))) (mCpy (sMcd σ 0) i j) xs) nX := by
  refine Ev.of1 2 [some (.ref (ga γ 8 0)), some (.int (zI (i))), some (.int (zI (j))), none, none] rfl pn_X5_copy rfl (Nat.le_of_ble_eq_true rfl) ?_
  have hlo9 : ∀ q, -1 ≤ mlo (mCpy (sMcd σ 0) i j) q ∧ mlo (mCpy (sMcd σ 0) i j) q ≤ 60 := fun q => by
    show -1 ≤ u1 (mlo σ) j.toNat (mlo σ i.toNat) q ∧ u1 (mlo σ) j.toNat (mlo σ i.toNat) q ≤ 60
    unfold u1
    split
    · exact hM.lo _
    · exact hM.lo _
  have loopc : ∀ k : Int, k ≤ 4 → 0 ≤ k → ∀ a : Int, (0 ≤ a ∧ a ≤ k) → mCntF (mCpy (sMcd σ 0) i j) a k = mCntF (mCpy (sMcd σ 0) i j) 0 0 → RW γ mX5_copy 3 0 0 (rtn (some (.int (zI (mCntF (mCpy (sMcd σ 0) i j) 0 0)))) (mCpy (sMcd σ 0) i j) xs) nX 0 0 151 [some (.ref (ga γ 8 0)), some (.int (zI (i))), some (.int (zI (j))), some (.int (zI (a))), some (.int (zI (k)))] [] (mCpy (sMcd σ 0) i j) xs := by
    refine up (fun k hk9 ih hk0 a ha hr => ?_)
    refine r_iload (q := 153) dX5_copy_151 rfl rfl ?_
    refine r_iconst (q := 154) dX5_copy_153 rfl ?_
    refine r_icmp_ge (q := 157) (tgt := 181) dX5_copy_154 rfl (by decide) (by first | omega | (have h8 := hlo9 k.toNat; omega)) (by first | omega | (have h8 := hlo9 k.toNat; omega)) (fun h154 => ?_) (fun h154 => ?_)
    · refine r_iload_n (q := 182) dX5_copy_181 rfl rfl ?_
      refine r_reti dX5_copy_182 rfl (by decide) (by decide) ?_
      exact ret_i (by rw [← hr, mCntF.eq_def (mCpy (sMcd σ 0) i j) a k, if_neg (by omega)])
    · refine r_iload_n (q := 158) dX5_copy_157 rfl rfl ?_
      refine r_aload_n (q := 159) dX5_copy_158 rfl rfl ?_
      refine g_X5_long_ (i := 0) (q := 162) dX5_copy_159 rfl fX5_19 (hG _ _ rfl) ?_
      refine r_iload (q := 164) dX5_copy_162 rfl rfl ?_
      refine l_mlo (i := 0) (q := 165) dX5_copy_164 rfl (hG _ _ rfl) (by omega) ?_
      refine r_if_lt (q := 168) (tgt := 172) dX5_copy_165 rfl (by decide) (by first | omega | (have h8 := hlo9 k.toNat; omega)) (fun h165 => ?_) (fun h165 => ?_)
      · refine r_iconst (q := 173) dX5_copy_172 rfl ?_
        refine r_iadd (q := 174) dX5_copy_173 rfl ?_
        refine r_istore_n (q := 175) dX5_copy_174 rfl (by decide) (Lst.setL rfl rfl) ?_
        refine r_iinc (q := 178) dX5_copy_175 rfl rfl (by decide) (Lst.setL rfl rfl) ?_
        refine r_goto (q := 151) dX5_copy_178 (by decide) ?_
        first
          | exact ih (k + 1) (by omega) (by omega) (by omega) _ (by omega) (by rw [← hr, mCntF.eq_def (mCpy (sMcd σ 0) i j) a k, if_pos (by omega), if_pos (by omega)])
          | exact ih (k + 1) (by omega) (by omega) (by omega) _ (by omega) (by rw [← hr, mCntF.eq_def (mCpy (sMcd σ 0) i j) a k, if_pos (by omega), if_neg (by omega), Int.add_zero])
      · refine r_iconst (q := 169) dX5_copy_168 rfl ?_
        refine r_goto (q := 173) dX5_copy_169 (by decide) ?_
        refine r_iadd (q := 174) dX5_copy_173 rfl ?_
        refine r_istore_n (q := 175) dX5_copy_174 rfl (by decide) (Lst.setL rfl rfl) ?_
        refine r_iinc (q := 178) dX5_copy_175 rfl rfl (by decide) (Lst.setL rfl rfl) ?_
        refine r_goto (q := 151) dX5_copy_178 (by decide) ?_
        first
          | exact ih (k + 1) (by omega) (by omega) (by omega) _ (by omega) (by rw [← hr, mCntF.eq_def (mCpy (sMcd σ 0) i j) a k, if_pos (by omega), if_pos (by omega)])
          | exact ih (k + 1) (by omega) (by omega) (by omega) _ (by omega) (by rw [← hr, mCntF.eq_def (mCpy (sMcd σ 0) i j) a k, if_pos (by omega), if_neg (by omega), Int.add_zero])
  have J134 : RW γ mX5_copy 3 0 0 (rtn (some (.int (zI (mCntF (mCpy (sMcd σ 0) i j) 0 0)))) (mCpy (sMcd σ 0) i j) xs) nX 0 0 134 [some (.ref (ga γ 8 0)), some (.int (zI (i))), some (.int (zI (j))), none, none] [] (mCpyF (sMcd σ 0) i j 9) xs := by
    refine r_aload_n (q := 135) dX5_copy_134 rfl rfl ?_
    refine g_X5_ports (i := 0) (q := 138) dX5_copy_135 rfl fX5_28 (hG _ _ rfl) ?_
    refine r_iload_n (q := 139) dX5_copy_138 rfl rfl ?_
    refine r_aload_n (q := 140) dX5_copy_139 rfl rfl ?_
    refine g_X5_ports (i := 0) (q := 143) dX5_copy_140 rfl fX5_28 (hG _ _ rfl) ?_
    refine r_iload_n (q := 144) dX5_copy_143 rfl rfl ?_
    refine l_mpo (i := 0) (q := 145) dX5_copy_144 rfl (hG _ _ rfl) (by omega) ?_
    refine s_mpo (i := 0) (q := 146) dX5_copy_145 rfl (hG _ _ rfl) (by omega) ?_
    refine r_iconst (q := 147) dX5_copy_146 rfl ?_
    refine r_istore_n (q := 148) dX5_copy_147 rfl (by decide) (Lst.setL rfl rfl) ?_
    refine r_iconst (q := 149) dX5_copy_148 rfl ?_
    refine r_istore (q := 151) dX5_copy_149 rfl (by decide) (Lst.setL rfl rfl) ?_
    exact loopc 0 (by omega) (by omega) 0 (by omega) rfl
  have loop9 : ∀ k : Int, k ≤ 9 → 0 ≤ k → RW γ mX5_copy 3 0 0 (rtn (some (.int (zI (mCntF (mCpy (sMcd σ 0) i j) 0 0)))) (mCpy (sMcd σ 0) i j) xs) nX 0 0 78 [some (.ref (ga γ 8 0)), some (.int (zI (i))), some (.int (zI (j))), some (.int (zI (k))), none] [] (mCpyF (sMcd σ 0) i j k) xs := by
    refine up (fun k hk9 ih hk0 => ?_)
    refine r_iload_n (q := 79) dX5_copy_78 rfl rfl ?_
    refine r_bipush (q := 81) dX5_copy_79 rfl (bip (by decide) (by decide)) ?_
    refine r_icmp_ge (q := 84) (tgt := 134) dX5_copy_81 rfl (by decide) (by omega) (by omega) (fun h81 => ?_) (fun h81 => ?_)
    · have ek : k = 9 := by omega
      rw [ek]
      refine RW.drop 3 ?_
      exact J134
    · refine r_aload_n (q := 85) dX5_copy_84 rfl rfl ?_
      refine g_X5_from (i := 0) (q := 88) dX5_copy_85 rfl fX5_22 (hG _ _ rfl) ?_
      refine r_bipush (q := 90) dX5_copy_88 rfl (bip (by decide) (by decide)) ?_
      refine r_iload_n (q := 91) dX5_copy_90 rfl rfl ?_
      refine r_imul (q := 92) dX5_copy_91 rfl ?_
      refine r_iload_n (q := 93) dX5_copy_92 rfl rfl ?_
      refine r_iadd (q := 94) dX5_copy_93 rfl ?_
      refine r_aload_n (q := 95) dX5_copy_94 rfl rfl ?_
      refine g_X5_from (i := 0) (q := 98) dX5_copy_95 rfl fX5_22 (hG _ _ rfl) ?_
      refine r_bipush (q := 100) dX5_copy_98 rfl (bip (by decide) (by decide)) ?_
      refine r_iload_n (q := 101) dX5_copy_100 rfl rfl ?_
      refine r_imul (q := 102) dX5_copy_101 rfl ?_
      refine r_iload_n (q := 103) dX5_copy_102 rfl rfl ?_
      refine r_iadd (q := 104) dX5_copy_103 rfl ?_
      refine l_mfr (i := 0) (q := 105) dX5_copy_104 rfl (hG _ _ rfl) (by first | omega | (show 0 ≤ 9 * i + k ∧ 9 * i + k < 36; omega)) ?_
      refine s_mfr (i := 0) (q := 106) dX5_copy_105 rfl (hG _ _ rfl) (by first | omega | (show 0 ≤ 9 * i + k ∧ 9 * i + k < 36; omega)) ?_
      refine r_aload_n (q := 107) dX5_copy_106 rfl rfl ?_
      refine g_X5_to (i := 0) (q := 110) dX5_copy_107 rfl fX5_25 (hG _ _ rfl) ?_
      refine r_bipush (q := 112) dX5_copy_110 rfl (bip (by decide) (by decide)) ?_
      refine r_iload_n (q := 113) dX5_copy_112 rfl rfl ?_
      refine r_imul (q := 114) dX5_copy_113 rfl ?_
      refine r_iload_n (q := 115) dX5_copy_114 rfl rfl ?_
      refine r_iadd (q := 116) dX5_copy_115 rfl ?_
      refine r_aload_n (q := 117) dX5_copy_116 rfl rfl ?_
      refine g_X5_to (i := 0) (q := 120) dX5_copy_117 rfl fX5_25 (hG _ _ rfl) ?_
      refine r_bipush (q := 122) dX5_copy_120 rfl (bip (by decide) (by decide)) ?_
      refine r_iload_n (q := 123) dX5_copy_122 rfl rfl ?_
      refine r_imul (q := 124) dX5_copy_123 rfl ?_
      refine r_iload_n (q := 125) dX5_copy_124 rfl rfl ?_
      refine r_iadd (q := 126) dX5_copy_125 rfl ?_
      refine l_mto (i := 0) (q := 127) dX5_copy_126 rfl (hG _ _ rfl) (by first | omega | (show 0 ≤ 9 * i + k ∧ 9 * i + k < 36; omega)) ?_
      refine s_mto (i := 0) (q := 128) dX5_copy_127 rfl (hG _ _ rfl) (by first | omega | (show 0 ≤ 9 * i + k ∧ 9 * i + k < 36; omega)) ?_
      refine r_iinc (q := 131) dX5_copy_128 rfl rfl (by decide) (Lst.setL rfl rfl) ?_
      refine r_goto (q := 78) dX5_copy_131 (by decide) ?_
      refine RW.cast ((st_ft _ _ _ _ _).trans (congr (congrArg sMto (congrArg (sMfr _) (blk9_s hi.1 hj.1 (by omega)))) (blk9_s hi.1 hj.1 (by omega)))) rfl ?_
      exact ih (k + 1) (by omega) (by omega) (by omega)
  have loop60 : ∀ k : Int, k ≤ 60 → 0 ≤ k → RW γ mX5_copy 3 0 0 (rtn (some (.int (zI (mCntF (mCpy (sMcd σ 0) i j) 0 0)))) (mCpy (sMcd σ 0) i j) xs) nX 0 0 42 [some (.ref (ga γ 8 0)), some (.int (zI (i))), some (.int (zI (j))), some (.int (zI (k))), none] [] (mCpyM (sMcd σ 0) i j k) xs := by
    refine up (fun k hk9 ih hk0 => ?_)
    refine r_iload_n (q := 43) dX5_copy_42 rfl rfl ?_
    refine r_bipush (q := 45) dX5_copy_43 rfl (bip (by decide) (by decide)) ?_
    refine r_icmp_ge (q := 48) (tgt := 76) dX5_copy_45 rfl (by decide) (by omega) (by omega) (fun h45 => ?_) (fun h45 => ?_)
    · refine r_iconst (q := 77) dX5_copy_76 rfl ?_
      refine r_istore_n (q := 78) dX5_copy_77 rfl (by decide) (Lst.setL rfl rfl) ?_
      have ek : k = 60 := by omega
      rw [ek]
      refine RW.cast (show _ = mCpyF (sMcd σ 0) i j 0 by unfold mCpyF; rw [blk9_0, blk9_0]; exact (ft_ft _).symm) rfl ?_
      exact loop9 0 (by omega) (by omega)
    · refine r_aload_n (q := 49) dX5_copy_48 rfl rfl ?_
      refine g_X5_signs (i := 0) (q := 52) dX5_copy_49 rfl fX5_16 (hG _ _ rfl) ?_
      refine r_bipush (q := 54) dX5_copy_52 rfl (bip (by decide) (by decide)) ?_
      refine r_iload_n (q := 55) dX5_copy_54 rfl rfl ?_
      refine r_imul (q := 56) dX5_copy_55 rfl ?_
      refine r_iload_n (q := 57) dX5_copy_56 rfl rfl ?_
      refine r_iadd (q := 58) dX5_copy_57 rfl ?_
      refine r_aload_n (q := 59) dX5_copy_58 rfl rfl ?_
      refine g_X5_signs (i := 0) (q := 62) dX5_copy_59 rfl fX5_16 (hG _ _ rfl) ?_
      refine r_bipush (q := 64) dX5_copy_62 rfl (bip (by decide) (by decide)) ?_
      refine r_iload_n (q := 65) dX5_copy_64 rfl rfl ?_
      refine r_imul (q := 66) dX5_copy_65 rfl ?_
      refine r_iload_n (q := 67) dX5_copy_66 rfl rfl ?_
      refine r_iadd (q := 68) dX5_copy_67 rfl ?_
      refine l_msg (i := 0) (q := 69) dX5_copy_68 rfl (hG _ _ rfl) (by first | omega | (show 0 ≤ 60 * i + k ∧ 60 * i + k < 240; omega)) ?_
      refine s_msg (i := 0) (q := 70) dX5_copy_69 rfl (hG _ _ rfl) (by first | omega | (show 0 ≤ 60 * i + k ∧ 60 * i + k < 240; omega)) ?_
      refine r_iinc (q := 73) dX5_copy_70 rfl rfl (by decide) (Lst.setL rfl rfl) ?_
      refine r_goto (q := 42) dX5_copy_73 (by decide) ?_
      refine RW.cast ((st_sg _ _ _ _).trans (congrArg (sMsg _) (blk60_s hi.1 hj.1 (by omega)))) rfl ?_
      exact ih (k + 1) (by omega) (by omega) (by omega)
  refine r_aload_n (q := 1) dX5_copy_0 rfl rfl ?_
  refine r_iload_n (q := 2) dX5_copy_1 rfl rfl ?_
  refine cS_1 (My := mX5_isSlot) (q := 5) dX5_copy_2 rfl kX5_145 vX5_isSlot (m_isSlot (by omega)) ⟨by decide, by decide⟩ ⟨by decide, by decide⟩ (Nat.le_of_ble_eq_true rfl) ?_
  refine r_ifB_eq (q := 8) (tgt := 19) dX5_copy_5 rfl (by decide) (fun h5 => ?_) (fun h5 => ?_)
  · exfalso; simp at *; omega
  · refine r_iload_n (q := 9) dX5_copy_8 rfl rfl ?_
    refine cS_1 (My := mX5_isSlot) (q := 12) dX5_copy_9 rfl kX5_145 vX5_isSlot (m_isSlot (by omega)) ⟨by decide, by decide⟩ ⟨by decide, by decide⟩ (Nat.le_of_ble_eq_true rfl) ?_
    refine r_ifB_eq (q := 15) (tgt := 19) dX5_copy_12 rfl (by decide) (fun h12 => ?_) (fun h12 => ?_)
    · exfalso; simp at *; omega
    · refine r_iconst (q := 16) dX5_copy_15 rfl ?_
      refine r_goto (q := 20) dX5_copy_16 (by decide) ?_
      refine cX5_1 (My := mX5_fails) (q := 23) dX5_copy_20 rfl kX5_63 vX5_fails (hG _ _ rfl) rfl (m_fails hG (by omega)) ⟨by decide, by decide⟩ ⟨by decide, by decide⟩ (Nat.le_of_ble_eq_true rfl) ?_
      refine r_ifB_eq (q := 26) (tgt := 28) dX5_copy_23 rfl (by decide) (fun h23 => ?_) (fun h23 => ?_)
      · refine r_aload_n (q := 29) dX5_copy_28 rfl rfl ?_
        refine g_X5_long_ (i := 0) (q := 32) dX5_copy_29 rfl fX5_19 (hG _ _ rfl) ?_
        refine r_iload_n (q := 33) dX5_copy_32 rfl rfl ?_
        refine r_aload_n (q := 34) dX5_copy_33 rfl rfl ?_
        refine g_X5_long_ (i := 0) (q := 37) dX5_copy_34 rfl fX5_19 (hG _ _ rfl) ?_
        refine r_iload_n (q := 38) dX5_copy_37 rfl rfl ?_
        refine l_mlo (i := 0) (q := 39) dX5_copy_38 rfl (hG _ _ rfl) (by omega) ?_
        refine s_mlo (i := 0) (q := 40) dX5_copy_39 rfl (hG _ _ rfl) (by omega) ?_
        refine r_iconst (q := 41) dX5_copy_40 rfl ?_
        refine r_istore_n (q := 42) dX5_copy_41 rfl (by decide) (Lst.setL rfl rfl) ?_
        refine RW.cast (show _ = mCpyM (sMcd σ 0) i j 0 by unfold mCpyM; rw [blk60_0]; rfl) rfl ?_
        exact loop60 0 (by omega) (by omega)
      · exact absurd h23 (by decide)
end X5
