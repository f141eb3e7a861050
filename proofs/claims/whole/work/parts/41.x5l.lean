/-! The model: together, mix -/
theorem mAllF_g {a : St} {j i sw : Int} (hj4 : 0 ≤ j ∧ j < 4) (hi4 : 0 ≤ i ∧ i < 4) (hsw : sw ≠ 1) (hj : Sl a j) (hi : Sl a i) (h1 : mHas a j 1 = true) : ∀ k : Int, k ≤ 8 → 0 ≤ k → ∀ (s : St) (z : Int), Gs a s z → z + aRest a j i sw k ≤ 60 → Gs a (mAllF s j i sw k) (z + aRest a j i sw k) := by
  refine up (fun k hk ih h0 s z hg hz => ?_)
  rw [mAllF.eq_def, aRest.eq_def]
  rw [aRest.eq_def] at hz
  by_cases h8 : k < 8
  · rw [if_pos h8] at hz
    rw [if_pos h8, if_pos h8]
    have r := aRest_0 hsw hj hi h1 (k + 1) (by omega) (by omega)
    have g := aStep_ok ⟨h0, h8⟩ hj4 hi4 hsw hj hi h1 hg (by omega)
    have := ih (k + 1) (by omega) (by omega) (by omega) _ _ g (by omega)
    rw [show z + (aCost a j i sw k + aRest a j i sw (k + 1)) = z + aCost a j i sw k + aRest a j i sw (k + 1) by omega]
    exact this
  · rw [if_neg h8, if_neg h8, Int.add_zero]
    exact hg
theorem Gs.wiped {σ : St} (hM : Mw σ) : Gs σ (sMpm (sMsz σ 0) 0) 0 := ⟨⟨by show (0 : Int) ≤ 0 ∧ (0 : Int) ≤ 60; decide, hM.tx, by show (0 : Int) ≤ 0 ∧ (0 : Int) ≤ 60; decide, hM.2.2.2⟩, ⟨rfl, rfl, rfl, rfl, rfl, rfl, rfl, rfl, rfl, rfl, rfl, rfl, rfl⟩, rfl, by show (0 : Int) ≤ 0; decide⟩
theorem mAll_g {σ : St} (hM : Mw σ) {j i sw : Int} (hj4 : 0 ≤ j ∧ j < 4) (hi4 : 0 ≤ i ∧ i < 4) (hsw : sw ≠ 1) (hj : Sl σ j) (hi : Sl σ i) (h1 : mHas σ j 1 = true) (hR : aRest σ j i sw 0 ≤ 60) : Gs σ (mAll σ j i sw) (aRest σ j i sw 0) := by
  have := mAllF_g hj4 hi4 hsw hj hi h1 0 (by omega) (by omega) _ 0 (Gs.wiped hM) (by omega)
  rw [Int.zero_add] at this
  exact this
def mTgF (s : St) (j p : Int) : Bool := if p < msz s then (if mtx s p.toNat = msg s (60 * j + p).toNat then mTgF s j (p + 1) else false) else true
termination_by (msz s - p).toNat
decreasing_by omega
def mTg (s : St) (j : Int) : Bool := if msz s = mlo s j.toNat then mTgF s j 0 else false
def mTkn (σ : St) (j k : Int) : Int := if mHas σ j k = true then mMany σ j k + (if k = 2 then 2 else if k = 5 then 0 else 1) else 0
def mIs (c : Int) : Bool := decide (c = 115 ∨ c = 97 ∨ c = 112 ∨ c = 113 ∨ c = 102)
def mNoM (σ : St) (j i c : Int) : Int := if (0 ≤ j ∧ j ≤ 3) ∧ (0 ≤ i ∧ i ≤ 3) then (if mlo σ j.toNat < 0 ∨ mlo σ i.toNat < 0 then 2 else if mIs c = false then 3 else if mHas σ j 5 = true ∧ mHas σ i 5 = true then 0 else 4) else 1
def pM (k : Int) : Int := [0, 2, 5, 6, 7].getD k.toNat 0
def cM (k : Int) : Int := (tS 55).getD k.toNat 0
theorem pcM_n : ∀ k : Nat, k < 5 → ixO (tS 51) (cM (k : Int)) = pM (k : Int) ∧ (cM (k : Int) = 97 ↔ pM (k : Int) = 2) ∧ (cM (k : Int) = 112 ↔ pM (k : Int) = 5) ∧ 0 ≤ pM (k : Int) ∧ pM (k : Int) ≤ 7 ∧ 97 ≤ cM (k : Int) ∧ cM (k : Int) ≤ 115 := by decide +kernel
theorem pcM {k : Int} (h : 0 ≤ k ∧ k < 5) : ixO (tS 51) (cM k) = pM k ∧ (cM k = 97 ↔ pM k = 2) ∧ (cM k = 112 ↔ pM k = 5) ∧ 0 ≤ pM k ∧ pM k ≤ 7 ∧ 97 ≤ cM k ∧ cM k ≤ 115 := by
  have := pcM_n k.toNat (by omega)
  rw [Int.toNat_of_nonneg h.1] at this
  exact this
def mSumF (σ : St) (j i c a k : Int) : Int := if k < 5 then mSumF σ j i c (a + mTkn σ (if cM k = c then i else j) (pM k)) (k + 1) else a
termination_by (5 - k).toNat
decreasing_by omega
theorem mTkn_r {σ : St} (hM : Mw σ) (j k : Int) : -300 ≤ mTkn σ j k ∧ mTkn σ j k ≤ 300 := by
  have := mMany_r hM j k
  unfold mTkn
  repeat' split
  all_goals omega
section X5
variable {γ : Gm} {σ : St} {xs : va_W}
set_option maxRecDepth 100000 in
set_option maxHeartbeats 4000000 in
theorem m_together_e (hG : Full γ) (hM : Mw σ) {j : Int} (hr : -2147483648 ≤ j ∧ j ≤ 2147483647) {v : Int} (hv : 0 < v ∧ v ≤ 5) (hN : mNoS σ j = v) : Ev γ mX5_together 8 0 0 [.ref (ga γ 8 0), .int (zI (j))] σ xs (rtn (some (.int (zI (bI false)))) (sMcd σ v) xs) nX := by
  refine Ev.of1 2 [some (.ref (ga γ 8 0)), some (.int (zI (j))), none, none] rfl pn_X5_together rfl (Nat.le_of_ble_eq_true rfl) ?_
  refine r_aload_n (q := 1) dX5_together_0 rfl rfl ?_
  refine r_aload_n (q := 2) dX5_together_1 rfl rfl ?_
  refine r_iload_n (q := 3) dX5_together_2 rfl rfl ?_
  refine cX5_1 (My := mX5_noSlot) (q := 6) dX5_together_3 rfl kX5_157 vX5_noSlot (hG _ _ rfl) rfl (m_noSlot hG hM (by omega) hN) ⟨by decide, by decide⟩ ⟨by decide, by decide⟩ (Nat.le_of_ble_eq_true rfl) ?_
  refine cX5_1 (My := mX5_fails) (q := 9) dX5_together_6 rfl kX5_63 vX5_fails (hG _ _ rfl) rfl (m_fails hG (by omega)) ⟨by decide, by decide⟩ ⟨by decide, by decide⟩ (Nat.le_of_ble_eq_true rfl) ?_
  refine r_ifB_eq (q := 12) (tgt := 14) dX5_together_9 rfl (by decide) (fun h9 => ?_) (fun h9 => ?_)
  · have := of_decide_eq_false h9; omega
  · refine r_iconst (q := 13) dX5_together_12 rfl ?_
    refine r_retz dX5_together_13 rfl (by first | rfl | exact narB _) (by decide) (by decide) ?_
    exact ret_is rfl rfl
set_option maxRecDepth 100000 in
set_option maxHeartbeats 4000000 in
theorem m_together_0 (hG : Full γ) (hM : Mw σ) {j : Int} (hj : 0 ≤ j ∧ j < 4) (hN : mNoS σ j = 0) (hSj : Sl σ j) (h1 : mHas σ j 1 = true) (hR : aRest (sMcd σ 0) j j 0 0 ≤ 60) : Ev γ mX5_together 8 5 5 [.ref (ga γ 8 0), .int (zI (j))] σ xs (rtn (some (.int (zI (bI (mTg (mAll (sMcd σ 0) j j 0) j))))) (mAll (sMcd σ 0) j j 0) xs) nX := by
  refine Ev.of1 2 [some (.ref (ga γ 8 0)), some (.int (zI (j))), none, none] rfl pn_X5_together rfl (Nat.le_of_ble_eq_true rfl) ?_
  have main : ∀ s : St, Mw s → ∀ p : Int, p ≤ msz s → 0 ≤ p → ∀ b : Bool, (b = true → mTgF s j p = mTg s j) → (b = false → mTg s j = false) → RW γ mX5_together 8 5 5 (rtn (some (.int (zI (bI (mTg s j))))) s xs) nX 5 5 43 [some (.ref (ga γ 8 0)), some (.int (zI (j))), some (.int (zI (bI b))), some (.int (zI (p)))] [] s xs := by
    intro s hs
    have hz := hs.sz
    refine up (fun p hp9 ih hp0 b ht hf => ?_)
    refine r_iload_n (q := 44) dX5_together_43 rfl rfl ?_
    refine r_ifB_eq (q := 47) (tgt := 87) dX5_together_44 rfl (by decide) (fun h44 => ?_) (fun h44 => ?_)
    · refine r_iload_n (q := 88) dX5_together_87 rfl rfl ?_
      refine r_retz dX5_together_88 rfl (by first | rfl | exact narB _) (by decide) (by decide) ?_
      first
        | exact ret_i (by rw [hf h44, h44])
        | exact ret_i (by rw [← ht h44, mTgF.eq_def, if_neg (by omega), h44])
    · refine r_iload_n (q := 48) dX5_together_47 rfl rfl ?_
      refine r_aload_n (q := 49) dX5_together_48 rfl rfl ?_
      refine g_X5_size (i := 0) (q := 52) dX5_together_49 rfl fX5_53 (hG _ _ rfl) ?_
      refine r_icmp_ge (q := 55) (tgt := 87) dX5_together_52 rfl (by decide) (by first | omega | (have h9 := hs.tx p.toNat; have h8 := hs.sg (60 * j + p).toNat; omega)) (by first | omega | (have h9 := hs.tx p.toNat; have h8 := hs.sg (60 * j + p).toNat; omega)) (fun h52 => ?_) (fun h52 => ?_)
      · refine r_iload_n (q := 88) dX5_together_87 rfl rfl ?_
        refine r_retz dX5_together_88 rfl (by first | rfl | exact narB _) (by decide) (by decide) ?_
        first
          | exact ret_i (by rw [hf h44, h44])
          | exact ret_i (by rw [← ht h44, mTgF.eq_def, if_neg (by omega), h44])
      · refine r_aload_n (q := 56) dX5_together_55 rfl rfl ?_
        refine g_X5_text (i := 0) (q := 59) dX5_together_56 rfl fX5_7 (hG _ _ rfl) ?_
        refine r_iload_n (q := 60) dX5_together_59 rfl rfl ?_
        refine l_mtx (i := 0) (q := 61) dX5_together_60 rfl (hG _ _ rfl) (by omega) ?_
        refine r_aload_n (q := 62) dX5_together_61 rfl rfl ?_
        refine g_X5_signs (i := 0) (q := 65) dX5_together_62 rfl fX5_16 (hG _ _ rfl) ?_
        refine r_bipush (q := 67) dX5_together_65 rfl (bip (by decide) (by decide)) ?_
        refine r_iload_n (q := 68) dX5_together_67 rfl rfl ?_
        refine r_imul (q := 69) dX5_together_68 rfl ?_
        refine r_iload_n (q := 70) dX5_together_69 rfl rfl ?_
        refine r_iadd (q := 71) dX5_together_70 rfl ?_
        refine l_msg (i := 0) (q := 72) dX5_together_71 rfl (hG _ _ rfl) (by omega) ?_
        refine r_icmp_ne (q := 75) (tgt := 79) dX5_together_72 rfl (by decide) (by first | omega | (have h9 := hs.tx p.toNat; have h8 := hs.sg (60 * j + p).toNat; omega)) (by first | omega | (have h9 := hs.tx p.toNat; have h8 := hs.sg (60 * j + p).toNat; omega)) (fun h72 => ?_) (fun h72 => ?_)
        · refine r_iconst (q := 80) dX5_together_79 rfl ?_
          refine r_istore_n (q := 81) dX5_together_80 rfl (by decide) (Lst.setL rfl rfl) ?_
          refine r_iinc (q := 84) dX5_together_81 rfl rfl (by decide) (Lst.setL rfl rfl) ?_
          refine r_goto (q := 43) dX5_together_84 (by decide) ?_
          first
            | exact ih (p + 1) (by omega) (by omega) (by omega) true (fun _ => by rw [← ht h44, mTgF.eq_def s j p, if_pos (by omega), if_pos h72]) (fun z => absurd z (by decide))
            | exact ih (p + 1) (by omega) (by omega) (by omega) false (fun z => absurd z (by decide)) (fun _ => by rw [← ht h44, mTgF.eq_def s j p, if_pos (by omega), if_neg h72])
        · refine r_iconst (q := 76) dX5_together_75 rfl ?_
          refine r_goto (q := 80) dX5_together_76 (by decide) ?_
          refine r_istore_n (q := 81) dX5_together_80 rfl (by decide) (Lst.setL rfl rfl) ?_
          refine r_iinc (q := 84) dX5_together_81 rfl rfl (by decide) (Lst.setL rfl rfl) ?_
          refine r_goto (q := 43) dX5_together_84 (by decide) ?_
          first
            | exact ih (p + 1) (by omega) (by omega) (by omega) true (fun _ => by rw [← ht h44, mTgF.eq_def s j p, if_pos (by omega), if_pos h72]) (fun z => absurd z (by decide))
            | exact ih (p + 1) (by omega) (by omega) (by omega) false (fun z => absurd z (by decide)) (fun _ => by rw [← ht h44, mTgF.eq_def s j p, if_pos (by omega), if_neg h72])
  have hg := mAll_g (hM.cd 0) hj hj (by decide) hSj hSj h1 hR
  have hs := hg.1
  have hz := hs.sz
  have hlo := hs.lo j.toNat
  refine r_aload_n (q := 1) dX5_together_0 rfl rfl ?_
  refine r_aload_n (q := 2) dX5_together_1 rfl rfl ?_
  refine r_iload_n (q := 3) dX5_together_2 rfl rfl ?_
  refine cX5_1 (My := mX5_noSlot) (q := 6) dX5_together_3 rfl kX5_157 vX5_noSlot (hG _ _ rfl) rfl (m_noSlot hG hM (by omega) hN) ⟨by decide, by decide⟩ ⟨by decide, by decide⟩ (Nat.le_of_ble_eq_true rfl) ?_
  refine cX5_1 (My := mX5_fails) (q := 9) dX5_together_6 rfl kX5_63 vX5_fails (hG _ _ rfl) rfl (m_fails hG (by omega)) ⟨by decide, by decide⟩ ⟨by decide, by decide⟩ (Nat.le_of_ble_eq_true rfl) ?_
  refine r_ifB_eq (q := 12) (tgt := 14) dX5_together_9 rfl (by decide) (fun h9 => ?_) (fun h9 => ?_)
  · refine r_aload_n (q := 15) dX5_together_14 rfl rfl ?_
    refine r_iload_n (q := 16) dX5_together_15 rfl rfl ?_
    refine r_iload_n (q := 17) dX5_together_16 rfl rfl ?_
    refine r_bipush (q := 19) dX5_together_17 rfl (bip (by decide) (by decide)) ?_
    refine cX5_3v (My := mX5_all) (q := 22) dX5_together_19 rfl kX5_182 vX5_all (hG _ _ rfl) rfl (m_all hG (hM.cd 0) hj hj (c := 115) (sw := 0) (by decide) (by decide +kernel) (by decide) hSj hSj h1 hR) ⟨by decide, by decide⟩ ⟨by decide, by decide⟩ (Nat.le_of_ble_eq_true rfl) ?_
    refine r_aload_n (q := 23) dX5_together_22 rfl rfl ?_
    refine g_X5_size (i := 0) (q := 26) dX5_together_23 rfl fX5_53 (hG _ _ rfl) ?_
    refine r_aload_n (q := 27) dX5_together_26 rfl rfl ?_
    refine g_X5_long_ (i := 0) (q := 30) dX5_together_27 rfl fX5_19 (hG _ _ rfl) ?_
    refine r_iload_n (q := 31) dX5_together_30 rfl rfl ?_
    refine l_mlo (i := 0) (q := 32) dX5_together_31 rfl (hG _ _ rfl) (by omega) ?_
    refine r_icmp_ne (q := 35) (tgt := 39) dX5_together_32 rfl (by decide) (by omega) (by omega) (fun h32 => ?_) (fun h32 => ?_)
    · refine r_iconst (q := 40) dX5_together_39 rfl ?_
      refine r_istore_n (q := 41) dX5_together_40 rfl (by decide) (Lst.setL rfl rfl) ?_
      refine r_iconst (q := 42) dX5_together_41 rfl ?_
      refine r_istore_n (q := 43) dX5_together_42 rfl (by decide) (Lst.setL rfl rfl) ?_
      first
        | exact main _ hs 0 (by omega) (by omega) true (fun _ => by unfold mTg; rw [if_pos h32]) (fun z => absurd z (by decide))
        | exact main _ hs 0 (by omega) (by omega) false (fun z => absurd z (by decide)) (fun _ => by unfold mTg; rw [if_neg h32])
    · refine r_iconst (q := 36) dX5_together_35 rfl ?_
      refine r_goto (q := 40) dX5_together_36 (by decide) ?_
      refine r_istore_n (q := 41) dX5_together_40 rfl (by decide) (Lst.setL rfl rfl) ?_
      refine r_iconst (q := 42) dX5_together_41 rfl ?_
      refine r_istore_n (q := 43) dX5_together_42 rfl (by decide) (Lst.setL rfl rfl) ?_
      first
        | exact main _ hs 0 (by omega) (by omega) true (fun _ => by unfold mTg; rw [if_pos h32]) (fun z => absurd z (by decide))
        | exact main _ hs 0 (by omega) (by omega) false (fun z => absurd z (by decide)) (fun _ => by unfold mTg; rw [if_neg h32])
  · exact absurd h9 (by decide)
set_option maxRecDepth 100000 in
set_option maxHeartbeats 4000000 in
theorem m_taken (hG : Full γ) (hM : Mw σ) {j c k : Int} (hj : 0 ≤ j ∧ j < 4) (hc : -2147483648 ≤ c ∧ c ≤ 2147483647) (hk : ixO (tS 51) c = k) (h0 : 0 ≤ k) (h97 : c = 97 ↔ k = 2) (h112 : c = 112 ↔ k = 5) : Ev γ mX5_taken 7 0 0 [.ref (ga γ 8 0), .int (zI (j)), .int (zI (c))] σ xs (rtn (some (.int (zI (mTkn σ j k)))) σ xs) nX := by
  refine Ev.of1 0 [some (.ref (ga γ 8 0)), some (.int (zI (j))), some (.int (zI (c)))] rfl pn_X5_taken rfl (Nat.le_of_ble_eq_true rfl) ?_
  have h8 := ix51 c
  rw [hk] at h8
  refine r_aload_n (q := 1) dX5_taken_0 rfl rfl ?_
  refine r_iload_n (q := 2) dX5_taken_1 rfl rfl ?_
  refine r_iload_n (q := 3) dX5_taken_2 rfl rfl ?_
  refine cX5_2 (My := mX5_has) (q := 6) dX5_taken_3 rfl kX5_160 vX5_has (hG _ _ rfl) rfl (m_has hG hM hj hc hk h0) ⟨by decide, by decide⟩ ⟨by decide, by decide⟩ (Nat.le_of_ble_eq_true rfl) ?_
  refine r_ifB_ne (q := 9) (tgt := 11) dX5_taken_6 rfl (by decide) (fun h6 => ?_) (fun h6 => ?_)
  · refine r_aload_n (q := 12) dX5_taken_11 rfl rfl ?_
    refine r_iload_n (q := 13) dX5_taken_12 rfl rfl ?_
    refine r_iload_n (q := 14) dX5_taken_13 rfl rfl ?_
    refine cS_1 (My := mX5_partOf) (q := 17) dX5_taken_14 rfl kX5_100 vX5_partOf (m_partOf hc) ⟨by decide, by decide⟩ ⟨by decide, by decide⟩ (Nat.le_of_ble_eq_true rfl) ?_
    rw [hk]
    refine cX5_2 (My := mX5_many) (q := 20) dX5_taken_17 rfl kX5_168 vX5_many (hG _ _ rfl) rfl (m_many hG hM hj (by omega)) ⟨by decide, by decide⟩ ⟨by decide, by decide⟩ (Nat.le_of_ble_eq_true rfl) ?_
    refine r_iload_n (q := 21) dX5_taken_20 rfl rfl ?_
    refine r_bipush (q := 23) dX5_taken_21 rfl (bip (by decide) (by decide)) ?_
    refine r_icmp_ne (q := 26) (tgt := 30) dX5_taken_23 rfl (by decide) (by omega) (by omega) (fun h23 => ?_) (fun h23 => ?_)
    · refine r_iload_n (q := 31) dX5_taken_30 rfl rfl ?_
      refine r_bipush (q := 33) dX5_taken_31 rfl (bip (by decide) (by decide)) ?_
      refine r_icmp_ne (q := 36) (tgt := 40) dX5_taken_33 rfl (by decide) (by omega) (by omega) (fun h33 => ?_) (fun h33 => ?_)
      · refine r_iconst (q := 41) dX5_taken_40 rfl ?_
        refine r_iadd (q := 42) dX5_taken_41 rfl ?_
        refine r_reti dX5_taken_42 rfl (by decide) (by decide) ?_
        first
          | exact ret_i (by unfold mTkn; rw [if_neg (by rw [h6]; decide)])
          | exact ret_i (by unfold mTkn; rw [if_pos h6, if_pos (by omega)])
          | exact ret_i (by unfold mTkn; rw [if_pos h6, if_neg (by omega), if_pos (by omega)])
          | exact ret_i (by unfold mTkn; rw [if_pos h6, if_neg (by omega), if_neg (by omega)])
      · refine r_iconst (q := 37) dX5_taken_36 rfl ?_
        refine r_goto (q := 41) dX5_taken_37 (by decide) ?_
        refine r_iadd (q := 42) dX5_taken_41 rfl ?_
        refine r_reti dX5_taken_42 rfl (by decide) (by decide) ?_
        first
          | exact ret_i (by unfold mTkn; rw [if_neg (by rw [h6]; decide)])
          | exact ret_i (by unfold mTkn; rw [if_pos h6, if_pos (by omega)])
          | exact ret_i (by unfold mTkn; rw [if_pos h6, if_neg (by omega), if_pos (by omega)])
          | exact ret_i (by unfold mTkn; rw [if_pos h6, if_neg (by omega), if_neg (by omega)])
    · refine r_iconst (q := 27) dX5_taken_26 rfl ?_
      refine r_goto (q := 41) dX5_taken_27 (by decide) ?_
      refine r_iadd (q := 42) dX5_taken_41 rfl ?_
      refine r_reti dX5_taken_42 rfl (by decide) (by decide) ?_
      first
        | exact ret_i (by unfold mTkn; rw [if_neg (by rw [h6]; decide)])
        | exact ret_i (by unfold mTkn; rw [if_pos h6, if_pos (by omega)])
        | exact ret_i (by unfold mTkn; rw [if_pos h6, if_neg (by omega), if_pos (by omega)])
        | exact ret_i (by unfold mTkn; rw [if_pos h6, if_neg (by omega), if_neg (by omega)])
  · refine r_iconst (q := 10) dX5_taken_9 rfl ?_
    refine r_reti dX5_taken_10 rfl (by decide) (by decide) ?_
    first
      | exact ret_i (by unfold mTkn; rw [if_neg (by rw [h6]; decide)])
      | exact ret_i (by unfold mTkn; rw [if_pos h6, if_pos (by omega)])
      | exact ret_i (by unfold mTkn; rw [if_pos h6, if_neg (by omega), if_pos (by omega)])
      | exact ret_i (by unfold mTkn; rw [if_pos h6, if_neg (by omega), if_neg (by omega)])
set_option maxRecDepth 100000 in
set_option maxHeartbeats 4000000 in
theorem mix_h (hG : Full γ) (hM : Mw σ) {j i c : Int} (hr : -2147483648 ≤ j ∧ j ≤ 2147483647) (hr2 : -2147483648 ≤ i ∧ i ≤ 2147483647) (hc : 0 ≤ c ∧ c < 65536) {v : Int} (hN : mNoM σ j i c = v) {Q : Option Value → St → va_W → Prop} (J : ∀ q, RW γ mX5_mix 8 5 5 Q nX 0 0 111 [some (.ref (ga γ 8 0)), some (.int (zI (j))), some (.int (zI (i))), some (.int (zI (c))), q, none, none, none, none] [.int (zI (v))] σ xs) : RW γ mX5_mix 8 5 5 Q nX 0 0 0 [some (.ref (ga γ 8 0)), some (.int (zI (j))), some (.int (zI (i))), some (.int (zI (c))), none, none, none, none, none] [] σ xs := by
  have J35 : RW γ mX5_mix 8 5 5 Q nX 0 0 35 [some (.ref (ga γ 8 0)), some (.int (zI (j))), some (.int (zI (i))), some (.int (zI (c))), none, none, none, none, none] [.int (zI (bI (mIs c)))] σ xs := by
    refine r_istore (q := 37) dX5_mix_35 rfl (by decide) (Lst.setL rfl rfl) ?_
    refine r_iload_n (q := 38) dX5_mix_37 rfl rfl ?_
    refine cS_1 (My := mX5_isSlot) (q := 41) dX5_mix_38 rfl kX5_145 vX5_isSlot (m_isSlot (by omega)) ⟨by decide, by decide⟩ ⟨by decide, by decide⟩ (Nat.le_of_ble_eq_true rfl) ?_
    refine r_ifB_eq (q := 44) (tgt := 51) dX5_mix_41 rfl (by decide) (fun h41 => ?_) (fun h41 => ?_)
    · refine r_iconst (q := 52) dX5_mix_51 rfl ?_
      refine r_goto (q := 111) dX5_mix_52 (by decide) ?_
      refine RW.cast rfl (show _ = [Value.int (zI v)] from ?_) (J _)
      rw [← hN]
      unfold mNoM
      first
        | rw [if_neg (by simp at h41; omega)]
        | rw [if_neg (by simp at h48; omega)]
    · refine r_iload_n (q := 45) dX5_mix_44 rfl rfl ?_
      refine cS_1 (My := mX5_isSlot) (q := 48) dX5_mix_45 rfl kX5_145 vX5_isSlot (m_isSlot (by omega)) ⟨by decide, by decide⟩ ⟨by decide, by decide⟩ (Nat.le_of_ble_eq_true rfl) ?_
      refine r_ifB_ne (q := 51) (tgt := 55) dX5_mix_48 rfl (by decide) (fun h48 => ?_) (fun h48 => ?_)
      · refine r_aload_n (q := 56) dX5_mix_55 rfl rfl ?_
        refine g_X5_long_ (i := 0) (q := 59) dX5_mix_56 rfl fX5_19 (hG _ _ rfl) ?_
        refine r_iload_n (q := 60) dX5_mix_59 rfl rfl ?_
        refine l_mlo (i := 0) (q := 61) dX5_mix_60 rfl (hG _ _ rfl) (by first | omega | (simp at h41; omega) | (simp at h41 h48; omega)) ?_
        refine r_if_lt (q := 64) (tgt := 73) dX5_mix_61 rfl (by decide) (by first | omega | (have h8 := hM.lo j.toNat; have h7 := hM.lo i.toNat; omega)) (fun h61 => ?_) (fun h61 => ?_)
        · refine r_iconst (q := 74) dX5_mix_73 rfl ?_
          refine r_goto (q := 111) dX5_mix_74 (by decide) ?_
          refine RW.cast rfl (show _ = [Value.int (zI v)] from ?_) (J _)
          rw [← hN]
          unfold mNoM
          rw [if_pos (by simp at h41 h48; omega), if_pos (by omega)]
        · refine r_aload_n (q := 65) dX5_mix_64 rfl rfl ?_
          refine g_X5_long_ (i := 0) (q := 68) dX5_mix_65 rfl fX5_19 (hG _ _ rfl) ?_
          refine r_iload_n (q := 69) dX5_mix_68 rfl rfl ?_
          refine l_mlo (i := 0) (q := 70) dX5_mix_69 rfl (hG _ _ rfl) (by first | omega | (simp at h41; omega) | (simp at h41 h48; omega)) ?_
          refine r_if_ge (q := 73) (tgt := 77) dX5_mix_70 rfl (by decide) (by first | omega | (have h8 := hM.lo j.toNat; have h7 := hM.lo i.toNat; omega)) (fun h70 => ?_) (fun h70 => ?_)
          · refine r_iload (q := 79) dX5_mix_77 rfl rfl ?_
            refine r_ifB_ne (q := 82) (tgt := 86) dX5_mix_79 rfl (by decide) (fun h79 => ?_) (fun h79 => ?_)
            · refine r_aload_n (q := 87) dX5_mix_86 rfl rfl ?_
              refine r_iload_n (q := 88) dX5_mix_87 rfl rfl ?_
              refine r_bipush (q := 90) dX5_mix_88 rfl (bip (by decide) (by decide)) ?_
              refine cX5_2 (My := mX5_has) (q := 93) dX5_mix_90 rfl kX5_160 vX5_has (hG _ _ rfl) rfl (m_has hG hM (by first | omega | (simp at h41; omega) | (simp at h41 h48; omega)) (by decide) (k := 5) rfl (by decide)) ⟨by decide, by decide⟩ ⟨by decide, by decide⟩ (Nat.le_of_ble_eq_true rfl) ?_
              refine r_ifB_eq (q := 96) (tgt := 110) dX5_mix_93 rfl (by decide) (fun h93 => ?_) (fun h93 => ?_)
              · refine r_iconst (q := 111) dX5_mix_110 rfl ?_
                refine RW.cast rfl (show _ = [Value.int (zI v)] from ?_) (J _)
                rw [← hN]
                unfold mNoM
                rw [if_pos (by simp at h41 h48; omega), if_neg (by omega), if_neg (by rw [h79]; decide), if_neg (fun z => absurd (h93.symm.trans z.1) (by decide))]
              · refine r_aload_n (q := 97) dX5_mix_96 rfl rfl ?_
                refine r_iload_n (q := 98) dX5_mix_97 rfl rfl ?_
                refine r_bipush (q := 100) dX5_mix_98 rfl (bip (by decide) (by decide)) ?_
                refine cX5_2 (My := mX5_has) (q := 103) dX5_mix_100 rfl kX5_160 vX5_has (hG _ _ rfl) rfl (m_has hG hM (by first | omega | (simp at h41; omega) | (simp at h41 h48; omega)) (by decide) (k := 5) rfl (by decide)) ⟨by decide, by decide⟩ ⟨by decide, by decide⟩ (Nat.le_of_ble_eq_true rfl) ?_
                refine r_ifB_eq (q := 106) (tgt := 110) dX5_mix_103 rfl (by decide) (fun h103 => ?_) (fun h103 => ?_)
                · refine r_iconst (q := 111) dX5_mix_110 rfl ?_
                  refine RW.cast rfl (show _ = [Value.int (zI v)] from ?_) (J _)
                  rw [← hN]
                  unfold mNoM
                  rw [if_pos (by simp at h41 h48; omega), if_neg (by omega), if_neg (by rw [h79]; decide), if_neg (fun z => absurd (h103.symm.trans z.2) (by decide))]
                · refine r_iconst (q := 107) dX5_mix_106 rfl ?_
                  refine r_goto (q := 111) dX5_mix_107 (by decide) ?_
                  refine RW.cast rfl (show _ = [Value.int (zI v)] from ?_) (J _)
                  rw [← hN]
                  unfold mNoM
                  rw [if_pos (by simp at h41 h48; omega), if_neg (by omega), if_neg (by rw [h79]; decide), if_pos ⟨h93, h103⟩]
            · refine r_iconst (q := 83) dX5_mix_82 rfl ?_
              refine r_goto (q := 111) dX5_mix_83 (by decide) ?_
              refine RW.cast rfl (show _ = [Value.int (zI v)] from ?_) (J _)
              rw [← hN]
              unfold mNoM
              rw [if_pos (by simp at h41 h48; omega), if_neg (by omega), if_pos h79]
          · refine r_iconst (q := 74) dX5_mix_73 rfl ?_
            refine r_goto (q := 111) dX5_mix_74 (by decide) ?_
            refine RW.cast rfl (show _ = [Value.int (zI v)] from ?_) (J _)
            rw [← hN]
            unfold mNoM
            rw [if_pos (by simp at h41 h48; omega), if_pos (by omega)]
      · refine r_iconst (q := 52) dX5_mix_51 rfl ?_
        refine r_goto (q := 111) dX5_mix_52 (by decide) ?_
        refine RW.cast rfl (show _ = [Value.int (zI v)] from ?_) (J _)
        rw [← hN]
        unfold mNoM
        first
          | rw [if_neg (by simp at h41; omega)]
          | rw [if_neg (by simp at h48; omega)]
  refine r_iload_n (q := 1) dX5_mix_0 rfl rfl ?_
  refine r_bipush (q := 3) dX5_mix_1 rfl (bip (by decide) (by decide)) ?_
  refine r_icmp_eq (q := 6) (tgt := 30) dX5_mix_3 rfl (by decide) (by omega) (by omega) (fun h3 => ?_) (fun h3 => ?_)
  · refine r_iconst (q := 31) dX5_mix_30 rfl ?_
    refine r_goto (q := 35) dX5_mix_31 (by decide) ?_
    first
      | exact RW.cast rfl (show _ = [Value.int (zI (bI (mIs c)))] by rw [show mIs c = true from decide_eq_true (by omega)]; rfl) J35
      | exact RW.cast rfl (show _ = [Value.int (zI (bI (mIs c)))] by rw [show mIs c = false from decide_eq_false (by omega)]; rfl) J35
  · refine r_iload_n (q := 7) dX5_mix_6 rfl rfl ?_
    refine r_bipush (q := 9) dX5_mix_7 rfl (bip (by decide) (by decide)) ?_
    refine r_icmp_eq (q := 12) (tgt := 30) dX5_mix_9 rfl (by decide) (by omega) (by omega) (fun h9 => ?_) (fun h9 => ?_)
    · refine r_iconst (q := 31) dX5_mix_30 rfl ?_
      refine r_goto (q := 35) dX5_mix_31 (by decide) ?_
      first
        | exact RW.cast rfl (show _ = [Value.int (zI (bI (mIs c)))] by rw [show mIs c = true from decide_eq_true (by omega)]; rfl) J35
        | exact RW.cast rfl (show _ = [Value.int (zI (bI (mIs c)))] by rw [show mIs c = false from decide_eq_false (by omega)]; rfl) J35
    · refine r_iload_n (q := 13) dX5_mix_12 rfl rfl ?_
      refine r_bipush (q := 15) dX5_mix_13 rfl (bip (by decide) (by decide)) ?_
      refine r_icmp_eq (q := 18) (tgt := 30) dX5_mix_15 rfl (by decide) (by omega) (by omega) (fun h15 => ?_) (fun h15 => ?_)
      · refine r_iconst (q := 31) dX5_mix_30 rfl ?_
        refine r_goto (q := 35) dX5_mix_31 (by decide) ?_
        first
          | exact RW.cast rfl (show _ = [Value.int (zI (bI (mIs c)))] by rw [show mIs c = true from decide_eq_true (by omega)]; rfl) J35
          | exact RW.cast rfl (show _ = [Value.int (zI (bI (mIs c)))] by rw [show mIs c = false from decide_eq_false (by omega)]; rfl) J35
      · refine r_iload_n (q := 19) dX5_mix_18 rfl rfl ?_
        refine r_bipush (q := 21) dX5_mix_19 rfl (bip (by decide) (by decide)) ?_
        refine r_icmp_eq (q := 24) (tgt := 30) dX5_mix_21 rfl (by decide) (by omega) (by omega) (fun h21 => ?_) (fun h21 => ?_)
        · refine r_iconst (q := 31) dX5_mix_30 rfl ?_
          refine r_goto (q := 35) dX5_mix_31 (by decide) ?_
          first
            | exact RW.cast rfl (show _ = [Value.int (zI (bI (mIs c)))] by rw [show mIs c = true from decide_eq_true (by omega)]; rfl) J35
            | exact RW.cast rfl (show _ = [Value.int (zI (bI (mIs c)))] by rw [show mIs c = false from decide_eq_false (by omega)]; rfl) J35
        · refine r_iload_n (q := 25) dX5_mix_24 rfl rfl ?_
          refine r_bipush (q := 27) dX5_mix_25 rfl (bip (by decide) (by decide)) ?_
          refine r_icmp_ne (q := 30) (tgt := 34) dX5_mix_27 rfl (by decide) (by omega) (by omega) (fun h27 => ?_) (fun h27 => ?_)
          · refine r_iconst (q := 35) dX5_mix_34 rfl ?_
            first
              | exact RW.cast rfl (show _ = [Value.int (zI (bI (mIs c)))] by rw [show mIs c = true from decide_eq_true (by omega)]; rfl) J35
              | exact RW.cast rfl (show _ = [Value.int (zI (bI (mIs c)))] by rw [show mIs c = false from decide_eq_false (by omega)]; rfl) J35
          · refine r_iconst (q := 31) dX5_mix_30 rfl ?_
            refine r_goto (q := 35) dX5_mix_31 (by decide) ?_
            first
              | exact RW.cast rfl (show _ = [Value.int (zI (bI (mIs c)))] by rw [show mIs c = true from decide_eq_true (by omega)]; rfl) J35
              | exact RW.cast rfl (show _ = [Value.int (zI (bI (mIs c)))] by rw [show mIs c = false from decide_eq_false (by omega)]; rfl) J35
set_option maxRecDepth 100000 in
set_option maxHeartbeats 4000000 in
theorem m_mix_e (hG : Full γ) (hM : Mw σ) {j i c : Int} (hr : -2147483648 ≤ j ∧ j ≤ 2147483647) (hr2 : -2147483648 ≤ i ∧ i ≤ 2147483647) (hc : 0 ≤ c ∧ c < 65536) {v : Int} (hv : 0 < v ∧ v ≤ 5) (hN : mNoM σ j i c = v) : Ev γ mX5_mix 8 5 5 [.ref (ga γ 8 0), .int (zI (j)), .int (zI (i)), .int (zI (c))] σ xs (rtn (some (.int (zI (0)))) (sMcd σ v) xs) nX := by
  refine Ev.of1 5 [some (.ref (ga γ 8 0)), some (.int (zI (j))), some (.int (zI (i))), some (.int (zI (c))), none, none, none, none, none] rfl pn_X5_mix rfl (Nat.le_of_ble_eq_true rfl) ?_
  refine mix_h hG hM hr hr2 hc hN (fun q => ?_)
  refine RW.drop 4 ?_
  refine r_istore (q := 113) dX5_mix_111 rfl (by decide) (Lst.setL rfl rfl) ?_
  refine r_iconst (q := 114) dX5_mix_113 rfl ?_
  refine r_istore (q := 116) dX5_mix_114 rfl (by decide) (Lst.setL rfl rfl) ?_
  refine r_iconst (q := 117) dX5_mix_116 rfl ?_
  refine r_istore (q := 119) dX5_mix_117 rfl (by decide) (Lst.setL rfl rfl) ?_
  refine r_iload (q := 121) dX5_mix_119 rfl rfl ?_
  refine r_if_ne (q := 124) (tgt := 167) dX5_mix_121 rfl (by decide) (by omega) (fun _ => ?_) (fun z => by exfalso; omega)
  refine r_aload_n (q := 168) dX5_mix_167 rfl rfl ?_
  refine r_iload (q := 170) dX5_mix_168 rfl rfl ?_
  refine r_if_le (q := 173) (tgt := 178) dX5_mix_170 rfl (by decide) (by omega) (fun z => by exfalso; omega) (fun _ => ?_)
  refine r_iload (q := 175) dX5_mix_173 rfl rfl ?_
  refine r_goto (q := 190) dX5_mix_175 (by decide) ?_
  refine cX5_1 (My := mX5_fails) (q := 193) dX5_mix_190 rfl kX5_63 vX5_fails (hG _ _ rfl) rfl (m_fails hG (by omega)) ⟨by decide, by decide⟩ ⟨by decide, by decide⟩ (Nat.le_of_ble_eq_true rfl) ?_
  refine r_ifB_eq (q := 196) (tgt := 198) dX5_mix_193 rfl (by decide) (fun h193 => ?_) (fun h193 => ?_)
  · have := of_decide_eq_false h193; omega
  · refine r_iconst (q := 197) dX5_mix_196 rfl ?_
    refine r_reti dX5_mix_197 rfl (by decide) (by decide) ?_
    exact ret_is rfl rfl
set_option maxRecDepth 100000 in
set_option maxHeartbeats 4000000 in
theorem mix_s (hG : Full γ) (hM : Mw σ) {j i c : Int} (hj : 0 ≤ j ∧ j < 4) (hi : 0 ≤ i ∧ i < 4) (hc : 0 ≤ c ∧ c < 65536) (hN : mNoM σ j i c = 0) {S : Int} (hS : mSumF σ j i c 0 0 = S) {Q : Option Value → St → va_W → Prop} (J : -2000 ≤ S ∧ S ≤ 2000 → RW γ mX5_mix 8 5 5 Q nX 0 0 167 [some (.ref (ga γ 8 0)), some (.int (zI (j))), some (.int (zI (i))), some (.int (zI (c))), none, some (.int (zI (0))), some (.int (zI (S))), none, none] [] σ xs) : RW γ mX5_mix 8 5 5 Q nX 0 0 0 [some (.ref (ga γ 8 0)), some (.int (zI (j))), some (.int (zI (i))), some (.int (zI (c))), none, none, none, none, none] [] σ xs := by
  refine mix_h hG hM (by omega) (by omega) hc hN (fun q => ?_)
  refine RW.drop 4 ?_
  have loop : ∀ k : Int, k ≤ 5 → 0 ≤ k → ∀ a : Int, (-300 * k ≤ a ∧ a ≤ 300 * k) → mSumF σ j i c a k = S → RW γ mX5_mix 8 5 5 Q nX 0 0 119 [some (.ref (ga γ 8 0)), some (.int (zI (j))), some (.int (zI (i))), some (.int (zI (c))), none, some (.int (zI (0))), some (.int (zI (a))), some (.int (zI (k))), none] [] σ xs := by
    refine up (fun k hk9 ih hk0 a ha hs => ?_)
    have hq1 := mTkn_r hM j (pM k)
    have hq2 := mTkn_r hM i (pM k)
    by_cases h5 : k < 5
    · obtain ⟨hp1, hp2, hp3, hp4, hp5, hp6, hp7⟩ := pcM ⟨hk0, h5⟩
      refine r_iload (q := 121) dX5_mix_119 rfl rfl ?_
      refine r_if_ne (q := 124) (tgt := 167) dX5_mix_121 rfl (by decide) (by omega) (fun z => by exfalso; omega) (fun _ => ?_)
      refine r_iload (q := 126) dX5_mix_124 rfl rfl ?_
      refine r_iconst (q := 127) dX5_mix_126 rfl ?_
      refine r_icmp_ge (q := 130) (tgt := 167) dX5_mix_127 rfl (by decide) (by omega) (by omega) (fun h127 => ?_) (fun h127 => ?_)
      · have hk5 : a = S := by rw [← hs, mSumF.eq_def σ j i c a k, if_neg (by omega)]
        subst hk5
        refine RW.drop 7 ?_
        exact J (by omega)
      · refine r_ldcS (i := 55) (tx := "sapqf") (q := 132) dX5_mix_130 rfl (List.mem_of_getElem? (i := 69) rfl) ?_
        refine r_iload (q := 134) dX5_mix_132 rfl rfl ?_
        refine cT_1 (My := mJ0_charAt_5068e) (q := 137) dX5_mix_134 rfl kX5_79 vJ0_charAt_5068e (by decide) rfl (j_charAt (by decide) (by show 0 ≤ k ∧ k < 5; omega)) ⟨by decide, by decide⟩ ⟨by decide, by decide⟩ (Nat.le_of_ble_eq_true rfl) ?_
        refine RW.cast rfl (show _ = [Value.int (zI (cM k))] from rfl) ?_
        refine r_istore (q := 139) dX5_mix_137 rfl (by decide) (Lst.setL rfl rfl) ?_
        refine r_iload (q := 141) dX5_mix_139 rfl rfl ?_
        refine r_aload_n (q := 142) dX5_mix_141 rfl rfl ?_
        refine r_iload (q := 144) dX5_mix_142 rfl rfl ?_
        refine r_iload_n (q := 145) dX5_mix_144 rfl rfl ?_
        refine r_icmp_ne (q := 148) (tgt := 152) dX5_mix_145 rfl (by decide) (by omega) (by omega) (fun h145 => ?_) (fun h145 => ?_)
        · refine r_iload_n (q := 153) dX5_mix_152 rfl rfl ?_
          refine r_iload (q := 155) dX5_mix_153 rfl rfl ?_
          refine cX5_2 (My := mX5_taken) (q := 158) dX5_mix_155 rfl kX5_188 vX5_taken (hG _ _ rfl) rfl (m_taken hG hM (by first | exact hj | exact hi) (by omega) hp1 hp4 hp2 hp3) ⟨by decide, by decide⟩ ⟨by decide, by decide⟩ (Nat.le_of_ble_eq_true rfl) ?_
          refine r_iadd (q := 159) dX5_mix_158 rfl ?_
          refine r_istore (q := 161) dX5_mix_159 rfl (by decide) (Lst.setL rfl rfl) ?_
          refine r_iinc (q := 164) dX5_mix_161 rfl rfl (by decide) (Lst.setL rfl rfl) ?_
          refine r_goto (q := 119) dX5_mix_164 (by decide) ?_
          refine RW.drop 8 ?_
          first
            | exact ih (k + 1) (by omega) (by omega) (by omega) _ (by omega) (by rw [← hs, mSumF.eq_def σ j i c a k, if_pos (by omega), if_pos h145])
            | exact ih (k + 1) (by omega) (by omega) (by omega) _ (by omega) (by rw [← hs, mSumF.eq_def σ j i c a k, if_pos (by omega), if_neg h145])
        · refine r_iload_n (q := 149) dX5_mix_148 rfl rfl ?_
          refine r_goto (q := 153) dX5_mix_149 (by decide) ?_
          refine r_iload (q := 155) dX5_mix_153 rfl rfl ?_
          refine cX5_2 (My := mX5_taken) (q := 158) dX5_mix_155 rfl kX5_188 vX5_taken (hG _ _ rfl) rfl (m_taken hG hM (by first | exact hj | exact hi) (by omega) hp1 hp4 hp2 hp3) ⟨by decide, by decide⟩ ⟨by decide, by decide⟩ (Nat.le_of_ble_eq_true rfl) ?_
          refine r_iadd (q := 159) dX5_mix_158 rfl ?_
          refine r_istore (q := 161) dX5_mix_159 rfl (by decide) (Lst.setL rfl rfl) ?_
          refine r_iinc (q := 164) dX5_mix_161 rfl rfl (by decide) (Lst.setL rfl rfl) ?_
          refine r_goto (q := 119) dX5_mix_164 (by decide) ?_
          refine RW.drop 8 ?_
          first
            | exact ih (k + 1) (by omega) (by omega) (by omega) _ (by omega) (by rw [← hs, mSumF.eq_def σ j i c a k, if_pos (by omega), if_pos h145])
            | exact ih (k + 1) (by omega) (by omega) (by omega) _ (by omega) (by rw [← hs, mSumF.eq_def σ j i c a k, if_pos (by omega), if_neg h145])
    · have hp6 : (0 : Int) ≤ 0 := by omega
      have hp7 : True := trivial
      refine r_iload (q := 121) dX5_mix_119 rfl rfl ?_
      refine r_if_ne (q := 124) (tgt := 167) dX5_mix_121 rfl (by decide) (by omega) (fun z => by exfalso; omega) (fun _ => ?_)
      refine r_iload (q := 126) dX5_mix_124 rfl rfl ?_
      refine r_iconst (q := 127) dX5_mix_126 rfl ?_
      refine r_icmp_ge (q := 130) (tgt := 167) dX5_mix_127 rfl (by decide) (by omega) (by omega) (fun _ => ?_) (fun z => by exfalso; omega)
      have hk5 : a = S := by rw [← hs, mSumF.eq_def σ j i c a k, if_neg (by omega)]
      subst hk5
      refine RW.drop 7 ?_
      exact J (by omega)
  refine r_istore (q := 113) dX5_mix_111 rfl (by decide) (Lst.setL rfl rfl) ?_
  refine r_iconst (q := 114) dX5_mix_113 rfl ?_
  refine r_istore (q := 116) dX5_mix_114 rfl (by decide) (Lst.setL rfl rfl) ?_
  refine r_iconst (q := 117) dX5_mix_116 rfl ?_
  refine r_istore (q := 119) dX5_mix_117 rfl (by decide) (Lst.setL rfl rfl) ?_
  exact loop 0 (by omega) (by omega) 0 (by omega) hS
set_option maxRecDepth 100000 in
set_option maxHeartbeats 4000000 in
theorem m_mix_5 (hG : Full γ) (hM : Mw σ) {j i c : Int} (hj : 0 ≤ j ∧ j < 4) (hi : 0 ≤ i ∧ i < 4) (hc : 0 ≤ c ∧ c < 65536) (hN : mNoM σ j i c = 0) (hS : 60 < mSumF σ j i c 0 0) : Ev γ mX5_mix 8 5 5 [.ref (ga γ 8 0), .int (zI (j)), .int (zI (i)), .int (zI (c))] σ xs (rtn (some (.int (zI (0)))) (sMcd σ 5) xs) nX := by
  refine Ev.of1 5 [some (.ref (ga γ 8 0)), some (.int (zI (j))), some (.int (zI (i))), some (.int (zI (c))), none, none, none, none, none] rfl pn_X5_mix rfl (Nat.le_of_ble_eq_true rfl) ?_
  refine mix_s hG hM hj hi hc hN rfl (fun hS9 => ?_)
  refine r_aload_n (q := 168) dX5_mix_167 rfl rfl ?_
  refine r_iload (q := 170) dX5_mix_168 rfl rfl ?_
  refine r_if_le (q := 173) (tgt := 178) dX5_mix_170 rfl (by decide) (by omega) (fun _ => ?_) (fun z => by exfalso; omega)
  refine r_iload (q := 180) dX5_mix_178 rfl rfl ?_
  refine r_bipush (q := 182) dX5_mix_180 rfl (bip (by decide) (by decide)) ?_
  refine r_icmp_le (q := 185) (tgt := 189) dX5_mix_182 rfl (by decide) (by omega) (by omega) (fun z => by exfalso; omega) (fun _ => ?_)
  refine r_iconst (q := 186) dX5_mix_185 rfl ?_
  refine r_goto (q := 190) dX5_mix_186 (by decide) ?_
  refine cX5_1 (My := mX5_fails) (q := 193) dX5_mix_190 rfl kX5_63 vX5_fails (hG _ _ rfl) rfl (m_fails hG (by omega)) ⟨by decide, by decide⟩ ⟨by decide, by decide⟩ (Nat.le_of_ble_eq_true rfl) ?_
  refine r_ifB_eq (q := 196) (tgt := 198) dX5_mix_193 rfl (by decide) (fun h193 => ?_) (fun h193 => ?_)
  · exact absurd h193 (by decide)
  · refine r_iconst (q := 197) dX5_mix_196 rfl ?_
    refine r_reti dX5_mix_197 rfl (by decide) (by decide) ?_
    exact ret_is rfl rfl
set_option maxRecDepth 100000 in
set_option maxHeartbeats 4000000 in
theorem m_mix_0 (hG : Full γ) (hM : Mw σ) {j i c : Int} (hj : 0 ≤ j ∧ j < 4) (hi : 0 ≤ i ∧ i < 4) (hc : 0 ≤ c ∧ c < 65536) (hN : mNoM σ j i c = 0) (hS : mSumF σ j i c 0 0 ≤ 60) {sw : Int} (hsw : ∀ k : Nat, k < 8 → ((tS 51).getD k 0 = c ↔ (k : Int) = sw)) (hs1 : sw ≠ 1) (hSj : Sl σ j) (hSi : Sl σ i) (h1 : mHas σ j 1 = true) (hR : aRest (sMcd σ 0) j i sw 0 ≤ 60) : Ev γ mX5_mix 8 5 5 [.ref (ga γ 8 0), .int (zI (j)), .int (zI (i)), .int (zI (c))] σ xs (rtn (some (.int (zI (msz (mAll (sMcd σ 0) j i sw))))) (mAll (sMcd σ 0) j i sw) xs) nX := by
  refine Ev.of1 5 [some (.ref (ga γ 8 0)), some (.int (zI (j))), some (.int (zI (i))), some (.int (zI (c))), none, none, none, none, none] rfl pn_X5_mix rfl (Nat.le_of_ble_eq_true rfl) ?_
  refine mix_s hG hM hj hi hc hN rfl (fun hS9 => ?_)
  refine r_aload_n (q := 168) dX5_mix_167 rfl rfl ?_
  refine r_iload (q := 170) dX5_mix_168 rfl rfl ?_
  refine r_if_le (q := 173) (tgt := 178) dX5_mix_170 rfl (by decide) (by omega) (fun _ => ?_) (fun z => by exfalso; omega)
  refine r_iload (q := 180) dX5_mix_178 rfl rfl ?_
  refine r_bipush (q := 182) dX5_mix_180 rfl (bip (by decide) (by decide)) ?_
  refine r_icmp_le (q := 185) (tgt := 189) dX5_mix_182 rfl (by decide) (by omega) (by omega) (fun _ => ?_) (fun z => by exfalso; omega)
  refine r_iconst (q := 190) dX5_mix_189 rfl ?_
  refine cX5_1 (My := mX5_fails) (q := 193) dX5_mix_190 rfl kX5_63 vX5_fails (hG _ _ rfl) rfl (m_fails hG (by omega)) ⟨by decide, by decide⟩ ⟨by decide, by decide⟩ (Nat.le_of_ble_eq_true rfl) ?_
  refine r_ifB_eq (q := 196) (tgt := 198) dX5_mix_193 rfl (by decide) (fun h193 => ?_) (fun h193 => ?_)
  · refine r_aload_n (q := 199) dX5_mix_198 rfl rfl ?_
    refine r_iload_n (q := 200) dX5_mix_199 rfl rfl ?_
    refine r_iload_n (q := 201) dX5_mix_200 rfl rfl ?_
    refine r_iload_n (q := 202) dX5_mix_201 rfl rfl ?_
    refine cX5_3v (My := mX5_all) (q := 205) dX5_mix_202 rfl kX5_182 vX5_all (hG _ _ rfl) rfl (m_all hG (hM.cd 0) hj hi hc hsw hs1 hSj hSi h1 hR) ⟨by decide, by decide⟩ ⟨by decide, by decide⟩ (Nat.le_of_ble_eq_true rfl) ?_
    refine r_aload_n (q := 206) dX5_mix_205 rfl rfl ?_
    refine g_X5_size (i := 0) (q := 209) dX5_mix_206 rfl fX5_53 (hG _ _ rfl) ?_
    refine r_reti dX5_mix_209 rfl (by decide) (by decide) ?_
    exact ret_is rfl rfl
  · exact absurd h193 (by decide)
end X5
theorem mSumF_e {σ : St} {j i c sw : Int} (hc : ∀ k : Nat, k < 8 → ((tS 51).getD k 0 = c ↔ (k : Int) = sw)) (h5 : mHas σ j 5 = true) : mSumF σ j i c 0 0 = aRest σ j i sw 0 := by
  have e : ∀ k : Nat, ∀ q : Nat, q < 8 → (tS 51).getD q 0 = cM k → ∀ (a : Int), (if cM k = c then i else j) = aBy sw q j i := by
    intro k q hq he _
    unfold aBy
    rw [← he]
    by_cases h : (tS 51).getD q 0 = c
    · rw [if_pos h, if_pos ((hc q hq).mp h)]
    · rw [if_neg h, if_neg (fun z => h ((hc q hq).mpr z))]
  have s0 := e 0 0 (by decide) (by decide +kernel) 0
  have s1 := e 1 2 (by decide) (by decide +kernel) 0
  have s2 := e 2 5 (by decide) (by decide +kernel) 0
  have s3 := e 3 6 (by decide) (by decide +kernel) 0
  have s4 := e 4 7 (by decide) (by decide +kernel) 0
  have m (a k : Int) (h : k < 5) : mSumF σ j i c a k = mSumF σ j i c (a + mTkn σ (if cM k = c then i else j) (pM k)) (k + 1) := by rw [mSumF.eq_def, if_pos h]
  have p0 : pM 0 = 0 := by decide +kernel
  have p1 : pM 1 = 2 := by decide +kernel
  have p2 : pM 2 = 5 := by decide +kernel
  have p3 : pM 3 = 6 := by decide +kernel
  have p4 : pM 4 = 7 := by decide +kernel
  rw [m 0 0 (by decide), show (0 : Int) + 1 = 1 by decide, m _ 1 (by decide), show (1 : Int) + 1 = 2 by decide, m _ 2 (by decide), show (2 : Int) + 1 = 3 by decide, m _ 3 (by decide), show (3 : Int) + 1 = 4 by decide, m _ 4 (by decide), show (4 : Int) + 1 = 5 by decide, mSumF.eq_def, if_neg (by decide), p0, p1, p2, p3, p4]
  have a0 := aRest_u (s := σ) (j := j) (i := i) (sw := sw) (k := 0) (by decide)
  have a1 := aRest_u (s := σ) (j := j) (i := i) (sw := sw) (k := 1) (by decide)
  have a2 := aRest_u (s := σ) (j := j) (i := i) (sw := sw) (k := 2) (by decide)
  have a3 := aRest_u (s := σ) (j := j) (i := i) (sw := sw) (k := 3) (by decide)
  have a4 := aRest_u (s := σ) (j := j) (i := i) (sw := sw) (k := 4) (by decide)
  have a5 := aRest_u (s := σ) (j := j) (i := i) (sw := sw) (k := 5) (by decide)
  have a6 := aRest_u (s := σ) (j := j) (i := i) (sw := sw) (k := 6) (by decide)
  have a7 := aRest_u (s := σ) (j := j) (i := i) (sw := sw) (k := 7) (by decide)
  have a8 : aRest σ j i sw 8 = 0 := by rw [aRest.eq_def, if_neg (by decide)]
  simp only [Int.reduceAdd] at a0 a1 a2 a3 a4 a5 a6 a7
  have c1 : aCost σ j i sw 1 = 0 := by unfold aCost; rw [if_neg (by unfold aIs; rw [if_pos rfl, h5]; decide)]
  have c3 : aCost σ j i sw 3 = 0 := by unfold aCost; rw [if_neg (by unfold aIs; rw [if_neg (by decide), if_pos (by decide)]; decide)]
  have c4 : aCost σ j i sw 4 = 0 := by unfold aCost; rw [if_neg (by unfold aIs; rw [if_neg (by decide), if_pos (by decide)]; decide)]
  have t : ∀ (k : Int) (b : Int), k ≠ 1 → k ≠ 3 → k ≠ 4 → b = aBy sw k j i → mTkn σ b k = if mHas σ (aBy sw k j i) k = true then mMany σ (aBy sw k j i) k + (if k = 2 then 2 else if k = 5 then 0 else 1) else 0 := by
    intro k b _ _ _ hb
    rw [hb]
    rfl
  have u : ∀ k : Int, k ≠ 1 → k ≠ 3 → k ≠ 4 → aCost σ j i sw k = if mHas σ (aBy sw k j i) k = true then aPz k + mMany σ (aBy sw k j i) k + aQz k else 0 := by
    intro k h1 h3 h4
    unfold aCost aIs
    rw [if_neg h1, if_neg (show ¬ (k = 3 ∨ k = 4) by omega)]
  have c0 : aCost σ j i sw 0 = mTkn σ (aBy sw 0 j i) 0 := by
    rw [u 0 (by decide) (by decide) (by decide), t 0 _ (by decide) (by decide) (by decide) rfl]
    split
    · show 0 + _ + 1 = _ + 1
      omega
    · rfl
  have c2 : aCost σ j i sw 2 = mTkn σ (aBy sw 2 j i) 2 := by
    rw [u 2 (by decide) (by decide) (by decide), t 2 _ (by decide) (by decide) (by decide) rfl]
    split
    · show 2 + _ + 0 = _ + 2
      omega
    · rfl
  have c5 : aCost σ j i sw 5 = mTkn σ (aBy sw 5 j i) 5 := by
    rw [u 5 (by decide) (by decide) (by decide), t 5 _ (by decide) (by decide) (by decide) rfl]
    split
    · show 0 + _ + 0 = _ + 0
      omega
    · rfl
  have c6 : aCost σ j i sw 6 = mTkn σ (aBy sw 6 j i) 6 := by
    rw [u 6 (by decide) (by decide) (by decide), t 6 _ (by decide) (by decide) (by decide) rfl]
    split
    · show 1 + _ + 0 = _ + 1
      omega
    · rfl
  have c7 : aCost σ j i sw 7 = mTkn σ (aBy sw 7 j i) 7 := by
    rw [u 7 (by decide) (by decide) (by decide), t 7 _ (by decide) (by decide) (by decide) rfl]
    split
    · show 1 + _ + 0 = _ + 1
      omega
    · rfl
  have s0 : (if cM 0 = c then i else j) = aBy sw 0 j i := s0
  have s1 : (if cM 1 = c then i else j) = aBy sw 2 j i := s1
  have s2 : (if cM 2 = c then i else j) = aBy sw 5 j i := s2
  have s3 : (if cM 3 = c then i else j) = aBy sw 6 j i := s3
  have s4 : (if cM 4 = c then i else j) = aBy sw 7 j i := s4
  rw [s0, s1, s2, s3, s4]
  omega
