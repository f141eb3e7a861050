/-! The model: putting together -/
def aBy (sw k j i : Int) : Int := if k = sw then i else j
def aIs (s : St) (j i sw k : Int) : Bool := if k = 1 then !mHas s j 5 else if k = 3 ∨ k = 4 then false else mHas s (aBy sw k j i) k
def aPre (s : St) (k : Int) : St := if k = 2 then mSign (mSign s 47) 47 else if k = 6 then mSign s 63 else if k = 7 then mSign s 35 else s
def aPost (s : St) (k : Int) : St := if k = 0 then mSign s 58 else s
def aStep (s : St) (j i sw k : Int) : St := if aIs s j i sw k = true then aPost (mAdd (aPre s k) (aBy sw k j i) k) k else s
def mAllF (s : St) (j i sw k : Int) : St := if k < 8 then mAllF (aStep s j i sw k) j i sw (k + 1) else s
termination_by (8 - k).toNat
decreasing_by omega
def mAll (s : St) (j i sw : Int) : St := mAllF (sMpm (sMsz s 0) 0) j i sw 0
def aPz (k : Int) : Int := if k = 2 then 2 else if k = 6 ∨ k = 7 then 1 else 0
def aQz (k : Int) : Int := if k = 0 then 1 else 0
def aCost (s : St) (j i sw k : Int) : Int := if aIs s j i sw k = true then aPz k + mMany s (aBy sw k j i) k + aQz k else 0
def aRest (s : St) (j i sw k : Int) : Int := if k < 8 then aCost s j i sw k + aRest s j i sw (k + 1) else 0
termination_by (8 - k).toNat
decreasing_by omega
theorem aL : ∀ k : Nat, k < 8 → ixO (tS 51) ((tS 51).getD k 0) = (k : Int) ∧ ((tS 51).getD k 0 = 109 ↔ k = 1) ∧ ((tS 51).getD k 0 = 117 ↔ k = 3) ∧ ((tS 51).getD k 0 = 104 ↔ k = 4) ∧ ((tS 51).getD k 0 = 97 ↔ k = 2) ∧ ((tS 51).getD k 0 = 113 ↔ k = 6) ∧ ((tS 51).getD k 0 = 102 ↔ k = 7) ∧ ((tS 51).getD k 0 = 115 ↔ k = 0) := by decide +kernel
/-- slots and parts alone -/
def Sq (a b : St) : Prop := msg b = msg a ∧ mfr b = mfr a ∧ mto b = mto a ∧ mlo b = mlo a
theorem Sq.many {a b : St} (h : Sq a b) (j k : Int) : mMany b j k = mMany a j k ∧ mF b j k = mF a j k ∧ mTo b j k = mTo a j k ∧ mHas b j k = mHas a j k := by
  have e1 : mF b j k = mF a j k := by unfold mF; rw [h.2.1]
  have e2 : mTo b j k = mTo a j k := by unfold mTo; rw [h.2.2.1]
  refine ⟨?_, e1, e2, ?_⟩
  · unfold mMany; rw [e1, e2]
  · unfold mHas; rw [e1]
theorem Sq.sg {a b : St} (h : Sq a b) {j k : Int} (hS : Sg a j k) : Sg b j k := by
  obtain ⟨-, e1, e2, -⟩ := h.many j k
  unfold Sg
  rw [e1, e2, h.1]
  exact hS
theorem Sq.of {a b : St} (h : Pq a b) : Sq a b := ⟨h.2.2.1, h.2.2.2.2.1, h.2.2.2.2.2.1, h.2.2.2.1⟩
theorem Sq.trans {a b c : St} (h : Sq a b) (g : Sq b c) : Sq a c := ⟨g.1.trans h.1, g.2.1.trans h.2.1, g.2.2.1.trans h.2.2.1, g.2.2.2.trans h.2.2.2⟩
/-- a good state, z signs in it -/
def Gs (a s : St) (z : Int) : Prop := Mw s ∧ Pq a s ∧ msz s = z ∧ mpm s ≤ z
theorem Gs.sign {a s : St} {z c : Int} (h : Gs a s z) (hz : z < 60) (hc : 0 ≤ c ∧ c < 65536) (h37 : c ≠ 37) : Gs a (mSign s c) (z + 1) := by
  have hs := h.1.sz
  have hz9 := h.2.2.1
  have hp := h.2.2.2
  obtain ⟨f1, f2, f3, -⟩ := mPut_f (f := one c) (e := 1) 0 (by omega) (by omega) s (one_w h37) hs.1
  exact ⟨h.1.put (one_r hc) ⟨by omega, by omega⟩ (one_w h37) (by omega) (by omega), h.2.1.trans f1, by show msz (mPut s (one c) 0 1) = z + 1; omega, by show mpm (mPut s (one c) 0 1) ≤ z + 1; omega⟩
theorem Gs.add {a s : St} {z j k : Int} (h : Gs a s z) (hj : 0 ≤ j) (hS : Sg s j k) (hz : z + mMany s j k ≤ 60) : Gs a (mAdd s j k) (z + mMany s j k) := by
  have hs := h.1.sz
  have hz9 := h.2.2.1
  have hp := h.2.2.2
  obtain ⟨s1, s2, s3, s4⟩ := id hS
  have hm : mMany s j k = mTo s j k - mF s j k := if_neg (by omega)
  obtain ⟨f1, f2, f3, -⟩ := mPut_f (f := msg s) (e := 60 * j + mTo s j k) (60 * j + mF s j k) (by omega) (by omega) s s4 hs.1
  exact ⟨h.1.put h.1.sg ⟨by omega, by omega⟩ s4 (by omega) (by omega), h.2.1.trans f1, by show msz (mPut s (msg s) _ _) = _; omega, by show mpm (mPut s (msg s) _ _) ≤ _; omega⟩
theorem aIs_c {a s : St} (h : Sq a s) (j i sw k : Int) : aIs s j i sw k = aIs a j i sw k := by unfold aIs; rw [(h.many j 5).2.2.2, (h.many (aBy sw k j i) k).2.2.2]
theorem aCost_c {a s : St} (h : Sq a s) (j i sw k : Int) : aCost s j i sw k = aCost a j i sw k := by unfold aCost; rw [aIs_c h, (h.many (aBy sw k j i) k).1]
theorem aRest_c {a s : St} (h : Sq a s) (j i sw : Int) : ∀ k : Int, k ≤ 9 → aRest s j i sw k = aRest a j i sw k := by
  refine up (fun k hk ih => ?_)
  rw [aRest.eq_def s, aRest.eq_def a]
  split
  · rw [ih (k + 1) (by omega) (by omega), aCost_c h]
  · rfl
/-- the parts of slot j and of slot i are there as they should be -/
def Sl (s : St) (j : Int) : Prop := ∀ k : Int, 0 ≤ k → k ≤ 8 → mHas s j k = true → Sg s j k
theorem Sl.c {a s : St} (h : Sq a s) {j : Int} (hS : Sl a j) : Sl s j := fun k h0 h8 hk => h.sg (hS k h0 h8 (by rw [← (h.many j k).2.2.2]; exact hk))
theorem aBy_r {sw k j i : Int} (hj : 0 ≤ j ∧ j < 4) (hi : 0 ≤ i ∧ i < 4) : 0 ≤ aBy sw k j i ∧ aBy sw k j i < 4 := by unfold aBy; split <;> omega
theorem aSg {s : St} {j i sw k : Int} (hk : 0 ≤ k ∧ k < 8) (hsw : sw ≠ 1) (hj : Sl s j) (hi : Sl s i) (h1 : mHas s j 1 = true) (h : aIs s j i sw k = true) : Sg s (aBy sw k j i) k := by
  unfold aIs at h
  split at h
  · rename_i e
    subst e
    unfold aBy
    rw [if_neg (by omega)]
    exact hj 1 (by omega) (by omega) h1
  · split at h
    · cases h
    · unfold aBy at h ⊢
      split at h
      · rename_i e; rw [if_pos e]; exact hi k hk.1 (by omega) h
      · rename_i e; rw [if_neg e]; exact hj k hk.1 (by omega) h
theorem mMany_0 {s : St} {j k : Int} (h : Sg s j k) : 0 ≤ mMany s j k := by
  obtain ⟨s1, s2, s3, s4⟩ := id h
  rw [show mMany s j k = mTo s j k - mF s j k from if_neg (by omega)]
  omega
theorem aCost_0 {s : St} {j i sw k : Int} (hk : 0 ≤ k ∧ k < 8) (hsw : sw ≠ 1) (hj : Sl s j) (hi : Sl s i) (h1 : mHas s j 1 = true) : 0 ≤ aCost s j i sw k := by
  unfold aCost
  split
  · rename_i h
    have := mMany_0 (aSg hk hsw hj hi h1 h)
    unfold aPz aQz
    repeat' split
    all_goals omega
  · omega
theorem aRest_0 {s : St} {j i sw : Int} (hsw : sw ≠ 1) (hj : Sl s j) (hi : Sl s i) (h1 : mHas s j 1 = true) : ∀ k : Int, k ≤ 9 → 0 ≤ k → 0 ≤ aRest s j i sw k := by
  refine up (fun k hk ih h0 => ?_)
  rw [aRest.eq_def]
  split
  · have := ih (k + 1) (by omega) (by omega) (by omega)
    have := aCost_0 (k := k) (by omega) hsw hj hi h1
    omega
  · omega
/-- a step of all: its states -/
theorem aPre_ok {a s : St} {z k : Int} (h : Gs a s z) (hz : z + aPz k ≤ 60) : Gs a (aPre s k) (z + aPz k) := by
  unfold aPre
  unfold aPz at hz ⊢
  by_cases h2 : k = 2
  · rw [if_pos h2, if_pos h2]
    rw [if_pos h2] at hz
    have := (h.sign (c := 47) (by omega) (by decide) (by decide)).sign (c := 47) (by omega) (by decide) (by decide)
    rw [show z + 2 = z + 1 + 1 by omega]
    exact this
  · rw [if_neg h2, if_neg h2]
    rw [if_neg h2] at hz
    by_cases h6 : k = 6
    · rw [if_pos h6, if_pos (Or.inl h6)]
      rw [if_pos (Or.inl h6)] at hz
      exact h.sign (by omega) (by decide) (by decide)
    · rw [if_neg h6]
      by_cases h7 : k = 7
      · rw [if_pos h7, if_pos (Or.inr h7)]
        rw [if_pos (Or.inr h7)] at hz
        exact h.sign (by omega) (by decide) (by decide)
      · rw [if_neg h7, if_neg (by omega), Int.add_zero]
        exact h
theorem aPost_ok {a s : St} {z k : Int} (h : Gs a s z) (hz : z + aQz k ≤ 60) : Gs a (aPost s k) (z + aQz k) := by
  unfold aPost
  unfold aQz at hz ⊢
  by_cases h0 : k = 0
  · rw [if_pos h0, if_pos h0]
    rw [if_pos h0] at hz
    exact h.sign (by omega) (by decide) (by decide)
  · rw [if_neg h0, if_neg h0, Int.add_zero]
    exact h
theorem aStep_ok {a s : St} {z j i sw k : Int} (hk : 0 ≤ k ∧ k < 8) (hj4 : 0 ≤ j ∧ j < 4) (hi4 : 0 ≤ i ∧ i < 4) (hsw : sw ≠ 1) (hj : Sl a j) (hi : Sl a i) (h1 : mHas a j 1 = true) (h : Gs a s z) (hz : z + aCost a j i sw k ≤ 60) : Gs a (aStep s j i sw k) (z + aCost a j i sw k) := by
  have hq := Sq.of h.2.1
  unfold aStep
  rw [aIs_c hq]
  unfold aCost at hz ⊢
  by_cases his : aIs a j i sw k = true
  · rw [if_pos his, if_pos his]
    rw [if_pos his] at hz
    have hS := aSg hk hsw hj hi h1 his
    have hm := mMany_0 hS
    have hQ : 0 ≤ aQz k := by unfold aQz; split <;> omega
    have hP := aPre_ok (k := k) h (by omega)
    have hq2 := Sq.of hP.2.1
    have e := (hq2.many (aBy sw k j i) k).1
    have hA := hP.add (aBy_r hj4 hi4).1 (hq2.sg hS) (by rw [e]; omega)
    rw [e] at hA
    rw [show z + (aPz k + mMany a (aBy sw k j i) k + aQz k) = z + aPz k + mMany a (aBy sw k j i) k + aQz k by omega]
    exact aPost_ok (k := k) hA (by omega)
  · rw [if_neg his, if_neg his, Int.add_zero]
    exact h
section X5
variable {γ : Gm} {σ : St} {xs : va_W}
set_option maxRecDepth 100000 in
set_option maxHeartbeats 4000000 in
theorem all_0 (hG : Full γ) (hM : Mw σ) {j i c sw : Int} (hj : 0 ≤ j ∧ j < 4) (hi : 0 ≤ i ∧ i < 4) (hc : 0 ≤ c ∧ c < 65536) (hsw : ∀ k : Nat, k < 8 → ((tS 51).getD k 0 = c ↔ (k : Int) = sw)) (hs1 : sw ≠ 1) (hSj : Sl σ j) (hSi : Sl σ i) (h1 : mHas σ j 1 = true) {s : St} {z : Int} {Q : Option Value → St → va_W → Prop} (h : Gs σ s z) (hz : z + aCost σ j i sw 0 ≤ 60) (next : RW γ mX5_all 7 5 5 Q nX 1 1 13 [some (.ref (ga γ 8 0)), some (.int (zI (j))), some (.int (zI (i))), some (.int (zI (c))), some (.int (zI (1))), none, none, none] [] (aStep s j i sw 0) xs) : RW γ mX5_all 7 5 5 Q nX 0 0 13 [some (.ref (ga γ 8 0)), some (.int (zI (j))), some (.int (zI (i))), some (.int (zI (c))), some (.int (zI (0))), none, none, none] [] (s) xs := by
  have hq9 : ((115 : Int) = c ↔ (0 : Int) = sw) := hsw 0 (by decide)
  have hby := aBy_r (sw := sw) (k := 0) hj hi
  have hz0 := h.2.2.1
  have hzs := h.1.sz
  have hq := Sq.of h.2.1
  have J97t : aIs s j i sw 0 = true → RW γ mX5_all 7 5 5 Q nX 0 0 97 [some (.ref (ga γ 8 0)), some (.int (zI (j))), some (.int (zI (i))), some (.int (zI (c))), some (.int (zI (0))), some (.int (zI (115))), some (.int (zI (aBy sw 0 j i))), none] [.int (zI (1))] (s) xs := by
    intro hw
    have his : aIs σ j i sw 0 = true := by rw [← aIs_c hq, hw]
    have hS := aSg ⟨by decide, by decide⟩ hs1 hSj hSi h1 his
    have hm0 := mMany_0 hS
    have hco : aCost σ j i sw 0 = 0 + mMany σ (aBy sw 0 j i) 0 + 1 := if_pos his
    have hP := aPre_ok (k := 0) h (by show z + 0 ≤ 60; omega)
    have e9 : aPre s 0 = s := by unfold aPre; rw [if_neg (by decide), if_neg (by decide), if_neg (by decide)]
    rw [e9] at hP
    have hP : Gs σ (s) (z + 0) := hP
    have hq2 := Sq.of hP.2.1
    have e2 := (hq2.many (aBy sw 0 j i) 0).1
    have hA := hP.add hby.1 (hq2.sg hS) (by rw [e2]; omega)
    rw [e2] at hA
    have eS : aStep s j i sw 0 = mSign (mAdd s (aBy sw 0 j i) 0) 58 := by
      unfold aStep
      rw [if_pos hw, e9]
      unfold aPost
      rw [if_pos rfl]
    rw [eS] at next
    refine r_istore (q := 99) dX5_all_97 rfl (by decide) (Lst.setL rfl rfl) ?_
    refine r_iload (q := 101) dX5_all_99 rfl rfl ?_
    refine r_if_ne (q := 104) (tgt := 107) dX5_all_101 rfl (by decide) (by omega) (fun _ => ?_) (fun z => by exfalso; omega)
    refine r_iload (q := 109) dX5_all_107 rfl rfl ?_
    refine r_bipush (q := 111) dX5_all_109 rfl (bip (by decide) (by decide)) ?_
    refine r_icmp_ne (q := 114) (tgt := 120) dX5_all_111 rfl (by decide) (by omega) (by omega) (fun _ => ?_) (fun z => by exfalso; omega)
    refine r_iload (q := 122) dX5_all_120 rfl rfl ?_
    refine r_bipush (q := 124) dX5_all_122 rfl (bip (by decide) (by decide)) ?_
    refine r_icmp_ne (q := 127) (tgt := 133) dX5_all_124 rfl (by decide) (by omega) (by omega) (fun _ => ?_) (fun z => by exfalso; omega)
    refine r_iload (q := 135) dX5_all_133 rfl rfl ?_
    refine r_bipush (q := 137) dX5_all_135 rfl (bip (by decide) (by decide)) ?_
    refine r_icmp_ne (q := 140) (tgt := 146) dX5_all_137 rfl (by decide) (by omega) (by omega) (fun _ => ?_) (fun z => by exfalso; omega)
    refine r_iload (q := 148) dX5_all_146 rfl rfl ?_
    refine r_bipush (q := 150) dX5_all_148 rfl (bip (by decide) (by decide)) ?_
    refine r_icmp_ne (q := 153) (tgt := 159) dX5_all_150 rfl (by decide) (by omega) (by omega) (fun _ => ?_) (fun z => by exfalso; omega)
    refine r_aload_n (q := 160) dX5_all_159 rfl rfl ?_
    refine r_iload (q := 162) dX5_all_160 rfl rfl ?_
    refine r_iload (q := 164) dX5_all_162 rfl rfl ?_
    refine cX5_2v (My := mX5_add) (q := 167) dX5_all_164 rfl kX5_171 vX5_add (hG _ _ rfl) rfl (m_add hG hP.1 hby (by decide) (k := 0) rfl (by decide) (hq2.sg hS) (by have := hP.2.2.1; rw [e2]; omega) (by have := hP.2.2.1; have := hP.2.2.2; omega)) ⟨by decide, by decide⟩ ⟨by decide, by decide⟩ (Nat.le_of_ble_eq_true rfl) ?_
    refine r_iload (q := 169) dX5_all_167 rfl rfl ?_
    refine r_bipush (q := 171) dX5_all_169 rfl (bip (by decide) (by decide)) ?_
    refine r_icmp_ne (q := 174) (tgt := 180) dX5_all_171 rfl (by decide) (by omega) (by omega) (fun z => by exfalso; omega) (fun _ => ?_)
    refine r_aload_n (q := 175) dX5_all_174 rfl rfl ?_
    refine r_bipush (q := 177) dX5_all_175 rfl (bip (by decide) (by decide)) ?_
    refine cX5_1v (My := mX5_sign) (q := 180) dX5_all_177 rfl kX5_178 vX5_sign (hG _ _ rfl) rfl (m_sign hG hA.1 (by decide) (by decide) (by have := hA.2.2.1; omega) (by have := hA.2.2.2; omega)) ⟨by decide, by decide⟩ ⟨by decide, by decide⟩ (Nat.le_of_ble_eq_true rfl) ?_
    refine r_iinc (q := 183) dX5_all_180 rfl rfl (by decide) (Lst.setL rfl rfl) ?_
    refine r_goto (q := 13) dX5_all_183 (by decide) ?_
    refine RW.drop 5 (RW.drop 6 (RW.drop 7 ?_))
    exact next
  have J97f : aIs s j i sw 0 = false → RW γ mX5_all 7 5 5 Q nX 0 0 97 [some (.ref (ga γ 8 0)), some (.int (zI (j))), some (.int (zI (i))), some (.int (zI (c))), some (.int (zI (0))), some (.int (zI (115))), some (.int (zI (aBy sw 0 j i))), none] [.int (zI (0))] (s) xs := by
    intro hw
    have eS : aStep s j i sw 0 = s := if_neg (by rw [hw]; decide)
    rw [eS] at next
    refine r_istore (q := 99) dX5_all_97 rfl (by decide) (Lst.setL rfl rfl) ?_
    refine r_iload (q := 101) dX5_all_99 rfl rfl ?_
    refine r_if_ne (q := 104) (tgt := 107) dX5_all_101 rfl (by decide) (by omega) (fun z => by exfalso; omega) (fun _ => ?_)
    refine r_goto (q := 180) dX5_all_104 (by decide) ?_
    refine r_iinc (q := 183) dX5_all_180 rfl rfl (by decide) (Lst.setL rfl rfl) ?_
    refine r_goto (q := 13) dX5_all_183 (by decide) ?_
    refine RW.drop 5 (RW.drop 6 (RW.drop 7 ?_))
    exact RW.wid 1 1 (by decide) (by decide) next
  have J40 : RW γ mX5_all 7 5 5 Q nX 0 0 40 [some (.ref (ga γ 8 0)), some (.int (zI (j))), some (.int (zI (i))), some (.int (zI (c))), some (.int (zI (0))), some (.int (zI (115))), none, none] [.int (zI (aBy sw 0 j i))] (s) xs := by
    refine r_istore (q := 42) dX5_all_40 rfl (by decide) (Lst.setL rfl rfl) ?_
    refine r_iload (q := 44) dX5_all_42 rfl rfl ?_
    refine r_bipush (q := 46) dX5_all_44 rfl (bip (by decide) (by decide)) ?_
    refine r_icmp_ne (q := 49) (tgt := 67) dX5_all_46 rfl (by decide) (by omega) (by omega) (fun _ => ?_) (fun z => by exfalso; omega)
    refine r_iload (q := 69) dX5_all_67 rfl rfl ?_
    refine r_bipush (q := 71) dX5_all_69 rfl (bip (by decide) (by decide)) ?_
    refine r_icmp_eq (q := 74) (tgt := 96) dX5_all_71 rfl (by decide) (by omega) (by omega) (fun z => by exfalso; omega) (fun _ => ?_)
    refine r_iload (q := 76) dX5_all_74 rfl rfl ?_
    refine r_bipush (q := 78) dX5_all_76 rfl (bip (by decide) (by decide)) ?_
    refine r_icmp_eq (q := 81) (tgt := 96) dX5_all_78 rfl (by decide) (by omega) (by omega) (fun z => by exfalso; omega) (fun _ => ?_)
    refine r_aload_n (q := 82) dX5_all_81 rfl rfl ?_
    refine r_iload (q := 84) dX5_all_82 rfl rfl ?_
    refine r_iload (q := 86) dX5_all_84 rfl rfl ?_
    refine cX5_2 (My := mX5_has) (q := 89) dX5_all_86 rfl kX5_160 vX5_has (hG _ _ rfl) rfl (m_has hG h.1 hby (by decide) (k := 0) rfl (by decide)) ⟨by decide, by decide⟩ ⟨by decide, by decide⟩ (Nat.le_of_ble_eq_true rfl) ?_
    refine r_ifB_eq (q := 92) (tgt := 96) dX5_all_89 rfl (by decide) (fun h89 => ?_) (fun h89 => ?_)
    · refine r_iconst (q := 97) dX5_all_96 rfl ?_
      first
        | exact J97t (by unfold aIs; rw [if_neg (by decide), if_neg (by decide)]; exact h89)
        | exact J97f (by unfold aIs; rw [if_neg (by decide), if_neg (by decide)]; exact h89)
    · refine r_iconst (q := 93) dX5_all_92 rfl ?_
      refine r_goto (q := 97) dX5_all_93 (by decide) ?_
      first
        | exact J97t (by unfold aIs; rw [if_neg (by decide), if_neg (by decide)]; exact h89)
        | exact J97f (by unfold aIs; rw [if_neg (by decide), if_neg (by decide)]; exact h89)
  refine r_iload (q := 15) dX5_all_13 rfl rfl ?_
  refine r_bipush (q := 17) dX5_all_15 rfl (bip (by decide) (by decide)) ?_
  refine r_icmp_ge (q := 20) (tgt := 186) dX5_all_17 rfl (by decide) (by omega) (by omega) (fun z => by exfalso; omega) (fun _ => ?_)
  refine r_ldcS (i := 51) (tx := "smauhpqfw") (q := 22) dX5_all_20 rfl (List.mem_of_getElem? (i := 66) rfl) ?_
  refine r_iload (q := 24) dX5_all_22 rfl rfl ?_
  refine cT_1 (My := mJ0_charAt_5068e) (q := 27) dX5_all_24 rfl kX5_79 vJ0_charAt_5068e (by decide) rfl (j_charAt (by decide) (by decide)) ⟨by decide, by decide⟩ ⟨by decide, by decide⟩ (Nat.le_of_ble_eq_true rfl) ?_
  refine RW.cast rfl (show _ = [Value.int (zI (115))] from rfl) ?_
  refine r_istore (q := 29) dX5_all_27 rfl (by decide) (Lst.setL rfl rfl) ?_
  refine r_iload (q := 31) dX5_all_29 rfl rfl ?_
  refine r_iload_n (q := 32) dX5_all_31 rfl rfl ?_
  refine r_icmp_ne (q := 35) (tgt := 39) dX5_all_32 rfl (by decide) (by omega) (by omega) (fun h32 => ?_) (fun h32 => ?_)
  · refine r_iload_n (q := 40) dX5_all_39 rfl rfl ?_
    first
      | (rw [show aBy sw 0 j i = i from if_pos (hq9.mp h32)] at J40; exact J40)
      | (rw [show aBy sw 0 j i = j from if_neg (fun z => h32 (hq9.mpr z))] at J40; exact J40)
  · refine r_iload_n (q := 36) dX5_all_35 rfl rfl ?_
    refine r_goto (q := 40) dX5_all_36 (by decide) ?_
    first
      | (rw [show aBy sw 0 j i = i from if_pos (hq9.mp h32)] at J40; exact J40)
      | (rw [show aBy sw 0 j i = j from if_neg (fun z => h32 (hq9.mpr z))] at J40; exact J40)
set_option maxRecDepth 100000 in
set_option maxHeartbeats 4000000 in
theorem all_1 (hG : Full γ) (hM : Mw σ) {j i c sw : Int} (hj : 0 ≤ j ∧ j < 4) (hi : 0 ≤ i ∧ i < 4) (hc : 0 ≤ c ∧ c < 65536) (hsw : ∀ k : Nat, k < 8 → ((tS 51).getD k 0 = c ↔ (k : Int) = sw)) (hs1 : sw ≠ 1) (hSj : Sl σ j) (hSi : Sl σ i) (h1 : mHas σ j 1 = true) {s : St} {z : Int} {Q : Option Value → St → va_W → Prop} (h : Gs σ s z) (hz : z + aCost σ j i sw 1 ≤ 60) (next : RW γ mX5_all 7 5 5 Q nX 1 1 13 [some (.ref (ga γ 8 0)), some (.int (zI (j))), some (.int (zI (i))), some (.int (zI (c))), some (.int (zI (2))), none, none, none] [] (aStep s j i sw 1) xs) : RW γ mX5_all 7 5 5 Q nX 1 1 13 [some (.ref (ga γ 8 0)), some (.int (zI (j))), some (.int (zI (i))), some (.int (zI (c))), some (.int (zI (1))), none, none, none] [] (s) xs := by
  have hq9 : ((109 : Int) = c ↔ (1 : Int) = sw) := hsw 1 (by decide)
  have hby := aBy_r (sw := sw) (k := 1) hj hi
  have hz0 := h.2.2.1
  have hzs := h.1.sz
  have hq := Sq.of h.2.1
  have J97t : aIs s j i sw 1 = true → RW γ mX5_all 7 5 5 Q nX 1 1 97 [some (.ref (ga γ 8 0)), some (.int (zI (j))), some (.int (zI (i))), some (.int (zI (c))), some (.int (zI (1))), some (.int (zI (109))), some (.int (zI (aBy sw 1 j i))), none] [.int (zI (1))] (s) xs := by
    intro hw
    have his : aIs σ j i sw 1 = true := by rw [← aIs_c hq, hw]
    have hS := aSg ⟨by decide, by decide⟩ hs1 hSj hSi h1 his
    have hm0 := mMany_0 hS
    have hco : aCost σ j i sw 1 = 0 + mMany σ (aBy sw 1 j i) 1 + 0 := if_pos his
    have hP := aPre_ok (k := 1) h (by show z + 0 ≤ 60; omega)
    have e9 : aPre s 1 = s := by unfold aPre; rw [if_neg (by decide), if_neg (by decide), if_neg (by decide)]
    rw [e9] at hP
    have hP : Gs σ (s) (z + 0) := hP
    have hq2 := Sq.of hP.2.1
    have e2 := (hq2.many (aBy sw 1 j i) 1).1
    have hA := hP.add hby.1 (hq2.sg hS) (by rw [e2]; omega)
    rw [e2] at hA
    have eS : aStep s j i sw 1 = mAdd (s) (aBy sw 1 j i) 1 := by
      unfold aStep
      rw [if_pos hw, e9]
      unfold aPost
      rw [if_neg (by decide)]
    rw [eS] at next
    refine r_istore (q := 99) dX5_all_97 rfl (by decide) (Lst.setL rfl rfl) ?_
    refine r_iload (q := 101) dX5_all_99 rfl rfl ?_
    refine r_if_ne (q := 104) (tgt := 107) dX5_all_101 rfl (by decide) (by omega) (fun _ => ?_) (fun z => by exfalso; omega)
    refine r_iload (q := 109) dX5_all_107 rfl rfl ?_
    refine r_bipush (q := 111) dX5_all_109 rfl (bip (by decide) (by decide)) ?_
    refine r_icmp_ne (q := 114) (tgt := 120) dX5_all_111 rfl (by decide) (by omega) (by omega) (fun _ => ?_) (fun z => by exfalso; omega)
    refine r_iload (q := 122) dX5_all_120 rfl rfl ?_
    refine r_bipush (q := 124) dX5_all_122 rfl (bip (by decide) (by decide)) ?_
    refine r_icmp_ne (q := 127) (tgt := 133) dX5_all_124 rfl (by decide) (by omega) (by omega) (fun _ => ?_) (fun z => by exfalso; omega)
    refine r_iload (q := 135) dX5_all_133 rfl rfl ?_
    refine r_bipush (q := 137) dX5_all_135 rfl (bip (by decide) (by decide)) ?_
    refine r_icmp_ne (q := 140) (tgt := 146) dX5_all_137 rfl (by decide) (by omega) (by omega) (fun _ => ?_) (fun z => by exfalso; omega)
    refine r_iload (q := 148) dX5_all_146 rfl rfl ?_
    refine r_bipush (q := 150) dX5_all_148 rfl (bip (by decide) (by decide)) ?_
    refine r_icmp_ne (q := 153) (tgt := 159) dX5_all_150 rfl (by decide) (by omega) (by omega) (fun _ => ?_) (fun z => by exfalso; omega)
    refine r_aload_n (q := 160) dX5_all_159 rfl rfl ?_
    refine r_iload (q := 162) dX5_all_160 rfl rfl ?_
    refine r_iload (q := 164) dX5_all_162 rfl rfl ?_
    refine cX5_2v (My := mX5_add) (q := 167) dX5_all_164 rfl kX5_171 vX5_add (hG _ _ rfl) rfl (m_add hG hP.1 hby (by decide) (k := 1) rfl (by decide) (hq2.sg hS) (by have := hP.2.2.1; rw [e2]; omega) (by have := hP.2.2.1; have := hP.2.2.2; omega)) ⟨by decide, by decide⟩ ⟨by decide, by decide⟩ (Nat.le_of_ble_eq_true rfl) ?_
    refine r_iload (q := 169) dX5_all_167 rfl rfl ?_
    refine r_bipush (q := 171) dX5_all_169 rfl (bip (by decide) (by decide)) ?_
    refine r_icmp_ne (q := 174) (tgt := 180) dX5_all_171 rfl (by decide) (by omega) (by omega) (fun _ => ?_) (fun z => by exfalso; omega)
    refine r_iinc (q := 183) dX5_all_180 rfl rfl (by decide) (Lst.setL rfl rfl) ?_
    refine r_goto (q := 13) dX5_all_183 (by decide) ?_
    refine RW.drop 5 (RW.drop 6 (RW.drop 7 ?_))
    exact next
  have J97f : aIs s j i sw 1 = false → RW γ mX5_all 7 5 5 Q nX 1 1 97 [some (.ref (ga γ 8 0)), some (.int (zI (j))), some (.int (zI (i))), some (.int (zI (c))), some (.int (zI (1))), some (.int (zI (109))), some (.int (zI (aBy sw 1 j i))), none] [.int (zI (0))] (s) xs := by
    intro hw
    have eS : aStep s j i sw 1 = s := if_neg (by rw [hw]; decide)
    rw [eS] at next
    refine r_istore (q := 99) dX5_all_97 rfl (by decide) (Lst.setL rfl rfl) ?_
    refine r_iload (q := 101) dX5_all_99 rfl rfl ?_
    refine r_if_ne (q := 104) (tgt := 107) dX5_all_101 rfl (by decide) (by omega) (fun z => by exfalso; omega) (fun _ => ?_)
    refine r_goto (q := 180) dX5_all_104 (by decide) ?_
    refine r_iinc (q := 183) dX5_all_180 rfl rfl (by decide) (Lst.setL rfl rfl) ?_
    refine r_goto (q := 13) dX5_all_183 (by decide) ?_
    refine RW.drop 5 (RW.drop 6 (RW.drop 7 ?_))
    exact RW.wid 1 1 (by decide) (by decide) next
  have J40 : RW γ mX5_all 7 5 5 Q nX 1 1 40 [some (.ref (ga γ 8 0)), some (.int (zI (j))), some (.int (zI (i))), some (.int (zI (c))), some (.int (zI (1))), some (.int (zI (109))), none, none] [.int (zI (aBy sw 1 j i))] (s) xs := by
    refine r_istore (q := 42) dX5_all_40 rfl (by decide) (Lst.setL rfl rfl) ?_
    refine r_iload (q := 44) dX5_all_42 rfl rfl ?_
    refine r_bipush (q := 46) dX5_all_44 rfl (bip (by decide) (by decide)) ?_
    refine r_icmp_ne (q := 49) (tgt := 67) dX5_all_46 rfl (by decide) (by omega) (by omega) (fun z => by exfalso; omega) (fun _ => ?_)
    refine r_aload_n (q := 50) dX5_all_49 rfl rfl ?_
    refine r_iload_n (q := 51) dX5_all_50 rfl rfl ?_
    refine r_bipush (q := 53) dX5_all_51 rfl (bip (by decide) (by decide)) ?_
    refine cX5_2 (My := mX5_has) (q := 56) dX5_all_53 rfl kX5_160 vX5_has (hG _ _ rfl) rfl (m_has hG h.1 hj (by decide) (k := 5) rfl (by decide)) ⟨by decide, by decide⟩ ⟨by decide, by decide⟩ (Nat.le_of_ble_eq_true rfl) ?_
    refine r_ifB_ne (q := 59) (tgt := 63) dX5_all_56 rfl (by decide) (fun h56 => ?_) (fun h56 => ?_)
    · refine r_iconst (q := 64) dX5_all_63 rfl ?_
      refine r_goto (q := 97) dX5_all_64 (by decide) ?_
      first
        | exact J97t (by unfold aIs; rw [if_pos rfl, h56]; rfl)
        | exact J97f (by unfold aIs; rw [if_pos rfl, h56]; rfl)
    · refine r_iconst (q := 60) dX5_all_59 rfl ?_
      refine r_goto (q := 97) dX5_all_60 (by decide) ?_
      first
        | exact J97t (by unfold aIs; rw [if_pos rfl, h56]; rfl)
        | exact J97f (by unfold aIs; rw [if_pos rfl, h56]; rfl)
  refine r_iload (q := 15) dX5_all_13 rfl rfl ?_
  refine r_bipush (q := 17) dX5_all_15 rfl (bip (by decide) (by decide)) ?_
  refine r_icmp_ge (q := 20) (tgt := 186) dX5_all_17 rfl (by decide) (by omega) (by omega) (fun z => by exfalso; omega) (fun _ => ?_)
  refine r_ldcS (i := 51) (tx := "smauhpqfw") (q := 22) dX5_all_20 rfl (List.mem_of_getElem? (i := 66) rfl) ?_
  refine r_iload (q := 24) dX5_all_22 rfl rfl ?_
  refine cT_1 (My := mJ0_charAt_5068e) (q := 27) dX5_all_24 rfl kX5_79 vJ0_charAt_5068e (by decide) rfl (j_charAt (by decide) (by decide)) ⟨by decide, by decide⟩ ⟨by decide, by decide⟩ (Nat.le_of_ble_eq_true rfl) ?_
  refine RW.cast rfl (show _ = [Value.int (zI (109))] from rfl) ?_
  refine r_istore (q := 29) dX5_all_27 rfl (by decide) (Lst.setL rfl rfl) ?_
  refine r_iload (q := 31) dX5_all_29 rfl rfl ?_
  refine r_iload_n (q := 32) dX5_all_31 rfl rfl ?_
  refine r_icmp_ne (q := 35) (tgt := 39) dX5_all_32 rfl (by decide) (by omega) (by omega) (fun h32 => ?_) (fun h32 => ?_)
  · refine r_iload_n (q := 40) dX5_all_39 rfl rfl ?_
    first
      | (rw [show aBy sw 1 j i = i from if_pos (hq9.mp h32)] at J40; exact J40)
      | (rw [show aBy sw 1 j i = j from if_neg (fun z => h32 (hq9.mpr z))] at J40; exact J40)
  · refine r_iload_n (q := 36) dX5_all_35 rfl rfl ?_
    refine r_goto (q := 40) dX5_all_36 (by decide) ?_
    first
      | (rw [show aBy sw 1 j i = i from if_pos (hq9.mp h32)] at J40; exact J40)
      | (rw [show aBy sw 1 j i = j from if_neg (fun z => h32 (hq9.mpr z))] at J40; exact J40)
set_option maxRecDepth 100000 in
set_option maxHeartbeats 4000000 in
theorem all_2 (hG : Full γ) (hM : Mw σ) {j i c sw : Int} (hj : 0 ≤ j ∧ j < 4) (hi : 0 ≤ i ∧ i < 4) (hc : 0 ≤ c ∧ c < 65536) (hsw : ∀ k : Nat, k < 8 → ((tS 51).getD k 0 = c ↔ (k : Int) = sw)) (hs1 : sw ≠ 1) (hSj : Sl σ j) (hSi : Sl σ i) (h1 : mHas σ j 1 = true) {s : St} {z : Int} {Q : Option Value → St → va_W → Prop} (h : Gs σ s z) (hz : z + aCost σ j i sw 2 ≤ 60) (next : RW γ mX5_all 7 5 5 Q nX 3 3 13 [some (.ref (ga γ 8 0)), some (.int (zI (j))), some (.int (zI (i))), some (.int (zI (c))), some (.int (zI (3))), none, none, none] [] (aStep s j i sw 2) xs) : RW γ mX5_all 7 5 5 Q nX 1 1 13 [some (.ref (ga γ 8 0)), some (.int (zI (j))), some (.int (zI (i))), some (.int (zI (c))), some (.int (zI (2))), none, none, none] [] (s) xs := by
  have hq9 : ((97 : Int) = c ↔ (2 : Int) = sw) := hsw 2 (by decide)
  have hby := aBy_r (sw := sw) (k := 2) hj hi
  have hz0 := h.2.2.1
  have hzs := h.1.sz
  have hq := Sq.of h.2.1
  have J97t : aIs s j i sw 2 = true → RW γ mX5_all 7 5 5 Q nX 1 1 97 [some (.ref (ga γ 8 0)), some (.int (zI (j))), some (.int (zI (i))), some (.int (zI (c))), some (.int (zI (2))), some (.int (zI (97))), some (.int (zI (aBy sw 2 j i))), none] [.int (zI (1))] (s) xs := by
    intro hw
    have his : aIs σ j i sw 2 = true := by rw [← aIs_c hq, hw]
    have hS := aSg ⟨by decide, by decide⟩ hs1 hSj hSi h1 his
    have hm0 := mMany_0 hS
    have hco : aCost σ j i sw 2 = 2 + mMany σ (aBy sw 2 j i) 2 + 0 := if_pos his
    have hP := aPre_ok (k := 2) h (by show z + 2 ≤ 60; omega)
    have e9 : aPre s 2 = mSign (mSign s 47) 47 := if_pos rfl
    rw [e9] at hP
    have hP : Gs σ (mSign (mSign s 47) 47) (z + 2) := hP
    have hq2 := Sq.of hP.2.1
    have e2 := (hq2.many (aBy sw 2 j i) 2).1
    have hA := hP.add hby.1 (hq2.sg hS) (by rw [e2]; omega)
    rw [e2] at hA
    have eS : aStep s j i sw 2 = mAdd (mSign (mSign s 47) 47) (aBy sw 2 j i) 2 := by
      unfold aStep
      rw [if_pos hw, e9]
      unfold aPost
      rw [if_neg (by decide)]
    rw [eS] at next
    have h47 := h.sign (c := 47) (by omega) (by decide) (by decide)
    refine r_istore (q := 99) dX5_all_97 rfl (by decide) (Lst.setL rfl rfl) ?_
    refine r_iload (q := 101) dX5_all_99 rfl rfl ?_
    refine r_if_ne (q := 104) (tgt := 107) dX5_all_101 rfl (by decide) (by omega) (fun _ => ?_) (fun z => by exfalso; omega)
    refine r_iload (q := 109) dX5_all_107 rfl rfl ?_
    refine r_bipush (q := 111) dX5_all_109 rfl (bip (by decide) (by decide)) ?_
    refine r_icmp_ne (q := 114) (tgt := 120) dX5_all_111 rfl (by decide) (by omega) (by omega) (fun z => by exfalso; omega) (fun _ => ?_)
    refine r_aload_n (q := 115) dX5_all_114 rfl rfl ?_
    refine r_bipush (q := 117) dX5_all_115 rfl (bip (by decide) (by decide)) ?_
    refine cX5_1v (My := mX5_sign) (q := 120) dX5_all_117 rfl kX5_178 vX5_sign (hG _ _ rfl) rfl (m_sign hG h.1 (by decide) (by decide) (by have := h.2.2.1; omega) (by have := h.2.2.2; omega)) ⟨by decide, by decide⟩ ⟨by decide, by decide⟩ (Nat.le_of_ble_eq_true rfl) ?_
    refine r_iload (q := 122) dX5_all_120 rfl rfl ?_
    refine r_bipush (q := 124) dX5_all_122 rfl (bip (by decide) (by decide)) ?_
    refine r_icmp_ne (q := 127) (tgt := 133) dX5_all_124 rfl (by decide) (by omega) (by omega) (fun z => by exfalso; omega) (fun _ => ?_)
    refine r_aload_n (q := 128) dX5_all_127 rfl rfl ?_
    refine r_bipush (q := 130) dX5_all_128 rfl (bip (by decide) (by decide)) ?_
    refine cX5_1v (My := mX5_sign) (q := 133) dX5_all_130 rfl kX5_178 vX5_sign (hG _ _ rfl) rfl (m_sign hG h47.1 (by decide) (by decide) (by have := h47.2.2.1; omega) (by have := h47.2.2.2; omega)) ⟨by decide, by decide⟩ ⟨by decide, by decide⟩ (Nat.le_of_ble_eq_true rfl) ?_
    refine r_iload (q := 135) dX5_all_133 rfl rfl ?_
    refine r_bipush (q := 137) dX5_all_135 rfl (bip (by decide) (by decide)) ?_
    refine r_icmp_ne (q := 140) (tgt := 146) dX5_all_137 rfl (by decide) (by omega) (by omega) (fun _ => ?_) (fun z => by exfalso; omega)
    refine r_iload (q := 148) dX5_all_146 rfl rfl ?_
    refine r_bipush (q := 150) dX5_all_148 rfl (bip (by decide) (by decide)) ?_
    refine r_icmp_ne (q := 153) (tgt := 159) dX5_all_150 rfl (by decide) (by omega) (by omega) (fun _ => ?_) (fun z => by exfalso; omega)
    refine r_aload_n (q := 160) dX5_all_159 rfl rfl ?_
    refine r_iload (q := 162) dX5_all_160 rfl rfl ?_
    refine r_iload (q := 164) dX5_all_162 rfl rfl ?_
    refine cX5_2v (My := mX5_add) (q := 167) dX5_all_164 rfl kX5_171 vX5_add (hG _ _ rfl) rfl (m_add hG hP.1 hby (by decide) (k := 2) rfl (by decide) (hq2.sg hS) (by have := hP.2.2.1; rw [e2]; omega) (by have := hP.2.2.1; have := hP.2.2.2; omega)) ⟨by decide, by decide⟩ ⟨by decide, by decide⟩ (Nat.le_of_ble_eq_true rfl) ?_
    refine r_iload (q := 169) dX5_all_167 rfl rfl ?_
    refine r_bipush (q := 171) dX5_all_169 rfl (bip (by decide) (by decide)) ?_
    refine r_icmp_ne (q := 174) (tgt := 180) dX5_all_171 rfl (by decide) (by omega) (by omega) (fun _ => ?_) (fun z => by exfalso; omega)
    refine r_iinc (q := 183) dX5_all_180 rfl rfl (by decide) (Lst.setL rfl rfl) ?_
    refine r_goto (q := 13) dX5_all_183 (by decide) ?_
    refine RW.drop 5 (RW.drop 6 (RW.drop 7 ?_))
    exact next
  have J97f : aIs s j i sw 2 = false → RW γ mX5_all 7 5 5 Q nX 1 1 97 [some (.ref (ga γ 8 0)), some (.int (zI (j))), some (.int (zI (i))), some (.int (zI (c))), some (.int (zI (2))), some (.int (zI (97))), some (.int (zI (aBy sw 2 j i))), none] [.int (zI (0))] (s) xs := by
    intro hw
    have eS : aStep s j i sw 2 = s := if_neg (by rw [hw]; decide)
    rw [eS] at next
    refine r_istore (q := 99) dX5_all_97 rfl (by decide) (Lst.setL rfl rfl) ?_
    refine r_iload (q := 101) dX5_all_99 rfl rfl ?_
    refine r_if_ne (q := 104) (tgt := 107) dX5_all_101 rfl (by decide) (by omega) (fun z => by exfalso; omega) (fun _ => ?_)
    refine r_goto (q := 180) dX5_all_104 (by decide) ?_
    refine r_iinc (q := 183) dX5_all_180 rfl rfl (by decide) (Lst.setL rfl rfl) ?_
    refine r_goto (q := 13) dX5_all_183 (by decide) ?_
    refine RW.drop 5 (RW.drop 6 (RW.drop 7 ?_))
    exact RW.wid 3 3 (by decide) (by decide) next
  have J40 : RW γ mX5_all 7 5 5 Q nX 1 1 40 [some (.ref (ga γ 8 0)), some (.int (zI (j))), some (.int (zI (i))), some (.int (zI (c))), some (.int (zI (2))), some (.int (zI (97))), none, none] [.int (zI (aBy sw 2 j i))] (s) xs := by
    refine r_istore (q := 42) dX5_all_40 rfl (by decide) (Lst.setL rfl rfl) ?_
    refine r_iload (q := 44) dX5_all_42 rfl rfl ?_
    refine r_bipush (q := 46) dX5_all_44 rfl (bip (by decide) (by decide)) ?_
    refine r_icmp_ne (q := 49) (tgt := 67) dX5_all_46 rfl (by decide) (by omega) (by omega) (fun _ => ?_) (fun z => by exfalso; omega)
    refine r_iload (q := 69) dX5_all_67 rfl rfl ?_
    refine r_bipush (q := 71) dX5_all_69 rfl (bip (by decide) (by decide)) ?_
    refine r_icmp_eq (q := 74) (tgt := 96) dX5_all_71 rfl (by decide) (by omega) (by omega) (fun z => by exfalso; omega) (fun _ => ?_)
    refine r_iload (q := 76) dX5_all_74 rfl rfl ?_
    refine r_bipush (q := 78) dX5_all_76 rfl (bip (by decide) (by decide)) ?_
    refine r_icmp_eq (q := 81) (tgt := 96) dX5_all_78 rfl (by decide) (by omega) (by omega) (fun z => by exfalso; omega) (fun _ => ?_)
    refine r_aload_n (q := 82) dX5_all_81 rfl rfl ?_
    refine r_iload (q := 84) dX5_all_82 rfl rfl ?_
    refine r_iload (q := 86) dX5_all_84 rfl rfl ?_
    refine cX5_2 (My := mX5_has) (q := 89) dX5_all_86 rfl kX5_160 vX5_has (hG _ _ rfl) rfl (m_has hG h.1 hby (by decide) (k := 2) rfl (by decide)) ⟨by decide, by decide⟩ ⟨by decide, by decide⟩ (Nat.le_of_ble_eq_true rfl) ?_
    refine r_ifB_eq (q := 92) (tgt := 96) dX5_all_89 rfl (by decide) (fun h89 => ?_) (fun h89 => ?_)
    · refine r_iconst (q := 97) dX5_all_96 rfl ?_
      first
        | exact J97t (by unfold aIs; rw [if_neg (by decide), if_neg (by decide)]; exact h89)
        | exact J97f (by unfold aIs; rw [if_neg (by decide), if_neg (by decide)]; exact h89)
    · refine r_iconst (q := 93) dX5_all_92 rfl ?_
      refine r_goto (q := 97) dX5_all_93 (by decide) ?_
      first
        | exact J97t (by unfold aIs; rw [if_neg (by decide), if_neg (by decide)]; exact h89)
        | exact J97f (by unfold aIs; rw [if_neg (by decide), if_neg (by decide)]; exact h89)
  refine r_iload (q := 15) dX5_all_13 rfl rfl ?_
  refine r_bipush (q := 17) dX5_all_15 rfl (bip (by decide) (by decide)) ?_
  refine r_icmp_ge (q := 20) (tgt := 186) dX5_all_17 rfl (by decide) (by omega) (by omega) (fun z => by exfalso; omega) (fun _ => ?_)
  refine r_ldcS (i := 51) (tx := "smauhpqfw") (q := 22) dX5_all_20 rfl (List.mem_of_getElem? (i := 66) rfl) ?_
  refine r_iload (q := 24) dX5_all_22 rfl rfl ?_
  refine cT_1 (My := mJ0_charAt_5068e) (q := 27) dX5_all_24 rfl kX5_79 vJ0_charAt_5068e (by decide) rfl (j_charAt (by decide) (by decide)) ⟨by decide, by decide⟩ ⟨by decide, by decide⟩ (Nat.le_of_ble_eq_true rfl) ?_
  refine RW.cast rfl (show _ = [Value.int (zI (97))] from rfl) ?_
  refine r_istore (q := 29) dX5_all_27 rfl (by decide) (Lst.setL rfl rfl) ?_
  refine r_iload (q := 31) dX5_all_29 rfl rfl ?_
  refine r_iload_n (q := 32) dX5_all_31 rfl rfl ?_
  refine r_icmp_ne (q := 35) (tgt := 39) dX5_all_32 rfl (by decide) (by omega) (by omega) (fun h32 => ?_) (fun h32 => ?_)
  · refine r_iload_n (q := 40) dX5_all_39 rfl rfl ?_
    first
      | (rw [show aBy sw 2 j i = i from if_pos (hq9.mp h32)] at J40; exact J40)
      | (rw [show aBy sw 2 j i = j from if_neg (fun z => h32 (hq9.mpr z))] at J40; exact J40)
  · refine r_iload_n (q := 36) dX5_all_35 rfl rfl ?_
    refine r_goto (q := 40) dX5_all_36 (by decide) ?_
    first
      | (rw [show aBy sw 2 j i = i from if_pos (hq9.mp h32)] at J40; exact J40)
      | (rw [show aBy sw 2 j i = j from if_neg (fun z => h32 (hq9.mpr z))] at J40; exact J40)
set_option maxRecDepth 100000 in
set_option maxHeartbeats 4000000 in
theorem all_3 (hG : Full γ) (hM : Mw σ) {j i c sw : Int} (hj : 0 ≤ j ∧ j < 4) (hi : 0 ≤ i ∧ i < 4) (hc : 0 ≤ c ∧ c < 65536) (hsw : ∀ k : Nat, k < 8 → ((tS 51).getD k 0 = c ↔ (k : Int) = sw)) (hs1 : sw ≠ 1) (hSj : Sl σ j) (hSi : Sl σ i) (h1 : mHas σ j 1 = true) {s : St} {z : Int} {Q : Option Value → St → va_W → Prop} (h : Gs σ s z) (hz : z + aCost σ j i sw 3 ≤ 60) (next : RW γ mX5_all 7 5 5 Q nX 3 3 13 [some (.ref (ga γ 8 0)), some (.int (zI (j))), some (.int (zI (i))), some (.int (zI (c))), some (.int (zI (4))), none, none, none] [] (aStep s j i sw 3) xs) : RW γ mX5_all 7 5 5 Q nX 3 3 13 [some (.ref (ga γ 8 0)), some (.int (zI (j))), some (.int (zI (i))), some (.int (zI (c))), some (.int (zI (3))), none, none, none] [] (s) xs := by
  have hq9 : ((117 : Int) = c ↔ (3 : Int) = sw) := hsw 3 (by decide)
  have hby := aBy_r (sw := sw) (k := 3) hj hi
  have hz0 := h.2.2.1
  have hzs := h.1.sz
  have hq := Sq.of h.2.1
  have J97f : aIs s j i sw 3 = false → RW γ mX5_all 7 5 5 Q nX 3 3 97 [some (.ref (ga γ 8 0)), some (.int (zI (j))), some (.int (zI (i))), some (.int (zI (c))), some (.int (zI (3))), some (.int (zI (117))), some (.int (zI (aBy sw 3 j i))), none] [.int (zI (0))] (s) xs := by
    intro hw
    have eS : aStep s j i sw 3 = s := if_neg (by rw [hw]; decide)
    rw [eS] at next
    refine r_istore (q := 99) dX5_all_97 rfl (by decide) (Lst.setL rfl rfl) ?_
    refine r_iload (q := 101) dX5_all_99 rfl rfl ?_
    refine r_if_ne (q := 104) (tgt := 107) dX5_all_101 rfl (by decide) (by omega) (fun z => by exfalso; omega) (fun _ => ?_)
    refine r_goto (q := 180) dX5_all_104 (by decide) ?_
    refine r_iinc (q := 183) dX5_all_180 rfl rfl (by decide) (Lst.setL rfl rfl) ?_
    refine r_goto (q := 13) dX5_all_183 (by decide) ?_
    refine RW.drop 5 (RW.drop 6 (RW.drop 7 ?_))
    exact RW.wid 3 3 (by decide) (by decide) next
  have J40 : RW γ mX5_all 7 5 5 Q nX 3 3 40 [some (.ref (ga γ 8 0)), some (.int (zI (j))), some (.int (zI (i))), some (.int (zI (c))), some (.int (zI (3))), some (.int (zI (117))), none, none] [.int (zI (aBy sw 3 j i))] (s) xs := by
    refine r_istore (q := 42) dX5_all_40 rfl (by decide) (Lst.setL rfl rfl) ?_
    refine r_iload (q := 44) dX5_all_42 rfl rfl ?_
    refine r_bipush (q := 46) dX5_all_44 rfl (bip (by decide) (by decide)) ?_
    refine r_icmp_ne (q := 49) (tgt := 67) dX5_all_46 rfl (by decide) (by omega) (by omega) (fun _ => ?_) (fun z => by exfalso; omega)
    refine r_iload (q := 69) dX5_all_67 rfl rfl ?_
    refine r_bipush (q := 71) dX5_all_69 rfl (bip (by decide) (by decide)) ?_
    refine r_icmp_eq (q := 74) (tgt := 96) dX5_all_71 rfl (by decide) (by omega) (by omega) (fun _ => ?_) (fun z => by exfalso; omega)
    refine r_iconst (q := 97) dX5_all_96 rfl ?_
    exact J97f (by unfold aIs; rw [if_neg (by decide), if_pos (by decide)])
  refine r_iload (q := 15) dX5_all_13 rfl rfl ?_
  refine r_bipush (q := 17) dX5_all_15 rfl (bip (by decide) (by decide)) ?_
  refine r_icmp_ge (q := 20) (tgt := 186) dX5_all_17 rfl (by decide) (by omega) (by omega) (fun z => by exfalso; omega) (fun _ => ?_)
  refine r_ldcS (i := 51) (tx := "smauhpqfw") (q := 22) dX5_all_20 rfl (List.mem_of_getElem? (i := 66) rfl) ?_
  refine r_iload (q := 24) dX5_all_22 rfl rfl ?_
  refine cT_1 (My := mJ0_charAt_5068e) (q := 27) dX5_all_24 rfl kX5_79 vJ0_charAt_5068e (by decide) rfl (j_charAt (by decide) (by decide)) ⟨by decide, by decide⟩ ⟨by decide, by decide⟩ (Nat.le_of_ble_eq_true rfl) ?_
  refine RW.cast rfl (show _ = [Value.int (zI (117))] from rfl) ?_
  refine r_istore (q := 29) dX5_all_27 rfl (by decide) (Lst.setL rfl rfl) ?_
  refine r_iload (q := 31) dX5_all_29 rfl rfl ?_
  refine r_iload_n (q := 32) dX5_all_31 rfl rfl ?_
  refine r_icmp_ne (q := 35) (tgt := 39) dX5_all_32 rfl (by decide) (by omega) (by omega) (fun h32 => ?_) (fun h32 => ?_)
  · refine r_iload_n (q := 40) dX5_all_39 rfl rfl ?_
    first
      | (rw [show aBy sw 3 j i = i from if_pos (hq9.mp h32)] at J40; exact J40)
      | (rw [show aBy sw 3 j i = j from if_neg (fun z => h32 (hq9.mpr z))] at J40; exact J40)
  · refine r_iload_n (q := 36) dX5_all_35 rfl rfl ?_
    refine r_goto (q := 40) dX5_all_36 (by decide) ?_
    first
      | (rw [show aBy sw 3 j i = i from if_pos (hq9.mp h32)] at J40; exact J40)
      | (rw [show aBy sw 3 j i = j from if_neg (fun z => h32 (hq9.mpr z))] at J40; exact J40)
set_option maxRecDepth 100000 in
set_option maxHeartbeats 4000000 in
theorem all_4 (hG : Full γ) (hM : Mw σ) {j i c sw : Int} (hj : 0 ≤ j ∧ j < 4) (hi : 0 ≤ i ∧ i < 4) (hc : 0 ≤ c ∧ c < 65536) (hsw : ∀ k : Nat, k < 8 → ((tS 51).getD k 0 = c ↔ (k : Int) = sw)) (hs1 : sw ≠ 1) (hSj : Sl σ j) (hSi : Sl σ i) (h1 : mHas σ j 1 = true) {s : St} {z : Int} {Q : Option Value → St → va_W → Prop} (h : Gs σ s z) (hz : z + aCost σ j i sw 4 ≤ 60) (next : RW γ mX5_all 7 5 5 Q nX 3 3 13 [some (.ref (ga γ 8 0)), some (.int (zI (j))), some (.int (zI (i))), some (.int (zI (c))), some (.int (zI (5))), none, none, none] [] (aStep s j i sw 4) xs) : RW γ mX5_all 7 5 5 Q nX 3 3 13 [some (.ref (ga γ 8 0)), some (.int (zI (j))), some (.int (zI (i))), some (.int (zI (c))), some (.int (zI (4))), none, none, none] [] (s) xs := by
  have hq9 : ((104 : Int) = c ↔ (4 : Int) = sw) := hsw 4 (by decide)
  have hby := aBy_r (sw := sw) (k := 4) hj hi
  have hz0 := h.2.2.1
  have hzs := h.1.sz
  have hq := Sq.of h.2.1
  have J97f : aIs s j i sw 4 = false → RW γ mX5_all 7 5 5 Q nX 3 3 97 [some (.ref (ga γ 8 0)), some (.int (zI (j))), some (.int (zI (i))), some (.int (zI (c))), some (.int (zI (4))), some (.int (zI (104))), some (.int (zI (aBy sw 4 j i))), none] [.int (zI (0))] (s) xs := by
    intro hw
    have eS : aStep s j i sw 4 = s := if_neg (by rw [hw]; decide)
    rw [eS] at next
    refine r_istore (q := 99) dX5_all_97 rfl (by decide) (Lst.setL rfl rfl) ?_
    refine r_iload (q := 101) dX5_all_99 rfl rfl ?_
    refine r_if_ne (q := 104) (tgt := 107) dX5_all_101 rfl (by decide) (by omega) (fun z => by exfalso; omega) (fun _ => ?_)
    refine r_goto (q := 180) dX5_all_104 (by decide) ?_
    refine r_iinc (q := 183) dX5_all_180 rfl rfl (by decide) (Lst.setL rfl rfl) ?_
    refine r_goto (q := 13) dX5_all_183 (by decide) ?_
    refine RW.drop 5 (RW.drop 6 (RW.drop 7 ?_))
    exact RW.wid 3 3 (by decide) (by decide) next
  have J40 : RW γ mX5_all 7 5 5 Q nX 3 3 40 [some (.ref (ga γ 8 0)), some (.int (zI (j))), some (.int (zI (i))), some (.int (zI (c))), some (.int (zI (4))), some (.int (zI (104))), none, none] [.int (zI (aBy sw 4 j i))] (s) xs := by
    refine r_istore (q := 42) dX5_all_40 rfl (by decide) (Lst.setL rfl rfl) ?_
    refine r_iload (q := 44) dX5_all_42 rfl rfl ?_
    refine r_bipush (q := 46) dX5_all_44 rfl (bip (by decide) (by decide)) ?_
    refine r_icmp_ne (q := 49) (tgt := 67) dX5_all_46 rfl (by decide) (by omega) (by omega) (fun _ => ?_) (fun z => by exfalso; omega)
    refine r_iload (q := 69) dX5_all_67 rfl rfl ?_
    refine r_bipush (q := 71) dX5_all_69 rfl (bip (by decide) (by decide)) ?_
    refine r_icmp_eq (q := 74) (tgt := 96) dX5_all_71 rfl (by decide) (by omega) (by omega) (fun z => by exfalso; omega) (fun _ => ?_)
    refine r_iload (q := 76) dX5_all_74 rfl rfl ?_
    refine r_bipush (q := 78) dX5_all_76 rfl (bip (by decide) (by decide)) ?_
    refine r_icmp_eq (q := 81) (tgt := 96) dX5_all_78 rfl (by decide) (by omega) (by omega) (fun _ => ?_) (fun z => by exfalso; omega)
    refine r_iconst (q := 97) dX5_all_96 rfl ?_
    exact J97f (by unfold aIs; rw [if_neg (by decide), if_pos (by decide)])
  refine r_iload (q := 15) dX5_all_13 rfl rfl ?_
  refine r_bipush (q := 17) dX5_all_15 rfl (bip (by decide) (by decide)) ?_
  refine r_icmp_ge (q := 20) (tgt := 186) dX5_all_17 rfl (by decide) (by omega) (by omega) (fun z => by exfalso; omega) (fun _ => ?_)
  refine r_ldcS (i := 51) (tx := "smauhpqfw") (q := 22) dX5_all_20 rfl (List.mem_of_getElem? (i := 66) rfl) ?_
  refine r_iload (q := 24) dX5_all_22 rfl rfl ?_
  refine cT_1 (My := mJ0_charAt_5068e) (q := 27) dX5_all_24 rfl kX5_79 vJ0_charAt_5068e (by decide) rfl (j_charAt (by decide) (by decide)) ⟨by decide, by decide⟩ ⟨by decide, by decide⟩ (Nat.le_of_ble_eq_true rfl) ?_
  refine RW.cast rfl (show _ = [Value.int (zI (104))] from rfl) ?_
  refine r_istore (q := 29) dX5_all_27 rfl (by decide) (Lst.setL rfl rfl) ?_
  refine r_iload (q := 31) dX5_all_29 rfl rfl ?_
  refine r_iload_n (q := 32) dX5_all_31 rfl rfl ?_
  refine r_icmp_ne (q := 35) (tgt := 39) dX5_all_32 rfl (by decide) (by omega) (by omega) (fun h32 => ?_) (fun h32 => ?_)
  · refine r_iload_n (q := 40) dX5_all_39 rfl rfl ?_
    first
      | (rw [show aBy sw 4 j i = i from if_pos (hq9.mp h32)] at J40; exact J40)
      | (rw [show aBy sw 4 j i = j from if_neg (fun z => h32 (hq9.mpr z))] at J40; exact J40)
  · refine r_iload_n (q := 36) dX5_all_35 rfl rfl ?_
    refine r_goto (q := 40) dX5_all_36 (by decide) ?_
    first
      | (rw [show aBy sw 4 j i = i from if_pos (hq9.mp h32)] at J40; exact J40)
      | (rw [show aBy sw 4 j i = j from if_neg (fun z => h32 (hq9.mpr z))] at J40; exact J40)
set_option maxRecDepth 100000 in
set_option maxHeartbeats 4000000 in
theorem all_5 (hG : Full γ) (hM : Mw σ) {j i c sw : Int} (hj : 0 ≤ j ∧ j < 4) (hi : 0 ≤ i ∧ i < 4) (hc : 0 ≤ c ∧ c < 65536) (hsw : ∀ k : Nat, k < 8 → ((tS 51).getD k 0 = c ↔ (k : Int) = sw)) (hs1 : sw ≠ 1) (hSj : Sl σ j) (hSi : Sl σ i) (h1 : mHas σ j 1 = true) {s : St} {z : Int} {Q : Option Value → St → va_W → Prop} (h : Gs σ s z) (hz : z + aCost σ j i sw 5 ≤ 60) (next : RW γ mX5_all 7 5 5 Q nX 3 3 13 [some (.ref (ga γ 8 0)), some (.int (zI (j))), some (.int (zI (i))), some (.int (zI (c))), some (.int (zI (6))), none, none, none] [] (aStep s j i sw 5) xs) : RW γ mX5_all 7 5 5 Q nX 3 3 13 [some (.ref (ga γ 8 0)), some (.int (zI (j))), some (.int (zI (i))), some (.int (zI (c))), some (.int (zI (5))), none, none, none] [] (s) xs := by
  have hq9 : ((112 : Int) = c ↔ (5 : Int) = sw) := hsw 5 (by decide)
  have hby := aBy_r (sw := sw) (k := 5) hj hi
  have hz0 := h.2.2.1
  have hzs := h.1.sz
  have hq := Sq.of h.2.1
  have J97t : aIs s j i sw 5 = true → RW γ mX5_all 7 5 5 Q nX 3 3 97 [some (.ref (ga γ 8 0)), some (.int (zI (j))), some (.int (zI (i))), some (.int (zI (c))), some (.int (zI (5))), some (.int (zI (112))), some (.int (zI (aBy sw 5 j i))), none] [.int (zI (1))] (s) xs := by
    intro hw
    have his : aIs σ j i sw 5 = true := by rw [← aIs_c hq, hw]
    have hS := aSg ⟨by decide, by decide⟩ hs1 hSj hSi h1 his
    have hm0 := mMany_0 hS
    have hco : aCost σ j i sw 5 = 0 + mMany σ (aBy sw 5 j i) 5 + 0 := if_pos his
    have hP := aPre_ok (k := 5) h (by show z + 0 ≤ 60; omega)
    have e9 : aPre s 5 = s := by unfold aPre; rw [if_neg (by decide), if_neg (by decide), if_neg (by decide)]
    rw [e9] at hP
    have hP : Gs σ (s) (z + 0) := hP
    have hq2 := Sq.of hP.2.1
    have e2 := (hq2.many (aBy sw 5 j i) 5).1
    have hA := hP.add hby.1 (hq2.sg hS) (by rw [e2]; omega)
    rw [e2] at hA
    have eS : aStep s j i sw 5 = mAdd (s) (aBy sw 5 j i) 5 := by
      unfold aStep
      rw [if_pos hw, e9]
      unfold aPost
      rw [if_neg (by decide)]
    rw [eS] at next
    refine r_istore (q := 99) dX5_all_97 rfl (by decide) (Lst.setL rfl rfl) ?_
    refine r_iload (q := 101) dX5_all_99 rfl rfl ?_
    refine r_if_ne (q := 104) (tgt := 107) dX5_all_101 rfl (by decide) (by omega) (fun _ => ?_) (fun z => by exfalso; omega)
    refine r_iload (q := 109) dX5_all_107 rfl rfl ?_
    refine r_bipush (q := 111) dX5_all_109 rfl (bip (by decide) (by decide)) ?_
    refine r_icmp_ne (q := 114) (tgt := 120) dX5_all_111 rfl (by decide) (by omega) (by omega) (fun _ => ?_) (fun z => by exfalso; omega)
    refine r_iload (q := 122) dX5_all_120 rfl rfl ?_
    refine r_bipush (q := 124) dX5_all_122 rfl (bip (by decide) (by decide)) ?_
    refine r_icmp_ne (q := 127) (tgt := 133) dX5_all_124 rfl (by decide) (by omega) (by omega) (fun _ => ?_) (fun z => by exfalso; omega)
    refine r_iload (q := 135) dX5_all_133 rfl rfl ?_
    refine r_bipush (q := 137) dX5_all_135 rfl (bip (by decide) (by decide)) ?_
    refine r_icmp_ne (q := 140) (tgt := 146) dX5_all_137 rfl (by decide) (by omega) (by omega) (fun _ => ?_) (fun z => by exfalso; omega)
    refine r_iload (q := 148) dX5_all_146 rfl rfl ?_
    refine r_bipush (q := 150) dX5_all_148 rfl (bip (by decide) (by decide)) ?_
    refine r_icmp_ne (q := 153) (tgt := 159) dX5_all_150 rfl (by decide) (by omega) (by omega) (fun _ => ?_) (fun z => by exfalso; omega)
    refine r_aload_n (q := 160) dX5_all_159 rfl rfl ?_
    refine r_iload (q := 162) dX5_all_160 rfl rfl ?_
    refine r_iload (q := 164) dX5_all_162 rfl rfl ?_
    refine cX5_2v (My := mX5_add) (q := 167) dX5_all_164 rfl kX5_171 vX5_add (hG _ _ rfl) rfl (m_add hG hP.1 hby (by decide) (k := 5) rfl (by decide) (hq2.sg hS) (by have := hP.2.2.1; rw [e2]; omega) (by have := hP.2.2.1; have := hP.2.2.2; omega)) ⟨by decide, by decide⟩ ⟨by decide, by decide⟩ (Nat.le_of_ble_eq_true rfl) ?_
    refine r_iload (q := 169) dX5_all_167 rfl rfl ?_
    refine r_bipush (q := 171) dX5_all_169 rfl (bip (by decide) (by decide)) ?_
    refine r_icmp_ne (q := 174) (tgt := 180) dX5_all_171 rfl (by decide) (by omega) (by omega) (fun _ => ?_) (fun z => by exfalso; omega)
    refine r_iinc (q := 183) dX5_all_180 rfl rfl (by decide) (Lst.setL rfl rfl) ?_
    refine r_goto (q := 13) dX5_all_183 (by decide) ?_
    refine RW.drop 5 (RW.drop 6 (RW.drop 7 ?_))
    exact next
  have J97f : aIs s j i sw 5 = false → RW γ mX5_all 7 5 5 Q nX 3 3 97 [some (.ref (ga γ 8 0)), some (.int (zI (j))), some (.int (zI (i))), some (.int (zI (c))), some (.int (zI (5))), some (.int (zI (112))), some (.int (zI (aBy sw 5 j i))), none] [.int (zI (0))] (s) xs := by
    intro hw
    have eS : aStep s j i sw 5 = s := if_neg (by rw [hw]; decide)
    rw [eS] at next
    refine r_istore (q := 99) dX5_all_97 rfl (by decide) (Lst.setL rfl rfl) ?_
    refine r_iload (q := 101) dX5_all_99 rfl rfl ?_
    refine r_if_ne (q := 104) (tgt := 107) dX5_all_101 rfl (by decide) (by omega) (fun z => by exfalso; omega) (fun _ => ?_)
    refine r_goto (q := 180) dX5_all_104 (by decide) ?_
    refine r_iinc (q := 183) dX5_all_180 rfl rfl (by decide) (Lst.setL rfl rfl) ?_
    refine r_goto (q := 13) dX5_all_183 (by decide) ?_
    refine RW.drop 5 (RW.drop 6 (RW.drop 7 ?_))
    exact RW.wid 3 3 (by decide) (by decide) next
  have J40 : RW γ mX5_all 7 5 5 Q nX 3 3 40 [some (.ref (ga γ 8 0)), some (.int (zI (j))), some (.int (zI (i))), some (.int (zI (c))), some (.int (zI (5))), some (.int (zI (112))), none, none] [.int (zI (aBy sw 5 j i))] (s) xs := by
    refine r_istore (q := 42) dX5_all_40 rfl (by decide) (Lst.setL rfl rfl) ?_
    refine r_iload (q := 44) dX5_all_42 rfl rfl ?_
    refine r_bipush (q := 46) dX5_all_44 rfl (bip (by decide) (by decide)) ?_
    refine r_icmp_ne (q := 49) (tgt := 67) dX5_all_46 rfl (by decide) (by omega) (by omega) (fun _ => ?_) (fun z => by exfalso; omega)
    refine r_iload (q := 69) dX5_all_67 rfl rfl ?_
    refine r_bipush (q := 71) dX5_all_69 rfl (bip (by decide) (by decide)) ?_
    refine r_icmp_eq (q := 74) (tgt := 96) dX5_all_71 rfl (by decide) (by omega) (by omega) (fun z => by exfalso; omega) (fun _ => ?_)
    refine r_iload (q := 76) dX5_all_74 rfl rfl ?_
    refine r_bipush (q := 78) dX5_all_76 rfl (bip (by decide) (by decide)) ?_
    refine r_icmp_eq (q := 81) (tgt := 96) dX5_all_78 rfl (by decide) (by omega) (by omega) (fun z => by exfalso; omega) (fun _ => ?_)
    refine r_aload_n (q := 82) dX5_all_81 rfl rfl ?_
    refine r_iload (q := 84) dX5_all_82 rfl rfl ?_
    refine r_iload (q := 86) dX5_all_84 rfl rfl ?_
    refine cX5_2 (My := mX5_has) (q := 89) dX5_all_86 rfl kX5_160 vX5_has (hG _ _ rfl) rfl (m_has hG h.1 hby (by decide) (k := 5) rfl (by decide)) ⟨by decide, by decide⟩ ⟨by decide, by decide⟩ (Nat.le_of_ble_eq_true rfl) ?_
    refine r_ifB_eq (q := 92) (tgt := 96) dX5_all_89 rfl (by decide) (fun h89 => ?_) (fun h89 => ?_)
    · refine r_iconst (q := 97) dX5_all_96 rfl ?_
      first
        | exact J97t (by unfold aIs; rw [if_neg (by decide), if_neg (by decide)]; exact h89)
        | exact J97f (by unfold aIs; rw [if_neg (by decide), if_neg (by decide)]; exact h89)
    · refine r_iconst (q := 93) dX5_all_92 rfl ?_
      refine r_goto (q := 97) dX5_all_93 (by decide) ?_
      first
        | exact J97t (by unfold aIs; rw [if_neg (by decide), if_neg (by decide)]; exact h89)
        | exact J97f (by unfold aIs; rw [if_neg (by decide), if_neg (by decide)]; exact h89)
  refine r_iload (q := 15) dX5_all_13 rfl rfl ?_
  refine r_bipush (q := 17) dX5_all_15 rfl (bip (by decide) (by decide)) ?_
  refine r_icmp_ge (q := 20) (tgt := 186) dX5_all_17 rfl (by decide) (by omega) (by omega) (fun z => by exfalso; omega) (fun _ => ?_)
  refine r_ldcS (i := 51) (tx := "smauhpqfw") (q := 22) dX5_all_20 rfl (List.mem_of_getElem? (i := 66) rfl) ?_
  refine r_iload (q := 24) dX5_all_22 rfl rfl ?_
  refine cT_1 (My := mJ0_charAt_5068e) (q := 27) dX5_all_24 rfl kX5_79 vJ0_charAt_5068e (by decide) rfl (j_charAt (by decide) (by decide)) ⟨by decide, by decide⟩ ⟨by decide, by decide⟩ (Nat.le_of_ble_eq_true rfl) ?_
  refine RW.cast rfl (show _ = [Value.int (zI (112))] from rfl) ?_
  refine r_istore (q := 29) dX5_all_27 rfl (by decide) (Lst.setL rfl rfl) ?_
  refine r_iload (q := 31) dX5_all_29 rfl rfl ?_
  refine r_iload_n (q := 32) dX5_all_31 rfl rfl ?_
  refine r_icmp_ne (q := 35) (tgt := 39) dX5_all_32 rfl (by decide) (by omega) (by omega) (fun h32 => ?_) (fun h32 => ?_)
  · refine r_iload_n (q := 40) dX5_all_39 rfl rfl ?_
    first
      | (rw [show aBy sw 5 j i = i from if_pos (hq9.mp h32)] at J40; exact J40)
      | (rw [show aBy sw 5 j i = j from if_neg (fun z => h32 (hq9.mpr z))] at J40; exact J40)
  · refine r_iload_n (q := 36) dX5_all_35 rfl rfl ?_
    refine r_goto (q := 40) dX5_all_36 (by decide) ?_
    first
      | (rw [show aBy sw 5 j i = i from if_pos (hq9.mp h32)] at J40; exact J40)
      | (rw [show aBy sw 5 j i = j from if_neg (fun z => h32 (hq9.mpr z))] at J40; exact J40)
set_option maxRecDepth 100000 in
set_option maxHeartbeats 4000000 in
theorem all_6 (hG : Full γ) (hM : Mw σ) {j i c sw : Int} (hj : 0 ≤ j ∧ j < 4) (hi : 0 ≤ i ∧ i < 4) (hc : 0 ≤ c ∧ c < 65536) (hsw : ∀ k : Nat, k < 8 → ((tS 51).getD k 0 = c ↔ (k : Int) = sw)) (hs1 : sw ≠ 1) (hSj : Sl σ j) (hSi : Sl σ i) (h1 : mHas σ j 1 = true) {s : St} {z : Int} {Q : Option Value → St → va_W → Prop} (h : Gs σ s z) (hz : z + aCost σ j i sw 6 ≤ 60) (next : RW γ mX5_all 7 5 5 Q nX 4 4 13 [some (.ref (ga γ 8 0)), some (.int (zI (j))), some (.int (zI (i))), some (.int (zI (c))), some (.int (zI (7))), none, none, none] [] (aStep s j i sw 6) xs) : RW γ mX5_all 7 5 5 Q nX 3 3 13 [some (.ref (ga γ 8 0)), some (.int (zI (j))), some (.int (zI (i))), some (.int (zI (c))), some (.int (zI (6))), none, none, none] [] (s) xs := by
  have hq9 : ((113 : Int) = c ↔ (6 : Int) = sw) := hsw 6 (by decide)
  have hby := aBy_r (sw := sw) (k := 6) hj hi
  have hz0 := h.2.2.1
  have hzs := h.1.sz
  have hq := Sq.of h.2.1
  have J97t : aIs s j i sw 6 = true → RW γ mX5_all 7 5 5 Q nX 3 3 97 [some (.ref (ga γ 8 0)), some (.int (zI (j))), some (.int (zI (i))), some (.int (zI (c))), some (.int (zI (6))), some (.int (zI (113))), some (.int (zI (aBy sw 6 j i))), none] [.int (zI (1))] (s) xs := by
    intro hw
    have his : aIs σ j i sw 6 = true := by rw [← aIs_c hq, hw]
    have hS := aSg ⟨by decide, by decide⟩ hs1 hSj hSi h1 his
    have hm0 := mMany_0 hS
    have hco : aCost σ j i sw 6 = 1 + mMany σ (aBy sw 6 j i) 6 + 0 := if_pos his
    have hP := aPre_ok (k := 6) h (by show z + 1 ≤ 60; omega)
    have e9 : aPre s 6 = mSign s 63 := by unfold aPre; rw [if_neg (by decide), if_pos rfl]
    rw [e9] at hP
    have hP : Gs σ (mSign s 63) (z + 1) := hP
    have hq2 := Sq.of hP.2.1
    have e2 := (hq2.many (aBy sw 6 j i) 6).1
    have hA := hP.add hby.1 (hq2.sg hS) (by rw [e2]; omega)
    rw [e2] at hA
    have eS : aStep s j i sw 6 = mAdd (mSign s 63) (aBy sw 6 j i) 6 := by
      unfold aStep
      rw [if_pos hw, e9]
      unfold aPost
      rw [if_neg (by decide)]
    rw [eS] at next
    refine r_istore (q := 99) dX5_all_97 rfl (by decide) (Lst.setL rfl rfl) ?_
    refine r_iload (q := 101) dX5_all_99 rfl rfl ?_
    refine r_if_ne (q := 104) (tgt := 107) dX5_all_101 rfl (by decide) (by omega) (fun _ => ?_) (fun z => by exfalso; omega)
    refine r_iload (q := 109) dX5_all_107 rfl rfl ?_
    refine r_bipush (q := 111) dX5_all_109 rfl (bip (by decide) (by decide)) ?_
    refine r_icmp_ne (q := 114) (tgt := 120) dX5_all_111 rfl (by decide) (by omega) (by omega) (fun _ => ?_) (fun z => by exfalso; omega)
    refine r_iload (q := 122) dX5_all_120 rfl rfl ?_
    refine r_bipush (q := 124) dX5_all_122 rfl (bip (by decide) (by decide)) ?_
    refine r_icmp_ne (q := 127) (tgt := 133) dX5_all_124 rfl (by decide) (by omega) (by omega) (fun _ => ?_) (fun z => by exfalso; omega)
    refine r_iload (q := 135) dX5_all_133 rfl rfl ?_
    refine r_bipush (q := 137) dX5_all_135 rfl (bip (by decide) (by decide)) ?_
    refine r_icmp_ne (q := 140) (tgt := 146) dX5_all_137 rfl (by decide) (by omega) (by omega) (fun z => by exfalso; omega) (fun _ => ?_)
    refine r_aload_n (q := 141) dX5_all_140 rfl rfl ?_
    refine r_bipush (q := 143) dX5_all_141 rfl (bip (by decide) (by decide)) ?_
    refine cX5_1v (My := mX5_sign) (q := 146) dX5_all_143 rfl kX5_178 vX5_sign (hG _ _ rfl) rfl (m_sign hG h.1 (by decide) (by decide) (by have := h.2.2.1; omega) (by have := h.2.2.2; omega)) ⟨by decide, by decide⟩ ⟨by decide, by decide⟩ (Nat.le_of_ble_eq_true rfl) ?_
    refine r_iload (q := 148) dX5_all_146 rfl rfl ?_
    refine r_bipush (q := 150) dX5_all_148 rfl (bip (by decide) (by decide)) ?_
    refine r_icmp_ne (q := 153) (tgt := 159) dX5_all_150 rfl (by decide) (by omega) (by omega) (fun _ => ?_) (fun z => by exfalso; omega)
    refine r_aload_n (q := 160) dX5_all_159 rfl rfl ?_
    refine r_iload (q := 162) dX5_all_160 rfl rfl ?_
    refine r_iload (q := 164) dX5_all_162 rfl rfl ?_
    refine cX5_2v (My := mX5_add) (q := 167) dX5_all_164 rfl kX5_171 vX5_add (hG _ _ rfl) rfl (m_add hG hP.1 hby (by decide) (k := 6) rfl (by decide) (hq2.sg hS) (by have := hP.2.2.1; rw [e2]; omega) (by have := hP.2.2.1; have := hP.2.2.2; omega)) ⟨by decide, by decide⟩ ⟨by decide, by decide⟩ (Nat.le_of_ble_eq_true rfl) ?_
    refine r_iload (q := 169) dX5_all_167 rfl rfl ?_
    refine r_bipush (q := 171) dX5_all_169 rfl (bip (by decide) (by decide)) ?_
    refine r_icmp_ne (q := 174) (tgt := 180) dX5_all_171 rfl (by decide) (by omega) (by omega) (fun _ => ?_) (fun z => by exfalso; omega)
    refine r_iinc (q := 183) dX5_all_180 rfl rfl (by decide) (Lst.setL rfl rfl) ?_
    refine r_goto (q := 13) dX5_all_183 (by decide) ?_
    refine RW.drop 5 (RW.drop 6 (RW.drop 7 ?_))
    exact next
  have J97f : aIs s j i sw 6 = false → RW γ mX5_all 7 5 5 Q nX 3 3 97 [some (.ref (ga γ 8 0)), some (.int (zI (j))), some (.int (zI (i))), some (.int (zI (c))), some (.int (zI (6))), some (.int (zI (113))), some (.int (zI (aBy sw 6 j i))), none] [.int (zI (0))] (s) xs := by
    intro hw
    have eS : aStep s j i sw 6 = s := if_neg (by rw [hw]; decide)
    rw [eS] at next
    refine r_istore (q := 99) dX5_all_97 rfl (by decide) (Lst.setL rfl rfl) ?_
    refine r_iload (q := 101) dX5_all_99 rfl rfl ?_
    refine r_if_ne (q := 104) (tgt := 107) dX5_all_101 rfl (by decide) (by omega) (fun z => by exfalso; omega) (fun _ => ?_)
    refine r_goto (q := 180) dX5_all_104 (by decide) ?_
    refine r_iinc (q := 183) dX5_all_180 rfl rfl (by decide) (Lst.setL rfl rfl) ?_
    refine r_goto (q := 13) dX5_all_183 (by decide) ?_
    refine RW.drop 5 (RW.drop 6 (RW.drop 7 ?_))
    exact RW.wid 4 4 (by decide) (by decide) next
  have J40 : RW γ mX5_all 7 5 5 Q nX 3 3 40 [some (.ref (ga γ 8 0)), some (.int (zI (j))), some (.int (zI (i))), some (.int (zI (c))), some (.int (zI (6))), some (.int (zI (113))), none, none] [.int (zI (aBy sw 6 j i))] (s) xs := by
    refine r_istore (q := 42) dX5_all_40 rfl (by decide) (Lst.setL rfl rfl) ?_
    refine r_iload (q := 44) dX5_all_42 rfl rfl ?_
    refine r_bipush (q := 46) dX5_all_44 rfl (bip (by decide) (by decide)) ?_
    refine r_icmp_ne (q := 49) (tgt := 67) dX5_all_46 rfl (by decide) (by omega) (by omega) (fun _ => ?_) (fun z => by exfalso; omega)
    refine r_iload (q := 69) dX5_all_67 rfl rfl ?_
    refine r_bipush (q := 71) dX5_all_69 rfl (bip (by decide) (by decide)) ?_
    refine r_icmp_eq (q := 74) (tgt := 96) dX5_all_71 rfl (by decide) (by omega) (by omega) (fun z => by exfalso; omega) (fun _ => ?_)
    refine r_iload (q := 76) dX5_all_74 rfl rfl ?_
    refine r_bipush (q := 78) dX5_all_76 rfl (bip (by decide) (by decide)) ?_
    refine r_icmp_eq (q := 81) (tgt := 96) dX5_all_78 rfl (by decide) (by omega) (by omega) (fun z => by exfalso; omega) (fun _ => ?_)
    refine r_aload_n (q := 82) dX5_all_81 rfl rfl ?_
    refine r_iload (q := 84) dX5_all_82 rfl rfl ?_
    refine r_iload (q := 86) dX5_all_84 rfl rfl ?_
    refine cX5_2 (My := mX5_has) (q := 89) dX5_all_86 rfl kX5_160 vX5_has (hG _ _ rfl) rfl (m_has hG h.1 hby (by decide) (k := 6) rfl (by decide)) ⟨by decide, by decide⟩ ⟨by decide, by decide⟩ (Nat.le_of_ble_eq_true rfl) ?_
    refine r_ifB_eq (q := 92) (tgt := 96) dX5_all_89 rfl (by decide) (fun h89 => ?_) (fun h89 => ?_)
    · refine r_iconst (q := 97) dX5_all_96 rfl ?_
      first
        | exact J97t (by unfold aIs; rw [if_neg (by decide), if_neg (by decide)]; exact h89)
        | exact J97f (by unfold aIs; rw [if_neg (by decide), if_neg (by decide)]; exact h89)
    · refine r_iconst (q := 93) dX5_all_92 rfl ?_
      refine r_goto (q := 97) dX5_all_93 (by decide) ?_
      first
        | exact J97t (by unfold aIs; rw [if_neg (by decide), if_neg (by decide)]; exact h89)
        | exact J97f (by unfold aIs; rw [if_neg (by decide), if_neg (by decide)]; exact h89)
  refine r_iload (q := 15) dX5_all_13 rfl rfl ?_
  refine r_bipush (q := 17) dX5_all_15 rfl (bip (by decide) (by decide)) ?_
  refine r_icmp_ge (q := 20) (tgt := 186) dX5_all_17 rfl (by decide) (by omega) (by omega) (fun z => by exfalso; omega) (fun _ => ?_)
  refine r_ldcS (i := 51) (tx := "smauhpqfw") (q := 22) dX5_all_20 rfl (List.mem_of_getElem? (i := 66) rfl) ?_
  refine r_iload (q := 24) dX5_all_22 rfl rfl ?_
  refine cT_1 (My := mJ0_charAt_5068e) (q := 27) dX5_all_24 rfl kX5_79 vJ0_charAt_5068e (by decide) rfl (j_charAt (by decide) (by decide)) ⟨by decide, by decide⟩ ⟨by decide, by decide⟩ (Nat.le_of_ble_eq_true rfl) ?_
  refine RW.cast rfl (show _ = [Value.int (zI (113))] from rfl) ?_
  refine r_istore (q := 29) dX5_all_27 rfl (by decide) (Lst.setL rfl rfl) ?_
  refine r_iload (q := 31) dX5_all_29 rfl rfl ?_
  refine r_iload_n (q := 32) dX5_all_31 rfl rfl ?_
  refine r_icmp_ne (q := 35) (tgt := 39) dX5_all_32 rfl (by decide) (by omega) (by omega) (fun h32 => ?_) (fun h32 => ?_)
  · refine r_iload_n (q := 40) dX5_all_39 rfl rfl ?_
    first
      | (rw [show aBy sw 6 j i = i from if_pos (hq9.mp h32)] at J40; exact J40)
      | (rw [show aBy sw 6 j i = j from if_neg (fun z => h32 (hq9.mpr z))] at J40; exact J40)
  · refine r_iload_n (q := 36) dX5_all_35 rfl rfl ?_
    refine r_goto (q := 40) dX5_all_36 (by decide) ?_
    first
      | (rw [show aBy sw 6 j i = i from if_pos (hq9.mp h32)] at J40; exact J40)
      | (rw [show aBy sw 6 j i = j from if_neg (fun z => h32 (hq9.mpr z))] at J40; exact J40)
set_option maxRecDepth 100000 in
set_option maxHeartbeats 4000000 in
theorem all_7 (hG : Full γ) (hM : Mw σ) {j i c sw : Int} (hj : 0 ≤ j ∧ j < 4) (hi : 0 ≤ i ∧ i < 4) (hc : 0 ≤ c ∧ c < 65536) (hsw : ∀ k : Nat, k < 8 → ((tS 51).getD k 0 = c ↔ (k : Int) = sw)) (hs1 : sw ≠ 1) (hSj : Sl σ j) (hSi : Sl σ i) (h1 : mHas σ j 1 = true) {s : St} {z : Int} {Q : Option Value → St → va_W → Prop} (h : Gs σ s z) (hz : z + aCost σ j i sw 7 ≤ 60) (next : RW γ mX5_all 7 5 5 Q nX 5 5 13 [some (.ref (ga γ 8 0)), some (.int (zI (j))), some (.int (zI (i))), some (.int (zI (c))), some (.int (zI (8))), none, none, none] [] (aStep s j i sw 7) xs) : RW γ mX5_all 7 5 5 Q nX 4 4 13 [some (.ref (ga γ 8 0)), some (.int (zI (j))), some (.int (zI (i))), some (.int (zI (c))), some (.int (zI (7))), none, none, none] [] (s) xs := by
  have hq9 : ((102 : Int) = c ↔ (7 : Int) = sw) := hsw 7 (by decide)
  have hby := aBy_r (sw := sw) (k := 7) hj hi
  have hz0 := h.2.2.1
  have hzs := h.1.sz
  have hq := Sq.of h.2.1
  have J97t : aIs s j i sw 7 = true → RW γ mX5_all 7 5 5 Q nX 4 4 97 [some (.ref (ga γ 8 0)), some (.int (zI (j))), some (.int (zI (i))), some (.int (zI (c))), some (.int (zI (7))), some (.int (zI (102))), some (.int (zI (aBy sw 7 j i))), none] [.int (zI (1))] (s) xs := by
    intro hw
    have his : aIs σ j i sw 7 = true := by rw [← aIs_c hq, hw]
    have hS := aSg ⟨by decide, by decide⟩ hs1 hSj hSi h1 his
    have hm0 := mMany_0 hS
    have hco : aCost σ j i sw 7 = 1 + mMany σ (aBy sw 7 j i) 7 + 0 := if_pos his
    have hP := aPre_ok (k := 7) h (by show z + 1 ≤ 60; omega)
    have e9 : aPre s 7 = mSign s 35 := by unfold aPre; rw [if_neg (by decide), if_neg (by decide), if_pos rfl]
    rw [e9] at hP
    have hP : Gs σ (mSign s 35) (z + 1) := hP
    have hq2 := Sq.of hP.2.1
    have e2 := (hq2.many (aBy sw 7 j i) 7).1
    have hA := hP.add hby.1 (hq2.sg hS) (by rw [e2]; omega)
    rw [e2] at hA
    have eS : aStep s j i sw 7 = mAdd (mSign s 35) (aBy sw 7 j i) 7 := by
      unfold aStep
      rw [if_pos hw, e9]
      unfold aPost
      rw [if_neg (by decide)]
    rw [eS] at next
    refine r_istore (q := 99) dX5_all_97 rfl (by decide) (Lst.setL rfl rfl) ?_
    refine r_iload (q := 101) dX5_all_99 rfl rfl ?_
    refine r_if_ne (q := 104) (tgt := 107) dX5_all_101 rfl (by decide) (by omega) (fun _ => ?_) (fun z => by exfalso; omega)
    refine r_iload (q := 109) dX5_all_107 rfl rfl ?_
    refine r_bipush (q := 111) dX5_all_109 rfl (bip (by decide) (by decide)) ?_
    refine r_icmp_ne (q := 114) (tgt := 120) dX5_all_111 rfl (by decide) (by omega) (by omega) (fun _ => ?_) (fun z => by exfalso; omega)
    refine r_iload (q := 122) dX5_all_120 rfl rfl ?_
    refine r_bipush (q := 124) dX5_all_122 rfl (bip (by decide) (by decide)) ?_
    refine r_icmp_ne (q := 127) (tgt := 133) dX5_all_124 rfl (by decide) (by omega) (by omega) (fun _ => ?_) (fun z => by exfalso; omega)
    refine r_iload (q := 135) dX5_all_133 rfl rfl ?_
    refine r_bipush (q := 137) dX5_all_135 rfl (bip (by decide) (by decide)) ?_
    refine r_icmp_ne (q := 140) (tgt := 146) dX5_all_137 rfl (by decide) (by omega) (by omega) (fun _ => ?_) (fun z => by exfalso; omega)
    refine r_iload (q := 148) dX5_all_146 rfl rfl ?_
    refine r_bipush (q := 150) dX5_all_148 rfl (bip (by decide) (by decide)) ?_
    refine r_icmp_ne (q := 153) (tgt := 159) dX5_all_150 rfl (by decide) (by omega) (by omega) (fun z => by exfalso; omega) (fun _ => ?_)
    refine r_aload_n (q := 154) dX5_all_153 rfl rfl ?_
    refine r_bipush (q := 156) dX5_all_154 rfl (bip (by decide) (by decide)) ?_
    refine cX5_1v (My := mX5_sign) (q := 159) dX5_all_156 rfl kX5_178 vX5_sign (hG _ _ rfl) rfl (m_sign hG h.1 (by decide) (by decide) (by have := h.2.2.1; omega) (by have := h.2.2.2; omega)) ⟨by decide, by decide⟩ ⟨by decide, by decide⟩ (Nat.le_of_ble_eq_true rfl) ?_
    refine r_aload_n (q := 160) dX5_all_159 rfl rfl ?_
    refine r_iload (q := 162) dX5_all_160 rfl rfl ?_
    refine r_iload (q := 164) dX5_all_162 rfl rfl ?_
    refine cX5_2v (My := mX5_add) (q := 167) dX5_all_164 rfl kX5_171 vX5_add (hG _ _ rfl) rfl (m_add hG hP.1 hby (by decide) (k := 7) rfl (by decide) (hq2.sg hS) (by have := hP.2.2.1; rw [e2]; omega) (by have := hP.2.2.1; have := hP.2.2.2; omega)) ⟨by decide, by decide⟩ ⟨by decide, by decide⟩ (Nat.le_of_ble_eq_true rfl) ?_
    refine r_iload (q := 169) dX5_all_167 rfl rfl ?_
    refine r_bipush (q := 171) dX5_all_169 rfl (bip (by decide) (by decide)) ?_
    refine r_icmp_ne (q := 174) (tgt := 180) dX5_all_171 rfl (by decide) (by omega) (by omega) (fun _ => ?_) (fun z => by exfalso; omega)
    refine r_iinc (q := 183) dX5_all_180 rfl rfl (by decide) (Lst.setL rfl rfl) ?_
    refine r_goto (q := 13) dX5_all_183 (by decide) ?_
    refine RW.drop 5 (RW.drop 6 (RW.drop 7 ?_))
    exact next
  have J97f : aIs s j i sw 7 = false → RW γ mX5_all 7 5 5 Q nX 4 4 97 [some (.ref (ga γ 8 0)), some (.int (zI (j))), some (.int (zI (i))), some (.int (zI (c))), some (.int (zI (7))), some (.int (zI (102))), some (.int (zI (aBy sw 7 j i))), none] [.int (zI (0))] (s) xs := by
    intro hw
    have eS : aStep s j i sw 7 = s := if_neg (by rw [hw]; decide)
    rw [eS] at next
    refine r_istore (q := 99) dX5_all_97 rfl (by decide) (Lst.setL rfl rfl) ?_
    refine r_iload (q := 101) dX5_all_99 rfl rfl ?_
    refine r_if_ne (q := 104) (tgt := 107) dX5_all_101 rfl (by decide) (by omega) (fun z => by exfalso; omega) (fun _ => ?_)
    refine r_goto (q := 180) dX5_all_104 (by decide) ?_
    refine r_iinc (q := 183) dX5_all_180 rfl rfl (by decide) (Lst.setL rfl rfl) ?_
    refine r_goto (q := 13) dX5_all_183 (by decide) ?_
    refine RW.drop 5 (RW.drop 6 (RW.drop 7 ?_))
    exact RW.wid 5 5 (by decide) (by decide) next
  have J40 : RW γ mX5_all 7 5 5 Q nX 4 4 40 [some (.ref (ga γ 8 0)), some (.int (zI (j))), some (.int (zI (i))), some (.int (zI (c))), some (.int (zI (7))), some (.int (zI (102))), none, none] [.int (zI (aBy sw 7 j i))] (s) xs := by
    refine r_istore (q := 42) dX5_all_40 rfl (by decide) (Lst.setL rfl rfl) ?_
    refine r_iload (q := 44) dX5_all_42 rfl rfl ?_
    refine r_bipush (q := 46) dX5_all_44 rfl (bip (by decide) (by decide)) ?_
    refine r_icmp_ne (q := 49) (tgt := 67) dX5_all_46 rfl (by decide) (by omega) (by omega) (fun _ => ?_) (fun z => by exfalso; omega)
    refine r_iload (q := 69) dX5_all_67 rfl rfl ?_
    refine r_bipush (q := 71) dX5_all_69 rfl (bip (by decide) (by decide)) ?_
    refine r_icmp_eq (q := 74) (tgt := 96) dX5_all_71 rfl (by decide) (by omega) (by omega) (fun z => by exfalso; omega) (fun _ => ?_)
    refine r_iload (q := 76) dX5_all_74 rfl rfl ?_
    refine r_bipush (q := 78) dX5_all_76 rfl (bip (by decide) (by decide)) ?_
    refine r_icmp_eq (q := 81) (tgt := 96) dX5_all_78 rfl (by decide) (by omega) (by omega) (fun z => by exfalso; omega) (fun _ => ?_)
    refine r_aload_n (q := 82) dX5_all_81 rfl rfl ?_
    refine r_iload (q := 84) dX5_all_82 rfl rfl ?_
    refine r_iload (q := 86) dX5_all_84 rfl rfl ?_
    refine cX5_2 (My := mX5_has) (q := 89) dX5_all_86 rfl kX5_160 vX5_has (hG _ _ rfl) rfl (m_has hG h.1 hby (by decide) (k := 7) rfl (by decide)) ⟨by decide, by decide⟩ ⟨by decide, by decide⟩ (Nat.le_of_ble_eq_true rfl) ?_
    refine r_ifB_eq (q := 92) (tgt := 96) dX5_all_89 rfl (by decide) (fun h89 => ?_) (fun h89 => ?_)
    · refine r_iconst (q := 97) dX5_all_96 rfl ?_
      first
        | exact J97t (by unfold aIs; rw [if_neg (by decide), if_neg (by decide)]; exact h89)
        | exact J97f (by unfold aIs; rw [if_neg (by decide), if_neg (by decide)]; exact h89)
    · refine r_iconst (q := 93) dX5_all_92 rfl ?_
      refine r_goto (q := 97) dX5_all_93 (by decide) ?_
      first
        | exact J97t (by unfold aIs; rw [if_neg (by decide), if_neg (by decide)]; exact h89)
        | exact J97f (by unfold aIs; rw [if_neg (by decide), if_neg (by decide)]; exact h89)
  refine r_iload (q := 15) dX5_all_13 rfl rfl ?_
  refine r_bipush (q := 17) dX5_all_15 rfl (bip (by decide) (by decide)) ?_
  refine r_icmp_ge (q := 20) (tgt := 186) dX5_all_17 rfl (by decide) (by omega) (by omega) (fun z => by exfalso; omega) (fun _ => ?_)
  refine r_ldcS (i := 51) (tx := "smauhpqfw") (q := 22) dX5_all_20 rfl (List.mem_of_getElem? (i := 66) rfl) ?_
  refine r_iload (q := 24) dX5_all_22 rfl rfl ?_
  refine cT_1 (My := mJ0_charAt_5068e) (q := 27) dX5_all_24 rfl kX5_79 vJ0_charAt_5068e (by decide) rfl (j_charAt (by decide) (by decide)) ⟨by decide, by decide⟩ ⟨by decide, by decide⟩ (Nat.le_of_ble_eq_true rfl) ?_
  refine RW.cast rfl (show _ = [Value.int (zI (102))] from rfl) ?_
  refine r_istore (q := 29) dX5_all_27 rfl (by decide) (Lst.setL rfl rfl) ?_
  refine r_iload (q := 31) dX5_all_29 rfl rfl ?_
  refine r_iload_n (q := 32) dX5_all_31 rfl rfl ?_
  refine r_icmp_ne (q := 35) (tgt := 39) dX5_all_32 rfl (by decide) (by omega) (by omega) (fun h32 => ?_) (fun h32 => ?_)
  · refine r_iload_n (q := 40) dX5_all_39 rfl rfl ?_
    first
      | (rw [show aBy sw 7 j i = i from if_pos (hq9.mp h32)] at J40; exact J40)
      | (rw [show aBy sw 7 j i = j from if_neg (fun z => h32 (hq9.mpr z))] at J40; exact J40)
  · refine r_iload_n (q := 36) dX5_all_35 rfl rfl ?_
    refine r_goto (q := 40) dX5_all_36 (by decide) ?_
    first
      | (rw [show aBy sw 7 j i = i from if_pos (hq9.mp h32)] at J40; exact J40)
      | (rw [show aBy sw 7 j i = j from if_neg (fun z => h32 (hq9.mpr z))] at J40; exact J40)
theorem mAllF_u {s : St} {j i sw k : Int} (h : k < 8) : mAllF s j i sw k = mAllF (aStep s j i sw k) j i sw (k + 1) := by rw [mAllF.eq_def, if_pos h]
theorem mAllF_e {s : St} {j i sw : Int} : mAllF s j i sw 8 = s := by rw [mAllF.eq_def, if_neg (by decide)]
theorem aRest_u {s : St} {j i sw k : Int} (h : k < 8) : aRest s j i sw k = aCost s j i sw k + aRest s j i sw (k + 1) := by rw [aRest.eq_def, if_pos h]
set_option maxRecDepth 100000 in
set_option maxHeartbeats 4000000 in
theorem m_all (hG : Full γ) (hM : Mw σ) {j i c sw : Int} (hj : 0 ≤ j ∧ j < 4) (hi : 0 ≤ i ∧ i < 4) (hc : 0 ≤ c ∧ c < 65536) (hsw : ∀ k : Nat, k < 8 → ((tS 51).getD k 0 = c ↔ (k : Int) = sw)) (hs1 : sw ≠ 1) (hSj : Sl σ j) (hSi : Sl σ i) (h1 : mHas σ j 1 = true) (hR : aRest σ j i sw 0 ≤ 60) : Ev γ mX5_all 7 5 5 [.ref (ga γ 8 0), .int (zI (j)), .int (zI (i)), .int (zI (c))] σ xs (rtn none (mAll σ j i sw) xs) nX := by
  refine Ev.of1 4 [some (.ref (ga γ 8 0)), some (.int (zI (j))), some (.int (zI (i))), some (.int (zI (c))), none, none, none, none] rfl pn_X5_all rfl (Nat.le_of_ble_eq_true rfl) ?_
  have u0 := aRest_u (s := σ) (j := j) (i := i) (sw := sw) (k := 0) (by decide)
  have r0 := aRest_0 (sw := sw) hs1 hSj hSi h1 0 (by decide) (by decide)
  have u1 := aRest_u (s := σ) (j := j) (i := i) (sw := sw) (k := 1) (by decide)
  have r1 := aRest_0 (sw := sw) hs1 hSj hSi h1 1 (by decide) (by decide)
  have u2 := aRest_u (s := σ) (j := j) (i := i) (sw := sw) (k := 2) (by decide)
  have r2 := aRest_0 (sw := sw) hs1 hSj hSi h1 2 (by decide) (by decide)
  have u3 := aRest_u (s := σ) (j := j) (i := i) (sw := sw) (k := 3) (by decide)
  have r3 := aRest_0 (sw := sw) hs1 hSj hSi h1 3 (by decide) (by decide)
  have u4 := aRest_u (s := σ) (j := j) (i := i) (sw := sw) (k := 4) (by decide)
  have r4 := aRest_0 (sw := sw) hs1 hSj hSi h1 4 (by decide) (by decide)
  have u5 := aRest_u (s := σ) (j := j) (i := i) (sw := sw) (k := 5) (by decide)
  have r5 := aRest_0 (sw := sw) hs1 hSj hSi h1 5 (by decide) (by decide)
  have u6 := aRest_u (s := σ) (j := j) (i := i) (sw := sw) (k := 6) (by decide)
  have r6 := aRest_0 (sw := sw) hs1 hSj hSi h1 6 (by decide) (by decide)
  have u7 := aRest_u (s := σ) (j := j) (i := i) (sw := sw) (k := 7) (by decide)
  have r7 := aRest_0 (sw := sw) hs1 hSj hSi h1 7 (by decide) (by decide)
  have r8 := aRest_0 (sw := sw) hs1 hSj hSi h1 8 (by decide) (by decide)
  simp only [Int.reduceAdd] at u0 u1 u2 u3 u4 u5 u6 u7
  have g0 : Gs σ (sMpm (sMsz σ 0) 0) 0 := ⟨⟨by show (0 : Int) ≤ 0 ∧ (0 : Int) ≤ 60; decide, hM.tx, by show (0 : Int) ≤ 0 ∧ (0 : Int) ≤ 60; decide, hM.2.2.2⟩, ⟨rfl, rfl, rfl, rfl, rfl, rfl, rfl, rfl, rfl, rfl, rfl, rfl, rfl⟩, rfl, by show (0 : Int) ≤ 0; decide⟩
  have g1 := aStep_ok (k := 0) ⟨by decide, by decide⟩ hj hi hs1 hSj hSi h1 g0 (by omega)
  have g2 := aStep_ok (k := 1) ⟨by decide, by decide⟩ hj hi hs1 hSj hSi h1 g1 (by omega)
  have g3 := aStep_ok (k := 2) ⟨by decide, by decide⟩ hj hi hs1 hSj hSi h1 g2 (by omega)
  have g4 := aStep_ok (k := 3) ⟨by decide, by decide⟩ hj hi hs1 hSj hSi h1 g3 (by omega)
  have g5 := aStep_ok (k := 4) ⟨by decide, by decide⟩ hj hi hs1 hSj hSi h1 g4 (by omega)
  have g6 := aStep_ok (k := 5) ⟨by decide, by decide⟩ hj hi hs1 hSj hSi h1 g5 (by omega)
  have g7 := aStep_ok (k := 6) ⟨by decide, by decide⟩ hj hi hs1 hSj hSi h1 g6 (by omega)
  have g8 := aStep_ok (k := 7) ⟨by decide, by decide⟩ hj hi hs1 hSj hSi h1 g7 (by omega)
  have e8 : mAll σ j i sw = _ := (((((((mAllF_u (k := 0) (by decide)).trans (mAllF_u (k := 1) (by decide))).trans (mAllF_u (k := 2) (by decide))).trans (mAllF_u (k := 3) (by decide))).trans (mAllF_u (k := 4) (by decide))).trans (mAllF_u (k := 5) (by decide))).trans (mAllF_u (k := 6) (by decide))).trans ((mAllF_u (k := 7) (by decide)).trans mAllF_e)
  refine r_aload_n (q := 1) dX5_all_0 rfl rfl ?_
  refine r_iconst (q := 2) dX5_all_1 rfl ?_
  refine p_X5_size (i := 0) (q := 5) dX5_all_2 rfl fX5_53 (hG _ _ rfl) ?_
  refine r_aload_n (q := 6) dX5_all_5 rfl rfl ?_
  refine r_iconst (q := 7) dX5_all_6 rfl ?_
  refine p_X5_pieceMany (i := 0) (q := 10) dX5_all_7 rfl fX5_56 (hG _ _ rfl) ?_
  refine r_iconst (q := 11) dX5_all_10 rfl ?_
  refine r_istore (q := 13) dX5_all_11 rfl (by decide) (Lst.setL rfl rfl) ?_
  rw [e8]
  refine all_0 hG hM hj hi hc hsw hs1 hSj hSi h1 g0 (by omega) ?_
  refine all_1 hG hM hj hi hc hsw hs1 hSj hSi h1 g1 (by omega) ?_
  refine all_2 hG hM hj hi hc hsw hs1 hSj hSi h1 g2 (by omega) ?_
  refine all_3 hG hM hj hi hc hsw hs1 hSj hSi h1 g3 (by omega) ?_
  refine all_4 hG hM hj hi hc hsw hs1 hSj hSi h1 g4 (by omega) ?_
  refine all_5 hG hM hj hi hc hsw hs1 hSj hSi h1 g5 (by omega) ?_
  refine all_6 hG hM hj hi hc hsw hs1 hSj hSi h1 g6 (by omega) ?_
  refine all_7 hG hM hj hi hc hsw hs1 hSj hSi h1 g7 (by omega) ?_
  refine r_iload (q := 15) dX5_all_13 rfl rfl ?_
  refine r_bipush (q := 17) dX5_all_15 rfl (bip (by decide) (by decide)) ?_
  refine r_icmp_ge (q := 20) (tgt := 186) dX5_all_17 rfl (by decide) (by omega) (by omega) (fun _ => ?_) (fun z => by exfalso; omega)
  refine r_retv dX5_all_186 rfl (by decide) (by decide) ?_
  exact ret_v rfl
end X5
