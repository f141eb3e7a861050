/-! MATHS 8: putting together, in both -/
def HdR (σ : St) (j : Nat) : Prop := hld σ j = true ∧ mlo σ j = cnt σ j ∧ cnt σ j ≤ 60 ∧ (∀ p : Int, 0 ≤ p → p < cnt σ j → pAt σ j p = msg σ (60 * (j : Int) + p).toNat) ∧ (∀ k : Nat, k < 9 → bg σ j k = mfr σ (9 * j + k) ∧ en σ j k = mto σ (9 * j + k) ∧ bg σ j k = Cb (pAt σ j) (cnt σ j) k ∧ en σ j k = Ce (pAt σ j) (cnt σ j) k) ∧ pt σ j = mpo σ j ∧ pt σ j = Cp (pAt σ j) (cnt σ j) ∧ Tz (pAt σ j) (cnt σ j) ∧ Esc (pAt σ j) (cnt σ j) ∧ mPl (pAt σ j) (cnt σ j) = -1
theorem SlR.hd {σ : St} {j : Nat} (h : SlR σ j) (hh : hld σ j = true) : HdR σ j := by
  rcases h with h | ⟨h, -⟩
  · exact h
  · rw [hh] at h; cases h
theorem HdR.tz {σ : St} {j : Nat} (h : HdR σ j) : Tz (pAt σ j) (cnt σ j) := h.2.2.2.2.2.2.2.1
theorem HdR.pb {σ : St} {j : Nat} (h : HdR σ j) {k : Nat} (hk : k < 9) : pBeg σ j (k : Int) = Cb (pAt σ j) (cnt σ j) k ∧ pEnd σ j (k : Int) = Ce (pAt σ j) (cnt σ j) k := by
  obtain ⟨-, -, x3, x4⟩ := h.2.2.2.2.1 k hk
  unfold pBeg pEnd
  rw [if_pos (by omega), if_pos (by omega), Int.toNat_natCast]
  exact ⟨x3, x4⟩
theorem HdR.src {σ : St} {j : Nat} (h : HdR σ j) {k : Nat} (hk : k < 9) : pS σ j (k : Int) = sA (pAt σ j) (cnt σ j) k := by
  obtain ⟨e1, e2⟩ := h.pb hk
  unfold pS sA pHas
  rw [e1, e2]
theorem HdR.mm {σ : St} {j : Nat} (h : HdR σ j) {k : Nat} (hk : k < 9) : mF σ (j : Int) (k : Int) = Cb (pAt σ j) (cnt σ j) k ∧ mTo σ (j : Int) (k : Int) = Ce (pAt σ j) (cnt σ j) k := by
  obtain ⟨x1, x2, x3, x4⟩ := h.2.2.2.2.1 k hk
  unfold mF mTo
  rw [show (9 * (j : Int) + (k : Int)).toNat = 9 * j + k by omega]
  exact ⟨x1.symm.trans x3, x2.symm.trans x4⟩
theorem HdR.lie {σ : St} {j : Nat} (h : HdR σ j) {k : Nat} (hk : k < 9) : Lie (pAt σ j) (cnt σ j) (mF σ (j : Int) (k : Int)) (mTo σ (j : Int) (k : Int)) := by
  obtain ⟨e1, e2⟩ := h.mm hk
  rw [e1, e2]
  exact cb_r h.tz k hk
theorem HdR.has {σ : St} {j : Nat} (h : HdR σ j) {k : Nat} (hk : k < 9) : pHas σ j (k : Int) = mHas σ (j : Int) (k : Int) ∧ (mHas σ (j : Int) (k : Int) = true ↔ Cb (pAt σ j) (cnt σ j) k ≠ -1) := by
  obtain ⟨e1, e2⟩ := h.pb hk
  obtain ⟨e3, e4⟩ := h.mm hk
  have hl := cb_r h.tz k hk
  have e : mHas σ (j : Int) (k : Int) = decide (Cb (pAt σ j) (cnt σ j) k ≠ -1) := by
    unfold mHas
    rw [e3]
    apply decide_eq_decide.mpr
    rcases hl with z | z <;> omega
  rw [e]
  unfold pHas
  rw [e1]
  exact ⟨rfl, decide_eq_true_iff⟩
theorem HdR.be {σ : St} {j : Nat} (h : HdR σ j) {k : Nat} (hk : k < 9) (hp : pHas σ j (k : Int) = true) : pBeg σ j (k : Int) ≤ pEnd σ j (k : Int) := by
  obtain ⟨e1, e2⟩ := h.pb hk
  rw [e1, e2]
  rcases cb_r h.tz k hk with z | z <;> omega
theorem HdR.hx {σ : St} {j : Nat} (h : HdR σ j) {k : Nat} (hk : k < 9) (hp : mHas σ (j : Int) (k : Int) = true) : 0 ≤ mF σ (j : Int) (k : Int) ∧ mF σ (j : Int) (k : Int) ≤ mTo σ (j : Int) (k : Int) ∧ mTo σ (j : Int) (k : Int) ≤ 60 ∧ Hx (msg σ) (60 * (j : Int) + mF σ (j : Int) (k : Int)) (60 * (j : Int) + mTo σ (j : Int) (k : Int)) := by
  have hl := h.lie hk
  have h0 : 0 ≤ mF σ (j : Int) (k : Int) := of_decide_eq_true hp
  have hE : Esc (pAt σ j) (cnt σ j) := h.2.2.2.2.2.2.2.2.1
  have hm := h.2.2.2.1
  have h60 := h.2.2.1
  rcases hl with z | ⟨z1, z2, z3, z4⟩
  · omega
  · refine ⟨z1, z2, by omega, fun p p1 p2 p3 => ?_⟩
    have e : ∀ q : Int, 0 ≤ q → q < cnt σ j → msg σ (60 * (j : Int) + q).toNat = pAt σ j q := fun q q0 q1 => (hm q q0 q1).symm
    have e1 := e (p - 60 * (j : Int)) (by omega) (by omega)
    rw [show 60 * (j : Int) + (p - 60 * (j : Int)) = p by omega, p3] at e1
    obtain ⟨y1, y2, y3⟩ := hE _ e1.symm
    have e2 := e (p - 60 * (j : Int) + 1) (by omega) (by omega)
    have e3 := e (p - 60 * (j : Int) + 2) (by omega) (by omega)
    rw [show 60 * (j : Int) + (p - 60 * (j : Int) + 1) = p + 1 by omega] at e2
    rw [show 60 * (j : Int) + (p - 60 * (j : Int) + 2) = p + 2 by omega] at e3
    rw [e2, e3]
    refine ⟨?_, y2, y3⟩
    rcases z4 with z4 | z4
    · omega
    · by_cases c1 : mTo σ (j : Int) (k : Int) = p - 60 * (j : Int) + 1
      · rw [c1, y2] at z4; cases z4
      · by_cases c2 : mTo σ (j : Int) (k : Int) = p - 60 * (j : Int) + 2
        · rw [c2, y3] at z4; cases z4
        · omega
theorem HdR.sl {σ : St} {j : Nat} (h : HdR σ j) : Sl σ (j : Int) := fun k h0 h8 hk => by
  have e : k = ((k.toNat : Nat) : Int) := by omega
  rw [e] at hk ⊢
  obtain ⟨x1, x2, x3, x4⟩ := h.hx (k := k.toNat) (by omega) hk
  exact ⟨x1, x2, x3, x4.wr⟩
theorem HdR.one {σ : St} {j : Nat} (h : HdR σ j) : mHas σ (j : Int) 1 = true ∧ pHas σ j 1 = true ∧ (mHas σ (j : Int) 5 = !cOpq (pAt σ j) (cnt σ j)) ∧ pHas σ j 5 = mHas σ (j : Int) 5 := by
  have hC := h.tz.gCol
  have hA := aE_r h.tz
  have a : mHas σ (j : Int) 1 = true := (h.has (k := 1) (by decide)).2.mpr (by show gCol (pAt σ j) (cnt σ j) + 1 ≠ -1; omega)
  have b : pHas σ j 1 = mHas σ (j : Int) 1 := (h.has (k := 1) (by decide)).1
  refine ⟨a, b.trans a, ?_, (h.has (k := 5) (by decide)).1⟩
  have c := (h.has (k := 5) (by decide)).2
  have c : mHas σ (j : Int) 5 = true ↔ (if cOpq (pAt σ j) (cnt σ j) = true then -1 else aE (pAt σ j) (cnt σ j)) ≠ -1 := c
  cases ho : cOpq (pAt σ j) (cnt σ j)
  · rw [ho] at c
    exact c.mpr (by rw [if_neg (by decide)]; omega)
  · rw [ho, if_pos rfl] at c
    cases hm : mHas σ (j : Int) 5
    · rfl
    · exact absurd rfl (c.mp hm)
-- the class's loom
def CT (σ a : St) : Prop := Wk a ∧ Same σ a ∧ ∀ m, m ≠ 6 → pAt a m = pAt σ m ∧ cnt a m = cnt σ m
theorem CT.wp {σ a : St} (h : CT σ a) (w1 j : Nat) (k : Int) (w2 : Nat) : CT σ (pWP a w1 j k w2) := by
  refine ⟨Wk_wp h.1 _ _ _ _, h.2.1.trans (Same.wp _ _ _ _ _), fun m hm => ?_⟩
  obtain ⟨x1, x2⟩ := wp_o (σ := a) (w1 := w1) (j := j) (k := k) (w2 := w2) hm
  obtain ⟨y1, y2⟩ := h.2.2 m hm
  exact ⟨x1.trans y1, x2.trans y2⟩
theorem CT.src {σ a : St} (h : CT σ a) {j : Nat} (hj : j ≠ 6) (k : Int) : pS a j k = pS σ j k ∧ pHas a j k = pHas σ j k := by
  obtain ⟨e1, e2, e3⟩ := pBeg_same h.2.1 j k
  unfold pS
  rw [e1, e2, e3, (h.2.2 j hj).1]
  exact ⟨rfl, rfl⟩
theorem CT.n {σ a : St} (h : CT σ a) {j : Nat} (hj : j ≠ 6) {k : Int} {w1 w2 : Nat} (hb : pHas σ j k = true → pBeg σ j k ≤ pEnd σ j k) : cnt (pWP a w1 j k w2) 6 = min 128 (cnt a 6 + cst (pS σ j k) (tS w1) (tS w2)) := by
  obtain ⟨e1, e2, e3⟩ := pBeg_same h.2.1 j k
  rw [wp_n h.1 (by rw [e1, e2, e3]; exact hb), (h.src hj k).1]
theorem CT.t {σ a : St} (h : CT σ a) {j : Nat} (hj : j ≠ 6) {k : Int} {w1 w2 : Nat} (h1 : w1 < nS) (h2 : w2 < nS) (hb : pHas σ j k = true → pBeg σ j k ≤ pEnd σ j k) (hn : cnt a 6 + cst (pS σ j k) (tS w1) (tS w2) ≤ 128) : tx (pWP a w1 j k w2) 6 = stq (tx a 6) (pS σ j k) (tS w1) (tS w2) := by
  obtain ⟨e1, e2, e3⟩ := pBeg_same h.2.1 j k
  rw [wp_at h.1 hj h1 h2 (by rw [e1, e2, e3]; exact hb) (by rw [(h.src hj k).1]; exact hn), (h.src hj k).1]
theorem CT.short {σ : St} (hW : Wk σ) : CT σ (pShort σ 6 0) ∧ tx (pShort σ 6 0) 6 = (fun _ => 0, 0) := by
  have h0 := (hW.1 6).1
  have hc : cnt (pShort σ 6 0) 6 = 0 := by
    unfold pShort
    split
    · show u1 (cnt σ) 6 0 6 = 0
      exact u1_s _ _ _
    · omega
  refine ⟨⟨Wk_short hW _ _, Same.short σ 6 0, fun m hm => ?_⟩, ?_⟩
  · unfold pShort
    split
    · have e1 : cnt (sCnt σ (u1 (cnt σ) 6 0)) m = cnt σ m := u1_n _ _ hm
      refine ⟨?_, e1⟩
      funext p
      unfold pAt
      rw [e1]
      rfl
    · exact ⟨rfl, rfl⟩
  · unfold tx
    rw [hc]
    congr 1
    funext p
    unfold pAt
    rw [hc, if_neg (by omega)]
def S1c (σ : St) (j : Nat) : Src := (!pHas σ j 5 && pHas σ j 1, pAt σ j, pBeg σ j 1, pEnd σ j 1)
theorem cst_0 {S : Src} {w1 w2 : List Int} (h : S.1 = true → S.2.2.1 ≤ S.2.2.2) : 0 ≤ cst S w1 w2 := by
  unfold cst
  split
  · rename_i hs
    have := h hs
    omega
  · omega
/-- what the loom has at the end -/
theorem wv_e {σ : St} (hW : Wk σ) {j i : Nat} (hj : j ≠ 6) (hi : i ≠ 6) {sw : Int} (hbj : ∀ k : Nat, k < 9 → pHas σ j (k : Int) = true → pBeg σ j (k : Int) ≤ pEnd σ j (k : Int)) (hbi : ∀ k : Nat, k < 9 → pHas σ i (k : Int) = true → pBeg σ i (k : Int) ≤ pEnd σ i (k : Int)) : CT σ (pWv σ j i sw) ∧ cnt (pWv σ j i sw) 6 = min 128 (csum (pS σ (wsel sw 0 j i) 0) (S1c σ j) (pS σ (wsel sw 2 j i) 2) (pS σ (wsel sw 5 j i) 5) (pS σ (wsel sw 6 j i) 6) (pS σ (wsel sw 7 j i) 7)) ∧ (csum (pS σ (wsel sw 0 j i) 0) (S1c σ j) (pS σ (wsel sw 2 j i) 2) (pS σ (wsel sw 5 j i) 5) (pS σ (wsel sw 6 j i) 6) (pS σ (wsel sw 7 j i) 7) ≤ 128 → tx (pWv σ j i sw) 6 = chn (fun _ => 0, 0) (pS σ (wsel sw 0 j i) 0) (S1c σ j) (pS σ (wsel sw 2 j i) 2) (pS σ (wsel sw 5 j i) 5) (pS σ (wsel sw 6 j i) 6) (pS σ (wsel sw 7 j i) 7)) := by
  have w6 : ∀ k : Int, wsel sw k j i ≠ 6 := fun k => by unfold wsel; split; exact hi; exact hj
  have wb : ∀ k : Nat, k < 9 → pHas σ (wsel sw (k : Int) j i) (k : Int) = true → pBeg σ (wsel sw (k : Int) j i) (k : Int) ≤ pEnd σ (wsel sw (k : Int) j i) (k : Int) := fun k hk => by
    unfold wsel
    split
    · exact hbi k hk
    · exact hbj k hk
  have b0 : pHas σ (wsel sw 0 j i) 0 = true → pBeg σ (wsel sw 0 j i) 0 ≤ pEnd σ (wsel sw 0 j i) 0 := wb 0 (by decide)
  have b1 : pHas σ j 1 = true → pBeg σ j 1 ≤ pEnd σ j 1 := hbj 1 (by decide)
  have b2 : pHas σ (wsel sw 2 j i) 2 = true → pBeg σ (wsel sw 2 j i) 2 ≤ pEnd σ (wsel sw 2 j i) 2 := wb 2 (by decide)
  have b5 : pHas σ (wsel sw 5 j i) 5 = true → pBeg σ (wsel sw 5 j i) 5 ≤ pEnd σ (wsel sw 5 j i) 5 := wb 5 (by decide)
  have b6 : pHas σ (wsel sw 6 j i) 6 = true → pBeg σ (wsel sw 6 j i) 6 ≤ pEnd σ (wsel sw 6 j i) 6 := wb 6 (by decide)
  have b7 : pHas σ (wsel sw 7 j i) 7 = true → pBeg σ (wsel sw 7 j i) 7 ≤ pEnd σ (wsel sw 7 j i) 7 := wb 7 (by decide)
  obtain ⟨c0, x0⟩ := CT.short hW
  have n0 : cnt (pShort σ 6 0) 6 = 0 := congrArg Prod.snd x0
  have c1 : CT σ (wv1 σ j i sw) := c0.wp _ _ _ _
  have n1 : cnt (wv1 σ j i sw) 6 = _ := c0.n (w1 := 8) (w2 := 7) (w6 0) b0
  have c2 : CT σ (wv2 σ j i sw) := by
    unfold wv2
    split
    · exact c1
    · exact c1.wp _ _ _ _
  have s1 : pHas σ j 5 = false → S1c σ j = pS σ j 1 := fun h => by unfold S1c pS; rw [h]; rfl
  have n2 : cnt (wv2 σ j i sw) 6 = min 128 (cnt (wv1 σ j i sw) 6 + cst (S1c σ j) [] []) := by
    unfold wv2
    rw [(c1.src hj 5).2]
    cases h5 : pHas σ j 5
    · rw [if_neg (by decide), s1 h5]
      exact c1.n (w1 := 8) (w2 := 8) hj b1
    · rw [if_pos rfl]
      have hz : cst (S1c σ j) [] [] = 0 := by unfold cst; rw [if_neg]; show ¬ (!pHas σ j 5 && pHas σ j 1) = true; rw [h5]; simp
      have := c1.1.1 6
      rw [hz]
      omega
  have c3 : CT σ (wv3 σ j i sw) := c2.wp _ _ _ _
  have n3 : cnt (wv3 σ j i sw) 6 = _ := c2.n (w1 := 9) (w2 := 8) (w6 2) b2
  have c4 : CT σ (wv4 σ j i sw) := c3.wp _ _ _ _
  have n4 : cnt (wv4 σ j i sw) 6 = _ := c3.n (w1 := 8) (w2 := 8) (w6 5) b5
  have c5 : CT σ (wv5 σ j i sw) := c4.wp _ _ _ _
  have n5 : cnt (wv5 σ j i sw) 6 = _ := c4.n (w1 := 10) (w2 := 8) (w6 6) b6
  have c6 : CT σ (pWv σ j i sw) := c5.wp _ _ _ _
  have n6 : cnt (pWv σ j i sw) 6 = _ := c5.n (w1 := 2) (w2 := 8) (w6 7) b7
  have z0 := cst_0 (S := pS σ (wsel sw 0 j i) 0) (w1 := tS 8) (w2 := tS 7) b0
  have z1 := cst_0 (S := S1c σ j) (w1 := []) (w2 := []) (fun h => by
    have h : (!pHas σ j 5 && pHas σ j 1) = true := h
    rw [Bool.and_eq_true] at h
    exact b1 h.2)
  have z2 := cst_0 (S := pS σ (wsel sw 2 j i) 2) (w1 := tS 9) (w2 := tS 8) b2
  have z5 := cst_0 (S := pS σ (wsel sw 5 j i) 5) (w1 := tS 8) (w2 := tS 8) b5
  have z6 := cst_0 (S := pS σ (wsel sw 6 j i) 6) (w1 := tS 10) (w2 := tS 8) b6
  have z7 := cst_0 (S := pS σ (wsel sw 7 j i) 7) (w1 := tS 2) (w2 := tS 8) b7
  have es : csum (pS σ (wsel sw 0 j i) 0) (S1c σ j) (pS σ (wsel sw 2 j i) 2) (pS σ (wsel sw 5 j i) 5) (pS σ (wsel sw 6 j i) 6) (pS σ (wsel sw 7 j i) 7) = cst (pS σ (wsel sw 0 j i) 0) (tS 8) (tS 7) + cst (S1c σ j) [] [] + cst (pS σ (wsel sw 2 j i) 2) (tS 9) (tS 8) + cst (pS σ (wsel sw 5 j i) 5) (tS 8) (tS 8) + cst (pS σ (wsel sw 6 j i) 6) (tS 10) (tS 8) + cst (pS σ (wsel sw 7 j i) 7) (tS 2) (tS 8) := rfl
  refine ⟨c6, by omega, fun hs => ?_⟩
  have t1 : tx (wv1 σ j i sw) 6 = _ := c0.t (w1 := 8) (w2 := 7) (w6 0) (by decide) (by decide) b0 (by omega)
  have t2 : tx (wv2 σ j i sw) 6 = stq (tx (wv1 σ j i sw) 6) (S1c σ j) [] [] := by
    unfold wv2
    rw [(c1.src hj 5).2]
    cases h5 : pHas σ j 5
    · rw [if_neg (by decide)]
      have e := s1 h5
      have hz : cnt (wv1 σ j i sw) 6 + cst (pS σ j 1) [] [] ≤ 128 := by
        rw [← e]
        omega
      rw [e]
      exact c1.t (w1 := 8) (w2 := 8) hj (by decide) (by decide) b1 hz
    · rw [if_pos rfl, stq_no (by show (!pHas σ j 5 && pHas σ j 1) = false; rw [h5]; rfl)]
  have t3 : tx (wv3 σ j i sw) 6 = _ := c2.t (w1 := 9) (w2 := 8) (w6 2) (by decide) (by decide) b2 (by omega)
  have t4 : tx (wv4 σ j i sw) 6 = _ := c3.t (w1 := 8) (w2 := 8) (w6 5) (by decide) (by decide) b5 (by omega)
  have t5 : tx (wv5 σ j i sw) 6 = _ := c4.t (w1 := 10) (w2 := 8) (w6 6) (by decide) (by decide) b6 (by omega)
  have t6 : tx (pWv σ j i sw) 6 = _ := c5.t (w1 := 2) (w2 := 8) (w6 7) (by decide) (by decide) b7 (by omega)
  rw [t6, t5, t4, t3, t2, t1, x0]
  rfl
-- the model's
theorem Hx.one' {c : Int} (hc : c ≠ 37) : Hx (one c) 0 1 := fun p h1 h2 h3 => by
  have hp : p = 0 := by omega
  subst hp
  exact absurd h3 hc
theorem PcO.sign {s : St} (h : PcO s) {c : Int} (hc : c ≠ 37) : PcO (mSign s c) := PcO.put 0 (by omega) (by omega) s h (Hx.one' hc)
theorem PcO.pre {s : St} (h : PcO s) (k : Int) : PcO (aPre s k) := by
  unfold aPre
  split
  · exact (h.sign (by decide)).sign (by decide)
  · split
    · exact h.sign (by decide)
    · split
      · exact h.sign (by decide)
      · exact h
theorem PcO.post {s : St} (h : PcO s) (k : Int) : PcO (aPost s k) := by
  unfold aPost
  split
  · exact h.sign (by decide)
  · exact h
/-- a slot's parts, with their escapes -/
def SlH (s : St) (j : Int) : Prop := ∀ k : Int, 0 ≤ k → k ≤ 8 → mHas s j k = true → 0 ≤ mF s j k ∧ mF s j k ≤ mTo s j k ∧ mTo s j k ≤ 60 ∧ Hx (msg s) (60 * j + mF s j k) (60 * j + mTo s j k)
theorem HdR.slh {σ : St} {j : Nat} (h : HdR σ j) : SlH σ (j : Int) := fun k h0 h8 hk => by
  have e : k = ((k.toNat : Nat) : Int) := by omega
  rw [e] at hk ⊢
  exact h.hx (k := k.toNat) (by omega) hk
theorem SlH.c {a s : St} (h : Sq a s) {j : Int} (hS : SlH a j) : SlH s j := fun k h0 h8 hk => by
  obtain ⟨-, e2, e3, e4⟩ := h.many j k
  rw [e4] at hk
  rw [e2, e3, h.1]
  exact hS k h0 h8 hk
theorem SlH.sl {s : St} {j : Int} (h : SlH s j) : Sl s j := fun k h0 h8 hk => by
  obtain ⟨x1, x2, x3, x4⟩ := h k h0 h8 hk
  exact ⟨x1, x2, x3, x4.wr⟩
theorem aHx {s : St} {j i sw k : Int} (hk : 0 ≤ k ∧ k < 8) (hsw : sw ≠ 1) (hj : SlH s j) (hi : SlH s i) (h1 : mHas s j 1 = true) (h : aIs s j i sw k = true) : Hx (msg s) (60 * aBy sw k j i + mF s (aBy sw k j i) k) (60 * aBy sw k j i + mTo s (aBy sw k j i) k) ∧ 0 ≤ mF s (aBy sw k j i) k ∧ mF s (aBy sw k j i) k ≤ mTo s (aBy sw k j i) k := by
  unfold aIs at h
  split at h
  · rename_i e
    subst e
    unfold aBy
    rw [if_neg (by omega)]
    obtain ⟨x1, x2, x3, x4⟩ := hj 1 (by omega) (by omega) h1
    exact ⟨x4, x1, x2⟩
  · split at h
    · cases h
    · unfold aBy at h ⊢
      split at h
      · rename_i e
        rw [if_pos e]
        obtain ⟨x1, x2, x3, x4⟩ := hi k hk.1 (by omega) h
        exact ⟨x4, x1, x2⟩
      · rename_i e
        rw [if_neg e]
        obtain ⟨x1, x2, x3, x4⟩ := hj k hk.1 (by omega) h
        exact ⟨x4, x1, x2⟩
theorem PcO.astep {s : St} (h : PcO s) {j i sw k : Int} (hk : 0 ≤ k ∧ k < 8) (hj4 : 0 ≤ j ∧ j < 4) (hi4 : 0 ≤ i ∧ i < 4) (hsw : sw ≠ 1) (hj : SlH s j) (hi : SlH s i) (h1 : mHas s j 1 = true) : PcO (aStep s j i sw k) := by
  unfold aStep
  split
  · rename_i his
    have q := Sq.of (aPre_q s (k := k) h.2.2.2)
    obtain ⟨x1, x2, x3⟩ := aHx hk hsw hj hi h1 his
    obtain ⟨-, e2, e3, -⟩ := q.many (aBy sw k j i) k
    have hby := (aBy_r (sw := sw) (k := k) hj4 hi4).1
    refine PcO.post ?_ k
    exact PcO.put _ (by rw [e2, e3]; omega) (by rw [e2]; omega) _ (h.pre k) (by rw [e2, e3, q.1]; exact x1)
  · exact h
theorem mS_c {a s : St} (h : Sq a s) (j i sw k : Int) : mS' s j i sw k = mS' a j i sw k := by
  obtain ⟨-, e2, e3, -⟩ := h.many (aBy sw k j i) k
  unfold mS'
  rw [aIs_c h, e2, e3, h.1]
theorem cost_e {s : St} {j i sw k : Int} (hk : 0 ≤ k ∧ k < 8) (h0 : aIs s j i sw k = true → 0 ≤ mF s (aBy sw k j i) k) : aCost s j i sw k = cst (mS' s j i sw k) (preL k) (postL k) := by
  have e1 : aPz k = ((preL k).length : Int) := by
    unfold aPz preL
    by_cases h2 : k = 2
    · rw [if_pos h2, if_pos h2]; rfl
    · rw [if_neg h2, if_neg h2]
      by_cases h6 : k = 6
      · rw [if_pos (Or.inl h6), if_pos h6]; rfl
      · rw [if_neg h6]
        by_cases h7 : k = 7
        · rw [if_pos (Or.inr h7), if_pos h7]; rfl
        · rw [if_neg (by omega), if_neg h7]; rfl
  have e2 : aQz k = ((postL k).length : Int) := by
    unfold aQz postL
    by_cases h0 : k = 0
    · rw [if_pos h0, if_pos h0]; rfl
    · rw [if_neg h0, if_neg h0]; rfl
  unfold aCost cst
  have e3 : (mS' s j i sw k).1 = aIs s j i sw k := rfl
  rw [e3]
  by_cases h : aIs s j i sw k = true
  · rw [if_pos h, if_pos h, e1, e2]
    show ((preL k).length : Int) + mMany s (aBy sw k j i) k + ((postL k).length : Int) = ((preL k).length : Int) + (mTo s (aBy sw k j i) k - mF s (aBy sw k j i) k) + ((postL k).length : Int)
    unfold mMany
    rw [if_neg (by have := h0 h; omega)]
  · rw [if_neg h, if_neg h]
theorem aIs_no (s : St) (j i sw : Int) : aIs s j i sw 3 = false ∧ aIs s j i sw 4 = false := by
  constructor
  · unfold aIs
    rw [if_neg (by decide), if_pos (by decide)]
  · unfold aIs
    rw [if_neg (by decide), if_pos (by decide)]
theorem cst_no {S : Src} (h : S.1 = false) (w1 w2 : List Int) : cst S w1 w2 = 0 := by
  unfold cst
  rw [if_neg (by rw [h]; decide)]
theorem mAll_sum {s : St} {j i sw : Int} (hsw : sw ≠ 1) (hj : SlH s j) (hi : SlH s i) (h1 : mHas s j 1 = true) : aRest s j i sw 0 = csum (mS' s j i sw 0) (mS' s j i sw 1) (mS' s j i sw 2) (mS' s j i sw 5) (mS' s j i sw 6) (mS' s j i sw 7) := by
  have c : ∀ k : Int, 0 ≤ k ∧ k < 8 → aCost s j i sw k = cst (mS' s j i sw k) (preL k) (postL k) := fun k hk => cost_e hk (fun h => (aHx hk hsw hj hi h1 h).2.1)
  have a0 := aRest_u (s := s) (j := j) (i := i) (sw := sw) (k := 0) (by decide)
  have a1 := aRest_u (s := s) (j := j) (i := i) (sw := sw) (k := 1) (by decide)
  have a2 := aRest_u (s := s) (j := j) (i := i) (sw := sw) (k := 2) (by decide)
  have a3 := aRest_u (s := s) (j := j) (i := i) (sw := sw) (k := 3) (by decide)
  have a4 := aRest_u (s := s) (j := j) (i := i) (sw := sw) (k := 4) (by decide)
  have a5 := aRest_u (s := s) (j := j) (i := i) (sw := sw) (k := 5) (by decide)
  have a6 := aRest_u (s := s) (j := j) (i := i) (sw := sw) (k := 6) (by decide)
  have a7 := aRest_u (s := s) (j := j) (i := i) (sw := sw) (k := 7) (by decide)
  have a8 : aRest s j i sw 8 = 0 := by rw [aRest.eq_def, if_neg (by decide)]
  simp only [Int.reduceAdd] at a0 a1 a2 a3 a4 a5 a6 a7
  have k0 : aCost s j i sw 0 = cst (mS' s j i sw 0) [] [58] := c 0 (by decide)
  have k1 : aCost s j i sw 1 = cst (mS' s j i sw 1) [] [] := c 1 (by decide)
  have k2 : aCost s j i sw 2 = cst (mS' s j i sw 2) [47, 47] [] := c 2 (by decide)
  have k3 : aCost s j i sw 3 = 0 := (c 3 (by decide)).trans (cst_no (aIs_no s j i sw).1 _ _)
  have k4 : aCost s j i sw 4 = 0 := (c 4 (by decide)).trans (cst_no (aIs_no s j i sw).2 _ _)
  have k5 : aCost s j i sw 5 = cst (mS' s j i sw 5) [] [] := c 5 (by decide)
  have k6 : aCost s j i sw 6 = cst (mS' s j i sw 6) [63] [] := c 6 (by decide)
  have k7 : aCost s j i sw 7 = cst (mS' s j i sw 7) [35] [] := c 7 (by decide)
  unfold csum
  omega
theorem tm_w (s : St) : tm (sMpm (sMsz s 0) 0) = (fun _ => 0, 0) := by
  have e : mT (sMpm (sMsz s 0) 0) = fun _ => 0 := by
    funext p
    exact mT_out (fun z => by have z : 0 ≤ p ∧ p < 0 := z; omega)
  unfold tm
  rw [e]
  rfl
/-- what the model puts together -/
theorem mAll_at {s : St} (hM : Mw s) {j i sw : Int} (hj4 : 0 ≤ j ∧ j < 4) (hi4 : 0 ≤ i ∧ i < 4) (hsw : sw ≠ 1) (hj : SlH s j) (hi : SlH s i) (h1 : mHas s j 1 = true) (hR : aRest s j i sw 0 ≤ 60) : tm (mAll s j i sw) = chn (fun _ => 0, 0) (mS' s j i sw 0) (mS' s j i sw 1) (mS' s j i sw 2) (mS' s j i sw 5) (mS' s j i sw 6) (mS' s j i sw 7) ∧ PcO (mAll s j i sw) := by
  have key : ∀ (x : St) (z k : Int), 0 ≤ k ∧ k < 8 → Gs s x z → PcO x → z + aCost s j i sw k ≤ 60 → Gs s (aStep x j i sw k) (z + aCost s j i sw k) ∧ PcO (aStep x j i sw k) ∧ tm (aStep x j i sw k) = stq (tm x) (mS' s j i sw k) (preL k) (postL k) := by
    intro x z k hk hG hP hz
    have hq := Sq.of hG.2.1
    have hby := (aBy_r (sw := sw) (k := k) hj4 hi4).1
    have hx0 := hG.1.sz
    refine ⟨aStep_ok hk hj4 hi4 hsw hj.sl hi.sl h1 hG hz, hP.astep hk hj4 hi4 hsw (SlH.c hq hj) (SlH.c hq hi) (by rw [(hq.many j 1).2.2.2]; exact h1), ?_⟩
    rw [← mS_c hq]
    exact astep_at hx0.1 hby (fun h => aSg hk hsw (Sl.c hq hj.sl) (Sl.c hq hi.sl) (by rw [(hq.many j 1).2.2.2]; exact h1) h)
  have a0 := aRest_u (s := s) (j := j) (i := i) (sw := sw) (k := 0) (by decide)
  have a1 := aRest_u (s := s) (j := j) (i := i) (sw := sw) (k := 1) (by decide)
  have a2 := aRest_u (s := s) (j := j) (i := i) (sw := sw) (k := 2) (by decide)
  have a3 := aRest_u (s := s) (j := j) (i := i) (sw := sw) (k := 3) (by decide)
  have a4 := aRest_u (s := s) (j := j) (i := i) (sw := sw) (k := 4) (by decide)
  have a5 := aRest_u (s := s) (j := j) (i := i) (sw := sw) (k := 5) (by decide)
  have a6 := aRest_u (s := s) (j := j) (i := i) (sw := sw) (k := 6) (by decide)
  have a7 := aRest_u (s := s) (j := j) (i := i) (sw := sw) (k := 7) (by decide)
  simp only [Int.reduceAdd] at a0 a1 a2 a3 a4 a5 a6 a7
  have r0 := aRest_0 (sw := sw) hsw hj.sl hi.sl h1 1 (by decide) (by decide)
  have r2 := aRest_0 (sw := sw) hsw hj.sl hi.sl h1 2 (by decide) (by decide)
  have r3 := aRest_0 (sw := sw) hsw hj.sl hi.sl h1 3 (by decide) (by decide)
  have r4 := aRest_0 (sw := sw) hsw hj.sl hi.sl h1 4 (by decide) (by decide)
  have r5 := aRest_0 (sw := sw) hsw hj.sl hi.sl h1 5 (by decide) (by decide)
  have r6 := aRest_0 (sw := sw) hsw hj.sl hi.sl h1 6 (by decide) (by decide)
  have r7 := aRest_0 (sw := sw) hsw hj.sl hi.sl h1 7 (by decide) (by decide)
  have r8 := aRest_0 (sw := sw) hsw hj.sl hi.sl h1 8 (by decide) (by decide)
  have t0 := tm_w s
  have g0 := Gs.wiped hM
  have p0 := PcO.wiped s
  have e0 : mAll s j i sw = mAllF (sMpm (sMsz s 0) 0) j i sw 0 := rfl
  generalize sMpm (sMsz s 0) 0 = x0 at t0 g0 p0 e0
  obtain ⟨g1, p1, t1⟩ := key x0 _ 0 (by decide) g0 p0 (by omega)
  have e1 := mAllF_u (s := x0) (j := j) (i := i) (sw := sw) (k := 0) (by decide)
  generalize aStep x0 j i sw 0 = x1 at g1 p1 t1 e1
  obtain ⟨g2, p2, t2⟩ := key x1 _ 1 (by decide) g1 p1 (by omega)
  have e2 := mAllF_u (s := x1) (j := j) (i := i) (sw := sw) (k := 1) (by decide)
  generalize aStep x1 j i sw 1 = x2 at g2 p2 t2 e2
  obtain ⟨g3, p3, t3⟩ := key x2 _ 2 (by decide) g2 p2 (by omega)
  have e3 := mAllF_u (s := x2) (j := j) (i := i) (sw := sw) (k := 2) (by decide)
  generalize aStep x2 j i sw 2 = x3 at g3 p3 t3 e3
  obtain ⟨g4, p4, t4⟩ := key x3 _ 3 (by decide) g3 p3 (by omega)
  have e4 := mAllF_u (s := x3) (j := j) (i := i) (sw := sw) (k := 3) (by decide)
  generalize aStep x3 j i sw 3 = x4 at g4 p4 t4 e4
  obtain ⟨g5, p5, t5⟩ := key x4 _ 4 (by decide) g4 p4 (by omega)
  have e5 := mAllF_u (s := x4) (j := j) (i := i) (sw := sw) (k := 4) (by decide)
  generalize aStep x4 j i sw 4 = x5 at g5 p5 t5 e5
  obtain ⟨g6, p6, t6⟩ := key x5 _ 5 (by decide) g5 p5 (by omega)
  have e6 := mAllF_u (s := x5) (j := j) (i := i) (sw := sw) (k := 5) (by decide)
  generalize aStep x5 j i sw 5 = x6 at g6 p6 t6 e6
  obtain ⟨g7, p7, t7⟩ := key x6 _ 6 (by decide) g6 p6 (by omega)
  have e7 := mAllF_u (s := x6) (j := j) (i := i) (sw := sw) (k := 6) (by decide)
  generalize aStep x6 j i sw 6 = x7 at g7 p7 t7 e7
  obtain ⟨g8, p8, t8⟩ := key x7 _ 7 (by decide) g7 p7 (by omega)
  have e8 := mAllF_u (s := x7) (j := j) (i := i) (sw := sw) (k := 7) (by decide)
  generalize aStep x7 j i sw 7 = x8 at g8 p8 t8 e8
  have e9 : mAllF x8 j i sw (7 + 1) = x8 := mAllF_e
  have ee : mAll s j i sw = x8 := by
    rw [e0, e1]
    show mAllF x1 j i sw 1 = x8
    rw [e2]
    show mAllF x2 j i sw 2 = x8
    rw [e3]
    show mAllF x3 j i sw 3 = x8
    rw [e4]
    show mAllF x4 j i sw 4 = x8
    rw [e5]
    show mAllF x5 j i sw 5 = x8
    rw [e6]
    show mAllF x6 j i sw 6 = x8
    rw [e7]
    show mAllF x7 j i sw 7 = x8
    rw [e8]
    exact e9
  rw [ee]
  refine ⟨?_, p8⟩
  rw [stq_no (aIs_no s j i sw).1] at t4
  rw [stq_no (aIs_no s j i sw).2] at t5
  rw [t8, t7, t6, t5, t4, t3, t2, t1, t0]
  rfl
-- the same parts for both
theorem Se_b {σ : St} {b : Nat} (h : HdR σ b) {k : Nat} (hk : k < 9) : Se (pS σ b (k : Int)) (mHas σ (b : Int) (k : Int), fun p => msg σ (60 * (b : Int) + p).toNat, mF σ (b : Int) (k : Int), mTo σ (b : Int) (k : Int)) := by
  obtain ⟨e1, e2⟩ := h.pb hk
  obtain ⟨e3, e4⟩ := h.mm hk
  refine ⟨(h.has hk).1, fun _ => ⟨by show pBeg σ b (k : Int) = mF σ (b : Int) (k : Int); rw [e1, e3], by show pEnd σ b (k : Int) = mTo σ (b : Int) (k : Int); rw [e2, e4], fun p p1 p2 => ?_⟩⟩
  have p1 : pBeg σ b (k : Int) ≤ p := p1
  have p2 : p < pEnd σ b (k : Int) := p2
  rw [e1] at p1
  rw [e2] at p2
  rcases cb_r h.tz k hk with z | z
  · omega
  · exact h.2.2.2.1 p (by omega) (by omega)
theorem Se_k {σ : St} {j i : Nat} (hj : HdR σ j) (hi : HdR σ i) (sw : Int) {k : Nat} (hk : k < 9) (h1 : k ≠ 1) (h3 : k ≠ 3) (h4 : k ≠ 4) : Se (pS σ (wsel sw (k : Int) j i) (k : Int)) (mS' σ (j : Int) (i : Int) sw (k : Int)) := by
  have ea : aIs σ (j : Int) (i : Int) sw (k : Int) = mHas σ (aBy sw (k : Int) (j : Int) (i : Int)) (k : Int) := by
    unfold aIs
    rw [if_neg (by omega), if_neg (by omega)]
  unfold mS'
  rw [ea]
  by_cases hs : sw = (k : Int)
  · have e1 : wsel sw (k : Int) j i = i := if_pos hs
    have e2 : aBy sw (k : Int) (j : Int) (i : Int) = (i : Int) := if_pos hs.symm
    rw [e1, e2]
    exact Se_b hi hk
  · have e1 : wsel sw (k : Int) j i = j := if_neg hs
    have e2 : aBy sw (k : Int) (j : Int) (i : Int) = (j : Int) := if_neg (fun z => hs z.symm)
    rw [e1, e2]
    exact Se_b hj hk
theorem Se_1 {σ : St} {j i : Nat} (hj : HdR σ j) {sw : Int} (hs : sw ≠ 1) : Se (S1c σ j) (mS' σ (j : Int) (i : Int) sw 1) := by
  obtain ⟨o1, o2, o3, o4⟩ := hj.one
  have e2 : aBy sw 1 (j : Int) (i : Int) = (j : Int) := if_neg (fun z => hs z.symm)
  have ea : aIs σ (j : Int) (i : Int) sw 1 = !mHas σ (j : Int) 5 := by
    unfold aIs
    rw [if_pos rfl]
  have hb := Se_b hj (k := 1) (by decide)
  unfold mS'
  rw [ea, e2]
  refine ⟨by show (!pHas σ j 5 && pHas σ j 1) = !mHas σ (j : Int) 5; rw [o2, o4, Bool.and_true], fun _ => hb.2 o2⟩
def CS (σ : St) (j i : Nat) (sw : Int) : Int := csum (pS σ (wsel sw 0 j i) 0) (S1c σ j) (pS σ (wsel sw 2 j i) 2) (pS σ (wsel sw 5 j i) 5) (pS σ (wsel sw 6 j i) 6) (pS σ (wsel sw 7 j i) 7)
theorem CS_e {σ : St} {j i : Nat} (hj : HdR σ j) (hi : HdR σ i) {sw : Int} (hs : sw ≠ 1) : CS σ j i sw = aRest σ (j : Int) (i : Int) sw 0 := by
  rw [mAll_sum hs hj.slh hi.slh hj.one.1]
  exact csum_c (Se_k hj hi sw (k := 0) (by decide) (by decide) (by decide) (by decide)) (Se_1 hj hs) (Se_k hj hi sw (k := 2) (by decide) (by decide) (by decide) (by decide)) (Se_k hj hi sw (k := 5) (by decide) (by decide) (by decide) (by decide)) (Se_k hj hi sw (k := 6) (by decide) (by decide) (by decide) (by decide)) (Se_k hj hi sw (k := 7) (by decide) (by decide) (by decide) (by decide))
theorem S1_own {σ : St} {j : Nat} (hj : HdR σ j) : S1c σ j = sM (pAt σ j) (cnt σ j) := by
  obtain ⟨o1, o2, o3, o4⟩ := hj.one
  obtain ⟨e1, e2⟩ := hj.pb (k := 1) (by decide)
  have e1 : pBeg σ j 1 = Cb (pAt σ j) (cnt σ j) 1 := e1
  have e2 : pEnd σ j 1 = Ce (pAt σ j) (cnt σ j) 1 := e2
  unfold S1c sM
  rw [o2, o4, o3, e1, e2, Bool.and_true, Bool.not_not]
theorem chn_self {σ : St} {j : Nat} (hj : HdR σ j) (sw : Int) : chn (fun _ => 0, 0) (pS σ (wsel sw 0 j j) 0) (S1c σ j) (pS σ (wsel sw 2 j j) 2) (pS σ (wsel sw 5 j j) 5) (pS σ (wsel sw 6 j j) 6) (pS σ (wsel sw 7 j j) 7) = (sh (pAt σ j) (gCol (pAt σ j) (cnt σ j) + 1) (dd (pAt σ j) (cnt σ j)) (cnt σ j), cnt σ j - dd (pAt σ j) (cnt σ j)) := by
  have w : ∀ k : Int, wsel sw k j j = j := fun k => by unfold wsel; split <;> rfl
  rw [w, w, w, w, w, S1_own hj]
  have s0 := hj.src (k := 0) (by decide)
  have s2 := hj.src (k := 2) (by decide)
  have s5 := hj.src (k := 5) (by decide)
  have s6 := hj.src (k := 6) (by decide)
  have s7 := hj.src (k := 7) (by decide)
  have s0 : pS σ j 0 = sA (pAt σ j) (cnt σ j) 0 := s0
  have s2 : pS σ j 2 = sA (pAt σ j) (cnt σ j) 2 := s2
  have s5 : pS σ j 5 = sA (pAt σ j) (cnt σ j) 5 := s5
  have s6 : pS σ j 6 = sA (pAt σ j) (cnt σ j) 6 := s6
  have s7 : pS σ j 7 = sA (pAt σ j) (cnt σ j) 7 := s7
  rw [s0, s2, s5, s6, s7]
  exact chn_own hj.tz
theorem CS_self {σ : St} {j : Nat} (hj : HdR σ j) (sw : Int) : CS σ j j sw = cnt σ j - dd (pAt σ j) (cnt σ j) := by
  have h := congrArg Prod.snd (chn_self hj sw)
  rw [chn_n] at h
  have h : 0 + CS σ j j sw = cnt σ j - dd (pAt σ j) (cnt σ j) := h
  omega
theorem dd_r (t : Int → Int) (n : Int) : 0 ≤ dd t n ∧ dd t n ≤ 2 := by
  unfold dd
  split <;> omega
/-- the text is what was put together, for both -/
theorem Inv.weave {σ : St} (hI : Inv σ) {j i : Nat} (hj4 : j < 4) (hi4 : i < 4) (hj : HdR σ j) (hi : HdR σ i) {cs ms : Int} (hsw : ms ≠ 1) (hws : ∀ k : Int, wsel cs k j i = wsel ms k j i) (hn : CS σ j i cs ≤ 60) (w : Int) : Inv (mAll (sMcd (sOv (pTak (pWv σ j i cs) 5 6 0) w) 0) (j : Int) (i : Int) ms) ∧ msz (mAll (sMcd (sOv (pTak (pWv σ j i cs) 5 6 0) w) 0) (j : Int) (i : Int) ms) = cnt (pTak (pWv σ j i cs) 5 6 0) 5 ∧ aRest (sMcd (sOv (pTak (pWv σ j i cs) 5 6 0) w) 0) (j : Int) (i : Int) ms 0 ≤ 60 ∧ (mAll (sMcd (sOv (pTak (pWv σ j i cs) 5 6 0) w) 0) (j : Int) (i : Int) ms).1 = (pTak (pWv σ j i cs) 5 6 0).1 := by
  obtain ⟨i1, i2, i3, i4, i5, i6, i7⟩ := id hI
  obtain ⟨v1, v2, v3⟩ := wv_e (sw := cs) i1 (j := j) (i := i) (by omega) (by omega) (fun k hk => hj.be hk) (fun k hk => hi.be hk)
  obtain ⟨u1', u2', u3'⟩ := v1
  have hs : CS σ j i cs = CS σ j i ms := by unfold CS; rw [hws, hws, hws, hws, hws]
  have hms := CS_e hj hi hsw
  have v3 := v3 (by show CS σ j i cs ≤ 128; omega)
  have hW6 : Wk (pTak (pWv σ j i cs) 5 6 0) := Wk_tak 0 (by omega) u1'
  obtain ⟨k1, k2, k3⟩ := tak_at (σ := pWv σ j i cs) (i := 5) (j := 6) u1'
  obtain ⟨l1, l2, l3, l4, l5, l6, l7, l8, l9, -⟩ := tak_F 0 (by omega) (σ := pWv σ j i cs) (i := 5) (j := 6) (by omega) u1'
  generalize pTak (pWv σ j i cs) 5 6 0 = a at *
  have h2 : a.2 = σ.2 := l9.trans u2'.2.2.2.2.2.2.2
  obtain ⟨m1, m2, m3, m4, m5, m6, m7, m8, m9⟩ := md (a := a) (σ := σ) (by rw [h2])
  have hq : Sq σ (sMcd (sOv a w) 0) := ⟨m3.2.1, m3.2.2.1, m3.2.2.2.1, m3.1⟩
  have hR : aRest (sMcd (sOv a w) 0) (j : Int) (i : Int) ms 0 ≤ 60 := by
    rw [aRest_c hq _ _ _ 0 (by omega)]
    omega
  have hMs : Mw (sMcd (sOv a w) 0) := m1 i3
  have hj9 := SlH.c hq hj.slh
  have hi9 := SlH.c hq hi.slh
  have h1 : mHas (sMcd (sOv a w) 0) (j : Int) 1 = true := by rw [(hq.many (j : Int) 1).2.2.2]; exact hj.one.1
  obtain ⟨A1, A2⟩ := mAll_at hMs (by omega) (by omega) hsw hj9 hi9 h1 hR
  have hG := mAll_g hMs (j := (j : Int)) (i := (i : Int)) (by omega) (by omega) hsw hj9.sl hi9.sl h1 hR
  rw [mS_c hq, mS_c hq, mS_c hq, mS_c hq, mS_c hq, mS_c hq] at A1
  have B1 : chn (fun _ => 0, 0) (pS σ (wsel cs 0 j i) 0) (S1c σ j) (pS σ (wsel cs 2 j i) 2) (pS σ (wsel cs 5 j i) 5) (pS σ (wsel cs 6 j i) 6) (pS σ (wsel cs 7 j i) 7) = chn (fun _ => 0, 0) (mS' σ (j : Int) (i : Int) ms 0) (mS' σ (j : Int) (i : Int) ms 1) (mS' σ (j : Int) (i : Int) ms 2) (mS' σ (j : Int) (i : Int) ms 5) (mS' σ (j : Int) (i : Int) ms 6) (mS' σ (j : Int) (i : Int) ms 7) := by
    rw [hws, hws, hws, hws, hws]
    exact chn_c (Se_k hj hi ms (k := 0) (by decide) (by decide) (by decide) (by decide)) (Se_1 hj hsw) (Se_k hj hi ms (k := 2) (by decide) (by decide) (by decide) (by decide)) (Se_k hj hi ms (k := 5) (by decide) (by decide) (by decide) (by decide)) (Se_k hj hi ms (k := 6) (by decide) (by decide) (by decide) (by decide)) (Se_k hj hi ms (k := 7) (by decide) (by decide) (by decide) (by decide))
  rw [B1, ← A1] at v3
  have T1 : pAt (pWv σ j i cs) 6 = mT (mAll (sMcd (sOv a w) 0) (j : Int) (i : Int) ms) := congrArg Prod.fst v3
  have T2 : cnt (pWv σ j i cs) 6 = msz (mAll (sMcd (sOv a w) 0) (j : Int) (i : Int) ms) := congrArg Prod.snd v3
  obtain ⟨G1, G2, G3, G4⟩ := hG
  obtain ⟨q1, q2, q3, q4, q5, q6, q7, -, -, -, q8, q9, -⟩ := G2
  have hC : Cs σ a := fun q hq4 => by
    obtain ⟨x1, x2⟩ := k3 q (by omega)
    obtain ⟨y1, y2⟩ := u3' q (by omega)
    obtain ⟨s1, s2, s3, s4, -⟩ := u2'
    exact ⟨by rw [l5, s4], x2.trans y2, x1.trans y1, by rw [l2, s1], by rw [l3, s2], by rw [l4, s3]⟩
  have h9 : R9 a := fun q k hk => by
    rw [l2, l3]
    exact (Same.R9 u2' i2) q k hk
  refine ⟨hI.step (a := a) (by rw [h2]) q1 hW6 h9 hC G1 ⟨q4.trans m3.1, q3.trans m3.2.1, q5.trans m3.2.2.1, q6.trans m3.2.2.2.1, q7.trans m3.2.2.2.2⟩ ⟨by rw [k2, T2], by rw [k1, T1], A2⟩ ?_, by rw [k2, T2], hR, q1⟩
  rw [l7, l8, q8, q9, u2'.2.2.2.2.2.1, u2'.2.2.2.2.2.2.1]
  have r1 : mrf (sMcd (sOv a w) 0) = mrf σ := m6
  have r2 : mpl (sMcd (sOv a w) 0) = mpl σ := m7
  rw [r1, r2]
  exact ⟨i6, i7⟩
theorem pRng_i {σ : St} {i j : Nat} {b ob e : Int} : ∀ p : Int, p ≤ e → (pRng σ i j b ob p e = true ↔ ∀ q : Int, p ≤ q → q < e → pAt σ i q = pAt σ j (ob + q - b)) := by
  refine up (fun p hp ih => ?_)
  rw [pRng.eq_def]
  by_cases h : p < e
  · rw [if_pos h]
    by_cases hx : pAt σ i p = pAt σ j (ob + p - b)
    · rw [if_pos hx, ih (p + 1) (by omega) (by omega)]
      constructor
      · intro hh q q1 q2
        by_cases hq : q = p
        · rw [hq]; exact hx
        · exact hh q (by omega) q2
      · intro hh q q1 q2
        exact hh q (by omega) q2
    · rw [if_neg hx]
      constructor
      · intro z; cases z
      · intro z; exact absurd (z p (by omega) h) hx
  · rw [if_neg h]
    exact ⟨fun _ q q1 q2 => by omega, fun _ => rfl⟩
theorem mTgF_i {s : St} {j : Int} : ∀ p : Int, p ≤ msz s → (mTgF s j p = true ↔ ∀ q : Int, p ≤ q → q < msz s → mtx s q.toNat = msg s (60 * j + q).toNat) := by
  refine up (fun p hp ih => ?_)
  rw [mTgF.eq_def]
  by_cases h : p < msz s
  · rw [if_pos h]
    by_cases hx : mtx s p.toNat = msg s (60 * j + p).toNat
    · rw [if_pos hx, ih (p + 1) (by omega) (by omega)]
      constructor
      · intro hh q q1 q2
        by_cases hq : q = p
        · rw [hq]; exact hx
        · exact hh q (by omega) q2
      · intro hh q q1 q2
        exact hh q (by omega) q2
    · rw [if_neg hx]
      constructor
      · intro z; cases z
      · intro z; exact absurd (z p (by omega) h) hx
  · rw [if_neg h]
    exact ⟨fun _ q q1 q2 => by omega, fun _ => rfl⟩
/-- together's answer -/
theorem tog_e {a b : St} {j : Nat} (hb : Inv b) (hj4 : j < 4) (hj : HdR b j) (h1 : b.1 = a.1) : pIsW a j 5 = mTg b (j : Int) := by
  obtain ⟨-, -, -, k4, k5, -⟩ := cl h1
  obtain ⟨i1, i2, i3, i4, -⟩ := hb
  have hz := i3.sz
  have e1 : cnt a j = mlo b j := by rw [hj.2.1, k4]
  have e2 : cnt a 5 = msz b := by rw [← i4.1, k4]
  unfold pIsW mTg
  rw [e1, e2, Int.toNat_natCast]
  by_cases h : mlo b j = msz b
  · rw [if_pos h, if_pos h.symm]
    apply Bool.eq_iff_iff.mpr
    rw [pRng_i 0 (by omega), mTgF_i 0 (by omega)]
    have key : ∀ q : Int, 0 ≤ q → q < msz b → (pAt a j q = pAt a 5 (0 + q - 0) ↔ mtx b q.toNat = msg b (60 * (j : Int) + q).toNat) := fun q q1 q2 => by
      rw [← k5, ← k5, show 0 + q - 0 = q by omega, i4.2.1, mT_in ⟨q1, q2⟩, hj.2.2.2.1 q q1 (by rw [← hj.2.1]; omega)]
      exact eq_comm
    constructor
    · intro hh q q1 q2
      exact (key q q1 q2).mp (hh q q1 (by omega))
    · intro hh q q1 q2
      exact (key q q1 (by omega)).mpr (hh q q1 (by omega))
  · rw [if_neg h, if_neg (fun z => h z.symm)]
