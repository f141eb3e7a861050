/-! MATHS 9: the theorem -/
def Jr (σ0 σ : St) : Prop := Wk σ ∧ R9 σ ∧ Cs σ0 σ ∧ (pAt σ 5 = pAt σ0 5 ∧ cnt σ 5 = cnt σ0 5) ∧ rc σ = rc σ0 ∧ rp σ = rp σ0 ∧ σ.2 = σ0.2
theorem Cs.rfl' {σ : St} : Cs σ σ := fun _ _ => ⟨rfl, rfl, rfl, rfl, rfl, rfl⟩
theorem Jr.ct {σ0 σ a : St} (h : Jr σ0 σ) (g : CT σ a) : Jr σ0 a := by
  obtain ⟨h1, h2, h3, ⟨h4, h5⟩, h6, h7, h8⟩ := h
  obtain ⟨g1, g2, g3⟩ := g
  refine ⟨g1, g2.R9 h2, h3.trans (same_cs g2 (fun j hj => g3 j (by omega))), ⟨(g3 5 (by decide)).1.trans h4, (g3 5 (by decide)).2.trans h5⟩, g2.2.2.2.2.2.1.trans h6, g2.2.2.2.2.2.2.1.trans h7, g2.2.2.2.2.2.2.2.trans h8⟩
theorem Jr.fc {σ0 σ a : St} (h : Jr σ0 σ) (g : Fc σ a) (hW : Wk a) : Jr σ0 a := by
  obtain ⟨h1, h2, h3, ⟨h4, h5⟩, h6, h7, h8⟩ := h
  obtain ⟨c1, c2⟩ := g.cs
  obtain ⟨-, g2, g3, g4, g5⟩ := g
  exact ⟨hW, g5 h2, h3.trans c1, ⟨(c2 5 (by decide)).1.trans h4, (c2 5 (by decide)).2.trans h5⟩, g2.trans h6, g3.trans h7, g4.trans h8⟩
theorem HdR.of {σ a : St} {j : Nat} (h : HdR σ j) (hj : j < 4) (hc : Cs σ a) (hm : Ms σ a) : HdR a j := by
  obtain ⟨c1, c2, c3, c4, c5, c6⟩ := hc j hj
  obtain ⟨m1, m2, m3, m4, m5⟩ := hm
  unfold HdR
  rw [c1, c2, c3, c4, c5, c6, m1, m2, m3, m4, m5]
  exact h
theorem Jr.hd {σ0 σ : St} {j : Nat} (h : Jr σ0 σ) (hj : j < 4) (hd : HdR σ0 j) : HdR σ j := hd.of hj h.2.2.1 (md (by rw [h.2.2.2.2.2.2])).2.2.1
/-- anew -/
theorem an_e {σ : St} {j : Nat} (hW : Wk σ) (h9 : R9 σ) (hj4 : j < 4) (hj : HdR σ j) : bAn σ j = true ∧ CT σ (sAn0 σ j) ∧ Fc (sAn0 σ j) (sAn σ j) ∧ Wk (sAn σ j) := by
  obtain ⟨c0, x0⟩ := CT.short hW
  have n0 : cnt (pShort σ 6 0) 6 = 0 := congrArg Prod.snd x0
  have t0 : pAt (pShort σ 6 0) 6 = fun _ => 0 := congrArg Prod.fst x0
  obtain ⟨e1, e2⟩ := hj.pb (k := 8) (by decide)
  have e1 : pBeg σ j 8 = 0 := e1
  have e2 : pEnd σ j 8 = cnt σ j := e2
  obtain ⟨s1, s2, -⟩ := pBeg_same c0.2.1 j 8
  have hT := hj.tz
  have h60 := hj.2.2.1
  have hn0 := hT.1
  have hz : sAn0 σ j = pPutR (pShort σ 6 0) 6 j 0 (cnt σ j) := by
    unfold sAn0 pPutP
    rw [s1, s2, e1, e2]
  have c1 : CT σ (sAn0 σ j) := by
    refine ⟨Wk_putP c0.1 _ _ _, c0.2.1.trans (Same.putP _ j 8 6), fun m hm => ?_⟩
    rw [hz]
    obtain ⟨y1, y2⟩ := putR_o' (σ := pShort σ 6 0) (i := 6) (j := j) (b := 0) (e := cnt σ j) hm
    exact ⟨y1.trans (c0.2.2 m hm).1, y2.trans (c0.2.2 m hm).2⟩
  have p := putR_at (i := 6) (j := j) (e := cnt σ j) (by omega) 0 (by omega) (pShort σ 6 0) c0.1 (by omega)
  rw [← hz] at p
  obtain ⟨p1, p2⟩ := p
  have q1 : pAt (sAn0 σ j) 6 = pAt σ j := by
    rw [p1, t0, n0, (c0.2.2 j (by omega)).1]
    funext q
    unfold ap
    by_cases hq : 0 ≤ q ∧ q < 0 + (cnt σ j - 0)
    · rw [if_pos hq]
      congr 1
      omega
    · rw [if_neg hq]
      by_cases hx : pAt σ j q = 0
      · exact hx.symm
      · have := hT.2.2.1 q hx
        omega
  have q2 : cnt (sAn0 σ j) 6 = cnt σ j := by rw [p2, n0]; omega
  have hW1 := c1.1
  have h91 := c1.2.1.R9 h9
  have hT1 : Tz (pAt (sAn0 σ j) 6) (cnt (sAn0 σ j) 6) := by rw [q1, q2]; exact hT
  have hpl : mPl (pAt (sAn0 σ j) 6) (cnt (sAn0 σ j) 6) = -1 := by rw [q1, q2]; exact hj.2.2.2.2.2.2.2.2.2
  have hF := Fc.cut (sAn0 σ j) 6 hW1
  have hWc : Wk (sCut (sAn0 σ j) 6) := Wk_cut hW1 h91 (by decide)
  obtain ⟨bb, bp⟩ := bg_cut hW1 hT1 hpl
  obtain ⟨-, -, n4, t4⟩ := (cut0_ok (i := 6) hW1 h91 (by decide)).cut5
  have n4 : cnt (sCut (sAn0 σ j) 6) 4 = cnt σ j := n4.trans q2
  have t4 : pAt (sCut (sAn0 σ j) 6) 4 = pAt σ j := t4.trans q1
  have hrf : rf (sCut (sAn0 σ j) 6) = -1 := (rf_cut hW1 hT1).trans hpl
  rw [q1, q2] at bb bp
  obtain ⟨f1, -⟩ := hF.cs
  obtain ⟨y1, y2, y3, y4, y5, y6⟩ := ((same_cs c1.2.1 (fun m hm => c1.2.2 m (by omega))).trans f1) j hj4
  have same : ∀ k : Int, 0 ≤ k → k < 9 → pBeg (sCut (sAn0 σ j) 6) 4 k = pBeg σ j k ∧ pEnd (sCut (sAn0 σ j) 6) 4 k = pEnd σ j k ∧ pBeg (sCut (sAn0 σ j) 6) j k = pBeg σ j k ∧ pEnd (sCut (sAn0 σ j) 6) j k = pEnd σ j k := fun k k0 k9 => by
    obtain ⟨-, -, x3, x4⟩ := hj.2.2.2.2.1 k.toNat (by omega)
    obtain ⟨w1, w2⟩ := bb k.toNat (by omega)
    unfold pBeg pEnd
    simp only [if_pos (show 0 ≤ k ∧ k < 9 from ⟨k0, k9⟩)]
    rw [w1, w2, y4, y5, x3, x4]
    exact ⟨rfl, rfl, rfl, rfl⟩
  have pa : ∀ k : Int, 0 ≤ k → k < 9 → pPA (sCut (sAn0 σ j) 6) 4 j k = true := fun k k0 k9 => by
    obtain ⟨z1, z2, z3, z4⟩ := same k k0 k9
    unfold pPA
    rw [if_pos (by unfold pSiz; rw [z1, z2, z3, z4]), z1, z2, z3]
    by_cases hle : pBeg σ j k ≤ pEnd σ j k
    · rw [pRng_i _ hle]
      intro q q1' q2'
      rw [t4, y3]
      congr 1
      omega
    · rw [pRng.eq_def, if_neg (by omega)]
  have cntp : ∀ k : Int, k ≤ 9 → 0 ≤ k → ∀ x : Int, pPAsF (sCut (sAn0 σ j) 6) 4 j x k = x + (9 - k) := by
    refine up (fun k hk ih k0 x => ?_)
    rw [pPAsF.eq_def]
    by_cases hk9 : k < 9
    · rw [if_pos hk9, if_pos (pa k k0 hk9), ih (k + 1) (by omega) (by omega) (by omega)]
      omega
    · rw [if_neg hk9]
      omega
  refine ⟨?_, c1, hF, hWc⟩
  unfold bAn sAn
  refine decide_eq_true ⟨hrf, ?_, ?_⟩
  · unfold pPAs
    rw [cntp 0 (by omega) (by omega)]
    rfl
  · rw [bp, y6]
    exact hj.2.2.2.2.2.2.1.symm
theorem isW_e {σ : St} {j i : Nat} (hc : cnt σ j = cnt σ i) (h0 : 0 ≤ cnt σ j) (hp : pAt σ j = pAt σ i) : pIsW σ j i = true := by
  unfold pIsW
  rw [if_pos hc, pRng_i 0 h0]
  intro q q1 q2
  rw [hp]
  congr 1
  omega
/-- three parts -/
theorem p3_e {σ : St} {j : Nat} (hW : Wk σ) (hj4 : j < 4) (hj : HdR σ j) : b3p σ j = true ∧ CT σ (s3p σ j) := by
  have j6 : j ≠ 6 := by omega
  obtain ⟨c0, x0⟩ := CT.short hW
  have c1 : CT σ (s3p1 σ j) := c0.wp _ _ _ _
  have c2 : CT σ (s3p2 σ j) := c1.wp _ _ _ _
  have c3 : CT σ (s3p σ j) := c2.wp _ _ _ _
  have b0 : pHas σ j 0 = true → pBeg σ j 0 ≤ pEnd σ j 0 := hj.be (k := 0) (by decide)
  have b1 : pHas σ j 1 = true → pBeg σ j 1 ≤ pEnd σ j 1 := hj.be (k := 1) (by decide)
  have b7 : pHas σ j 7 = true → pBeg σ j 7 ≤ pEnd σ j 7 := hj.be (k := 7) (by decide)
  have s0 : pS σ j 0 = sA (pAt σ j) (cnt σ j) 0 := hj.src (k := 0) (by decide)
  have s1 : pS σ j 1 = sA (pAt σ j) (cnt σ j) 1 := hj.src (k := 1) (by decide)
  have s7 : pS σ j 7 = sA (pAt σ j) (cnt σ j) 7 := hj.src (k := 7) (by decide)
  have ch := chn_3 hj.tz
  rw [← s0, ← s1, ← s7] at ch
  have z0 := cst_0 (S := pS σ j 0) (w1 := []) (w2 := [58]) b0
  have z1 := cst_0 (S := pS σ j 1) (w1 := []) (w2 := []) b1
  have z7 := cst_0 (S := pS σ j 7) (w1 := [35]) (w2 := []) b7
  have hs := congrArg Prod.snd ch
  rw [stq_n, stq_n, stq_n] at hs
  have hs : 0 + cst (pS σ j 0) [] [58] + cst (pS σ j 1) [] [] + cst (pS σ j 7) [35] [] = cnt σ j := hs
  have h60 := hj.2.2.1
  have hn0 := hj.tz.1
  have n0 : cnt (pShort σ 6 0) 6 = 0 := congrArg Prod.snd x0
  have t1 : tx (s3p1 σ j) 6 = stq (tx (pShort σ 6 0) 6) (pS σ j 0) [] [58] := c0.t (w1 := 8) (w2 := 7) j6 (by decide) (by decide) b0 (by show cnt (pShort σ 6 0) 6 + cst (pS σ j 0) [] [58] ≤ 128; omega)
  have m1 := congrArg Prod.snd t1
  rw [stq_n, x0] at m1
  have m1 : cnt (s3p1 σ j) 6 = 0 + cst (pS σ j 0) [] [58] := m1
  have t2 : tx (s3p2 σ j) 6 = stq (tx (s3p1 σ j) 6) (pS σ j 1) [] [] := c1.t (w1 := 8) (w2 := 8) j6 (by decide) (by decide) b1 (by show cnt (s3p1 σ j) 6 + cst (pS σ j 1) [] [] ≤ 128; omega)
  have m2 := congrArg Prod.snd t2
  rw [stq_n] at m2
  have m2 : cnt (s3p2 σ j) 6 = cnt (s3p1 σ j) 6 + cst (pS σ j 1) [] [] := m2
  have t3 : tx (s3p σ j) 6 = stq (tx (s3p2 σ j) 6) (pS σ j 7) [35] [] := c2.t (w1 := 2) (w2 := 8) j6 (by decide) (by decide) b7 (by show cnt (s3p2 σ j) 6 + cst (pS σ j 7) [35] [] ≤ 128; omega)
  rw [t2, t1, x0, ch] at t3
  have p1 : pAt (s3p σ j) 6 = pAt σ j := congrArg Prod.fst t3
  have p2 : cnt (s3p σ j) 6 = cnt σ j := congrArg Prod.snd t3
  obtain ⟨o1, o2⟩ := c3.2.2 j j6
  refine ⟨?_, c3⟩
  unfold b3p
  exact isW_e (by rw [o2, p2]) (by rw [o2]; exact hn0) (by rw [o1, p1])
/-- woven again -/
theorem wo_e {σ : St} {j : Nat} (hW : Wk σ) (hj4 : j < 4) (hj : HdR σ j) : bWo σ j = true ∧ CT σ (sWo σ j) := by
  have j6 : j ≠ 6 := by omega
  obtain ⟨v1, v2, v3⟩ := wv_e (sw := -1) hW (j := j) (i := j) j6 j6 (fun k hk => hj.be hk) (fun k hk => hj.be hk)
  have hs := CS_self hj (-1)
  have hd := dd_r (pAt σ j) (cnt σ j)
  have h60 := hj.2.2.1
  have hT := hj.tz
  have hn0 := hT.1
  have v3 := v3 (by show CS σ j j (-1) ≤ 128; omega)
  rw [chn_self hj] at v3
  have v3 : tx (sWo σ j) 6 = _ := v3
  have v1 : CT σ (sWo σ j) := v1
  have p1 : pAt (sWo σ j) 6 = sh (pAt σ j) (gCol (pAt σ j) (cnt σ j) + 1) (dd (pAt σ j) (cnt σ j)) (cnt σ j) := congrArg Prod.fst v3
  have p2 : cnt (sWo σ j) 6 = cnt σ j - dd (pAt σ j) (cnt σ j) := congrArg Prod.snd v3
  refine ⟨?_, v1⟩
  obtain ⟨o1, o2⟩ := v1.2.2 j j6
  obtain ⟨e1, -, -⟩ := pBeg_same v1.2.1 j 1
  obtain ⟨-, -, e5⟩ := pBeg_same v1.2.1 j 5
  obtain ⟨-, -, e6⟩ := pBeg_same v1.2.1 j 2
  have b1 : pBeg σ j 1 = gCol (pAt σ j) (cnt σ j) + 1 := (hj.pb (k := 1) (by decide)).1
  obtain ⟨-, -, x3, x4⟩ := hj.one
  have b5 : pHas σ j 5 = !cOpq (pAt σ j) (cnt σ j) := x4.trans x3
  have b2 : pHas σ j 2 = kA (pAt σ j) (cnt σ j) := by
    obtain ⟨y1, y2⟩ := hj.has (k := 2) (by decide)
    have y1 : pHas σ j 2 = mHas σ (j : Int) 2 := y1
    have y2 : mHas σ (j : Int) 2 = true ↔ (if kA (pAt σ j) (cnt σ j) = true then aB (pAt σ j) (cnt σ j) else -1) ≠ -1 := y2
    rw [y1]
    cases hk : kA (pAt σ j) (cnt σ j)
    · rw [hk, if_neg (by decide)] at y2
      cases hm : mHas σ (j : Int) 2
      · rfl
      · exact absurd rfl (y2.mp hm)
    · have hb := aB_r hT hk
      exact y2.mpr (by rw [if_pos hk]; omega)
  have hC := hT.gCol
  unfold bWo
  by_cases hdd : cOpq (pAt σ j) (cnt σ j) = false ∧ gSl (pAt σ j) (gCol (pAt σ j) (cnt σ j) + 1) = true ∧ kA (pAt σ j) (cnt σ j) = false
  · have d2 : dd (pAt σ j) (cnt σ j) = 2 := if_pos hdd
    obtain ⟨h1, h2, h3⟩ := hdd
    have hsk : pSkip (sWo σ j) j = true := by
      unfold pSkip
      rw [e5, e6, b5, b2, h1, h3, if_pos ⟨rfl, rfl⟩, o1, e1, b1]
      exact h2
    have hl := hT.sl h2
    rw [if_pos hsk]
    unfold pWoS
    rw [d2] at p1 p2
    have r1 : pRng (sWo σ j) j 6 0 0 0 (pBeg (sWo σ j) j 1) = true := by
      rw [e1, b1, pRng_i 0 (by omega)]
      intro q q1 q2
      rw [o1, p1, show 0 + q - 0 = q by omega]
      unfold sh
      rw [if_pos q2]
    rw [if_pos (by rw [o2, p2]; omega), if_pos r1, e1, b1, pRng_i _ (by rw [o2]; omega)]
    intro q q1 q2
    rw [o2] at q2
    rw [o1, p1]
    unfold sh
    rw [if_neg (by omega), if_pos (by omega)]
    congr 1
    omega
  · have d0 : dd (pAt σ j) (cnt σ j) = 0 := if_neg hdd
    have hsk : ¬ pSkip (sWo σ j) j = true := by
      unfold pSkip
      rw [e5, e6, b5, b2, o1, e1, b1]
      intro z
      split at z
      · rename_i hh
        exact hdd ⟨by cases hx : cOpq (pAt σ j) (cnt σ j) <;> simp_all, z, hh.2⟩
      · cases z
    rw [if_neg hsk]
    rw [d0] at p1 p2
    rw [sh_n hT] at p1
    exact isW_e (by rw [o2, p2]; omega) (by rw [o2]; exact hn0) (by rw [o1, p1])
theorem tr_e {σ0 σ : St} {j : Nat} (hJ : Jr σ0 σ) (hj4 : j < 4) (hS : SlR σ0 j) : trB σ j = true ∧ Jr σ0 (trS σ j) := by
  unfold trB trS
  cases hh : hld σ j
  · exact ⟨rfl, hJ⟩
  · have hh0 : hld σ0 j = true := by rw [← (hJ.2.2.1 j hj4).1]; exact hh
    have hd0 := hS.hd hh0
    obtain ⟨a1, a2, a3, a4⟩ := an_e hJ.1 hJ.2.1 hj4 (hJ.hd hj4 hd0)
    have J1 : Jr σ0 (sAn σ j) := (hJ.ct a2).fc a3 a4
    obtain ⟨b1, b2⟩ := p3_e J1.1 hj4 (J1.hd hj4 hd0)
    have J2 := J1.ct b2
    obtain ⟨c1, c2⟩ := wo_e J2.1 hj4 (J2.hd hj4 hd0)
    rw [if_pos rfl, if_pos rfl, if_pos a1, if_pos a1, if_pos b1, if_pos b1]
    exact ⟨c1, J2.ct c2⟩
theorem trF_e {σ0 : St} (hS : ∀ j : Nat, j < 4 → SlR σ0 j) : ∀ k : Int, k ≤ 4 → 0 ≤ k → ∀ σ : St, Jr σ0 σ → trFB σ k = true ∧ Jr σ0 (trFS σ k) := by
  refine up (fun k hk ih k0 σ hJ => ?_)
  rw [trFB.eq_def, trFS.eq_def]
  by_cases h4 : k < 4
  · obtain ⟨a1, a2⟩ := tr_e hJ (j := k.toNat) (by omega) (hS _ (by omega))
    rw [if_pos h4, if_pos h4, if_pos a1, if_pos a1]
    exact ih (k + 1) (by omega) (by omega) (by omega) _ a2
  · rw [if_neg h4, if_neg h4]
    exact ⟨rfl, hJ⟩
/-- the theorem holds always -/
theorem Inv.thm {σ : St} (hI : Inv σ) : trFB σ 0 = true ∧ Inv (sMcd (trFS σ 0) 0) ∧ rc (sMcd (trFS σ 0) 0) = rc σ := by
  obtain ⟨i1, i2, i3, i4, i5, i6, i7⟩ := id hI
  obtain ⟨a1, b1, b2, b3, ⟨b4, b5⟩, b6, b7, b8⟩ := trF_e i5 0 (by omega) (by omega) σ ⟨i1, i2, Cs.rfl', ⟨rfl, rfl⟩, rfl, rfl, rfl⟩
  generalize trFS σ 0 = a at *
  obtain ⟨m1, m2, m3, m4, m5, m6, m7, m8, m9⟩ := md (a := a) (σ := σ) (by rw [b8])
  have r1 : msz (sMcd a 0) = msz σ := m5
  have r2 : mT (sMcd a 0) = mT σ := m4
  have r3 : mrf (sMcd a 0) = mrf σ := m6
  have r4 : mpl (sMcd a 0) = mpl σ := m7
  refine ⟨a1, hI.step (a := a) (b := sMcd a 0) (by rw [b8]) rfl b1 b2 b3 (m1 i3) m3 ⟨by rw [r1, b5]; exact i4.1, by rw [r2, b4]; exact i4.2.1, m2 i4.2.2⟩ (by rw [r3, r4, b6, b7]; exact ⟨i6, i7⟩), b6⟩
