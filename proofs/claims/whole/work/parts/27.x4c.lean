/-! Linkloom, its end: weaving, copies, the theorem, the checksum -/
/-- what a cut leaves as it was -/
def Fc (σ σ' : St) : Prop := (∀ k, k ≠ 4 → cnt σ' k = cnt σ k ∧ (∀ q, sg σ' k q = sg σ k q) ∧ (∀ q, bg σ' k q = bg σ k q ∧ en σ' k q = en σ k q) ∧ pt σ' k = pt σ k ∧ hld σ' k = hld σ k) ∧ rc σ' = rc σ ∧ rp σ' = rp σ ∧ σ'.2 = σ.2 ∧ (R9 σ → R9 σ')
theorem Fc.rfl' {σ : St} : Fc σ σ := ⟨fun _ _ => ⟨rfl, fun _ => rfl, fun _ => ⟨rfl, rfl⟩, rfl, rfl⟩, rfl, rfl, rfl, id⟩
theorem Fc.trans {a b c : St} (h : Fc a b) (g : Fc b c) : Fc a c :=
  ⟨fun k hk => by
    obtain ⟨h1, h2, h3, h4, h5⟩ := h.1 k hk
    obtain ⟨g1, g2, g3, g4, g5⟩ := g.1 k hk
    exact ⟨g1.trans h1, fun q => (g2 q).trans (h2 q), fun q => ⟨(g3 q).1.trans (h3 q).1, (g3 q).2.trans (h3 q).2⟩, g4.trans h4, g5.trans h5⟩,
   g.2.1.trans h.2.1, g.2.2.1.trans h.2.2.1, g.2.2.2.1.trans h.2.2.2.1, fun h9 => g.2.2.2.2 (h.2.2.2.2 h9)⟩
theorem R9_mk {σ : St} (h : R9 σ) (j : Nat) (k b e : Int) : R9 (pMk σ j k b e) := by
  unfold pMk
  split
  · intro i q hq
    have := h i q hq
    refine ⟨?_, ?_⟩
    · show u2 (bg σ) j k.toNat b i q = -1
      unfold u2 u1
      split
      · rename_i hi
        show (if q = k.toNat then b else bg σ j q) = -1
        rw [if_neg (by omega), ← hi]
        exact this.1
      · exact this.1
    · show u2 (en σ) j k.toNat e i q = -1
      unfold u2 u1
      split
      · rename_i hi
        show (if q = k.toNat then e else en σ j q) = -1
        rw [if_neg (by omega), ← hi]
        exact this.2
      · exact this.2
  · exact h
theorem Fc.mk (σ : St) (k b e : Int) : Fc σ (pMk σ 4 k b e) := by
  refine ⟨fun i hi => ?_, ?_, ?_, ?_, fun h => R9_mk h 4 k b e⟩
  · unfold pMk
    split
    · refine ⟨rfl, fun _ => rfl, fun q => ⟨?_, ?_⟩, rfl, rfl⟩
      · show u2 (bg σ) 4 k.toNat b i q = _
        unfold u2
        rw [u1_n _ _ hi]
      · show u2 (en σ) 4 k.toNat e i q = _
        unfold u2
        rw [u1_n _ _ hi]
    · exact ⟨rfl, fun _ => rfl, fun _ => ⟨rfl, rfl⟩, rfl, rfl⟩
  all_goals (unfold pMk; split <;> rfl)
theorem Fc.rf' (σ : St) (v : Int) : Fc σ (sRf σ v) := ⟨fun _ _ => ⟨rfl, fun _ => rfl, fun _ => ⟨rfl, rfl⟩, rfl, rfl⟩, rfl, rfl, rfl, id⟩
theorem Fc.ref (σ : St) (p : Int) : Fc σ (pRef σ p) := by
  unfold pRef
  split
  · exact Fc.rf' σ p
  · exact Fc.rfl'
theorem Fc.pt' (σ : St) (v : Int) : Fc σ (sPt σ (u1 (pt σ) 4 v)) := ⟨fun i hi => ⟨rfl, fun _ => rfl, fun _ => ⟨rfl, rfl⟩, u1_n _ _ hi, rfl⟩, rfl, rfl, rfl, id⟩
theorem Fc.hd' (σ : St) (v : Bool) : Fc σ (sHd σ (u1 (hld σ) 4 v)) := ⟨fun i hi => ⟨rfl, fun _ => rfl, fun _ => ⟨rfl, rfl⟩, rfl, u1_n _ _ hi⟩, rfl, rfl, rfl, id⟩
theorem Fc.fg (σ : St) : Fc σ (pFg σ 4) := by
  obtain ⟨a1, a2, a3, a4, a5, a6, a7, a8, a9, a10, a11⟩ := fg_F (j := 4) 0 (by omega) (σ := σ) (by omega)
  refine ⟨fun i hi => ⟨congrFun a1 i, fun q => congrFun (congrFun a2 i) q, fun q => ⟨(a7 i q hi).1, (a7 i q hi).2.1⟩, (a7 i 0 hi).2.2.1, (a7 i 0 hi).2.2.2⟩, a4, a5, a6, fun h9 i q hq => ?_⟩
  by_cases hi : i = 4
  · subst hi
    refine ⟨(a8 q).trans ?_, (a9 q).trans ?_⟩
    · rw [if_neg (by omega)]; exact (h9 4 q hq).1
    · rw [if_neg (by omega)]; exact (h9 4 q hq).2
  · exact ⟨(a7 i q hi).1.trans (h9 i q hq).1, (a7 i q hi).2.1.trans (h9 i q hq).2⟩
theorem Fc.tak (σ : St) (i : Nat) (hW : Wk σ) : Fc σ (pTak σ 4 i 0) := by
  obtain ⟨d1, d2, d3, d4, d5, d6, d7, d8, d9, d10, d11⟩ := tak_F 0 (by omega) (σ := σ) (i := 4) (j := i) (by omega) hW
  refine ⟨fun k hk => ⟨by rw [d1, u1_n _ _ hk], fun q => d10 k q hk, fun q => ⟨by rw [d2], by rw [d3]⟩, by rw [d4], by rw [d5]⟩, d7, d8, d9, fun h9 j q hq => by rw [d2, d3]; exact h9 j q hq⟩
theorem Fc.part (σ : St) (t : Int → Int) (n k b : Int) (w : Nat) : Fc σ (sPart σ t n k b w) := by
  unfold sPart
  split
  · exact (Fc.ref σ _).trans (Fc.mk _ _ _ _)
  · exact Fc.mk _ _ _ _
theorem Fc.sch (σ : St) (t : Int → Int) (c : Int) : Fc σ (sSch σ t c) := by
  unfold sSch
  split
  · exact Fc.rfl'
  · split
    · exact Fc.mk _ _ _ _
    · exact (Fc.ref σ _).trans (Fc.mk _ _ _ _)
theorem Fc.opq (σ : St) (t : Int → Int) (n r : Int) : Fc σ (sOpq σ t n r) := by
  unfold sOpq
  split
  · exact (Fc.part _ _ _ _ _ _).trans (Fc.ref _ _)
  · exact Fc.part _ _ _ _ _ _
theorem Fc.aut (σ : St) (t : Int → Int) (n r : Int) : Fc σ (sAut σ t n r) := by
  unfold sAut
  split
  · split
    · exact Fc.mk _ _ _ _
    · split
      · exact Fc.ref _ _
      · exact Fc.rfl'
  · exact Fc.rfl'
theorem Fc.pq (σ : St) (t : Int → Int) (n r b : Int) : Fc σ (sPQ σ t n r b) := by
  unfold sPQ
  split
  · exact ((Fc.part _ _ _ _ _ _).trans (Fc.part _ _ _ _ _ _)).trans (Fc.mk _ _ _ _)
  · exact (Fc.part _ _ _ _ _ _).trans (Fc.mk _ _ _ _)
theorem Fc.frg (σ : St) (t : Int → Int) (n h : Int) : Fc σ (sFrg σ t n h) := by
  unfold sFrg
  split
  · split
    · exact (Fc.part _ _ _ _ _ _).trans (Fc.ref _ _)
    · exact Fc.part _ _ _ _ _ _
  · exact Fc.rfl'
theorem Fc.srv (σ : St) (t : Int → Int) (b e : Int) : Fc σ (sSrv σ t b e) := by
  unfold sSrv
  split
  · have h : Fc σ (pMk (if hSign t b e < e then pMk σ 4 3 b (hSign t b e) else σ) 4 4 (hHost t b e) (hCol t b e)) := by
      split
      · exact (Fc.mk _ _ _ _).trans (Fc.mk _ _ _ _)
      · exact Fc.mk _ _ _ _
    exact h.trans (Fc.pt' _ _)
  · exact Fc.rfl'
theorem Fc.cut2 (s : St) (t : Int → Int) (n : Int) : Fc s (sCut2 s t n) := by
  unfold sCut2
  split
  · exact (Fc.sch _ _ _).trans (Fc.opq _ _ _ _)
  · exact ((Fc.sch _ _ _).trans (Fc.aut _ _ _ _)).trans (Fc.pq _ _ _ _ _)
theorem Fc.cut3 (s : St) (t : Int → Int) (n : Int) : Fc s (sCut3 s t n) := (Fc.cut2 s t n).trans (Fc.frg _ _ _ _)
theorem Fc.cut4 (s : St) (t : Int → Int) (n : Int) : Fc s (sCut4 s t n) := by
  unfold sCut4
  split
  · exact (Fc.cut3 s t n).trans (Fc.srv _ _ _ _)
  · exact Fc.cut3 s t n
theorem Fc.cut5 (s : St) (t : Int → Int) (n : Int) : Fc s (sCut5 s t n) := (Fc.cut4 s t n).trans (Fc.hd' _ _)
theorem Fc.cut0 (σ : St) (i : Nat) (hW : Wk σ) : Fc σ (sCut0 σ i) := (((Fc.rf' σ (-1)).trans (Fc.fg _)).trans (Fc.tak _ i (Wk_fg (Wk_rf hW (by omega))))).trans (Fc.mk _ _ _ _)
theorem Fc.cut (σ : St) (i : Nat) (hW : Wk σ) : Fc σ (sCut σ i) := (Fc.cut0 σ i hW).trans (Fc.cut5 _ _ _)
theorem Wk_cut {σ : St} {i : Nat} (hW : Wk σ) (h9 : R9 σ) (hi4 : i ≠ 4) : Wk (sCut σ i) := (cut0_ok hW h9 hi4).cut5.1
-- anew
def sAn0 (σ : St) (j : Nat) : St := pPutP (pShort σ 6 0) j 8 6
def sAn (σ : St) (j : Nat) : St := sCut (sAn0 σ j) 6
def bAn (σ : St) (j : Nat) : Bool := decide (rf (sAn σ j) = -1 ∧ pPAs (sAn σ j) 4 j = 9 ∧ pt (sAn σ j) 4 = pt (sAn σ j) j)
def s3p1 (σ : St) (j : Nat) : St := pWP (pShort σ 6 0) 8 j 0 7
def s3p2 (σ : St) (j : Nat) : St := pWP (s3p1 σ j) 8 j 1 8
def s3p (σ : St) (j : Nat) : St := pWP (s3p2 σ j) 2 j 7 8
def b3p (σ : St) (j : Nat) : Bool := pIsW (s3p σ j) j 6
def sWo (σ : St) (j : Nat) : St := pWv σ j j (-1)
def bWo (σ : St) (j : Nat) : Bool := if pSkip (sWo σ j) j = true then pWoS (sWo σ j) j 6 else pIsW (sWo σ j) j 6
theorem sAn0_ok {σ : St} (h : Wk σ) (h9 : R9 σ) (j : Nat) : Wk (sAn0 σ j) ∧ R9 (sAn0 σ j) := ⟨Wk_putP (Wk_short h _ _) _ _ _, Same.R9 ((Same.short σ 6 0).trans (Same.putP _ j 8 6)) h9⟩
theorem sAn_ok {σ : St} (h : Wk σ) (h9 : R9 σ) (j : Nat) : Wk (sAn σ j) ∧ R9 (sAn σ j) :=
  ⟨Wk_cut (sAn0_ok h h9 j).1 (sAn0_ok h h9 j).2 (by decide), (Fc.cut _ 6 (sAn0_ok h h9 j).1).2.2.2.2 (sAn0_ok h h9 j).2⟩
theorem s3p_ok {σ : St} (h : Wk σ) (j : Nat) : Wk (s3p1 σ j) ∧ Wk (s3p2 σ j) ∧ Wk (s3p σ j) ∧ Same σ (s3p σ j) :=
  ⟨Wk_wp (Wk_short h _ _) _ _ _ _, Wk_wp (Wk_wp (Wk_short h _ _) _ _ _ _) _ _ _ _, Wk_wp (Wk_wp (Wk_wp (Wk_short h _ _) _ _ _ _) _ _ _ _) _ _ _ _, (((Same.short σ 6 0).trans (Same.wp _ _ _ _ _)).trans (Same.wp _ _ _ _ _)).trans (Same.wp _ _ _ _ _)⟩
/-- one address in isTrue -/
def trB (σ : St) (j : Nat) : Bool := if hld σ j = true then (if bAn σ j = true then (if b3p (sAn σ j) j = true then bWo (s3p (sAn σ j) j) j else false) else false) else true
def trS (σ : St) (j : Nat) : St := if hld σ j = true then (if bAn σ j = true then (if b3p (sAn σ j) j = true then sWo (s3p (sAn σ j) j) j else s3p (sAn σ j) j) else sAn σ j) else σ
def trFB (σ : St) (k : Int) : Bool := if k < 4 then (if trB σ k.toNat = true then trFB (trS σ k.toNat) (k + 1) else false) else true
termination_by (4 - k).toNat
decreasing_by omega
def trFS (σ : St) (k : Int) : St := if k < 4 then (if trB σ k.toNat = true then trFS (trS σ k.toNat) (k + 1) else trS σ k.toNat) else σ
termination_by (4 - k).toNat
decreasing_by omega
theorem trS_ok {σ : St} (h : Wk σ) (h9 : R9 σ) (j : Nat) : Wk (trS σ j) ∧ R9 (trS σ j) := by
  have h1 := sAn_ok h h9 j
  have h2 := s3p_ok h1.1 j
  have h3 := pWv_ok h2.2.2.1 j j (-1)
  have r2 : R9 (s3p (sAn σ j) j) := Same.R9 h2.2.2.2 h1.2
  unfold trS
  split
  · split
    · split
      · exact ⟨h3.1, Same.R9 h3.2 r2⟩
      · exact ⟨h2.2.2.1, r2⟩
    · exact h1
  · exact ⟨h, h9⟩
-- the checksum
def ckT (σ : St) (a p : Int) : Int := if p < cnt σ 5 then ckT σ (31 * a + pAt σ 5 p) (p + 1) else a
termination_by (cnt σ 5 - p).toNat
decreasing_by omega
def ckA (σ : St) (a k : Int) : Int := if k < 4 then ckA σ (pSum σ k.toNat a) (k + 1) else a
termination_by (4 - k).toNat
decreasing_by omega
def ckS (σ : St) : Int := ckA σ (31 * ckT σ 7 0 + rc σ) 0
theorem pPAsF_r (σ : St) (j i : Nat) : ∀ k : Int, k ≤ 10 → ∀ a : Int, a ≤ pPAsF σ j i a k ∧ pPAsF σ j i a k ≤ a + 10 - k := by
  refine up (fun k hk ih a => ?_)
  rw [pPAsF.eq_def]
  split
  · have h1 := ih (k + 1) (by omega) (by omega) (if pPA σ j i k = true then a + 1 else a)
    split at h1 <;> rename_i hq <;> simp only [hq, if_true, if_false, Bool.false_eq_true] <;> omega
  · omega
theorem pPAs_r (σ : St) (j i : Nat) : 0 ≤ pPAs σ j i ∧ pPAs σ j i ≤ 10 := by have := pPAsF_r σ j i 0 (by omega) 0; unfold pPAs; omega
theorem wsel_i {sw k : Int} {j i : Nat} (h : sw = k) : wsel sw k j i = i := if_pos h
theorem wsel_j {sw k : Int} {j i : Nat} (h : sw ≠ k) : wsel sw k j i = j := if_neg h
section X4c
variable {γ : Gm} {σ : St} {xs : va_W} {i j : Nat}
set_option maxRecDepth 100000 in
set_option maxHeartbeats 4000000 in
theorem x4_weavePart (hG : Full γ) (hj : vK 2 j = true) (hW : Wk σ) {w1 w2 : Nat} (hw1 : w1 < nS) (hw2 : w2 < nS) {k : Int} (hk9 : -2147483648 ≤ k ∧ k ≤ 2147483647) : Ev γ mX4_weavePart 6 0 0 [.ref (ga γ 6 0), .ref (gK γ w1), .ref (ga γ 2 j), .int (zI k), .ref (gK γ w2)] σ xs (rtn none (pWP σ w1 j k w2) xs) nX := by
  refine Ev.of1 0 [some (.ref (ga γ 6 0)), some (.ref (gK γ w1)), some (.ref (ga γ 2 j)), some (.int (zI k)), some (.ref (gK γ w2))] rfl pn_X4_weavePart rfl (Nat.le_of_ble_eq_true rfl) ?_
  refine r_aload_n (q := 1) dX4_weavePart_0 rfl rfl ?_
  refine r_iload_n (q := 2) dX4_weavePart_1 rfl rfl ?_
  refine cX0_1 (My := mX0_has) (q := 5) dX4_weavePart_2 rfl kX4_142 vX0_has (hG _ _ (by first | rfl | exact hj | exact hi)) rfl (x0_has hG hj hW hk9) ⟨by decide, by decide⟩ ⟨by decide, by decide⟩ (Nat.le_of_ble_eq_true rfl) ?_
  refine r_ifB_eq (q := 8) (tgt := 34) dX4_weavePart_5 rfl (by decide) (fun h5 => ?_) (fun h5 => ?_)
  · refine r_retv dX4_weavePart_34 rfl (by decide) (by decide) ?_
    first
      | exact ret_v (by unfold pWP; rw [if_pos (by assumption)])
      | exact ret_v (by unfold pWP; rw [if_neg (by simp_all)])
  · refine r_aload_n (q := 9) dX4_weavePart_8 rfl rfl ?_
    refine g_X4_loom (i := 0) (q := 12) dX4_weavePart_9 rfl fX4_16 (hG _ _ (by first | rfl | exact hj | exact hi)) ?_
    refine r_aload_n (q := 13) dX4_weavePart_12 rfl rfl ?_
    refine cX3_1v (My := mX3_putAll) (q := 16) dX4_weavePart_13 rfl kX4_82 vX3_putAll (hG _ _ (by first | rfl | exact hj | exact hi)) rfl (x3_putAll hG rfl hW hw1) ⟨by decide, by decide⟩ ⟨by decide, by decide⟩ (Nat.le_of_ble_eq_true rfl) ?_
    refine r_aload_n (q := 17) dX4_weavePart_16 rfl rfl ?_
    refine r_iload_n (q := 18) dX4_weavePart_17 rfl rfl ?_
    refine r_aload_n (q := 19) dX4_weavePart_18 rfl rfl ?_
    refine g_X4_loom (i := 0) (q := 22) dX4_weavePart_19 rfl fX4_16 (hG _ _ (by first | rfl | exact hj | exact hi)) ?_
    refine cX0_2v (My := mX0_putPart) (q := 25) dX4_weavePart_22 rfl kX4_170 vX0_putPart (hG _ _ (by first | rfl | exact hj | exact hi)) rfl (x0_putPart hG hj rfl (Wk_putS _ hW) hk9) ⟨by decide, by decide⟩ ⟨by decide, by decide⟩ (Nat.le_of_ble_eq_true rfl) ?_
    refine r_aload_n (q := 26) dX4_weavePart_25 rfl rfl ?_
    refine g_X4_loom (i := 0) (q := 29) dX4_weavePart_26 rfl fX4_16 (hG _ _ (by first | rfl | exact hj | exact hi)) ?_
    refine r_aload (q := 31) dX4_weavePart_29 rfl rfl ?_
    refine cX3_1v (My := mX3_putAll) (q := 34) dX4_weavePart_31 rfl kX4_82 vX3_putAll (hG _ _ (by first | rfl | exact hj | exact hi)) rfl (x3_putAll hG rfl (Wk_putP (Wk_putS _ hW) _ _ _) hw2) ⟨by decide, by decide⟩ ⟨by decide, by decide⟩ (Nat.le_of_ble_eq_true rfl) ?_
    refine r_retv dX4_weavePart_34 rfl (by decide) (by decide) ?_
    first
      | exact ret_v (by unfold pWP; rw [if_pos (by assumption)])
      | exact ret_v (by unfold pWP; rw [if_neg (by simp_all)])
set_option maxRecDepth 100000 in
set_option maxHeartbeats 4000000 in
theorem x4_weave (hG : Full γ) (hj : vK 2 j = true) (hi : vK 2 i = true) (hW : Wk σ) {sw : Int} (hsw : -2147483648 ≤ sw ∧ sw ≤ 2147483647) : Ev γ mX4_weave 7 0 0 [.ref (ga γ 6 0), .ref (ga γ 2 j), .ref (ga γ 2 i), .int (zI sw)] σ xs (rtn none (pWv σ j i sw) xs) nX := by
  refine Ev.of1 0 [some (.ref (ga γ 6 0)), some (.ref (ga γ 2 j)), some (.ref (ga γ 2 i)), some (.int (zI sw))] rfl pn_X4_weave rfl (Nat.le_of_ble_eq_true rfl) ?_
  have J117 : RW γ mX4_weave 7 0 0 (rtn none (pWv σ j i sw) xs) nX 0 0 117 [some (.ref (ga γ 6 0)), some (.ref (ga γ 2 j)), some (.ref (ga γ 2 i)), some (.int (zI sw))] [.ref (ga γ 2 (wsel sw 7 j i)), .ref (gK γ 2), .ref (ga γ 6 0)] (wv5 σ j i sw) xs := by
    refine r_bipush (q := 119) dX4_weave_117 rfl (bip (by decide) (by decide)) ?_
    refine r_ldcS (i := 8) (tx := "") (q := 121) dX4_weave_119 rfl (List.mem_of_getElem? (i := 8) rfl) ?_
    refine cX4_4v (My := mX4_weavePart) (q := 124) dX4_weave_121 rfl kX4_231 vX4_weavePart (hG _ _ (by first | rfl | exact hj | exact hi)) rfl (x4_weavePart hG (wsel_ok hj hi) (wv5_ok hW j i sw).1 (by decide) (by decide) (by decide)) ⟨by decide, by decide⟩ ⟨by decide, by decide⟩ (Nat.le_of_ble_eq_true rfl) ?_
    refine r_retv dX4_weave_124 rfl (by decide) (by decide) ?_
    exact ret_v rfl
  have J96 : RW γ mX4_weave 7 0 0 (rtn none (pWv σ j i sw) xs) nX 0 0 96 [some (.ref (ga γ 6 0)), some (.ref (ga γ 2 j)), some (.ref (ga γ 2 i)), some (.int (zI sw))] [.ref (ga γ 2 (wsel sw 6 j i)), .ref (gK γ 10), .ref (ga γ 6 0)] (wv4 σ j i sw) xs := by
    refine r_bipush (q := 98) dX4_weave_96 rfl (bip (by decide) (by decide)) ?_
    refine r_ldcS (i := 8) (tx := "") (q := 100) dX4_weave_98 rfl (List.mem_of_getElem? (i := 8) rfl) ?_
    refine cX4_4v (My := mX4_weavePart) (q := 103) dX4_weave_100 rfl kX4_231 vX4_weavePart (hG _ _ (by first | rfl | exact hj | exact hi)) rfl (x4_weavePart hG (wsel_ok hj hi) (wv4_ok hW j i sw).1 (by decide) (by decide) (by decide)) ⟨by decide, by decide⟩ ⟨by decide, by decide⟩ (Nat.le_of_ble_eq_true rfl) ?_
    refine r_aload_n (q := 104) dX4_weave_103 rfl rfl ?_
    refine r_ldcS (i := 2) (tx := "#") (q := 106) dX4_weave_104 rfl (List.mem_of_getElem? (i := 10) rfl) ?_
    refine r_iload_n (q := 107) dX4_weave_106 rfl rfl ?_
    refine r_bipush (q := 109) dX4_weave_107 rfl (bip (by decide) (by decide)) ?_
    refine r_icmp_ne (q := 112) (tgt := 116) dX4_weave_109 rfl (by decide) (by omega) (by omega) (fun h109 => ?_) (fun h109 => ?_)
    · refine r_aload_n (q := 117) dX4_weave_116 rfl rfl ?_
      first
        | (have e9 : wsel sw 7 j i = i := wsel_i (by omega); rw [e9] at J117; exact J117)
        | (have e9 : wsel sw 7 j i = j := wsel_j (by omega); rw [e9] at J117; exact J117)
    · refine r_aload_n (q := 113) dX4_weave_112 rfl rfl ?_
      refine r_goto (q := 117) dX4_weave_113 (by decide) ?_
      first
        | (have e9 : wsel sw 7 j i = i := wsel_i (by omega); rw [e9] at J117; exact J117)
        | (have e9 : wsel sw 7 j i = j := wsel_j (by omega); rw [e9] at J117; exact J117)
  have J76 : RW γ mX4_weave 7 0 0 (rtn none (pWv σ j i sw) xs) nX 0 0 76 [some (.ref (ga γ 6 0)), some (.ref (ga γ 2 j)), some (.ref (ga γ 2 i)), some (.int (zI sw))] [.ref (ga γ 2 (wsel sw 5 j i)), .ref (gK γ 8), .ref (ga γ 6 0)] (wv3 σ j i sw) xs := by
    refine r_iconst (q := 77) dX4_weave_76 rfl ?_
    refine r_ldcS (i := 8) (tx := "") (q := 79) dX4_weave_77 rfl (List.mem_of_getElem? (i := 8) rfl) ?_
    refine cX4_4v (My := mX4_weavePart) (q := 82) dX4_weave_79 rfl kX4_231 vX4_weavePart (hG _ _ (by first | rfl | exact hj | exact hi)) rfl (x4_weavePart hG (wsel_ok hj hi) (wv3_ok hW j i sw).1 (by decide) (by decide) (by decide)) ⟨by decide, by decide⟩ ⟨by decide, by decide⟩ (Nat.le_of_ble_eq_true rfl) ?_
    refine r_aload_n (q := 83) dX4_weave_82 rfl rfl ?_
    refine r_ldcS (i := 10) (tx := "?") (q := 85) dX4_weave_83 rfl (List.mem_of_getElem? (i := 12) rfl) ?_
    refine r_iload_n (q := 86) dX4_weave_85 rfl rfl ?_
    refine r_bipush (q := 88) dX4_weave_86 rfl (bip (by decide) (by decide)) ?_
    refine r_icmp_ne (q := 91) (tgt := 95) dX4_weave_88 rfl (by decide) (by omega) (by omega) (fun h88 => ?_) (fun h88 => ?_)
    · refine r_aload_n (q := 96) dX4_weave_95 rfl rfl ?_
      first
        | (have e9 : wsel sw 6 j i = i := wsel_i (by omega); rw [e9] at J96; exact J96)
        | (have e9 : wsel sw 6 j i = j := wsel_j (by omega); rw [e9] at J96; exact J96)
    · refine r_aload_n (q := 92) dX4_weave_91 rfl rfl ?_
      refine r_goto (q := 96) dX4_weave_92 (by decide) ?_
      first
        | (have e9 : wsel sw 6 j i = i := wsel_i (by omega); rw [e9] at J96; exact J96)
        | (have e9 : wsel sw 6 j i = j := wsel_j (by omega); rw [e9] at J96; exact J96)
  have J57 : RW γ mX4_weave 7 0 0 (rtn none (pWv σ j i sw) xs) nX 0 0 57 [some (.ref (ga γ 6 0)), some (.ref (ga γ 2 j)), some (.ref (ga γ 2 i)), some (.int (zI sw))] [.ref (ga γ 2 (wsel sw 2 j i)), .ref (gK γ 9), .ref (ga γ 6 0)] (wv2 σ j i sw) xs := by
    refine r_iconst (q := 58) dX4_weave_57 rfl ?_
    refine r_ldcS (i := 8) (tx := "") (q := 60) dX4_weave_58 rfl (List.mem_of_getElem? (i := 8) rfl) ?_
    refine cX4_4v (My := mX4_weavePart) (q := 63) dX4_weave_60 rfl kX4_231 vX4_weavePart (hG _ _ (by first | rfl | exact hj | exact hi)) rfl (x4_weavePart hG (wsel_ok hj hi) (wv2_ok hW j i sw).1 (by decide) (by decide) (by decide)) ⟨by decide, by decide⟩ ⟨by decide, by decide⟩ (Nat.le_of_ble_eq_true rfl) ?_
    refine r_aload_n (q := 64) dX4_weave_63 rfl rfl ?_
    refine r_ldcS (i := 8) (tx := "") (q := 66) dX4_weave_64 rfl (List.mem_of_getElem? (i := 8) rfl) ?_
    refine r_iload_n (q := 67) dX4_weave_66 rfl rfl ?_
    refine r_iconst (q := 68) dX4_weave_67 rfl ?_
    refine r_icmp_ne (q := 71) (tgt := 75) dX4_weave_68 rfl (by decide) (by omega) (by omega) (fun h68 => ?_) (fun h68 => ?_)
    · refine r_aload_n (q := 76) dX4_weave_75 rfl rfl ?_
      first
        | (have e9 : wsel sw 5 j i = i := wsel_i (by omega); rw [e9] at J76; exact J76)
        | (have e9 : wsel sw 5 j i = j := wsel_j (by omega); rw [e9] at J76; exact J76)
    · refine r_aload_n (q := 72) dX4_weave_71 rfl rfl ?_
      refine r_goto (q := 76) dX4_weave_72 (by decide) ?_
      first
        | (have e9 : wsel sw 5 j i = i := wsel_i (by omega); rw [e9] at J76; exact J76)
        | (have e9 : wsel sw 5 j i = j := wsel_j (by omega); rw [e9] at J76; exact J76)
  have J44 : RW γ mX4_weave 7 0 0 (rtn none (pWv σ j i sw) xs) nX 0 0 44 [some (.ref (ga γ 6 0)), some (.ref (ga γ 2 j)), some (.ref (ga γ 2 i)), some (.int (zI sw))] [] (wv2 σ j i sw) xs := by
    refine r_aload_n (q := 45) dX4_weave_44 rfl rfl ?_
    refine r_ldcS (i := 9) (tx := "//") (q := 47) dX4_weave_45 rfl (List.mem_of_getElem? (i := 11) rfl) ?_
    refine r_iload_n (q := 48) dX4_weave_47 rfl rfl ?_
    refine r_iconst (q := 49) dX4_weave_48 rfl ?_
    refine r_icmp_ne (q := 52) (tgt := 56) dX4_weave_49 rfl (by decide) (by omega) (by omega) (fun h49 => ?_) (fun h49 => ?_)
    · refine r_aload_n (q := 57) dX4_weave_56 rfl rfl ?_
      first
        | (have e9 : wsel sw 2 j i = i := wsel_i (by omega); rw [e9] at J57; exact J57)
        | (have e9 : wsel sw 2 j i = j := wsel_j (by omega); rw [e9] at J57; exact J57)
    · refine r_aload_n (q := 53) dX4_weave_52 rfl rfl ?_
      refine r_goto (q := 57) dX4_weave_53 (by decide) ?_
      first
        | (have e9 : wsel sw 2 j i = i := wsel_i (by omega); rw [e9] at J57; exact J57)
        | (have e9 : wsel sw 2 j i = j := wsel_j (by omega); rw [e9] at J57; exact J57)
  have J20 : RW γ mX4_weave 7 0 0 (rtn none (pWv σ j i sw) xs) nX 0 0 20 [some (.ref (ga γ 6 0)), some (.ref (ga γ 2 j)), some (.ref (ga γ 2 i)), some (.int (zI sw))] [.ref (ga γ 2 (wsel sw 0 j i)), .ref (gK γ 8), .ref (ga γ 6 0)] (pShort σ 6 0) xs := by
    refine r_iconst (q := 21) dX4_weave_20 rfl ?_
    refine r_ldcS (i := 7) (tx := ":") (q := 23) dX4_weave_21 rfl (List.mem_of_getElem? (i := 9) rfl) ?_
    refine cX4_4v (My := mX4_weavePart) (q := 26) dX4_weave_23 rfl kX4_231 vX4_weavePart (hG _ _ (by first | rfl | exact hj | exact hi)) rfl (x4_weavePart hG (wsel_ok hj hi) (Wk_short hW _ _) (by decide) (by decide) (by decide)) ⟨by decide, by decide⟩ ⟨by decide, by decide⟩ (Nat.le_of_ble_eq_true rfl) ?_
    refine r_aload_n (q := 27) dX4_weave_26 rfl rfl ?_
    refine r_iconst (q := 28) dX4_weave_27 rfl ?_
    refine cX0_1 (My := mX0_has) (q := 31) dX4_weave_28 rfl kX4_142 vX0_has (hG _ _ (by first | rfl | exact hj | exact hi)) rfl (x0_has hG hj (wv1_ok hW j i sw).1 (by decide)) ⟨by decide, by decide⟩ ⟨by decide, by decide⟩ (Nat.le_of_ble_eq_true rfl) ?_
    refine r_ifB_ne (q := 34) (tgt := 44) dX4_weave_31 rfl (by decide) (fun h31 => ?_) (fun h31 => ?_)
    · first
        | (have e8 : wv2 σ j i sw = wv1 σ j i sw := if_pos (by assumption)
           rw [e8] at J44; exact J44)
        | (have e8 : wv2 σ j i sw = pWP (wv1 σ j i sw) 8 j 1 8 := if_neg (by simp_all)
           rw [e8] at J44; exact J44)
    · refine r_aload_n (q := 35) dX4_weave_34 rfl rfl ?_
      refine r_ldcS (i := 8) (tx := "") (q := 37) dX4_weave_35 rfl (List.mem_of_getElem? (i := 8) rfl) ?_
      refine r_aload_n (q := 38) dX4_weave_37 rfl rfl ?_
      refine r_iconst (q := 39) dX4_weave_38 rfl ?_
      refine r_ldcS (i := 8) (tx := "") (q := 41) dX4_weave_39 rfl (List.mem_of_getElem? (i := 8) rfl) ?_
      refine cX4_4v (My := mX4_weavePart) (q := 44) dX4_weave_41 rfl kX4_231 vX4_weavePart (hG _ _ (by first | rfl | exact hj | exact hi)) rfl (x4_weavePart hG hj (wv1_ok hW j i sw).1 (by decide) (by decide) (by decide)) ⟨by decide, by decide⟩ ⟨by decide, by decide⟩ (Nat.le_of_ble_eq_true rfl) ?_
      first
        | (have e8 : wv2 σ j i sw = wv1 σ j i sw := if_pos (by assumption)
           rw [e8] at J44; exact J44)
        | (have e8 : wv2 σ j i sw = pWP (wv1 σ j i sw) 8 j 1 8 := if_neg (by simp_all)
           rw [e8] at J44; exact J44)
  refine r_aload_n (q := 1) dX4_weave_0 rfl rfl ?_
  refine g_X4_loom (i := 0) (q := 4) dX4_weave_1 rfl fX4_16 (hG _ _ (by first | rfl | exact hj | exact hi)) ?_
  refine r_iconst (q := 5) dX4_weave_4 rfl ?_
  refine cX3_1v (My := mX3_shorten) (q := 8) dX4_weave_5 rfl kX4_93 vX3_shorten (hG _ _ (by first | rfl | exact hj | exact hi)) rfl (x3_shorten hG rfl hW (by decide)) ⟨by decide, by decide⟩ ⟨by decide, by decide⟩ (Nat.le_of_ble_eq_true rfl) ?_
  refine r_aload_n (q := 9) dX4_weave_8 rfl rfl ?_
  refine r_ldcS (i := 8) (tx := "") (q := 11) dX4_weave_9 rfl (List.mem_of_getElem? (i := 8) rfl) ?_
  refine r_iload_n (q := 12) dX4_weave_11 rfl rfl ?_
  refine r_if_ne (q := 15) (tgt := 19) dX4_weave_12 rfl (by decide) (by omega) (fun h12 => ?_) (fun h12 => ?_)
  · refine r_aload_n (q := 20) dX4_weave_19 rfl rfl ?_
    first
      | (have e9 : wsel sw 0 j i = i := wsel_i (by omega); rw [e9] at J20; exact J20)
      | (have e9 : wsel sw 0 j i = j := wsel_j (by omega); rw [e9] at J20; exact J20)
  · refine r_aload_n (q := 16) dX4_weave_15 rfl rfl ?_
    refine r_goto (q := 20) dX4_weave_16 (by decide) ?_
    first
      | (have e9 : wsel sw 0 j i = i := wsel_i (by omega); rw [e9] at J20; exact J20)
      | (have e9 : wsel sw 0 j i = j := wsel_j (by omega); rw [e9] at J20; exact J20)
set_option maxRecDepth 100000 in
set_option maxHeartbeats 4000000 in
theorem x4_isSameAnew (hG : Full γ) (hj : vK 2 j = true) (hW : Wk σ) (h9 : R9 σ) : Ev γ mX4_isSameAnew 9 0 0 [.ref (ga γ 6 0), .ref (ga γ 2 j)] σ xs (rtn (some (.int (zI (bI (bAn σ j))))) (sAn σ j) xs) nX := by
  refine Ev.of1 0 [some (.ref (ga γ 6 0)), some (.ref (ga γ 2 j))] rfl pn_X4_isSameAnew rfl (Nat.le_of_ble_eq_true rfl) ?_
  have hA := sAn_ok hW h9 j
  have hR1 : -2147483648 ≤ rf (sCut (sAn0 σ j) 6) ∧ rf (sCut (sAn0 σ j) 6) ≤ 2147483647 := by have h8 := hA.1.2.2.2.2; change -1 ≤ rf (sCut (sAn0 σ j) 6) ∧ rf (sCut (sAn0 σ j) 6) ≤ 128 at h8; omega
  have hR2 : -2147483648 ≤ pPAs (sAn σ j) 4 j ∧ pPAs (sAn σ j) 4 j ≤ 2147483647 := by have := pPAs_r (sAn σ j) 4 j; omega
  have hR3 : -2147483648 ≤ pt (sAn σ j) 4 ∧ pt (sAn σ j) 4 ≤ 2147483647 := by have := hA.1.2.2.2.1 4; omega
  have hR4 : -2147483648 ≤ pt (sAn σ j) j ∧ pt (sAn σ j) j ≤ 2147483647 := by have := hA.1.2.2.2.1 j; omega
  refine r_aload_n (q := 1) dX4_isSameAnew_0 rfl rfl ?_
  refine g_X4_loom (i := 0) (q := 4) dX4_isSameAnew_1 rfl fX4_16 (hG _ _ (by first | rfl | exact hj | exact hi)) ?_
  refine r_iconst (q := 5) dX4_isSameAnew_4 rfl ?_
  refine cX3_1v (My := mX3_shorten) (q := 8) dX4_isSameAnew_5 rfl kX4_93 vX3_shorten (hG _ _ (by first | rfl | exact hj | exact hi)) rfl (x3_shorten hG rfl hW (by decide)) ⟨by decide, by decide⟩ ⟨by decide, by decide⟩ (Nat.le_of_ble_eq_true rfl) ?_
  refine r_aload_n (q := 9) dX4_isSameAnew_8 rfl rfl ?_
  refine r_bipush (q := 11) dX4_isSameAnew_9 rfl (bip (by decide) (by decide)) ?_
  refine r_aload_n (q := 12) dX4_isSameAnew_11 rfl rfl ?_
  refine g_X4_loom (i := 0) (q := 15) dX4_isSameAnew_12 rfl fX4_16 (hG _ _ (by first | rfl | exact hj | exact hi)) ?_
  refine cX0_2v (My := mX0_putPart) (q := 18) dX4_isSameAnew_15 rfl kX4_170 vX0_putPart (hG _ _ (by first | rfl | exact hj | exact hi)) rfl (x0_putPart hG hj rfl (Wk_short hW _ _) (by decide)) ⟨by decide, by decide⟩ ⟨by decide, by decide⟩ (Nat.le_of_ble_eq_true rfl) ?_
  refine r_aload_n (q := 19) dX4_isSameAnew_18 rfl rfl ?_
  refine g_X4_cutter (i := 0) (q := 22) dX4_isSameAnew_19 rfl fX4_22 (hG _ _ (by first | rfl | exact hj | exact hi)) ?_
  refine r_aload_n (q := 23) dX4_isSameAnew_22 rfl rfl ?_
  refine g_X4_loom (i := 0) (q := 26) dX4_isSameAnew_23 rfl fX4_16 (hG _ _ (by first | rfl | exact hj | exact hi)) ?_
  refine cX1_1 (My := mX1_cut) (q := 29) dX4_isSameAnew_26 rfl kX4_113 vX1_cut (hG _ _ (by first | rfl | exact hj | exact hi)) rfl (x1_cut hG rfl (by decide) (sAn0_ok hW h9 j).1 (sAn0_ok hW h9 j).2) ⟨by decide, by decide⟩ ⟨by decide, by decide⟩ (Nat.le_of_ble_eq_true rfl) ?_
  refine r_iconst (q := 30) dX4_isSameAnew_29 rfl ?_
  refine r_icmp_ne (q := 33) (tgt := 70) dX4_isSameAnew_30 rfl (by decide) (by first | omega | exact hR1 | exact hR2 | exact hR3 | exact hR4) (by first | omega | exact hR1 | exact hR2 | exact hR3 | exact hR4) (fun h30 => ?_) (fun h30 => ?_)
  · refine r_iconst (q := 71) dX4_isSameAnew_70 rfl ?_
    refine r_retz dX4_isSameAnew_71 rfl (by first | rfl | exact narB _) (by decide) (by decide) ?_
    first
      | exact ret_is (by show (1 : Int) = bI (bAn σ j); unfold bAn; rw [decide_eq_true (by refine ⟨?_, ?_, ?_⟩ <;> assumption)]; rfl) rfl
      | exact ret_is (by show (0 : Int) = bI (bAn σ j); unfold bAn; rw [decide_eq_false (by rintro ⟨z1, z2, z3⟩; first | exact h30 z1 | exact h46 z2 | exact h63 z3)]; rfl) rfl
  · refine r_aload_n (q := 34) dX4_isSameAnew_33 rfl rfl ?_
    refine g_X4_cutter (i := 0) (q := 37) dX4_isSameAnew_34 rfl fX4_22 (hG _ _ (by first | rfl | exact hj | exact hi)) ?_
    refine cX1_0 (My := mX1_address) (q := 40) dX4_isSameAnew_37 rfl kX4_117 vX1_address (hG _ _ (by first | rfl | exact hj | exact hi)) rfl (x1_address hG) ⟨by decide, by decide⟩ ⟨by decide, by decide⟩ (Nat.le_of_ble_eq_true rfl) ?_
    refine r_aload_n (q := 41) dX4_isSameAnew_40 rfl rfl ?_
    refine cX0_1 (My := mX0_partsAlike) (q := 44) dX4_isSameAnew_41 rfl kX4_174 vX0_partsAlike (hG _ _ (by first | rfl | exact hj | exact hi)) rfl (x0_partsAlike hG rfl hj hA.1) ⟨by decide, by decide⟩ ⟨by decide, by decide⟩ (Nat.le_of_ble_eq_true rfl) ?_
    refine r_bipush (q := 46) dX4_isSameAnew_44 rfl (bip (by decide) (by decide)) ?_
    refine r_icmp_ne (q := 49) (tgt := 70) dX4_isSameAnew_46 rfl (by decide) (by first | omega | exact hR1 | exact hR2 | exact hR3 | exact hR4) (by first | omega | exact hR1 | exact hR2 | exact hR3 | exact hR4) (fun h46 => ?_) (fun h46 => ?_)
    · refine r_iconst (q := 71) dX4_isSameAnew_70 rfl ?_
      refine r_retz dX4_isSameAnew_71 rfl (by first | rfl | exact narB _) (by decide) (by decide) ?_
      first
        | exact ret_is (by show (1 : Int) = bI (bAn σ j); unfold bAn; rw [decide_eq_true (by refine ⟨?_, ?_, ?_⟩ <;> assumption)]; rfl) rfl
        | exact ret_is (by show (0 : Int) = bI (bAn σ j); unfold bAn; rw [decide_eq_false (by rintro ⟨z1, z2, z3⟩; first | exact h30 z1 | exact h46 z2 | exact h63 z3)]; rfl) rfl
    · refine r_aload_n (q := 50) dX4_isSameAnew_49 rfl rfl ?_
      refine g_X4_cutter (i := 0) (q := 53) dX4_isSameAnew_50 rfl fX4_22 (hG _ _ (by first | rfl | exact hj | exact hi)) ?_
      refine cX1_0 (My := mX1_address) (q := 56) dX4_isSameAnew_53 rfl kX4_117 vX1_address (hG _ _ (by first | rfl | exact hj | exact hi)) rfl (x1_address hG) ⟨by decide, by decide⟩ ⟨by decide, by decide⟩ (Nat.le_of_ble_eq_true rfl) ?_
      refine cX0_0 (My := mX0_portNumber) (q := 59) dX4_isSameAnew_56 rfl kX4_146 vX0_portNumber (hG _ _ (by first | rfl | exact hj | exact hi)) rfl (x0_portNumber hG rfl) ⟨by decide, by decide⟩ ⟨by decide, by decide⟩ (Nat.le_of_ble_eq_true rfl) ?_
      refine r_aload_n (q := 60) dX4_isSameAnew_59 rfl rfl ?_
      refine cX0_0 (My := mX0_portNumber) (q := 63) dX4_isSameAnew_60 rfl kX4_146 vX0_portNumber (hG _ _ (by first | rfl | exact hj | exact hi)) rfl (x0_portNumber hG hj) ⟨by decide, by decide⟩ ⟨by decide, by decide⟩ (Nat.le_of_ble_eq_true rfl) ?_
      refine r_icmp_ne (q := 66) (tgt := 70) dX4_isSameAnew_63 rfl (by decide) (by first | omega | exact hR1 | exact hR2 | exact hR3 | exact hR4) (by first | omega | exact hR1 | exact hR2 | exact hR3 | exact hR4) (fun h63 => ?_) (fun h63 => ?_)
      · refine r_iconst (q := 71) dX4_isSameAnew_70 rfl ?_
        refine r_retz dX4_isSameAnew_71 rfl (by first | rfl | exact narB _) (by decide) (by decide) ?_
        first
          | exact ret_is (by show (1 : Int) = bI (bAn σ j); unfold bAn; rw [decide_eq_true (by refine ⟨?_, ?_, ?_⟩ <;> assumption)]; rfl) rfl
          | exact ret_is (by show (0 : Int) = bI (bAn σ j); unfold bAn; rw [decide_eq_false (by rintro ⟨z1, z2, z3⟩; first | exact h30 z1 | exact h46 z2 | exact h63 z3)]; rfl) rfl
      · refine r_iconst (q := 67) dX4_isSameAnew_66 rfl ?_
        refine r_goto (q := 71) dX4_isSameAnew_67 (by decide) ?_
        refine r_retz dX4_isSameAnew_71 rfl (by first | rfl | exact narB _) (by decide) (by decide) ?_
        first
          | exact ret_is (by show (1 : Int) = bI (bAn σ j); unfold bAn; rw [decide_eq_true (by refine ⟨?_, ?_, ?_⟩ <;> assumption)]; rfl) rfl
          | exact ret_is (by show (0 : Int) = bI (bAn σ j); unfold bAn; rw [decide_eq_false (by rintro ⟨z1, z2, z3⟩; first | exact h30 z1 | exact h46 z2 | exact h63 z3)]; rfl) rfl
set_option maxRecDepth 100000 in
set_option maxHeartbeats 4000000 in
theorem x4_isThreeParts (hG : Full γ) (hj : vK 2 j = true) (hW : Wk σ) : Ev γ mX4_isThreeParts 9 0 0 [.ref (ga γ 6 0), .ref (ga γ 2 j)] σ xs (rtn (some (.int (zI (bI (b3p σ j))))) (s3p σ j) xs) nX := by
  refine Ev.of1 0 [some (.ref (ga γ 6 0)), some (.ref (ga γ 2 j))] rfl pn_X4_isThreeParts rfl (Nat.le_of_ble_eq_true rfl) ?_
  refine r_aload_n (q := 1) dX4_isThreeParts_0 rfl rfl ?_
  refine g_X4_loom (i := 0) (q := 4) dX4_isThreeParts_1 rfl fX4_16 (hG _ _ (by first | rfl | exact hj | exact hi)) ?_
  refine r_iconst (q := 5) dX4_isThreeParts_4 rfl ?_
  refine cX3_1v (My := mX3_shorten) (q := 8) dX4_isThreeParts_5 rfl kX4_93 vX3_shorten (hG _ _ (by first | rfl | exact hj | exact hi)) rfl (x3_shorten hG rfl hW (by decide)) ⟨by decide, by decide⟩ ⟨by decide, by decide⟩ (Nat.le_of_ble_eq_true rfl) ?_
  refine r_aload_n (q := 9) dX4_isThreeParts_8 rfl rfl ?_
  refine r_ldcS (i := 8) (tx := "") (q := 11) dX4_isThreeParts_9 rfl (List.mem_of_getElem? (i := 8) rfl) ?_
  refine r_aload_n (q := 12) dX4_isThreeParts_11 rfl rfl ?_
  refine r_iconst (q := 13) dX4_isThreeParts_12 rfl ?_
  refine r_ldcS (i := 7) (tx := ":") (q := 15) dX4_isThreeParts_13 rfl (List.mem_of_getElem? (i := 9) rfl) ?_
  refine cX4_4v (My := mX4_weavePart) (q := 18) dX4_isThreeParts_15 rfl kX4_231 vX4_weavePart (hG _ _ (by first | rfl | exact hj | exact hi)) rfl (x4_weavePart hG hj (Wk_short hW _ _) (by decide) (by decide) (by decide)) ⟨by decide, by decide⟩ ⟨by decide, by decide⟩ (Nat.le_of_ble_eq_true rfl) ?_
  refine r_aload_n (q := 19) dX4_isThreeParts_18 rfl rfl ?_
  refine r_ldcS (i := 8) (tx := "") (q := 21) dX4_isThreeParts_19 rfl (List.mem_of_getElem? (i := 8) rfl) ?_
  refine r_aload_n (q := 22) dX4_isThreeParts_21 rfl rfl ?_
  refine r_iconst (q := 23) dX4_isThreeParts_22 rfl ?_
  refine r_ldcS (i := 8) (tx := "") (q := 25) dX4_isThreeParts_23 rfl (List.mem_of_getElem? (i := 8) rfl) ?_
  refine cX4_4v (My := mX4_weavePart) (q := 28) dX4_isThreeParts_25 rfl kX4_231 vX4_weavePart (hG _ _ (by first | rfl | exact hj | exact hi)) rfl (x4_weavePart hG hj (s3p_ok hW j).1 (by decide) (by decide) (by decide)) ⟨by decide, by decide⟩ ⟨by decide, by decide⟩ (Nat.le_of_ble_eq_true rfl) ?_
  refine r_aload_n (q := 29) dX4_isThreeParts_28 rfl rfl ?_
  refine r_ldcS (i := 2) (tx := "#") (q := 31) dX4_isThreeParts_29 rfl (List.mem_of_getElem? (i := 10) rfl) ?_
  refine r_aload_n (q := 32) dX4_isThreeParts_31 rfl rfl ?_
  refine r_bipush (q := 34) dX4_isThreeParts_32 rfl (bip (by decide) (by decide)) ?_
  refine r_ldcS (i := 8) (tx := "") (q := 36) dX4_isThreeParts_34 rfl (List.mem_of_getElem? (i := 8) rfl) ?_
  refine cX4_4v (My := mX4_weavePart) (q := 39) dX4_isThreeParts_36 rfl kX4_231 vX4_weavePart (hG _ _ (by first | rfl | exact hj | exact hi)) rfl (x4_weavePart hG hj (s3p_ok hW j).2.1 (by decide) (by decide) (by decide)) ⟨by decide, by decide⟩ ⟨by decide, by decide⟩ (Nat.le_of_ble_eq_true rfl) ?_
  refine r_aload_n (q := 40) dX4_isThreeParts_39 rfl rfl ?_
  refine r_aload_n (q := 41) dX4_isThreeParts_40 rfl rfl ?_
  refine g_X4_loom (i := 0) (q := 44) dX4_isThreeParts_41 rfl fX4_16 (hG _ _ (by first | rfl | exact hj | exact hi)) ?_
  refine cX0_1 (My := mX0_isWhole) (q := 47) dX4_isThreeParts_44 rfl kX4_185 vX0_isWhole (hG _ _ (by first | rfl | exact hj | exact hi)) rfl (x0_isWhole hG hj rfl (s3p_ok hW j).2.2.1) ⟨by decide, by decide⟩ ⟨by decide, by decide⟩ (Nat.le_of_ble_eq_true rfl) ?_
  refine r_retz dX4_isThreeParts_47 rfl (narB _) (by decide) (by decide) ?_
  exact ret_is rfl rfl
set_option maxRecDepth 100000 in
set_option maxHeartbeats 4000000 in
theorem x4_isWovenAgain (hG : Full γ) (hj : vK 2 j = true) (hW : Wk σ) : Ev γ mX4_isWovenAgain 9 0 0 [.ref (ga γ 6 0), .ref (ga γ 2 j)] σ xs (rtn (some (.int (zI (bI (bWo σ j))))) (sWo σ j) xs) nX := by
  refine Ev.of1 0 [some (.ref (ga γ 6 0)), some (.ref (ga γ 2 j))] rfl pn_X4_isWovenAgain rfl (Nat.le_of_ble_eq_true rfl) ?_
  refine r_aload_n (q := 1) dX4_isWovenAgain_0 rfl rfl ?_
  refine r_aload_n (q := 2) dX4_isWovenAgain_1 rfl rfl ?_
  refine r_aload_n (q := 3) dX4_isWovenAgain_2 rfl rfl ?_
  refine r_iconst (q := 4) dX4_isWovenAgain_3 rfl ?_
  refine cX4_3v (My := mX4_weave) (q := 7) dX4_isWovenAgain_4 rfl kX4_178 vX4_weave (hG _ _ (by first | rfl | exact hj | exact hi)) rfl (x4_weave hG hj hj hW (by decide)) ⟨by decide, by decide⟩ ⟨by decide, by decide⟩ (Nat.le_of_ble_eq_true rfl) ?_
  refine r_aload_n (q := 8) dX4_isWovenAgain_7 rfl rfl ?_
  refine cX0_0 (My := mX0_isSkippingSlashes) (q := 11) dX4_isWovenAgain_8 rfl kX4_241 vX0_isSkippingSlashes (hG _ _ (by first | rfl | exact hj | exact hi)) rfl (x0_isSkippingSlashes hG hj (pWv_ok hW j j (-1)).1) ⟨by decide, by decide⟩ ⟨by decide, by decide⟩ (Nat.le_of_ble_eq_true rfl) ?_
  refine r_ifB_eq (q := 14) (tgt := 25) dX4_isWovenAgain_11 rfl (by decide) (fun h11 => ?_) (fun h11 => ?_)
  · refine r_aload_n (q := 26) dX4_isWovenAgain_25 rfl rfl ?_
    refine r_aload_n (q := 27) dX4_isWovenAgain_26 rfl rfl ?_
    refine g_X4_loom (i := 0) (q := 30) dX4_isWovenAgain_27 rfl fX4_16 (hG _ _ (by first | rfl | exact hj | exact hi)) ?_
    refine cX0_1 (My := mX0_isWhole) (q := 33) dX4_isWovenAgain_30 rfl kX4_185 vX0_isWhole (hG _ _ (by first | rfl | exact hj | exact hi)) rfl (x0_isWhole hG hj rfl (pWv_ok hW j j (-1)).1) ⟨by decide, by decide⟩ ⟨by decide, by decide⟩ (Nat.le_of_ble_eq_true rfl) ?_
    refine r_retz dX4_isWovenAgain_33 rfl (narB _) (by decide) (by decide) ?_
    first
      | exact ret_is (by unfold bWo; rw [if_pos (show pSkip (sWo σ j) j = true by assumption)]; rfl) rfl
      | exact ret_is (by unfold bWo; rw [if_neg (by rw [show pSkip (sWo σ j) j = false by assumption]; decide)]; rfl) rfl
  · refine r_aload_n (q := 15) dX4_isWovenAgain_14 rfl rfl ?_
    refine r_aload_n (q := 16) dX4_isWovenAgain_15 rfl rfl ?_
    refine g_X4_loom (i := 0) (q := 19) dX4_isWovenAgain_16 rfl fX4_16 (hG _ _ (by first | rfl | exact hj | exact hi)) ?_
    refine cX0_1 (My := mX0_isWholeWithoutSlashes) (q := 22) dX4_isWovenAgain_19 rfl kX4_244 vX0_isWholeWithoutSlashes (hG _ _ (by first | rfl | exact hj | exact hi)) rfl (x0_isWholeWithoutSlashes hG hj rfl (pWv_ok hW j j (-1)).1) ⟨by decide, by decide⟩ ⟨by decide, by decide⟩ (Nat.le_of_ble_eq_true rfl) ?_
    refine r_goto (q := 33) dX4_isWovenAgain_22 (by decide) ?_
    refine r_retz dX4_isWovenAgain_33 rfl (narB _) (by decide) (by decide) ?_
    first
      | exact ret_is (by unfold bWo; rw [if_pos (show pSkip (sWo σ j) j = true by assumption)]; rfl) rfl
      | exact ret_is (by unfold bWo; rw [if_neg (by rw [show pSkip (sWo σ j) j = false by assumption]; decide)]; rfl) rfl
set_option maxRecDepth 100000 in
set_option maxHeartbeats 4000000 in
theorem x4_isTrue (hG : Full γ) (hW : Wk σ) (h9 : R9 σ) : Ev γ mX4_isTrue 10 0 0 [.ref (ga γ 6 0)] σ xs (rtn (some (.int (zI (bI (trFB σ 0))))) (trFS σ 0) xs) nX := by
  refine Ev.of1 4 [some (.ref (ga γ 6 0)), none, none, none, none] rfl pn_X4_isTrue rfl (Nat.le_of_ble_eq_true rfl) ?_
  have loop : ∀ k : Int, k ≤ 5 → 0 ≤ k → ∀ σ1 : St, Wk σ1 → R9 σ1 → trFB σ1 k = trFB σ 0 → trFS σ1 k = trFS σ 0 → RW γ mX4_isTrue 10 0 0 (rtn (some (.int (zI (bI (trFB σ 0))))) (trFS σ 0) xs) nX 0 0 10 [some (.ref (ga γ 6 0)), some (.ref (ga γ 7 0)), some (.int (zI 4)), some (.int (zI (k))), none] [] σ1 xs := by
    refine up (fun k hk9 ih h0 σ1 hW1 h91 hr1 hr2 => ?_)
    have hA := sAn_ok hW1 h91 k.toNat
    have hB := s3p_ok hA.1 k.toNat
    refine r_iload_n (q := 11) dX4_isTrue_10 rfl rfl ?_
    refine r_iload_n (q := 12) dX4_isTrue_11 rfl rfl ?_
    refine r_icmp_ge (q := 15) (tgt := 63) dX4_isTrue_12 rfl (by decide) (by omega) (by omega) (fun h12 => ?_) (fun h12 => ?_)
    · refine r_iconst (q := 64) dX4_isTrue_63 rfl ?_
      refine r_retz dX4_isTrue_64 rfl (by first | rfl | exact narB _) (by decide) (by decide) ?_
      first
        | exact ret_is (by rw [← hr1, trFB.eq_def σ1 k, if_neg (by omega)]; rfl) (by rw [← hr2, trFS.eq_def σ1 k, if_neg (by omega)])
        | (have e1 : trB σ1 k.toNat = false := by (unfold trB; simp [*])
           exact ret_is (by rw [← hr1, trFB.eq_def σ1 k, if_pos (by omega), e1]; rfl) (by rw [← hr2, trFS.eq_def σ1 k, if_pos (by omega), e1, if_neg (by decide)]; unfold trS; simp only [*, if_true, if_false, Bool.false_eq_true]))
    · refine r_aload_n (q := 16) dX4_isTrue_15 rfl rfl ?_
      refine r_iload_n (q := 17) dX4_isTrue_16 rfl rfl ?_
      refine r_aaldS (q := 18) dX4_isTrue_17 rfl (hG _ _ (by first | rfl | exact vk2 (by omega))) (by omega) ?_
      refine r_astore (q := 20) dX4_isTrue_18 rfl (by decide) (Lst.setL rfl rfl) ?_
      refine r_aload (q := 22) dX4_isTrue_20 rfl rfl ?_
      refine cX0_0 (My := mX0_isHeld) (q := 25) dX4_isTrue_22 rfl kX4_135 vX0_isHeld (hG _ _ (by first | rfl | exact vk2 (by omega))) rfl (x0_isHeld hG (vk2 (by omega))) ⟨by decide, by decide⟩ ⟨by decide, by decide⟩ (Nat.le_of_ble_eq_true rfl) ?_
      refine r_ifB_eq (q := 28) (tgt := 57) dX4_isTrue_25 rfl (by decide) (fun h25 => ?_) (fun h25 => ?_)
      · refine r_iinc (q := 60) dX4_isTrue_57 rfl rfl (by decide) (Lst.setL rfl rfl) ?_
        refine r_goto (q := 10) dX4_isTrue_60 (by decide) ?_
        refine RW.drop 4 ?_
        first
          | (have e0 : hld σ1 k.toNat = false := by assumption
             exact ih (k + 1) (by omega) (by omega) (by omega) σ1 hW1 h91 (by rw [← hr1, trFB.eq_def σ1 k, if_pos (by omega), if_pos (by unfold trB; simp [e0])]; unfold trS; simp [e0]) (by rw [← hr2, trFS.eq_def σ1 k, if_pos (by omega), if_pos (by unfold trB; simp [e0])]; unfold trS; simp [e0]))
          | (have e1 : trB σ1 k.toNat = true := (by unfold trB; simp [*])
             have e2 : trS σ1 k.toNat = sWo (s3p (sAn σ1 k.toNat) k.toNat) k.toNat := (by unfold trS; simp only [*, if_true])
             have hS1 := trS_ok hW1 h91 k.toNat
             have q1 : trFB (trS σ1 k.toNat) (k + 1) = trFB σ 0 := by rw [← hr1, trFB.eq_def σ1 k, if_pos (by omega), if_pos e1]
             have q2 : trFS (trS σ1 k.toNat) (k + 1) = trFS σ 0 := by rw [← hr2, trFS.eq_def σ1 k, if_pos (by omega), if_pos e1]
             rw [e2] at hS1 q1 q2
             exact ih (k + 1) (by omega) (by omega) (by omega) _ hS1.1 hS1.2 q1 q2)
      · refine r_aload_n (q := 29) dX4_isTrue_28 rfl rfl ?_
        refine r_aload (q := 31) dX4_isTrue_29 rfl rfl ?_
        refine cX4_1 (My := mX4_isSameAnew) (q := 34) dX4_isTrue_31 rfl kX4_201 vX4_isSameAnew (hG _ _ (by first | rfl | exact vk2 (by omega))) rfl (x4_isSameAnew hG (vk2 (by omega)) hW1 h91) ⟨by decide, by decide⟩ ⟨by decide, by decide⟩ (Nat.le_of_ble_eq_true rfl) ?_
        refine r_ifB_eq (q := 37) (tgt := 55) dX4_isTrue_34 rfl (by decide) (fun h34 => ?_) (fun h34 => ?_)
        · refine r_iconst (q := 56) dX4_isTrue_55 rfl ?_
          refine r_retz dX4_isTrue_56 rfl (by first | rfl | exact narB _) (by decide) (by decide) ?_
          first
            | exact ret_is (by rw [← hr1, trFB.eq_def σ1 k, if_neg (by omega)]; rfl) (by rw [← hr2, trFS.eq_def σ1 k, if_neg (by omega)])
            | (have e1 : trB σ1 k.toNat = false := by (unfold trB; simp [*])
               exact ret_is (by rw [← hr1, trFB.eq_def σ1 k, if_pos (by omega), e1]; rfl) (by rw [← hr2, trFS.eq_def σ1 k, if_pos (by omega), e1, if_neg (by decide)]; unfold trS; simp only [*, if_true, if_false, Bool.false_eq_true]))
        · refine r_aload_n (q := 38) dX4_isTrue_37 rfl rfl ?_
          refine r_aload (q := 40) dX4_isTrue_38 rfl rfl ?_
          refine cX4_1 (My := mX4_isThreeParts) (q := 43) dX4_isTrue_40 rfl kX4_205 vX4_isThreeParts (hG _ _ (by first | rfl | exact vk2 (by omega))) rfl (x4_isThreeParts hG (vk2 (by omega)) hA.1) ⟨by decide, by decide⟩ ⟨by decide, by decide⟩ (Nat.le_of_ble_eq_true rfl) ?_
          refine r_ifB_eq (q := 46) (tgt := 55) dX4_isTrue_43 rfl (by decide) (fun h43 => ?_) (fun h43 => ?_)
          · refine r_iconst (q := 56) dX4_isTrue_55 rfl ?_
            refine r_retz dX4_isTrue_56 rfl (by first | rfl | exact narB _) (by decide) (by decide) ?_
            first
              | exact ret_is (by rw [← hr1, trFB.eq_def σ1 k, if_neg (by omega)]; rfl) (by rw [← hr2, trFS.eq_def σ1 k, if_neg (by omega)])
              | (have e1 : trB σ1 k.toNat = false := by (unfold trB; simp [*])
                 exact ret_is (by rw [← hr1, trFB.eq_def σ1 k, if_pos (by omega), e1]; rfl) (by rw [← hr2, trFS.eq_def σ1 k, if_pos (by omega), e1, if_neg (by decide)]; unfold trS; simp only [*, if_true, if_false, Bool.false_eq_true]))
          · refine r_aload_n (q := 47) dX4_isTrue_46 rfl rfl ?_
            refine r_aload (q := 49) dX4_isTrue_47 rfl rfl ?_
            refine cX4_1 (My := mX4_isWovenAgain) (q := 52) dX4_isTrue_49 rfl kX4_208 vX4_isWovenAgain (hG _ _ (by first | rfl | exact vk2 (by omega))) rfl (x4_isWovenAgain hG (vk2 (by omega)) hB.2.2.1) ⟨by decide, by decide⟩ ⟨by decide, by decide⟩ (Nat.le_of_ble_eq_true rfl) ?_
            refine r_ifB_ne (q := 55) (tgt := 57) dX4_isTrue_52 rfl (by decide) (fun h52 => ?_) (fun h52 => ?_)
            · refine r_iinc (q := 60) dX4_isTrue_57 rfl rfl (by decide) (Lst.setL rfl rfl) ?_
              refine r_goto (q := 10) dX4_isTrue_60 (by decide) ?_
              refine RW.drop 4 ?_
              first
                | (have e0 : hld σ1 k.toNat = false := by assumption
                   exact ih (k + 1) (by omega) (by omega) (by omega) σ1 hW1 h91 (by rw [← hr1, trFB.eq_def σ1 k, if_pos (by omega), if_pos (by unfold trB; simp [e0])]; unfold trS; simp [e0]) (by rw [← hr2, trFS.eq_def σ1 k, if_pos (by omega), if_pos (by unfold trB; simp [e0])]; unfold trS; simp [e0]))
                | (have e1 : trB σ1 k.toNat = true := (by unfold trB; simp [*])
                   have e2 : trS σ1 k.toNat = sWo (s3p (sAn σ1 k.toNat) k.toNat) k.toNat := (by unfold trS; simp only [*, if_true])
                   have hS1 := trS_ok hW1 h91 k.toNat
                   have q1 : trFB (trS σ1 k.toNat) (k + 1) = trFB σ 0 := by rw [← hr1, trFB.eq_def σ1 k, if_pos (by omega), if_pos e1]
                   have q2 : trFS (trS σ1 k.toNat) (k + 1) = trFS σ 0 := by rw [← hr2, trFS.eq_def σ1 k, if_pos (by omega), if_pos e1]
                   rw [e2] at hS1 q1 q2
                   exact ih (k + 1) (by omega) (by omega) (by omega) _ hS1.1 hS1.2 q1 q2)
            · refine r_iconst (q := 56) dX4_isTrue_55 rfl ?_
              refine r_retz dX4_isTrue_56 rfl (by first | rfl | exact narB _) (by decide) (by decide) ?_
              first
                | exact ret_is (by rw [← hr1, trFB.eq_def σ1 k, if_neg (by omega)]; rfl) (by rw [← hr2, trFS.eq_def σ1 k, if_neg (by omega)])
                | (have e1 : trB σ1 k.toNat = false := by (unfold trB; simp [*])
                   exact ret_is (by rw [← hr1, trFB.eq_def σ1 k, if_pos (by omega), e1]; rfl) (by rw [← hr2, trFS.eq_def σ1 k, if_pos (by omega), e1, if_neg (by decide)]; unfold trS; simp only [*, if_true, if_false, Bool.false_eq_true]))
  refine r_aload_n (q := 1) dX4_isTrue_0 rfl rfl ?_
  refine g_X4_slots (i := 0) (q := 4) dX4_isTrue_1 rfl fX4_28 (hG _ _ rfl) ?_
  refine r_astore_n (q := 5) dX4_isTrue_4 rfl (by decide) (Lst.setL rfl rfl) ?_
  refine r_aload_n (q := 6) dX4_isTrue_5 rfl rfl ?_
  refine r_alen (q := 7) (t0 := 3) (z := 4) rfl rfl rfl dX4_isTrue_6 rfl (hG _ _ rfl) ?_
  refine r_istore_n (q := 8) dX4_isTrue_7 rfl (by decide) (Lst.setL rfl rfl) ?_
  refine r_iconst (q := 9) dX4_isTrue_8 rfl ?_
  refine r_istore_n (q := 10) dX4_isTrue_9 rfl (by decide) (Lst.setL rfl rfl) ?_
  exact loop 0 (by omega) (by omega) σ hW h9 rfl rfl
set_option maxRecDepth 100000 in
set_option maxHeartbeats 4000000 in
theorem x4_checksum (hG : Full γ) (hW : Wk σ) (hrc : 0 ≤ rc σ ∧ rc σ ≤ 2147483647) : Ev γ mX4_checksum 7 0 0 [.ref (ga γ 6 0)] σ xs (rtn (some (.long (zL (ckS σ)))) σ xs) nX := by
  refine Ev.of1 6 [some (.ref (ga γ 6 0)), none, none, none, none, none, none] rfl pn_X4_checksum rfl (Nat.le_of_ble_eq_true rfl) ?_
  have hc5 := hW.1 5
  have loop2 : ∀ k : Int, k ≤ 5 → 0 ≤ k → ∀ a : Int, ckA σ a k = ckS σ → RW γ mX4_checksum 7 0 0 (rtn (some (.long (zL (ckS σ)))) σ xs) nX 0 0 63 [some (.ref (ga γ 6 0)), some (.long (zL (a))), none, some (.ref (ga γ 7 0)), some (.int (zI 4)), some (.int (zI (k))), none] [] σ xs := by
    refine up (fun k hk9 ih h0 a hr => ?_)
    refine r_iload (q := 65) dX4_checksum_63 rfl rfl ?_
    refine r_iload (q := 67) dX4_checksum_65 rfl rfl ?_
    refine r_icmp_ge (q := 70) (tgt := 89) dX4_checksum_67 rfl (by decide) (by omega) (by omega) (fun h67 => ?_) (fun h67 => ?_)
    · refine r_lload_n (q := 90) dX4_checksum_89 rfl rfl ?_
      refine r_retl dX4_checksum_90 rfl (by decide) (by decide) ?_
      exact ret_l (by rw [← hr, ckA.eq_def σ a k, if_neg (by omega)])
    · refine r_aload_n (q := 71) dX4_checksum_70 rfl rfl ?_
      refine r_iload (q := 73) dX4_checksum_71 rfl rfl ?_
      refine r_aaldS (q := 74) dX4_checksum_73 rfl (hG _ _ (by first | rfl | exact vk2 (by omega))) (by omega) ?_
      refine r_astore (q := 76) dX4_checksum_74 rfl (by decide) (Lst.setL rfl rfl) ?_
      refine r_aload (q := 78) dX4_checksum_76 rfl rfl ?_
      refine r_lload_n (q := 79) dX4_checksum_78 rfl rfl ?_
      refine cX0_1 (My := mX0_sumBehind) (q := 82) dX4_checksum_79 rfl kX4_215 vX0_sumBehind (hG _ _ (by first | rfl | exact vk2 (by omega))) rfl (x0_sumBehind hG (vk2 (by omega)) hW) ⟨by decide, by decide⟩ ⟨by decide, by decide⟩ (Nat.le_of_ble_eq_true rfl) ?_
      refine r_lstore_n (q := 83) dX4_checksum_82 rfl (by decide) (Lst.set2 rfl) ?_
      refine r_iinc (q := 86) dX4_checksum_83 rfl rfl (by decide) (Lst.setL rfl rfl) ?_
      refine r_goto (q := 63) dX4_checksum_86 (by decide) ?_
      refine RW.drop 6 ?_
      exact ih (k + 1) (by omega) (by omega) (by omega) _ (by rw [← hr, ckA.eq_def σ a k, if_pos (by omega)])
  have loop : ∀ p : Int, p ≤ 129 → 0 ≤ p → ∀ a : Int, ckT σ a p = ckT σ 7 0 → RW γ mX4_checksum 7 0 0 (rtn (some (.long (zL (ckS σ)))) σ xs) nX 0 0 6 [some (.ref (ga γ 6 0)), some (.long (zL (a))), none, some (.int (zI (p))), none, none, none] [] σ xs := by
    refine up (fun p hp9 ih h0 a hr => ?_)
    refine r_iload_n (q := 7) dX4_checksum_6 rfl rfl ?_
    refine r_aload_n (q := 8) dX4_checksum_7 rfl rfl ?_
    refine g_X4_text (i := 0) (q := 11) dX4_checksum_8 rfl fX4_10 (hG _ _ rfl) ?_
    refine cX3_0 (My := mX3_count) (q := 14) dX4_checksum_11 rfl kX4_56 vX3_count (hG _ _ rfl) rfl (x3_count hG rfl) ⟨by decide, by decide⟩ ⟨by decide, by decide⟩ (Nat.le_of_ble_eq_true rfl) ?_
    refine r_icmp_ge (q := 17) (tgt := 39) dX4_checksum_14 rfl (by decide) (by first | omega | exact pAt_r _ _ _) (by first | omega | exact pAt_r _ _ _) (fun h14 => ?_) (fun h14 => ?_)
    · refine r_ldc2 (q := 42) dX4_checksum_39 rfl cX4_213 ?_
      refine r_lload_n (q := 43) dX4_checksum_42 rfl rfl ?_
      refine r_lmul (q := 44) dX4_checksum_43 rfl ?_
      refine r_aload_n (q := 45) dX4_checksum_44 rfl rfl ?_
      refine g_X4_refusalCount (i := 0) (q := 48) dX4_checksum_45 rfl fX4_125 (hG _ _ rfl) ?_
      refine r_i2l (q := 49) dX4_checksum_48 rfl (by first | omega | exact pAt_r _ _ _) ?_
      refine r_ladd (q := 50) dX4_checksum_49 rfl ?_
      refine r_lstore_n (q := 51) dX4_checksum_50 rfl (by decide) (Lst.set2 rfl) ?_
      refine r_aload_n (q := 52) dX4_checksum_51 rfl rfl ?_
      refine g_X4_slots (i := 0) (q := 55) dX4_checksum_52 rfl fX4_28 (hG _ _ rfl) ?_
      refine r_astore_n (q := 56) dX4_checksum_55 rfl (by decide) (Lst.setL rfl rfl) ?_
      refine r_aload_n (q := 57) dX4_checksum_56 rfl rfl ?_
      refine r_alen (q := 58) (t0 := 3) (z := 4) rfl rfl rfl dX4_checksum_57 rfl (hG _ _ rfl) ?_
      refine r_istore (q := 60) dX4_checksum_58 rfl (by decide) (Lst.setL rfl rfl) ?_
      refine r_iconst (q := 61) dX4_checksum_60 rfl ?_
      refine r_istore (q := 63) dX4_checksum_61 rfl (by decide) (Lst.setL rfl rfl) ?_
      exact loop2 0 (by omega) (by omega) _ (by unfold ckS; rw [← hr, ckT.eq_def σ a p, if_neg (by omega)])
    · refine r_ldc2 (q := 20) dX4_checksum_17 rfl cX4_213 ?_
      refine r_lload_n (q := 21) dX4_checksum_20 rfl rfl ?_
      refine r_lmul (q := 22) dX4_checksum_21 rfl ?_
      refine r_aload_n (q := 23) dX4_checksum_22 rfl rfl ?_
      refine g_X4_text (i := 0) (q := 26) dX4_checksum_23 rfl fX4_10 (hG _ _ rfl) ?_
      refine r_iload_n (q := 27) dX4_checksum_26 rfl rfl ?_
      refine cX3_1 (My := mX3_at) (q := 30) dX4_checksum_27 rfl kX4_90 vX3_at (hG _ _ rfl) rfl (x3_at hG rfl hW (by omega)) ⟨by decide, by decide⟩ ⟨by decide, by decide⟩ (Nat.le_of_ble_eq_true rfl) ?_
      refine r_i2l (q := 31) dX4_checksum_30 rfl (by first | omega | exact pAt_r _ _ _) ?_
      refine r_ladd (q := 32) dX4_checksum_31 rfl ?_
      refine r_lstore_n (q := 33) dX4_checksum_32 rfl (by decide) (Lst.set2 rfl) ?_
      refine r_iinc (q := 36) dX4_checksum_33 rfl rfl (by decide) (Lst.setL rfl rfl) ?_
      refine r_goto (q := 6) dX4_checksum_36 (by decide) ?_
      exact ih (p + 1) (by omega) (by omega) (by omega) _ (by rw [← hr, ckT.eq_def σ a p, if_pos (by omega)])
  refine r_ldc2 (q := 3) dX4_checksum_0 rfl cX4_211 ?_
  refine r_lstore_n (q := 4) dX4_checksum_3 rfl (by decide) (Lst.set2 rfl) ?_
  refine r_iconst (q := 5) dX4_checksum_4 rfl ?_
  refine r_istore_n (q := 6) dX4_checksum_5 rfl (by decide) (Lst.setL rfl rfl) ?_
  exact loop 0 (by omega) (by omega) 7 rfl
end X4c
