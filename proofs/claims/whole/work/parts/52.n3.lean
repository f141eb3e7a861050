/-! MATHS 3: the parts that a cut leaves, in one form for both -/
def kA (t : Int → Int) (n : Int) : Bool := !cOpq t n && (gSl t (gCol t n + 1) && decide (gCol t n + 1 + 2 < eAut t n (gCol t n + 1)))
def aE (t : Int → Int) (n : Int) : Int := eAut t n (gCol t n + 1)
def aB (t : Int → Int) (n : Int) : Int := gCol t n + 1 + 2
def kS (t : Int → Int) (n : Int) : Bool := kA t n && mAutB t (aB t n) (aE t n)
def pE (t : Int → Int) (n : Int) : Int := ePart t n (aE t n) 5
def kQ (t : Int → Int) (n : Int) : Bool := !cOpq t n && decide (t (pE t n) = 63)
def kF (t : Int → Int) (n : Int) : Bool := decide (t (cHash t n) = 35)
def kU (t : Int → Int) (n : Int) : Bool := kS t n && decide (hSign t (aB t n) (aE t n) < aE t n)
def Cb (t : Int → Int) (n : Int) : Nat → Int
  | 0 => if gCol t n = -1 then -1 else 0
  | 1 => gCol t n + 1
  | 2 => if kA t n = true then aB t n else -1
  | 3 => if kU t n = true then aB t n else -1
  | 4 => if kS t n = true then hHost t (aB t n) (aE t n) else -1
  | 5 => if cOpq t n = true then -1 else aE t n
  | 6 => if kQ t n = true then pE t n + 1 else -1
  | 7 => if kF t n = true then cHash t n + 1 else -1
  | 8 => 0
  | _ => -1
def Ce (t : Int → Int) (n : Int) : Nat → Int
  | 0 => if gCol t n = -1 then -1 else gCol t n
  | 1 => cHash t n
  | 2 => if kA t n = true then aE t n else -1
  | 3 => if kU t n = true then hSign t (aB t n) (aE t n) else -1
  | 4 => if kS t n = true then hCol t (aB t n) (aE t n) else -1
  | 5 => if cOpq t n = true then -1 else pE t n
  | 6 => if kQ t n = true then ePart t n (pE t n + 1) 2 else -1
  | 7 => if kF t n = true then n else -1
  | 8 => n
  | _ => -1
def Cp (t : Int → Int) (n : Int) : Int := if kS t n = true ∧ hCol t (aB t n) (aE t n) + 1 < aE t n then mPort t (aB t n) (aE t n) else -1
-- the class's marks at place q of row 4
theorem bg_mk (σ : St) (k : Nat) (hk : k < 9) (b e : Int) (q : Nat) : bg (pMk σ 4 (k : Int) b e) 4 q = (if q = k then b else bg σ 4 q) ∧ en (pMk σ 4 (k : Int) b e) 4 q = (if q = k then e else en σ 4 q) ∧ pt (pMk σ 4 (k : Int) b e) = pt σ := by
  unfold pMk
  rw [if_pos (by omega)]
  have e1 : ((k : Int)).toNat = k := by omega
  rw [e1]
  refine ⟨?_, ?_, rfl⟩
  · show u2 (bg σ) 4 k b 4 q = _
    unfold u2
    rw [u1_s]
    rfl
  · show u2 (en σ) 4 k e 4 q = _
    unfold u2
    rw [u1_s]
    rfl
theorem bg_ref (σ : St) (p : Int) : bg (pRef σ p) = bg σ ∧ en (pRef σ p) = en σ ∧ pt (pRef σ p) = pt σ := by
  unfold pRef
  split <;> exact ⟨rfl, rfl, rfl⟩
theorem bg_part (σ : St) (t : Int → Int) (n : Int) (k : Nat) (hk : k < 9) (b : Int) (w : Nat) (q : Nat) : bg (sPart σ t n (k : Int) b w) 4 q = (if q = k then b else bg σ 4 q) ∧ en (sPart σ t n (k : Int) b w) 4 q = (if q = k then ePart t n b w else en σ 4 q) ∧ pt (sPart σ t n (k : Int) b w) = pt σ := by
  unfold sPart
  by_cases h : bPart t n b w < ePart t n b w
  · rw [if_pos h]
    have r := bg_ref σ (bPart t n b w)
    have m := bg_mk (pRef σ (bPart t n b w)) k hk b (ePart t n b w) q
    rw [r.1, r.2.1, r.2.2] at m
    exact m
  · rw [if_neg h]
    exact bg_mk σ k hk b _ q
theorem bg_sch (σ : St) (t : Int → Int) (c : Int) (q : Nat) : bg (sSch σ t c) 4 q = (if q = 0 ∧ c ≠ -1 then 0 else bg σ 4 q) ∧ en (sSch σ t c) 4 q = (if q = 0 ∧ c ≠ -1 then c else en σ 4 q) ∧ pt (sSch σ t c) = pt σ := by
  unfold sSch
  by_cases h : c = -1
  · rw [if_pos h]
    simp [h]
  · rw [if_neg h]
    have key : ∀ s' : St, bg s' = bg σ → en s' = en σ → pt s' = pt σ → bg (pMk s' 4 0 0 c) 4 q = (if q = 0 ∧ c ≠ -1 then 0 else bg σ 4 q) ∧ en (pMk s' 4 0 0 c) 4 q = (if q = 0 ∧ c ≠ -1 then c else en σ 4 q) ∧ pt (pMk s' 4 0 0 c) = pt σ := by
      intro s' e1 e2 e3
      have m := bg_mk s' 0 (by decide) 0 c q
      rw [e1, e2, e3] at m
      have m1 : bg (pMk s' 4 0 0 c) 4 q = (if q = 0 then 0 else bg σ 4 q) := m.1
      have m2 : en (pMk s' 4 0 0 c) 4 q = (if q = 0 then c else en σ 4 q) := m.2.1
      refine ⟨m1.trans ?_, m2.trans ?_, m.2.2⟩
      · simp [h]
      · simp [h]
    have r := bg_ref σ (gWr t c)
    by_cases hg : gWr t c = -1
    · rw [if_pos hg]
      exact key σ rfl rfl rfl
    · rw [if_neg hg]
      exact key _ r.1 r.2.1 r.2.2
theorem bg_opq (σ : St) (t : Int → Int) (n r : Int) (q : Nat) : bg (sOpq σ t n r) 4 q = (if q = 1 then r else bg σ 4 q) ∧ en (sOpq σ t n r) 4 q = (if q = 1 then ePart t n r 2 else en σ 4 q) ∧ pt (sOpq σ t n r) = pt σ := by
  have h : bg (sPart σ t n 1 r 2) 4 q = (if q = 1 then r else bg σ 4 q) ∧ en (sPart σ t n 1 r 2) 4 q = (if q = 1 then ePart t n r 2 else en σ 4 q) ∧ pt (sPart σ t n 1 r 2) = pt σ := bg_part σ t n 1 (by decide) r 2 q
  have g := bg_ref (sPart σ t n 1 r 2) r
  unfold sOpq
  by_cases hx : ePart t n r 2 = r
  · rw [if_pos hx, g.1, g.2.1, g.2.2]; exact h
  · rw [if_neg hx]; exact h
theorem bg_aut (σ : St) (t : Int → Int) (n r : Int) (q : Nat) : bg (sAut σ t n r) 4 q = (if q = 2 ∧ gSl t r = true ∧ r + 2 < eAut t n r then r + 2 else bg σ 4 q) ∧ en (sAut σ t n r) 4 q = (if q = 2 ∧ gSl t r = true ∧ r + 2 < eAut t n r then eAut t n r else en σ 4 q) ∧ pt (sAut σ t n r) = pt σ := by
  have h : bg (pMk σ 4 2 (r + 2) (eAut t n r)) 4 q = (if q = 2 then r + 2 else bg σ 4 q) ∧ en (pMk σ 4 2 (r + 2) (eAut t n r)) 4 q = (if q = 2 then eAut t n r else en σ 4 q) ∧ pt (pMk σ 4 2 (r + 2) (eAut t n r)) = pt σ := bg_mk σ 2 (by decide) (r + 2) (eAut t n r) q
  have g := bg_ref σ (eAut t n r)
  unfold sAut
  by_cases h1 : gSl t r = true
  · rw [if_pos h1]
    by_cases h2 : r + 2 < eAut t n r
    · rw [if_pos h2, h.1, h.2.1, h.2.2]
      simp [h1, h2]
    · rw [if_neg h2]
      by_cases h3 : eAut t n r = n
      · rw [if_pos h3, g.1, g.2.1, g.2.2]
        simp [h2]
      · rw [if_neg h3]
        simp [h2]
  · rw [if_neg h1]
    simp [h1]
theorem bg_pq (σ : St) (t : Int → Int) (n r b : Int) (q : Nat) : bg (sPQ σ t n r b) 4 q = (if q = 1 then r else if q = 6 ∧ t (ePart t n b 5) = 63 then ePart t n b 5 + 1 else if q = 5 then b else bg σ 4 q) ∧ en (sPQ σ t n r b) 4 q = (if q = 1 then ePQ t n b else if q = 6 ∧ t (ePart t n b 5) = 63 then ePart t n (ePart t n b 5 + 1) 2 else if q = 5 then ePart t n b 5 else en σ 4 q) ∧ pt (sPQ σ t n r b) = pt σ := by
  unfold sPQ
  have key : ∀ s' : St, bg (pMk s' 4 1 r (ePQ t n b)) 4 q = (if q = 1 then r else bg s' 4 q) ∧ en (pMk s' 4 1 r (ePQ t n b)) 4 q = (if q = 1 then ePQ t n b else en s' 4 q) ∧ pt (pMk s' 4 1 r (ePQ t n b)) = pt s' := fun s' => bg_mk s' 1 (by decide) r (ePQ t n b) q
  have p5 : bg (sPart σ t n 5 b 5) 4 q = (if q = 5 then b else bg σ 4 q) ∧ en (sPart σ t n 5 b 5) 4 q = (if q = 5 then ePart t n b 5 else en σ 4 q) ∧ pt (sPart σ t n 5 b 5) = pt σ := bg_part σ t n 5 (by decide) b 5 q
  have p6 : bg (sPart (sPart σ t n 5 b 5) t n 6 (ePart t n b 5 + 1) 2) 4 q = (if q = 6 then ePart t n b 5 + 1 else bg (sPart σ t n 5 b 5) 4 q) ∧ en (sPart (sPart σ t n 5 b 5) t n 6 (ePart t n b 5 + 1) 2) 4 q = (if q = 6 then ePart t n (ePart t n b 5 + 1) 2 else en (sPart σ t n 5 b 5) 4 q) ∧ pt (sPart (sPart σ t n 5 b 5) t n 6 (ePart t n b 5 + 1) 2) = pt (sPart σ t n 5 b 5) := bg_part (sPart σ t n 5 b 5) t n 6 (by decide) (ePart t n b 5 + 1) 2 q
  by_cases hq : t (ePart t n b 5) = 63
  · rw [if_pos hq, (key _).1, (key _).2.1, (key _).2.2, p6.1, p6.2.1, p6.2.2, p5.1, p5.2.1, p5.2.2]
    simp [hq]
  · rw [if_neg hq, (key _).1, (key _).2.1, (key _).2.2, p5.1, p5.2.1, p5.2.2]
    simp [hq]
theorem bg_frg (σ : St) (t : Int → Int) (n h : Int) (q : Nat) : bg (sFrg σ t n h) 4 q = (if q = 7 ∧ t h = 35 then h + 1 else bg σ 4 q) ∧ en (sFrg σ t n h) 4 q = (if q = 7 ∧ t h = 35 then ePart t n (h + 1) 2 else en σ 4 q) ∧ pt (sFrg σ t n h) = pt σ := by
  have p7 : bg (sPart σ t n 7 (h + 1) 2) 4 q = (if q = 7 then h + 1 else bg σ 4 q) ∧ en (sPart σ t n 7 (h + 1) 2) 4 q = (if q = 7 then ePart t n (h + 1) 2 else en σ 4 q) ∧ pt (sPart σ t n 7 (h + 1) 2) = pt σ := bg_part σ t n 7 (by decide) (h + 1) 2 q
  have g := bg_ref (sPart σ t n 7 (h + 1) 2) (ePart t n (h + 1) 2)
  unfold sFrg
  by_cases hf : t h = 35
  · rw [if_pos hf]
    by_cases hx : ePart t n (h + 1) 2 < n
    · rw [if_pos hx, g.1, g.2.1, g.2.2, p7.1, p7.2.1, p7.2.2]
      simp [hf]
    · rw [if_neg hx, p7.1, p7.2.1, p7.2.2]
      simp [hf]
  · rw [if_neg hf]
    simp [hf]
theorem bg_cut0 {σ : St} (i : Nat) (hW : Wk σ) (q : Nat) (hq : q < 9) : bg (sCut0 σ i) 4 q = (if q = 8 then 0 else -1) ∧ en (sCut0 σ i) 4 q = (if q = 8 then cnt σ i else -1) ∧ pt (sCut0 σ i) 4 = -1 := by
  have hW2 : Wk (pFg (sRf σ (-1)) 4) := Wk_fg (Wk_rf hW (by omega))
  obtain ⟨d1, d2, d3, d4, -⟩ := tak_F 0 (by omega) (σ := pFg (sRf σ (-1)) 4) (i := 4) (j := i) (by omega) hW2
  obtain ⟨a1, a2, -, -, -, -, -, a8, a9, a10, -⟩ := fg_F (j := 4) 0 (by omega) (σ := sRf σ (-1)) (by omega)
  have c1 : cnt (pTak (pFg (sRf σ (-1)) 4) 4 i 0) 4 = cnt σ i := by
    rw [d1, u1_s]
    exact congrFun a1 i
  have key : ∀ c : Int, bg (pMk (pTak (pFg (sRf σ (-1)) 4) 4 i 0) 4 8 0 c) 4 q = (if q = 8 then 0 else bg (pTak (pFg (sRf σ (-1)) 4) 4 i 0) 4 q) ∧ en (pMk (pTak (pFg (sRf σ (-1)) 4) 4 i 0) 4 8 0 c) 4 q = (if q = 8 then c else en (pTak (pFg (sRf σ (-1)) 4) 4 i 0) 4 q) ∧ pt (pMk (pTak (pFg (sRf σ (-1)) 4) 4 i 0) 4 8 0 c) = pt (pTak (pFg (sRf σ (-1)) 4) 4 i 0) := fun c => bg_mk (pTak (pFg (sRf σ (-1)) 4) 4 i 0) 8 (by decide) 0 c q
  have e8 : bg (pFg (sRf σ (-1)) 4) 4 q = -1 := (a8 q).trans (if_pos ⟨by omega, hq⟩)
  have e9 : en (pFg (sRf σ (-1)) 4) 4 q = -1 := (a9 q).trans (if_pos ⟨by omega, hq⟩)
  unfold sCut0
  rw [c1, (key _).1, (key _).2.1, (key _).2.2, d2, d3, d4, e8, e9]
  exact ⟨rfl, rfl, a10⟩
theorem aut_on {t : Int → Int} {n : Int} (ho : cOpq t n = false) : (kA t n = true) ↔ (gSl t (gCol t n + 1) = true ∧ gCol t n + 1 + 2 < eAut t n (gCol t n + 1)) := by
  unfold kA
  rw [ho]
  simp
/-- behind the fragment -/
theorem bg_cut3 {s : St} {t : Int → Int} {n : Int} (q : Nat) (h0 : bg s 4 q = (if q = 8 then 0 else -1) ∧ en s 4 q = (if q = 8 then n else -1) ∧ pt s 4 = -1) : bg (sCut3 s t n) 4 q = (if q = 3 ∨ q = 4 then -1 else if q < 9 then Cb t n q else -1) ∧ (en (sCut3 s t n) 4 q = if q = 3 ∨ q = 4 then -1 else if q = 7 then (if kF t n = true then ePart t n (cHash t n + 1) 2 else -1) else if q < 9 then Ce t n q else -1) ∧ pt (sCut3 s t n) 4 = -1 := by
  obtain ⟨s1, s2, s3⟩ := bg_sch s t (gCol t n) q
  have hF : (kF t n = true) ↔ t (cHash t n) = 35 := by unfold kF; exact decide_eq_true_iff
  unfold sCut3
  obtain ⟨f1, f2, f3⟩ := bg_frg (sCut2 s t n) t n (cHash t n) q
  rw [f1, f2, f3]
  cases ho : cOpq t n
  · have e2 : sCut2 s t n = sPQ (sAut (sSch s t (gCol t n)) t n (gCol t n + 1)) t n (gCol t n + 1) (eAut t n (gCol t n + 1)) := by unfold sCut2; rw [ho]; rfl
    rw [e2]
    obtain ⟨p1, p2, p3⟩ := bg_pq (sAut (sSch s t (gCol t n)) t n (gCol t n + 1)) t n (gCol t n + 1) (eAut t n (gCol t n + 1)) q
    obtain ⟨a1, a2, a3⟩ := bg_aut (sSch s t (gCol t n)) t n (gCol t n + 1) q
    rw [p1, p2, p3, a1, a2, a3, s1, s2, s3, h0.1, h0.2.1, h0.2.2]
    have hA := aut_on ho
    have hh : cHash t n = ePQ t n (eAut t n (gCol t n + 1)) := by unfold cHash; rw [ho]; rfl
    have hQ : (kQ t n = true) ↔ t (ePart t n (eAut t n (gCol t n + 1)) 5) = 63 := by unfold kQ pE aE; rw [ho]; simp
    refine ⟨?_, ?_, rfl⟩
    · by_cases c0 : q = 0
      · subst c0; simp [Cb]
      by_cases c1 : q = 1
      · subst c1; simp [Cb]
      by_cases c2 : q = 2
      · subst c2; simp [Cb, hA, aB]
      by_cases c3 : q = 3
      · subst c3; simp
      by_cases c4 : q = 4
      · subst c4; simp
      by_cases c5 : q = 5
      · subst c5; simp [Cb, ho, aE]
      by_cases c6 : q = 6
      · subst c6; simp [Cb, hQ, pE, aE]
      by_cases c7 : q = 7
      · subst c7; simp [Cb, hF]
      by_cases c8 : q = 8
      · subst c8; simp [Cb]
      simp [c0, c1, c2, c3, c4, c5, c6, c7, c8, show ¬ q < 9 by omega]
    · by_cases c0 : q = 0
      · subst c0; simp [Ce]
      by_cases c1 : q = 1
      · subst c1; simp [Ce, hh]
      by_cases c2 : q = 2
      · subst c2; simp [Ce, hA, aE]
      by_cases c3 : q = 3
      · subst c3; simp
      by_cases c4 : q = 4
      · subst c4; simp
      by_cases c5 : q = 5
      · subst c5; simp [Ce, ho, pE, aE]
      by_cases c6 : q = 6
      · subst c6; simp [Ce, hQ, pE, aE]
      by_cases c7 : q = 7
      · subst c7; simp [hF]
      by_cases c8 : q = 8
      · subst c8; simp [Ce]
      simp [c0, c1, c2, c3, c4, c5, c6, c7, c8, show ¬ q < 9 by omega]
  · have e2 : sCut2 s t n = sOpq (sSch s t (gCol t n)) t n (gCol t n + 1) := by unfold sCut2; rw [ho]; rfl
    rw [e2]
    obtain ⟨p1, p2, p3⟩ := bg_opq (sSch s t (gCol t n)) t n (gCol t n + 1) q
    rw [p1, p2, p3, s1, s2, s3, h0.1, h0.2.1, h0.2.2]
    have hA : kA t n = false := by unfold kA; rw [ho]; rfl
    have hQ : kQ t n = false := by unfold kQ; rw [ho]; rfl
    have hh : cHash t n = ePart t n (gCol t n + 1) 2 := by unfold cHash; rw [if_pos ho]
    refine ⟨?_, ?_, rfl⟩
    · by_cases c0 : q = 0
      · subst c0; simp [Cb]
      by_cases c1 : q = 1
      · subst c1; simp [Cb]
      by_cases c2 : q = 2
      · subst c2; simp [Cb, hA]
      by_cases c3 : q = 3
      · subst c3; simp
      by_cases c4 : q = 4
      · subst c4; simp
      by_cases c5 : q = 5
      · subst c5; simp [Cb, ho]
      by_cases c6 : q = 6
      · subst c6; simp [Cb, hQ]
      by_cases c7 : q = 7
      · subst c7; simp [Cb, hF]
      by_cases c8 : q = 8
      · subst c8; simp [Cb]
      simp [c0, c1, c2, c3, c4, c5, c6, c7, c8, show ¬ q < 9 by omega]
    · by_cases c0 : q = 0
      · subst c0; simp [Ce]
      by_cases c1 : q = 1
      · subst c1; simp [Ce, hh]
      by_cases c2 : q = 2
      · subst c2; simp [Ce, hA]
      by_cases c3 : q = 3
      · subst c3; simp
      by_cases c4 : q = 4
      · subst c4; simp
      by_cases c5 : q = 5
      · subst c5; simp [Ce, ho]
      by_cases c6 : q = 6
      · subst c6; simp [Ce, hQ]
      by_cases c7 : q = 7
      · subst c7; simp [hF]
      by_cases c8 : q = 8
      · subst c8; simp [Ce]
      simp [c0, c1, c2, c3, c4, c5, c6, c7, c8, show ¬ q < 9 by omega]
theorem aB_r {t : Int → Int} {n : Int} (hT : Tz t n) (h : kA t n = true) : 2 ≤ aB t n ∧ aB t n < aE t n ∧ aE t n ≤ n := by
  have ho : cOpq t n = false := by
    cases ho : cOpq t n
    · rfl
    · unfold kA at h; rw [ho] at h; simp at h
  have h2 := (aut_on ho).mp h
  have hC := hT.gCol
  have hA := hT.eAut (r := gCol t n + 1) (by omega)
  unfold aB aE
  omega
theorem pt_spt (s : St) (v : Nat → Int) : pt (sPt s v) = v := rfl
theorem bg_spt (s : St) (v : Nat → Int) : bg (sPt s v) = bg s ∧ en (sPt s v) = en s := ⟨rfl, rfl⟩
theorem bg_srv (σ : St) {t : Int → Int} (ht : ∀ p, 0 ≤ t p ∧ t p < 65536) {b e : Int} (hb : b ≤ e) (q : Nat) : bg (sSrv σ t b e) 4 q = (if mAutB t b e = true then (if q = 4 then hHost t b e else if q = 3 ∧ hSign t b e < e then b else bg σ 4 q) else bg σ 4 q) ∧ en (sSrv σ t b e) 4 q = (if mAutB t b e = true then (if q = 4 then hCol t b e else if q = 3 ∧ hSign t b e < e then hSign t b e else en σ 4 q) else en σ 4 q) ∧ pt (sSrv σ t b e) 4 = (if mAutB t b e = true then (if hCol t b e + 1 < e then mPort t b e else -1) else pt σ 4) := by
  unfold sSrv
  by_cases hm : mAutB t b e = true
  · rw [if_pos ((srv_e ht hb).mpr hm)]
    simp only [hm, if_true]
    have p3 : bg (pMk σ 4 3 b (hSign t b e)) 4 q = (if q = 3 then b else bg σ 4 q) ∧ en (pMk σ 4 3 b (hSign t b e)) 4 q = (if q = 3 then hSign t b e else en σ 4 q) ∧ pt (pMk σ 4 3 b (hSign t b e)) = pt σ := bg_mk σ 3 (by decide) b (hSign t b e) q
    have key : ∀ s' : St, bg (pMk s' 4 4 (hHost t b e) (hCol t b e)) 4 q = (if q = 4 then hHost t b e else bg s' 4 q) ∧ en (pMk s' 4 4 (hHost t b e) (hCol t b e)) 4 q = (if q = 4 then hCol t b e else en s' 4 q) ∧ pt (pMk s' 4 4 (hHost t b e) (hCol t b e)) = pt s' := fun s' => bg_mk s' 4 (by decide) (hHost t b e) (hCol t b e) q
    have hp : gNum t (hCol t b e + 1) e 2147483647 = if hCol t b e + 1 < e then mPort t b e else -1 := by
      unfold gNum mPort
      by_cases hl : hCol t b e + 1 < e
      · rw [if_neg (show ¬ e ≤ hCol t b e + 1 by omega), if_pos hl]
      · rw [if_pos (show e ≤ hCol t b e + 1 by omega), if_neg hl]
    rw [pt_spt, (bg_spt _ _).1, (bg_spt _ _).2]
    refine ⟨(key _).1.trans ?_, (key _).2.1.trans ?_, (u1_s _ _ _).trans hp⟩
    · by_cases hs : hSign t b e < e
      · rw [if_pos hs, p3.1]
        simp [hs]
      · rw [if_neg hs]
        simp [hs]
    · by_cases hs : hSign t b e < e
      · rw [if_pos hs, p3.2.1]
        simp [hs]
      · rw [if_neg hs]
        simp [hs]
  · rw [if_neg (fun z => hm ((srv_e ht hb).mp z))]
    simp [hm]
theorem frg_all {t : Int → Int} {n : Int} (hT : Tz t n) (h : mPl t n = -1) (hf : kF t n = true) : ePart t n (cHash t n + 1) 2 = n := by
  have h35 : t (cHash t n) = 35 := of_decide_eq_true hf
  have hl := hT.lt (by decide) h35
  have er := ePart_r t (n := n) (b := cHash t n + 1) 2 (by omega)
  have hF : mPlF t n (cHash t n) = -1 := by
    unfold mPl at h
    split at h
    · rename_i z
      exact absurd h z
    · unfold mPlR at h
      unfold cHash
      split at h
      · rename_i ho
        rw [if_pos ho]
        unfold mPlO at h
        split at h
        · have := hT.gCol
          omega
        · split at h
          · rename_i z
            exact absurd h z
          · exact h
      · rename_i ho
        rw [if_neg ho]
        unfold mPlN at h
        split at h
        · have := hT.1
          omega
        · unfold mPlP at h
          split at h
          · rename_i z
            exact absurd h z
          · unfold ePQ
            split at h
            · rename_i hq
              rw [if_pos hq]
              unfold mPlQ at h
              split at h
              · rename_i z
                exact absurd h z
              · exact h
            · rename_i hq
              rw [if_neg hq]
              exact h
  unfold mPlF at hF
  rw [if_pos h35, mFr_e _ (by omega) (by omega)] at hF
  unfold orE at hF
  repeat' split at hF
  all_goals omega
/-- what the class has cut -/
theorem bg_cut {σ : St} {i : Nat} (hW : Wk σ) (hT : Tz (pAt σ i) (cnt σ i)) (h : mPl (pAt σ i) (cnt σ i) = -1) : (∀ q : Nat, q < 9 → bg (sCut σ i) 4 q = Cb (pAt σ i) (cnt σ i) q ∧ en (sCut σ i) 4 q = Ce (pAt σ i) (cnt σ i) q) ∧ pt (sCut σ i) 4 = Cp (pAt σ i) (cnt σ i) := by
  have h0 := bg_cut0 i hW
  have e1 : sCut σ i = sCut5 (sCut0 σ i) (pAt σ i) (cnt σ i) := rfl
  rw [e1]
  generalize pAt σ i = t at hT h h0 ⊢
  generalize cnt σ i = n at hT h h0 ⊢
  have h3 : ∀ q : Nat, q < 9 → _ := fun q hq => bg_cut3 (s := sCut0 σ i) (t := t) (n := n) q (h0 q hq)
  have b5 : ∀ q, bg (sCut5 (sCut0 σ i) t n) 4 q = bg (sCut4 (sCut0 σ i) t n) 4 q ∧ en (sCut5 (sCut0 σ i) t n) 4 q = en (sCut4 (sCut0 σ i) t n) 4 q ∧ pt (sCut5 (sCut0 σ i) t n) 4 = pt (sCut4 (sCut0 σ i) t n) 4 := fun q => ⟨rfl, rfl, rfl⟩
  have hb2 : pBeg (sCut3 (sCut0 σ i) t n) 4 2 = if kA t n = true then aB t n else -1 := (h3 2 (by decide)).1
  have he2 : pEnd (sCut3 (sCut0 σ i) t n) 4 2 = if kA t n = true then aE t n else -1 := (h3 2 (by decide)).2.1
  have key : (∀ q : Nat, q < 9 → bg (sCut4 (sCut0 σ i) t n) 4 q = Cb t n q ∧ en (sCut4 (sCut0 σ i) t n) 4 q = Ce t n q) ∧ pt (sCut4 (sCut0 σ i) t n) 4 = Cp t n := by
    have hrest : ∀ q : Nat, q < 9 → q ≠ 3 → q ≠ 4 → bg (sCut3 (sCut0 σ i) t n) 4 q = Cb t n q ∧ en (sCut3 (sCut0 σ i) t n) 4 q = Ce t n q := by
      intro q hq n3 n4
      obtain ⟨g1, g2, -⟩ := h3 q hq
      have n34 : ¬ (q = 3 ∨ q = 4) := by omega
      rw [g1, g2]
      simp only [n34, if_false, hq, if_true]
      refine ⟨trivial, ?_⟩
      by_cases h7 : q = 7
      · rw [if_pos h7, h7]
        show _ = if kF t n = true then n else -1
        by_cases hf : kF t n = true
        · rw [if_pos hf, if_pos hf, frg_all hT h hf]
        · rw [if_neg hf, if_neg hf]
      · rw [if_neg h7]
    have h33 := h3 3 (by decide)
    have h34 := h3 4 (by decide)
    rw [if_pos (Or.inl rfl), if_pos (Or.inl rfl)] at h33
    rw [if_pos (Or.inr rfl), if_pos (Or.inr rfl)] at h34
    unfold sCut4
    unfold pHas
    rw [hb2, he2]
    by_cases hk : kA t n = true
    · have hr := aB_r hT hk
      rw [if_pos (by rw [if_pos hk]; exact decide_eq_true (by omega)), if_pos hk, if_pos hk]
      have hs := bg_srv (sCut3 (sCut0 σ i) t n) hT.2.2.2 (b := aB t n) (e := aE t n) (by omega)
      have eS : kS t n = mAutB t (aB t n) (aE t n) := by unfold kS; rw [hk]; rfl
      have eU : kU t n = (mAutB t (aB t n) (aE t n) && decide (hSign t (aB t n) (aE t n) < aE t n)) := by unfold kU; rw [eS]
      refine ⟨fun q hq => ?_, ?_⟩
      · obtain ⟨g1, g2, -⟩ := hs q
        rw [g1, g2]
        by_cases h4 : q = 4
        · subst h4
          show _ = (if kS t n = true then _ else -1) ∧ _ = (if kS t n = true then _ else -1)
          rw [eS, h34.1, h34.2.1]
          exact ⟨rfl, rfl⟩
        · by_cases h5 : q = 3
          · subst h5
            show _ = (if kU t n = true then _ else -1) ∧ _ = (if kU t n = true then _ else -1)
            rw [h33.1, h33.2.1, eU]
            cases hm : mAutB t (aB t n) (aE t n)
            · simp
            · by_cases hz : hSign t (aB t n) (aE t n) < aE t n
              · simp [hz]
              · simp [hz]
          · have hx := hrest q hq h5 h4
            simp [h4, h5, hx.1, hx.2]
      · rw [(hs 0).2.2, h33.2.2]
        unfold Cp
        rw [eS]
        cases hm : mAutB t (aB t n) (aE t n)
        · simp
        · simp
    · rw [if_neg (show ¬ decide ((if kA t n = true then aB t n else -1) ≠ -1) = true by rw [if_neg hk]; decide)]
      have eS : kS t n = false := by unfold kS; rw [Bool.eq_false_iff.mpr hk]; rfl
      have eU : kU t n = false := by unfold kU; rw [eS]; rfl
      refine ⟨fun q hq => ?_, ?_⟩
      · by_cases h4 : q = 4
        · subst h4
          rw [h34.1, h34.2.1]
          show _ = (if kS t n = true then _ else -1) ∧ _ = (if kS t n = true then _ else -1)
          rw [eS]
          exact ⟨rfl, rfl⟩
        · by_cases h5 : q = 3
          · subst h5
            rw [h33.1, h33.2.1]
            show _ = (if kU t n = true then _ else -1) ∧ _ = (if kU t n = true then _ else -1)
            rw [eU]
            exact ⟨rfl, rfl⟩
          · exact hrest q hq h5 h4
      · rw [h33.2.2]
        unfold Cp
        rw [eS]
        rfl
  exact ⟨fun q hq => key.1 q hq, key.2⟩
-- the model's marks
theorem mbe_cut (σ : St) (k : Nat) (b e : Int) (q : Nat) : mbe (mCut σ k b e) q = (if q = k then b else mbe σ q) ∧ men (mCut σ k b e) q = (if q = k then e else men σ q) ∧ mpt (mCut σ k b e) = mpt σ := ⟨rfl, rfl, rfl⟩
theorem mbe_spt (s : St) (v : Int) : mbe (sMpt s v) = mbe s ∧ men (sMpt s v) = men s ∧ mpt (sMpt s v) = v := ⟨rfl, rfl, rfl⟩
theorem mbe_aut (σ : St) (t : Int → Int) (b e : Int) (q : Nat) : mbe (mAut σ t b e) q = (if mAutB t b e = true then (if q = 4 then hHost t b e else if q = 3 ∧ hSign t b e < e then b else mbe σ q) else mbe σ q) ∧ men (mAut σ t b e) q = (if mAutB t b e = true then (if q = 4 then hCol t b e else if q = 3 ∧ hSign t b e < e then hSign t b e else men σ q) else men σ q) ∧ mpt (mAut σ t b e) = (if mAutB t b e = true ∧ hCol t b e + 1 < e then mPort t b e else mpt σ) := by
  have h1 : mbe (mAut1 σ t b e) q = (if q = 3 ∧ hSign t b e < e then b else mbe σ q) ∧ men (mAut1 σ t b e) q = (if q = 3 ∧ hSign t b e < e then hSign t b e else men σ q) ∧ mpt (mAut1 σ t b e) = mpt σ := by
    unfold mAut1
    obtain ⟨z1, z2, z3⟩ := mbe_cut σ 3 b (hSign t b e) q
    by_cases hs : hSign t b e < e
    · rw [if_pos hs, z1, z2, z3]
      simp [hs]
    · rw [if_neg hs]
      simp [hs]
  have h2 : mbe (mAut2 σ t b e) q = (if q = 4 then hHost t b e else if q = 3 ∧ hSign t b e < e then b else mbe σ q) ∧ men (mAut2 σ t b e) q = (if q = 4 then hCol t b e else if q = 3 ∧ hSign t b e < e then hSign t b e else men σ q) ∧ mpt (mAut2 σ t b e) = mpt σ := by
    unfold mAut2
    obtain ⟨z1, z2, z3⟩ := mbe_cut (mAut1 σ t b e) 4 (hHost t b e) (hCol t b e) q
    rw [z1, z2, z3, h1.1, h1.2.1, h1.2.2]
    exact ⟨rfl, rfl, rfl⟩
  unfold mAut
  generalize mAut2 σ t b e = s2 at h2 ⊢
  obtain ⟨x1, x2, x3⟩ := h2
  cases hm : mAutB t b e
  · simp
  · by_cases hl : hCol t b e + 1 < e
    · have y := mbe_spt s2 (mPort t b e)
      rw [if_pos rfl, if_pos hl, y.1, y.2.1, y.2.2, x1, x2]
      simp [hl]
    · rw [if_pos rfl, if_neg hl, x1, x2, x3]
      simp [hl]
theorem mbe_fin (σ : St) (t : Int → Int) (n : Int) : (∀ q : Nat, q < 9 → mbe (mFin σ t n) q = Cb t n q ∧ men (mFin σ t n) q = Ce t n q) ∧ mpt (mFin σ t n) = Cp t n := by
  have c0 : ∀ q : Nat, q < 9 → mbe (mClr σ) q = -1 ∧ men (mClr σ) q = -1 := fun q hq => by
    constructor
    · show (if q < 9 then (-1 : Int) else mbe σ q) = -1
      rw [if_pos hq]
    · show (if q < 9 then (-1 : Int) else men σ q) = -1
      rw [if_pos hq]
  have p0 : mpt (mClr σ) = -1 := rfl
  have a1 : ∀ q : Nat, q < 9 → mbe (mA1 σ t n) q = (if q = 0 ∧ gCol t n ≠ -1 then 0 else -1) ∧ men (mA1 σ t n) q = (if q = 0 ∧ gCol t n ≠ -1 then gCol t n else -1) := fun q hq => by
    unfold mA1
    by_cases h : gCol t n = -1
    · rw [if_pos h, (c0 q hq).1, (c0 q hq).2]
      simp [h]
    · rw [if_neg h]
      obtain ⟨z1, z2, z3⟩ := mbe_cut (mClr σ) 0 0 (gCol t n) q
      rw [z1, z2, (c0 q hq).1, (c0 q hq).2]
      simp [h]
  have p1 : mpt (mA1 σ t n) = -1 := by
    unfold mA1
    split
    · exact p0
    · rw [(mbe_cut (mClr σ) 0 0 (gCol t n) 0).2.2]
      exact p0
  have fin : ∀ q : Nat, mbe (mFin σ t n) q = (if q = 8 then 0 else if q = 7 ∧ t (cHash t n) = 35 then cHash t n + 1 else if q = 1 then gCol t n + 1 else mbe (mA2 σ t n) q) ∧ men (mFin σ t n) q = (if q = 8 then n else if q = 7 ∧ t (cHash t n) = 35 then n else if q = 1 then cHash t n else men (mA2 σ t n) q) ∧ mpt (mFin σ t n) = mpt (mA2 σ t n) := fun q => by
    unfold mFin
    obtain ⟨z1, z2, z3⟩ := mbe_cut (mA7 σ t n) 8 0 n q
    rw [z1, z2, z3]
    unfold mA7
    have y : mbe (mA6 σ t n) q = (if q = 1 then gCol t n + 1 else mbe (mA2 σ t n) q) ∧ men (mA6 σ t n) q = (if q = 1 then cHash t n else men (mA2 σ t n) q) ∧ mpt (mA6 σ t n) = mpt (mA2 σ t n) := by
      unfold mA6
      exact mbe_cut (mA2 σ t n) 1 (gCol t n + 1) (cHash t n) q
    obtain ⟨y1, y2, y3⟩ := y
    generalize mA6 σ t n = s6 at y1 y2 y3 ⊢
    by_cases hf : t (cHash t n) = 35
    · rw [if_pos hf]
      obtain ⟨x1, x2, x3⟩ := mbe_cut s6 7 (cHash t n + 1) n q
      rw [x1, x2, x3, y1, y2, y3]
      simp [hf]
    · rw [if_neg hf, y1, y2, y3]
      simp [hf]
  have hF : (kF t n = true) ↔ t (cHash t n) = 35 := by unfold kF; exact decide_eq_true_iff
  cases ho : cOpq t n
  · have e2 : mA2 σ t n = mA5 σ t n := by unfold mA2; rw [ho]; rfl
    have hA := aut_on ho
    have hQ : (kQ t n = true) ↔ t (pE t n) = 63 := by unfold kQ; rw [ho]; simp
    have a3 : ∀ q : Nat, q < 9 → mbe (mA3 σ t n) q = (if q = 4 ∧ kS t n = true then hHost t (aB t n) (aE t n) else if q = 3 ∧ kU t n = true then aB t n else if q = 2 ∧ kA t n = true then aB t n else mbe (mA1 σ t n) q) ∧ men (mA3 σ t n) q = (if q = 4 ∧ kS t n = true then hCol t (aB t n) (aE t n) else if q = 3 ∧ kU t n = true then hSign t (aB t n) (aE t n) else if q = 2 ∧ kA t n = true then aE t n else men (mA1 σ t n) q) ∧ mpt (mA3 σ t n) = Cp t n := fun q hq => by
      unfold mA3 Cp
      by_cases hk : kA t n = true
      · rw [if_pos (hA.mp hk)]
        obtain ⟨z1, z2, z3⟩ := mbe_aut (mCut (mA1 σ t n) 2 (gCol t n + 1 + 2) (eAut t n (gCol t n + 1))) t (gCol t n + 1 + 2) (eAut t n (gCol t n + 1)) q
        obtain ⟨y1, y2, y3⟩ := mbe_cut (mA1 σ t n) 2 (gCol t n + 1 + 2) (eAut t n (gCol t n + 1)) q
        rw [z1, z2, z3, y1, y2, y3, p1]
        have eS : kS t n = mAutB t (aB t n) (aE t n) := by unfold kS; rw [hk]; rfl
        have eU : kU t n = (mAutB t (aB t n) (aE t n) && decide (hSign t (aB t n) (aE t n) < aE t n)) := by unfold kU; rw [eS]
        rw [eU, eS, hk]
        have ea : gCol t n + 1 + 2 = aB t n := rfl
        have eb : eAut t n (gCol t n + 1) = aE t n := rfl
        rw [ea, eb]
        cases hm : mAutB t (aB t n) (aE t n)
        · simp
        · by_cases hz : hSign t (aB t n) (aE t n) < aE t n
          · simp [hz]
          · simp [hz]
      · rw [if_neg (fun z => hk (hA.mpr z))]
        have eS : kS t n = false := by unfold kS; rw [Bool.eq_false_iff.mpr hk]; rfl
        have eU : kU t n = false := by unfold kU; rw [eS]; rfl
        rw [eS, eU, Bool.eq_false_iff.mpr hk, p1]
        simp
    have a5 : ∀ q : Nat, mbe (mA5 σ t n) q = (if q = 6 ∧ kQ t n = true then pE t n + 1 else if q = 5 then aE t n else mbe (mA3 σ t n) q) ∧ men (mA5 σ t n) q = (if q = 6 ∧ kQ t n = true then ePart t n (pE t n + 1) 2 else if q = 5 then pE t n else men (mA3 σ t n) q) ∧ mpt (mA5 σ t n) = mpt (mA3 σ t n) := fun q => by
      have y : mbe (mA4 σ t n) q = (if q = 5 then aE t n else mbe (mA3 σ t n) q) ∧ men (mA4 σ t n) q = (if q = 5 then pE t n else men (mA3 σ t n) q) ∧ mpt (mA4 σ t n) = mpt (mA3 σ t n) := by
        unfold mA4
        exact mbe_cut (mA3 σ t n) 5 (eAut t n (gCol t n + 1)) (ePart t n (eAut t n (gCol t n + 1)) 5) q
      obtain ⟨y1, y2, y3⟩ := y
      have e5 : mA5 σ t n = if t (pE t n) = 63 then mCut (mA4 σ t n) 6 (pE t n + 1) (ePart t n (pE t n + 1) 2) else mA4 σ t n := by unfold mA5 pE aE; rfl
      rw [e5]
      generalize mA4 σ t n = s4 at y1 y2 y3 ⊢
      by_cases hq : t (pE t n) = 63
      · rw [if_pos hq]
        obtain ⟨x1, x2, x3⟩ := mbe_cut s4 6 (pE t n + 1) (ePart t n (pE t n + 1) 2) q
        rw [x1, x2, x3, y1, y2, y3]
        simp [hQ, hq]
      · rw [if_neg hq, y1, y2, y3]
        simp [hQ, hq]
    refine ⟨fun q hq => ?_, ?_⟩
    · rw [(fin q).1, (fin q).2.1, e2, (a5 q).1, (a5 q).2.1, (a3 q hq).1, (a3 q hq).2.1, (a1 q hq).1, (a1 q hq).2]
      have hqs : q = 0 ∨ q = 1 ∨ q = 2 ∨ q = 3 ∨ q = 4 ∨ q = 5 ∨ q = 6 ∨ q = 7 ∨ q = 8 := by omega
      rcases hqs with rfl | rfl | rfl | rfl | rfl | rfl | rfl | rfl | rfl <;> simp [Cb, Ce, ho, hF]
    · rw [(fin 0).2.2, e2, (a5 0).2.2, (a3 0 (by decide)).2.2]
  · have e2 : mA2 σ t n = mA1 σ t n := by unfold mA2; rw [if_pos ho]
    have hA : kA t n = false := by unfold kA; rw [ho]; rfl
    have eS : kS t n = false := by unfold kS; rw [hA]; rfl
    have eU : kU t n = false := by unfold kU; rw [eS]; rfl
    have hQ : kQ t n = false := by unfold kQ; rw [ho]; rfl
    refine ⟨fun q hq => ?_, ?_⟩
    · rw [(fin q).1, (fin q).2.1, e2, (a1 q hq).1, (a1 q hq).2]
      have hqs : q = 0 ∨ q = 1 ∨ q = 2 ∨ q = 3 ∨ q = 4 ∨ q = 5 ∨ q = 6 ∨ q = 7 ∨ q = 8 := by omega
      rcases hqs with rfl | rfl | rfl | rfl | rfl | rfl | rfl | rfl | rfl <;> simp [Cb, Ce, ho, hF, hA, eS, eU, hQ]
    · rw [(fin 0).2.2, e2, p1]
      unfold Cp
      rw [eS]
      rfl
