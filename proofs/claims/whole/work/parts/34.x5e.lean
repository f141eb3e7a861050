/-! The model: parts, parse -/
def mPlW (t : Int → Int) (n : Int) : Int := if gCol t n = -1 then -1 else gWr t (gCol t n)
def mFrF (t : Int → Int) (n k : Int) : Int := if k < n then (if isC t 3 k = true ∨ t k = 35 then k else mFrF t n (k + 1)) else -1
termination_by (n - k).toNat
decreasing_by omega
def mPlF (t : Int → Int) (n h : Int) : Int := if t h = 35 then mFrF t n (h + 1) else -1
def mPlQ (t : Int → Int) (n b : Int) : Int := if mBad t b (ePart t n b 2) ≠ -1 then mBad t b (ePart t n b 2) else mPlF t n (ePart t n b 2)
def mPlP (t : Int → Int) (n b : Int) : Int := if mBad t b (ePart t n b 5) ≠ -1 then mBad t b (ePart t n b 5) else if t (ePart t n b 5) = 63 then mPlQ t n (ePart t n b 5 + 1) else mPlF t n (ePart t n b 5)
def mPlN (t : Int → Int) (n r : Int) : Int := if gSl t r = true ∧ eAut t n r = r + 2 ∧ eAut t n r = n then n else mPlP t n (eAut t n r)
def mPlO (t : Int → Int) (n r : Int) : Int := if ePart t n r 2 = r then r else if mBad t r (ePart t n r 2) ≠ -1 then mBad t r (ePart t n r 2) else mPlF t n (ePart t n r 2)
def mPlR (t : Int → Int) (n : Int) : Int := if cOpq t n = true then mPlO t n (gCol t n + 1) else mPlN t n (gCol t n + 1)
/-- the place at which the model refuses a text, or -1 -/
def mPl (t : Int → Int) (n : Int) : Int := if mPlW t n ≠ -1 then mPlW t n else mPlR t n
def mClr (σ : St) : St := sMpt (sMen (sMbe σ (fun j => if j < 9 then -1 else mbe σ j)) (fun j => if j < 9 then -1 else men σ j)) (-1)
def mClrK (σ : St) (k : Int) : St := sMen (sMbe σ (fun j => if (j : Int) < k then -1 else mbe σ j)) (fun j => if (j : Int) < k then -1 else men σ j)
def mA1 (σ : St) (t : Int → Int) (n : Int) : St := if gCol t n = -1 then mClr σ else mCut (mClr σ) 0 0 (gCol t n)
def mA3 (σ : St) (t : Int → Int) (n : Int) : St := if gSl t (gCol t n + 1) = true ∧ gCol t n + 1 + 2 < eAut t n (gCol t n + 1) then mAut (mCut (mA1 σ t n) 2 (gCol t n + 1 + 2) (eAut t n (gCol t n + 1))) t (gCol t n + 1 + 2) (eAut t n (gCol t n + 1)) else mA1 σ t n
def mA4 (σ : St) (t : Int → Int) (n : Int) : St := mCut (mA3 σ t n) 5 (eAut t n (gCol t n + 1)) (ePart t n (eAut t n (gCol t n + 1)) 5)
def mA5 (σ : St) (t : Int → Int) (n : Int) : St := if t (ePart t n (eAut t n (gCol t n + 1)) 5) = 63 then mCut (mA4 σ t n) 6 (ePart t n (eAut t n (gCol t n + 1)) 5 + 1) (ePart t n (ePart t n (eAut t n (gCol t n + 1)) 5 + 1) 2) else mA4 σ t n
def mA2 (σ : St) (t : Int → Int) (n : Int) : St := if cOpq t n = true then mA1 σ t n else mA5 σ t n
def mA6 (σ : St) (t : Int → Int) (n : Int) : St := mCut (mA2 σ t n) 1 (gCol t n + 1) (cHash t n)
def mA7 (σ : St) (t : Int → Int) (n : Int) : St := if t (cHash t n) = 35 then mCut (mA6 σ t n) 7 (cHash t n + 1) n else mA6 σ t n
def mFin (σ : St) (t : Int → Int) (n : Int) : St := mCut (mA7 σ t n) 8 0 n
/-- only begin, end and port of the cut may differ -/
def Ep (σ s : St) : Prop := (s.1 = σ.1 ∧ s.2.2 = σ.2.2 ∧ mtx s = mtx σ ∧ msz s = msz σ ∧ mpc s = mpc σ ∧ mpm s = mpm σ ∧ msg s = msg σ ∧ mlo s = mlo σ ∧ mfr s = mfr σ ∧ mto s = mto σ ∧ mpo s = mpo σ ∧ mrf s = mrf σ ∧ mpl s = mpl σ ∧ mcd s = mcd σ) ∧ (∀ j, -1 ≤ mbe s j ∧ mbe s j ≤ 60) ∧ (∀ j, -1 ≤ men s j ∧ men s j ≤ 60) ∧ -1 ≤ mpt s ∧ mpt s ≤ 2147483647
theorem Ep.cut {σ s : St} (h : Ep σ s) (k : Nat) {b e : Int} (hb : -1 ≤ b ∧ b ≤ 60) (he : -1 ≤ e ∧ e ≤ 60) : Ep σ (mCut s k b e) := by
  obtain ⟨h0, h1, h2, h3⟩ := h
  refine ⟨h0, fun j => ?_, fun j => ?_, h3⟩
  · show -1 ≤ u1 (mbe s) k b j ∧ u1 (mbe s) k b j ≤ 60
    unfold u1; split; exact hb; exact h1 j
  · show -1 ≤ u1 (men s) k e j ∧ u1 (men s) k e j ≤ 60
    unfold u1; split; exact he; exact h2 j
theorem Ep.pt {σ s : St} (h : Ep σ s) {v : Int} (hv : -1 ≤ v ∧ v ≤ 2147483647) : Ep σ (sMpt s v) := ⟨h.1, h.2.1, h.2.2.1, hv⟩
theorem Mp_of {σ s : St} {t : Int → Int} {n : Int} (h : Ep σ s) (hP : Mp σ t n) : Mp s t n := by
  obtain ⟨⟨e1, e2, e3, e4, e5, e6, e7, e8, e9, e10, e11, e12, e13, e14⟩, h1, h2, h3⟩ := h
  obtain ⟨⟨g1, g2, g3, g4, g5, g6, g7, g8, g9, g10, g11, g12, g13⟩, g, gz⟩ := hP
  refine ⟨⟨by rw [e4]; exact g1, by rw [e3]; exact g2, by rw [e6]; exact g3, by rw [e5]; exact g4, by rw [e7]; exact g5, by rw [e8]; exact g6, by rw [e9]; exact g7, by rw [e10]; exact g8, by rw [e11]; exact g9, h1, h2, h3, by rw [e12]; exact g13⟩, ?_, by rw [e4]; exact gz⟩
  rw [← g]
  funext p
  unfold mT
  rw [e3, e4]
theorem Ep.mp {σ s : St} {t : Int → Int} {n : Int} (h : Ep σ s) (hP : Mp σ t n) : Mp s t n := Mp_of h hP
theorem Ep.rfl' {σ : St} (h : Mw σ) : Ep σ σ := ⟨⟨rfl, rfl, rfl, rfl, rfl, rfl, rfl, rfl, rfl, rfl, rfl, rfl, rfl, rfl⟩, h.be, h.en, h.pt⟩
theorem Ep.clr {σ : St} (h : Mw σ) : Ep σ (mClr σ) := by
  refine ⟨⟨rfl, rfl, rfl, rfl, rfl, rfl, rfl, rfl, rfl, rfl, rfl, rfl, rfl, rfl⟩, fun j => ?_, fun j => ?_, by show (-1 : Int) ≤ -1 ∧ (-1 : Int) ≤ 2147483647; omega⟩
  · show -1 ≤ (if j < 9 then -1 else mbe σ j) ∧ (if j < 9 then -1 else mbe σ j) ≤ 60
    split; omega; exact h.be j
  · show -1 ≤ (if j < 9 then -1 else men σ j) ∧ (if j < 9 then -1 else men σ j) ≤ 60
    split; omega; exact h.en j
theorem gNumF_rg {t : Int → Int} (ht : ∀ p, 0 ≤ t p ∧ t p < 65536) {most : Int} (hm : 0 ≤ most) (e : Int) : ∀ p : Int, p ≤ e + 1 → ∀ a : Int, 0 ≤ a ∧ a ≤ most → -1 ≤ gNumF t e most a p ∧ gNumF t e most a p ≤ most := by
  refine up (fun p hp ih a ha => ?_)
  rw [gNumF.eq_def]
  split
  · split
    · rename_i hg
      have hg := gDig_r hg
      split
      · omega
      · exact ih (p + 1) (by omega) (by omega) _ (by omega)
    · omega
  · omega
theorem mPort_r {t : Int → Int} {n b e : Int} (hT : Tz t n) (hb : b ≤ e) : -1 ≤ mPort t b e ∧ mPort t b e ≤ 2147483647 := by
  have h := h_r t hb
  exact gNumF_rg hT.2.2.2 (by omega) e _ (by omega) 0 (by omega)
theorem Ep.aut {σ s : St} {t : Int → Int} {n : Int} (h : Ep σ s) (hT : Tz t n) {b e : Int} (hb : 0 ≤ b ∧ b ≤ e) (he : e ≤ n) : Ep σ (mAut s t b e) := by
  have h9 := h_r t hb.2
  have hn := hT.2.1
  have hp := mPort_r hT hb.2
  have h1 : Ep σ (mAut1 s t b e) := by
    unfold mAut1
    split
    · exact h.cut 3 (by omega) (by omega)
    · exact h
  have h2 : Ep σ (mAut2 s t b e) := h1.cut 4 (by omega) (by omega)
  unfold mAut
  split
  · split
    · exact h2.pt hp
    · exact h2
  · exact h
theorem Ep.a1 {σ : St} {t : Int → Int} {n : Int} (hP : Mp σ t n) : Ep σ (mA1 σ t n) := by
  have h := hP.tz.gCol
  have hn := hP.n
  unfold mA1
  split
  · exact Ep.clr hP.1
  · exact (Ep.clr hP.1).cut 0 (by omega) (by omega)
theorem Ep.a3 {σ : St} {t : Int → Int} {n : Int} (hP : Mp σ t n) : Ep σ (mA3 σ t n) := by
  have h := hP.tz.gCol
  have hn := hP.n
  have h2 := hP.tz.eAut (r := gCol t n + 1) (by omega)
  unfold mA3
  split
  · exact ((Ep.a1 hP).cut 2 (by omega) (by omega)).aut hP.tz (by omega) (by omega)
  · exact Ep.a1 hP
theorem Ep.a4 {σ : St} {t : Int → Int} {n : Int} (hP : Mp σ t n) : Ep σ (mA4 σ t n) := by
  have h := hP.tz.gCol
  have hn := hP.n
  have h2 := hP.tz.eAut (r := gCol t n + 1) (by omega)
  have h3 := ePart_r t (n := n) (b := eAut t n (gCol t n + 1)) 5 (by omega)
  exact (Ep.a3 hP).cut 5 (by omega) (by omega)
theorem Ep.a5 {σ : St} {t : Int → Int} {n : Int} (hP : Mp σ t n) : Ep σ (mA5 σ t n) := by
  have h := hP.tz.gCol
  have hn := hP.n
  have h2 := hP.tz.eAut (r := gCol t n + 1) (by omega)
  have h3 := ePart_r t (n := n) (b := eAut t n (gCol t n + 1)) 5 (by omega)
  unfold mA5
  split
  · rename_i hq
    have := hP.tz.lt (by decide) hq
    have h4 := ePart_r t (n := n) (b := ePart t n (eAut t n (gCol t n + 1)) 5 + 1) 2 (by omega)
    exact (Ep.a4 hP).cut 6 (by omega) (by omega)
  · exact Ep.a4 hP
theorem Ep.a2 {σ : St} {t : Int → Int} {n : Int} (hP : Mp σ t n) : Ep σ (mA2 σ t n) := by
  unfold mA2
  split
  · exact Ep.a1 hP
  · exact Ep.a5 hP
theorem Ep.a6 {σ : St} {t : Int → Int} {n : Int} (hP : Mp σ t n) : Ep σ (mA6 σ t n) := by
  have h := hP.tz.gCol
  have hn := hP.n
  have h2 := hP.tz.cHash
  exact (Ep.a2 hP).cut 1 (by omega) (by omega)
theorem Ep.a7 {σ : St} {t : Int → Int} {n : Int} (hP : Mp σ t n) : Ep σ (mA7 σ t n) := by
  have hn := hP.n
  have h2 := hP.tz.cHash
  unfold mA7
  split
  · rename_i hq
    have := hP.tz.lt (by decide) hq
    exact (Ep.a6 hP).cut 7 (by omega) (by omega)
  · exact Ep.a6 hP
theorem Ep.fin {σ : St} {t : Int → Int} {n : Int} (hP : Mp σ t n) : Ep σ (mFin σ t n) := by
  have hn := hP.n
  exact (Ep.a7 hP).cut 8 (by omega) (by omega)
def mSchF (t : Int → Int) (c k : Int) : Int := if k < c then (if gLet (t k) = true ∨ (k ≠ 0 ∧ (gDig (t k) = true ∨ 0 ≤ ixO (tS 1) (t k))) then mSchF t c (k + 1) else k) else -1
termination_by (c - k).toNat
decreasing_by omega
theorem mSch_w {t : Int → Int} {c : Int} : ∀ k : Int, k ≤ c + 1 → 1 ≤ k → mSchF t c k = gWrF t k c := by
  refine up (fun k hk ih h1 => ?_)
  rw [mSchF.eq_def, gWrF.eq_def]
  split
  · have e : (gLet (t k) = true ∨ (k ≠ 0 ∧ (gDig (t k) = true ∨ 0 ≤ ixO (tS 1) (t k)))) ↔ (gLet (t k) = true ∨ gDig (t k) = true ∨ 0 ≤ ixO (tS 1) (t k)) := by
      constructor
      · rintro (z | ⟨-, z⟩); exact Or.inl z; exact Or.inr z
      · rintro (z | z); exact Or.inl z; exact Or.inr ⟨by omega, z⟩
    by_cases hc : gLet (t k) = true ∨ gDig (t k) = true ∨ 0 ≤ ixO (tS 1) (t k)
    · rw [if_pos (e.mpr hc), if_pos hc]
      exact ih (k + 1) (by omega) (by omega) (by omega)
    · rw [if_neg (fun z => hc (e.mp z)), if_neg hc]
  · rfl
theorem mSch_0 {t : Int → Int} {c : Int} (hc : c = -1 ∨ 1 ≤ c) : mSchF t c 0 = if c = -1 then -1 else gWr t c := by
  rw [mSchF.eq_def]
  rcases hc with rfl | hc
  · rfl
  · rw [if_pos (by omega), if_neg (show ¬ c = -1 by omega)]
    unfold gWr
    by_cases hl : gLet (t 0) = true
    · rw [if_pos (Or.inl hl), if_neg (by rintro (z | z); omega; rw [hl] at z; exact absurd z (by decide))]
      exact mSch_w 1 (by omega) (by omega)
    · rw [if_neg (by rintro (z | ⟨z, -⟩); exact hl z; exact z rfl), if_pos (Or.inr (by simpa using hl))]
theorem mBad_r (t : Int → Int) {b e : Int} (h : b ≤ e) : mBad t b e = -1 ∨ (b ≤ mBad t b e ∧ mBad t b e < e) := by
  have := nxt_rng (isC t 3) e b h
  unfold mBad
  split <;> omega
/-- parts: its answer, what it leaves -/
def QP (σ : St) (t : Int → Int) (n : Int) (xs : va_W) : Option Value → St → va_W → Prop := fun v s x => x = xs ∧ v = some (.int (zI (mPl t n))) ∧ Ep σ s ∧ (mPl t n = -1 → s = mFin σ t n)
theorem QP.no {σ s : St} {t : Int → Int} {n r : Int} {xs : va_W} (h : mPl t n = r) (hr : r ≠ -1) (hE : Ep σ s) : QP σ t n xs (some (.int (zI r))) s xs := ⟨rfl, by rw [h], hE, fun z => absurd (h.symm.trans z) hr⟩
section X5
variable {γ : Gm} {σ : St} {xs : va_W} {t : Int → Int} {n : Int}
theorem clrK_9 (σ : St) : sMpt (mClrK σ 9) (-1) = mClr σ := by
  have e : ∀ g : Nat → Int, (fun j : Nat => if (j : Int) < 9 then -1 else g j) = fun j => if j < 9 then -1 else g j := fun g => by
    funext j
    by_cases h : j < 9
    · rw [if_pos h, if_pos (by omega)]
    · rw [if_neg h, if_neg (by omega)]
  unfold mClrK mClr
  rw [e, e]
theorem clrK_0 (σ : St) : mClrK σ 0 = σ := by
  have e : ∀ g : Nat → Int, (fun j : Nat => if (j : Int) < 0 then -1 else g j) = g := fun g => by
    funext j
    rw [if_neg (by omega)]
  unfold mClrK
  rw [e, e]
  rfl
theorem be_be (σ : St) (a b : Nat → Int) : sMbe (sMbe σ a) b = sMbe σ b := rfl
theorem en_en (σ : St) (a b : Nat → Int) : sMen (sMen σ a) b = sMen σ b := rfl
theorem be_en (σ : St) (a b : Nat → Int) : sMbe (sMen σ a) b = sMen (sMbe σ b) a := rfl
theorem men_be (σ : St) (a : Nat → Int) : men (sMbe σ a) = men σ := rfl
theorem clrK_s (σ : St) {k : Int} (h0 : 0 ≤ k) : sMen (sMbe (mClrK σ k) (u1 (mbe (mClrK σ k)) k.toNat (-1))) (u1 (men (sMbe (mClrK σ k) (u1 (mbe (mClrK σ k)) k.toNat (-1)))) k.toNat (-1)) = mClrK σ (k + 1) := by
  have e : ∀ g : Nat → Int, u1 (fun j : Nat => if (j : Int) < k then -1 else g j) k.toNat (-1) = fun j : Nat => if (j : Int) < k + 1 then -1 else g j := fun g => by
    funext j
    show (if j = k.toNat then -1 else if (j : Int) < k then -1 else g j) = _
    by_cases h : j = k.toNat
    · rw [if_pos h, if_pos (by omega)]
    · rw [if_neg h]
      by_cases h2 : (j : Int) < k
      · rw [if_pos h2, if_pos (by omega)]
      · rw [if_neg h2, if_neg (by omega)]
  have e1 : mbe (mClrK σ k) = fun j : Nat => if (j : Int) < k then -1 else mbe σ j := rfl
  have e2 : men (mClrK σ k) = fun j : Nat => if (j : Int) < k then -1 else men σ j := rfl
  rw [men_be, e1, e2, e, e]
  unfold mClrK
  rw [be_en, be_be, en_en]
set_option maxRecDepth 100000 in
set_option maxHeartbeats 4000000 in
theorem parts_391 (hG : Full γ) (hP : Mp σ t n) : mPl t n = -1 → RW γ mX5_parts 8 0 0 (QP σ t n xs) nX 0 0 391 [some (.ref (ga γ 8 0)), some (.int (zI (cHash t n))), some (.int (zI (gCol t n + 1))), none, none] [] (mA7 σ t n) xs := by
  have hn := hP.n
  have hT := hP.tz
  have hC := hT.gCol
  have hH := hT.cHash
  have hR := hP.r
  have hA := hT.eAut (r := gCol t n + 1) (by omega)
  have p1 := (Ep.a1 hP).mp hP
  have p3 := (Ep.a3 hP).mp hP
  have p4 := (Ep.a4 hP).mp hP
  have p2 := (Ep.a2 hP).mp hP
  have p6 := (Ep.a6 hP).mp hP
  have p7 := (Ep.a7 hP).mp hP
  have p0 := (Ep.clr hP.1).mp hP
  intro hz
  refine r_aload_n (q := 392) dX5_parts_391 rfl rfl ?_
  refine r_bipush (q := 394) dX5_parts_392 rfl (bip (by decide) (by decide)) ?_
  refine r_iconst (q := 395) dX5_parts_394 rfl ?_
  refine r_aload_n (q := 396) dX5_parts_395 rfl rfl ?_
  refine g_X5_size (i := 0) (q := 399) dX5_parts_396 rfl fX5_53 (hG _ _ rfl) ?_
  rw [show msz (mA7 σ t n) = n from p7.2.2]
  refine cX5_3v (My := mX5_cut) (q := 402) dX5_parts_399 rfl kX5_113 vX5_cut (hG _ _ rfl) rfl (m_cut hG (k := 8) (by decide) (by decide) (by decide)) ⟨by decide, by decide⟩ ⟨by decide, by decide⟩ (Nat.le_of_ble_eq_true rfl) ?_
  refine r_iconst (q := 403) dX5_parts_402 rfl ?_
  refine r_reti dX5_parts_403 rfl (by decide) (by decide) ?_
  exact ⟨rfl, by rw [hz], Ep.fin hP, fun _ => rfl⟩
set_option maxRecDepth 100000 in
set_option maxHeartbeats 4000000 in
theorem parts_352 (hG : Full γ) (hP : Mp σ t n) : mPl t n = mFrF t n (cHash t n + 1) → ∀ k : Int, k ≤ 100 → cHash t n + 1 ≤ k → k ≤ n → mFrF t n k = mFrF t n (cHash t n + 1) → RW γ mX5_parts 8 0 0 (QP σ t n xs) nX 0 0 352 [some (.ref (ga γ 8 0)), some (.int (zI (cHash t n))), some (.int (zI (gCol t n + 1))), some (.int (zI (k))), none] [] (mA7 σ t n) xs := by
  have hn := hP.n
  have hT := hP.tz
  have hC := hT.gCol
  have hH := hT.cHash
  have hR := hP.r
  have hA := hT.eAut (r := gCol t n + 1) (by omega)
  have p1 := (Ep.a1 hP).mp hP
  have p3 := (Ep.a3 hP).mp hP
  have p4 := (Ep.a4 hP).mp hP
  have p2 := (Ep.a2 hP).mp hP
  have p6 := (Ep.a6 hP).mp hP
  have p7 := (Ep.a7 hP).mp hP
  have p0 := (Ep.clr hP.1).mp hP
  have J391 := parts_391 hG hP (xs := xs)
  intro hz
  refine up (fun k hk9 ih hbk hke hr => ?_)
  refine r_iload_n (q := 353) dX5_parts_352 rfl rfl ?_
  refine r_aload_n (q := 354) dX5_parts_353 rfl rfl ?_
  refine g_X5_size (i := 0) (q := 357) dX5_parts_354 rfl fX5_53 (hG _ _ rfl) ?_
  rw [show msz (mA7 σ t n) = n from p7.2.2]
  refine r_icmp_ge (q := 360) (tgt := 391) dX5_parts_357 rfl (by decide) (by first | omega | exact hR _) (by first | omega | exact hR _) (fun h357 => ?_) (fun h357 => ?_)
  · refine RW.drop 3 ?_
    exact J391 (by rw [hz, ← hr, mFrF.eq_def t n k, if_neg (by omega)])
  · refine r_aload_n (q := 361) dX5_parts_360 rfl rfl ?_
    refine g_X5_text (i := 0) (q := 364) dX5_parts_361 rfl fX5_7 (hG _ _ rfl) ?_
    refine r_iload_n (q := 365) dX5_parts_364 rfl rfl ?_
    refine l_mT p7 (q := 366) dX5_parts_365 rfl (hG _ _ rfl) (by omega) ?_
    refine cS_1 (My := mX5_isBad) (q := 369) dX5_parts_366 rfl kX5_89 vX5_isBad (m_isBad (hR _)) ⟨by decide, by decide⟩ ⟨by decide, by decide⟩ (Nat.le_of_ble_eq_true rfl) ?_
    refine r_ifB_ne (q := 372) (tgt := 383) dX5_parts_369 rfl (by decide) (fun h369 => ?_) (fun h369 => ?_)
    · refine r_iload_n (q := 384) dX5_parts_383 rfl rfl ?_
      refine r_reti dX5_parts_384 rfl (by decide) (by decide) ?_
      first
        | exact QP.no (by rw [hz, ← hr, mFrF.eq_def t n k, if_pos (by omega), if_pos (Or.inl (show isC t 3 k = true by assumption))]) (by omega) (Ep.a7 hP)
        | exact QP.no (by rw [hz, ← hr, mFrF.eq_def t n k, if_pos (by omega), if_pos (Or.inr (by omega))]) (by omega) (Ep.a7 hP)
    · refine r_aload_n (q := 373) dX5_parts_372 rfl rfl ?_
      refine g_X5_text (i := 0) (q := 376) dX5_parts_373 rfl fX5_7 (hG _ _ rfl) ?_
      refine r_iload_n (q := 377) dX5_parts_376 rfl rfl ?_
      refine l_mT p7 (q := 378) dX5_parts_377 rfl (hG _ _ rfl) (by omega) ?_
      refine r_bipush (q := 380) dX5_parts_378 rfl (bip (by decide) (by decide)) ?_
      refine r_icmp_ne (q := 383) (tgt := 385) dX5_parts_380 rfl (by decide) (by first | omega | exact hR _) (by first | omega | exact hR _) (fun h380 => ?_) (fun h380 => ?_)
      · refine r_iinc (q := 388) dX5_parts_385 rfl rfl (by decide) (Lst.setL rfl rfl) ?_
        refine r_goto (q := 352) dX5_parts_388 (by decide) ?_
        exact ih (k + 1) (by omega) (by omega) (by omega) (by omega) (by rw [← hr, mFrF.eq_def t n k, if_pos (by omega), if_neg (by rintro (z | z); exact absurd (z.symm.trans (show isC t 3 k = false by assumption)) (by decide); omega)])
      · refine r_iload_n (q := 384) dX5_parts_383 rfl rfl ?_
        refine r_reti dX5_parts_384 rfl (by decide) (by decide) ?_
        first
          | exact QP.no (by rw [hz, ← hr, mFrF.eq_def t n k, if_pos (by omega), if_pos (Or.inl (show isC t 3 k = true by assumption))]) (by omega) (Ep.a7 hP)
          | exact QP.no (by rw [hz, ← hr, mFrF.eq_def t n k, if_pos (by omega), if_pos (Or.inr (by omega))]) (by omega) (Ep.a7 hP)
set_option maxRecDepth 100000 in
set_option maxHeartbeats 4000000 in
theorem parts_317 (hG : Full γ) (hP : Mp σ t n) : mPl t n = mPlF t n (cHash t n) → RW γ mX5_parts 8 0 0 (QP σ t n xs) nX 0 0 317 [some (.ref (ga γ 8 0)), some (.int (zI (cHash t n))), some (.int (zI (gCol t n + 1))), none, none] [] (mA2 σ t n) xs := by
  have hn := hP.n
  have hT := hP.tz
  have hC := hT.gCol
  have hH := hT.cHash
  have hR := hP.r
  have hA := hT.eAut (r := gCol t n + 1) (by omega)
  have p1 := (Ep.a1 hP).mp hP
  have p3 := (Ep.a3 hP).mp hP
  have p4 := (Ep.a4 hP).mp hP
  have p2 := (Ep.a2 hP).mp hP
  have p6 := (Ep.a6 hP).mp hP
  have p7 := (Ep.a7 hP).mp hP
  have p0 := (Ep.clr hP.1).mp hP
  have J352 := parts_352 hG hP (xs := xs)
  have J391 := parts_391 hG hP (xs := xs)
  intro hz
  refine r_aload_n (q := 318) dX5_parts_317 rfl rfl ?_
  refine r_bipush (q := 320) dX5_parts_318 rfl (bip (by decide) (by decide)) ?_
  refine r_iload_n (q := 321) dX5_parts_320 rfl rfl ?_
  refine r_iload_n (q := 322) dX5_parts_321 rfl rfl ?_
  refine cX5_3v (My := mX5_cut) (q := 325) dX5_parts_322 rfl kX5_113 vX5_cut (hG _ _ rfl) rfl (m_cut hG (k := 1) (by decide) (by decide) (by decide)) ⟨by decide, by decide⟩ ⟨by decide, by decide⟩ (Nat.le_of_ble_eq_true rfl) ?_
  refine r_aload_n (q := 326) dX5_parts_325 rfl rfl ?_
  refine r_iload_n (q := 327) dX5_parts_326 rfl rfl ?_
  refine r_bipush (q := 329) dX5_parts_327 rfl (bip (by decide) (by decide)) ?_
  refine cX5_2 (My := mX5_isAt) (q := 332) dX5_parts_329 rfl kX5_96 vX5_isAt (hG _ _ rfl) rfl (p_isAt hG p6 (by omega) (by decide)) ⟨by decide, by decide⟩ ⟨by decide, by decide⟩ (Nat.le_of_ble_eq_true rfl) ?_
  refine r_ifB_eq (q := 335) (tgt := 391) dX5_parts_332 rfl (by decide) (fun h332 => ?_) (fun h332 => ?_)
  · have hq : t (cHash t n) ≠ 35 := of_decide_eq_false h332
    have e7 : mA7 σ t n = mA6 σ t n := if_neg hq
    have J := J391 (hz.trans (if_neg hq))
    rw [e7] at J
    exact J
  · refine r_aload_n (q := 336) dX5_parts_335 rfl rfl ?_
    refine r_bipush (q := 338) dX5_parts_336 rfl (bip (by decide) (by decide)) ?_
    refine r_iload_n (q := 339) dX5_parts_338 rfl rfl ?_
    refine r_iconst (q := 340) dX5_parts_339 rfl ?_
    refine r_iadd (q := 341) dX5_parts_340 rfl ?_
    refine r_aload_n (q := 342) dX5_parts_341 rfl rfl ?_
    refine g_X5_size (i := 0) (q := 345) dX5_parts_342 rfl fX5_53 (hG _ _ rfl) ?_
    rw [show msz (mA6 σ t n) = n from p6.2.2]
    refine cX5_3v (My := mX5_cut) (q := 348) dX5_parts_345 rfl kX5_113 vX5_cut (hG _ _ rfl) rfl (m_cut hG (k := 7) (by decide) (by decide) (by decide)) ⟨by decide, by decide⟩ ⟨by decide, by decide⟩ (Nat.le_of_ble_eq_true rfl) ?_
    refine r_iload_n (q := 349) dX5_parts_348 rfl rfl ?_
    refine r_iconst (q := 350) dX5_parts_349 rfl ?_
    refine r_iadd (q := 351) dX5_parts_350 rfl ?_
    refine r_istore_n (q := 352) dX5_parts_351 rfl (by decide) (Lst.setL rfl rfl) ?_
    have hq : t (cHash t n) = 35 := of_decide_eq_true h332
    have e7 : mA7 σ t n = mCut (mA6 σ t n) 7 (cHash t n + 1) n := if_pos hq
    have J := J352 (hz.trans (if_pos hq)) (cHash t n + 1) (by omega) (by omega) (by have := hT.lt (by decide) hq; omega) rfl
    rw [e7] at J
    exact J
set_option maxRecDepth 100000 in
set_option maxHeartbeats 4000000 in
theorem parts_232 (hG : Full γ) (hP : Mp σ t n) : cOpq t n = false → mPl t n = mPlP t n (eAut t n (gCol t n + 1)) → RW γ mX5_parts 8 0 0 (QP σ t n xs) nX 0 0 232 [some (.ref (ga γ 8 0)), some (.int (zI (eAut t n (gCol t n + 1)))), some (.int (zI (gCol t n + 1))), none, none] [] (mA3 σ t n) xs := by
  have hn := hP.n
  have hT := hP.tz
  have hC := hT.gCol
  have hH := hT.cHash
  have hR := hP.r
  have hA := hT.eAut (r := gCol t n + 1) (by omega)
  have p1 := (Ep.a1 hP).mp hP
  have p3 := (Ep.a3 hP).mp hP
  have p4 := (Ep.a4 hP).mp hP
  have p2 := (Ep.a2 hP).mp hP
  have p6 := (Ep.a6 hP).mp hP
  have p7 := (Ep.a7 hP).mp hP
  have p0 := (Ep.clr hP.1).mp hP
  have J317 := parts_317 hG hP (xs := xs)
  intro ho hz
  have h5 := ePart_r t (n := n) (b := eAut t n (gCol t n + 1)) 5 (by omega)
  have h4 := mBad_r t (b := eAut t n (gCol t n + 1)) (e := (ePart t n (eAut t n (gCol t n + 1)) 5)) (by omega)
  refine r_iload_n (q := 233) dX5_parts_232 rfl rfl ?_
  refine r_istore_n (q := 234) dX5_parts_233 rfl (by decide) (Lst.setL rfl rfl) ?_
  refine r_aload_n (q := 235) dX5_parts_234 rfl rfl ?_
  refine r_iload_n (q := 236) dX5_parts_235 rfl rfl ?_
  refine r_ldcS (i := 5) (tx := "?#") (q := 238) dX5_parts_236 rfl (List.mem_of_getElem? (i := 68) rfl) ?_
  refine cX5_2 (My := mX5_next) (q := 241) dX5_parts_238 rfl kX5_85 vX5_next (hG _ _ rfl) rfl (p_next hG p3 (by decide) (by omega)) ⟨by decide, by decide⟩ ⟨by decide, by decide⟩ (Nat.le_of_ble_eq_true rfl) ?_
  rw [show nxt (isC t 5) (eAut t n (gCol t n + 1)) n = ePart t n (eAut t n (gCol t n + 1)) 5 from rfl]
  refine r_istore_n (q := 242) dX5_parts_241 rfl (by decide) (Lst.setL rfl rfl) ?_
  refine r_aload_n (q := 243) dX5_parts_242 rfl rfl ?_
  refine r_bipush (q := 245) dX5_parts_243 rfl (bip (by decide) (by decide)) ?_
  refine r_iload_n (q := 246) dX5_parts_245 rfl rfl ?_
  refine r_iload_n (q := 247) dX5_parts_246 rfl rfl ?_
  refine cX5_3v (My := mX5_cut) (q := 250) dX5_parts_247 rfl kX5_113 vX5_cut (hG _ _ rfl) rfl (m_cut hG (k := 5) (by decide) (by decide) (by decide)) ⟨by decide, by decide⟩ ⟨by decide, by decide⟩ (Nat.le_of_ble_eq_true rfl) ?_
  refine r_aload_n (q := 251) dX5_parts_250 rfl rfl ?_
  refine r_iload_n (q := 252) dX5_parts_251 rfl rfl ?_
  refine r_iload_n (q := 253) dX5_parts_252 rfl rfl ?_
  refine cX5_2 (My := mX5_bad) (q := 256) dX5_parts_253 rfl kX5_119 vX5_bad (hG _ _ rfl) rfl (p_bad hG p4 (by omega) (by omega)) ⟨by decide, by decide⟩ ⟨by decide, by decide⟩ (Nat.le_of_ble_eq_true rfl) ?_
  refine r_if_lt (q := 259) (tgt := 266) dX5_parts_256 rfl (by decide) (by first | omega | exact hR _) (fun h256 => ?_) (fun h256 => ?_)
  · refine r_aload_n (q := 267) dX5_parts_266 rfl rfl ?_
    refine r_iload_n (q := 268) dX5_parts_267 rfl rfl ?_
    refine r_bipush (q := 270) dX5_parts_268 rfl (bip (by decide) (by decide)) ?_
    refine cX5_2 (My := mX5_isAt) (q := 273) dX5_parts_270 rfl kX5_96 vX5_isAt (hG _ _ rfl) rfl (p_isAt hG p4 (by omega) (by decide)) ⟨by decide, by decide⟩ ⟨by decide, by decide⟩ (Nat.le_of_ble_eq_true rfl) ?_
    refine r_ifB_eq (q := 276) (tgt := 317) dX5_parts_273 rfl (by decide) (fun h273 => ?_) (fun h273 => ?_)
    · first
        | (have hq63 : t (ePart t n (eAut t n (gCol t n + 1)) 5) = 63 := of_decide_eq_true h273
           have ec : cHash t n = ePart t n ((ePart t n (eAut t n (gCol t n + 1)) 5) + 1) 2 := by unfold cHash; rw [if_neg (by rw [ho]; decide)]; unfold ePQ; rw [if_pos hq63]
           have e2 : mA2 σ t n = mCut (mA4 σ t n) 6 ((ePart t n (eAut t n (gCol t n + 1)) 5) + 1) (ePart t n ((ePart t n (eAut t n (gCol t n + 1)) 5) + 1) 2) := (if_neg (by rw [ho]; decide)).trans e5
           have J := J317 (by rw [hzq]; unfold mPlQ; rw [if_neg (by omega), ec])
           rw [ec, e2] at J
           refine RW.drop 3 (RW.drop 4 ?_)
           exact J)
        | (have hq63 : t (ePart t n (eAut t n (gCol t n + 1)) 5) ≠ 63 := of_decide_eq_false h273
           have ec : cHash t n = (ePart t n (eAut t n (gCol t n + 1)) 5) := by unfold cHash; rw [if_neg (by rw [ho]; decide)]; unfold ePQ; rw [if_neg hq63]
           have e2 : mA2 σ t n = mA4 σ t n := (if_neg (by rw [ho]; decide)).trans (if_neg hq63)
           have J := J317 (by rw [hz]; unfold mPlP; rw [if_neg (by omega), if_neg hq63, ec])
           rw [ec, e2] at J
           refine RW.drop 3 ?_
           exact J)
    · refine r_iload_n (q := 277) dX5_parts_276 rfl rfl ?_
      refine r_iconst (q := 278) dX5_parts_277 rfl ?_
      refine r_iadd (q := 279) dX5_parts_278 rfl ?_
      refine r_istore (q := 281) dX5_parts_279 rfl (by decide) (Lst.setL rfl rfl) ?_
      refine r_aload_n (q := 282) dX5_parts_281 rfl rfl ?_
      refine r_iload (q := 284) dX5_parts_282 rfl rfl ?_
      refine r_ldcS (i := 2) (tx := "#") (q := 286) dX5_parts_284 rfl (List.mem_of_getElem? (i := 67) rfl) ?_
      refine cX5_2 (My := mX5_next) (q := 289) dX5_parts_286 rfl kX5_85 vX5_next (hG _ _ rfl) rfl (p_next hG p4 (by decide) (by have := hT.lt (by decide) (of_decide_eq_true h273); omega)) ⟨by decide, by decide⟩ ⟨by decide, by decide⟩ (Nat.le_of_ble_eq_true rfl) ?_
      rw [show nxt (isC t 2) ((ePart t n (eAut t n (gCol t n + 1)) 5) + 1) n = ePart t n ((ePart t n (eAut t n (gCol t n + 1)) 5) + 1) 2 from rfl]
      refine r_istore_n (q := 290) dX5_parts_289 rfl (by decide) (Lst.setL rfl rfl) ?_
      refine r_aload_n (q := 291) dX5_parts_290 rfl rfl ?_
      refine r_bipush (q := 293) dX5_parts_291 rfl (bip (by decide) (by decide)) ?_
      refine r_iload (q := 295) dX5_parts_293 rfl rfl ?_
      refine r_iload_n (q := 296) dX5_parts_295 rfl rfl ?_
      refine cX5_3v (My := mX5_cut) (q := 299) dX5_parts_296 rfl kX5_113 vX5_cut (hG _ _ rfl) rfl (m_cut hG (k := 6) (by decide) (by decide) (by decide)) ⟨by decide, by decide⟩ ⟨by decide, by decide⟩ (Nat.le_of_ble_eq_true rfl) ?_
      have hq63 : t (ePart t n (eAut t n (gCol t n + 1)) 5) = 63 := of_decide_eq_true h273
      have hl63 := hT.lt (by decide) hq63
      have h6 := ePart_r t (n := n) (b := (ePart t n (eAut t n (gCol t n + 1)) 5) + 1) 2 (by omega)
      have h7 := mBad_r t (b := (ePart t n (eAut t n (gCol t n + 1)) 5) + 1) (e := ePart t n ((ePart t n (eAut t n (gCol t n + 1)) 5) + 1) 2) (by omega)
      have e5 : mA5 σ t n = mCut (mA4 σ t n) 6 ((ePart t n (eAut t n (gCol t n + 1)) 5) + 1) (ePart t n ((ePart t n (eAut t n (gCol t n + 1)) 5) + 1) 2) := if_pos hq63
      have p5 : Mp (mCut (mA4 σ t n) 6 ((ePart t n (eAut t n (gCol t n + 1)) 5) + 1) (ePart t n ((ePart t n (eAut t n (gCol t n + 1)) 5) + 1) 2)) t n := by rw [← e5]; exact (Ep.a5 hP).mp hP
      have hzq : mPl t n = mPlQ t n ((ePart t n (eAut t n (gCol t n + 1)) 5) + 1) := by rw [hz]; unfold mPlP; rw [if_neg (by omega), if_pos hq63]
      refine r_aload_n (q := 300) dX5_parts_299 rfl rfl ?_
      refine r_iload (q := 302) dX5_parts_300 rfl rfl ?_
      refine r_iload_n (q := 303) dX5_parts_302 rfl rfl ?_
      refine cX5_2 (My := mX5_bad) (q := 306) dX5_parts_303 rfl kX5_119 vX5_bad (hG _ _ rfl) rfl (p_bad hG p5 (by omega) (by omega)) ⟨by decide, by decide⟩ ⟨by decide, by decide⟩ (Nat.le_of_ble_eq_true rfl) ?_
      refine r_if_lt (q := 309) (tgt := 317) dX5_parts_306 rfl (by decide) (by first | omega | exact hR _) (fun h306 => ?_) (fun h306 => ?_)
      · first
          | (have hq63 : t (ePart t n (eAut t n (gCol t n + 1)) 5) = 63 := of_decide_eq_true h273
             have ec : cHash t n = ePart t n ((ePart t n (eAut t n (gCol t n + 1)) 5) + 1) 2 := by unfold cHash; rw [if_neg (by rw [ho]; decide)]; unfold ePQ; rw [if_pos hq63]
             have e2 : mA2 σ t n = mCut (mA4 σ t n) 6 ((ePart t n (eAut t n (gCol t n + 1)) 5) + 1) (ePart t n ((ePart t n (eAut t n (gCol t n + 1)) 5) + 1) 2) := (if_neg (by rw [ho]; decide)).trans e5
             have J := J317 (by rw [hzq]; unfold mPlQ; rw [if_neg (by omega), ec])
             rw [ec, e2] at J
             refine RW.drop 3 (RW.drop 4 ?_)
             exact J)
          | (have hq63 : t (ePart t n (eAut t n (gCol t n + 1)) 5) ≠ 63 := of_decide_eq_false h273
             have ec : cHash t n = (ePart t n (eAut t n (gCol t n + 1)) 5) := by unfold cHash; rw [if_neg (by rw [ho]; decide)]; unfold ePQ; rw [if_neg hq63]
             have e2 : mA2 σ t n = mA4 σ t n := (if_neg (by rw [ho]; decide)).trans (if_neg hq63)
             have J := J317 (by rw [hz]; unfold mPlP; rw [if_neg (by omega), if_neg hq63, ec])
             rw [ec, e2] at J
             refine RW.drop 3 ?_
             exact J)
      · refine r_aload_n (q := 310) dX5_parts_309 rfl rfl ?_
        refine r_iload (q := 312) dX5_parts_310 rfl rfl ?_
        refine r_iload_n (q := 313) dX5_parts_312 rfl rfl ?_
        refine cX5_2 (My := mX5_bad) (q := 316) dX5_parts_313 rfl kX5_119 vX5_bad (hG _ _ rfl) rfl (p_bad hG p5 (by omega) (by omega)) ⟨by decide, by decide⟩ ⟨by decide, by decide⟩ (Nat.le_of_ble_eq_true rfl) ?_
        refine r_reti dX5_parts_316 rfl (by decide) (by decide) ?_
        exact QP.no (by rw [hzq]; unfold mPlQ; rw [if_pos (by omega)]) (by omega) (by have h8 := Ep.a5 hP; rw [e5] at h8; exact h8)
  · refine r_aload_n (q := 260) dX5_parts_259 rfl rfl ?_
    refine r_iload_n (q := 261) dX5_parts_260 rfl rfl ?_
    refine r_iload_n (q := 262) dX5_parts_261 rfl rfl ?_
    refine cX5_2 (My := mX5_bad) (q := 265) dX5_parts_262 rfl kX5_119 vX5_bad (hG _ _ rfl) rfl (p_bad hG p4 (by omega) (by omega)) ⟨by decide, by decide⟩ ⟨by decide, by decide⟩ (Nat.le_of_ble_eq_true rfl) ?_
    refine r_reti dX5_parts_265 rfl (by decide) (by decide) ?_
    exact QP.no (by rw [hz]; unfold mPlP; rw [if_pos (by omega)]) (by omega) (Ep.a4 hP)
set_option maxRecDepth 100000 in
set_option maxHeartbeats 4000000 in
theorem parts_166 (hG : Full γ) (hP : Mp σ t n) : cOpq t n = false → mPl t n = mPlN t n (gCol t n + 1) → RW γ mX5_parts 8 0 0 (QP σ t n xs) nX 0 0 166 [some (.ref (ga γ 8 0)), some (.int (zI (gCol t n + 1))), some (.int (zI (gCol t n + 1))), none, none] [] (mA1 σ t n) xs := by
  have hn := hP.n
  have hT := hP.tz
  have hC := hT.gCol
  have hH := hT.cHash
  have hR := hP.r
  have hA := hT.eAut (r := gCol t n + 1) (by omega)
  have p1 := (Ep.a1 hP).mp hP
  have p3 := (Ep.a3 hP).mp hP
  have p4 := (Ep.a4 hP).mp hP
  have p2 := (Ep.a2 hP).mp hP
  have p6 := (Ep.a6 hP).mp hP
  have p7 := (Ep.a7 hP).mp hP
  have p0 := (Ep.clr hP.1).mp hP
  have J232 := parts_232 hG hP (xs := xs)
  intro ho hz
  have hs8 : -1 ≤ mSl t n ∧ mSl t n ≤ 63 := by unfold mSl; split <;> omega
  refine r_aload_n (q := 167) dX5_parts_166 rfl rfl ?_
  refine cX5_0 (My := mX5_slashes) (q := 170) dX5_parts_167 rfl kX5_122 vX5_slashes (hG _ _ rfl) rfl (p_slashes hG p1) ⟨by decide, by decide⟩ ⟨by decide, by decide⟩ (Nat.le_of_ble_eq_true rfl) ?_
  refine r_if_lt (q := 173) (tgt := 232) dX5_parts_170 rfl (by decide) (by first | omega | exact hR _) (fun h170 => ?_) (fun h170 => ?_)
  · first
      | (have hgn : gSl t (gCol t n + 1) = false := by
           cases hgs : gSl t (gCol t n + 1)
           · rfl
           · have := mSl_y hgs; omega
         have ea : eAut t n (gCol t n + 1) = gCol t n + 1 := by unfold eAut; rw [hgn]; rfl
         have e3 : mA3 σ t n = mA1 σ t n := if_neg (by rw [hgn]; rintro ⟨z, -⟩; exact absurd z (by decide))
         have J := J232 ho (by rw [hz]; unfold mPlN; rw [if_neg (by rw [hgn]; rintro ⟨z, -⟩; exact absurd z (by decide))])
         rw [ea, e3] at J
         exact J)
      | (have e3 : mA3 σ t n = mAut (mCut (mA1 σ t n) 2 (gCol t n + 1 + 2) (eAut t n (gCol t n + 1))) t (gCol t n + 1 + 2) (eAut t n (gCol t n + 1)) := if_pos ⟨hgs, by omega⟩
         have J := J232 ho (by rw [hz]; unfold mPlN; rw [if_neg (by rintro ⟨-, z1, z2⟩; omega)])
         rw [e3] at J
         refine RW.drop 3 ?_
         exact J)
      | (have e3 : mA3 σ t n = mA1 σ t n := if_neg (by rintro ⟨-, z⟩; omega)
         have J := J232 ho (by rw [hz]; unfold mPlN; rw [if_neg (by rintro ⟨-, z1, z2⟩; omega)])
         rw [e3] at J
         refine RW.drop 3 ?_
         exact J)
  · have hgs : gSl t (gCol t n + 1) = true := by
      cases hgs : gSl t (gCol t n + 1)
      · have := mSl_n hgs; omega
      · rfl
    have eS := mSl_y hgs
    have hA2 := hA.2.2 hgs
    have eE : nxt (isC t 4) (gCol t n + 1 + 2) n = eAut t n (gCol t n + 1) := by unfold eAut; rw [if_pos hgs]
    refine r_aload_n (q := 174) dX5_parts_173 rfl rfl ?_
    refine r_aload_n (q := 175) dX5_parts_174 rfl rfl ?_
    refine cX5_0 (My := mX5_slashes) (q := 178) dX5_parts_175 rfl kX5_122 vX5_slashes (hG _ _ rfl) rfl (p_slashes hG p1) ⟨by decide, by decide⟩ ⟨by decide, by decide⟩ (Nat.le_of_ble_eq_true rfl) ?_
    rw [eS]
    refine r_ldcS (i := 4) (tx := "/?#") (q := 180) dX5_parts_178 rfl (List.mem_of_getElem? (i := 65) rfl) ?_
    refine cX5_2 (My := mX5_next) (q := 183) dX5_parts_180 rfl kX5_85 vX5_next (hG _ _ rfl) rfl (p_next hG p1 (by decide) (by omega)) ⟨by decide, by decide⟩ ⟨by decide, by decide⟩ (Nat.le_of_ble_eq_true rfl) ?_
    rw [eE]
    refine r_istore_n (q := 184) dX5_parts_183 rfl (by decide) (Lst.setL rfl rfl) ?_
    refine r_iload_n (q := 185) dX5_parts_184 rfl rfl ?_
    refine r_aload_n (q := 186) dX5_parts_185 rfl rfl ?_
    refine cX5_0 (My := mX5_slashes) (q := 189) dX5_parts_186 rfl kX5_122 vX5_slashes (hG _ _ rfl) rfl (p_slashes hG p1) ⟨by decide, by decide⟩ ⟨by decide, by decide⟩ (Nat.le_of_ble_eq_true rfl) ?_
    rw [eS]
    refine r_icmp_ne (q := 192) (tgt := 202) dX5_parts_189 rfl (by decide) (by first | omega | exact hR _) (by first | omega | exact hR _) (fun h189 => ?_) (fun h189 => ?_)
    · refine r_iload_n (q := 203) dX5_parts_202 rfl rfl ?_
      refine r_aload_n (q := 204) dX5_parts_203 rfl rfl ?_
      refine cX5_0 (My := mX5_slashes) (q := 207) dX5_parts_204 rfl kX5_122 vX5_slashes (hG _ _ rfl) rfl (p_slashes hG p1) ⟨by decide, by decide⟩ ⟨by decide, by decide⟩ (Nat.le_of_ble_eq_true rfl) ?_
      rw [eS]
      refine r_icmp_le (q := 210) (tgt := 230) dX5_parts_207 rfl (by decide) (by first | omega | exact hR _) (by first | omega | exact hR _) (fun h207 => ?_) (fun h207 => ?_)
      · refine r_iload_n (q := 231) dX5_parts_230 rfl rfl ?_
        refine r_istore_n (q := 232) dX5_parts_231 rfl (by decide) (Lst.setL rfl rfl) ?_
        first
          | (have hgn : gSl t (gCol t n + 1) = false := by
               cases hgs : gSl t (gCol t n + 1)
               · rfl
               · have := mSl_y hgs; omega
             have ea : eAut t n (gCol t n + 1) = gCol t n + 1 := by unfold eAut; rw [hgn]; rfl
             have e3 : mA3 σ t n = mA1 σ t n := if_neg (by rw [hgn]; rintro ⟨z, -⟩; exact absurd z (by decide))
             have J := J232 ho (by rw [hz]; unfold mPlN; rw [if_neg (by rw [hgn]; rintro ⟨z, -⟩; exact absurd z (by decide))])
             rw [ea, e3] at J
             exact J)
          | (have e3 : mA3 σ t n = mAut (mCut (mA1 σ t n) 2 (gCol t n + 1 + 2) (eAut t n (gCol t n + 1))) t (gCol t n + 1 + 2) (eAut t n (gCol t n + 1)) := if_pos ⟨hgs, by omega⟩
             have J := J232 ho (by rw [hz]; unfold mPlN; rw [if_neg (by rintro ⟨-, z1, z2⟩; omega)])
             rw [e3] at J
             refine RW.drop 3 ?_
             exact J)
          | (have e3 : mA3 σ t n = mA1 σ t n := if_neg (by rintro ⟨-, z⟩; omega)
             have J := J232 ho (by rw [hz]; unfold mPlN; rw [if_neg (by rintro ⟨-, z1, z2⟩; omega)])
             rw [e3] at J
             refine RW.drop 3 ?_
             exact J)
      · refine r_aload_n (q := 211) dX5_parts_210 rfl rfl ?_
        refine r_bipush (q := 213) dX5_parts_211 rfl (bip (by decide) (by decide)) ?_
        refine r_aload_n (q := 214) dX5_parts_213 rfl rfl ?_
        refine cX5_0 (My := mX5_slashes) (q := 217) dX5_parts_214 rfl kX5_122 vX5_slashes (hG _ _ rfl) rfl (p_slashes hG p1) ⟨by decide, by decide⟩ ⟨by decide, by decide⟩ (Nat.le_of_ble_eq_true rfl) ?_
        rw [eS]
        refine r_iload_n (q := 218) dX5_parts_217 rfl rfl ?_
        refine cX5_3v (My := mX5_cut) (q := 221) dX5_parts_218 rfl kX5_113 vX5_cut (hG _ _ rfl) rfl (m_cut hG (k := 2) (by decide) (by decide) (by decide)) ⟨by decide, by decide⟩ ⟨by decide, by decide⟩ (Nat.le_of_ble_eq_true rfl) ?_
        have p1c : Mp (mCut (mA1 σ t n) 2 (gCol t n + 1 + 2) (eAut t n (gCol t n + 1))) t n := ((Ep.a1 hP).cut 2 (by omega) (by omega)).mp hP
        refine r_aload_n (q := 222) dX5_parts_221 rfl rfl ?_
        refine r_aload_n (q := 223) dX5_parts_222 rfl rfl ?_
        refine cX5_0 (My := mX5_slashes) (q := 226) dX5_parts_223 rfl kX5_122 vX5_slashes (hG _ _ rfl) rfl (p_slashes hG p1c) ⟨by decide, by decide⟩ ⟨by decide, by decide⟩ (Nat.le_of_ble_eq_true rfl) ?_
        rw [eS]
        refine r_iload_n (q := 227) dX5_parts_226 rfl rfl ?_
        refine cX5_2v (My := mX5_authority) (q := 230) dX5_parts_227 rfl kX5_127 vX5_authority (hG _ _ rfl) rfl (m_authority hG p1c (by omega) (by omega)) ⟨by decide, by decide⟩ ⟨by decide, by decide⟩ (Nat.le_of_ble_eq_true rfl) ?_
        refine r_iload_n (q := 231) dX5_parts_230 rfl rfl ?_
        refine r_istore_n (q := 232) dX5_parts_231 rfl (by decide) (Lst.setL rfl rfl) ?_
        first
          | (have hgn : gSl t (gCol t n + 1) = false := by
               cases hgs : gSl t (gCol t n + 1)
               · rfl
               · have := mSl_y hgs; omega
             have ea : eAut t n (gCol t n + 1) = gCol t n + 1 := by unfold eAut; rw [hgn]; rfl
             have e3 : mA3 σ t n = mA1 σ t n := if_neg (by rw [hgn]; rintro ⟨z, -⟩; exact absurd z (by decide))
             have J := J232 ho (by rw [hz]; unfold mPlN; rw [if_neg (by rw [hgn]; rintro ⟨z, -⟩; exact absurd z (by decide))])
             rw [ea, e3] at J
             exact J)
          | (have e3 : mA3 σ t n = mAut (mCut (mA1 σ t n) 2 (gCol t n + 1 + 2) (eAut t n (gCol t n + 1))) t (gCol t n + 1 + 2) (eAut t n (gCol t n + 1)) := if_pos ⟨hgs, by omega⟩
             have J := J232 ho (by rw [hz]; unfold mPlN; rw [if_neg (by rintro ⟨-, z1, z2⟩; omega)])
             rw [e3] at J
             refine RW.drop 3 ?_
             exact J)
          | (have e3 : mA3 σ t n = mA1 σ t n := if_neg (by rintro ⟨-, z⟩; omega)
             have J := J232 ho (by rw [hz]; unfold mPlN; rw [if_neg (by rintro ⟨-, z1, z2⟩; omega)])
             rw [e3] at J
             refine RW.drop 3 ?_
             exact J)
    · refine r_iload_n (q := 193) dX5_parts_192 rfl rfl ?_
      refine r_aload_n (q := 194) dX5_parts_193 rfl rfl ?_
      refine g_X5_size (i := 0) (q := 197) dX5_parts_194 rfl fX5_53 (hG _ _ rfl) ?_
      rw [show msz (mA1 σ t n) = n from p1.2.2]
      refine r_icmp_ne (q := 200) (tgt := 202) dX5_parts_197 rfl (by decide) (by first | omega | exact hR _) (by first | omega | exact hR _) (fun h197 => ?_) (fun h197 => ?_)
      · refine r_iload_n (q := 203) dX5_parts_202 rfl rfl ?_
        refine r_aload_n (q := 204) dX5_parts_203 rfl rfl ?_
        refine cX5_0 (My := mX5_slashes) (q := 207) dX5_parts_204 rfl kX5_122 vX5_slashes (hG _ _ rfl) rfl (p_slashes hG p1) ⟨by decide, by decide⟩ ⟨by decide, by decide⟩ (Nat.le_of_ble_eq_true rfl) ?_
        rw [eS]
        refine r_icmp_le (q := 210) (tgt := 230) dX5_parts_207 rfl (by decide) (by first | omega | exact hR _) (by first | omega | exact hR _) (fun h207 => ?_) (fun h207 => ?_)
        · refine r_iload_n (q := 231) dX5_parts_230 rfl rfl ?_
          refine r_istore_n (q := 232) dX5_parts_231 rfl (by decide) (Lst.setL rfl rfl) ?_
          first
            | (have hgn : gSl t (gCol t n + 1) = false := by
                 cases hgs : gSl t (gCol t n + 1)
                 · rfl
                 · have := mSl_y hgs; omega
               have ea : eAut t n (gCol t n + 1) = gCol t n + 1 := by unfold eAut; rw [hgn]; rfl
               have e3 : mA3 σ t n = mA1 σ t n := if_neg (by rw [hgn]; rintro ⟨z, -⟩; exact absurd z (by decide))
               have J := J232 ho (by rw [hz]; unfold mPlN; rw [if_neg (by rw [hgn]; rintro ⟨z, -⟩; exact absurd z (by decide))])
               rw [ea, e3] at J
               exact J)
            | (have e3 : mA3 σ t n = mAut (mCut (mA1 σ t n) 2 (gCol t n + 1 + 2) (eAut t n (gCol t n + 1))) t (gCol t n + 1 + 2) (eAut t n (gCol t n + 1)) := if_pos ⟨hgs, by omega⟩
               have J := J232 ho (by rw [hz]; unfold mPlN; rw [if_neg (by rintro ⟨-, z1, z2⟩; omega)])
               rw [e3] at J
               refine RW.drop 3 ?_
               exact J)
            | (have e3 : mA3 σ t n = mA1 σ t n := if_neg (by rintro ⟨-, z⟩; omega)
               have J := J232 ho (by rw [hz]; unfold mPlN; rw [if_neg (by rintro ⟨-, z1, z2⟩; omega)])
               rw [e3] at J
               refine RW.drop 3 ?_
               exact J)
        · refine r_aload_n (q := 211) dX5_parts_210 rfl rfl ?_
          refine r_bipush (q := 213) dX5_parts_211 rfl (bip (by decide) (by decide)) ?_
          refine r_aload_n (q := 214) dX5_parts_213 rfl rfl ?_
          refine cX5_0 (My := mX5_slashes) (q := 217) dX5_parts_214 rfl kX5_122 vX5_slashes (hG _ _ rfl) rfl (p_slashes hG p1) ⟨by decide, by decide⟩ ⟨by decide, by decide⟩ (Nat.le_of_ble_eq_true rfl) ?_
          rw [eS]
          refine r_iload_n (q := 218) dX5_parts_217 rfl rfl ?_
          refine cX5_3v (My := mX5_cut) (q := 221) dX5_parts_218 rfl kX5_113 vX5_cut (hG _ _ rfl) rfl (m_cut hG (k := 2) (by decide) (by decide) (by decide)) ⟨by decide, by decide⟩ ⟨by decide, by decide⟩ (Nat.le_of_ble_eq_true rfl) ?_
          have p1c : Mp (mCut (mA1 σ t n) 2 (gCol t n + 1 + 2) (eAut t n (gCol t n + 1))) t n := ((Ep.a1 hP).cut 2 (by omega) (by omega)).mp hP
          refine r_aload_n (q := 222) dX5_parts_221 rfl rfl ?_
          refine r_aload_n (q := 223) dX5_parts_222 rfl rfl ?_
          refine cX5_0 (My := mX5_slashes) (q := 226) dX5_parts_223 rfl kX5_122 vX5_slashes (hG _ _ rfl) rfl (p_slashes hG p1c) ⟨by decide, by decide⟩ ⟨by decide, by decide⟩ (Nat.le_of_ble_eq_true rfl) ?_
          rw [eS]
          refine r_iload_n (q := 227) dX5_parts_226 rfl rfl ?_
          refine cX5_2v (My := mX5_authority) (q := 230) dX5_parts_227 rfl kX5_127 vX5_authority (hG _ _ rfl) rfl (m_authority hG p1c (by omega) (by omega)) ⟨by decide, by decide⟩ ⟨by decide, by decide⟩ (Nat.le_of_ble_eq_true rfl) ?_
          refine r_iload_n (q := 231) dX5_parts_230 rfl rfl ?_
          refine r_istore_n (q := 232) dX5_parts_231 rfl (by decide) (Lst.setL rfl rfl) ?_
          first
            | (have hgn : gSl t (gCol t n + 1) = false := by
                 cases hgs : gSl t (gCol t n + 1)
                 · rfl
                 · have := mSl_y hgs; omega
               have ea : eAut t n (gCol t n + 1) = gCol t n + 1 := by unfold eAut; rw [hgn]; rfl
               have e3 : mA3 σ t n = mA1 σ t n := if_neg (by rw [hgn]; rintro ⟨z, -⟩; exact absurd z (by decide))
               have J := J232 ho (by rw [hz]; unfold mPlN; rw [if_neg (by rw [hgn]; rintro ⟨z, -⟩; exact absurd z (by decide))])
               rw [ea, e3] at J
               exact J)
            | (have e3 : mA3 σ t n = mAut (mCut (mA1 σ t n) 2 (gCol t n + 1 + 2) (eAut t n (gCol t n + 1))) t (gCol t n + 1 + 2) (eAut t n (gCol t n + 1)) := if_pos ⟨hgs, by omega⟩
               have J := J232 ho (by rw [hz]; unfold mPlN; rw [if_neg (by rintro ⟨-, z1, z2⟩; omega)])
               rw [e3] at J
               refine RW.drop 3 ?_
               exact J)
            | (have e3 : mA3 σ t n = mA1 σ t n := if_neg (by rintro ⟨-, z⟩; omega)
               have J := J232 ho (by rw [hz]; unfold mPlN; rw [if_neg (by rintro ⟨-, z1, z2⟩; omega)])
               rw [e3] at J
               refine RW.drop 3 ?_
               exact J)
      · refine r_iload_n (q := 201) dX5_parts_200 rfl rfl ?_
        refine r_reti dX5_parts_201 rfl (by decide) (by decide) ?_
        have e9 : mPl t n = eAut t n (gCol t n + 1) := by rw [hz]; unfold mPlN; rw [if_pos ⟨hgs, by omega, by omega⟩]; omega
        exact QP.no e9 (by omega) (Ep.a1 hP)
set_option maxRecDepth 100000 in
set_option maxHeartbeats 4000000 in
theorem parts_119 (hG : Full γ) (hP : Mp σ t n) : mPl t n = mPlR t n → RW γ mX5_parts 8 0 0 (QP σ t n xs) nX 0 0 119 [some (.ref (ga γ 8 0)), some (.int (zI (gCol t n + 1))), none, none, none] [] (mA1 σ t n) xs := by
  have hn := hP.n
  have hT := hP.tz
  have hC := hT.gCol
  have hH := hT.cHash
  have hR := hP.r
  have hA := hT.eAut (r := gCol t n + 1) (by omega)
  have p1 := (Ep.a1 hP).mp hP
  have p3 := (Ep.a3 hP).mp hP
  have p4 := (Ep.a4 hP).mp hP
  have p2 := (Ep.a2 hP).mp hP
  have p6 := (Ep.a6 hP).mp hP
  have p7 := (Ep.a7 hP).mp hP
  have p0 := (Ep.clr hP.1).mp hP
  have J166 := parts_166 hG hP (xs := xs)
  have J317 := parts_317 hG hP (xs := xs)
  intro hz
  refine r_iload_n (q := 120) dX5_parts_119 rfl rfl ?_
  refine r_istore_n (q := 121) dX5_parts_120 rfl (by decide) (Lst.setL rfl rfl) ?_
  refine r_iload_n (q := 122) dX5_parts_121 rfl rfl ?_
  refine r_if_le (q := 125) (tgt := 166) dX5_parts_122 rfl (by decide) (by first | omega | exact hR _) (fun h122 => ?_) (fun h122 => ?_)
  · first
      | (have hoq : cOpq t n = false := decide_eq_false (by rintro ⟨z1, z2⟩; omega)
         exact J166 hoq (by rw [hz]; unfold mPlR; rw [hoq]; rfl))
      | (have hoq : cOpq t n = false := decide_eq_false (by rintro ⟨z1, z2⟩; exact z2 (of_decide_eq_true h132))
         exact J166 hoq (by rw [hz]; unfold mPlR; rw [hoq]; rfl))
  · refine r_aload_n (q := 126) dX5_parts_125 rfl rfl ?_
    refine r_iload_n (q := 127) dX5_parts_126 rfl rfl ?_
    refine r_bipush (q := 129) dX5_parts_127 rfl (bip (by decide) (by decide)) ?_
    refine cX5_2 (My := mX5_isAt) (q := 132) dX5_parts_129 rfl kX5_96 vX5_isAt (hG _ _ rfl) rfl (p_isAt hG p1 (by omega) (by decide)) ⟨by decide, by decide⟩ ⟨by decide, by decide⟩ (Nat.le_of_ble_eq_true rfl) ?_
    refine r_ifB_ne (q := 135) (tgt := 166) dX5_parts_132 rfl (by decide) (fun h132 => ?_) (fun h132 => ?_)
    · first
        | (have hoq : cOpq t n = false := decide_eq_false (by rintro ⟨z1, z2⟩; omega)
           exact J166 hoq (by rw [hz]; unfold mPlR; rw [hoq]; rfl))
        | (have hoq : cOpq t n = false := decide_eq_false (by rintro ⟨z1, z2⟩; exact z2 (of_decide_eq_true h132))
           exact J166 hoq (by rw [hz]; unfold mPlR; rw [hoq]; rfl))
    · have hoq : cOpq t n = true := decide_eq_true ⟨by omega, of_decide_eq_false h132⟩
      refine r_aload_n (q := 136) dX5_parts_135 rfl rfl ?_
      refine r_iload_n (q := 137) dX5_parts_136 rfl rfl ?_
      refine r_ldcS (i := 2) (tx := "#") (q := 139) dX5_parts_137 rfl (List.mem_of_getElem? (i := 67) rfl) ?_
      refine cX5_2 (My := mX5_next) (q := 142) dX5_parts_139 rfl kX5_85 vX5_next (hG _ _ rfl) rfl (p_next hG p1 (by decide) (by omega)) ⟨by decide, by decide⟩ ⟨by decide, by decide⟩ (Nat.le_of_ble_eq_true rfl) ?_
      rw [show nxt (isC t 2) (gCol t n + 1) n = ePart t n (gCol t n + 1) 2 from rfl]
      have h5 := ePart_r t (n := n) (b := gCol t n + 1) 2 (by omega)
      have h4 := mBad_r t (b := gCol t n + 1) (e := ePart t n (gCol t n + 1) 2) (by omega)
      have hzo : mPl t n = mPlO t n (gCol t n + 1) := by rw [hz]; unfold mPlR; rw [if_pos hoq]
      refine r_istore_n (q := 143) dX5_parts_142 rfl (by decide) (Lst.setL rfl rfl) ?_
      refine r_iload_n (q := 144) dX5_parts_143 rfl rfl ?_
      refine r_iload_n (q := 145) dX5_parts_144 rfl rfl ?_
      refine r_icmp_ne (q := 148) (tgt := 150) dX5_parts_145 rfl (by decide) (by first | omega | exact hR _) (by first | omega | exact hR _) (fun h145 => ?_) (fun h145 => ?_)
      · refine r_aload_n (q := 151) dX5_parts_150 rfl rfl ?_
        refine r_iload_n (q := 152) dX5_parts_151 rfl rfl ?_
        refine r_iload_n (q := 153) dX5_parts_152 rfl rfl ?_
        refine cX5_2 (My := mX5_bad) (q := 156) dX5_parts_153 rfl kX5_119 vX5_bad (hG _ _ rfl) rfl (p_bad hG p1 (by omega) (by omega)) ⟨by decide, by decide⟩ ⟨by decide, by decide⟩ (Nat.le_of_ble_eq_true rfl) ?_
        refine r_if_lt (q := 159) (tgt := 317) dX5_parts_156 rfl (by decide) (by first | omega | exact hR _) (fun h156 => ?_) (fun h156 => ?_)
        · have ec : cHash t n = ePart t n (gCol t n + 1) 2 := by unfold cHash; rw [if_pos hoq]
          have e2 : mA2 σ t n = mA1 σ t n := if_pos hoq
          have J := J317 (by rw [hzo]; unfold mPlO; rw [if_neg (by omega), if_neg (by omega), ec])
          rw [ec, e2] at J
          exact J
        · refine r_aload_n (q := 160) dX5_parts_159 rfl rfl ?_
          refine r_iload_n (q := 161) dX5_parts_160 rfl rfl ?_
          refine r_iload_n (q := 162) dX5_parts_161 rfl rfl ?_
          refine cX5_2 (My := mX5_bad) (q := 165) dX5_parts_162 rfl kX5_119 vX5_bad (hG _ _ rfl) rfl (p_bad hG p1 (by omega) (by omega)) ⟨by decide, by decide⟩ ⟨by decide, by decide⟩ (Nat.le_of_ble_eq_true rfl) ?_
          refine r_reti dX5_parts_165 rfl (by decide) (by decide) ?_
          exact QP.no (by rw [hzo]; unfold mPlO; rw [if_neg (by omega), if_pos (by omega)]) (by omega) (Ep.a1 hP)
      · refine r_iload_n (q := 149) dX5_parts_148 rfl rfl ?_
        refine r_reti dX5_parts_149 rfl (by decide) (by decide) ?_
        have e9 : mPl t n = ePart t n (gCol t n + 1) 2 := by rw [hzo]; unfold mPlO; rw [if_pos (by omega)]; omega
        exact QP.no e9 (by omega) (Ep.a1 hP)
set_option maxRecDepth 100000 in
set_option maxHeartbeats 4000000 in
theorem parts_105 (hG : Full γ) (hP : Mp σ t n) : mPlW t n = -1 → RW γ mX5_parts 8 0 0 (QP σ t n xs) nX 0 0 105 [some (.ref (ga γ 8 0)), some (.int (zI (gCol t n + 1))), none, none, none] [] (mClr σ) xs := by
  have hn := hP.n
  have hT := hP.tz
  have hC := hT.gCol
  have hH := hT.cHash
  have hR := hP.r
  have hA := hT.eAut (r := gCol t n + 1) (by omega)
  have p1 := (Ep.a1 hP).mp hP
  have p3 := (Ep.a3 hP).mp hP
  have p4 := (Ep.a4 hP).mp hP
  have p2 := (Ep.a2 hP).mp hP
  have p6 := (Ep.a6 hP).mp hP
  have p7 := (Ep.a7 hP).mp hP
  have p0 := (Ep.clr hP.1).mp hP
  have J119 := parts_119 hG hP (xs := xs)
  intro hw9
  refine r_iload_n (q := 106) dX5_parts_105 rfl rfl ?_
  refine r_if_le (q := 109) (tgt := 119) dX5_parts_106 rfl (by decide) (by omega) (fun h106 => ?_) (fun h106 => ?_)
  · first
      | (have e1 : mA1 σ t n = mClr σ := if_pos (by omega)
         have J := J119 (if_neg (by omega))
         rw [e1] at J
         exact J)
      | (have e1 : mA1 σ t n = mCut (mClr σ) 0 0 (gCol t n) := if_neg (by omega)
         have J := J119 (if_neg (by omega))
         rw [e1] at J
         exact J)
  · refine r_aload_n (q := 110) dX5_parts_109 rfl rfl ?_
    refine r_bipush (q := 112) dX5_parts_110 rfl (bip (by decide) (by decide)) ?_
    refine r_iconst (q := 113) dX5_parts_112 rfl ?_
    refine r_iload_n (q := 114) dX5_parts_113 rfl rfl ?_
    refine r_iconst (q := 115) dX5_parts_114 rfl ?_
    refine r_isub (q := 116) dX5_parts_115 rfl ?_
    rw [show gCol t n + 1 - 1 = gCol t n by omega]
    refine cX5_3v (My := mX5_cut) (q := 119) dX5_parts_116 rfl kX5_113 vX5_cut (hG _ _ rfl) rfl (m_cut hG (k := 0) (by decide) (by decide) (by decide)) ⟨by decide, by decide⟩ ⟨by decide, by decide⟩ (Nat.le_of_ble_eq_true rfl) ?_
    first
      | (have e1 : mA1 σ t n = mClr σ := if_pos (by omega)
         have J := J119 (if_neg (by omega))
         rw [e1] at J
         exact J)
      | (have e1 : mA1 σ t n = mCut (mClr σ) 0 0 (gCol t n) := if_neg (by omega)
         have J := J119 (if_neg (by omega))
         rw [e1] at J
         exact J)
set_option maxRecDepth 100000 in
set_option maxHeartbeats 4000000 in
theorem parts_47 (hG : Full γ) (hP : Mp σ t n) : gCol t n ≠ 0 → RW γ mX5_parts 8 0 0 (QP σ t n xs) nX 0 0 45 [some (.ref (ga γ 8 0)), some (.int (zI (gCol t n + 1))), none, none, none] [] (mClr σ) xs := by
  have hn := hP.n
  have hT := hP.tz
  have hC := hT.gCol
  have hH := hT.cHash
  have hR := hP.r
  have hA := hT.eAut (r := gCol t n + 1) (by omega)
  have p1 := (Ep.a1 hP).mp hP
  have p3 := (Ep.a3 hP).mp hP
  have p4 := (Ep.a4 hP).mp hP
  have p2 := (Ep.a2 hP).mp hP
  have p6 := (Ep.a6 hP).mp hP
  have p7 := (Ep.a7 hP).mp hP
  have p0 := (Ep.clr hP.1).mp hP
  have J105 := parts_105 hG hP (xs := xs)
  intro hc0
  have hW : mSchF t (gCol t n) 0 = mPlW t n := mSch_0 (by omega)
  have loop : ∀ k : Int, k ≤ 100 → 0 ≤ k → k ≤ n → mSchF t (gCol t n) k = mSchF t (gCol t n) 0 → RW γ mX5_parts 8 0 0 (QP σ t n xs) nX 0 0 47 [some (.ref (ga γ 8 0)), some (.int (zI (gCol t n + 1))), some (.int (zI (k))), none, none] [] (mClr σ) xs := by
    refine up (fun k hk9 ih hbk hke hr => ?_)
    have hr0 := hP.r0 k
    refine r_iload_n (q := 48) dX5_parts_47 rfl rfl ?_
    refine r_iload_n (q := 49) dX5_parts_48 rfl rfl ?_
    refine r_iconst (q := 50) dX5_parts_49 rfl ?_
    refine r_isub (q := 51) dX5_parts_50 rfl ?_
    refine r_icmp_ge (q := 54) (tgt := 105) dX5_parts_51 rfl (by decide) (by first | omega | exact hR _) (by first | omega | exact hR _) (fun h51 => ?_) (fun h51 => ?_)
    · refine RW.drop 2 ?_
      exact J105 (by rw [← hW, ← hr, mSchF.eq_def t (gCol t n) k, if_neg (by omega)])
    · refine r_aload_n (q := 55) dX5_parts_54 rfl rfl ?_
      refine g_X5_text (i := 0) (q := 58) dX5_parts_55 rfl fX5_7 (hG _ _ rfl) ?_
      refine r_iload_n (q := 59) dX5_parts_58 rfl rfl ?_
      refine l_mT p0 (q := 60) dX5_parts_59 rfl (hG _ _ rfl) (by omega) ?_
      refine r_istore_n (q := 61) dX5_parts_60 rfl (by decide) (Lst.setL rfl rfl) ?_
      refine r_iload_n (q := 62) dX5_parts_61 rfl rfl ?_
      refine cS_1 (My := mX5_isLetter) (q := 65) dX5_parts_62 rfl kX5_107 vX5_isLetter (m_isLetter (hR _)) ⟨by decide, by decide⟩ ⟨by decide, by decide⟩ (Nat.le_of_ble_eq_true rfl) ?_
      refine r_ifB_ne (q := 68) (tgt := 99) dX5_parts_65 rfl (by decide) (fun h65 => ?_) (fun h65 => ?_)
      · refine r_iinc (q := 102) dX5_parts_99 rfl rfl (by decide) (Lst.setL rfl rfl) ?_
        refine r_goto (q := 47) dX5_parts_102 (by decide) ?_
        have i1 := ix1 (t k)
        have hc : gLet (t k) = true ∨ (k ≠ 0 ∧ (gDig (t k) = true ∨ 0 ≤ ixO (tS 1) (t k))) := by
          first
            | exact Or.inl (by assumption)
            | exact Or.inr ⟨by omega, Or.inl (by assumption)⟩
            | exact Or.inr ⟨by omega, Or.inr (of_decide_eq_true (i1.trans (decide_eq_true (by omega))))⟩
        refine RW.drop 3 ?_
        exact ih (k + 1) (by omega) (by omega) (by omega) (by omega) (by rw [← hr, mSchF.eq_def t (gCol t n) k, if_pos (by omega), if_pos hc])
      · refine r_iload_n (q := 69) dX5_parts_68 rfl rfl ?_
        refine r_if_eq (q := 72) (tgt := 97) dX5_parts_69 rfl (by decide) (by first | omega | exact hR _) (fun h69 => ?_) (fun h69 => ?_)
        · refine r_iload_n (q := 98) dX5_parts_97 rfl rfl ?_
          refine r_reti dX5_parts_98 rfl (by decide) (by decide) ?_
          have i1 := ix1 (t k)
          have hc : ¬ (gLet (t k) = true ∨ (k ≠ 0 ∧ (gDig (t k) = true ∨ 0 ≤ ixO (tS 1) (t k)))) := by
            rintro (z | ⟨z0, z | z⟩)
            · rw [h65] at z; exact absurd z (by decide)
            · first | omega | (rw [h76] at z; exact absurd z (by decide))
            · first | omega | (rw [decide_eq_true z] at i1; have := of_decide_eq_true i1.symm; omega)
          have e9 : mPlW t n = k := by rw [← hW, ← hr, mSchF.eq_def t (gCol t n) k, if_pos (by omega), if_neg hc]
          exact QP.no (by unfold mPl; rw [e9, if_pos (by omega)]) (by omega) (Ep.clr hP.1)
        · refine r_iload_n (q := 73) dX5_parts_72 rfl rfl ?_
          refine cS_1 (My := mX5_isDigit) (q := 76) dX5_parts_73 rfl kX5_110 vX5_isDigit (m_isDigit (hR _)) ⟨by decide, by decide⟩ ⟨by decide, by decide⟩ (Nat.le_of_ble_eq_true rfl) ?_
          refine r_ifB_ne (q := 79) (tgt := 99) dX5_parts_76 rfl (by decide) (fun h76 => ?_) (fun h76 => ?_)
          · refine r_iinc (q := 102) dX5_parts_99 rfl rfl (by decide) (Lst.setL rfl rfl) ?_
            refine r_goto (q := 47) dX5_parts_102 (by decide) ?_
            have i1 := ix1 (t k)
            have hc : gLet (t k) = true ∨ (k ≠ 0 ∧ (gDig (t k) = true ∨ 0 ≤ ixO (tS 1) (t k))) := by
              first
                | exact Or.inl (by assumption)
                | exact Or.inr ⟨by omega, Or.inl (by assumption)⟩
                | exact Or.inr ⟨by omega, Or.inr (of_decide_eq_true (i1.trans (decide_eq_true (by omega))))⟩
            refine RW.drop 3 ?_
            exact ih (k + 1) (by omega) (by omega) (by omega) (by omega) (by rw [← hr, mSchF.eq_def t (gCol t n) k, if_pos (by omega), if_pos hc])
          · refine r_iload_n (q := 80) dX5_parts_79 rfl rfl ?_
            refine r_bipush (q := 82) dX5_parts_80 rfl (bip (by decide) (by decide)) ?_
            refine r_icmp_eq (q := 85) (tgt := 99) dX5_parts_82 rfl (by decide) (by first | omega | exact hR _) (by first | omega | exact hR _) (fun h82 => ?_) (fun h82 => ?_)
            · refine r_iinc (q := 102) dX5_parts_99 rfl rfl (by decide) (Lst.setL rfl rfl) ?_
              refine r_goto (q := 47) dX5_parts_102 (by decide) ?_
              have i1 := ix1 (t k)
              have hc : gLet (t k) = true ∨ (k ≠ 0 ∧ (gDig (t k) = true ∨ 0 ≤ ixO (tS 1) (t k))) := by
                first
                  | exact Or.inl (by assumption)
                  | exact Or.inr ⟨by omega, Or.inl (by assumption)⟩
                  | exact Or.inr ⟨by omega, Or.inr (of_decide_eq_true (i1.trans (decide_eq_true (by omega))))⟩
              refine RW.drop 3 ?_
              exact ih (k + 1) (by omega) (by omega) (by omega) (by omega) (by rw [← hr, mSchF.eq_def t (gCol t n) k, if_pos (by omega), if_pos hc])
            · refine r_iload_n (q := 86) dX5_parts_85 rfl rfl ?_
              refine r_bipush (q := 88) dX5_parts_86 rfl (bip (by decide) (by decide)) ?_
              refine r_icmp_eq (q := 91) (tgt := 99) dX5_parts_88 rfl (by decide) (by first | omega | exact hR _) (by first | omega | exact hR _) (fun h88 => ?_) (fun h88 => ?_)
              · refine r_iinc (q := 102) dX5_parts_99 rfl rfl (by decide) (Lst.setL rfl rfl) ?_
                refine r_goto (q := 47) dX5_parts_102 (by decide) ?_
                have i1 := ix1 (t k)
                have hc : gLet (t k) = true ∨ (k ≠ 0 ∧ (gDig (t k) = true ∨ 0 ≤ ixO (tS 1) (t k))) := by
                  first
                    | exact Or.inl (by assumption)
                    | exact Or.inr ⟨by omega, Or.inl (by assumption)⟩
                    | exact Or.inr ⟨by omega, Or.inr (of_decide_eq_true (i1.trans (decide_eq_true (by omega))))⟩
                refine RW.drop 3 ?_
                exact ih (k + 1) (by omega) (by omega) (by omega) (by omega) (by rw [← hr, mSchF.eq_def t (gCol t n) k, if_pos (by omega), if_pos hc])
              · refine r_iload_n (q := 92) dX5_parts_91 rfl rfl ?_
                refine r_bipush (q := 94) dX5_parts_92 rfl (bip (by decide) (by decide)) ?_
                refine r_icmp_eq (q := 97) (tgt := 99) dX5_parts_94 rfl (by decide) (by first | omega | exact hR _) (by first | omega | exact hR _) (fun h94 => ?_) (fun h94 => ?_)
                · refine r_iinc (q := 102) dX5_parts_99 rfl rfl (by decide) (Lst.setL rfl rfl) ?_
                  refine r_goto (q := 47) dX5_parts_102 (by decide) ?_
                  have i1 := ix1 (t k)
                  have hc : gLet (t k) = true ∨ (k ≠ 0 ∧ (gDig (t k) = true ∨ 0 ≤ ixO (tS 1) (t k))) := by
                    first
                      | exact Or.inl (by assumption)
                      | exact Or.inr ⟨by omega, Or.inl (by assumption)⟩
                      | exact Or.inr ⟨by omega, Or.inr (of_decide_eq_true (i1.trans (decide_eq_true (by omega))))⟩
                  refine RW.drop 3 ?_
                  exact ih (k + 1) (by omega) (by omega) (by omega) (by omega) (by rw [← hr, mSchF.eq_def t (gCol t n) k, if_pos (by omega), if_pos hc])
                · refine r_iload_n (q := 98) dX5_parts_97 rfl rfl ?_
                  refine r_reti dX5_parts_98 rfl (by decide) (by decide) ?_
                  have i1 := ix1 (t k)
                  have hc : ¬ (gLet (t k) = true ∨ (k ≠ 0 ∧ (gDig (t k) = true ∨ 0 ≤ ixO (tS 1) (t k)))) := by
                    rintro (z | ⟨z0, z | z⟩)
                    · rw [h65] at z; exact absurd z (by decide)
                    · first | omega | (rw [h76] at z; exact absurd z (by decide))
                    · first | omega | (rw [decide_eq_true z] at i1; have := of_decide_eq_true i1.symm; omega)
                  have e9 : mPlW t n = k := by rw [← hW, ← hr, mSchF.eq_def t (gCol t n) k, if_pos (by omega), if_neg hc]
                  exact QP.no (by unfold mPl; rw [e9, if_pos (by omega)]) (by omega) (Ep.clr hP.1)
  refine r_iconst (q := 46) dX5_parts_45 rfl ?_
  refine r_istore_n (q := 47) dX5_parts_46 rfl (by decide) (Lst.setL rfl rfl) ?_
  exact loop 0 (by omega) (by omega) (by omega) rfl
set_option maxRecDepth 100000 in
set_option maxHeartbeats 4000000 in
theorem parts_28 (hG : Full γ) (hP : Mp σ t n) : RW γ mX5_parts 8 0 0 (QP σ t n xs) nX 0 0 28 [some (.ref (ga γ 8 0)), none, none, none, none] [] (mClrK σ 9) xs := by
  have hn := hP.n
  have hT := hP.tz
  have hC := hT.gCol
  have hH := hT.cHash
  have hR := hP.r
  have hA := hT.eAut (r := gCol t n + 1) (by omega)
  have p1 := (Ep.a1 hP).mp hP
  have p3 := (Ep.a3 hP).mp hP
  have p4 := (Ep.a4 hP).mp hP
  have p2 := (Ep.a2 hP).mp hP
  have p6 := (Ep.a6 hP).mp hP
  have p7 := (Ep.a7 hP).mp hP
  have p0 := (Ep.clr hP.1).mp hP
  have J47 := parts_47 hG hP (xs := xs)
  refine r_aload_n (q := 29) dX5_parts_28 rfl rfl ?_
  refine r_iconst (q := 30) dX5_parts_29 rfl ?_
  refine p_X5_port (i := 0) (q := 33) dX5_parts_30 rfl fX5_104 (hG _ _ rfl) ?_
  refine RW.cast (clrK_9 σ) rfl ?_
  refine r_aload_n (q := 34) dX5_parts_33 rfl rfl ?_
  refine cX5_0 (My := mX5_rest) (q := 37) dX5_parts_34 rfl kX5_92 vX5_rest (hG _ _ rfl) rfl (p_rest hG p0) ⟨by decide, by decide⟩ ⟨by decide, by decide⟩ (Nat.le_of_ble_eq_true rfl) ?_
  refine r_istore_n (q := 38) dX5_parts_37 rfl (by decide) (Lst.setL rfl rfl) ?_
  refine r_iload_n (q := 39) dX5_parts_38 rfl rfl ?_
  refine r_iconst (q := 40) dX5_parts_39 rfl ?_
  refine r_icmp_ne (q := 43) (tgt := 45) dX5_parts_40 rfl (by decide) (by omega) (by omega) (fun h40 => ?_) (fun h40 => ?_)
  · exact J47 (by omega)
  · refine r_iconst (q := 44) dX5_parts_43 rfl ?_
    refine r_reti dX5_parts_44 rfl (by decide) (by decide) ?_
    have hg0 : gCol t n = 0 := by omega
    have e9 : mPlW t n = 0 := by unfold mPlW; rw [hg0, if_neg (by decide)]; unfold gWr; rw [if_pos (Or.inl rfl)]
    exact QP.no (by unfold mPl; rw [e9, if_pos (by decide)]) (by decide) (Ep.clr hP.1)
set_option maxRecDepth 100000 in
set_option maxHeartbeats 4000000 in
theorem m_parts (hG : Full γ) (hP : Mp σ t n) : Ev γ mX5_parts 8 0 0 [.ref (ga γ 8 0)] σ xs (QP σ t n xs) nX := by
  refine Ev.of1 4 [some (.ref (ga γ 8 0)), none, none, none, none] rfl pn_X5_parts rfl (Nat.le_of_ble_eq_true rfl) ?_
  have J28 := parts_28 hG hP (xs := xs)
  have loop : ∀ k : Int, k ≤ 9 → 0 ≤ k → RW γ mX5_parts 8 0 0 (QP σ t n xs) nX 0 0 2 [some (.ref (ga γ 8 0)), some (.int (zI (k))), none, none, none] [] (mClrK σ k) xs := by
    refine up (fun k hk9 ih h0 => ?_)
    refine r_iload_n (q := 3) dX5_parts_2 rfl rfl ?_
    refine r_bipush (q := 5) dX5_parts_3 rfl (bip (by decide) (by decide)) ?_
    refine r_icmp_ge (q := 8) (tgt := 28) dX5_parts_5 rfl (by decide) (by omega) (by omega) (fun h5 => ?_) (fun h5 => ?_)
    · have ek : k = 9 := by omega
      rw [ek]
      refine RW.drop 1 ?_
      exact J28
    · refine r_aload_n (q := 9) dX5_parts_8 rfl rfl ?_
      refine g_X5_begin (i := 0) (q := 12) dX5_parts_9 rfl fX5_31 (hG _ _ rfl) ?_
      refine r_iload_n (q := 13) dX5_parts_12 rfl rfl ?_
      refine r_iconst (q := 14) dX5_parts_13 rfl ?_
      refine s_mbe (i := 0) (q := 15) dX5_parts_14 rfl (hG _ _ rfl) (by omega) ?_
      refine r_aload_n (q := 16) dX5_parts_15 rfl rfl ?_
      refine g_X5_end (i := 0) (q := 19) dX5_parts_16 rfl fX5_34 (hG _ _ rfl) ?_
      refine r_iload_n (q := 20) dX5_parts_19 rfl rfl ?_
      refine r_iconst (q := 21) dX5_parts_20 rfl ?_
      refine s_men (i := 0) (q := 22) dX5_parts_21 rfl (hG _ _ rfl) (by omega) ?_
      refine r_iinc (q := 25) dX5_parts_22 rfl rfl (by decide) (Lst.setL rfl rfl) ?_
      refine r_goto (q := 2) dX5_parts_25 (by decide) ?_
      refine RW.cast (clrK_s σ h0) rfl ?_
      exact ih (k + 1) (by omega) (by omega) (by omega)
  refine r_iconst (q := 1) dX5_parts_0 rfl ?_
  refine r_istore_n (q := 2) dX5_parts_1 rfl (by decide) (Lst.setL rfl rfl) ?_
  refine RW.cast (clrK_0 σ).symm rfl ?_
  exact loop 0 (by omega) (by omega)
end X5
