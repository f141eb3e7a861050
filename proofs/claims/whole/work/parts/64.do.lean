/-! THE LAW: each call, from a related state to a related state -/
def NX (γ : Gm) (b Ln : Nat) (X : Nat → Int32) (Q : List Frame → Array Value → State → State → Prop) (c1 n1 : Nat) (i : Int) (σ : St) (xs : va_W) : Prop := ∀ s : St, Inv s → rc s ≤ rc σ + 1 → GW γ mLaw room_1 (ZL γ b Ln X) Q (c1 + 20) (n1 + 60) 1485 (LL γ b i none none) [] s xs
theorem NX.same {γ : Gm} {b Ln : Nat} {X : Nat → Int32} {Q : List Frame → Array Value → State → State → Prop} {c1 n1 : Nat} {i : Int} {σ : St} {xs : va_W} (h : NX γ b Ln X Q c1 n1 i σ xs) {s : St} (hI : Inv s) (hr : rc s = rc σ) : GW γ mLaw room_1 (ZL γ b Ln X) Q (c1 + 20) (n1 + 60) 1485 (LL γ b i none none) [] s xs := h s hI (by omega)
theorem put_co {s : St} {f : Nat → Int} {b e : Int} (hb : 0 ≤ b ∧ b ≤ e) (hH : Hx f b e) (hz : 0 ≤ msz s) : mcd (mPut s f b e) = mcd s ∧ ov (mPut s f b e) = ov s := by
  obtain ⟨-, q2, -, -, -, -, -, -, -, -, -, -, q13⟩ := (mPut_f (f := f) (e := e) b hb.2 hb.1 s hH.wr hz).1
  exact ⟨q13, q2⟩
theorem rc1 {a b : St} (h : b.1 = a.1) : rc b = rc a := (cl h).2.2.2.2.2.2.2.2.2.1
theorem Mw.ovd {σ a : St} (h : Mw σ) (h2 : a.2 = σ.2) (w : Int) : Mw (sOv a w) := (md (a := sOv a w) (σ := σ) (by show a.2.1 = σ.2.1; rw [h2])).1 h
theorem ov_f {σ a : St} (h2 : a.2 = σ.2) (w : Int) : msz (sOv a w) = msz σ ∧ mpm (sOv a w) = mpm σ ∧ mT (sOv a w) = mT σ ∧ mrf (sOv a w) = mrf σ ∧ Sq σ (sOv a w) ∧ Sq σ (sMcd (sOv a w) 0) := by
  obtain ⟨-, -, m3, m4, m5, m6, m7, m8, m9⟩ := md (a := sOv a w) (σ := σ) (by show a.2.1 = σ.2.1; rw [h2])
  exact ⟨m5, m9, m4, m6, ⟨m3.2.1, m3.2.2.1, m3.2.2.2.1, m3.1⟩, ⟨m3.2.1, m3.2.2.1, m3.2.2.2.1, m3.1⟩⟩
theorem zI_w (x : Int) : zI x = zI (zI x).toInt := (zI_of (zI x)).symm
theorem zI_wr (x : Int) : -2147483648 ≤ (zI x).toInt ∧ (zI x).toInt ≤ 2147483647 := by
  have h1 := Int32.toInt_lt (zI x)
  have h2 := Int32.le_toInt (zI x)
  omega
theorem mSmF_cd (σ : St) (v : Int) (j : Int) : ∀ k : Int, k ≤ 9 → ∀ x : Int, mSmF (sMcd σ v) j x k = mSmF σ j x k := by
  refine up (fun k hk ih x => ?_)
  rw [mSmF.eq_def, mSmF.eq_def σ]
  have e : mMany (sMcd σ v) j k = mMany σ j k := rfl
  have e2 : mpo (sMcd σ v) = mpo σ := rfl
  rw [e, e2]
  by_cases h : k < 9
  · rw [if_pos h, if_pos h, ih (k + 1) (by omega) (by omega)]
  · rw [if_neg h, if_neg h]
theorem mCkA_cd (σ : St) (v : Int) : ∀ k : Int, k ≤ 4 → ∀ x : Int, mCkA (sMcd σ v) x k = mCkA σ x k := by
  refine up (fun k hk ih x => ?_)
  rw [mCkA.eq_def, mCkA.eq_def σ]
  have e : mSum (sMcd σ v) k x = mSum σ k x := by
    unfold mSum
    rw [mSmF_cd σ v k 0 (by omega)]
    rfl
  rw [e]
  by_cases h : k < 4
  · rw [if_pos h, if_pos h, ih (k + 1) (by omega) (by omega)]
  · rw [if_neg h, if_neg h]
theorem mCk_cd (σ : St) (v : Int) : mCk (sMcd σ v) = mCk σ := by
  unfold mCk
  rw [mCkA_cd σ v 0 (by omega)]
  rfl
theorem mAlkF_c {a s : St} (h : Sq a s) (i j k : Int) : ∀ p : Int, p ≤ mMany a i k → mAlkF s i j k p = mAlkF a i j k p := by
  obtain ⟨e1, e2, -, -⟩ := h.many i k
  obtain ⟨-, e3, -, -⟩ := h.many j k
  refine up (fun p hp ih => ?_)
  rw [mAlkF.eq_def, mAlkF.eq_def a, e1, e2, e3, h.1]
  by_cases hq : p < mMany a i k
  · rw [if_pos hq, if_pos hq, ih (p + 1) (by omega) (by omega)]
  · rw [if_neg hq, if_neg hq]
theorem mAlk_c {a s : St} (h : Sq a s) (i j k : Int) : mAlk s i j k = mAlk a i j k := by
  unfold mAlk
  rw [(h.many i k).1, (h.many j k).1]
  have e : mAlkF s i j k 0 = mAlkF a i j k 0 := by
    by_cases h0 : 0 ≤ mMany a i k
    · exact mAlkF_c h i j k 0 h0
    · rw [mAlkF.eq_def, mAlkF.eq_def a, (h.many i k).1, if_neg (by omega), if_neg (by omega)]
  rw [e]
theorem mAlsF_c {a s : St} (h : Sq a s) (i j : Int) : ∀ k : Int, k ≤ 9 → ∀ x : Int, mAlsF s i j x k = mAlsF a i j x k := by
  refine up (fun k hk ih x => ?_)
  rw [mAlsF.eq_def, mAlsF.eq_def a, mAlk_c h]
  by_cases hq : k < 9
  · rw [if_pos hq, if_pos hq, ih (k + 1) (by omega) (by omega)]
  · rw [if_neg hq, if_neg hq]
theorem ix55 (c : Int) : mIs c = decide (0 ≤ ixO (tS 55) c) := by
  have e : tS 55 = [115, 97, 112, 113, 102] := rfl
  unfold mIs
  rw [e]
  unfold ixO
  simp only [ixF]
  apply decide_eq_decide.mpr
  repeat' split
  all_goals omega
theorem mIs_sw {c : Int} (h : mIs c = true) : (∀ k : Nat, k < 8 → ((tS 51).getD k 0 = c ↔ (k : Int) = ixO (tS 51) c)) ∧ ixO (tS 51) c ≠ 1 := by
  have h : c = 115 ∨ c = 97 ∨ c = 112 ∨ c = 113 ∨ c = 102 := of_decide_eq_true h
  rcases h with rfl | rfl | rfl | rfl | rfl
  · exact ⟨by decide +kernel, by decide +kernel⟩
  · exact ⟨by decide +kernel, by decide +kernel⟩
  · exact ⟨by decide +kernel, by decide +kernel⟩
  · exact ⟨by decide +kernel, by decide +kernel⟩
  · exact ⟨by decide +kernel, by decide +kernel⟩
section DO
variable {γ : Gm} {b Ln : Nat} {X : Nat → Int32} {Q : List Frame → Array Value → State → State → Prop} {c1 n1 : Nat} {i : Int} {σ : St} {xs : va_W}
theorem do_type (hG : Full γ) (hi : 0 ≤ i ∧ i + 4 ≤ Ln ∧ Ln ≤ 2048) (hc : c1 + 20 ≤ 601024 ∧ n1 + 60 ≤ 7293034) (hI : Inv σ) (hr9 : rc σ ≤ 1000) (nx : NX γ b Ln X Q c1 n1 i σ xs) : GW γ mLaw room_1 (ZL γ b Ln X) Q c1 n1 152 (LL γ b i none none) [] σ xs := by
  have hW := hI.1
  have h9 := hI.2.1
  have hM := hI.2.2.1
  have hT := hI.2.2.2.1
  have hn := hT.1
  have hz := hM.sz
  have hp := hT.2.2.le
  have hpm := hM.pm
  have hrf := hM.rf
  have hrm := hI.2.2.2.2.2.1
  have hrc : 0 ≤ rc σ ∧ rc σ ≤ 2147483647 := by omega
  have hA1 := sx_r X i 1
  have hA2 := sx_r X i 2
  have hA3 := sx_r X i 3
  generalize hc0 : sx X i 1 % 65536 = c
  have hc9 : 0 ≤ c ∧ c < 65536 := by omega
  have cs := cs_type (γ := γ) (b := b) (Ln := Ln) (X := X) (Q := Q) (c1 := c1) (n1 := n1) (i := i) (σ := σ) (xs := xs)
  rw [hc0] at cs
  cases h : okTy c
  · exact cs hG hi hc (by decide) (by decide) (r := 1) (w := 0) (by decide) (by decide) (hl_type_A hG (x4_type_b1 hG hW hc9 h)) (QM.of (m_type_1 hG hM hc9 h)) (fun s hs => by subst hs; rfl) (fun z => absurd z (by decide)) (fun s hs => by subst hs; exact nx.same (hI.cd 1) rfl)
  · by_cases h60 : cnt σ 5 + 1 ≤ 60
    · have h37 : c ≠ 37 := by have z := of_decide_eq_true ((okTy_e c).symm.trans h); omega
      have hS := Same.put σ 5 c
      obtain ⟨q1, q2, q3⟩ := hI.type hc9 h37 h60 (cnt σ 5 + 1)
      obtain ⟨f1, f2, -⟩ := ov_f hS.2.2.2.2.2.2.2 (cnt σ 5 + 1)
      have m := m_type_0 (xs := xs) hG (hM.ovd hS.2.2.2.2.2.2.2 (cnt σ 5 + 1)) hc9 h (by omega) (by omega)
      rw [q2] at m
      obtain ⟨g1, g2⟩ := put_co (s := sMcd (sOv (pPut σ 5 c) (cnt σ 5 + 1)) 0) (f := one c) (b := 0) (e := 1) (by decide) (Hx.one' h37) (by have e : msz (sMcd (sOv (pPut σ 5 c) (cnt σ 5 + 1)) 0) = msz σ := f1; omega)
      exact cs hG hi hc (by decide) (by decide) (r := 0) (w := cnt σ 5 + 1) (by decide) (by omega) (hl_type hG (by omega) (x4_type hG hW hc9 h h60)) (QM.of m) (fun s hs => by subst hs; exact g1) (fun _ s hs => by subst hs; exact g2) (fun s hs => by subst hs; exact nx.same q1 ((rc1 q3).trans hS.2.2.2.2.2.1))
    · exact cs hG hi hc (by decide) (by decide) (r := 2) (w := 0) (by decide) (by decide) (hl_type_S hG (x4_type_b2 hG hW hc9 h (by omega))) (QM.of (m_type_2 hG hM hc9 h (by omega))) (fun s hs => by subst hs; rfl) (fun z => absurd z (by decide)) (fun s hs => by subst hs; exact nx.same (hI.cd 2) rfl)
theorem do_escape (hG : Full γ) (hi : 0 ≤ i ∧ i + 4 ≤ Ln ∧ Ln ≤ 2048) (hc : c1 + 20 ≤ 601024 ∧ n1 + 60 ≤ 7293034) (hI : Inv σ) (hr9 : rc σ ≤ 1000) (nx : NX γ b Ln X Q c1 n1 i σ xs) : GW γ mLaw room_1 (ZL γ b Ln X) Q c1 n1 210 (LL γ b i none none) [] σ xs := by
  have hW := hI.1
  have h9 := hI.2.1
  have hM := hI.2.2.1
  have hT := hI.2.2.2.1
  have hn := hT.1
  have hz := hM.sz
  have hp := hT.2.2.le
  have hpm := hM.pm
  have hrf := hM.rf
  have hrm := hI.2.2.2.2.2.1
  have hrc : 0 ≤ rc σ ∧ rc σ ≤ 2147483647 := by omega
  have hA1 := sx_r X i 1
  have hA2 := sx_r X i 2
  have hA3 := sx_r X i 3
  by_cases hv : 0 ≤ sx X i 1 ∧ sx X i 1 ≤ 255
  · by_cases h60 : cnt σ 5 + 3 ≤ 60
    · obtain ⟨hS, -, -, -, a5⟩ := esc_at hW hv (decide (sx X i 2 ≠ 0)) h60
      obtain ⟨q1, q2, q3⟩ := hI.escp hv (decide (sx X i 2 ≠ 0)) h60 (cnt (pEsc σ (sx X i 1) (decide (sx X i 2 ≠ 0))) 5)
      obtain ⟨f1, f2, -⟩ := ov_f hS.2.2.2.2.2.2.2 (cnt (pEsc σ (sx X i 1) (decide (sx X i 2 ≠ 0))) 5)
      have m := m_escape_0 (xs := xs) hG (hM.ovd hS.2.2.2.2.2.2.2 (cnt (pEsc σ (sx X i 1) (decide (sx X i 2 ≠ 0))) 5)) (s := decide (sx X i 2 ≠ 0)) hv (by omega) (by omega)
      rw [q2] at m
      obtain ⟨g1, g2⟩ := put_co (s := sMcd (sOv (pEsc σ (sx X i 1) (decide (sx X i 2 ≠ 0))) (cnt (pEsc σ (sx X i 1) (decide (sx X i 2 ≠ 0))) 5)) 0) (f := esc (sx X i 1) (decide (sx X i 2 ≠ 0))) (b := 0) (e := 3) (by decide) (Hx.escx hv _) (by have e : msz (sMcd (sOv (pEsc σ (sx X i 1) (decide (sx X i 2 ≠ 0))) (cnt (pEsc σ (sx X i 1) (decide (sx X i 2 ≠ 0))) 5)) 0) = msz σ := f1; omega)
      exact cs_escape hG hi hc (by decide) (by decide) (r := 0) (w := cnt (pEsc σ (sx X i 1) (decide (sx X i 2 ≠ 0))) 5) (by decide) (by omega) (hl_escape hG (by omega) (x4_escape hG hW hv h60)) (QM.of m) (fun s hs => by subst hs; exact g1) (fun _ s hs => by subst hs; exact g2) (fun s hs => by subst hs; exact nx.same q1 ((rc1 q3).trans hS.2.2.2.2.2.1))
    · exact cs_escape hG hi hc (by decide) (by decide) (r := 2) (w := 0) (by decide) (by decide) (hl_escape_S hG (x4_escape_b2 hG hW hv (by omega))) (QM.of (m_escape_2 hG hM hv (by omega))) (fun s hs => by subst hs; rfl) (fun z => absurd z (by decide)) (fun s hs => by subst hs; exact nx.same (hI.cd 2) rfl)
  · exact cs_escape hG hi hc (by decide) (by decide) (r := 1) (w := 0) (by decide) (by decide) (hl_escape_A hG (x4_escape_b1 hG hW hA1 (by omega))) (QM.of (m_escape_1 hG hM hA1 hv)) (fun s hs => by subst hs; rfl) (fun z => absurd z (by decide)) (fun s hs => by subst hs; exact nx.same (hI.cd 1) rfl)
theorem do_word (hG : Full γ) (hi : 0 ≤ i ∧ i + 4 ≤ Ln ∧ Ln ≤ 2048) (hc : c1 + 20 ≤ 601024 ∧ n1 + 60 ≤ 7293034) (hI : Inv σ) (hr9 : rc σ ≤ 1000) (nx : NX γ b Ln X Q c1 n1 i σ xs) : GW γ mLaw room_1 (ZL γ b Ln X) Q c1 n1 294 (LL γ b i none none) [] σ xs := by
  have hW := hI.1
  have h9 := hI.2.1
  have hM := hI.2.2.1
  have hT := hI.2.2.2.1
  have hn := hT.1
  have hz := hM.sz
  have hp := hT.2.2.le
  have hpm := hM.pm
  have hrf := hM.rf
  have hrm := hI.2.2.2.2.2.1
  have hrc : 0 ≤ rc σ ∧ rc σ ≤ 2147483647 := by omega
  have hA1 := sx_r X i 1
  have hA2 := sx_r X i 2
  have hA3 := sx_r X i 3
  by_cases hk : 0 ≤ sx X i 1 ∧ sx X i 1 < 32
  · have e : (((sx X i 1).toNat : Nat) : Int) = sx X i 1 := Int.toNat_of_nonneg hk.1
    have eL : wL (sx X i 1).toNat = ((tS (wIx (sx X i 1))).length : Int) := by unfold wL; rw [e]
    by_cases h60 : cnt σ 5 + (tS (wIx (sx X i 1))).length ≤ 60
    · have hS := Same.putS 5 (tS (wIx (sx X i 1))) σ
      have a5 := (putS_at (i := 5) (tS (wIx (sx X i 1))) (tS_in (wIx_ok (sx X i 1)).1) σ hW (by omega)).2
      have q := hI.word (q := (sx X i 1).toNat) (by omega) (by rw [e]; exact h60) (cnt (pPutS σ 5 (tS (wIx (sx X i 1)))) 5)
      rw [e] at q
      obtain ⟨q1, q2, q3⟩ := q
      obtain ⟨f1, f2, -⟩ := ov_f hS.2.2.2.2.2.2.2 (cnt (pPutS σ 5 (tS (wIx (sx X i 1)))) 5)
      have m := m_word_0 (xs := xs) hG (hM.ovd hS.2.2.2.2.2.2.2 (cnt (pPutS σ 5 (tS (wIx (sx X i 1)))) 5)) (k := sx X i 1) (by omega) (by omega) (by omega)
      rw [q2] at m
      obtain ⟨g1, g2⟩ := put_co (s := sMcd (sOv (pPutS σ 5 (tS (wIx (sx X i 1)))) (cnt (pPutS σ 5 (tS (wIx (sx X i 1)))) 5)) 0) (f := wF (sx X i 1).toNat) (b := 0) (e := wL (sx X i 1).toNat) (by omega) (Hx.word (by omega)) (by have e : msz (sMcd (sOv (pPutS σ 5 (tS (wIx (sx X i 1)))) (cnt (pPutS σ 5 (tS (wIx (sx X i 1)))) 5)) 0) = msz σ := f1; omega)
      exact cs_word hG hi hc (by decide) (by decide) (r := 0) (w := cnt (pPutS σ 5 (tS (wIx (sx X i 1)))) 5) (by decide) (by omega) (hl_word hG (by omega) (x4_word hG hW hk h60)) (QM.of m) (fun s hs => by subst hs; exact g1) (fun _ s hs => by subst hs; exact g2) (fun s hs => by subst hs; exact nx.same q1 ((rc1 q3).trans hS.2.2.2.2.2.1))
    · exact cs_word hG hi hc (by decide) (by decide) (r := 2) (w := 0) (by decide) (by decide) (hl_word_S hG (x4_word_b2 hG hW hk (by omega))) (QM.of (m_word_2 hG hM (k := sx X i 1) (by omega) (by omega))) (fun s hs => by subst hs; rfl) (fun z => absurd z (by decide)) (fun s hs => by subst hs; exact nx.same (hI.cd 2) rfl)
  · exact cs_word hG hi hc (by decide) (by decide) (r := 1) (w := 0) (by decide) (by decide) (hl_word_I hG (x4_word_b1 hG hW hA1 (by omega))) (QM.of (m_word_1 hG hM hA1 (by omega))) (fun s hs => by subst hs; rfl) (fun z => absurd z (by decide)) (fun s hs => by subst hs; exact nx.same (hI.cd 1) rfl)
theorem do_drop (hG : Full γ) (hi : 0 ≤ i ∧ i + 4 ≤ Ln ∧ Ln ≤ 2048) (hc : c1 + 20 ≤ 601024 ∧ n1 + 60 ≤ 7293034) (hI : Inv σ) (hr9 : rc σ ≤ 1000) (nx : NX γ b Ln X Q c1 n1 i σ xs) : GW γ mLaw room_1 (ZL γ b Ln X) Q c1 n1 350 (LL γ b i none none) [] σ xs := by
  have hW := hI.1
  have h9 := hI.2.1
  have hM := hI.2.2.1
  have hT := hI.2.2.2.1
  have hn := hT.1
  have hz := hM.sz
  have hp := hT.2.2.le
  have hpm := hM.pm
  have hrf := hM.rf
  have hrm := hI.2.2.2.2.2.1
  have hrc : 0 ≤ rc σ ∧ rc σ ≤ 2147483647 := by omega
  have hA1 := sx_r X i 1
  have hA2 := sx_r X i 2
  have hA3 := sx_r X i 3
  by_cases h0 : cnt σ 5 = 0
  · exact cs_drop hG hi hc (by decide) (by decide) (r := 1) (w := 0) (by decide) (by decide) (hl_drop_N hG (x4_drop_b hG hW h0)) (QM.of (m_drop_1 hG hM (by omega))) (fun s hs => by subst hs; rfl) (fun z => absurd z (by decide)) (fun s hs => by subst hs; exact nx.same (hI.cd 1) rfl)
  · have hS := Same.short σ 5 (dropN σ)
    obtain ⟨q1, q2, q3⟩ := hI.drop h0 (cnt (pShort σ 5 (dropN σ)) 5)
    have hr := (Wk_short hW 5 (dropN σ)).1 5
    have m := m_drop_0 (xs := xs) hG (hM.ovd hS.2.2.2.2.2.2.2 (cnt (pShort σ 5 (dropN σ)) 5)) q1
    rw [q3] at m
    rw [q3] at q2
    exact cs_drop hG hi hc (by decide) (by decide) (r := 0) (w := cnt (pShort σ 5 (dropN σ)) 5) (by decide) (by omega) (hl_drop hG (by omega) (x4_drop hG hW h0)) (QM.of m) (fun s hs => by subst hs; rfl) (fun _ s hs => by subst hs; rfl) (fun s hs => by subst hs; exact nx.same q2 hS.2.2.2.2.2.1)
theorem do_wipe (hG : Full γ) (hi : 0 ≤ i ∧ i + 4 ≤ Ln ∧ Ln ≤ 2048) (hc : c1 + 20 ≤ 601024 ∧ n1 + 60 ≤ 7293034) (hI : Inv σ) (hr9 : rc σ ≤ 1000) (nx : NX γ b Ln X Q c1 n1 i σ xs) : GW γ mLaw room_1 (ZL γ b Ln X) Q c1 n1 394 (LL γ b i none none) [] σ xs := by
  have hW := hI.1
  have h9 := hI.2.1
  have hM := hI.2.2.1
  have hT := hI.2.2.2.1
  have hn := hT.1
  have hz := hM.sz
  have hp := hT.2.2.le
  have hpm := hM.pm
  have hrf := hM.rf
  have hrm := hI.2.2.2.2.2.1
  have hrc : 0 ≤ rc σ ∧ rc σ ≤ 2147483647 := by omega
  have hA1 := sx_r X i 1
  have hA2 := sx_r X i 2
  have hA3 := sx_r X i 3
  obtain ⟨q1, q2⟩ := hI.wipe
  have m := m_wipe (xs := xs) (σ := pShort σ 5 0) hG
  rw [q2] at m
  exact cs_wipe hG hi hc (by decide) (by decide) (w := cnt σ 5) (by omega) (x4_wipe hG hW) (QM.of m) (fun s hs => by subst hs; exact nx.same q1 (Same.short σ 5 0).2.2.2.2.2.1)
theorem do_length (hG : Full γ) (hi : 0 ≤ i ∧ i + 4 ≤ Ln ∧ Ln ≤ 2048) (hc : c1 + 20 ≤ 601024 ∧ n1 + 60 ≤ 7293034) (hI : Inv σ) (hr9 : rc σ ≤ 1000) (nx : NX γ b Ln X Q c1 n1 i σ xs) : GW γ mLaw room_1 (ZL γ b Ln X) Q c1 n1 407 (LL γ b i none none) [] σ xs := by
  have hW := hI.1
  have h9 := hI.2.1
  have hM := hI.2.2.1
  have hT := hI.2.2.2.1
  have hn := hT.1
  have hz := hM.sz
  have hp := hT.2.2.le
  have hpm := hM.pm
  have hrf := hM.rf
  have hrm := hI.2.2.2.2.2.1
  have hrc : 0 ≤ rc σ ∧ rc σ ≤ 2147483647 := by omega
  have hA1 := sx_r X i 1
  have hA2 := sx_r X i 2
  have hA3 := sx_r X i 3
  have m := m_length (xs := xs) (σ := σ) hG
  rw [← hn] at m
  exact cs_length hG hi hc (by decide) (by decide) (w := cnt σ 5) (by omega) (x4_length hG) (QM.of m) (fun s hs => by subst hs; exact nx.same (hI.cd 0) rfl)
theorem do_signAt (hG : Full γ) (hi : 0 ≤ i ∧ i + 4 ≤ Ln ∧ Ln ≤ 2048) (hc : c1 + 20 ≤ 601024 ∧ n1 + 60 ≤ 7293034) (hI : Inv σ) (hr9 : rc σ ≤ 1000) (nx : NX γ b Ln X Q c1 n1 i σ xs) : GW γ mLaw room_1 (ZL γ b Ln X) Q c1 n1 420 (LL γ b i none none) [] σ xs := by
  have hW := hI.1
  have h9 := hI.2.1
  have hM := hI.2.2.1
  have hT := hI.2.2.2.1
  have hn := hT.1
  have hz := hM.sz
  have hp := hT.2.2.le
  have hpm := hM.pm
  have hrf := hM.rf
  have hrm := hI.2.2.2.2.2.1
  have hrc : 0 ≤ rc σ ∧ rc σ ≤ 2147483647 := by omega
  have hA1 := sx_r X i 1
  have hA2 := sx_r X i 2
  have hA3 := sx_r X i 3
  by_cases hk : 0 ≤ sx X i 1 ∧ sx X i 1 < cnt σ 5
  · have m := m_signAt_0 (xs := xs) hG (hM.ovd (a := σ) rfl (pAt σ 5 (sx X i 1))) (p := sx X i 1) hA1 (by show 0 ≤ sx X i 1 ∧ sx X i 1 < msz σ; omega)
    have e : mT (sOv σ (pAt σ 5 (sx X i 1))) (sx X i 1) = pAt σ 5 (sx X i 1) := (congrFun hT.2.1 (sx X i 1)).symm
    rw [e] at m
    exact cs_signAt hG hi hc (by decide) (by decide) (r := 0) (w := pAt σ 5 (sx X i 1)) (by decide) (pAt_r σ 5 _) (hl_signAt hG (pAt_r σ 5 _) (x4_signAt hG hW hk)) (QM.of m) (fun s hs => by subst hs; rfl) (fun _ s hs => by subst hs; rfl) (fun s hs => by subst hs; exact nx.same ((hI.ov _).cd 0) rfl)
  · exact cs_signAt hG hi hc (by decide) (by decide) (r := 1) (w := 0) (by decide) (by decide) (hl_signAt_I hG (x4_signAt_b hG hW hA1 (by omega))) (QM.of (m_signAt_1 hG hM hA1 (by omega))) (fun s hs => by subst hs; rfl) (fun z => absurd z (by decide)) (fun s hs => by subst hs; exact nx.same (hI.cd 1) rfl)
theorem do_parse (hG : Full γ) (hi : 0 ≤ i ∧ i + 4 ≤ Ln ∧ Ln ≤ 2048) (hc : c1 + 20 ≤ 601024 ∧ n1 + 60 ≤ 7293034) (hI : Inv σ) (hr9 : rc σ ≤ 1000) (nx : NX γ b Ln X Q c1 n1 i σ xs) : GW γ mLaw room_1 (ZL γ b Ln X) Q c1 n1 476 (LL γ b i none none) [] σ xs := by
  have hW := hI.1
  have h9 := hI.2.1
  have hM := hI.2.2.1
  have hT := hI.2.2.2.1
  have hn := hT.1
  have hz := hM.sz
  have hp := hT.2.2.le
  have hpm := hM.pm
  have hrf := hM.rf
  have hrm := hI.2.2.2.2.2.1
  have hrc : 0 ≤ rc σ ∧ rc σ ≤ 2147483647 := by omega
  have hA1 := sx_r X i 1
  have hA2 := sx_r X i 2
  have hA3 := sx_r X i 3
  have hP : Mp σ (pAt σ 5) (cnt σ 5) := ⟨hM, hT.2.1.symm, hn.symm⟩
  by_cases hk : 0 ≤ sx X i 1 ∧ sx X i 1 < 4
  · have hF := Fc.cut σ 5 hW
    have hWc : Wk (sCut σ 5) := Wk_cut hW h9 (by decide)
    cases hb : gAB (pAt σ 5) (cnt σ 5)
    · by_cases hm : mPl (pAt σ 5) (cnt σ 5) = -1
      · obtain ⟨q1, q2, q3⟩ := hI.keep hm (k := sx X i 1) (w := -1) hk
        have e : pPrs σ (sx X i 1) = pATk (sCut σ 5) (sx X i 1).toNat 4 := if_pos q2
        have h2 : (pATk (sCut σ 5) (sx X i 1).toNat 4).2 = σ.2 := (atk_at hWc _ _).2.2.2.2.1.trans hF.2.2.2.1
        have x4 := x4_parse (xs := xs) hG hW h9 hk hb
        rw [e, q2] at x4
        generalize pATk (sCut σ 5) (sx X i 1).toNat 4 = a at h2 x4 q1 q3
        obtain ⟨f1, f2, f3, f4, f5, f6⟩ := ov_f h2 (-1)
        have hP1 : Mp (sOv a (-1)) (pAt σ 5) (cnt σ 5) := ⟨hM.ovd h2 (-1), f3.trans hT.2.1.symm, f1.trans hn.symm⟩
        have m := m_parse_k (xs := xs) hG hP1 hk hb hm
        have hP2 : Mp (sMcd (sOv a (-1)) 0) (pAt σ 5) (cnt σ 5) := ⟨hP1.1.cd 0, hP1.2.1, hP1.2.2⟩
        obtain ⟨⟨-, g2, -, -, -, -, -, -, -, -, -, -, -, g1⟩, -⟩ := Ep.fin hP2
        have g1 : mcd (mFin (sMcd (sOv a (-1)) 0) (pAt σ 5) (cnt σ 5)) = 0 := g1
        have g2 : ov (mFin (sMcd (sOv a (-1)) 0) (pAt σ 5) (cnt σ 5)) = -1 := g2
        generalize mFin (sMcd (sOv a (-1)) 0) (pAt σ 5) (cnt σ 5) = z at m q1 q3 g1 g2
        have g1 : mcd (mSto z (sx X i 1)) = 0 := g1
        have g2 : ov (mSto z (sx X i 1)) = -1 := g2
        generalize mSto z (sx X i 1) = y at m q1 q3 g1 g2
        exact cs_parse hG hi hc (by decide) (by decide) (r := 0) (w := -1) (by decide) (by decide) (hl_parse hG (by decide) x4) (QM.of m) (fun s hs => by subst hs; exact g1) (fun _ s hs => by subst hs; exact g2) (fun s hs => by subst hs; exact nx.same q1 q3)
      · have hrfp : prs0 σ = mPl (pAt σ 5) (cnt σ 5) := rf_cut hW (hT.tz hM)
        have e : pPrs σ (sx X i 1) = sRp (sRc (sCut σ 5) (rc (sCut σ 5) + 1)) (prs0 σ) := if_neg (by rw [hrfp]; exact hm)
        have h2 : (sRp (sRc (sCut σ 5) (rc (sCut σ 5) + 1)) (prs0 σ)).2 = σ.2 := hF.2.2.2.1
        have x4 := x4_parse (xs := xs) hG hW h9 hk hb
        rw [e] at x4
        have kr : ∀ s0 y : St, Ep (sMcd (sOv (sRp (sRc (sCut σ 5) (rc (sCut σ 5) + 1)) (prs0 σ)) (prs0 σ)) 0) s0 → y = sMpl (sMrf s0 (mrf s0 + 1)) (mPl (pAt σ 5) (cnt σ 5)) → Inv y ∧ prs0 σ = mPl (pAt σ 5) (cnt σ 5) ∧ rc y = rc σ + 1 := fun s0 y hE hb => hI.refuse hr9 hE hb
        have hpr := mPl_r (hT.tz hM)
        rw [← hrfp] at hpr
        generalize sRp (sRc (sCut σ 5) (rc (sCut σ 5) + 1)) (prs0 σ) = a at h2 x4 kr
        obtain ⟨f1, f2, f3, f4, f5, f6⟩ := ov_f h2 (prs0 σ)
        have hP1 : Mp (sOv a (prs0 σ)) (pAt σ 5) (cnt σ 5) := ⟨hM.ovd h2 (prs0 σ), f3.trans hT.2.1.symm, f1.trans hn.symm⟩
        have m := m_parse_r (xs := xs) hG hP1 hk hb hm
        rw [← hrfp] at m kr
        generalize prs0 σ = p at m x4 kr hpr
        exact cs_parse hG hi hc (by decide) (by decide) (r := 0) (w := p) (by decide) (by omega) (hl_parse hG (by omega) x4) m (fun s hs => by
          obtain ⟨s0, hE, rfl⟩ := hs
          exact hE.1.2.2.2.2.2.2.2.2.2.2.2.2.2) (fun _ s hs => by
          obtain ⟨s0, hE, rfl⟩ := hs
          exact hE.1.2.1) (fun s hs => by
          obtain ⟨s0, hE, hs⟩ := hs
          obtain ⟨q1, q2, q3⟩ := kr s0 s hE hs
          exact nx s q1 (by omega))
    · exact cs_parse hG hi hc (by decide) (by decide) (r := 2) (w := 0) (by decide) (by decide) (hl_parse_S hG (x4_parse_b2 hG hW h9 hk hb)) (QM.of (m_parse_2 hG hP hk hb)) (fun s hs => by subst hs; rfl) (fun z => absurd z (by decide)) (fun s hs => by subst hs; exact nx.same (hI.cd 2) rfl)
  · exact cs_parse hG hi hc (by decide) (by decide) (r := 1) (w := 0) (by decide) (by decide) (hl_parse_I hG (x4_parse_b1 hG hA1 (by omega))) (QM.of (m_parse_1 hG hP hA1 (by omega))) (fun s hs => by subst hs; rfl) (fun z => absurd z (by decide)) (fun s hs => by subst hs; exact nx.same (hI.cd 1) rfl)
theorem do_refusals (hG : Full γ) (hi : 0 ≤ i ∧ i + 4 ≤ Ln ∧ Ln ≤ 2048) (hc : c1 + 20 ≤ 601024 ∧ n1 + 60 ≤ 7293034) (hI : Inv σ) (hr9 : rc σ ≤ 1000) (nx : NX γ b Ln X Q c1 n1 i σ xs) : GW γ mLaw room_1 (ZL γ b Ln X) Q c1 n1 532 (LL γ b i none none) [] σ xs := by
  have hW := hI.1
  have h9 := hI.2.1
  have hM := hI.2.2.1
  have hT := hI.2.2.2.1
  have hn := hT.1
  have hz := hM.sz
  have hp := hT.2.2.le
  have hpm := hM.pm
  have hrf := hM.rf
  have hrm := hI.2.2.2.2.2.1
  have hrc : 0 ≤ rc σ ∧ rc σ ≤ 2147483647 := by omega
  have hA1 := sx_r X i 1
  have hA2 := sx_r X i 2
  have hA3 := sx_r X i 3
  have m := m_refusals (xs := xs) (σ := σ) hG
  rw [← hrm] at m
  exact cs_refusals hG hi hc (by decide) (by decide) (w := rc σ) (by omega) (x4_refusals hG) (QM.of m) (fun s hs => by subst hs; exact nx.same (hI.cd 0) rfl)
theorem do_refusedAt (hG : Full γ) (hi : 0 ≤ i ∧ i + 4 ≤ Ln ∧ Ln ≤ 2048) (hc : c1 + 20 ≤ 601024 ∧ n1 + 60 ≤ 7293034) (hI : Inv σ) (hr9 : rc σ ≤ 1000) (nx : NX γ b Ln X Q c1 n1 i σ xs) : GW γ mLaw room_1 (ZL γ b Ln X) Q c1 n1 545 (LL γ b i none none) [] σ xs := by
  have hW := hI.1
  have h9 := hI.2.1
  have hM := hI.2.2.1
  have hT := hI.2.2.2.1
  have hn := hT.1
  have hz := hM.sz
  have hp := hT.2.2.le
  have hpm := hM.pm
  have hrf := hM.rf
  have hrm := hI.2.2.2.2.2.1
  have hrc : 0 ≤ rc σ ∧ rc σ ≤ 2147483647 := by omega
  have hA1 := sx_r X i 1
  have hA2 := sx_r X i 2
  have hA3 := sx_r X i 3
  by_cases h0 : rc σ = 0
  · exact cs_refusedAt hG hi hc (by decide) (by decide) (r := 1) (w := 0) (by decide) (by decide) (hl_refusedAt_N hG (x4_refusedAt_b hG hrc h0)) (QM.of (m_refusedAt_1 hG hM (by omega))) (fun s hs => by subst hs; rfl) (fun z => absurd z (by decide)) (fun s hs => by subst hs; exact nx.same (hI.cd 1) rfl)
  · obtain ⟨v, hv, hvr⟩ : ∃ v : Int, zI (rp σ) = zI v ∧ -2147483648 ≤ v ∧ v ≤ 2147483647 := ⟨_, zI_w _, zI_wr _⟩
    have m := m_refusedAt_0 (xs := xs) hG (hM.ovd (a := σ) rfl v) (by show mrf σ ≠ 0; omega)
    have e : mpl (sOv σ v) = rp σ := (hI.2.2.2.2.2.2 h0).symm
    have x4 := x4_refusedAt (xs := xs) hG hrc h0
    rw [e, hv] at m
    rw [hv] at x4
    exact cs_refusedAt hG hi hc (by decide) (by decide) (r := 0) (w := v) (by decide) hvr (hl_refusedAt hG hvr x4) (QM.of m) (fun s hs => by subst hs; rfl) (fun _ s hs => by subst hs; rfl) (fun s hs => by subst hs; exact nx.same ((hI.ov _).cd 0) rfl)
theorem do_isTold (hG : Full γ) (hi : 0 ≤ i ∧ i + 4 ≤ Ln ∧ Ln ≤ 2048) (hc : c1 + 20 ≤ 601024 ∧ n1 + 60 ≤ 7293034) (hI : Inv σ) (hr9 : rc σ ≤ 1000) (nx : NX γ b Ln X Q c1 n1 i σ xs) : GW γ mLaw room_1 (ZL γ b Ln X) Q c1 n1 589 (LL γ b i none none) [] σ xs := by
  have hW := hI.1
  have h9 := hI.2.1
  have hM := hI.2.2.1
  have hT := hI.2.2.2.1
  have hn := hT.1
  have hz := hM.sz
  have hp := hT.2.2.le
  have hpm := hM.pm
  have hrf := hM.rf
  have hrm := hI.2.2.2.2.2.1
  have hrc : 0 ≤ rc σ ∧ rc σ ≤ 2147483647 := by omega
  have hA1 := sx_r X i 1
  have hA2 := sx_r X i 2
  have hA3 := sx_r X i 3
  by_cases h0 : rc σ = 0
  · exact cs_isTold hG hi hc (by decide) (by decide) (r := 1) (w := false) (by decide) (hl_isTold_N hG (x4_isTold_b hG hrc h0)) (QM.of (m_isTold_1 hG hM (by omega))) (fun s hs => by subst hs; rfl) (fun z => absurd z (by decide)) (fun s hs => by subst hs; exact nx.same (hI.cd 1) rfl)
  · have m := m_isTold_0 (xs := xs) hG (hM.ovd (a := σ) rfl (bI true)) (by show mrf σ ≠ 0; omega)
    exact cs_isTold hG hi hc (by decide) (by decide) (r := 0) (w := true) (by decide) (hl_isTold hG (x4_isTold hG hrc h0)) (QM.of m) (fun s hs => by subst hs; rfl) (fun _ s hs => by subst hs; rfl) (fun s hs => by subst hs; exact nx.same ((hI.ov _).cd 0) rfl)
theorem do_isThere (hG : Full γ) (hi : 0 ≤ i ∧ i + 4 ≤ Ln ∧ Ln ≤ 2048) (hc : c1 + 20 ≤ 601024 ∧ n1 + 60 ≤ 7293034) (hI : Inv σ) (hr9 : rc σ ≤ 1000) (nx : NX γ b Ln X Q c1 n1 i σ xs) : GW γ mLaw room_1 (ZL γ b Ln X) Q c1 n1 640 (LL γ b i none none) [] σ xs := by
  have hW := hI.1
  have h9 := hI.2.1
  have hM := hI.2.2.1
  have hT := hI.2.2.2.1
  have hn := hT.1
  have hz := hM.sz
  have hp := hT.2.2.le
  have hpm := hM.pm
  have hrf := hM.rf
  have hrm := hI.2.2.2.2.2.1
  have hrc : 0 ≤ rc σ ∧ rc σ ≤ 2147483647 := by omega
  have hA1 := sx_r X i 1
  have hA2 := sx_r X i 2
  have hA3 := sx_r X i 3
  by_cases hk : 0 ≤ sx X i 1 ∧ sx X i 1 < 4
  · have m := m_isThere_0 (xs := xs) hG (hM.ovd (a := σ) rfl (bI (hld σ (sx X i 1).toNat))) hk
    have hh := (hI.2.2.2.2.1 (sx X i 1).toNat (by omega)).held.1
    have e : decide (0 ≤ mlo (sOv σ (bI (hld σ (sx X i 1).toNat))) (sx X i 1).toNat) = hld σ (sx X i 1).toNat := by
      show decide (0 ≤ mlo σ (sx X i 1).toNat) = hld σ (sx X i 1).toNat
      apply Bool.eq_iff_iff.mpr
      rw [decide_eq_true_iff]
      exact hh.symm
    rw [e] at m
    exact cs_isThere hG hi hc (by decide) (by decide) (r := 0) (w := hld σ (sx X i 1).toNat) (by decide) (hl_isThere hG (x4_isThere hG hk)) (QM.of m) (fun s hs => by subst hs; rfl) (fun _ s hs => by subst hs; rfl) (fun s hs => by subst hs; exact nx.same ((hI.ov _).cd 0) rfl)
  · exact cs_isThere hG hi hc (by decide) (by decide) (r := 1) (w := false) (by decide) (hl_isThere_I hG (x4_isThere_b hG hA1 (by omega))) (QM.of (m_isThere_1 hG hM hA1 (by omega))) (fun s hs => by subst hs; rfl) (fun z => absurd z (by decide)) (fun s hs => by subst hs; exact nx.same (hI.cd 1) rfl)
theorem do_isAbsolute (hG : Full γ) (hi : 0 ≤ i ∧ i + 4 ≤ Ln ∧ Ln ≤ 2048) (hc : c1 + 20 ≤ 601024 ∧ n1 + 60 ≤ 7293034) (hI : Inv σ) (hr9 : rc σ ≤ 1000) (nx : NX γ b Ln X Q c1 n1 i σ xs) : GW γ mLaw room_1 (ZL γ b Ln X) Q c1 n1 703 (LL γ b i none none) [] σ xs := by
  have hW := hI.1
  have h9 := hI.2.1
  have hM := hI.2.2.1
  have hT := hI.2.2.2.1
  have hn := hT.1
  have hz := hM.sz
  have hp := hT.2.2.le
  have hpm := hM.pm
  have hrf := hM.rf
  have hrm := hI.2.2.2.2.2.1
  have hrc : 0 ≤ rc σ ∧ rc σ ≤ 2147483647 := by omega
  have hA1 := sx_r X i 1
  have hA2 := sx_r X i 2
  have hA3 := sx_r X i 3
  obtain ⟨n1', n2'⟩ := hI.noS (sx X i 1)
  by_cases hk : 0 ≤ sx X i 1 ∧ sx X i 1 < 4
  · have ek : (((sx X i 1).toNat : Nat) : Int) = sx X i 1 := Int.toNat_of_nonneg hk.1
    obtain ⟨n3', n4'⟩ := n2' hk
    cases hh : hld σ (sx X i 1).toNat
    · exact cs_isAbsolute hG hi hc (by decide) (by decide) (r := 2) (w := false) (by decide) (hl_isAbsolute_N hG (x4_isAbsolute_b2 hG hk hh)) (QM.of (m_isAbsolute_e hG hM hA1 (by decide) (n4' hh))) (fun s hs => by subst hs; rfl) (fun z => absurd z (by decide)) (fun s hs => by subst hs; exact nx.same (hI.cd 2) rfl)
    · obtain ⟨hN, hd⟩ := n3' hh
      have m := m_isAbsolute_0 (xs := xs) hG (hM.ovd (a := σ) rfl (bI (pHas σ (sx X i 1).toNat 0))) hk hN
      have e := (hd.has (k := 0) (by decide)).1
      rw [ek] at e
      have e : mHas (sOv σ (bI (pHas σ (sx X i 1).toNat 0))) (sx X i 1) 0 = pHas σ (sx X i 1).toNat 0 := e.symm
      rw [e] at m
      exact cs_isAbsolute hG hi hc (by decide) (by decide) (r := 0) (w := pHas σ (sx X i 1).toNat 0) (by decide) (hl_isAbsolute hG (x4_isAbsolute hG hk hW hh)) (QM.of m) (fun s hs => by subst hs; rfl) (fun _ s hs => by subst hs; rfl) (fun s hs => by subst hs; exact nx.same ((hI.ov _).cd 0) rfl)
  · exact cs_isAbsolute hG hi hc (by decide) (by decide) (r := 1) (w := false) (by decide) (hl_isAbsolute_I hG (x4_isAbsolute_b1 hG hA1 (by omega))) (QM.of (m_isAbsolute_e hG hM hA1 (by decide) (n1' hk))) (fun s hs => by subst hs; rfl) (fun z => absurd z (by decide)) (fun s hs => by subst hs; exact nx.same (hI.cd 1) rfl)
theorem do_isOpaque (hG : Full γ) (hi : 0 ≤ i ∧ i + 4 ≤ Ln ∧ Ln ≤ 2048) (hc : c1 + 20 ≤ 601024 ∧ n1 + 60 ≤ 7293034) (hI : Inv σ) (hr9 : rc σ ≤ 1000) (nx : NX γ b Ln X Q c1 n1 i σ xs) : GW γ mLaw room_1 (ZL γ b Ln X) Q c1 n1 766 (LL γ b i none none) [] σ xs := by
  have hW := hI.1
  have h9 := hI.2.1
  have hM := hI.2.2.1
  have hT := hI.2.2.2.1
  have hn := hT.1
  have hz := hM.sz
  have hp := hT.2.2.le
  have hpm := hM.pm
  have hrf := hM.rf
  have hrm := hI.2.2.2.2.2.1
  have hrc : 0 ≤ rc σ ∧ rc σ ≤ 2147483647 := by omega
  have hA1 := sx_r X i 1
  have hA2 := sx_r X i 2
  have hA3 := sx_r X i 3
  obtain ⟨n1', n2'⟩ := hI.noS (sx X i 1)
  by_cases hk : 0 ≤ sx X i 1 ∧ sx X i 1 < 4
  · have ek : (((sx X i 1).toNat : Nat) : Int) = sx X i 1 := Int.toNat_of_nonneg hk.1
    obtain ⟨n3', n4'⟩ := n2' hk
    cases hh : hld σ (sx X i 1).toNat
    · exact cs_isOpaque hG hi hc (by decide) (by decide) (r := 2) (w := false) (by decide) (hl_isOpaque_N hG (x4_isOpaque_b2 hG hk hh)) (QM.of (m_isOpaque_e hG hM hA1 (by decide) (n4' hh))) (fun s hs => by subst hs; rfl) (fun z => absurd z (by decide)) (fun s hs => by subst hs; exact nx.same (hI.cd 2) rfl)
    · obtain ⟨hN, hd⟩ := n3' hh
      have m := m_isOpaque_0 (xs := xs) hG (hM.ovd (a := σ) rfl (bI (!pHas σ (sx X i 1).toNat 5))) hk hN
      have e := (hd.has (k := 5) (by decide)).1
      rw [ek] at e
      have e : mHas (sOv σ (bI (!pHas σ (sx X i 1).toNat 5))) (sx X i 1) 5 = pHas σ (sx X i 1).toNat 5 := e.symm
      rw [e] at m
      exact cs_isOpaque hG hi hc (by decide) (by decide) (r := 0) (w := !pHas σ (sx X i 1).toNat 5) (by decide) (hl_isOpaque hG (x4_isOpaque hG hk hW hh)) (QM.of m) (fun s hs => by subst hs; rfl) (fun _ s hs => by subst hs; rfl) (fun s hs => by subst hs; exact nx.same ((hI.ov _).cd 0) rfl)
  · exact cs_isOpaque hG hi hc (by decide) (by decide) (r := 1) (w := false) (by decide) (hl_isOpaque_I hG (x4_isOpaque_b1 hG hA1 (by omega))) (QM.of (m_isOpaque_e hG hM hA1 (by decide) (n1' hk))) (fun s hs => by subst hs; rfl) (fun z => absurd z (by decide)) (fun s hs => by subst hs; exact nx.same (hI.cd 1) rfl)
theorem do_port (hG : Full γ) (hi : 0 ≤ i ∧ i + 4 ≤ Ln ∧ Ln ≤ 2048) (hc : c1 + 20 ≤ 601024 ∧ n1 + 60 ≤ 7293034) (hI : Inv σ) (hr9 : rc σ ≤ 1000) (nx : NX γ b Ln X Q c1 n1 i σ xs) : GW γ mLaw room_1 (ZL γ b Ln X) Q c1 n1 829 (LL γ b i none none) [] σ xs := by
  have hW := hI.1
  have h9 := hI.2.1
  have hM := hI.2.2.1
  have hT := hI.2.2.2.1
  have hn := hT.1
  have hz := hM.sz
  have hp := hT.2.2.le
  have hpm := hM.pm
  have hrf := hM.rf
  have hrm := hI.2.2.2.2.2.1
  have hrc : 0 ≤ rc σ ∧ rc σ ≤ 2147483647 := by omega
  have hA1 := sx_r X i 1
  have hA2 := sx_r X i 2
  have hA3 := sx_r X i 3
  obtain ⟨n1', n2'⟩ := hI.noS (sx X i 1)
  by_cases hk : 0 ≤ sx X i 1 ∧ sx X i 1 < 4
  · have ek : (((sx X i 1).toNat : Nat) : Int) = sx X i 1 := Int.toNat_of_nonneg hk.1
    obtain ⟨n3', n4'⟩ := n2' hk
    cases hh : hld σ (sx X i 1).toNat
    · exact cs_port hG hi hc (by decide) (by decide) (r := 2) (w := 0) (by decide) (by decide) (hl_port_N hG (x4_port_b2 hG hk hh)) (QM.of (m_port_e hG hM hA1 (by decide) (n4' hh))) (fun s hs => by subst hs; rfl) (fun z => absurd z (by decide)) (fun s hs => by subst hs; exact nx.same (hI.cd 2) rfl)
    · obtain ⟨hN, hd⟩ := n3' hh
      have hr := hW.2.2.2.1 (sx X i 1).toNat
      have m := m_port_0 (xs := xs) hG (hM.ovd (a := σ) rfl (pt σ (sx X i 1).toNat)) hk hN
      have e : mpo (sOv σ (pt σ (sx X i 1).toNat)) (sx X i 1).toNat = pt σ (sx X i 1).toNat := hd.2.2.2.2.2.1.symm
      rw [e] at m
      exact cs_port hG hi hc (by decide) (by decide) (r := 0) (w := pt σ (sx X i 1).toNat) (by decide) (by omega) (hl_port hG (by omega) (x4_port hG hk hW hh)) (QM.of m) (fun s hs => by subst hs; rfl) (fun _ s hs => by subst hs; rfl) (fun s hs => by subst hs; exact nx.same ((hI.ov _).cd 0) rfl)
  · exact cs_port hG hi hc (by decide) (by decide) (r := 1) (w := 0) (by decide) (by decide) (hl_port_I hG (x4_port_b1 hG hA1 (by omega))) (QM.of (m_port_e hG hM hA1 (by decide) (n1' hk))) (fun s hs => by subst hs; rfl) (fun z => absurd z (by decide)) (fun s hs => by subst hs; exact nx.same (hI.cd 1) rfl)
theorem do_size (hG : Full γ) (hi : 0 ≤ i ∧ i + 4 ≤ Ln ∧ Ln ≤ 2048) (hc : c1 + 20 ≤ 601024 ∧ n1 + 60 ≤ 7293034) (hI : Inv σ) (hr9 : rc σ ≤ 1000) (nx : NX γ b Ln X Q c1 n1 i σ xs) : GW γ mLaw room_1 (ZL γ b Ln X) Q c1 n1 885 (LL γ b i none none) [] σ xs := by
  have hW := hI.1
  have h9 := hI.2.1
  have hM := hI.2.2.1
  have hT := hI.2.2.2.1
  have hn := hT.1
  have hz := hM.sz
  have hp := hT.2.2.le
  have hpm := hM.pm
  have hrf := hM.rf
  have hrm := hI.2.2.2.2.2.1
  have hrc : 0 ≤ rc σ ∧ rc σ ≤ 2147483647 := by omega
  have hA1 := sx_r X i 1
  have hA2 := sx_r X i 2
  have hA3 := sx_r X i 3
  generalize hc0 : sx X i 2 % 65536 = c
  have hc9 : 0 ≤ c ∧ c < 65536 := by omega
  have hc8 : -2147483648 ≤ c ∧ c ≤ 2147483647 := by omega
  have h8 := ix51 c
  have cs := cs_size (γ := γ) (b := b) (Ln := Ln) (X := X) (Q := Q) (c1 := c1) (n1 := n1) (i := i) (σ := σ) (xs := xs)
  rw [hc0] at cs
  obtain ⟨n1', n2'⟩ := hI.noP (sx X i 1) c
  by_cases hk : 0 ≤ sx X i 1 ∧ sx X i 1 < 4
  · have ek : (((sx X i 1).toNat : Nat) : Int) = sx X i 1 := Int.toNat_of_nonneg hk.1
    obtain ⟨n3', n4'⟩ := n2' hk
    by_cases h0 : 0 ≤ ixO (tS 51) c
    · have eq : (((ixO (tS 51) c).toNat : Nat) : Int) = ixO (tS 51) c := Int.toNat_of_nonneg h0
      obtain ⟨n5', n6'⟩ := n4' h0
      cases hh : hld σ (sx X i 1).toNat
      · exact cs hG hi hc (by decide) (by decide) (r := 3) (w := 0) (by decide) (by decide) (hl_size_N hG (x4_size_b3 hG hk hc9 h0 hh)) (QM.of (m_size_e hG hM hA1 hc8 (by decide) (n6' hh))) (fun s hs => by subst hs; rfl) (fun z => absurd z (by decide)) (fun s hs => by subst hs; exact nx.same (hI.cd 3) rfl)
      · obtain ⟨hN, hd⟩ := n5' hh
        have hr := pSiz_r hW (sx X i 1).toNat (ixO (tS 51) c)
        have m := m_size_0 (xs := xs) hG (hM.ovd (a := σ) rfl (pSiz σ (sx X i 1).toNat (ixO (tS 51) c))) hk hc8 h0 hN
        have e := hd.siz (k := (ixO (tS 51) c).toNat) (by omega)
        rw [ek, eq] at e
        have e : mMany (sOv σ (pSiz σ (sx X i 1).toNat (ixO (tS 51) c))) (sx X i 1) (ixO (tS 51) c) = pSiz σ (sx X i 1).toNat (ixO (tS 51) c) := e.symm
        rw [e] at m
        exact cs hG hi hc (by decide) (by decide) (r := 0) (w := pSiz σ (sx X i 1).toNat (ixO (tS 51) c)) (by decide) (by omega) (hl_size hG (by omega) (x4_size hG hk hc9 hW h0 hh)) (QM.of m) (fun s hs => by subst hs; rfl) (fun _ s hs => by subst hs; rfl) (fun s hs => by subst hs; exact nx.same ((hI.ov _).cd 0) rfl)
    · exact cs hG hi hc (by decide) (by decide) (r := 2) (w := 0) (by decide) (by decide) (hl_size_A hG (x4_size_b2 hG hk hc9 (by omega))) (QM.of (m_size_e hG hM hA1 hc8 (by decide) (n3' (by omega)))) (fun s hs => by subst hs; rfl) (fun z => absurd z (by decide)) (fun s hs => by subst hs; exact nx.same (hI.cd 2) rfl)
  · exact cs hG hi hc (by decide) (by decide) (r := 1) (w := 0) (by decide) (by decide) (hl_size_I hG (x4_size_b1 hG hA1 (by omega) hc9)) (QM.of (m_size_e hG hM hA1 hc8 (by decide) (n1' hk))) (fun s hs => by subst hs; rfl) (fun z => absurd z (by decide)) (fun s hs => by subst hs; exact nx.same (hI.cd 1) rfl)
theorem do_begin (hG : Full γ) (hi : 0 ≤ i ∧ i + 4 ≤ Ln ∧ Ln ≤ 2048) (hc : c1 + 20 ≤ 601024 ∧ n1 + 60 ≤ 7293034) (hI : Inv σ) (hr9 : rc σ ≤ 1000) (nx : NX γ b Ln X Q c1 n1 i σ xs) : GW γ mLaw room_1 (ZL γ b Ln X) Q c1 n1 1037 (LL γ b i none none) [] σ xs := by
  have hW := hI.1
  have h9 := hI.2.1
  have hM := hI.2.2.1
  have hT := hI.2.2.2.1
  have hn := hT.1
  have hz := hM.sz
  have hp := hT.2.2.le
  have hpm := hM.pm
  have hrf := hM.rf
  have hrm := hI.2.2.2.2.2.1
  have hrc : 0 ≤ rc σ ∧ rc σ ≤ 2147483647 := by omega
  have hA1 := sx_r X i 1
  have hA2 := sx_r X i 2
  have hA3 := sx_r X i 3
  generalize hc0 : sx X i 2 % 65536 = c
  have hc9 : 0 ≤ c ∧ c < 65536 := by omega
  have hc8 : -2147483648 ≤ c ∧ c ≤ 2147483647 := by omega
  have h8 := ix51 c
  have cs := cs_begin (γ := γ) (b := b) (Ln := Ln) (X := X) (Q := Q) (c1 := c1) (n1 := n1) (i := i) (σ := σ) (xs := xs)
  rw [hc0] at cs
  obtain ⟨n1', n2'⟩ := hI.noP (sx X i 1) c
  by_cases hk : 0 ≤ sx X i 1 ∧ sx X i 1 < 4
  · have ek : (((sx X i 1).toNat : Nat) : Int) = sx X i 1 := Int.toNat_of_nonneg hk.1
    obtain ⟨n3', n4'⟩ := n2' hk
    by_cases h0 : 0 ≤ ixO (tS 51) c
    · have eq : (((ixO (tS 51) c).toNat : Nat) : Int) = ixO (tS 51) c := Int.toNat_of_nonneg h0
      obtain ⟨n5', n6'⟩ := n4' h0
      cases hh : hld σ (sx X i 1).toNat
      · exact cs hG hi hc (by decide) (by decide) (r := 3) (w := 0) (by decide) (by decide) (hl_begin_N hG (x4_begin_b3 hG hk hc9 h0 hh)) (QM.of (m_begin_e hG hM hA1 hc8 (by decide) (n6' hh))) (fun s hs => by subst hs; rfl) (fun z => absurd z (by decide)) (fun s hs => by subst hs; exact nx.same (hI.cd 3) rfl)
      · obtain ⟨hN, hd⟩ := n5' hh
        have hr := pBeg_r hW (sx X i 1).toNat (ixO (tS 51) c)
        have m := m_begin_0 (xs := xs) hG (hM.ovd (a := σ) rfl (pBeg σ (sx X i 1).toNat (ixO (tS 51) c))) hk hc8 h0 hN
        have e := hd.beg (k := (ixO (tS 51) c).toNat) (by omega)
        rw [ek, eq] at e
        have e : mF (sOv σ (pBeg σ (sx X i 1).toNat (ixO (tS 51) c))) (sx X i 1) (ixO (tS 51) c) = pBeg σ (sx X i 1).toNat (ixO (tS 51) c) := e.symm
        rw [e] at m
        exact cs hG hi hc (by decide) (by decide) (r := 0) (w := pBeg σ (sx X i 1).toNat (ixO (tS 51) c)) (by decide) (by omega) (hl_begin hG (by omega) (x4_begin hG hk hc9 hW h0 hh)) (QM.of m) (fun s hs => by subst hs; rfl) (fun _ s hs => by subst hs; rfl) (fun s hs => by subst hs; exact nx.same ((hI.ov _).cd 0) rfl)
    · exact cs hG hi hc (by decide) (by decide) (r := 2) (w := 0) (by decide) (by decide) (hl_begin_A hG (x4_begin_b2 hG hk hc9 (by omega))) (QM.of (m_begin_e hG hM hA1 hc8 (by decide) (n3' (by omega)))) (fun s hs => by subst hs; rfl) (fun z => absurd z (by decide)) (fun s hs => by subst hs; exact nx.same (hI.cd 2) rfl)
  · exact cs hG hi hc (by decide) (by decide) (r := 1) (w := 0) (by decide) (by decide) (hl_begin_I hG (x4_begin_b1 hG hA1 (by omega) hc9)) (QM.of (m_begin_e hG hM hA1 hc8 (by decide) (n1' hk))) (fun s hs => by subst hs; rfl) (fun z => absurd z (by decide)) (fun s hs => by subst hs; exact nx.same (hI.cd 1) rfl)
theorem do_partSign (hG : Full γ) (hi : 0 ≤ i ∧ i + 4 ≤ Ln ∧ Ln ≤ 2048) (hc : c1 + 20 ≤ 601024 ∧ n1 + 60 ≤ 7293034) (hI : Inv σ) (hr9 : rc σ ≤ 1000) (nx : NX γ b Ln X Q c1 n1 i σ xs) : GW γ mLaw room_1 (ZL γ b Ln X) Q c1 n1 955 (LL γ b i none none) [] σ xs := by
  have hW := hI.1
  have h9 := hI.2.1
  have hM := hI.2.2.1
  have hT := hI.2.2.2.1
  have hn := hT.1
  have hz := hM.sz
  have hp := hT.2.2.le
  have hpm := hM.pm
  have hrf := hM.rf
  have hrm := hI.2.2.2.2.2.1
  have hrc : 0 ≤ rc σ ∧ rc σ ≤ 2147483647 := by omega
  have hA1 := sx_r X i 1
  have hA2 := sx_r X i 2
  have hA3 := sx_r X i 3
  generalize hc0 : sx X i 2 % 65536 = c
  have hc9 : 0 ≤ c ∧ c < 65536 := by omega
  have hc8 : -2147483648 ≤ c ∧ c ≤ 2147483647 := by omega
  have h8 := ix51 c
  have cs := cs_partSign (γ := γ) (b := b) (Ln := Ln) (X := X) (Q := Q) (c1 := c1) (n1 := n1) (i := i) (σ := σ) (xs := xs)
  rw [hc0] at cs
  obtain ⟨n1', n2'⟩ := hI.noP (sx X i 1) c
  by_cases hk : 0 ≤ sx X i 1 ∧ sx X i 1 < 4
  · have ek : (((sx X i 1).toNat : Nat) : Int) = sx X i 1 := Int.toNat_of_nonneg hk.1
    obtain ⟨n3', n4'⟩ := n2' hk
    by_cases h0 : 0 ≤ ixO (tS 51) c
    · have eq : (((ixO (tS 51) c).toNat : Nat) : Int) = ixO (tS 51) c := Int.toNat_of_nonneg h0
      obtain ⟨n5', n6'⟩ := n4' h0
      cases hh : hld σ (sx X i 1).toNat
      · exact cs hG hi hc (by decide) (by decide) (r := 3) (w := 0) (by decide) (by decide) (hl_partSign_N hG (x4_partSign_b3 hG hk hc9 hA3 h0 hh)) (QM.of (m_partSign_e hG hM hA1 hc8 (by decide) (n6' hh) hA3)) (fun s hs => by subst hs; rfl) (fun z => absurd z (by decide)) (fun s hs => by subst hs; exact nx.same (hI.cd 3) rfl)
      · obtain ⟨hN, hd⟩ := n5' hh
        have es := hd.siz (k := (ixO (tS 51) c).toNat) (by omega)
        rw [ek, eq] at es
        by_cases hb : 0 ≤ sx X i 3 ∧ sx X i 3 < pSiz σ (sx X i 1).toNat (ixO (tS 51) c)
        · have m := m_partSign_0 (xs := xs) hG (hM.ovd (a := σ) rfl (pAt σ (sx X i 1).toNat (pBeg σ (sx X i 1).toNat (ixO (tS 51) c) + sx X i 3))) hk hc8 h0 hN hA3 (by show 0 ≤ sx X i 3 ∧ sx X i 3 < mMany σ (sx X i 1) (ixO (tS 51) c); omega)
          have e := hd.sgn (k := (ixO (tS 51) c).toNat) (by omega) (p := sx X i 3) (by rw [eq]; exact hb)
          rw [ek, eq] at e
          have e : msg (sOv σ (pAt σ (sx X i 1).toNat (pBeg σ (sx X i 1).toNat (ixO (tS 51) c) + sx X i 3))) (60 * sx X i 1 + (mF (sOv σ (pAt σ (sx X i 1).toNat (pBeg σ (sx X i 1).toNat (ixO (tS 51) c) + sx X i 3))) (sx X i 1) (ixO (tS 51) c) + sx X i 3)).toNat = pAt σ (sx X i 1).toNat (pBeg σ (sx X i 1).toNat (ixO (tS 51) c) + sx X i 3) := e.symm
          rw [e] at m
          exact cs hG hi hc (by decide) (by decide) (r := 0) (w := pAt σ (sx X i 1).toNat (pBeg σ (sx X i 1).toNat (ixO (tS 51) c) + sx X i 3)) (by decide) (pAt_r σ _ _) (hl_partSign hG (pAt_r σ _ _) (x4_partSign hG hk hc9 hA3 hW h0 hh hb)) (QM.of m) (fun s hs => by subst hs; rfl) (fun _ s hs => by subst hs; rfl) (fun s hs => by subst hs; exact nx.same ((hI.ov _).cd 0) rfl)
        · exact cs hG hi hc (by decide) (by decide) (r := 3) (w := 0) (by decide) (by decide) (hl_partSign_N hG (x4_partSign_b4 hG hk hc9 hA3 hW h0 hh (by omega))) (QM.of (m_partSign_3 hG hM hk hc8 h0 hN hA3 (by omega))) (fun s hs => by subst hs; rfl) (fun z => absurd z (by decide)) (fun s hs => by subst hs; exact nx.same (hI.cd 3) rfl)
    · exact cs hG hi hc (by decide) (by decide) (r := 2) (w := 0) (by decide) (by decide) (hl_partSign_A hG (x4_partSign_b2 hG hk hc9 hA3 (by omega))) (QM.of (m_partSign_e hG hM hA1 hc8 (by decide) (n3' (by omega)) hA3)) (fun s hs => by subst hs; rfl) (fun z => absurd z (by decide)) (fun s hs => by subst hs; exact nx.same (hI.cd 2) rfl)
  · exact cs hG hi hc (by decide) (by decide) (r := 1) (w := 0) (by decide) (by decide) (hl_partSign_I hG (x4_partSign_b1 hG hA1 (by omega) hc9 hA3)) (QM.of (m_partSign_e hG hM hA1 hc8 (by decide) (n1' hk) hA3)) (fun s hs => by subst hs; rfl) (fun z => absurd z (by decide)) (fun s hs => by subst hs; exact nx.same (hI.cd 1) rfl)
theorem do_append (hG : Full γ) (hi : 0 ≤ i ∧ i + 4 ≤ Ln ∧ Ln ≤ 2048) (hc : c1 + 20 ≤ 601024 ∧ n1 + 60 ≤ 7293034) (hI : Inv σ) (hr9 : rc σ ≤ 1000) (nx : NX γ b Ln X Q c1 n1 i σ xs) : GW γ mLaw room_1 (ZL γ b Ln X) Q c1 n1 1107 (LL γ b i none none) [] σ xs := by
  have hW := hI.1
  have h9 := hI.2.1
  have hM := hI.2.2.1
  have hT := hI.2.2.2.1
  have hn := hT.1
  have hz := hM.sz
  have hp := hT.2.2.le
  have hpm := hM.pm
  have hrf := hM.rf
  have hrm := hI.2.2.2.2.2.1
  have hrc : 0 ≤ rc σ ∧ rc σ ≤ 2147483647 := by omega
  have hA1 := sx_r X i 1
  have hA2 := sx_r X i 2
  have hA3 := sx_r X i 3
  generalize hc0 : sx X i 2 % 65536 = c
  have hc9 : 0 ≤ c ∧ c < 65536 := by omega
  have hc8 : -2147483648 ≤ c ∧ c ≤ 2147483647 := by omega
  have h8 := ix51 c
  have cs := cs_append (γ := γ) (b := b) (Ln := Ln) (X := X) (Q := Q) (c1 := c1) (n1 := n1) (i := i) (σ := σ) (xs := xs)
  rw [hc0] at cs
  obtain ⟨n1', n2'⟩ := hI.noP (sx X i 1) c
  by_cases hk : 0 ≤ sx X i 1 ∧ sx X i 1 < 4
  · have ek : (((sx X i 1).toNat : Nat) : Int) = sx X i 1 := Int.toNat_of_nonneg hk.1
    obtain ⟨n3', n4'⟩ := n2' hk
    by_cases h0 : 0 ≤ ixO (tS 51) c
    · have eq : (((ixO (tS 51) c).toNat : Nat) : Int) = ixO (tS 51) c := Int.toNat_of_nonneg h0
      obtain ⟨n5', n6'⟩ := n4' h0
      cases hh : hld σ (sx X i 1).toNat
      · exact cs hG hi hc (by decide) (by decide) (r := 3) (w := 0) (by decide) (by decide) (hl_append_N hG (x4_append_b3 hG hk hc9 h0 hh)) (QM.of (m_append_e hG hM hA1 hc8 (by decide) (n6' hh))) (fun s hs => by subst hs; rfl) (fun z => absurd z (by decide)) (fun s hs => by subst hs; exact nx.same (hI.cd 3) rfl)
      · obtain ⟨hN, hd⟩ := n5' hh
        have es := hd.siz (k := (ixO (tS 51) c).toNat) (by omega)
        rw [ek, eq] at es
        have eh := (hd.has (k := (ixO (tS 51) c).toNat) (by omega)).1
        rw [ek, eq] at eh
        cases hp9 : pHas σ (sx X i 1).toNat (ixO (tS 51) c)
        · exact cs hG hi hc (by decide) (by decide) (r := 3) (w := 0) (by decide) (by decide) (hl_append_N hG (x4_append_b4 hG hk hc9 hW h0 hh hp9)) (QM.of (m_append_3 hG hM hk hc8 h0 hN (eh.symm.trans hp9))) (fun s hs => by subst hs; rfl) (fun z => absurd z (by decide)) (fun s hs => by subst hs; exact nx.same (hI.cd 3) rfl)
        · by_cases h60 : cnt σ 5 + pSiz σ (sx X i 1).toNat (ixO (tS 51) c) ≤ 60
          · have q := hI.app (j := (sx X i 1).toNat) (k := (ixO (tS 51) c).toNat) (by omega) (by omega) hd (by rw [eq]; exact hp9) (by rw [eq]; exact h60) (cnt (pPutP σ (sx X i 1).toNat (ixO (tS 51) c) 5) 5)
            rw [ek, eq] at q
            obtain ⟨q1, q2, q3⟩ := q
            have hS := Same.putP σ (sx X i 1).toNat (ixO (tS 51) c) 5
            have hr := (Wk_putP hW (sx X i 1).toNat (ixO (tS 51) c) 5).1 5
            have hx := hd.hx (k := (ixO (tS 51) c).toNat) (by omega) (by rw [ek, eq]; exact eh.symm.trans hp9)
            rw [ek, eq] at hx
            obtain ⟨x1, x2, x3, x4⟩ := hx
            have X4 := x4_append (xs := xs) hG hk hc9 hW h0 hh hp9 h60
            generalize pPutP σ (sx X i 1).toNat (ixO (tS 51) c) 5 = a at q1 q2 q3 hS hr X4
            obtain ⟨f1, f2, f3, f4, f5, f6⟩ := ov_f hS.2.2.2.2.2.2.2 (cnt a 5)
            obtain ⟨y1, y2, y3, y4⟩ := f6.many (sx X i 1) (ixO (tS 51) c)
            obtain ⟨w1, w2, w3, w4⟩ := f5.many (sx X i 1) (ixO (tS 51) c)
            have hN1 : mNoP (sOv a (cnt a 5)) (sx X i 1) c = 0 := by
              have e : mNoP (sOv a (cnt a 5)) (sx X i 1) c = mNoP σ (sx X i 1) c := by unfold mNoP; rw [f5.2.2.2]
              rw [e]; exact hN
            have z1 : msz (sMcd (sOv a (cnt a 5)) 0) = msz σ := f1
            have z2 : mpm (sMcd (sOv a (cnt a 5)) 0) = mpm σ := f2
            have m := m_append_0 (xs := xs) hG (hM.ovd hS.2.2.2.2.2.2.2 (cnt a 5)) hk hc8 h0 hN1 (by rw [w4]; exact eh.symm.trans hp9) (f6.sg ⟨x1, x2, x3, x4.wr⟩) (by rw [z1, y1]; omega) (by rw [z1, z2]; omega)
            rw [q2] at m
            obtain ⟨g1, g2⟩ := put_co (s := sMcd (sOv a (cnt a 5)) 0) (f := msg (sMcd (sOv a (cnt a 5)) 0)) (b := 60 * sx X i 1 + mF (sMcd (sOv a (cnt a 5)) 0) (sx X i 1) (ixO (tS 51) c)) (e := 60 * sx X i 1 + mTo (sMcd (sOv a (cnt a 5)) 0) (sx X i 1) (ixO (tS 51) c)) (by rw [y2, y3]; omega) (by rw [y2, y3, f6.1]; exact x4) (by rw [z1]; omega)
            exact cs hG hi hc (by decide) (by decide) (r := 0) (w := cnt a 5) (by decide) (by omega) (hl_append hG (by omega) X4) (QM.of m) (fun s hs => by subst hs; exact g1) (fun _ s hs => by subst hs; exact g2) (fun s hs => by subst hs; exact nx.same q1 ((rc1 q3).trans hS.2.2.2.2.2.1))
          · exact cs hG hi hc (by decide) (by decide) (r := 4) (w := 0) (by decide) (by decide) (hl_append_S hG (x4_append_b5 hG hk hc9 hW h0 hh hp9 (by omega))) (QM.of (m_append_4 hG hM hk hc8 h0 hN (eh.symm.trans hp9) (by omega))) (fun s hs => by subst hs; rfl) (fun z => absurd z (by decide)) (fun s hs => by subst hs; exact nx.same (hI.cd 4) rfl)
    · exact cs hG hi hc (by decide) (by decide) (r := 2) (w := 0) (by decide) (by decide) (hl_append_A hG (x4_append_b2 hG hk hc9 (by omega))) (QM.of (m_append_e hG hM hA1 hc8 (by decide) (n3' (by omega)))) (fun s hs => by subst hs; rfl) (fun z => absurd z (by decide)) (fun s hs => by subst hs; exact nx.same (hI.cd 2) rfl)
  · exact cs hG hi hc (by decide) (by decide) (r := 1) (w := 0) (by decide) (by decide) (hl_append_I hG (x4_append_b1 hG hA1 (by omega) hc9)) (QM.of (m_append_e hG hM hA1 hc8 (by decide) (n1' hk))) (fun s hs => by subst hs; rfl) (fun z => absurd z (by decide)) (fun s hs => by subst hs; exact nx.same (hI.cd 1) rfl)
theorem do_copy (hG : Full γ) (hi : 0 ≤ i ∧ i + 4 ≤ Ln ∧ Ln ≤ 2048) (hc : c1 + 20 ≤ 601024 ∧ n1 + 60 ≤ 7293034) (hI : Inv σ) (hr9 : rc σ ≤ 1000) (nx : NX γ b Ln X Q c1 n1 i σ xs) : GW γ mLaw room_1 (ZL γ b Ln X) Q c1 n1 1177 (LL γ b i none none) [] σ xs := by
  have hW := hI.1
  have h9 := hI.2.1
  have hM := hI.2.2.1
  have hT := hI.2.2.2.1
  have hn := hT.1
  have hz := hM.sz
  have hp := hT.2.2.le
  have hpm := hM.pm
  have hrf := hM.rf
  have hrm := hI.2.2.2.2.2.1
  have hrc : 0 ≤ rc σ ∧ rc σ ≤ 2147483647 := by omega
  have hA1 := sx_r X i 1
  have hA2 := sx_r X i 2
  have hA3 := sx_r X i 3
  by_cases hk : 0 ≤ sx X i 1 ∧ sx X i 1 < 4
  · by_cases hk2 : 0 ≤ sx X i 2 ∧ sx X i 2 < 4
    · have h2 : (pCopy σ (sx X i 1) (sx X i 2)).2 = σ.2 := (atk_at hW _ _).2.2.2.2.1
      obtain ⟨v, hv, hvr⟩ : ∃ v : Int, zI (cntF (pCopy σ (sx X i 1) (sx X i 2)) 0 0) = zI v ∧ -2147483648 ≤ v ∧ v ≤ 2147483647 := ⟨_, zI_w _, zI_wr _⟩
      obtain ⟨q1, q2, q3⟩ := hI.copy (w := v) hk hk2
      have X4 := x4_copy (xs := xs) hG hk hk2 hW
      have m := m_copy_0 (xs := xs) hG (hM.ovd h2 v) hk hk2
      rw [← q2, hv] at m
      rw [hv] at X4
      generalize pCopy σ (sx X i 1) (sx X i 2) = a at X4 m q1 q3
      exact cs_copy hG hi hc (by decide) (by decide) (r := 0) (w := v) (by decide) hvr (hl_copy hG hvr X4) (QM.of m) (fun s hs => by subst hs; rfl) (fun _ s hs => by subst hs; rfl) (fun s hs => by subst hs; exact nx.same q1 q3)
    · exact cs_copy hG hi hc (by decide) (by decide) (r := 1) (w := 0) (by decide) (by decide) (hl_copy_I hG (x4_copy_b2 hG hk hA2 (by omega))) (QM.of (m_copy_e hG hM hA1 hA2 (by omega))) (fun s hs => by subst hs; rfl) (fun z => absurd z (by decide)) (fun s hs => by subst hs; exact nx.same (hI.cd 1) rfl)
  · exact cs_copy hG hi hc (by decide) (by decide) (r := 1) (w := 0) (by decide) (by decide) (hl_copy_I hG (x4_copy_b1 hG hA1 (by omega))) (QM.of (m_copy_e hG hM hA1 hA2 (by omega))) (fun s hs => by subst hs; rfl) (fun z => absurd z (by decide)) (fun s hs => by subst hs; exact nx.same (hI.cd 1) rfl)
theorem do_alike (hG : Full γ) (hi : 0 ≤ i ∧ i + 4 ≤ Ln ∧ Ln ≤ 2048) (hc : c1 + 20 ≤ 601024 ∧ n1 + 60 ≤ 7293034) (hI : Inv σ) (hr9 : rc σ ≤ 1000) (nx : NX γ b Ln X Q c1 n1 i σ xs) : GW γ mLaw room_1 (ZL γ b Ln X) Q c1 n1 1245 (LL γ b i none none) [] σ xs := by
  have hW := hI.1
  have h9 := hI.2.1
  have hM := hI.2.2.1
  have hT := hI.2.2.2.1
  have hn := hT.1
  have hz := hM.sz
  have hp := hT.2.2.le
  have hpm := hM.pm
  have hrf := hM.rf
  have hrm := hI.2.2.2.2.2.1
  have hrc : 0 ≤ rc σ ∧ rc σ ≤ 2147483647 := by omega
  have hA1 := sx_r X i 1
  have hA2 := sx_r X i 2
  have hA3 := sx_r X i 3
  by_cases hk : 0 ≤ sx X i 1 ∧ sx X i 1 < 4
  · by_cases hk2 : 0 ≤ sx X i 2 ∧ sx X i 2 < 4
    · have s1 := hI.2.2.2.2.1 (sx X i 1).toNat (by omega)
      have s2 := hI.2.2.2.2.1 (sx X i 2).toNat (by omega)
      have ek : (((sx X i 1).toNat : Nat) : Int) = sx X i 1 := Int.toNat_of_nonneg hk.1
      have ek2 : (((sx X i 2).toNat : Nat) : Int) = sx X i 2 := Int.toNat_of_nonneg hk2.1
      cases hh : hld σ (sx X i 1).toNat
      · exact cs_alike hG hi hc (by decide) (by decide) (r := 2) (w := 0) (by decide) (by decide) (hl_alike_N hG (x4_alike_b3 hG hk hk2 hh)) (QM.of (m_alike_2 hG hM hk hk2 (Or.inl (s1.held.2.mp hh)))) (fun s hs => by subst hs; rfl) (fun z => absurd z (by decide)) (fun s hs => by subst hs; exact nx.same (hI.cd 2) rfl)
      · cases hh2 : hld σ (sx X i 2).toNat
        · exact cs_alike hG hi hc (by decide) (by decide) (r := 2) (w := 0) (by decide) (by decide) (hl_alike_N hG (x4_alike_b4 hG hk hk2 hh hh2)) (QM.of (m_alike_2 hG hM hk hk2 (Or.inr (s2.held.2.mp hh2)))) (fun s hs => by subst hs; rfl) (fun z => absurd z (by decide)) (fun s hs => by subst hs; exact nx.same (hI.cd 2) rfl)
        · have hr := pPAs_r σ (sx X i 1).toNat (sx X i 2).toNat
          have m := m_alike_0 (xs := xs) hG (hM.ovd (a := σ) rfl (pPAs σ (sx X i 1).toNat (sx X i 2).toNat)) hk hk2 ⟨s1.held.1.mp hh, s2.held.1.mp hh2⟩
          have e := als_e (s1.hd hh) (s2.hd hh2) 0 (by omega) (by omega) 0
          rw [ek, ek2] at e
          have e : pPAs σ (sx X i 1).toNat (sx X i 2).toNat = mAlsF σ (sx X i 1) (sx X i 2) 0 0 := e
          obtain ⟨-, -, -, -, -, f6⟩ := ov_f (a := σ) (σ := σ) rfl (pPAs σ (sx X i 1).toNat (sx X i 2).toNat)
          rw [mAlsF_c f6 _ _ 0 (by omega), ← e] at m
          exact cs_alike hG hi hc (by decide) (by decide) (r := 0) (w := pPAs σ (sx X i 1).toNat (sx X i 2).toNat) (by decide) (by omega) (hl_alike hG (by omega) (x4_alike hG hk hk2 hh hh2 hW)) (QM.of m) (fun s hs => by subst hs; rfl) (fun _ s hs => by subst hs; rfl) (fun s hs => by subst hs; exact nx.same ((hI.ov _).cd 0) rfl)
    · exact cs_alike hG hi hc (by decide) (by decide) (r := 1) (w := 0) (by decide) (by decide) (hl_alike_I hG (x4_alike_b2 hG hk hA2 (by omega))) (QM.of (m_alike_1 hG hM hA1 hA2 (by omega))) (fun s hs => by subst hs; rfl) (fun z => absurd z (by decide)) (fun s hs => by subst hs; exact nx.same (hI.cd 1) rfl)
  · exact cs_alike hG hi hc (by decide) (by decide) (r := 1) (w := 0) (by decide) (by decide) (hl_alike_I hG (x4_alike_b1 hG hA1 (by omega))) (QM.of (m_alike_1 hG hM hA1 hA2 (by omega))) (fun s hs => by subst hs; rfl) (fun z => absurd z (by decide)) (fun s hs => by subst hs; exact nx.same (hI.cd 1) rfl)
theorem do_together (hG : Full γ) (hi : 0 ≤ i ∧ i + 4 ≤ Ln ∧ Ln ≤ 2048) (hc : c1 + 20 ≤ 601024 ∧ n1 + 60 ≤ 7293034) (hI : Inv σ) (hr9 : rc σ ≤ 1000) (nx : NX γ b Ln X Q c1 n1 i σ xs) : GW γ mLaw room_1 (ZL γ b Ln X) Q c1 n1 1313 (LL γ b i none none) [] σ xs := by
  have hW := hI.1
  have h9 := hI.2.1
  have hM := hI.2.2.1
  have hT := hI.2.2.2.1
  have hn := hT.1
  have hz := hM.sz
  have hp := hT.2.2.le
  have hpm := hM.pm
  have hrf := hM.rf
  have hrm := hI.2.2.2.2.2.1
  have hrc : 0 ≤ rc σ ∧ rc σ ≤ 2147483647 := by omega
  have hA1 := sx_r X i 1
  have hA2 := sx_r X i 2
  have hA3 := sx_r X i 3
  obtain ⟨n1', n2'⟩ := hI.noS (sx X i 1)
  by_cases hk : 0 ≤ sx X i 1 ∧ sx X i 1 < 4
  · have ek : (((sx X i 1).toNat : Nat) : Int) = sx X i 1 := Int.toNat_of_nonneg hk.1
    obtain ⟨n3', n4'⟩ := n2' hk
    cases hh : hld σ (sx X i 1).toNat
    · exact cs_together hG hi hc (by decide) (by decide) (r := 2) (w := false) (by decide) (hl_together_N hG (x4_together_b2 hG hk hh)) (QM.of (m_together_e hG hM hA1 (by decide) (n4' hh))) (fun s hs => by subst hs; rfl) (fun z => absurd z (by decide)) (fun s hs => by subst hs; exact nx.same (hI.cd 2) rfl)
    · obtain ⟨hN, hd⟩ := n3' hh
      have hs := CS_self hd (-1)
      have hdd := dd_r (pAt σ (sx X i 1).toNat) (cnt σ (sx X i 1).toNat)
      have h60 := hd.2.2.1
      have hj4 : (sx X i 1).toNat < 4 := by omega
      have ws : ∀ (x k : Int), wsel x k (sx X i 1).toNat (sx X i 1).toNat = (sx X i 1).toNat := fun x k => by unfold wsel; split <;> rfl
      have X4 := x4_together (xs := xs) hG hk hh hW
      have hwv := pWv_ok hW (sx X i 1).toNat (sx X i 1).toNat (-1)
      have ht := tak_F 0 (by omega) (σ := pWv σ (sx X i 1).toNat (sx X i 1).toNat (-1)) (i := 5) (j := 6) (by omega) hwv.1
      have hl9 : hld (pTog σ (sx X i 1)) = hld σ := ht.2.2.2.2.1.trans hwv.2.2.2.2.1
      have h2 : (pTog σ (sx X i 1)).2 = σ.2 := ht.2.2.2.2.2.2.2.2.1.trans hwv.2.2.2.2.2.2.2.2
      have hrcT : rc (pTog σ (sx X i 1)) = rc σ := ht.2.2.2.2.2.2.1.trans hwv.2.2.2.2.2.2.1
      have q := hI.weave hj4 hj4 hd hd (cs := -1) (ms := 0) (by decide) (fun k => by rw [ws, ws]) (by omega) (bI (pIsW (pTog σ (sx X i 1)) (sx X i 1).toNat 5))
      rw [ek] at q
      obtain ⟨q1, q2, q3, q4⟩ := q
      have q1 : Inv (mAll (sMcd (sOv (pTog σ (sx X i 1)) (bI (pIsW (pTog σ (sx X i 1)) (sx X i 1).toNat 5))) 0) (sx X i 1) (sx X i 1) 0) := q1
      have q3 : aRest (sMcd (sOv (pTog σ (sx X i 1)) (bI (pIsW (pTog σ (sx X i 1)) (sx X i 1).toNat 5))) 0) (sx X i 1) (sx X i 1) 0 0 ≤ 60 := q3
      have q4 : (mAll (sMcd (sOv (pTog σ (sx X i 1)) (bI (pIsW (pTog σ (sx X i 1)) (sx X i 1).toNat 5))) 0) (sx X i 1) (sx X i 1) 0).1 = (pTog σ (sx X i 1)).1 := q4
      generalize pTog σ (sx X i 1) = a at X4 hl9 h2 hrcT q1 q3 q4
      obtain ⟨f1, f2, f3, f4, f5, f6⟩ := ov_f h2 (bI (pIsW a (sx X i 1).toNat 5))
      have hN1 : mNoS (sOv a (bI (pIsW a (sx X i 1).toNat 5))) (sx X i 1) = 0 := by
        have e : mNoS (sOv a (bI (pIsW a (sx X i 1).toNat 5))) (sx X i 1) = mNoS σ (sx X i 1) := by unfold mNoS; rw [f5.2.2.2]
        rw [e]; exact hN
      have hsl := hd.sl
      rw [ek] at hsl
      have h1 := hd.one.1
      rw [ek] at h1
      have hMa := hM.ovd h2 (bI (pIsW a (sx X i 1).toNat 5))
      have m := m_together_0 (xs := xs) hG hMa hk hN1 (hsl.c f5) (by rw [(f5.many (sx X i 1) 1).2.2.2]; exact h1) q3
      have hG9 := (mAll_g (hMa.cd 0) hk hk (by decide) (hsl.c f5) (hsl.c f5) (by rw [(f6.many (sx X i 1) 1).2.2.2]; exact h1) q3).2.1
      generalize mAll (sMcd (sOv a (bI (pIsW a (sx X i 1).toNat 5))) 0) (sx X i 1) (sx X i 1) 0 = z at q1 q4 m hG9
      have hdz : HdR z (sx X i 1).toNat := (q1.2.2.2.2.1 _ hj4).hd (by rw [(cl q4).2.2.2.2.2.2.2.2.1, hl9]; exact hh)
      have e := tog_e q1 hj4 hdz q4
      rw [ek] at e
      rw [← e] at m
      exact cs_together hG hi hc (by decide) (by decide) (r := 0) (w := pIsW a (sx X i 1).toNat 5) (by decide) (hl_together hG X4) (QM.of m) (fun s hs => by subst hs; exact hG9.2.2.2.2.2.2.2.2.2.2.2.2) (fun _ s hs => by subst hs; exact hG9.2.1) (fun s hs => by subst hs; exact nx.same q1 ((rc1 q4).trans hrcT))
  · exact cs_together hG hi hc (by decide) (by decide) (r := 1) (w := false) (by decide) (hl_together_I hG (x4_together_b1 hG hA1 (by omega))) (QM.of (m_together_e hG hM hA1 (by decide) (n1' hk))) (fun s hs => by subst hs; rfl) (fun z => absurd z (by decide)) (fun s hs => by subst hs; exact nx.same (hI.cd 1) rfl)
theorem do_mix (hG : Full γ) (hi : 0 ≤ i ∧ i + 4 ≤ Ln ∧ Ln ≤ 2048) (hc : c1 + 20 ≤ 601024 ∧ n1 + 60 ≤ 7293034) (hI : Inv σ) (hr9 : rc σ ≤ 1000) (nx : NX γ b Ln X Q c1 n1 i σ xs) : GW γ mLaw room_1 (ZL γ b Ln X) Q c1 n1 1376 (LL γ b i none none) [] σ xs := by
  have hW := hI.1
  have h9 := hI.2.1
  have hM := hI.2.2.1
  have hT := hI.2.2.2.1
  have hn := hT.1
  have hz := hM.sz
  have hp := hT.2.2.le
  have hpm := hM.pm
  have hrf := hM.rf
  have hrm := hI.2.2.2.2.2.1
  have hrc : 0 ≤ rc σ ∧ rc σ ≤ 2147483647 := by omega
  have hA1 := sx_r X i 1
  have hA2 := sx_r X i 2
  have hA3 := sx_r X i 3
  generalize hc0 : sx X i 3 % 65536 = c
  have hc9 : 0 ≤ c ∧ c < 65536 := by omega
  have cs := cs_mix (γ := γ) (b := b) (Ln := Ln) (X := X) (Q := Q) (c1 := c1) (n1 := n1) (i := i) (σ := σ) (xs := xs)
  rw [hc0] at cs
  by_cases hk : 0 ≤ sx X i 1 ∧ sx X i 1 < 4
  · by_cases hk2 : 0 ≤ sx X i 2 ∧ sx X i 2 < 4
    · have s1 := hI.2.2.2.2.1 (sx X i 1).toNat (by omega)
      have s2 := hI.2.2.2.2.1 (sx X i 2).toNat (by omega)
      have ek : (((sx X i 1).toNat : Nat) : Int) = sx X i 1 := Int.toNat_of_nonneg hk.1
      have ek2 : (((sx X i 2).toNat : Nat) : Int) = sx X i 2 := Int.toNat_of_nonneg hk2.1
      have hsl : (0 ≤ sx X i 1 ∧ sx X i 1 ≤ 3) ∧ (0 ≤ sx X i 2 ∧ sx X i 2 ≤ 3) := by omega
      cases hh : hld σ (sx X i 1).toNat
      · exact cs hG hi hc (by decide) (by decide) (r := 2) (w := 0) (by decide) (by decide) (hl_mix_N hG (x4_mix_b3 hG hk hk2 hh)) (QM.of (m_mix_e (v := 2) hG hM hA1 hA2 hc9 (by decide) (by unfold mNoM; rw [if_pos hsl, if_pos (Or.inl (s1.held.2.mp hh))]))) (fun s hs => by subst hs; rfl) (fun z => absurd z (by decide)) (fun s hs => by subst hs; exact nx.same (hI.cd 2) rfl)
      · cases hh2 : hld σ (sx X i 2).toNat
        · exact cs hG hi hc (by decide) (by decide) (r := 2) (w := 0) (by decide) (by decide) (hl_mix_N hG (x4_mix_b4 hG hk hk2 hh hh2)) (QM.of (m_mix_e (v := 2) hG hM hA1 hA2 hc9 (by decide) (by unfold mNoM; rw [if_pos hsl, if_pos (Or.inr (s2.held.2.mp hh2))]))) (fun s hs => by subst hs; rfl) (fun z => absurd z (by decide)) (fun s hs => by subst hs; exact nx.same (hI.cd 2) rfl)
        · have hd := s1.hd hh
          have hd2 := s2.hd hh2
          have hnn : ¬ (mlo σ (sx X i 1).toNat < 0 ∨ mlo σ (sx X i 2).toNat < 0) := by
            have z1 := s1.held.1.mp hh
            have z2 := s2.held.1.mp hh2
            omega
          have hmi := ix55 c
          cases hm : mIs c
          · have h0 : ixO (tS 55) c < 0 := by
              rw [hm] at hmi
              have := of_decide_eq_false hmi.symm
              omega
            exact cs hG hi hc (by decide) (by decide) (r := 3) (w := 0) (by decide) (by decide) (hl_mix_A hG (x4_mix_b5 hG hk hk2 hc9 hh hh2 h0)) (QM.of (m_mix_e (v := 3) hG hM hA1 hA2 hc9 (by decide) (by unfold mNoM; rw [if_pos hsl, if_neg hnn, if_pos hm]))) (fun s hs => by subst hs; rfl) (fun z => absurd z (by decide)) (fun s hs => by subst hs; exact nx.same (hI.cd 3) rfl)
          · have h0 : 0 ≤ ixO (tS 55) c := of_decide_eq_true (hmi.symm.trans hm)
            have hmf : ¬ mIs c = false := by rw [hm]; decide
            have e5 := (hd.has (k := 5) (by decide)).1
            have e6 := (hd2.has (k := 5) (by decide)).1
            rw [ek] at e5
            rw [ek2] at e6
            have e5 : pHas σ (sx X i 1).toNat 5 = mHas σ (sx X i 1) 5 := e5
            have e6 : pHas σ (sx X i 2).toNat 5 = mHas σ (sx X i 2) 5 := e6
            cases hp5 : pHas σ (sx X i 1).toNat 5
            · exact cs hG hi hc (by decide) (by decide) (r := 4) (w := 0) (by decide) (by decide) (hl_mix_U hG (x4_mix_b6 hG hk hk2 hc9 hh hh2 hW h0 hp5)) (QM.of (m_mix_e (v := 4) hG hM hA1 hA2 hc9 (by decide) (by unfold mNoM; rw [if_pos hsl, if_neg hnn, if_neg hmf, if_neg (fun z => absurd ((e5.symm.trans hp5).symm.trans z.1) (by decide))]))) (fun s hs => by subst hs; rfl) (fun z => absurd z (by decide)) (fun s hs => by subst hs; exact nx.same (hI.cd 4) rfl)
            · cases hp6 : pHas σ (sx X i 2).toNat 5
              · exact cs hG hi hc (by decide) (by decide) (r := 4) (w := 0) (by decide) (by decide) (hl_mix_U hG (x4_mix_b7 hG hk hk2 hc9 hh hh2 hW h0 hp5 hp6)) (QM.of (m_mix_e (v := 4) hG hM hA1 hA2 hc9 (by decide) (by unfold mNoM; rw [if_pos hsl, if_neg hnn, if_neg hmf, if_neg (fun z => absurd ((e6.symm.trans hp6).symm.trans z.2) (by decide))]))) (fun s hs => by subst hs; rfl) (fun z => absurd z (by decide)) (fun s hs => by subst hs; exact nx.same (hI.cd 4) rfl)
              · obtain ⟨hsw, hs1⟩ := mIs_sw hm
                have hm5 : mHas σ (sx X i 1) 5 = true := e5.symm.trans hp5
                have hm6 : mHas σ (sx X i 2) 5 = true := e6.symm.trans hp6
                have hN : mNoM σ (sx X i 1) (sx X i 2) c = 0 := by unfold mNoM; rw [if_pos hsl, if_neg hnn, if_neg hmf, if_pos ⟨hm5, hm6⟩]
                have hCS := CS_e hd hd2 hs1
                rw [ek, ek2] at hCS
                obtain ⟨v1, v2, -⟩ := wv_e (sw := ixO (tS 51) c) hW (j := (sx X i 1).toNat) (i := (sx X i 2).toNat) (by omega) (by omega) (fun k hk => hd.be hk) (fun k hk => hd2.be hk)
                have v2 : cnt (pMixW σ (sx X i 1) (sx X i 2) c) 6 = min 128 (CS σ (sx X i 1).toNat (sx X i 2).toNat (ixO (tS 51) c)) := v2
                have v1 : CT σ (pMixW σ (sx X i 1) (sx X i 2) c) := v1
                have noM : ∀ a : St, Sq σ a → mNoM a (sx X i 1) (sx X i 2) c = 0 ∧ mHas a (sx X i 1) 5 = true := fun a ha => by
                  have y1 := (ha.many (sx X i 1) 5).2.2.2
                  have y2 := (ha.many (sx X i 2) 5).2.2.2
                  refine ⟨?_, y1.trans hm5⟩
                  unfold mNoM
                  rw [ha.2.2.2, y1, y2]
                  exact hN
                by_cases h60 : CS σ (sx X i 1).toNat (sx X i 2).toNat (ixO (tS 51) c) ≤ 60
                · have X4 := x4_mix (xs := xs) hG hk hk2 hc9 hh hh2 hW h0 hp5 hp6 (by omega)
                  have q := hI.weave (j := (sx X i 1).toNat) (i := (sx X i 2).toNat) (by omega) (by omega) hd hd2 (cs := ixO (tS 51) c) (ms := ixO (tS 51) c) hs1 (fun _ => rfl) h60 (cnt (pMix σ (sx X i 1) (sx X i 2) c) 5)
                  rw [ek, ek2] at q
                  obtain ⟨q1, q2, q3, q4⟩ := q
                  have ht := tak_F 0 (by omega) (σ := pMixW σ (sx X i 1) (sx X i 2) c) (i := 5) (j := 6) (by omega) v1.1
                  have h2 : (pMix σ (sx X i 1) (sx X i 2) c).2 = σ.2 := ht.2.2.2.2.2.2.2.2.1.trans v1.2.1.2.2.2.2.2.2.2
                  have hrcT : rc (pMix σ (sx X i 1) (sx X i 2) c) = rc σ := ht.2.2.2.2.2.2.1.trans v1.2.1.2.2.2.2.2.1
                  have hr := (Wk_tak (i := 5) (j := 6) 0 (by omega) v1.1).1 5
                  have hr : 0 ≤ cnt (pMix σ (sx X i 1) (sx X i 2) c) 5 ∧ cnt (pMix σ (sx X i 1) (sx X i 2) c) 5 ≤ 128 := hr
                  have q1 : Inv (mAll (sMcd (sOv (pMix σ (sx X i 1) (sx X i 2) c) (cnt (pMix σ (sx X i 1) (sx X i 2) c) 5)) 0) (sx X i 1) (sx X i 2) (ixO (tS 51) c)) := q1
                  have q2 : msz (mAll (sMcd (sOv (pMix σ (sx X i 1) (sx X i 2) c) (cnt (pMix σ (sx X i 1) (sx X i 2) c) 5)) 0) (sx X i 1) (sx X i 2) (ixO (tS 51) c)) = cnt (pMix σ (sx X i 1) (sx X i 2) c) 5 := q2
                  have q3 : aRest (sMcd (sOv (pMix σ (sx X i 1) (sx X i 2) c) (cnt (pMix σ (sx X i 1) (sx X i 2) c) 5)) 0) (sx X i 1) (sx X i 2) (ixO (tS 51) c) 0 ≤ 60 := q3
                  have q4 : (mAll (sMcd (sOv (pMix σ (sx X i 1) (sx X i 2) c) (cnt (pMix σ (sx X i 1) (sx X i 2) c) 5)) 0) (sx X i 1) (sx X i 2) (ixO (tS 51) c)).1 = (pMix σ (sx X i 1) (sx X i 2) c).1 := q4
                  generalize pMix σ (sx X i 1) (sx X i 2) c = a at X4 h2 hrcT hr q1 q2 q3 q4
                  obtain ⟨f1, f2, f3, f4, f5, f6⟩ := ov_f h2 (cnt a 5)
                  have hs1l := hd.sl
                  have hs2l := hd2.sl
                  rw [ek] at hs1l
                  rw [ek2] at hs2l
                  have h1 := hd.one.1
                  rw [ek] at h1
                  have hMa := hM.ovd h2 (cnt a 5)
                  obtain ⟨w1, w2⟩ := noM _ f5
                  have hsum : mSumF (sOv a (cnt a 5)) (sx X i 1) (sx X i 2) c 0 0 ≤ 60 := by
                    rw [mSumF_e hsw w2]
                    rw [aRest_c f5 _ _ _ 0 (by omega), ← aRest_c f6 _ _ _ 0 (by omega)]
                    exact q3
                  have m := m_mix_0 (xs := xs) hG hMa hk hk2 hc9 w1 hsum hsw hs1 (hs1l.c f5) (hs2l.c f5) (by rw [(f5.many (sx X i 1) 1).2.2.2]; exact h1) q3
                  have hG9 := (mAll_g (hMa.cd 0) hk hk2 hs1 (hs1l.c f5) (hs2l.c f5) (by rw [(f6.many (sx X i 1) 1).2.2.2]; exact h1) q3).2.1
                  rw [q2] at m
                  generalize mAll (sMcd (sOv a (cnt a 5)) 0) (sx X i 1) (sx X i 2) (ixO (tS 51) c) = z at q1 q4 m hG9
                  exact cs hG hi hc (by decide) (by decide) (r := 0) (w := cnt a 5) (by decide) (by omega) (hl_mix hG (by omega) X4) (QM.of m) (fun s hs => by subst hs; exact hG9.2.2.2.2.2.2.2.2.2.2.2.2) (fun _ s hs => by subst hs; exact hG9.2.1) (fun s hs => by subst hs; exact nx.same q1 ((rc1 q4).trans hrcT))
                · have X4 := x4_mix_b8 (xs := xs) hG hk hk2 hc9 hh hh2 hW h0 hp5 hp6 (by omega)
                  generalize pMixW σ (sx X i 1) (sx X i 2) c = a at X4 v1
                  obtain ⟨u1', u2', u3'⟩ := v1
                  have h2 : a.2 = σ.2 := u2'.2.2.2.2.2.2.2
                  obtain ⟨m1, m2, m3, m4, m5, m6, m7, m8, m9⟩ := md (a := a) (σ := σ) (by rw [h2])
                  have hq : Sq σ a := ⟨m3.2.1, m3.2.2.1, m3.2.2.2.1, m3.1⟩
                  obtain ⟨w1, w2⟩ := noM a hq
                  have hsum : 60 < mSumF a (sx X i 1) (sx X i 2) c 0 0 := by
                    rw [mSumF_e hsw w2, aRest_c hq _ _ _ 0 (by omega)]
                    omega
                  have hI2 : Inv (sMcd a 5) := hI.step (a := a) (b := sMcd a 5) (by rw [h2]) rfl u1' (u2'.R9 h9) (same_cs u2' (fun q hq4 => u3' q (by omega))) (m1 hM) m3 ⟨(u3' 5 (by decide)).2.trans (hn.trans m5.symm), (u3' 5 (by decide)).1.trans (hT.2.1.trans m4.symm), m2 hT.2.2⟩ ⟨u2'.2.2.2.2.2.1.trans (hrm.trans m6.symm), fun z => by
                    have z : rc a ≠ 0 := z
                    rw [u2'.2.2.2.2.2.1] at z
                    exact u2'.2.2.2.2.2.2.1.trans ((hI.2.2.2.2.2.2 z).trans m7.symm)⟩
                  exact cs hG hi hc (by decide) (by decide) (r := 5) (w := 0) (by decide) (by decide) (hl_mix_S hG X4) (QM.of (m_mix_5 hG (m1 hM) hk hk2 hc9 w1 hsum)) (fun s hs => by subst hs; rfl) (fun z => absurd z (by decide)) (fun s hs => by subst hs; exact nx.same hI2 u2'.2.2.2.2.2.1)
    · exact cs hG hi hc (by decide) (by decide) (r := 1) (w := 0) (by decide) (by decide) (hl_mix_I hG (x4_mix_b2 hG hk hA2 (by omega))) (QM.of (m_mix_e (v := 1) hG hM hA1 hA2 hc9 (by decide) (by unfold mNoM; rw [if_neg (by omega)]))) (fun s hs => by subst hs; rfl) (fun z => absurd z (by decide)) (fun s hs => by subst hs; exact nx.same (hI.cd 1) rfl)
  · exact cs hG hi hc (by decide) (by decide) (r := 1) (w := 0) (by decide) (by decide) (hl_mix_I hG (x4_mix_b1 hG hA1 (by omega))) (QM.of (m_mix_e (v := 1) hG hM hA1 hA2 hc9 (by decide) (by unfold mNoM; rw [if_neg (by omega)]))) (fun s hs => by subst hs; rfl) (fun z => absurd z (by decide)) (fun s hs => by subst hs; exact nx.same (hI.cd 1) rfl)
theorem do_isTrue (hG : Full γ) (hi : 0 ≤ i ∧ i + 4 ≤ Ln ∧ Ln ≤ 2048) (hc : c1 + 20 ≤ 601024 ∧ n1 + 60 ≤ 7293034) (hI : Inv σ) (hr9 : rc σ ≤ 1000) (nx : NX γ b Ln X Q c1 n1 i σ xs) : GW γ mLaw room_1 (ZL γ b Ln X) Q c1 n1 1458 (LL γ b i none none) [] σ xs := by
  have hW := hI.1
  have h9 := hI.2.1
  have hM := hI.2.2.1
  have hT := hI.2.2.2.1
  have hn := hT.1
  have hz := hM.sz
  have hp := hT.2.2.le
  have hpm := hM.pm
  have hrf := hM.rf
  have hrm := hI.2.2.2.2.2.1
  have hrc : 0 ≤ rc σ ∧ rc σ ≤ 2147483647 := by omega
  have hA1 := sx_r X i 1
  have hA2 := sx_r X i 2
  have hA3 := sx_r X i 3
  obtain ⟨q1, q2, q3⟩ := hI.thm
  have X4 := x4_isTrue (xs := xs) hG hW h9
  rw [q1] at X4
  exact cs_isTrue hG hi hc (by decide) (by decide) (w := true) X4 (QM.of (m_isTrue hG)) (fun s hs => by subst hs; exact nx.same q2 q3)
theorem do_checksum (hG : Full γ) (hi : 0 ≤ i ∧ i + 4 ≤ Ln ∧ Ln ≤ 2048) (hc : c1 + 20 ≤ 601024 ∧ n1 + 60 ≤ 7293034) (hI : Inv σ) (hr9 : rc σ ≤ 1000) (nx : NX γ b Ln X Q c1 n1 i σ xs) : GW γ mLaw room_1 (ZL γ b Ln X) Q c1 n1 1471 (LL γ b i none none) [] σ xs := by
  have hW := hI.1
  have h9 := hI.2.1
  have hM := hI.2.2.1
  have hT := hI.2.2.2.1
  have hn := hT.1
  have hz := hM.sz
  have hp := hT.2.2.le
  have hpm := hM.pm
  have hrf := hM.rf
  have hrm := hI.2.2.2.2.2.1
  have hrc : 0 ≤ rc σ ∧ rc σ ≤ 2147483647 := by omega
  have hA1 := sx_r X i 1
  have hA2 := sx_r X i 2
  have hA3 := sx_r X i 3
  have m := m_checksum (xs := xs) hG hM
  rw [mCk_cd, ← hI.ck] at m
  exact cs_checksum hG hi hc (by decide) (by decide) (w := ckS σ) (x4_checksum hG hW hrc) (QM.of m) (fun s hs => by subst hs; exact nx.same (hI.cd 0) rfl)
end DO
