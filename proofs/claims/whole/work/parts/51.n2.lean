/-! MATHS 2: the cut of the class is the cut of the model: where it refuses -/
def orE (a b : Int) : Int := if a = -1 then b else a
theorem orE_n (a : Int) : orE a (-1) = a := by unfold orE; split <;> omega
theorem orE_1 (b : Int) : orE (-1) b = b := if_pos rfl
theorem orE_k {a : Int} (h : a ≠ -1) (b : Int) : orE a b = a := if_neg h
theorem rf_mk (σ : St) (j : Nat) (k b e : Int) : rf (pMk σ j k b e) = rf σ := by unfold pMk; split <;> rfl
theorem rf_ref (σ : St) (p : Int) : rf (pRef σ p) = orE (rf σ) p := by unfold pRef orE; split <;> rfl
theorem rf_part (σ : St) (t : Int → Int) (n k b : Int) (w : Nat) : rf (sPart σ t n k b w) = orE (rf σ) (mBad t b (ePart t n b w)) := by
  have e : mBad t b (ePart t n b w) = if bPart t n b w < ePart t n b w then bPart t n b w else -1 := rfl
  unfold sPart
  rw [rf_mk, e]
  split
  · exact rf_ref _ _
  · exact (orE_n _).symm
theorem rf_sch (σ : St) (t : Int → Int) (n : Int) : rf (sSch σ t (gCol t n)) = orE (rf σ) (mPlW t n) := by
  unfold sSch mPlW
  split
  · exact (orE_n _).symm
  · rw [rf_mk]
    split
    · rename_i h
      rw [h, orE_n]
    · exact rf_ref _ _
theorem mBad_0 (t : Int → Int) (b : Int) : mBad t b b = -1 := by unfold mBad; rw [nxt_e (by omega), if_neg (by omega)]
theorem rf_opq (σ : St) (t : Int → Int) (n r : Int) : rf (sOpq σ t n r) = orE (rf σ) (if ePart t n r 2 = r then r else mBad t r (ePart t n r 2)) := by
  unfold sOpq
  split
  · rename_i h
    rw [rf_ref, rf_part, h, mBad_0, orE_n]
  · exact rf_part _ _ _ _ _ _
theorem rf_aut (σ : St) {t : Int → Int} {n r : Int} : rf (sAut σ t n r) = orE (rf σ) (if gSl t r = true ∧ ¬ r + 2 < eAut t n r ∧ eAut t n r = n then n else -1) := by
  unfold sAut
  split
  · rename_i h
    split
    · rename_i h2
      rw [rf_mk, if_neg (fun z => z.2.1 h2), orE_n]
    · rename_i h2
      split
      · rename_i h3
        rw [if_pos ⟨h, h2, h3⟩, rf_ref, h3]
      · rename_i h3
        rw [if_neg (fun z => h3 z.2.2), orE_n]
  · rename_i h
    rw [if_neg (fun z => h z.1), orE_n]
theorem rf_pq (σ : St) (t : Int → Int) (n r b : Int) : rf (sPQ σ t n r b) = orE (orE (rf σ) (mBad t b (ePart t n b 5))) (if t (ePart t n b 5) = 63 then mBad t (ePart t n b 5 + 1) (ePart t n (ePart t n b 5 + 1) 2) else -1) := by
  unfold sPQ
  rw [rf_mk]
  split
  · rw [rf_part, rf_part]
  · rw [rf_part, orE_n]
theorem isC2 {t : Int → Int} {p : Int} : isC t 2 p = decide (t p = 35) := ix2 (t p)
theorem isC3_35 {t : Int → Int} {p : Int} (h : t p = 35) : isC t 3 p = false := by
  unfold isC
  rw [h]
  decide +kernel
theorem mFr_e {t : Int → Int} {n : Int} : ∀ k : Int, k ≤ n → 0 ≤ k → mFrF t n k = orE (mBad t k (ePart t n k 2)) (if ePart t n k 2 < n then ePart t n k 2 else -1) := by
  refine up (fun k hk ih h0 => ?_)
  rw [mFrF.eq_def]
  by_cases h1 : k < n
  · rw [if_pos h1]
    by_cases h35 : t k = 35
    · have e : ePart t n k 2 = k := nxt_t h1 (by rw [isC2, decide_eq_true h35])
      rw [if_pos (Or.inr h35), e, mBad_0, orE_1, if_pos h1]
    · have e : ePart t n k 2 = ePart t n (k + 1) 2 := nxt_f h1 (by rw [isC2, decide_eq_false h35])
      have er := ePart_r t (n := n) (b := k + 1) 2 (by omega)
      cases h3 : isC t 3 k
      · rw [if_neg (by rintro (z | z); exact absurd z (by decide); exact h35 z), ih (k + 1) (by omega) (by omega) (by omega), e]
        unfold mBad
        rw [nxt_f (b := k) (by omega) h3]
      · have hb : mBad t k (ePart t n k 2) = k := by
          unfold mBad
          rw [nxt_t (by omega) h3, if_pos (by omega)]
        rw [if_pos (Or.inl rfl), hb, orE_k (by omega)]
  · have e : ePart t n k 2 = n := nxt_e (by omega)
    have e2 : k = n := by omega
    rw [if_neg h1, e, if_neg (by omega), orE_n, e2, mBad_0]
theorem rf_frg (σ : St) {t : Int → Int} {n h : Int} (hT : Tz t n) : rf (sFrg σ t n h) = orE (rf σ) (mPlF t n h) := by
  unfold sFrg mPlF
  split
  · rename_i h35
    have hl := hT.lt (by decide) h35
    rw [mFr_e (h + 1) (by omega) (by omega)]
    have er := ePart_r t (n := n) (b := h + 1) 2 (by omega)
    split
    · rename_i hlt
      rw [rf_ref, rf_part]
      generalize rf σ = x
      unfold orE
      repeat' split
      all_goals omega
    · rw [rf_part, orE_n]
  · exact (orE_n _).symm
theorem rf_srv (σ : St) (t : Int → Int) (b e : Int) : rf (sSrv σ t b e) = rf σ := by
  unfold sSrv
  split
  · show rf (pMk (if hSign t b e < e then pMk σ 4 3 b (hSign t b e) else σ) 4 4 (hHost t b e) (hCol t b e)) = rf σ
    rw [rf_mk]
    split
    · exact rf_mk _ _ _ _ _
    · rfl
  · rfl
theorem rf_cut0 {σ : St} (i : Nat) (hW : Wk σ) : rf (sCut0 σ i) = -1 := by
  have hW2 : Wk (pFg (sRf σ (-1)) 4) := Wk_fg (Wk_rf hW (by omega))
  obtain ⟨-, -, -, -, -, d6, -⟩ := tak_F 0 (by omega) (σ := pFg (sRf σ (-1)) 4) (i := 4) (j := i) (by omega) hW2
  obtain ⟨-, -, a3, -⟩ := fg_F (j := 4) 0 (by omega) (σ := sRf σ (-1)) (by omega)
  unfold sCut0
  rw [rf_mk, d6]
  exact a3
/-- where a text is refused -/
theorem rf_cut {σ : St} {i : Nat} (hW : Wk σ) (hT : Tz (pAt σ i) (cnt σ i)) : rf (sCut σ i) = mPl (pAt σ i) (cnt σ i) := by
  have h0 := rf_cut0 i hW
  generalize ht : pAt σ i = t at hT ⊢
  generalize hn : cnt σ i = n at hT ⊢
  have e1 : sCut σ i = sCut5 (sCut0 σ i) t n := by unfold sCut; rw [ht, hn]
  have hC := hT.gCol
  have hA := hT.eAut (r := gCol t n + 1) (by omega)
  have e2 : rf (sCut5 (sCut0 σ i) t n) = rf (sCut4 (sCut0 σ i) t n) := rfl
  have e3 : rf (sCut4 (sCut0 σ i) t n) = rf (sCut3 (sCut0 σ i) t n) := by
    unfold sCut4
    split
    · exact rf_srv _ _ _ _
    · rfl
  rw [e1, e2, e3]
  unfold sCut3
  rw [rf_frg _ hT]
  unfold sCut2 mPl mPlR cHash
  by_cases ho : cOpq t n = true
  · rw [if_pos ho, if_pos ho, if_pos ho, rf_opq, rf_sch, h0, orE_1]
    unfold mPlO
    have hP := mBad_r t (b := gCol t n + 1) (e := ePart t n (gCol t n + 1) 2) (ePart_r t 2 (by omega)).1
    generalize mPlW t n = w
    generalize mBad t (gCol t n + 1) (ePart t n (gCol t n + 1) 2) = bb at hP ⊢
    generalize mPlF t n (ePart t n (gCol t n + 1) 2) = ff
    unfold orE
    repeat' split
    all_goals omega
  · rw [if_neg ho, if_neg ho, if_neg ho, rf_pq, rf_aut, rf_sch, h0, orE_1]
    unfold mPlN mPlP mPlQ ePQ
    have hA2 : gSl t (gCol t n + 1) = true → (¬ gCol t n + 1 + 2 < eAut t n (gCol t n + 1) ↔ eAut t n (gCol t n + 1) = gCol t n + 1 + 2) := fun z => by
      have := hA.2.2 z
      omega
    have hn0 := hT.1
    generalize mPlW t n = w
    generalize eAut t n (gCol t n + 1) = a at hA hA2 ⊢
    generalize gSl t (gCol t n + 1) = g at hA hA2 ⊢
    generalize gCol t n + 1 = r at hA hA2 ⊢
    generalize ePart t n a 5 = p
    generalize mBad t a p = b1
    by_cases hq : t p = 63
    · rw [if_pos hq, if_pos hq, if_pos hq]
      generalize ePart t n (p + 1) 2 = q
      generalize mBad t (p + 1) q = b2
      generalize mPlF t n q = ff
      by_cases hg : g = true ∧ a = r + 2 ∧ a = n
      · rw [if_pos hg, if_pos ⟨hg.1, by omega, hg.2.2⟩]
        unfold orE
        repeat' split
        all_goals omega
      · rw [if_neg hg, if_neg (fun z => hg ⟨z.1, (hA2 z.1).mp z.2.1, z.2.2⟩)]
        unfold orE
        repeat' split
        all_goals omega
    · rw [if_neg hq, if_neg hq, if_neg hq]
      generalize mPlF t n p = ff
      by_cases hg : g = true ∧ a = r + 2 ∧ a = n
      · rw [if_pos hg, if_pos ⟨hg.1, by omega, hg.2.2⟩]
        unfold orE
        repeat' split
        all_goals omega
      · rw [if_neg hg, if_neg (fun z => hg ⟨z.1, (hA2 z.1).mp z.2.1, z.2.2⟩)]
        unfold orE
        repeat' split
        all_goals omega
