/-! Cutter: its methods as functions of the state; t and n are the text that is cut and its size -/
def Rk (σ : St) (j : Nat) : Prop := ∀ k : Nat, bg σ j k = -1 ∨ (0 ≤ bg σ j k ∧ bg σ j k ≤ en σ j k ∧ en σ j k ≤ cnt σ j)
def Cu (σ : St) (t : Int → Int) (n : Int) : Prop := Wk σ ∧ Rk σ 4 ∧ cnt σ 4 = n ∧ pAt σ 4 = t
def pRef (σ : St) (p : Int) : St := if rf σ = -1 then sRf σ p else σ
def ePart (t : Int → Int) (n b : Int) (w : Nat) : Int := nxt (isC t w) b n
def bPart (t : Int → Int) (n b : Int) (w : Nat) : Int := nxt (isC t 3) b (ePart t n b w)
def sPart (σ : St) (t : Int → Int) (n k b : Int) (w : Nat) : St := pMk (if bPart t n b w < ePart t n b w then pRef σ (bPart t n b w) else σ) 4 k b (ePart t n b w)
def sSch (σ : St) (t : Int → Int) (c : Int) : St := if c = -1 then σ else pMk (if gWr t c = -1 then σ else pRef σ (gWr t c)) 4 0 0 c
def sOpq (σ : St) (t : Int → Int) (n r : Int) : St := if ePart t n r 2 = r then pRef (sPart σ t n 1 r 2) r else sPart σ t n 1 r 2
def eAut (t : Int → Int) (n r : Int) : Int := if gSl t r = true then nxt (isC t 4) (r + 2) n else r
def sAut (σ : St) (t : Int → Int) (n r : Int) : St := if gSl t r = true then (if r + 2 < eAut t n r then pMk σ 4 2 (r + 2) (eAut t n r) else if eAut t n r = n then pRef σ (eAut t n r) else σ) else σ
def ePQ (t : Int → Int) (n b : Int) : Int := if t (ePart t n b 5) = 63 then ePart t n (ePart t n b 5 + 1) 2 else ePart t n b 5
def sPQ (σ : St) (t : Int → Int) (n r b : Int) : St := pMk (if t (ePart t n b 5) = 63 then sPart (sPart σ t n 5 b 5) t n 6 (ePart t n b 5 + 1) 2 else sPart σ t n 5 b 5) 4 1 r (ePQ t n b)
def sFrg (σ : St) (t : Int → Int) (n h : Int) : St := if t h = 35 then (if ePart t n (h + 1) 2 < n then pRef (sPart σ t n 7 (h + 1) 2) (ePart t n (h + 1) 2) else sPart σ t n 7 (h + 1) 2) else σ
def hSign (t : Int → Int) (b e : Int) : Int := nxt (isC t 6) b e
def hHost (t : Int → Int) (b e : Int) : Int := if hSign t b e < e then hSign t b e + 1 else b
def hCol (t : Int → Int) (b e : Int) : Int := nxt (isC t 7) (hHost t b e) e
def hIs (t : Int → Int) (b e : Int) : Bool := gNam t (hHost t b e) (hCol t b e) || gFou t (hHost t b e) (hCol t b e)
def sSrv (σ : St) (t : Int → Int) (b e : Int) : St := if hIs t b e = true ∧ gPrt t (hCol t b e + 1) e = true then (let s := pMk (if hSign t b e < e then pMk σ 4 3 b (hSign t b e) else σ) 4 4 (hHost t b e) (hCol t b e); sPt s (u1 (pt s) 4 (gNum t (hCol t b e + 1) e 2147483647))) else σ
def sCut0 (σ : St) (i : Nat) : St := pMk (pTak (pFg (sRf σ (-1)) 4) 4 i 0) 4 8 0 (cnt (pTak (pFg (sRf σ (-1)) 4) 4 i 0) 4)
def cOpq (t : Int → Int) (n : Int) : Bool := decide (gCol t n ≠ -1 ∧ t (gCol t n + 1) ≠ 47)
def cHash (t : Int → Int) (n : Int) : Int := if cOpq t n = true then ePart t n (gCol t n + 1) 2 else ePQ t n (eAut t n (gCol t n + 1))
def sCut2 (s : St) (t : Int → Int) (n : Int) : St := if cOpq t n = true then sOpq (sSch s t (gCol t n)) t n (gCol t n + 1) else sPQ (sAut (sSch s t (gCol t n)) t n (gCol t n + 1)) t n (gCol t n + 1) (eAut t n (gCol t n + 1))
def sCut3 (s : St) (t : Int → Int) (n : Int) : St := sFrg (sCut2 s t n) t n (cHash t n)
def sCut4 (s : St) (t : Int → Int) (n : Int) : St := if pHas (sCut3 s t n) 4 2 = true then sSrv (sCut3 s t n) t (pBeg (sCut3 s t n) 4 2) (pEnd (sCut3 s t n) 4 2) else sCut3 s t n
def sCut5 (s : St) (t : Int → Int) (n : Int) : St := sHd (sCut4 s t n) (u1 (hld (sCut4 s t n)) 4 (decide (rf (sCut4 s t n) = -1)))
def sCut (σ : St) (i : Nat) : St := sCut5 (sCut0 σ i) (pAt σ i) (cnt σ i)
theorem pAt_out {σ : St} {i : Nat} {p c : Int} (hc : c ≠ 0) (h : pAt σ i p = c) : 0 ≤ p ∧ p < cnt σ i := by
  unfold pAt at h
  split at h <;> omega
theorem Cu.mk {σ : St} {t : Int → Int} {n : Int} (h : Cu σ t n) {k b e : Int} (hb : 0 ≤ b ∧ b ≤ e ∧ e ≤ n) : Cu (pMk σ 4 k b e) t n := by
  obtain ⟨h1, h2, h3, h4⟩ := h
  have hn := h1.1 4
  refine ⟨Wk_mk h1 4 k (by omega) (by omega), fun k' => ?_, ?_, ?_⟩
  · unfold pMk
    split
    · show u2 (bg σ) 4 k.toNat b 4 k' = -1 ∨ (0 ≤ u2 (bg σ) 4 k.toNat b 4 k' ∧ u2 (bg σ) 4 k.toNat b 4 k' ≤ u2 (en σ) 4 k.toNat e 4 k' ∧ u2 (en σ) 4 k.toNat e 4 k' ≤ cnt σ 4)
      have := h2 k'
      unfold u2 u1
      simp only [if_true]
      split <;> omega
    · exact h2 k'
  · unfold pMk; split <;> exact h3
  · rw [← h4]
    unfold pMk
    split <;> rfl
theorem Cu.ref {σ : St} {t : Int → Int} {n : Int} (h : Cu σ t n) {p : Int} (hp : 0 ≤ p ∧ p ≤ n) : Cu (pRef σ p) t n := by
  have hn := h.1.1 4
  have := h.2.2.1
  unfold pRef
  split
  · exact ⟨Wk_rf h.1 (by omega), h.2.1, h.2.2.1, h.2.2.2⟩
  · exact h
theorem Cu.n {σ : St} {t : Int → Int} {n : Int} (h : Cu σ t n) : 0 ≤ n ∧ n ≤ 128 := by have := h.1.1 4; have := h.2.2.1; omega
theorem ePart_r (t : Int → Int) {n b : Int} (w : Nat) (hb : b ≤ n) : b ≤ ePart t n b w ∧ ePart t n b w ≤ n := nxt_rng _ n b hb
theorem bPart_r (t : Int → Int) {n b : Int} (w : Nat) (hb : b ≤ n) : b ≤ bPart t n b w ∧ bPart t n b w ≤ ePart t n b w := nxt_rng _ _ b (ePart_r t w hb).1
theorem Cu.part {σ : St} {t : Int → Int} {n : Int} (h : Cu σ t n) {k b : Int} {w : Nat} (hb : 0 ≤ b ∧ b ≤ n) : Cu (sPart σ t n k b w) t n := by
  have h1 := ePart_r t w hb.2
  have h2 := bPart_r t w hb.2
  unfold sPart
  split
  · exact (h.ref (by omega)).mk (by omega)
  · exact h.mk (by omega)
theorem gWr_r {t : Int → Int} {c : Int} (h : 0 ≤ c) : -1 ≤ gWr t c ∧ gWr t c ≤ c := by
  unfold gWr
  split
  · omega
  · by_cases h1 : 1 ≤ c
    · have := gWrF_rng t c 1 h1 (by omega)
      omega
    · unfold gWrF
      rw [if_neg (by omega)]
      omega
theorem Cu.sch {σ : St} {t : Int → Int} {n : Int} (h : Cu σ t n) {c : Int} (hc : -1 ≤ c ∧ c ≤ n) : Cu (sSch σ t c) t n := by
  unfold sSch
  split
  · exact h
  · have := gWr_r (t := t) (c := c) (by omega)
    split
    · exact h.mk (by omega)
    · exact (h.ref (by omega)).mk (by omega)
theorem Cu.opq {σ : St} {t : Int → Int} {n : Int} (h : Cu σ t n) {r : Int} (hr : 0 ≤ r ∧ r ≤ n) : Cu (sOpq σ t n r) t n := by
  unfold sOpq
  split
  · exact (h.part hr).ref (by omega)
  · exact h.part hr
theorem gSl_r {σ : St} {t : Int → Int} {n : Int} (h : Cu σ t n) {r : Int} (hs : gSl t r = true) : 0 ≤ r ∧ r + 2 ≤ n := by
  rw [← h.2.2.2] at hs
  have := gSl_lt hs
  have := h.2.2.1
  omega
theorem eAut_r {σ : St} {t : Int → Int} {n : Int} (h : Cu σ t n) {r : Int} (hr : 0 ≤ r ∧ r ≤ n) : r ≤ eAut t n r ∧ eAut t n r ≤ n ∧ (gSl t r = true → r + 2 ≤ eAut t n r) := by
  unfold eAut
  split
  · rename_i hs
    have := gSl_r h hs
    have := nxt_rng (isC t 4) n (r + 2) (by omega)
    omega
  · rename_i hs
    exact ⟨by omega, by omega, fun z => absurd z hs⟩
theorem Cu.aut {σ : St} {t : Int → Int} {n : Int} (h : Cu σ t n) {r : Int} (hr : 0 ≤ r ∧ r ≤ n) : Cu (sAut σ t n r) t n := by
  have h1 := eAut_r h hr
  unfold sAut
  split
  · split
    · exact h.mk (by omega)
    · split
      · exact h.ref (by omega)
      · exact h
  · exact h
theorem t_lt {σ : St} {t : Int → Int} {n : Int} (h : Cu σ t n) {p c : Int} (hc : c ≠ 0) (hp : t p = c) : 0 ≤ p ∧ p < n := by
  rw [← h.2.2.2] at hp
  have := pAt_out hc hp
  have := h.2.2.1
  omega
theorem ePQ_r {σ : St} {t : Int → Int} {n : Int} (h : Cu σ t n) {b : Int} (hb : 0 ≤ b ∧ b ≤ n) : b ≤ ePQ t n b ∧ ePQ t n b ≤ n := by
  have h1 := ePart_r t 5 hb.2
  unfold ePQ
  split
  · rename_i hq
    have := t_lt h (by decide) hq
    have := ePart_r t (n := n) (b := ePart t n b 5 + 1) 2 (by omega)
    omega
  · omega
theorem Cu.pq {σ : St} {t : Int → Int} {n : Int} (h : Cu σ t n) {r b : Int} (hr : 0 ≤ r ∧ r ≤ b) (hb : b ≤ n) : Cu (sPQ σ t n r b) t n := by
  have h1 := ePQ_r h (b := b) (by omega)
  have h2 := ePart_r t 5 hb
  unfold sPQ
  split
  · rename_i hq
    have := t_lt h (by decide) hq
    exact ((h.part (by omega)).part (by omega)).mk (by omega)
  · exact (h.part (by omega)).mk (by omega)
theorem Cu.frg {σ : St} {t : Int → Int} {n : Int} (h : Cu σ t n) {p : Int} : Cu (sFrg σ t n p) t n := by
  unfold sFrg
  split
  · rename_i hq
    have := t_lt h (by decide) hq
    have h1 := ePart_r t (n := n) (b := p + 1) 2 (by omega)
    split
    · exact (h.part (by omega)).ref (by omega)
    · exact h.part (by omega)
  · exact h
theorem h_r (t : Int → Int) {b e : Int} (hb : b ≤ e) : b ≤ hSign t b e ∧ hSign t b e ≤ e ∧ b ≤ hHost t b e ∧ hHost t b e ≤ hCol t b e ∧ hCol t b e ≤ e := by
  have h1 := nxt_rng (isC t 6) e b hb
  have h2 : b ≤ hHost t b e ∧ hHost t b e ≤ e := by unfold hHost hSign; split <;> omega
  have h3 := nxt_rng (isC t 7) e (hHost t b e) h2.2
  unfold hSign hCol
  omega
theorem Cu.srv {σ : St} {t : Int → Int} {n : Int} (h : Cu σ t n) {b e : Int} (hb : 0 ≤ b ∧ b ≤ e) (he : e ≤ n) : Cu (sSrv σ t b e) t n := by
  have h1 := h_r t hb.2
  unfold sSrv
  split
  · have h5 : Cu (pMk (if hSign t b e < e then pMk σ 4 3 b (hSign t b e) else σ) 4 4 (hHost t b e) (hCol t b e)) t n := by
      split
      · exact (h.mk (by omega)).mk (by omega)
      · exact h.mk (by omega)
    have h6 := gNum_rng t (by rw [← h.2.2.2]; exact pAt_rng σ 4) (most := 2147483647) (by omega) (hCol t b e + 1) e
    exact ⟨Wk_pt h5.1 4 h6, h5.2.1, h5.2.2.1, h5.2.2.2⟩
  · exact h
theorem gCol_r {σ : St} {t : Int → Int} {n : Int} (h : Cu σ t n) : -1 ≤ gCol t n ∧ gCol t n + 1 ≤ n := by
  have hn := h.n
  have h1 := gColP_rng t hn.1
  unfold gCol
  split
  · rename_i hq
    have := t_lt h (by decide) hq
    omega
  · omega
theorem Cu.cut2 {σ : St} {t : Int → Int} {n : Int} (h : Cu σ t n) : Cu (sCut2 σ t n) t n := by
  have h1 := gCol_r h
  have h2 : Cu (sSch σ t (gCol t n)) t n := h.sch (by omega)
  have h3 := eAut_r h2 (r := gCol t n + 1) (by omega)
  unfold sCut2
  split
  · exact h2.opq (by omega)
  · exact (h2.aut (by omega)).pq (by omega) (by omega)
theorem cHash_r {σ : St} {t : Int → Int} {n : Int} (h : Cu σ t n) : 0 ≤ cHash t n ∧ cHash t n ≤ n := by
  have h1 := gCol_r h
  have h3 := eAut_r h (r := gCol t n + 1) (by omega)
  unfold cHash
  split
  · have := ePart_r t (n := n) (b := gCol t n + 1) 2 (by omega)
    omega
  · have := ePQ_r h (b := eAut t n (gCol t n + 1)) (by omega)
    omega
theorem Cu.cut3 {σ : St} {t : Int → Int} {n : Int} (h : Cu σ t n) : Cu (sCut3 σ t n) t n := h.cut2.frg
theorem pHas_r {σ : St} {t : Int → Int} {n : Int} (h : Cu σ t n) {k : Int} (hk : pHas σ 4 k = true) : 0 ≤ pBeg σ 4 k ∧ pBeg σ 4 k ≤ pEnd σ 4 k ∧ pEnd σ 4 k ≤ n := by
  have h1 := of_decide_eq_true hk
  unfold pBeg at h1 ⊢
  unfold pEnd
  have h2 := h.2.1 k.toNat
  have h3 := h.2.2.1
  split <;> rename_i hc
  · omega
  · omega
theorem Cu.cut4 {σ : St} {t : Int → Int} {n : Int} (h : Cu σ t n) : Cu (sCut4 σ t n) t n := by
  unfold sCut4
  split
  · rename_i hk
    have := pHas_r h.cut3 hk
    exact h.cut3.srv (by omega) (by omega)
  · exact h.cut3
theorem Cu.cut5 {σ : St} {t : Int → Int} {n : Int} (h : Cu σ t n) : Cu (sCut5 σ t n) t n := h.cut4
-- taking a text over, in one step
theorem tak_F : ∀ p : Int, p ≤ 129 → ∀ {σ : St} {i j : Nat}, 0 ≤ p → Wk σ → cnt (pTak σ i j p) = u1 (cnt σ) i (cnt σ j) ∧ bg (pTak σ i j p) = bg σ ∧ en (pTak σ i j p) = en σ ∧ pt (pTak σ i j p) = pt σ ∧ hld (pTak σ i j p) = hld σ ∧ rf (pTak σ i j p) = rf σ ∧ rc (pTak σ i j p) = rc σ ∧ rp (pTak σ i j p) = rp σ ∧ (pTak σ i j p).2 = σ.2 ∧ (∀ k q, k ≠ i → sg (pTak σ i j p) k q = sg σ k q) ∧ (∀ q : Nat, sg (pTak σ i j p) i q % 65536 = if p ≤ q ∧ (q : Int) < cnt σ j then sg σ j q % 65536 else sg σ i q % 65536) := by
  refine up (fun p hp ih σ i j h0 hW => ?_)
  have hc := hW.1 j
  unfold pTak
  split
  · rename_i h1
    obtain ⟨a1, a2, a3, a4, a5, a6, a7, a8, a9, a10, a11⟩ := ih (p + 1) (by omega) (by omega) (σ := sSg σ (u2 (sg σ) i p.toNat (pAt σ j p))) (i := i) (j := j) (by omega) (Wk_sg hW)
    refine ⟨a1, a2, a3, a4, a5, a6, a7, a8, a9, fun k q hk => ?_, fun q => ?_⟩
    · rw [a10 k q hk]
      show u2 (sg σ) i p.toNat (pAt σ j p) k q = sg σ k q
      unfold u2
      rw [u1_n _ _ hk]
    · rw [a11 q]
      show (if p + 1 ≤ (q : Int) ∧ (q : Int) < cnt σ j then u2 (sg σ) i p.toNat (pAt σ j p) j q % 65536 else u2 (sg σ) i p.toNat (pAt σ j p) i q % 65536) = _
      have hq : ∀ k, u2 (sg σ) i p.toNat (pAt σ j p) k q = if k = i ∧ q = p.toNat then pAt σ j p else sg σ k q := by
        intro k
        unfold u2 u1
        by_cases hk : k = i
        · subst hk
          by_cases hqp : q = p.toNat
          · simp [hqp]
          · simp [hqp]
        · simp [hk]
      rw [hq, hq]
      have hpa : pAt σ j p = sg σ j p.toNat % 65536 := by unfold pAt; rw [if_pos (by omega)]
      by_cases hqp : q = p.toNat
      · rw [if_neg (by omega), if_pos ⟨rfl, hqp⟩, if_pos (by omega), hpa, hqp]
        omega
      · by_cases hlt : p + 1 ≤ (q : Int) ∧ (q : Int) < cnt σ j
        · rw [if_pos hlt, if_neg (by omega), if_pos (by omega)]
        · rw [if_neg hlt, if_neg (by omega), if_neg (by omega)]
  · rename_i h1
    refine ⟨rfl, rfl, rfl, rfl, rfl, rfl, rfl, rfl, rfl, fun k q _ => rfl, fun q => ?_⟩
    show sg σ i q % 65536 = _
    rw [if_neg (by omega)]
theorem tak_at {σ : St} {i j : Nat} (hW : Wk σ) : pAt (pTak σ i j 0) i = pAt σ j ∧ cnt (pTak σ i j 0) i = cnt σ j ∧ ∀ k, k ≠ i → pAt (pTak σ i j 0) k = pAt σ k ∧ cnt (pTak σ i j 0) k = cnt σ k := by
  obtain ⟨a1, -, -, -, -, -, -, -, -, a10, a11⟩ := tak_F 0 (by omega) (σ := σ) (i := i) (j := j) (by omega) hW
  have hc := hW.1 j
  refine ⟨?_, by rw [a1, u1_s], fun k hk => ⟨?_, by rw [a1, u1_n _ _ hk]⟩⟩
  · funext p
    unfold pAt
    rw [a1, u1_s]
    split
    · rename_i h
      rw [a11, if_pos (by omega)]
    · rfl
  · funext p
    unfold pAt
    rw [a1, u1_n _ _ hk, a10 k _ hk]
theorem fg_F {j : Nat} : ∀ k : Int, k ≤ 10 → ∀ {σ : St}, 0 ≤ k → cnt (pFgF σ j k) = cnt σ ∧ sg (pFgF σ j k) = sg σ ∧ rf (pFgF σ j k) = rf σ ∧ rc (pFgF σ j k) = rc σ ∧ rp (pFgF σ j k) = rp σ ∧ (pFgF σ j k).2 = σ.2 ∧ (∀ i q, i ≠ j → bg (pFgF σ j k) i q = bg σ i q ∧ en (pFgF σ j k) i q = en σ i q ∧ pt (pFgF σ j k) i = pt σ i ∧ hld (pFgF σ j k) i = hld σ i) ∧ (∀ q : Nat, bg (pFgF σ j k) j q = if k ≤ q ∧ q < 9 then -1 else bg σ j q) ∧ (∀ q : Nat, en (pFgF σ j k) j q = if k ≤ q ∧ q < 9 then -1 else en σ j q) ∧ pt (pFgF σ j k) j = -1 ∧ hld (pFgF σ j k) j = false := by
  refine up (fun k hk ih σ h0 => ?_)
  unfold pFgF
  split
  · rename_i h1
    have e9 : pMk σ j k (-1) (-1) = sEn (sBg σ (u2 (bg σ) j k.toNat (-1))) (u2 (en σ) j k.toNat (-1)) := by unfold pMk; rw [if_pos (by omega)]
    obtain ⟨a1, a2, a3, a4, a5, a6, a7, a8, a9, a10, a11⟩ := ih (k + 1) (by omega) (by omega) (σ := pMk σ j k (-1) (-1)) (by omega)
    have b1 : ∀ i q, bg (pMk σ j k (-1) (-1)) i q = if i = j ∧ q = k.toNat then -1 else bg σ i q := by
      intro i q
      rw [e9]
      show u2 (bg σ) j k.toNat (-1) i q = _
      unfold u2 u1
      by_cases hi : i = j <;> by_cases hq : q = k.toNat <;> simp [hi, hq]
    have b2 : ∀ i q, en (pMk σ j k (-1) (-1)) i q = if i = j ∧ q = k.toNat then -1 else en σ i q := by
      intro i q
      rw [e9]
      show u2 (en σ) j k.toNat (-1) i q = _
      unfold u2 u1
      by_cases hi : i = j <;> by_cases hq : q = k.toNat <;> simp [hi, hq]
    refine ⟨by rw [a1, e9]; rfl, by rw [a2, e9]; rfl, by rw [a3, e9]; rfl, by rw [a4, e9]; rfl, by rw [a5, e9]; rfl, by rw [a6, e9]; rfl, fun i q hi => ?_, fun q => ?_, fun q => ?_, a10, a11⟩
    · obtain ⟨c1, c2, c3, c4⟩ := a7 i q hi
      refine ⟨by rw [c1, b1, if_neg (by omega)], by rw [c2, b2, if_neg (by omega)], by rw [c3, e9]; rfl, by rw [c4, e9]; rfl⟩
    · rw [a8, b1]
      by_cases hq : q = k.toNat
      · rw [if_neg (by omega), if_pos ⟨rfl, hq⟩, if_pos (by omega)]
      · by_cases h2 : k + 1 ≤ (q : Int) ∧ q < 9
        · rw [if_pos h2, if_pos (by omega)]
        · rw [if_neg h2, if_neg (by omega), if_neg (by omega)]
    · rw [a9, b2]
      by_cases hq : q = k.toNat
      · rw [if_neg (by omega), if_pos ⟨rfl, hq⟩, if_pos (by omega)]
      · by_cases h2 : k + 1 ≤ (q : Int) ∧ q < 9
        · rw [if_pos h2, if_pos (by omega)]
        · rw [if_neg h2, if_neg (by omega), if_neg (by omega)]
  · rename_i h1
    refine ⟨rfl, rfl, rfl, rfl, rfl, rfl, fun i q hi => ⟨rfl, rfl, u1_n _ _ hi, u1_n _ _ hi⟩, fun q => ?_, fun q => ?_, u1_s _ _ _, u1_s _ _ _⟩
    · rw [if_neg (by omega)]
      rfl
    · rw [if_neg (by omega)]
      rfl
/-- rows beyond the ninth are never written -/
def R9 (σ : St) : Prop := ∀ j k : Nat, 9 ≤ k → bg σ j k = -1 ∧ en σ j k = -1
theorem cut0_ok {σ : St} {i : Nat} (hW : Wk σ) (h9 : R9 σ) (hi4 : i ≠ 4) : Cu (sCut0 σ i) (pAt σ i) (cnt σ i) := by
  have hW1 : Wk (sRf σ (-1)) := Wk_rf hW (by omega)
  have hW2 : Wk (pFg (sRf σ (-1)) 4) := Wk_fg hW1
  obtain ⟨a1, a2, a3, a4, a5, a6, a7, a8, a9, a10, a11⟩ := fg_F (j := 4) 0 (by omega) (σ := sRf σ (-1)) (by omega)
  obtain ⟨b1, b2, b3⟩ := tak_at (σ := pFg (sRf σ (-1)) 4) (i := 4) (j := i) hW2
  obtain ⟨d1, d2, d3, -⟩ := tak_F 0 (by omega) (σ := pFg (sRf σ (-1)) 4) (i := 4) (j := i) (by omega) hW2
  have e1 : cnt (pFg (sRf σ (-1)) 4) = cnt σ := a1
  have e2 : pAt (pFg (sRf σ (-1)) 4) i = pAt σ i := by
    funext p
    unfold pAt
    rw [e1, show sg (pFg (sRf σ (-1)) 4) = sg σ from a2]
  have hc := hW.1 i
  have hC : Cu (pTak (pFg (sRf σ (-1)) 4) 4 i 0) (pAt σ i) (cnt σ i) := by
    refine ⟨Wk_tak 0 (by omega) hW2, fun k => Or.inl ?_, by rw [b2, e1], by rw [b1, e2]⟩
    rw [d2, show bg (pFg (sRf σ (-1)) 4) 4 k = _ from a8 k]
    split
    · rfl
    · rename_i h
      exact (h9 4 k (by omega)).1
  unfold sCut0
  rw [b2, e1]
  exact hC.mk (by omega)
section X1
variable {γ : Gm} {σ : St} {xs : va_W} {t : Int → Int} {n : Int} {i : Nat}
set_option maxRecDepth 100000 in
set_option maxHeartbeats 4000000 in
theorem x1_address (hG : Full γ) : Ev γ mX1_address 1 0 0 [.ref (ga γ 5 0)] σ xs (rtn (some (.ref (ga γ 2 4))) σ xs) nX := by
  refine Ev.of1 0 [some (.ref (ga γ 5 0))] rfl pn_X1_address rfl (Nat.le_of_ble_eq_true rfl) ?_
  refine r_aload_n (q := 1) dX1_address_0 rfl rfl ?_
  refine g_X1_address (i := 0) (q := 4) dX1_address_1 rfl fX1_12 (hG _ _ rfl) ?_
  refine r_reta dX1_address_4 rfl (by decide) (by decide) ?_
  exact ⟨rfl, rfl, rfl⟩
set_option maxRecDepth 100000 in
set_option maxHeartbeats 4000000 in
theorem x1_refuse (hG : Full γ) (hW : Wk σ) {p : Int} : Ev γ mX1_refuse 1 0 0 [.ref (ga γ 5 0), .int (zI p)] σ xs (rtn none (pRef σ p) xs) nX := by
  refine Ev.of1 0 [some (.ref (ga γ 5 0)), some (.int (zI p))] rfl pn_X1_refuse rfl (Nat.le_of_ble_eq_true rfl) ?_
  have h1 := hW.2.2.2.2
  refine r_aload_n (q := 1) dX1_refuse_0 rfl rfl ?_
  refine g_X1_refused (i := 0) (q := 4) dX1_refuse_1 rfl fX1_26 (hG _ _ rfl) ?_
  refine r_iconst (q := 5) dX1_refuse_4 rfl ?_
  refine r_icmp_ne (q := 8) (tgt := 13) dX1_refuse_5 rfl (by decide) (by omega) (by omega) (fun h5 => ?_) (fun h5 => ?_)
  · refine r_retv dX1_refuse_13 rfl (by decide) (by decide) ?_
    exact ret_v (by unfold pRef; first | (rw [if_pos (by omega)]) | (rw [if_neg (by omega)]))
  · refine r_aload_n (q := 9) dX1_refuse_8 rfl rfl ?_
    refine r_iload_n (q := 10) dX1_refuse_9 rfl rfl ?_
    refine p_X1_refused (i := 0) (q := 13) dX1_refuse_10 rfl fX1_26 (hG _ _ rfl) ?_
    refine r_retv dX1_refuse_13 rfl (by decide) (by decide) ?_
    exact ret_v (by unfold pRef; first | (rw [if_pos (by omega)]) | (rw [if_neg (by omega)]))
set_option maxRecDepth 100000 in
set_option maxHeartbeats 4000000 in
theorem x1_cutScheme (hG : Full γ) (hC : Cu σ t n) {c : Int} (hc : -1 ≤ c ∧ c ≤ n) : Ev γ mX1_cutScheme 6 0 0 [.ref (ga γ 5 0), .int (zI c)] σ xs (rtn none (sSch σ t c) xs) nX := by
  refine Ev.of1 1 [some (.ref (ga γ 5 0)), some (.int (zI c)), none] rfl pn_X1_cutScheme rfl (Nat.le_of_ble_eq_true rfl) ?_
  have hn := hC.n
  have hc4 := hC.2.2.1
  have ht4 := hC.2.2.2
  have hrf := hC.1.2.2.2.2
  refine r_iload_n (q := 1) dX1_cutScheme_0 rfl rfl ?_
  refine r_iconst (q := 2) dX1_cutScheme_1 rfl ?_
  refine r_icmp_eq (q := 5) (tgt := 34) dX1_cutScheme_2 rfl (by decide) (by first | omega | (have h5 := gWr_r (t := pAt σ 4) (c := c) (by omega); omega)) (by first | omega | (have h5 := gWr_r (t := pAt σ 4) (c := c) (by omega); omega)) (fun h2 => ?_) (fun h2 => ?_)
  · refine r_retv dX1_cutScheme_34 rfl (by decide) (by decide) ?_
    first
      | exact ret_v (by unfold sSch; rw [if_pos (by omega)])
      | exact ret_v (by unfold sSch; rw [if_neg (by omega), ← ht4, if_pos (by omega)])
      | exact ret_v (by unfold sSch; rw [if_neg (by omega), ← ht4, if_neg (by omega)])
  · refine r_aload_n (q := 6) dX1_cutScheme_5 rfl rfl ?_
    refine g_X1_text (i := 0) (q := 9) dX1_cutScheme_6 rfl fX1_22 (hG _ _ rfl) ?_
    refine r_iload_n (q := 10) dX1_cutScheme_9 rfl rfl ?_
    refine cS_2 (My := mX2_wrongInScheme) (q := 13) dX1_cutScheme_10 rfl kX1_93 vX2_wrongInScheme (x2_wrongInScheme hG rfl hC.1 (by omega)) ⟨by decide, by decide⟩ ⟨by decide, by decide⟩ (Nat.le_of_ble_eq_true rfl) ?_
    refine r_istore_n (q := 14) dX1_cutScheme_13 rfl (by decide) (Lst.setL rfl rfl) ?_
    refine r_iload_n (q := 15) dX1_cutScheme_14 rfl rfl ?_
    refine r_iconst (q := 16) dX1_cutScheme_15 rfl ?_
    refine r_icmp_eq (q := 19) (tgt := 24) dX1_cutScheme_16 rfl (by decide) (by first | omega | (have h5 := gWr_r (t := pAt σ 4) (c := c) (by omega); omega)) (by first | omega | (have h5 := gWr_r (t := pAt σ 4) (c := c) (by omega); omega)) (fun h16 => ?_) (fun h16 => ?_)
    · refine r_aload_n (q := 25) dX1_cutScheme_24 rfl rfl ?_
      refine g_X1_address (i := 0) (q := 28) dX1_cutScheme_25 rfl fX1_12 (hG _ _ rfl) ?_
      refine r_iconst (q := 29) dX1_cutScheme_28 rfl ?_
      refine r_iconst (q := 30) dX1_cutScheme_29 rfl ?_
      refine r_iload_n (q := 31) dX1_cutScheme_30 rfl rfl ?_
      refine cX0_3v (My := mX0_mark) (q := 34) dX1_cutScheme_31 rfl kX1_43 vX0_mark (hG _ _ rfl) rfl (x0_mark (hG _ _ rfl) (hG _ _ rfl) (hG _ _ rfl) (by omega)) ⟨by decide, by decide⟩ ⟨by decide, by decide⟩ (Nat.le_of_ble_eq_true rfl) ?_
      refine r_retv dX1_cutScheme_34 rfl (by decide) (by decide) ?_
      first
        | exact ret_v (by unfold sSch; rw [if_pos (by omega)])
        | exact ret_v (by unfold sSch; rw [if_neg (by omega), ← ht4, if_pos (by omega)])
        | exact ret_v (by unfold sSch; rw [if_neg (by omega), ← ht4, if_neg (by omega)])
    · refine r_aload_n (q := 20) dX1_cutScheme_19 rfl rfl ?_
      refine r_iload_n (q := 21) dX1_cutScheme_20 rfl rfl ?_
      refine cX1_1v (My := mX1_refuse) (q := 24) dX1_cutScheme_21 rfl kX1_97 vX1_refuse (hG _ _ rfl) rfl (x1_refuse hG hC.1) ⟨by decide, by decide⟩ ⟨by decide, by decide⟩ (Nat.le_of_ble_eq_true rfl) ?_
      refine r_aload_n (q := 25) dX1_cutScheme_24 rfl rfl ?_
      refine g_X1_address (i := 0) (q := 28) dX1_cutScheme_25 rfl fX1_12 (hG _ _ rfl) ?_
      refine r_iconst (q := 29) dX1_cutScheme_28 rfl ?_
      refine r_iconst (q := 30) dX1_cutScheme_29 rfl ?_
      refine r_iload_n (q := 31) dX1_cutScheme_30 rfl rfl ?_
      refine cX0_3v (My := mX0_mark) (q := 34) dX1_cutScheme_31 rfl kX1_43 vX0_mark (hG _ _ rfl) rfl (x0_mark (hG _ _ rfl) (hG _ _ rfl) (hG _ _ rfl) (by omega)) ⟨by decide, by decide⟩ ⟨by decide, by decide⟩ (Nat.le_of_ble_eq_true rfl) ?_
      refine r_retv dX1_cutScheme_34 rfl (by decide) (by decide) ?_
      first
        | exact ret_v (by unfold sSch; rw [if_pos (by omega)])
        | exact ret_v (by unfold sSch; rw [if_neg (by omega), ← ht4, if_pos (by omega)])
        | exact ret_v (by unfold sSch; rw [if_neg (by omega), ← ht4, if_neg (by omega)])
set_option maxRecDepth 100000 in
set_option maxHeartbeats 4000000 in
theorem x1_cutPart (hG : Full γ) (hC : Cu σ t n) {k b : Int} {w : Nat} (hw : w < nS) (hk : -1 ≤ k ∧ k ≤ 100) (hb : 0 ≤ b ∧ b ≤ n) : Ev γ mX1_cutPart 6 0 0 [.ref (ga γ 5 0), .int (zI k), .int (zI b), .ref (gK γ w)] σ xs (rtn (some (.int (zI (ePart t n b w)))) (sPart σ t n k b w) xs) nX := by
  refine Ev.of1 2 [some (.ref (ga γ 5 0)), some (.int (zI k)), some (.int (zI b)), some (.ref (gK γ w)), none, none] rfl pn_X1_cutPart rfl (Nat.le_of_ble_eq_true rfl) ?_
  have hn := hC.n
  have hc4 := hC.2.2.1
  have ht4 := hC.2.2.2
  have hrf := hC.1.2.2.2.2
  have hr1 := ePart_r t w hb.2
  have hr2 := bPart_r t w hb.2
  refine r_aload_n (q := 1) dX1_cutPart_0 rfl rfl ?_
  refine g_X1_text (i := 0) (q := 4) dX1_cutPart_1 rfl fX1_22 (hG _ _ rfl) ?_
  refine r_aload_n (q := 5) dX1_cutPart_4 rfl rfl ?_
  refine r_iload_n (q := 6) dX1_cutPart_5 rfl rfl ?_
  refine r_aload_n (q := 7) dX1_cutPart_6 rfl rfl ?_
  refine g_X1_text (i := 0) (q := 10) dX1_cutPart_7 rfl fX1_22 (hG _ _ rfl) ?_
  refine cX3_0 (My := mX3_count) (q := 13) dX1_cutPart_10 rfl kX1_39 vX3_count (hG _ _ rfl) rfl (x3_count hG rfl) ⟨by decide, by decide⟩ ⟨by decide, by decide⟩ (Nat.le_of_ble_eq_true rfl) ?_
  refine cX3_3 (My := mX3_next) (q := 16) dX1_cutPart_13 rfl kX1_112 vX3_next (hG _ _ rfl) rfl (x3_next hG rfl hC.1 hw (by omega) (by omega)) ⟨by decide, by decide⟩ ⟨by decide, by decide⟩ (Nat.le_of_ble_eq_true rfl) ?_
  rw [ht4, hc4]
  refine RW.cast rfl (show [Value.int (zI (nxt (isC t w) b n))] = [Value.int (zI (ePart t n b w))] from rfl) ?_
  refine r_istore (q := 18) dX1_cutPart_16 rfl (by decide) (Lst.setL rfl rfl) ?_
  refine r_aload_n (q := 19) dX1_cutPart_18 rfl rfl ?_
  refine g_X1_text (i := 0) (q := 22) dX1_cutPart_19 rfl fX1_22 (hG _ _ rfl) ?_
  refine r_ldcS (i := 3) (tx := "\"<>\\^`{|}") (q := 24) dX1_cutPart_22 rfl (List.mem_of_getElem? (i := 3) rfl) ?_
  refine r_iload_n (q := 25) dX1_cutPart_24 rfl rfl ?_
  refine r_iload (q := 27) dX1_cutPart_25 rfl rfl ?_
  refine cX3_3 (My := mX3_next) (q := 30) dX1_cutPart_27 rfl kX1_112 vX3_next (hG _ _ rfl) rfl (x3_next hG rfl hC.1 (by decide) (by omega) (by omega)) ⟨by decide, by decide⟩ ⟨by decide, by decide⟩ (Nat.le_of_ble_eq_true rfl) ?_
  rw [ht4]
  refine RW.cast rfl (show [Value.int (zI (nxt (isC t 3) b (ePart t n b w)))] = [Value.int (zI (bPart t n b w))] from rfl) ?_
  refine r_istore (q := 32) dX1_cutPart_30 rfl (by decide) (Lst.setL rfl rfl) ?_
  refine r_iload (q := 34) dX1_cutPart_32 rfl rfl ?_
  refine r_iload (q := 36) dX1_cutPart_34 rfl rfl ?_
  refine r_icmp_ge (q := 39) (tgt := 45) dX1_cutPart_36 rfl (by decide) (by omega) (by omega) (fun h36 => ?_) (fun h36 => ?_)
  · refine r_aload_n (q := 46) dX1_cutPart_45 rfl rfl ?_
    refine g_X1_address (i := 0) (q := 49) dX1_cutPart_46 rfl fX1_12 (hG _ _ rfl) ?_
    refine r_iload_n (q := 50) dX1_cutPart_49 rfl rfl ?_
    refine r_iload_n (q := 51) dX1_cutPart_50 rfl rfl ?_
    refine r_iload (q := 53) dX1_cutPart_51 rfl rfl ?_
    refine cX0_3v (My := mX0_mark) (q := 56) dX1_cutPart_53 rfl kX1_43 vX0_mark (hG _ _ rfl) rfl (x0_mark (hG _ _ rfl) (hG _ _ rfl) (hG _ _ rfl) (by omega)) ⟨by decide, by decide⟩ ⟨by decide, by decide⟩ (Nat.le_of_ble_eq_true rfl) ?_
    refine r_iload (q := 58) dX1_cutPart_56 rfl rfl ?_
    refine r_reti dX1_cutPart_58 rfl (by decide) (by decide) ?_
    exact ret_is rfl (by unfold sPart; first | (rw [if_pos (by omega)]; done) | (rw [if_neg (by omega)]; done))
  · refine r_aload_n (q := 40) dX1_cutPart_39 rfl rfl ?_
    refine r_iload (q := 42) dX1_cutPart_40 rfl rfl ?_
    refine cX1_1v (My := mX1_refuse) (q := 45) dX1_cutPart_42 rfl kX1_97 vX1_refuse (hG _ _ rfl) rfl (x1_refuse hG hC.1) ⟨by decide, by decide⟩ ⟨by decide, by decide⟩ (Nat.le_of_ble_eq_true rfl) ?_
    refine r_aload_n (q := 46) dX1_cutPart_45 rfl rfl ?_
    refine g_X1_address (i := 0) (q := 49) dX1_cutPart_46 rfl fX1_12 (hG _ _ rfl) ?_
    refine r_iload_n (q := 50) dX1_cutPart_49 rfl rfl ?_
    refine r_iload_n (q := 51) dX1_cutPart_50 rfl rfl ?_
    refine r_iload (q := 53) dX1_cutPart_51 rfl rfl ?_
    refine cX0_3v (My := mX0_mark) (q := 56) dX1_cutPart_53 rfl kX1_43 vX0_mark (hG _ _ rfl) rfl (x0_mark (hG _ _ rfl) (hG _ _ rfl) (hG _ _ rfl) (by omega)) ⟨by decide, by decide⟩ ⟨by decide, by decide⟩ (Nat.le_of_ble_eq_true rfl) ?_
    refine r_iload (q := 58) dX1_cutPart_56 rfl rfl ?_
    refine r_reti dX1_cutPart_58 rfl (by decide) (by decide) ?_
    exact ret_is rfl (by unfold sPart; first | (rw [if_pos (by omega)]; done) | (rw [if_neg (by omega)]; done))
set_option maxRecDepth 100000 in
set_option maxHeartbeats 4000000 in
theorem x1_cutOpaque (hG : Full γ) (hC : Cu σ t n) {r : Int} (hr : 0 ≤ r ∧ r ≤ n) : Ev γ mX1_cutOpaque 7 0 0 [.ref (ga γ 5 0), .int (zI r)] σ xs (rtn (some (.int (zI (ePart t n r 2)))) (sOpq σ t n r) xs) nX := by
  refine Ev.of1 1 [some (.ref (ga γ 5 0)), some (.int (zI r)), none] rfl pn_X1_cutOpaque rfl (Nat.le_of_ble_eq_true rfl) ?_
  have hn := hC.n
  have hc4 := hC.2.2.1
  have ht4 := hC.2.2.2
  have hrf := hC.1.2.2.2.2
  have hr1 := ePart_r t 2 hr.2
  refine r_aload_n (q := 1) dX1_cutOpaque_0 rfl rfl ?_
  refine r_iconst (q := 2) dX1_cutOpaque_1 rfl ?_
  refine r_iload_n (q := 3) dX1_cutOpaque_2 rfl rfl ?_
  refine r_ldcS (i := 2) (tx := "#") (q := 5) dX1_cutOpaque_3 rfl (List.mem_of_getElem? (i := 2) rfl) ?_
  refine cX1_3 (My := mX1_cutPart) (q := 8) dX1_cutOpaque_5 rfl kX1_102 vX1_cutPart (hG _ _ rfl) rfl (x1_cutPart hG hC (by decide) (by omega) (by omega)) ⟨by decide, by decide⟩ ⟨by decide, by decide⟩ (Nat.le_of_ble_eq_true rfl) ?_
  refine r_istore_n (q := 9) dX1_cutOpaque_8 rfl (by decide) (Lst.setL rfl rfl) ?_
  refine r_iload_n (q := 10) dX1_cutOpaque_9 rfl rfl ?_
  refine r_iload_n (q := 11) dX1_cutOpaque_10 rfl rfl ?_
  refine r_icmp_ne (q := 14) (tgt := 19) dX1_cutOpaque_11 rfl (by decide) (by omega) (by omega) (fun h11 => ?_) (fun h11 => ?_)
  · refine r_iload_n (q := 20) dX1_cutOpaque_19 rfl rfl ?_
    refine r_reti dX1_cutOpaque_20 rfl (by decide) (by decide) ?_
    exact ret_is rfl (by unfold sOpq; first | (rw [if_pos (by omega)]; done) | (rw [if_neg (by omega)]; done))
  · refine r_aload_n (q := 15) dX1_cutOpaque_14 rfl rfl ?_
    refine r_iload_n (q := 16) dX1_cutOpaque_15 rfl rfl ?_
    refine cX1_1v (My := mX1_refuse) (q := 19) dX1_cutOpaque_16 rfl kX1_97 vX1_refuse (hG _ _ rfl) rfl (x1_refuse hG (hC.part hr).1) ⟨by decide, by decide⟩ ⟨by decide, by decide⟩ (Nat.le_of_ble_eq_true rfl) ?_
    refine r_iload_n (q := 20) dX1_cutOpaque_19 rfl rfl ?_
    refine r_reti dX1_cutOpaque_20 rfl (by decide) (by decide) ?_
    exact ret_is rfl (by unfold sOpq; first | (rw [if_pos (by omega)]; done) | (rw [if_neg (by omega)]; done))
set_option maxRecDepth 100000 in
set_option maxHeartbeats 4000000 in
theorem x1_cutAuthority (hG : Full γ) (hC : Cu σ t n) {r : Int} (hr : 0 ≤ r ∧ r ≤ n) : Ev γ mX1_cutAuthority 6 0 0 [.ref (ga γ 5 0), .int (zI r)] σ xs (rtn (some (.int (zI (eAut t n r)))) (sAut σ t n r) xs) nX := by
  refine Ev.of1 2 [some (.ref (ga γ 5 0)), some (.int (zI r)), none, none] rfl pn_X1_cutAuthority rfl (Nat.le_of_ble_eq_true rfl) ?_
  have hn := hC.n
  have hc4 := hC.2.2.1
  have ht4 := hC.2.2.2
  have hrf := hC.1.2.2.2.2
  have h6 := eAut_r hC hr
  refine r_aload_n (q := 1) dX1_cutAuthority_0 rfl rfl ?_
  refine g_X1_text (i := 0) (q := 4) dX1_cutAuthority_1 rfl fX1_22 (hG _ _ rfl) ?_
  refine r_iload_n (q := 5) dX1_cutAuthority_4 rfl rfl ?_
  refine cS_2 (My := mX2_isSlashed) (q := 8) dX1_cutAuthority_5 rfl kX1_106 vX2_isSlashed (x2_isSlashed hG rfl hC.1 (by omega)) ⟨by decide, by decide⟩ ⟨by decide, by decide⟩ (Nat.le_of_ble_eq_true rfl) ?_
  rw [ht4]
  refine r_ifB_ne (q := 11) (tgt := 13) dX1_cutAuthority_8 rfl (by decide) (fun hs => ?_) (fun hs => ?_)
  · refine r_iload_n (q := 14) dX1_cutAuthority_13 rfl rfl ?_
    refine r_iconst (q := 15) dX1_cutAuthority_14 rfl ?_
    refine r_iadd (q := 16) dX1_cutAuthority_15 rfl ?_
    refine r_istore_n (q := 17) dX1_cutAuthority_16 rfl (by decide) (Lst.setL rfl rfl) ?_
    refine r_aload_n (q := 18) dX1_cutAuthority_17 rfl rfl ?_
    refine g_X1_text (i := 0) (q := 21) dX1_cutAuthority_18 rfl fX1_22 (hG _ _ rfl) ?_
    refine r_ldcS (i := 4) (tx := "/?#") (q := 23) dX1_cutAuthority_21 rfl (List.mem_of_getElem? (i := 4) rfl) ?_
    refine r_iload_n (q := 24) dX1_cutAuthority_23 rfl rfl ?_
    refine r_aload_n (q := 25) dX1_cutAuthority_24 rfl rfl ?_
    refine g_X1_text (i := 0) (q := 28) dX1_cutAuthority_25 rfl fX1_22 (hG _ _ rfl) ?_
    refine cX3_0 (My := mX3_count) (q := 31) dX1_cutAuthority_28 rfl kX1_39 vX3_count (hG _ _ rfl) rfl (x3_count hG rfl) ⟨by decide, by decide⟩ ⟨by decide, by decide⟩ (Nat.le_of_ble_eq_true rfl) ?_
    refine cX3_3 (My := mX3_next) (q := 34) dX1_cutAuthority_31 rfl kX1_112 vX3_next (hG _ _ rfl) rfl (x3_next hG rfl hC.1 (by decide) (by have h8 := gSl_r hC hs; omega) (by have h8 := gSl_r hC hs; omega)) ⟨by decide, by decide⟩ ⟨by decide, by decide⟩ (Nat.le_of_ble_eq_true rfl) ?_
    rw [ht4, hc4, show nxt (isC t 4) (r + 2) n = eAut t n r by unfold eAut; rw [if_pos hs]]
    have h7 := h6.2.2 hs
    refine r_istore_n (q := 35) dX1_cutAuthority_34 rfl (by decide) (Lst.setL rfl rfl) ?_
    refine r_iload_n (q := 36) dX1_cutAuthority_35 rfl rfl ?_
    refine r_iload_n (q := 37) dX1_cutAuthority_36 rfl rfl ?_
    refine r_icmp_le (q := 40) (tgt := 53) dX1_cutAuthority_37 rfl (by decide) (by omega) (by omega) (fun h37 => ?_) (fun h37 => ?_)
    · refine r_iload_n (q := 54) dX1_cutAuthority_53 rfl rfl ?_
      refine r_aload_n (q := 55) dX1_cutAuthority_54 rfl rfl ?_
      refine g_X1_text (i := 0) (q := 58) dX1_cutAuthority_55 rfl fX1_22 (hG _ _ rfl) ?_
      refine cX3_0 (My := mX3_count) (q := 61) dX1_cutAuthority_58 rfl kX1_39 vX3_count (hG _ _ rfl) rfl (x3_count hG rfl) ⟨by decide, by decide⟩ ⟨by decide, by decide⟩ (Nat.le_of_ble_eq_true rfl) ?_
      refine r_icmp_ne (q := 64) (tgt := 69) dX1_cutAuthority_61 rfl (by decide) (by omega) (by omega) (fun h61 => ?_) (fun h61 => ?_)
      · refine r_iload_n (q := 70) dX1_cutAuthority_69 rfl rfl ?_
        refine r_reti dX1_cutAuthority_70 rfl (by decide) (by decide) ?_
        first
          | exact ret_is (by unfold eAut; rw [if_neg (by rw [hs]; decide)]) (by unfold sAut; rw [if_neg (by rw [hs]; decide)])
          | exact ret_is rfl (by unfold sAut; rw [if_pos hs, if_pos (by omega)])
          | exact ret_is rfl (by unfold sAut; rw [if_pos hs, if_neg (by omega), if_pos (by omega)])
          | exact ret_is rfl (by unfold sAut; rw [if_pos hs, if_neg (by omega), if_neg (by omega)])
      · refine r_aload_n (q := 65) dX1_cutAuthority_64 rfl rfl ?_
        refine r_iload_n (q := 66) dX1_cutAuthority_65 rfl rfl ?_
        refine cX1_1v (My := mX1_refuse) (q := 69) dX1_cutAuthority_66 rfl kX1_97 vX1_refuse (hG _ _ rfl) rfl (x1_refuse hG hC.1) ⟨by decide, by decide⟩ ⟨by decide, by decide⟩ (Nat.le_of_ble_eq_true rfl) ?_
        refine r_iload_n (q := 70) dX1_cutAuthority_69 rfl rfl ?_
        refine r_reti dX1_cutAuthority_70 rfl (by decide) (by decide) ?_
        first
          | exact ret_is (by unfold eAut; rw [if_neg (by rw [hs]; decide)]) (by unfold sAut; rw [if_neg (by rw [hs]; decide)])
          | exact ret_is rfl (by unfold sAut; rw [if_pos hs, if_pos (by omega)])
          | exact ret_is rfl (by unfold sAut; rw [if_pos hs, if_neg (by omega), if_pos (by omega)])
          | exact ret_is rfl (by unfold sAut; rw [if_pos hs, if_neg (by omega), if_neg (by omega)])
    · refine r_aload_n (q := 41) dX1_cutAuthority_40 rfl rfl ?_
      refine g_X1_address (i := 0) (q := 44) dX1_cutAuthority_41 rfl fX1_12 (hG _ _ rfl) ?_
      refine r_iconst (q := 45) dX1_cutAuthority_44 rfl ?_
      refine r_iload_n (q := 46) dX1_cutAuthority_45 rfl rfl ?_
      refine r_iload_n (q := 47) dX1_cutAuthority_46 rfl rfl ?_
      refine cX0_3v (My := mX0_mark) (q := 50) dX1_cutAuthority_47 rfl kX1_43 vX0_mark (hG _ _ rfl) rfl (x0_mark (hG _ _ rfl) (hG _ _ rfl) (hG _ _ rfl) (by omega)) ⟨by decide, by decide⟩ ⟨by decide, by decide⟩ (Nat.le_of_ble_eq_true rfl) ?_
      refine r_goto (q := 69) dX1_cutAuthority_50 (by decide) ?_
      refine r_iload_n (q := 70) dX1_cutAuthority_69 rfl rfl ?_
      refine r_reti dX1_cutAuthority_70 rfl (by decide) (by decide) ?_
      first
        | exact ret_is (by unfold eAut; rw [if_neg (by rw [hs]; decide)]) (by unfold sAut; rw [if_neg (by rw [hs]; decide)])
        | exact ret_is rfl (by unfold sAut; rw [if_pos hs, if_pos (by omega)])
        | exact ret_is rfl (by unfold sAut; rw [if_pos hs, if_neg (by omega), if_pos (by omega)])
        | exact ret_is rfl (by unfold sAut; rw [if_pos hs, if_neg (by omega), if_neg (by omega)])
  · refine r_iload_n (q := 12) dX1_cutAuthority_11 rfl rfl ?_
    refine r_reti dX1_cutAuthority_12 rfl (by decide) (by decide) ?_
    first
      | exact ret_is (by unfold eAut; rw [if_neg (by rw [hs]; decide)]) (by unfold sAut; rw [if_neg (by rw [hs]; decide)])
      | exact ret_is rfl (by unfold sAut; rw [if_pos hs, if_pos (by omega)])
      | exact ret_is rfl (by unfold sAut; rw [if_pos hs, if_neg (by omega), if_pos (by omega)])
      | exact ret_is rfl (by unfold sAut; rw [if_pos hs, if_neg (by omega), if_neg (by omega)])
set_option maxRecDepth 100000 in
set_option maxHeartbeats 4000000 in
theorem x1_cutPathAndQuery (hG : Full γ) (hC : Cu σ t n) {r b : Int} (hr : 0 ≤ r ∧ r ≤ b) (hb : b ≤ n) : Ev γ mX1_cutPathAndQuery 7 0 0 [.ref (ga γ 5 0), .int (zI r), .int (zI b)] σ xs (rtn (some (.int (zI (ePQ t n b)))) (sPQ σ t n r b) xs) nX := by
  refine Ev.of1 1 [some (.ref (ga γ 5 0)), some (.int (zI r)), some (.int (zI b)), none] rfl pn_X1_cutPathAndQuery rfl (Nat.le_of_ble_eq_true rfl) ?_
  have hn := hC.n
  have hc4 := hC.2.2.1
  have ht4 := hC.2.2.2
  have hrf := hC.1.2.2.2.2
  have hb2 : 0 ≤ b ∧ b ≤ n := by omega
  have hr1 := ePart_r t 5 hb
  refine r_aload_n (q := 1) dX1_cutPathAndQuery_0 rfl rfl ?_
  refine r_iconst (q := 2) dX1_cutPathAndQuery_1 rfl ?_
  refine r_iload_n (q := 3) dX1_cutPathAndQuery_2 rfl rfl ?_
  refine r_ldcS (i := 5) (tx := "?#") (q := 5) dX1_cutPathAndQuery_3 rfl (List.mem_of_getElem? (i := 5) rfl) ?_
  refine cX1_3 (My := mX1_cutPart) (q := 8) dX1_cutPathAndQuery_5 rfl kX1_102 vX1_cutPart (hG _ _ rfl) rfl (x1_cutPart hG hC (by decide) (by omega) (by omega)) ⟨by decide, by decide⟩ ⟨by decide, by decide⟩ (Nat.le_of_ble_eq_true rfl) ?_
  refine r_istore_n (q := 9) dX1_cutPathAndQuery_8 rfl (by decide) (Lst.setL rfl rfl) ?_
  refine r_aload_n (q := 10) dX1_cutPathAndQuery_9 rfl rfl ?_
  refine g_X1_text (i := 0) (q := 13) dX1_cutPathAndQuery_10 rfl fX1_22 (hG _ _ rfl) ?_
  refine r_iload_n (q := 14) dX1_cutPathAndQuery_13 rfl rfl ?_
  refine cX3_1 (My := mX3_at) (q := 17) dX1_cutPathAndQuery_14 rfl kX1_57 vX3_at (hG _ _ rfl) rfl (x3_at hG rfl (hC.part hb2).1 (by omega)) ⟨by decide, by decide⟩ ⟨by decide, by decide⟩ (Nat.le_of_ble_eq_true rfl) ?_
  rw [(hC.part hb2).2.2.2]
  refine r_bipush (q := 19) dX1_cutPathAndQuery_17 rfl (bip (by decide) (by decide)) ?_
  refine r_icmp_ne (q := 22) (tgt := 34) dX1_cutPathAndQuery_19 rfl (by decide) (by rw [← ht4]; exact pAt_r _ _ _) (by omega) (fun hq => ?_) (fun hq => ?_)
  · refine r_aload_n (q := 35) dX1_cutPathAndQuery_34 rfl rfl ?_
    refine g_X1_address (i := 0) (q := 38) dX1_cutPathAndQuery_35 rfl fX1_12 (hG _ _ rfl) ?_
    refine r_iconst (q := 39) dX1_cutPathAndQuery_38 rfl ?_
    refine r_iload_n (q := 40) dX1_cutPathAndQuery_39 rfl rfl ?_
    refine r_iload_n (q := 41) dX1_cutPathAndQuery_40 rfl rfl ?_
    refine cX0_3v (My := mX0_mark) (q := 44) dX1_cutPathAndQuery_41 rfl kX1_43 vX0_mark (hG _ _ rfl) rfl (x0_mark (hG _ _ rfl) (hG _ _ rfl) (hG _ _ rfl) (by omega)) ⟨by decide, by decide⟩ ⟨by decide, by decide⟩ (Nat.le_of_ble_eq_true rfl) ?_
    refine r_iload_n (q := 45) dX1_cutPathAndQuery_44 rfl rfl ?_
    refine r_reti dX1_cutPathAndQuery_45 rfl (by decide) (by decide) ?_
    exact ret_is (by unfold ePQ; first | (rw [if_pos hq]; done) | (rw [if_neg hq]; done)) (by unfold sPQ ePQ; first | (rw [if_pos hq, if_pos hq]; done) | (rw [if_neg hq, if_neg hq]; done))
  · refine r_aload_n (q := 23) dX1_cutPathAndQuery_22 rfl rfl ?_
    refine r_bipush (q := 25) dX1_cutPathAndQuery_23 rfl (bip (by decide) (by decide)) ?_
    refine r_iload_n (q := 26) dX1_cutPathAndQuery_25 rfl rfl ?_
    refine r_iconst (q := 27) dX1_cutPathAndQuery_26 rfl ?_
    refine r_iadd (q := 28) dX1_cutPathAndQuery_27 rfl ?_
    refine r_ldcS (i := 2) (tx := "#") (q := 30) dX1_cutPathAndQuery_28 rfl (List.mem_of_getElem? (i := 2) rfl) ?_
    refine cX1_3 (My := mX1_cutPart) (q := 33) dX1_cutPathAndQuery_30 rfl kX1_102 vX1_cutPart (hG _ _ rfl) rfl (x1_cutPart hG (hC.part hb2) (by decide) (by omega) (by have h8 := t_lt hC (by decide) hq; omega)) ⟨by decide, by decide⟩ ⟨by decide, by decide⟩ (Nat.le_of_ble_eq_true rfl) ?_
    refine r_istore_n (q := 34) dX1_cutPathAndQuery_33 rfl (by decide) (Lst.setL rfl rfl) ?_
    refine r_aload_n (q := 35) dX1_cutPathAndQuery_34 rfl rfl ?_
    refine g_X1_address (i := 0) (q := 38) dX1_cutPathAndQuery_35 rfl fX1_12 (hG _ _ rfl) ?_
    refine r_iconst (q := 39) dX1_cutPathAndQuery_38 rfl ?_
    refine r_iload_n (q := 40) dX1_cutPathAndQuery_39 rfl rfl ?_
    refine r_iload_n (q := 41) dX1_cutPathAndQuery_40 rfl rfl ?_
    refine cX0_3v (My := mX0_mark) (q := 44) dX1_cutPathAndQuery_41 rfl kX1_43 vX0_mark (hG _ _ rfl) rfl (x0_mark (hG _ _ rfl) (hG _ _ rfl) (hG _ _ rfl) (by omega)) ⟨by decide, by decide⟩ ⟨by decide, by decide⟩ (Nat.le_of_ble_eq_true rfl) ?_
    refine r_iload_n (q := 45) dX1_cutPathAndQuery_44 rfl rfl ?_
    refine r_reti dX1_cutPathAndQuery_45 rfl (by decide) (by decide) ?_
    exact ret_is (by unfold ePQ; first | (rw [if_pos hq]; done) | (rw [if_neg hq]; done)) (by unfold sPQ ePQ; first | (rw [if_pos hq, if_pos hq]; done) | (rw [if_neg hq, if_neg hq]; done))
set_option maxRecDepth 100000 in
set_option maxHeartbeats 4000000 in
theorem x1_cutFragment (hG : Full γ) (hC : Cu σ t n) {h : Int} (hh : 0 ≤ h ∧ h ≤ n) : Ev γ mX1_cutFragment 7 0 0 [.ref (ga γ 5 0), .int (zI h)] σ xs (rtn none (sFrg σ t n h) xs) nX := by
  refine Ev.of1 1 [some (.ref (ga γ 5 0)), some (.int (zI h)), none] rfl pn_X1_cutFragment rfl (Nat.le_of_ble_eq_true rfl) ?_
  have hn := hC.n
  have hc4 := hC.2.2.1
  have ht4 := hC.2.2.2
  have hrf := hC.1.2.2.2.2
  refine r_aload_n (q := 1) dX1_cutFragment_0 rfl rfl ?_
  refine g_X1_text (i := 0) (q := 4) dX1_cutFragment_1 rfl fX1_22 (hG _ _ rfl) ?_
  refine r_iload_n (q := 5) dX1_cutFragment_4 rfl rfl ?_
  refine cX3_1 (My := mX3_at) (q := 8) dX1_cutFragment_5 rfl kX1_57 vX3_at (hG _ _ rfl) rfl (x3_at hG rfl hC.1 (by omega)) ⟨by decide, by decide⟩ ⟨by decide, by decide⟩ (Nat.le_of_ble_eq_true rfl) ?_
  rw [ht4]
  refine r_bipush (q := 10) dX1_cutFragment_8 rfl (bip (by decide) (by decide)) ?_
  refine r_icmp_ne (q := 13) (tgt := 41) dX1_cutFragment_10 rfl (by decide) (by first | omega | (rw [← ht4]; exact pAt_r _ _ _)) (by first | omega | (rw [← ht4]; exact pAt_r _ _ _)) (fun hq => ?_) (fun hq => ?_)
  · refine r_retv dX1_cutFragment_41 rfl (by decide) (by decide) ?_
    exact ret_v (by unfold sFrg; first | (rw [if_neg hq]; done) | (rw [if_pos hq, if_pos (by omega)]; done) | (rw [if_pos hq, if_neg (by omega)]; done))
  · have hh1 := t_lt hC (by decide) hq
    have hh2 : 0 ≤ h + 1 ∧ h + 1 ≤ n := by omega
    have hr1 := ePart_r t 2 hh2.2
    refine r_aload_n (q := 14) dX1_cutFragment_13 rfl rfl ?_
    refine r_bipush (q := 16) dX1_cutFragment_14 rfl (bip (by decide) (by decide)) ?_
    refine r_iload_n (q := 17) dX1_cutFragment_16 rfl rfl ?_
    refine r_iconst (q := 18) dX1_cutFragment_17 rfl ?_
    refine r_iadd (q := 19) dX1_cutFragment_18 rfl ?_
    refine r_ldcS (i := 2) (tx := "#") (q := 21) dX1_cutFragment_19 rfl (List.mem_of_getElem? (i := 2) rfl) ?_
    refine cX1_3 (My := mX1_cutPart) (q := 24) dX1_cutFragment_21 rfl kX1_102 vX1_cutPart (hG _ _ rfl) rfl (x1_cutPart hG hC (by decide) (by omega) hh2) ⟨by decide, by decide⟩ ⟨by decide, by decide⟩ (Nat.le_of_ble_eq_true rfl) ?_
    refine r_istore_n (q := 25) dX1_cutFragment_24 rfl (by decide) (Lst.setL rfl rfl) ?_
    refine r_iload_n (q := 26) dX1_cutFragment_25 rfl rfl ?_
    refine r_aload_n (q := 27) dX1_cutFragment_26 rfl rfl ?_
    refine g_X1_text (i := 0) (q := 30) dX1_cutFragment_27 rfl fX1_22 (hG _ _ rfl) ?_
    refine cX3_0 (My := mX3_count) (q := 33) dX1_cutFragment_30 rfl kX1_39 vX3_count (hG _ _ rfl) rfl (x3_count hG rfl) ⟨by decide, by decide⟩ ⟨by decide, by decide⟩ (Nat.le_of_ble_eq_true rfl) ?_
    rw [(hC.part hh2).2.2.1]
    refine r_icmp_ge (q := 36) (tgt := 41) dX1_cutFragment_33 rfl (by decide) (by first | omega | (rw [← ht4]; exact pAt_r _ _ _)) (by first | omega | (rw [← ht4]; exact pAt_r _ _ _)) (fun h33 => ?_) (fun h33 => ?_)
    · refine r_retv dX1_cutFragment_41 rfl (by decide) (by decide) ?_
      exact ret_v (by unfold sFrg; first | (rw [if_neg hq]; done) | (rw [if_pos hq, if_pos (by omega)]; done) | (rw [if_pos hq, if_neg (by omega)]; done))
    · refine r_aload_n (q := 37) dX1_cutFragment_36 rfl rfl ?_
      refine r_iload_n (q := 38) dX1_cutFragment_37 rfl rfl ?_
      refine cX1_1v (My := mX1_refuse) (q := 41) dX1_cutFragment_38 rfl kX1_97 vX1_refuse (hG _ _ rfl) rfl (x1_refuse hG (hC.part hh2).1) ⟨by decide, by decide⟩ ⟨by decide, by decide⟩ (Nat.le_of_ble_eq_true rfl) ?_
      refine r_retv dX1_cutFragment_41 rfl (by decide) (by decide) ?_
      exact ret_v (by unfold sFrg; first | (rw [if_neg hq]; done) | (rw [if_pos hq, if_pos (by omega)]; done) | (rw [if_pos hq, if_neg (by omega)]; done))
set_option maxRecDepth 100000 in
set_option maxHeartbeats 4000000 in
theorem x1_cutServer (hG : Full γ) (hC : Cu σ t n) {b e : Int} (hb : 0 ≤ b ∧ b ≤ e) (he : e ≤ n) : Ev γ mX1_cutServer 6 0 0 [.ref (ga γ 5 0), .int (zI b), .int (zI e)] σ xs (rtn none (sSrv σ t b e) xs) nX := by
  refine Ev.of1 4 [some (.ref (ga γ 5 0)), some (.int (zI b)), some (.int (zI e)), none, none, none, none] rfl pn_X1_cutServer rfl (Nat.le_of_ble_eq_true rfl) ?_
  have hn := hC.n
  have hc4 := hC.2.2.1
  have ht4 := hC.2.2.2
  have hrf := hC.1.2.2.2.2
  have hh := h_r t hb.2
  have J110 : ∀ s : St, s = (if hSign t b e < e then pMk σ 4 3 b (hSign t b e) else σ) → hIs t b e = true → gPrt t (hCol t b e + 1) e = true → RW γ mX1_cutServer 6 0 0 (rtn none (sSrv σ t b e) xs) nX 0 0 110 [some (.ref (ga γ 5 0)), some (.int (zI b)), some (.int (zI e)), some (.int (zI (hSign t b e))), some (.int (zI (hHost t b e))), some (.int (zI (hCol t b e))), some (.int (zI (bI true)))] [] s xs := by
    intro s hs1 hi hp
    have hCs : Cu s t n := by rw [hs1]; split; exact hC.mk (by omega); exact hC
    have hs9 : Wk (pMk s 4 4 (hHost t b e) (hCol t b e)) := (hCs.mk (by omega)).1
    have hst : pAt (pMk s 4 4 (hHost t b e) (hCol t b e)) 4 = t := (hCs.mk (k := 4) (b := hHost t b e) (e := hCol t b e) (by omega)).2.2.2
    refine r_aload_n (q := 111) dX1_cutServer_110 rfl rfl ?_
    refine g_X1_address (i := 0) (q := 114) dX1_cutServer_111 rfl fX1_12 (hG _ _ rfl) ?_
    refine r_iconst (q := 115) dX1_cutServer_114 rfl ?_
    refine r_iload (q := 117) dX1_cutServer_115 rfl rfl ?_
    refine r_iload (q := 119) dX1_cutServer_117 rfl rfl ?_
    refine cX0_3v (My := mX0_mark) (q := 122) dX1_cutServer_119 rfl kX1_43 vX0_mark (hG _ _ rfl) rfl (x0_mark (hG _ _ rfl) (hG _ _ rfl) (hG _ _ rfl) (by omega)) ⟨by decide, by decide⟩ ⟨by decide, by decide⟩ (Nat.le_of_ble_eq_true rfl) ?_
    refine r_aload_n (q := 123) dX1_cutServer_122 rfl rfl ?_
    refine g_X1_address (i := 0) (q := 126) dX1_cutServer_123 rfl fX1_12 (hG _ _ rfl) ?_
    refine r_aload_n (q := 127) dX1_cutServer_126 rfl rfl ?_
    refine g_X1_text (i := 0) (q := 130) dX1_cutServer_127 rfl fX1_22 (hG _ _ rfl) ?_
    refine r_iload (q := 132) dX1_cutServer_130 rfl rfl ?_
    refine r_iconst (q := 133) dX1_cutServer_132 rfl ?_
    refine r_iadd (q := 134) dX1_cutServer_133 rfl ?_
    refine r_iload_n (q := 135) dX1_cutServer_134 rfl rfl ?_
    refine r_ldcI (q := 137) dX1_cutServer_135 rfl cX1_132 ?_
    refine cS_4 (My := mX2_numberIn) (q := 140) dX1_cutServer_137 rfl kX1_133 vX2_numberIn (x2_numberIn hG rfl hs9 (by omega) (by omega) (by omega)) ⟨by decide, by decide⟩ ⟨by decide, by decide⟩ (Nat.le_of_ble_eq_true rfl) ?_
    rw [hst]
    refine cX0_1v (My := mX0_setPort) (q := 143) dX1_cutServer_140 rfl kX1_137 vX0_setPort (hG _ _ rfl) rfl (x0_setPort hG rfl) ⟨by decide, by decide⟩ ⟨by decide, by decide⟩ (Nat.le_of_ble_eq_true rfl) ?_
    refine r_retv dX1_cutServer_143 rfl (by decide) (by decide) ?_
    exact ret_v (by unfold sSrv; rw [if_pos ⟨hi, hp⟩]; rw [← hs1]; try rfl)
  have J75 : ∀ z : Bool, z = hIs t b e → RW γ mX1_cutServer 6 0 0 (rtn none (sSrv σ t b e) xs) nX 0 0 75 [some (.ref (ga γ 5 0)), some (.int (zI b)), some (.int (zI e)), some (.int (zI (hSign t b e))), some (.int (zI (hHost t b e))), some (.int (zI (hCol t b e))), some (.int (zI (bI z)))] [] σ xs := by
    intro z hz
    refine r_iload (q := 77) dX1_cutServer_75 rfl rfl ?_
    refine r_ifB_eq (q := 80) (tgt := 143) dX1_cutServer_77 rfl (by decide) (fun h77 => ?_) (fun h77 => ?_)
    · refine r_retv dX1_cutServer_143 rfl (by decide) (by decide) ?_
      exact ret_v (by unfold sSrv; rw [if_neg (by simp_all)])
    · refine r_aload_n (q := 81) dX1_cutServer_80 rfl rfl ?_
      refine g_X1_text (i := 0) (q := 84) dX1_cutServer_81 rfl fX1_22 (hG _ _ rfl) ?_
      refine r_iload (q := 86) dX1_cutServer_84 rfl rfl ?_
      refine r_iconst (q := 87) dX1_cutServer_86 rfl ?_
      refine r_iadd (q := 88) dX1_cutServer_87 rfl ?_
      refine r_iload_n (q := 89) dX1_cutServer_88 rfl rfl ?_
      refine cS_3 (My := mX2_isPort) (q := 92) dX1_cutServer_89 rfl kX1_129 vX2_isPort (x2_isPort hG rfl hC.1 (by omega) (by omega)) ⟨by decide, by decide⟩ ⟨by decide, by decide⟩ (Nat.le_of_ble_eq_true rfl) ?_
      rw [ht4]
      refine r_ifB_eq (q := 95) (tgt := 143) dX1_cutServer_92 rfl (by decide) (fun h92 => ?_) (fun h92 => ?_)
      · refine r_retv dX1_cutServer_143 rfl (by decide) (by decide) ?_
        exact ret_v (by unfold sSrv; rw [if_neg (by simp_all)])
      · refine r_iload_n (q := 96) dX1_cutServer_95 rfl rfl ?_
        refine r_iload_n (q := 97) dX1_cutServer_96 rfl rfl ?_
        refine r_icmp_ge (q := 100) (tgt := 110) dX1_cutServer_97 rfl (by decide) (by omega) (by omega) (fun h97 => ?_) (fun h97 => ?_)
        · subst h77
          first
            | exact J110 _ (by rw [if_pos (by omega)]) hz.symm (by assumption)
            | exact J110 _ (by rw [if_neg (by omega)]) hz.symm (by assumption)
        · refine r_aload_n (q := 101) dX1_cutServer_100 rfl rfl ?_
          refine g_X1_address (i := 0) (q := 104) dX1_cutServer_101 rfl fX1_12 (hG _ _ rfl) ?_
          refine r_iconst (q := 105) dX1_cutServer_104 rfl ?_
          refine r_iload_n (q := 106) dX1_cutServer_105 rfl rfl ?_
          refine r_iload_n (q := 107) dX1_cutServer_106 rfl rfl ?_
          refine cX0_3v (My := mX0_mark) (q := 110) dX1_cutServer_107 rfl kX1_43 vX0_mark (hG _ _ rfl) rfl (x0_mark (hG _ _ rfl) (hG _ _ rfl) (hG _ _ rfl) (by omega)) ⟨by decide, by decide⟩ ⟨by decide, by decide⟩ (Nat.le_of_ble_eq_true rfl) ?_
          subst h77
          first
            | exact J110 _ (by rw [if_pos (by omega)]) hz.symm (by assumption)
            | exact J110 _ (by rw [if_neg (by omega)]) hz.symm (by assumption)
  have J26 : ∀ z : Int, z = hHost t b e → RW γ mX1_cutServer 6 0 0 (rtn none (sSrv σ t b e) xs) nX 0 0 26 [some (.ref (ga γ 5 0)), some (.int (zI b)), some (.int (zI e)), some (.int (zI (hSign t b e))), some (.int (zI z)), none, none] [] σ xs := by
    intro z hz
    subst hz
    refine r_aload_n (q := 27) dX1_cutServer_26 rfl rfl ?_
    refine g_X1_text (i := 0) (q := 30) dX1_cutServer_27 rfl fX1_22 (hG _ _ rfl) ?_
    refine r_ldcS (i := 7) (tx := ":") (q := 32) dX1_cutServer_30 rfl (List.mem_of_getElem? (i := 7) rfl) ?_
    refine r_iload (q := 34) dX1_cutServer_32 rfl rfl ?_
    refine r_iload_n (q := 35) dX1_cutServer_34 rfl rfl ?_
    refine cX3_3 (My := mX3_next) (q := 38) dX1_cutServer_35 rfl kX1_112 vX3_next (hG _ _ rfl) rfl (x3_next hG rfl hC.1 (by decide) (by omega) (by omega)) ⟨by decide, by decide⟩ ⟨by decide, by decide⟩ (Nat.le_of_ble_eq_true rfl) ?_
    rw [ht4]
    refine RW.cast rfl (show [Value.int (zI (nxt (isC t 7) (hHost t b e) e))] = [Value.int (zI (hCol t b e))] from rfl) ?_
    refine r_istore (q := 40) dX1_cutServer_38 rfl (by decide) (Lst.setL rfl rfl) ?_
    refine r_aload_n (q := 41) dX1_cutServer_40 rfl rfl ?_
    refine g_X1_text (i := 0) (q := 44) dX1_cutServer_41 rfl fX1_22 (hG _ _ rfl) ?_
    refine r_iload (q := 46) dX1_cutServer_44 rfl rfl ?_
    refine r_iload (q := 48) dX1_cutServer_46 rfl rfl ?_
    refine cS_3 (My := mX2_isName) (q := 51) dX1_cutServer_48 rfl kX1_122 vX2_isName (x2_isName hG rfl hC.1 (by omega) (by omega)) ⟨by decide, by decide⟩ ⟨by decide, by decide⟩ (Nat.le_of_ble_eq_true rfl) ?_
    rw [ht4]
    refine r_ifB_ne (q := 54) (tgt := 68) dX1_cutServer_51 rfl (by decide) (fun h51 => ?_) (fun h51 => ?_)
    · refine r_iconst (q := 69) dX1_cutServer_68 rfl ?_
      refine r_goto (q := 73) dX1_cutServer_69 (by decide) ?_
      refine r_istore (q := 75) dX1_cutServer_73 rfl (by decide) (Lst.setL rfl rfl) ?_
      first
        | exact J75 true (by unfold hIs; rw [Bool.or_eq_true]; exact (show true = _ by simp_all))
        | exact J75 true (by unfold hIs; simp_all)
        | exact J75 false (by unfold hIs; simp_all)
    · refine r_aload_n (q := 55) dX1_cutServer_54 rfl rfl ?_
      refine g_X1_text (i := 0) (q := 58) dX1_cutServer_55 rfl fX1_22 (hG _ _ rfl) ?_
      refine r_iload (q := 60) dX1_cutServer_58 rfl rfl ?_
      refine r_iload (q := 62) dX1_cutServer_60 rfl rfl ?_
      refine cS_3 (My := mX2_isFourNumbers) (q := 65) dX1_cutServer_62 rfl kX1_126 vX2_isFourNumbers (x2_isFourNumbers hG rfl hC.1 (by omega) (by omega)) ⟨by decide, by decide⟩ ⟨by decide, by decide⟩ (Nat.le_of_ble_eq_true rfl) ?_
      rw [ht4]
      refine r_ifB_eq (q := 68) (tgt := 72) dX1_cutServer_65 rfl (by decide) (fun h65 => ?_) (fun h65 => ?_)
      · refine r_iconst (q := 73) dX1_cutServer_72 rfl ?_
        refine r_istore (q := 75) dX1_cutServer_73 rfl (by decide) (Lst.setL rfl rfl) ?_
        first
          | exact J75 true (by unfold hIs; rw [Bool.or_eq_true]; exact (show true = _ by simp_all))
          | exact J75 true (by unfold hIs; simp_all)
          | exact J75 false (by unfold hIs; simp_all)
      · refine r_iconst (q := 69) dX1_cutServer_68 rfl ?_
        refine r_goto (q := 73) dX1_cutServer_69 (by decide) ?_
        refine r_istore (q := 75) dX1_cutServer_73 rfl (by decide) (Lst.setL rfl rfl) ?_
        first
          | exact J75 true (by unfold hIs; rw [Bool.or_eq_true]; exact (show true = _ by simp_all))
          | exact J75 true (by unfold hIs; simp_all)
          | exact J75 false (by unfold hIs; simp_all)
  refine r_aload_n (q := 1) dX1_cutServer_0 rfl rfl ?_
  refine g_X1_text (i := 0) (q := 4) dX1_cutServer_1 rfl fX1_22 (hG _ _ rfl) ?_
  refine r_ldcS (i := 6) (tx := "@") (q := 6) dX1_cutServer_4 rfl (List.mem_of_getElem? (i := 6) rfl) ?_
  refine r_iload_n (q := 7) dX1_cutServer_6 rfl rfl ?_
  refine r_iload_n (q := 8) dX1_cutServer_7 rfl rfl ?_
  refine cX3_3 (My := mX3_next) (q := 11) dX1_cutServer_8 rfl kX1_112 vX3_next (hG _ _ rfl) rfl (x3_next hG rfl hC.1 (by decide) (by omega) (by omega)) ⟨by decide, by decide⟩ ⟨by decide, by decide⟩ (Nat.le_of_ble_eq_true rfl) ?_
  rw [ht4]
  refine RW.cast rfl (show [Value.int (zI (nxt (isC t 6) b e))] = [Value.int (zI (hSign t b e))] from rfl) ?_
  refine r_istore_n (q := 12) dX1_cutServer_11 rfl (by decide) (Lst.setL rfl rfl) ?_
  refine r_iload_n (q := 13) dX1_cutServer_12 rfl rfl ?_
  refine r_iload_n (q := 14) dX1_cutServer_13 rfl rfl ?_
  refine r_icmp_ge (q := 17) (tgt := 23) dX1_cutServer_14 rfl (by decide) (by omega) (by omega) (fun h14 => ?_) (fun h14 => ?_)
  · refine r_iload_n (q := 24) dX1_cutServer_23 rfl rfl ?_
    refine r_istore (q := 26) dX1_cutServer_24 rfl (by decide) (Lst.setL rfl rfl) ?_
    exact J26 _ (by unfold hHost; first | rw [if_pos (by omega)] | rw [if_neg (by omega)])
  · refine r_iload_n (q := 18) dX1_cutServer_17 rfl rfl ?_
    refine r_iconst (q := 19) dX1_cutServer_18 rfl ?_
    refine r_iadd (q := 20) dX1_cutServer_19 rfl ?_
    refine r_goto (q := 24) dX1_cutServer_20 (by decide) ?_
    refine r_istore (q := 26) dX1_cutServer_24 rfl (by decide) (Lst.setL rfl rfl) ?_
    exact J26 _ (by unfold hHost; first | rw [if_pos (by omega)] | rw [if_neg (by omega)])
set_option maxRecDepth 100000 in
set_option maxHeartbeats 4000000 in
theorem x1_cut (hG : Full γ) (hi : vK 0 i = true) (hi4 : i ≠ 4) (hW : Wk σ) (h9 : R9 σ) : Ev γ mX1_cut 8 0 0 [.ref (ga γ 5 0), .ref (ga γ 0 i)] σ xs (rtn (some (.int (zI (rf (sCut σ i))))) (sCut σ i) xs) nX := by
  refine Ev.of1 3 [some (.ref (ga γ 5 0)), some (.ref (ga γ 0 i)), none, none, none] rfl pn_X1_cut rfl (Nat.le_of_ble_eq_true rfl) ?_
  have hW1 : Wk (sRf σ (-1)) := Wk_rf hW (by omega)
  have hC0 := cut0_ok hW h9 hi4
  have hcr := gCol_r hC0
  have hC1 : Cu (sSch (sCut0 σ i) (pAt σ i) (gCol (pAt σ i) (cnt σ i))) (pAt σ i) (cnt σ i) := hC0.sch (by omega)
  have har := eAut_r hC1 (r := gCol (pAt σ i) (cnt σ i) + 1) (by omega)
  have hCa : Cu (sAut (sSch (sCut0 σ i) (pAt σ i) (gCol (pAt σ i) (cnt σ i))) (pAt σ i) (cnt σ i) (gCol (pAt σ i) (cnt σ i) + 1)) (pAt σ i) (cnt σ i) := hC1.aut (by omega)
  have hC2 := hC0.cut2
  have hC3 := hC0.cut3
  have hC4 := hC0.cut4
  have hh := cHash_r hC0
  have hn := hC0.n
  have J137 : ∀ s : St, s = sCut4 (sCut0 σ i) (pAt σ i) (cnt σ i) → RW γ mX1_cut 8 0 0 (rtn (some (.int (zI (rf (sCut σ i))))) (sCut σ i) xs) nX 0 0 137 [some (.ref (ga γ 5 0)), some (.ref (ga γ 0 i)), some (.int (zI (gCol (pAt σ i) (cnt σ i)))), some (.int (zI (gCol (pAt σ i) (cnt σ i) + 1))), none] [] s xs := by
    intro s hs
    subst hs
    refine r_aload_n (q := 138) dX1_cut_137 rfl rfl ?_
    refine g_X1_address (i := 0) (q := 141) dX1_cut_138 rfl fX1_12 (hG _ _ rfl) ?_
    refine r_aload_n (q := 142) dX1_cut_141 rfl rfl ?_
    refine g_X1_refused (i := 0) (q := 145) dX1_cut_142 rfl fX1_26 (hG _ _ rfl) ?_
    refine r_iconst (q := 146) dX1_cut_145 rfl ?_
    refine r_icmp_ne (q := 149) (tgt := 153) dX1_cut_146 rfl (by decide) (by have := hC4.1.2.2.2.2; omega) (by have := hC4.1.2.2.2.2; omega) (fun h146 => ?_) (fun h146 => ?_)
    · refine r_iconst (q := 154) dX1_cut_153 rfl ?_
      refine cX0_1v (My := mX0_setHeld) (q := 157) dX1_cut_154 rfl kX1_89 vX0_setHeld (hG _ _ rfl) rfl (x0_setHeld hG rfl (h := false)) ⟨by decide, by decide⟩ ⟨by decide, by decide⟩ (Nat.le_of_ble_eq_true rfl) ?_
      refine r_aload_n (q := 158) dX1_cut_157 rfl rfl ?_
      refine g_X1_refused (i := 0) (q := 161) dX1_cut_158 rfl fX1_26 (hG _ _ rfl) ?_
      refine r_reti dX1_cut_161 rfl (by decide) (by decide) ?_
      first
        | exact ret_is rfl (by show _ = sCut5 _ _ _; unfold sCut5; rw [decide_eq_true (by assumption)])
        | exact ret_is rfl (by show _ = sCut5 _ _ _; unfold sCut5; rw [decide_eq_false (by assumption)])
    · refine r_iconst (q := 150) dX1_cut_149 rfl ?_
      refine r_goto (q := 154) dX1_cut_150 (by decide) ?_
      refine cX0_1v (My := mX0_setHeld) (q := 157) dX1_cut_154 rfl kX1_89 vX0_setHeld (hG _ _ rfl) rfl (x0_setHeld hG rfl (h := true)) ⟨by decide, by decide⟩ ⟨by decide, by decide⟩ (Nat.le_of_ble_eq_true rfl) ?_
      refine r_aload_n (q := 158) dX1_cut_157 rfl rfl ?_
      refine g_X1_refused (i := 0) (q := 161) dX1_cut_158 rfl fX1_26 (hG _ _ rfl) ?_
      refine r_reti dX1_cut_161 rfl (by decide) (by decide) ?_
      first
        | exact ret_is rfl (by show _ = sCut5 _ _ _; unfold sCut5; rw [decide_eq_true (by assumption)])
        | exact ret_is rfl (by show _ = sCut5 _ _ _; unfold sCut5; rw [decide_eq_false (by assumption)])
  have J106 : RW γ mX1_cut 8 0 0 (rtn (some (.int (zI (rf (sCut σ i))))) (sCut σ i) xs) nX 0 0 106 [some (.ref (ga γ 5 0)), some (.ref (ga γ 0 i)), some (.int (zI (gCol (pAt σ i) (cnt σ i)))), some (.int (zI (gCol (pAt σ i) (cnt σ i) + 1))), none] [] (sCut3 (sCut0 σ i) (pAt σ i) (cnt σ i)) xs := by
    refine r_aload_n (q := 107) dX1_cut_106 rfl rfl ?_
    refine g_X1_address (i := 0) (q := 110) dX1_cut_107 rfl fX1_12 (hG _ _ rfl) ?_
    refine r_iconst (q := 111) dX1_cut_110 rfl ?_
    refine cX0_1 (My := mX0_has) (q := 114) dX1_cut_111 rfl kX1_75 vX0_has (hG _ _ rfl) rfl (x0_has hG rfl hC3.1 (by decide)) ⟨by decide, by decide⟩ ⟨by decide, by decide⟩ (Nat.le_of_ble_eq_true rfl) ?_
    refine r_ifB_eq (q := 117) (tgt := 137) dX1_cut_114 rfl (by decide) (fun h114 => ?_) (fun h114 => ?_)
    · first
        | exact J137 _ (by unfold sCut4; rw [if_pos h114])
        | exact J137 _ (by unfold sCut4; rw [if_neg (by rw [h114]; decide)])
    · refine r_aload_n (q := 118) dX1_cut_117 rfl rfl ?_
      refine r_aload_n (q := 119) dX1_cut_118 rfl rfl ?_
      refine g_X1_address (i := 0) (q := 122) dX1_cut_119 rfl fX1_12 (hG _ _ rfl) ?_
      refine r_iconst (q := 123) dX1_cut_122 rfl ?_
      refine cX0_1 (My := mX0_beginOf) (q := 126) dX1_cut_123 rfl kX1_79 vX0_beginOf (hG _ _ rfl) rfl (x0_beginOf hG rfl hC3.1 (by decide)) ⟨by decide, by decide⟩ ⟨by decide, by decide⟩ (Nat.le_of_ble_eq_true rfl) ?_
      refine r_aload_n (q := 127) dX1_cut_126 rfl rfl ?_
      refine g_X1_address (i := 0) (q := 130) dX1_cut_127 rfl fX1_12 (hG _ _ rfl) ?_
      refine r_iconst (q := 131) dX1_cut_130 rfl ?_
      refine cX0_1 (My := mX0_endOf) (q := 134) dX1_cut_131 rfl kX1_82 vX0_endOf (hG _ _ rfl) rfl (x0_endOf hG rfl hC3.1 (by decide)) ⟨by decide, by decide⟩ ⟨by decide, by decide⟩ (Nat.le_of_ble_eq_true rfl) ?_
      refine cX1_2v (My := mX1_cutServer) (q := 137) dX1_cut_134 rfl kX1_85 vX1_cutServer (hG _ _ rfl) rfl (x1_cutServer hG hC3 (by have := pHas_r hC3 h114; omega) (by have := pHas_r hC3 h114; omega)) ⟨by decide, by decide⟩ ⟨by decide, by decide⟩ (Nat.le_of_ble_eq_true rfl) ?_
      first
        | exact J137 _ (by unfold sCut4; rw [if_pos h114])
        | exact J137 _ (by unfold sCut4; rw [if_neg (by rw [h114]; decide)])
  have J103 : ∀ (s : St) (h : Int), s = sCut2 (sCut0 σ i) (pAt σ i) (cnt σ i) → h = cHash (pAt σ i) (cnt σ i) → RW γ mX1_cut 8 0 0 (rtn (some (.int (zI (rf (sCut σ i))))) (sCut σ i) xs) nX 0 0 103 [some (.ref (ga γ 5 0)), some (.ref (ga γ 0 i)), some (.int (zI (gCol (pAt σ i) (cnt σ i)))), some (.int (zI (gCol (pAt σ i) (cnt σ i) + 1))), none] [.int (zI h), .ref (ga γ 5 0)] s xs := by
    intro s h hs hh9
    subst hs
    subst hh9
    refine cX1_1v (My := mX1_cutFragment) (q := 106) dX1_cut_103 rfl kX1_72 vX1_cutFragment (hG _ _ rfl) rfl (x1_cutFragment hG hC2 hh) ⟨by decide, by decide⟩ ⟨by decide, by decide⟩ (Nat.le_of_ble_eq_true rfl) ?_
    exact J106
  have J79 : ∀ z : Bool, z = cOpq (pAt σ i) (cnt σ i) → RW γ mX1_cut 8 0 0 (rtn (some (.int (zI (rf (sCut σ i))))) (sCut σ i) xs) nX 0 0 79 [some (.ref (ga γ 5 0)), some (.ref (ga γ 0 i)), some (.int (zI (gCol (pAt σ i) (cnt σ i)))), some (.int (zI (gCol (pAt σ i) (cnt σ i) + 1))), some (.int (zI (bI z)))] [] (sSch (sCut0 σ i) (pAt σ i) (gCol (pAt σ i) (cnt σ i))) xs := by
    intro z hz
    refine r_aload_n (q := 80) dX1_cut_79 rfl rfl ?_
    refine r_iload (q := 82) dX1_cut_80 rfl rfl ?_
    refine r_ifB_eq (q := 85) (tgt := 93) dX1_cut_82 rfl (by decide) (fun h82 => ?_) (fun h82 => ?_)
    · refine r_aload_n (q := 94) dX1_cut_93 rfl rfl ?_
      refine r_iload_n (q := 95) dX1_cut_94 rfl rfl ?_
      refine r_aload_n (q := 96) dX1_cut_95 rfl rfl ?_
      refine r_iload_n (q := 97) dX1_cut_96 rfl rfl ?_
      refine cX1_1 (My := mX1_cutAuthority) (q := 100) dX1_cut_97 rfl kX1_65 vX1_cutAuthority (hG _ _ rfl) rfl (x1_cutAuthority hG hC1 (by omega)) ⟨by decide, by decide⟩ ⟨by decide, by decide⟩ (Nat.le_of_ble_eq_true rfl) ?_
      refine cX1_2 (My := mX1_cutPathAndQuery) (q := 103) dX1_cut_100 rfl kX1_68 vX1_cutPathAndQuery (hG _ _ rfl) rfl (x1_cutPathAndQuery hG hCa (by omega) (by omega)) ⟨by decide, by decide⟩ ⟨by decide, by decide⟩ (Nat.le_of_ble_eq_true rfl) ?_
      subst h82
      refine RW.drop 4 ?_
      first
        | exact J103 _ _ (by unfold sCut2; rw [if_pos hz.symm]) (by unfold cHash; rw [if_pos hz.symm])
        | exact J103 _ _ (by unfold sCut2; rw [if_neg (by rw [← hz]; decide)]) (by unfold cHash; rw [if_neg (by rw [← hz]; decide)])
    · refine r_aload_n (q := 86) dX1_cut_85 rfl rfl ?_
      refine r_iload_n (q := 87) dX1_cut_86 rfl rfl ?_
      refine cX1_1 (My := mX1_cutOpaque) (q := 90) dX1_cut_87 rfl kX1_61 vX1_cutOpaque (hG _ _ rfl) rfl (x1_cutOpaque hG hC1 (by omega)) ⟨by decide, by decide⟩ ⟨by decide, by decide⟩ (Nat.le_of_ble_eq_true rfl) ?_
      refine r_goto (q := 103) dX1_cut_90 (by decide) ?_
      subst h82
      refine RW.drop 4 ?_
      first
        | exact J103 _ _ (by unfold sCut2; rw [if_pos hz.symm]) (by unfold cHash; rw [if_pos hz.symm])
        | exact J103 _ _ (by unfold sCut2; rw [if_neg (by rw [← hz]; decide)]) (by unfold cHash; rw [if_neg (by rw [← hz]; decide)])
  refine r_aload_n (q := 1) dX1_cut_0 rfl rfl ?_
  refine r_iconst (q := 2) dX1_cut_1 rfl ?_
  refine p_X1_refused (i := 0) (q := 5) dX1_cut_2 rfl fX1_26 (hG _ _ rfl) ?_
  refine r_aload_n (q := 6) dX1_cut_5 rfl rfl ?_
  refine g_X1_address (i := 0) (q := 9) dX1_cut_6 rfl fX1_12 (hG _ _ rfl) ?_
  refine cX0_0v (My := mX0_forget) (q := 12) dX1_cut_9 rfl kX1_30 vX0_forget (hG _ _ rfl) rfl (x0_forget (hG _ _ rfl) (hG _ _ rfl) (hG _ _ rfl)) ⟨by decide, by decide⟩ ⟨by decide, by decide⟩ (Nat.le_of_ble_eq_true rfl) ?_
  refine r_aload_n (q := 13) dX1_cut_12 rfl rfl ?_
  refine g_X1_text (i := 0) (q := 16) dX1_cut_13 rfl fX1_22 (hG _ _ rfl) ?_
  refine r_aload_n (q := 17) dX1_cut_16 rfl rfl ?_
  refine cX3_1v (My := mX3_takeOver) (q := 20) dX1_cut_17 rfl kX1_33 vX3_takeOver (hG _ _ rfl) rfl (x3_takeOver hG rfl hi (Wk_fg hW1)) ⟨by decide, by decide⟩ ⟨by decide, by decide⟩ (Nat.le_of_ble_eq_true rfl) ?_
  refine r_aload_n (q := 21) dX1_cut_20 rfl rfl ?_
  refine g_X1_address (i := 0) (q := 24) dX1_cut_21 rfl fX1_12 (hG _ _ rfl) ?_
  refine r_bipush (q := 26) dX1_cut_24 rfl (bip (by decide) (by decide)) ?_
  refine r_iconst (q := 27) dX1_cut_26 rfl ?_
  refine r_aload_n (q := 28) dX1_cut_27 rfl rfl ?_
  refine g_X1_text (i := 0) (q := 31) dX1_cut_28 rfl fX1_22 (hG _ _ rfl) ?_
  refine cX3_0 (My := mX3_count) (q := 34) dX1_cut_31 rfl kX1_39 vX3_count (hG _ _ rfl) rfl (x3_count hG rfl) ⟨by decide, by decide⟩ ⟨by decide, by decide⟩ (Nat.le_of_ble_eq_true rfl) ?_
  refine cX0_3v (My := mX0_mark) (q := 37) dX1_cut_34 rfl kX1_43 vX0_mark (hG _ _ rfl) rfl (x0_mark (hG _ _ rfl) (hG _ _ rfl) (hG _ _ rfl) (by decide)) ⟨by decide, by decide⟩ ⟨by decide, by decide⟩ (Nat.le_of_ble_eq_true rfl) ?_
  refine RW.cast (show _ = sCut0 σ i from rfl) rfl ?_
  refine r_aload_n (q := 38) dX1_cut_37 rfl rfl ?_
  refine g_X1_text (i := 0) (q := 41) dX1_cut_38 rfl fX1_22 (hG _ _ rfl) ?_
  refine cS_1 (My := mX2_schemeColon) (q := 44) dX1_cut_41 rfl kX1_47 vX2_schemeColon (x2_schemeColon hG rfl hC0.1) ⟨by decide, by decide⟩ ⟨by decide, by decide⟩ (Nat.le_of_ble_eq_true rfl) ?_
  rw [hC0.2.2.2, hC0.2.2.1]
  refine r_istore_n (q := 45) dX1_cut_44 rfl (by decide) (Lst.setL rfl rfl) ?_
  refine r_iload_n (q := 46) dX1_cut_45 rfl rfl ?_
  refine r_iconst (q := 47) dX1_cut_46 rfl ?_
  refine r_iadd (q := 48) dX1_cut_47 rfl ?_
  refine r_istore_n (q := 49) dX1_cut_48 rfl (by decide) (Lst.setL rfl rfl) ?_
  refine r_aload_n (q := 50) dX1_cut_49 rfl rfl ?_
  refine r_iload_n (q := 51) dX1_cut_50 rfl rfl ?_
  refine cX1_1v (My := mX1_cutScheme) (q := 54) dX1_cut_51 rfl kX1_53 vX1_cutScheme (hG _ _ rfl) rfl (x1_cutScheme hG hC0 (by omega)) ⟨by decide, by decide⟩ ⟨by decide, by decide⟩ (Nat.le_of_ble_eq_true rfl) ?_
  refine r_iload_n (q := 55) dX1_cut_54 rfl rfl ?_
  refine r_iconst (q := 56) dX1_cut_55 rfl ?_
  refine r_icmp_eq (q := 59) (tgt := 76) dX1_cut_56 rfl (by decide) (by first | omega | exact pAt_r _ _ _) (by first | omega | exact pAt_r _ _ _) (fun h56 => ?_) (fun h56 => ?_)
  · refine r_iconst (q := 77) dX1_cut_76 rfl ?_
    refine r_istore (q := 79) dX1_cut_77 rfl (by decide) (Lst.setL rfl rfl) ?_
    first
      | exact J79 true (by unfold cOpq; rw [decide_eq_true ⟨by omega, by assumption⟩])
      | exact J79 false (by unfold cOpq; rw [decide_eq_false (fun h8 => absurd h8.1 (by omega))])
      | exact J79 false (by unfold cOpq; rw [decide_eq_false (fun h8 => absurd (by assumption) h8.2)])
  · refine r_aload_n (q := 60) dX1_cut_59 rfl rfl ?_
    refine g_X1_text (i := 0) (q := 63) dX1_cut_60 rfl fX1_22 (hG _ _ rfl) ?_
    refine r_iload_n (q := 64) dX1_cut_63 rfl rfl ?_
    refine cX3_1 (My := mX3_at) (q := 67) dX1_cut_64 rfl kX1_57 vX3_at (hG _ _ rfl) rfl (x3_at hG rfl hC1.1 (by omega)) ⟨by decide, by decide⟩ ⟨by decide, by decide⟩ (Nat.le_of_ble_eq_true rfl) ?_
    rw [hC1.2.2.2]
    refine r_bipush (q := 69) dX1_cut_67 rfl (bip (by decide) (by decide)) ?_
    refine r_icmp_eq (q := 72) (tgt := 76) dX1_cut_69 rfl (by decide) (by first | omega | exact pAt_r _ _ _) (by first | omega | exact pAt_r _ _ _) (fun h69 => ?_) (fun h69 => ?_)
    · refine r_iconst (q := 77) dX1_cut_76 rfl ?_
      refine r_istore (q := 79) dX1_cut_77 rfl (by decide) (Lst.setL rfl rfl) ?_
      first
        | exact J79 true (by unfold cOpq; rw [decide_eq_true ⟨by omega, by assumption⟩])
        | exact J79 false (by unfold cOpq; rw [decide_eq_false (fun h8 => absurd h8.1 (by omega))])
        | exact J79 false (by unfold cOpq; rw [decide_eq_false (fun h8 => absurd (by assumption) h8.2)])
    · refine r_iconst (q := 73) dX1_cut_72 rfl ?_
      refine r_goto (q := 77) dX1_cut_73 (by decide) ?_
      refine r_istore (q := 79) dX1_cut_77 rfl (by decide) (Lst.setL rfl rfl) ?_
      first
        | exact J79 true (by unfold cOpq; rw [decide_eq_true ⟨by omega, by assumption⟩])
        | exact J79 false (by unfold cOpq; rw [decide_eq_false (fun h8 => absurd h8.1 (by omega))])
        | exact J79 false (by unfold cOpq; rw [decide_eq_false (fun h8 => absurd (by assumption) h8.2)])
end X1
