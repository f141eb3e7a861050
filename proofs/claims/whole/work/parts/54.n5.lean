/-! MATHS 5: how the parts lie in an address -/
def hexc (c : Int) : Bool := decide ((48 ≤ c ∧ c ≤ 57) ∨ (65 ≤ c ∧ c ≤ 70) ∨ (97 ≤ c ∧ c ≤ 102))
theorem ixF_no {c : Int} : ∀ (l : List Int) (k : Int), c ∉ l → ixF c l k = -1 := by
  intro l
  induction l with
  | nil => intro k _; rfl
  | cons b l ih =>
    intro k h
    have h1 : ¬ b = c := fun z => h (by rw [z]; exact List.mem_cons_self)
    unfold ixF
    rw [if_neg h1]
    exact ih (k + 1) (fun z => h (List.mem_cons_of_mem _ z))
theorem ixO_mem {l : List Int} {c : Int} (h : 0 ≤ ixO l c) : c ∈ l := by
  by_cases hc : c ∈ l
  · exact hc
  · unfold ixO at h
    rw [ixF_no l 0 hc] at h
    omega
theorem dl : ∀ w : Nat, w ∈ [0, 2, 4, 5, 6, 7] → ∀ c ∈ tS w, hexc c = false := by decide +kernel
theorem isC_d {t : Int → Int} {w : Nat} {p : Int} (hw : w ∈ [0, 2, 4, 5, 6, 7]) (h : isC t w p = true) : hexc (t p) = false := dl w hw _ (ixO_mem (of_decide_eq_true h))
theorem isC5 {t : Int → Int} {p : Int} (h : isC t 5 p = true) : t p = 63 ∨ t p = 35 := by
  have := ixO_mem (of_decide_eq_true h)
  have e : tS 5 = [63, 35] := rfl
  rw [e] at this
  simpa using this
theorem ePart_d {t : Int → Int} {n b : Int} {w : Nat} (hw : w ∈ [0, 2, 4, 5, 6, 7]) (hb : b ≤ n) : ePart t n b w = n ∨ hexc (t (ePart t n b w)) = false := by
  have hr := ePart_r t (n := n) w hb
  by_cases h : ePart t n b w < n
  · exact Or.inr (isC_d hw (nxt_at b hb h))
  · exact Or.inl (by omega)
theorem gCol_58 {t : Int → Int} {n : Int} (h : gCol t n ≠ -1) : t (gCol t n) = 58 := by
  by_cases h1 : t (gColP t n) = 58
  · rw [gCol_y h1]; exact h1
  · exact absurd (gCol_n h1) h
theorem cH_d {t : Int → Int} {n : Int} (hT : Tz t n) : gCol t n + 1 ≤ cHash t n ∧ cHash t n ≤ n ∧ (cHash t n = n ∨ t (cHash t n) = 35) := by
  have hC := hT.gCol
  have h2 : ∀ b, b ≤ n → (ePart t n b 2 = n ∨ t (ePart t n b 2) = 35) := fun b hb => by
    have hr := ePart_r t (n := n) 2 hb
    by_cases h : ePart t n b 2 < n
    · have := nxt_at b hb h
      rw [isC2] at this
      exact Or.inr (of_decide_eq_true this)
    · exact Or.inl (by omega)
  unfold cHash
  split
  · have hr := ePart_r t (n := n) (b := gCol t n + 1) 2 (by omega)
    exact ⟨hr.1, hr.2, h2 _ (by omega)⟩
  · have hA := hT.eAut (r := gCol t n + 1) (by omega)
    have hr := ePart_r t (n := n) (b := eAut t n (gCol t n + 1)) 5 (by omega)
    unfold ePQ
    split
    · rename_i hq
      have hl := hT.lt (by decide) hq
      have hr2 := ePart_r t (n := n) (b := ePart t n (eAut t n (gCol t n + 1)) 5 + 1) 2 (by omega)
      exact ⟨by omega, hr2.2, h2 _ (by omega)⟩
    · rename_i hq
      refine ⟨by omega, hr.2, ?_⟩
      by_cases h : ePart t n (eAut t n (gCol t n + 1)) 5 < n
      · rcases isC5 (nxt_at _ (by omega) h) with z | z
        · exact absurd z hq
        · exact Or.inr z
      · exact Or.inl (by omega)
theorem aE_r {t : Int → Int} {n : Int} (hT : Tz t n) : gCol t n + 1 ≤ aE t n ∧ aE t n ≤ n ∧ (gSl t (gCol t n + 1) = true → gCol t n + 1 + 2 ≤ aE t n ∧ (aE t n = n ∨ hexc (t (aE t n)) = false)) ∧ (gSl t (gCol t n + 1) = false → aE t n = gCol t n + 1) := by
  have hC := hT.gCol
  have hA := hT.eAut (r := gCol t n + 1) (by omega)
  refine ⟨hA.1, hA.2.1, fun h => ⟨hA.2.2 h, ?_⟩, fun h => ?_⟩
  · have hs := hT.sl h
    have e : aE t n = ePart t n (gCol t n + 1 + 2) 4 := by unfold aE eAut ePart; rw [if_pos h]
    rw [e]
    exact ePart_d (by decide) (by omega)
  · unfold aE eAut
    rw [h]
    rfl
theorem kA_s {t : Int → Int} {n : Int} (h : kA t n = true) : cOpq t n = false ∧ gSl t (gCol t n + 1) = true ∧ aB t n < aE t n := by
  cases ho : cOpq t n
  · have := (aut_on ho).mp h
    exact ⟨rfl, this⟩
  · unfold kA at h
    rw [ho] at h
    simp at h
theorem kS_A {t : Int → Int} {n : Int} (h : kS t n = true) : kA t n = true := by
  unfold kS at h
  rw [Bool.and_eq_true] at h
  exact h.1
theorem kU_S {t : Int → Int} {n : Int} (h : kU t n = true) : kS t n = true ∧ hSign t (aB t n) (aE t n) < aE t n := by
  unfold kU at h
  rw [Bool.and_eq_true] at h
  exact ⟨h.1, of_decide_eq_true h.2⟩
theorem kQ_s {t : Int → Int} {n : Int} (h : kQ t n = true) : cOpq t n = false ∧ t (pE t n) = 63 := by
  unfold kQ at h
  rw [Bool.and_eq_true] at h
  exact ⟨by cases ho : cOpq t n <;> simp_all, of_decide_eq_true h.2⟩
/-- where a part lies -/
def Lie (t : Int → Int) (n b e : Int) : Prop := (b = -1 ∧ e = -1) ∨ (0 ≤ b ∧ b ≤ e ∧ e ≤ n ∧ (e = n ∨ hexc (t e) = false))
theorem cb_r {t : Int → Int} {n : Int} (hT : Tz t n) : ∀ k : Nat, k < 9 → Lie t n (Cb t n k) (Ce t n k) := by
  have hC := hT.gCol
  have hn := hT.1
  have hA := aE_r hT
  have hH := cH_d hT
  have hP := ePart_r t (n := n) (b := aE t n) 5 hA.2.1
  have hP : aE t n ≤ pE t n ∧ pE t n ≤ n := hP
  have hPd : pE t n = n ∨ hexc (t (pE t n)) = false := ePart_d (by decide) hA.2.1
  intro k hk
  have hks : k = 0 ∨ k = 1 ∨ k = 2 ∨ k = 3 ∨ k = 4 ∨ k = 5 ∨ k = 6 ∨ k = 7 ∨ k = 8 := by omega
  unfold Lie
  rcases hks with rfl | rfl | rfl | rfl | rfl | rfl | rfl | rfl | rfl
  · show ((if gCol t n = -1 then -1 else 0) = (-1 : Int) ∧ (if gCol t n = -1 then -1 else gCol t n) = -1) ∨ _
    by_cases h : gCol t n = -1
    · left; rw [if_pos h, if_pos h]; exact ⟨rfl, rfl⟩
    · right
      show 0 ≤ (if gCol t n = -1 then (-1 : Int) else 0) ∧ (if gCol t n = -1 then (-1 : Int) else 0) ≤ (if gCol t n = -1 then -1 else gCol t n) ∧ (if gCol t n = -1 then -1 else gCol t n) ≤ n ∧ ((if gCol t n = -1 then -1 else gCol t n) = n ∨ hexc (t (if gCol t n = -1 then -1 else gCol t n)) = false)
      simp only [h, if_false]
      refine ⟨by omega, by omega, by omega, Or.inr ?_⟩
      rw [gCol_58 h]
      decide
  · right
    show 0 ≤ gCol t n + 1 ∧ gCol t n + 1 ≤ cHash t n ∧ cHash t n ≤ n ∧ (cHash t n = n ∨ hexc (t (cHash t n)) = false)
    refine ⟨by omega, hH.1, hH.2.1, ?_⟩
    rcases hH.2.2 with z | z
    · exact Or.inl z
    · right; rw [z]; decide
  · have e1 : Cb t n 2 = if kA t n = true then aB t n else -1 := rfl
    have e2 : Ce t n 2 = if kA t n = true then aE t n else -1 := rfl
    rw [e1, e2]
    by_cases h : kA t n = true
    · have hs := kA_s h
      have hb := aB_r hT h
      simp only [h, if_true]
      exact Or.inr ⟨by omega, by omega, by omega, (hA.2.2.1 hs.2.1).2⟩
    · simp [h]
  · have e1 : Cb t n 3 = if kU t n = true then aB t n else -1 := rfl
    have e2 : Ce t n 3 = if kU t n = true then hSign t (aB t n) (aE t n) else -1 := rfl
    rw [e1, e2]
    by_cases h : kU t n = true
    · have hu := kU_S h
      have hb := aB_r hT (kS_A hu.1)
      have hr := h_r t (b := aB t n) (e := aE t n) (by omega)
      simp only [h, if_true]
      refine Or.inr ⟨by omega, by omega, by omega, Or.inr ?_⟩
      exact isC_d (by decide) (nxt_at _ (by omega) hu.2)
    · simp [h]
  · have e1 : Cb t n 4 = if kS t n = true then hHost t (aB t n) (aE t n) else -1 := rfl
    have e2 : Ce t n 4 = if kS t n = true then hCol t (aB t n) (aE t n) else -1 := rfl
    rw [e1, e2]
    by_cases h : kS t n = true
    · have hs := kA_s (kS_A h)
      have hb := aB_r hT (kS_A h)
      have hr := h_r t (b := aB t n) (e := aE t n) (by omega)
      simp only [h, if_true]
      refine Or.inr ⟨by omega, by omega, by omega, ?_⟩
      by_cases hl : hCol t (aB t n) (aE t n) < aE t n
      · exact Or.inr (isC_d (by decide) (nxt_at _ (by omega) hl))
      · rw [show hCol t (aB t n) (aE t n) = aE t n by omega]
        exact (hA.2.2.1 hs.2.1).2
    · simp [h]
  · have e1 : Cb t n 5 = if cOpq t n = true then -1 else aE t n := rfl
    have e2 : Ce t n 5 = if cOpq t n = true then -1 else pE t n := rfl
    rw [e1, e2]
    by_cases h : cOpq t n = true
    · simp [h]
    · rw [if_neg h, if_neg h]
      exact Or.inr ⟨by omega, by omega, by omega, hPd⟩
  · have e1 : Cb t n 6 = if kQ t n = true then pE t n + 1 else -1 := rfl
    have e2 : Ce t n 6 = if kQ t n = true then ePart t n (pE t n + 1) 2 else -1 := rfl
    rw [e1, e2]
    by_cases h : kQ t n = true
    · have hl := hT.lt (by decide) (kQ_s h).2
      have hr := ePart_r t (n := n) (b := pE t n + 1) 2 (by omega)
      simp only [h, if_true]
      exact Or.inr ⟨by omega, by omega, by omega, ePart_d (by decide) (by omega)⟩
    · simp [h]
  · have e1 : Cb t n 7 = if kF t n = true then cHash t n + 1 else -1 := rfl
    have e2 : Ce t n 7 = if kF t n = true then n else -1 := rfl
    rw [e1, e2]
    by_cases h : kF t n = true
    · have hl := hT.lt (by decide) (of_decide_eq_true h)
      rw [if_pos h, if_pos h]
      exact Or.inr ⟨by omega, by omega, by omega, Or.inl rfl⟩
    · simp [h]
  · exact Or.inr ⟨by show (0 : Int) ≤ 0; omega, by show (0 : Int) ≤ n; omega, by show n ≤ n; omega, Or.inl rfl⟩
/-- the parts of an address, and what is put together of them -/
def sA (t : Int → Int) (n : Int) (k : Nat) : Src := (decide (Cb t n k ≠ -1), t, Cb t n k, Ce t n k)
def sM (t : Int → Int) (n : Int) : Src := (cOpq t n, t, Cb t n 1, Ce t n 1)
def chn (x : Tx) (S0 S1 S2 S5 S6 S7 : Src) : Tx := stq (stq (stq (stq (stq (stq x S0 [] [58]) S1 [] []) S2 [47, 47] []) S5 [] []) S6 [63] []) S7 [35] []
def csum (S0 S1 S2 S5 S6 S7 : Src) : Int := cst S0 [] [58] + cst S1 [] [] + cst S2 [47, 47] [] + cst S5 [] [] + cst S6 [63] [] + cst S7 [35] []
theorem chn_n (x : Tx) (S0 S1 S2 S5 S6 S7 : Src) : (chn x S0 S1 S2 S5 S6 S7).2 = x.2 + csum S0 S1 S2 S5 S6 S7 := by
  unfold chn csum
  simp only [stq_n]
  omega
theorem chn_c {x : Tx} {S0 S1 S2 S5 S6 S7 R0 R1 R2 R5 R6 R7 : Src} (h0 : Se S0 R0) (h1 : Se S1 R1) (h2 : Se S2 R2) (h5 : Se S5 R5) (h6 : Se S6 R6) (h7 : Se S7 R7) : chn x S0 S1 S2 S5 S6 S7 = chn x R0 R1 R2 R5 R6 R7 := by
  unfold chn
  rw [stq_c h0, stq_c h1, stq_c h2, stq_c h5, stq_c h6, stq_c h7]
theorem csum_c {S0 S1 S2 S5 S6 S7 R0 R1 R2 R5 R6 R7 : Src} (h0 : Se S0 R0) (h1 : Se S1 R1) (h2 : Se S2 R2) (h5 : Se S5 R5) (h6 : Se S6 R6) (h7 : Se S7 R7) : csum S0 S1 S2 S5 S6 S7 = csum R0 R1 R2 R5 R6 R7 := by
  unfold csum
  rw [cst_c h0, cst_c h1, cst_c h2, cst_c h5, cst_c h6, cst_c h7]
theorem stq_no {x : Tx} {S : Src} (h : S.1 = false) (w1 w2 : List Int) : stq x S w1 w2 = x := by
  unfold stq
  rw [if_neg (by rw [h]; decide)]
theorem sA_no {t : Int → Int} {n : Int} {k : Nat} (h : Cb t n k = -1) : (sA t n k).1 = false := decide_eq_false (fun z => z h)
theorem sA_yes {t : Int → Int} {n : Int} {k : Nat} {b e : Int} (h : Cb t n k = b) (h2 : Ce t n k = e) (hb : b ≠ -1) : sA t n k = (true, t, b, e) := by
  unfold sA
  rw [h, h2, decide_eq_true hb]
def dd (t : Int → Int) (n : Int) : Int := if cOpq t n = false ∧ gSl t (gCol t n + 1) = true ∧ kA t n = false then 2 else 0
theorem own_s {t : Int → Int} {n : Int} (hT : Tz t n) : stq (fun _ => 0, 0) (sA t n 0) [] [58] = (sh t 0 0 (gCol t n + 1), gCol t n + 1) := by
  have hC := hT.gCol
  rw [← sh_0 hT]
  by_cases h : gCol t n = -1
  · rw [stq_no (sA_no (show Cb t n 0 = -1 from if_pos h)), h]
    rfl
  · rw [sA_yes (show Cb t n 0 = 0 from if_neg h) (show Ce t n 0 = gCol t n from if_neg h) (by decide)]
    have g := glue (t := t) (r := 0) (d := 0) (m := 0) (e := gCol t n) (w1 := []) (w2 := [58]) (by omega) (by show 0 + ((0 : Nat) : Int) ≤ _; omega) (fun q hq => absurd hq (Nat.not_lt_zero q)) (fun q hq => by
      have h0 : q = 0 := by simp at hq; omega
      subst h0
      show 58 = t (gCol t n + ((0 : Nat) : Int))
      rw [show gCol t n + ((0 : Nat) : Int) = gCol t n by omega, gCol_58 h])
    have g : stq (sh t 0 0 0, 0) (true, t, 0, gCol t n) [] [58] = (sh t 0 0 (gCol t n + 1), gCol t n + 1 - 0) := g
    rw [g, Int.sub_zero]
theorem own_f {t : Int → Int} {n : Int} (hT : Tz t n) {d : Int} (hd : gCol t n + 1 + d ≤ cHash t n) : stq (sh t (gCol t n + 1) d (cHash t n), cHash t n - d) (sA t n 7) [35] [] = (sh t (gCol t n + 1) d n, n - d) := by
  have hH := cH_d hT
  have hC := hT.gCol
  by_cases h : kF t n = true
  · have h35 : t (cHash t n) = 35 := of_decide_eq_true h
    have hl := hT.lt (by decide) h35
    rw [sA_yes (show Cb t n 7 = cHash t n + 1 from if_pos h) (show Ce t n 7 = n from if_pos h) (by omega)]
    have g := glue (t := t) (r := gCol t n + 1) (d := d) (m := cHash t n) (e := n) (w1 := [35]) (w2 := []) hd (by show cHash t n + ((1 : Nat) : Int) ≤ n; omega) (fun q hq => by
      have h0 : q = 0 := by simp at hq; omega
      subst h0
      show 35 = t (cHash t n + ((0 : Nat) : Int))
      rw [show cHash t n + ((0 : Nat) : Int) = cHash t n by omega, h35]) (fun q hq => absurd hq (Nat.not_lt_zero q))
    have g : stq (sh t (gCol t n + 1) d (cHash t n), cHash t n - d) (true, t, cHash t n + 1, n) [35] [] = (sh t (gCol t n + 1) d (n + 0), n + 0 - d) := g
    rw [g, Int.add_zero]
  · have hn : cHash t n = n := by
      rcases hH.2.2 with z | z
      · exact z
      · exact absurd (decide_eq_true z) h
    rw [stq_no (sA_no (show Cb t n 7 = -1 from if_neg h)), hn]
theorem gl0 {t : Int → Int} {r d m e : Int} (hm : r + d ≤ m) (he : m ≤ e) : stq (sh t r d m, m - d) (true, t, m, e) [] [] = (sh t r d e, e - d) := by
  have g := glue (t := t) (r := r) (d := d) (m := m) (e := e) (w1 := []) (w2 := []) hm (by show m + ((0 : Nat) : Int) ≤ e; omega) (fun q hq => absurd hq (Nat.not_lt_zero q)) (fun q hq => absurd hq (Nat.not_lt_zero q))
  have g : stq (sh t r d m, m - d) (true, t, m + 0, e) [] [] = (sh t r d (e + 0), e + 0 - d) := g
  rw [Int.add_zero, Int.add_zero] at g
  exact g
theorem gSl_at {t : Int → Int} {r : Int} (h : gSl t r = true) : t r = 47 ∧ t (r + 1) = 47 := of_decide_eq_true h
/-- an address, put together of its parts -/
theorem chn_own {t : Int → Int} {n : Int} (hT : Tz t n) : chn (fun _ => 0, 0) (sA t n 0) (sM t n) (sA t n 2) (sA t n 5) (sA t n 6) (sA t n 7) = (sh t (gCol t n + 1) (dd t n) n, n - dd t n) := by
  have hC := hT.gCol
  have hA := aE_r hT
  have hH := cH_d hT
  have hP := ePart_r t (n := n) (b := aE t n) 5 hA.2.1
  have hP : aE t n ≤ pE t n ∧ pE t n ≤ n := hP
  unfold chn
  rw [own_s hT, sh_r t (by omega) (dd t n)]
  cases ho : cOpq t n
  · have hs1 : (sM t n).1 = false := ho
    rw [stq_no hs1]
    have hh : cHash t n = ePQ t n (aE t n) := by unfold cHash; rw [if_neg (by rw [ho]; decide)]; rfl
    have step2 : stq (sh t (gCol t n + 1) (dd t n) (gCol t n + 1 + dd t n), gCol t n + 1) (sA t n 2) [47, 47] [] = (sh t (gCol t n + 1) (dd t n) (aE t n), aE t n - dd t n) ∧ gCol t n + 1 + dd t n ≤ aE t n := by
      by_cases hk : kA t n = true
      · have hs := kA_s hk
        have hb := aB_r hT hk
        have hd : dd t n = 0 := by unfold dd; rw [if_neg (by rintro ⟨-, -, z⟩; rw [hk] at z; cases z)]
        have hsl := gSl_at hs.2.1
        have eb : aB t n = gCol t n + 1 + 2 := rfl
        rw [hd, sA_yes (show Cb t n 2 = aB t n from if_pos hk) (show Ce t n 2 = aE t n from if_pos hk) (by omega)]
        have g := glue (t := t) (r := gCol t n + 1) (d := 0) (m := gCol t n + 1) (e := aE t n) (w1 := [47, 47]) (w2 := []) (by omega) (by show gCol t n + 1 + ((2 : Nat) : Int) ≤ aE t n; omega) (fun q hq => by
          have h0 : q = 0 ∨ q = 1 := by simp at hq; omega
          rcases h0 with rfl | rfl
          · show 47 = t (gCol t n + 1 + ((0 : Nat) : Int))
            rw [show gCol t n + 1 + ((0 : Nat) : Int) = gCol t n + 1 by omega, hsl.1]
          · show 47 = t (gCol t n + 1 + ((1 : Nat) : Int))
            rw [show gCol t n + 1 + ((1 : Nat) : Int) = gCol t n + 1 + 1 by omega, hsl.2]) (fun q hq => absurd hq (Nat.not_lt_zero q))
        have g : stq (sh t (gCol t n + 1) 0 (gCol t n + 1), gCol t n + 1 - 0) (true, t, gCol t n + 1 + 2, aE t n) [47, 47] [] = (sh t (gCol t n + 1) 0 (aE t n + 0), aE t n + 0 - 0) := g
        rw [Int.sub_zero, Int.add_zero] at g
        rw [Int.add_zero, eb, g]
        exact ⟨rfl, by omega⟩
      · have hk : kA t n = false := Bool.eq_false_iff.mpr hk
        rw [stq_no (sA_no (show Cb t n 2 = -1 from if_neg (by rw [hk]; decide)))]
        cases hsl : gSl t (gCol t n + 1)
        · have hd : dd t n = 0 := by unfold dd; rw [if_neg (by rintro ⟨-, z, -⟩; rw [hsl] at z; cases z)]
          rw [hd, hA.2.2.2 hsl, Int.add_zero, Int.sub_zero]
          exact ⟨rfl, by omega⟩
        · have hd : dd t n = 2 := by unfold dd; rw [if_pos ⟨ho, hsl, hk⟩]
          have h2 := (hA.2.2.1 hsl).1
          have h3 : aE t n = gCol t n + 1 + 2 := by
            by_cases h4 : gCol t n + 1 + 2 < aE t n
            · have := (aut_on ho).mpr ⟨hsl, h4⟩
              rw [hk] at this
              cases this
            · omega
          rw [hd, h3]
          refine ⟨?_, by omega⟩
          congr 1
          omega
    rw [step2.1, sA_yes (show Cb t n 5 = aE t n from if_neg (by rw [ho]; decide)) (show Ce t n 5 = pE t n from if_neg (by rw [ho]; decide)) (by omega), gl0 step2.2 hP.1]
    have step6 : stq (sh t (gCol t n + 1) (dd t n) (pE t n), pE t n - dd t n) (sA t n 6) [63] [] = (sh t (gCol t n + 1) (dd t n) (cHash t n), cHash t n - dd t n) ∧ gCol t n + 1 + dd t n ≤ cHash t n := by
      by_cases hq : kQ t n = true
      · have h63 := (kQ_s hq).2
        have hl := hT.lt (by decide) h63
        have hr := ePart_r t (n := n) (b := pE t n + 1) 2 (by omega)
        have e : cHash t n = ePart t n (pE t n + 1) 2 := by rw [hh]; unfold ePQ; exact if_pos h63
        rw [sA_yes (show Cb t n 6 = pE t n + 1 from if_pos hq) (show Ce t n 6 = ePart t n (pE t n + 1) 2 from if_pos hq) (by omega), ← e]
        rw [← e] at hr
        have g := glue (t := t) (r := gCol t n + 1) (d := dd t n) (m := pE t n) (e := cHash t n) (w1 := [63]) (w2 := []) (by omega) (by show pE t n + ((1 : Nat) : Int) ≤ _; omega) (fun q hq => by
          have h0 : q = 0 := by simp at hq; omega
          subst h0
          show 63 = t (pE t n + ((0 : Nat) : Int))
          rw [show pE t n + ((0 : Nat) : Int) = pE t n by omega, h63]) (fun q hq => absurd hq (Nat.not_lt_zero q))
        have g : stq (sh t (gCol t n + 1) (dd t n) (pE t n), pE t n - dd t n) (true, t, pE t n + 1, cHash t n) [63] [] = (sh t (gCol t n + 1) (dd t n) (cHash t n + 0), cHash t n + 0 - dd t n) := g
        rw [Int.add_zero] at g
        exact ⟨g, by omega⟩
      · have h63 : ¬ t (pE t n) = 63 := fun z => hq (by unfold kQ; rw [ho, decide_eq_true z]; rfl)
        have e : cHash t n = pE t n := by rw [hh]; unfold ePQ; exact if_neg h63
        rw [stq_no (sA_no (show Cb t n 6 = -1 from if_neg hq)), e]
        exact ⟨rfl, by omega⟩
    rw [step6.1, own_f hT step6.2]
  · have hd : dd t n = 0 := by unfold dd; rw [if_neg (by rintro ⟨z, -⟩; rw [ho] at z; cases z)]
    have hk : kA t n = false := by unfold kA; rw [ho]; rfl
    have hq : kQ t n = false := by unfold kQ; rw [ho]; rfl
    have e1 : sM t n = (true, t, gCol t n + 1, cHash t n) := by unfold sM; rw [ho]; rfl
    rw [hd, e1, Int.add_zero]
    have g := gl0 (t := t) (r := gCol t n + 1) (d := 0) (m := gCol t n + 1) (e := cHash t n) (by omega) hH.1
    rw [Int.sub_zero] at g
    rw [g, stq_no (sA_no (show Cb t n 2 = -1 from if_neg (by rw [hk]; decide))), stq_no (sA_no (show Cb t n 5 = -1 from if_pos ho)), stq_no (sA_no (show Cb t n 6 = -1 from if_neg (by rw [hq]; decide)))]
    exact own_f hT (by omega)
/-- the three parts -/
theorem chn_3 {t : Int → Int} {n : Int} (hT : Tz t n) : stq (stq (stq (fun _ => 0, 0) (sA t n 0) [] [58]) (sA t n 1) [] []) (sA t n 7) [35] [] = (t, n) := by
  have hC := hT.gCol
  have hH := cH_d hT
  rw [own_s hT, sh_r t (by omega) 0, sA_yes (show Cb t n 1 = gCol t n + 1 from rfl) (show Ce t n 1 = cHash t n from rfl) (by omega), Int.add_zero]
  have g := gl0 (t := t) (r := gCol t n + 1) (d := 0) (m := gCol t n + 1) (e := cHash t n) (by omega) hH.1
  rw [Int.sub_zero] at g
  rw [g, own_f hT (by omega), sh_n hT, Int.sub_zero]
