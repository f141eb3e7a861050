/-! Grammar: what the rules ask, as functions of a text t : Int → Int -/
def gLet (c : Int) : Bool := decide ((97 ≤ c ∧ c ≤ 122) ∨ (65 ≤ c ∧ c ≤ 90))
def gDig (c : Int) : Bool := decide (48 ≤ c ∧ c ≤ 57)
def gSl (t : Int → Int) (b : Int) : Bool := decide (t b = 47 ∧ t (b + 1) = 47)
def gColP (t : Int → Int) (n : Int) : Int := nxt (isC t 0) 0 n
def gCol (t : Int → Int) (n : Int) : Int := if t (gColP t n) = 58 then gColP t n else -1
def gWrF (t : Int → Int) (p e : Int) : Int := if p < e then (if gLet (t p) = true ∨ gDig (t p) = true ∨ 0 ≤ ixO (tS 1) (t p) then gWrF t (p + 1) e else p) else -1
termination_by (e - p).toNat
decreasing_by omega
def gWr (t : Int → Int) (e : Int) : Int := if e = 0 ∨ gLet (t 0) = false then 0 else gWrF t 1 e
def gABe (t : Int → Int) (n : Int) : Int := nxt (isC t 4) (gCol t n + 1 + 2) n
def gAB (t : Int → Int) (n : Int) : Bool := if gSl t (gCol t n + 1) = true then decide (nxt (isC t 3) (gCol t n + 1 + 2) (gABe t n) < gABe t n) else false
def gLabF (t : Int → Int) (p e : Int) : Bool := if p < e then (if gLet (t p) = true ∨ gDig (t p) = true ∨ t p = 45 then gLabF t (p + 1) e else false) else true
termination_by (e - p).toNat
decreasing_by omega
def gLab (t : Int → Int) (b e : Int) : Bool := if e ≤ b ∨ t b = 45 ∨ t (e - 1) = 45 then false else gLabF t b e
def gNamF (t : Int → Int) (s lab last p : Int) : Option Int := if p ≤ s then (if p = s ∨ t p = 46 then (if gLab t lab p = true then gNamF t s (p + 1) lab (p + 1) else none) else gNamF t s lab last (p + 1)) else some last
termination_by (s + 1 - p).toNat
decreasing_by all_goals omega
def gStop (t : Int → Int) (b e : Int) : Int := if b < e ∧ t (e - 1) = 46 then e - 1 else e
def gNamE (t : Int → Int) (b : Int) : Option Int → Bool
  | none => false
  | some last => decide (last = b ∨ gLet (t last) = true)
def gNam (t : Int → Int) (b e : Int) : Bool := gNamE t b (gNamF t (gStop t b e) b b b)
def gNumF (t : Int → Int) (e most a p : Int) : Int := if p < e then (if gDig (t p) = true then (if most < 10 * a + (t p - 48) then -1 else gNumF t e most (10 * a + (t p - 48)) (p + 1)) else -1) else a
termination_by (e - p).toNat
decreasing_by omega
def gNum (t : Int → Int) (b e most : Int) : Int := if e ≤ b then -1 else gNumF t e most 0 b
def gFouF (t : Int → Int) (e num k p : Int) : Bool := if p ≤ e then (if p = e ∨ t p = 46 then (if gNum t num p 255 < 1 then false else gFouF t e (p + 1) (k + 1) (p + 1)) else gFouF t e num k (p + 1)) else decide (k = 4)
termination_by (e + 1 - p).toNat
decreasing_by all_goals omega
def gFou (t : Int → Int) (b e : Int) : Bool := gFouF t e b 0 b
def gPrt (t : Int → Int) (b e : Int) : Bool := decide (e ≤ b ∨ gNum t b e 2147483647 ≠ -1)
theorem pAt_r (σ : St) (i : Nat) (p : Int) : -2147483648 ≤ pAt σ i p ∧ pAt σ i p ≤ 2147483647 := by have := pAt_rng σ i p; omega
theorem ixO_r {w : Nat} (hw : w < nS) (c : Int) : -2147483648 ≤ ixO (tS w) c ∧ ixO (tS w) c ≤ 2147483647 := by have := ixO_rng w hw c; omega
theorem gColP_rng (t : Int → Int) {n : Int} (h : 0 ≤ n) : 0 ≤ gColP t n ∧ gColP t n ≤ n := nxt_rng _ n 0 h
theorem gCol_rng (t : Int → Int) {n : Int} (h : 0 ≤ n) : -1 ≤ gCol t n ∧ gCol t n ≤ n := by
  have := gColP_rng t h
  unfold gCol
  split <;> omega
theorem gWrF_rng (t : Int → Int) (e : Int) : ∀ p, p ≤ e → 0 ≤ p → -1 ≤ gWrF t p e ∧ gWrF t p e < e + 1 := by
  refine up (fun p hp ih h0 => ?_)
  unfold gWrF
  split
  · split
    · exact ih (p + 1) (by omega) (by omega) (by omega)
    · omega
  · omega
theorem gWr_rng (t : Int → Int) {e : Int} (h : 0 ≤ e) : -1 ≤ gWr t e ∧ gWr t e ≤ e + 1 := by
  unfold gWr
  split
  · omega
  · by_cases h1 : 1 ≤ e
    · have := gWrF_rng t e 1 h1 (by omega)
      omega
    · unfold gWrF
      rw [if_neg (by omega)]
      omega
theorem gNumF_rng (t : Int → Int) (ht : ∀ p, 0 ≤ t p ∧ t p < 65536) {most : Int} (hm : 0 ≤ most ∧ most ≤ 2147483647) (e : Int) : ∀ p, p ≤ e → ∀ a, 0 ≤ a ∧ a ≤ most → -1 ≤ gNumF t e most a p ∧ gNumF t e most a p ≤ most := by
  refine up (fun p hp ih a ha => ?_)
  unfold gNumF
  split
  · split
    · rename_i h1 h2
      have h3 := of_decide_eq_true h2
      split
      · omega
      · exact ih (p + 1) (by omega) (by omega) _ (by omega)
    · omega
  · omega
theorem gNum_rng (t : Int → Int) (ht : ∀ p, 0 ≤ t p ∧ t p < 65536) {most : Int} (hm : 0 ≤ most ∧ most ≤ 2147483647) (b e : Int) : -1 ≤ gNum t b e most ∧ gNum t b e most ≤ most := by
  unfold gNum
  split
  · omega
  · exact gNumF_rng t ht hm e b (by omega) 0 (by omega)
theorem RW.drop {γ : Gm} {M : Md} {d k n : Nat} {Qr : Option Value → St → va_W → Prop} {Qx : String → St → va_W → Prop} {c1 n1 pc : Nat} {L : List (Option Value)} {st : List Value} {σ : St} {xs : va_W} (j : Nat) (k9 : RW γ M d k n Qr Qx c1 n1 pc (L.set j none) st σ xs) : RW γ M d k n Qr Qx c1 n1 pc L st σ xs := by
  refine RW.sub (fun i v hi => ?_) k9
  by_cases h : i = j
  · subst h
    have hl : i < L.length := by
      have := (List.getElem?_eq_some_iff.mp hi).1
      simpa using this
    rw [List.getElem?_set_self hl] at hi
    cases hi
  · rwa [List.getElem?_set_ne (fun z => h z.symm)] at hi
theorem gSl_lt {σ : St} {i : Nat} {b : Int} (h : gSl (pAt σ i) b = true) : 0 ≤ b ∧ b + 2 ≤ cnt σ i := by
  have h1 := of_decide_eq_true h
  unfold pAt at h1
  obtain ⟨h2, h3⟩ := h1
  split at h2
  · split at h3
    · omega
    · omega
  · omega
section X2
variable {γ : Gm} {σ : St} {xs : va_W} {i : Nat}
set_option maxRecDepth 100000 in
set_option maxHeartbeats 4000000 in
theorem x2_isLetter {c : Int} (hc : -2147483648 ≤ c ∧ c ≤ 2147483647) : Ev γ mX2_isLetter 1 0 0 [.int (zI c)] σ xs (rtn (some (.int (zI (bI (gLet c))))) σ xs) nX := by
  refine Ev.of1 0 [some (.int (zI c))] rfl pn_X2_isLetter rfl (Nat.le_of_ble_eq_true rfl) ?_
  refine r_iload_n (q := 1) dX2_isLetter_0 rfl rfl ?_
  refine r_bipush (q := 3) dX2_isLetter_1 rfl (bip (by decide) (by decide)) ?_
  refine r_icmp_lt (q := 6) (tgt := 12) dX2_isLetter_3 rfl (by decide) (by omega) (by omega) (fun h3 => ?_) (fun h3 => ?_)
  · refine r_iload_n (q := 13) dX2_isLetter_12 rfl rfl ?_
    refine r_bipush (q := 15) dX2_isLetter_13 rfl (bip (by decide) (by decide)) ?_
    refine r_icmp_lt (q := 18) (tgt := 28) dX2_isLetter_15 rfl (by decide) (by omega) (by omega) (fun h15 => ?_) (fun h15 => ?_)
    · refine r_iconst (q := 29) dX2_isLetter_28 rfl ?_
      refine r_retz dX2_isLetter_29 rfl (by first | rfl | exact narB _) (by decide) (by decide) ?_
      exact ret_i (by unfold gLet; simp [bI]; omega)
    · refine r_iload_n (q := 19) dX2_isLetter_18 rfl rfl ?_
      refine r_bipush (q := 21) dX2_isLetter_19 rfl (bip (by decide) (by decide)) ?_
      refine r_icmp_gt (q := 24) (tgt := 28) dX2_isLetter_21 rfl (by decide) (by omega) (by omega) (fun h21 => ?_) (fun h21 => ?_)
      · refine r_iconst (q := 29) dX2_isLetter_28 rfl ?_
        refine r_retz dX2_isLetter_29 rfl (by first | rfl | exact narB _) (by decide) (by decide) ?_
        exact ret_i (by unfold gLet; simp [bI]; omega)
      · refine r_iconst (q := 25) dX2_isLetter_24 rfl ?_
        refine r_goto (q := 29) dX2_isLetter_25 (by decide) ?_
        refine r_retz dX2_isLetter_29 rfl (by first | rfl | exact narB _) (by decide) (by decide) ?_
        exact ret_i (by unfold gLet; simp [bI]; omega)
  · refine r_iload_n (q := 7) dX2_isLetter_6 rfl rfl ?_
    refine r_bipush (q := 9) dX2_isLetter_7 rfl (bip (by decide) (by decide)) ?_
    refine r_icmp_le (q := 12) (tgt := 24) dX2_isLetter_9 rfl (by decide) (by omega) (by omega) (fun h9 => ?_) (fun h9 => ?_)
    · refine r_iconst (q := 25) dX2_isLetter_24 rfl ?_
      refine r_goto (q := 29) dX2_isLetter_25 (by decide) ?_
      refine r_retz dX2_isLetter_29 rfl (by first | rfl | exact narB _) (by decide) (by decide) ?_
      exact ret_i (by unfold gLet; simp [bI]; omega)
    · refine r_iload_n (q := 13) dX2_isLetter_12 rfl rfl ?_
      refine r_bipush (q := 15) dX2_isLetter_13 rfl (bip (by decide) (by decide)) ?_
      refine r_icmp_lt (q := 18) (tgt := 28) dX2_isLetter_15 rfl (by decide) (by omega) (by omega) (fun h15 => ?_) (fun h15 => ?_)
      · refine r_iconst (q := 29) dX2_isLetter_28 rfl ?_
        refine r_retz dX2_isLetter_29 rfl (by first | rfl | exact narB _) (by decide) (by decide) ?_
        exact ret_i (by unfold gLet; simp [bI]; omega)
      · refine r_iload_n (q := 19) dX2_isLetter_18 rfl rfl ?_
        refine r_bipush (q := 21) dX2_isLetter_19 rfl (bip (by decide) (by decide)) ?_
        refine r_icmp_gt (q := 24) (tgt := 28) dX2_isLetter_21 rfl (by decide) (by omega) (by omega) (fun h21 => ?_) (fun h21 => ?_)
        · refine r_iconst (q := 29) dX2_isLetter_28 rfl ?_
          refine r_retz dX2_isLetter_29 rfl (by first | rfl | exact narB _) (by decide) (by decide) ?_
          exact ret_i (by unfold gLet; simp [bI]; omega)
        · refine r_iconst (q := 25) dX2_isLetter_24 rfl ?_
          refine r_goto (q := 29) dX2_isLetter_25 (by decide) ?_
          refine r_retz dX2_isLetter_29 rfl (by first | rfl | exact narB _) (by decide) (by decide) ?_
          exact ret_i (by unfold gLet; simp [bI]; omega)
set_option maxRecDepth 100000 in
set_option maxHeartbeats 4000000 in
theorem x2_isDigit {c : Int} (hc : -2147483648 ≤ c ∧ c ≤ 2147483647) : Ev γ mX2_isDigit 1 0 0 [.int (zI c)] σ xs (rtn (some (.int (zI (bI (gDig c))))) σ xs) nX := by
  refine Ev.of1 0 [some (.int (zI c))] rfl pn_X2_isDigit rfl (Nat.le_of_ble_eq_true rfl) ?_
  refine r_iload_n (q := 1) dX2_isDigit_0 rfl rfl ?_
  refine r_bipush (q := 3) dX2_isDigit_1 rfl (bip (by decide) (by decide)) ?_
  refine r_icmp_lt (q := 6) (tgt := 16) dX2_isDigit_3 rfl (by decide) (by omega) (by omega) (fun h3 => ?_) (fun h3 => ?_)
  · refine r_iconst (q := 17) dX2_isDigit_16 rfl ?_
    refine r_retz dX2_isDigit_17 rfl (by first | rfl | exact narB _) (by decide) (by decide) ?_
    exact ret_i (by unfold gDig; simp [bI]; omega)
  · refine r_iload_n (q := 7) dX2_isDigit_6 rfl rfl ?_
    refine r_bipush (q := 9) dX2_isDigit_7 rfl (bip (by decide) (by decide)) ?_
    refine r_icmp_gt (q := 12) (tgt := 16) dX2_isDigit_9 rfl (by decide) (by omega) (by omega) (fun h9 => ?_) (fun h9 => ?_)
    · refine r_iconst (q := 17) dX2_isDigit_16 rfl ?_
      refine r_retz dX2_isDigit_17 rfl (by first | rfl | exact narB _) (by decide) (by decide) ?_
      exact ret_i (by unfold gDig; simp [bI]; omega)
    · refine r_iconst (q := 13) dX2_isDigit_12 rfl ?_
      refine r_goto (q := 17) dX2_isDigit_13 (by decide) ?_
      refine r_retz dX2_isDigit_17 rfl (by first | rfl | exact narB _) (by decide) (by decide) ?_
      exact ret_i (by unfold gDig; simp [bI]; omega)
set_option maxRecDepth 100000 in
set_option maxHeartbeats 4000000 in
theorem x2_isSlashed (hG : Full γ) (hi : vK 0 i = true) (hW : Wk σ) {b : Int} (hb : -10 ≤ b ∧ b ≤ 300) : Ev γ mX2_isSlashed 2 0 0 [.ref (ga γ 0 i), .int (zI b)] σ xs (rtn (some (.int (zI (bI (gSl (pAt σ i) b))))) σ xs) nX := by
  refine Ev.of1 0 [some (.ref (ga γ 0 i)), some (.int (zI b))] rfl pn_X2_isSlashed rfl (Nat.le_of_ble_eq_true rfl) ?_
  refine r_aload_n (q := 1) dX2_isSlashed_0 rfl rfl ?_
  refine r_iload_n (q := 2) dX2_isSlashed_1 rfl rfl ?_
  refine cX3_1 (My := mX3_at) (q := 5) dX2_isSlashed_2 rfl kX2_9 vX3_at (hG _ _ (by first | rfl | exact hi)) rfl (x3_at hG hi hW (by omega)) ⟨by decide, by decide⟩ ⟨by decide, by decide⟩ (Nat.le_of_ble_eq_true rfl) ?_
  refine r_bipush (q := 7) dX2_isSlashed_5 rfl (bip (by decide) (by decide)) ?_
  refine r_icmp_ne (q := 10) (tgt := 26) dX2_isSlashed_7 rfl (by decide) (by first | omega | exact pAt_r _ _ _ | exact ixO_r (by decide) _) (by first | omega | exact pAt_r _ _ _ | exact ixO_r (by decide) _) (fun h7 => ?_) (fun h7 => ?_)
  · refine r_iconst (q := 27) dX2_isSlashed_26 rfl ?_
    refine r_retz dX2_isSlashed_27 rfl (by first | rfl | exact narB _) (by decide) (by decide) ?_
    exact ret_i (by unfold gSl; simp [bI]; omega)
  · refine r_aload_n (q := 11) dX2_isSlashed_10 rfl rfl ?_
    refine r_iload_n (q := 12) dX2_isSlashed_11 rfl rfl ?_
    refine r_iconst (q := 13) dX2_isSlashed_12 rfl ?_
    refine r_iadd (q := 14) dX2_isSlashed_13 rfl ?_
    refine cX3_1 (My := mX3_at) (q := 17) dX2_isSlashed_14 rfl kX2_9 vX3_at (hG _ _ (by first | rfl | exact hi)) rfl (x3_at hG hi hW (by omega)) ⟨by decide, by decide⟩ ⟨by decide, by decide⟩ (Nat.le_of_ble_eq_true rfl) ?_
    refine r_bipush (q := 19) dX2_isSlashed_17 rfl (bip (by decide) (by decide)) ?_
    refine r_icmp_ne (q := 22) (tgt := 26) dX2_isSlashed_19 rfl (by decide) (by first | omega | exact pAt_r _ _ _ | exact ixO_r (by decide) _) (by first | omega | exact pAt_r _ _ _ | exact ixO_r (by decide) _) (fun h19 => ?_) (fun h19 => ?_)
    · refine r_iconst (q := 27) dX2_isSlashed_26 rfl ?_
      refine r_retz dX2_isSlashed_27 rfl (by first | rfl | exact narB _) (by decide) (by decide) ?_
      exact ret_i (by unfold gSl; simp [bI]; omega)
    · refine r_iconst (q := 23) dX2_isSlashed_22 rfl ?_
      refine r_goto (q := 27) dX2_isSlashed_23 (by decide) ?_
      refine r_retz dX2_isSlashed_27 rfl (by first | rfl | exact narB _) (by decide) (by decide) ?_
      exact ret_i (by unfold gSl; simp [bI]; omega)
set_option maxRecDepth 100000 in
set_option maxHeartbeats 4000000 in
theorem x2_schemeColon (hG : Full γ) (hi : vK 0 i = true) (hW : Wk σ) : Ev γ mX2_schemeColon 6 0 0 [.ref (ga γ 0 i)] σ xs (rtn (some (.int (zI (gCol (pAt σ i) (cnt σ i))))) σ xs) nX := by
  refine Ev.of1 1 [some (.ref (ga γ 0 i)), none] rfl pn_X2_schemeColon rfl (Nat.le_of_ble_eq_true rfl) ?_
  have hc := hW.1 i
  have h9 := gColP_rng (pAt σ i) hc.1
  refine r_aload_n (q := 1) dX2_schemeColon_0 rfl rfl ?_
  refine r_ldcS (i := 0) (tx := ":/?#") (q := 3) dX2_schemeColon_1 rfl (List.mem_of_getElem? (i := 0) rfl) ?_
  refine r_iconst (q := 4) dX2_schemeColon_3 rfl ?_
  refine r_aload_n (q := 5) dX2_schemeColon_4 rfl rfl ?_
  refine cX3_0 (My := mX3_count) (q := 8) dX2_schemeColon_5 rfl kX2_17 vX3_count (hG _ _ (by first | rfl | exact hi)) rfl (x3_count hG hi) ⟨by decide, by decide⟩ ⟨by decide, by decide⟩ (Nat.le_of_ble_eq_true rfl) ?_
  refine cX3_3 (My := mX3_next) (q := 11) dX2_schemeColon_8 rfl kX2_21 vX3_next (hG _ _ (by first | rfl | exact hi)) rfl (x3_next hG hi hW (by decide) (by omega) (by omega)) ⟨by decide, by decide⟩ ⟨by decide, by decide⟩ (Nat.le_of_ble_eq_true rfl) ?_
  refine r_istore_n (q := 12) dX2_schemeColon_11 rfl (by decide) (Lst.setL rfl rfl) ?_
  refine r_aload_n (q := 13) dX2_schemeColon_12 rfl rfl ?_
  refine r_iload_n (q := 14) dX2_schemeColon_13 rfl rfl ?_
  refine cX3_1 (My := mX3_at) (q := 17) dX2_schemeColon_14 rfl kX2_9 vX3_at (hG _ _ (by first | rfl | exact hi)) rfl (x3_at hG hi hW (by unfold gColP at h9; omega)) ⟨by decide, by decide⟩ ⟨by decide, by decide⟩ (Nat.le_of_ble_eq_true rfl) ?_
  refine r_bipush (q := 19) dX2_schemeColon_17 rfl (bip (by decide) (by decide)) ?_
  refine r_icmp_ne (q := 22) (tgt := 26) dX2_schemeColon_19 rfl (by decide) (by first | omega | exact pAt_r _ _ _ | exact ixO_r (by decide) _) (by first | omega | exact pAt_r _ _ _ | exact ixO_r (by decide) _) (fun h19 => ?_) (fun h19 => ?_)
  · refine r_iconst (q := 27) dX2_schemeColon_26 rfl ?_
    refine r_reti dX2_schemeColon_27 rfl (by decide) (by decide) ?_
    first
      | exact ret_i (by unfold gCol; rw [if_pos (by unfold gColP; omega)]; rfl)
      | exact ret_i (by unfold gCol; rw [if_neg (by unfold gColP; omega)])
  · refine r_iload_n (q := 23) dX2_schemeColon_22 rfl rfl ?_
    refine r_goto (q := 27) dX2_schemeColon_23 (by decide) ?_
    refine r_reti dX2_schemeColon_27 rfl (by decide) (by decide) ?_
    first
      | exact ret_i (by unfold gCol; rw [if_pos (by unfold gColP; omega)]; rfl)
      | exact ret_i (by unfold gCol; rw [if_neg (by unfold gColP; omega)])
set_option maxRecDepth 100000 in
set_option maxHeartbeats 4000000 in
theorem x2_wrongInScheme (hG : Full γ) (hi : vK 0 i = true) (hW : Wk σ) {e : Int} (he : 0 ≤ e ∧ e ≤ 200) : Ev γ mX2_wrongInScheme 5 0 0 [.ref (ga γ 0 i), .int (zI e)] σ xs (rtn (some (.int (zI (gWr (pAt σ i) e)))) σ xs) nX := by
  refine Ev.of1 2 [some (.ref (ga γ 0 i)), some (.int (zI e)), none, none] rfl pn_X2_wrongInScheme rfl (Nat.le_of_ble_eq_true rfl) ?_
  have loop : ∀ p : Int, p ≤ 300 → 1 ≤ p → gWrF (pAt σ i) p e = gWrF (pAt σ i) 1 e → RW γ mX2_wrongInScheme 5 0 0 (rtn (some (.int (zI (gWrF (pAt σ i) 1 e)))) σ xs) nX 0 0 19 [some (.ref (ga γ 0 i)), some (.int (zI e)), some (.int (zI p)), none] [] σ xs := by
    refine up (fun p hp ih h0 hr => ?_)
    refine r_iload_n (q := 20) dX2_wrongInScheme_19 rfl rfl ?_
    refine r_iload_n (q := 21) dX2_wrongInScheme_20 rfl rfl ?_
    refine r_icmp_ge (q := 24) (tgt := 61) dX2_wrongInScheme_21 rfl (by decide) (by first | omega | exact pAt_r _ _ _ | exact ixO_r (by decide) _) (by first | omega | exact pAt_r _ _ _ | exact ixO_r (by decide) _) (fun h21 => ?_) (fun h21 => ?_)
    · refine r_iconst (q := 62) dX2_wrongInScheme_61 rfl ?_
      refine r_reti dX2_wrongInScheme_62 rfl (by decide) (by decide) ?_
      first
        | exact ret_i (by rw [← hr]; unfold gWrF; rw [if_neg (by omega)])
        | exact ret_i (by rw [← hr]; unfold gWrF; rw [if_pos (by omega), if_neg (by rw [h34, h41]; simp; omega)])
    · refine r_aload_n (q := 25) dX2_wrongInScheme_24 rfl rfl ?_
      refine r_iload_n (q := 26) dX2_wrongInScheme_25 rfl rfl ?_
      refine cX3_1 (My := mX3_at) (q := 29) dX2_wrongInScheme_26 rfl kX2_9 vX3_at (hG _ _ (by first | rfl | exact hi)) rfl (x3_at hG hi hW (by omega)) ⟨by decide, by decide⟩ ⟨by decide, by decide⟩ (Nat.le_of_ble_eq_true rfl) ?_
      refine r_istore_n (q := 30) dX2_wrongInScheme_29 rfl (by decide) (Lst.setL rfl rfl) ?_
      refine r_iload_n (q := 31) dX2_wrongInScheme_30 rfl rfl ?_
      refine cS_1 (My := mX2_isLetter) (q := 34) dX2_wrongInScheme_31 rfl kX2_25 vX2_isLetter (x2_isLetter (pAt_r _ _ _)) ⟨by decide, by decide⟩ ⟨by decide, by decide⟩ (Nat.le_of_ble_eq_true rfl) ?_
      refine r_ifB_ne (q := 37) (tgt := 55) dX2_wrongInScheme_34 rfl (by decide) (fun h34 => ?_) (fun h34 => ?_)
      · refine r_iinc (q := 58) dX2_wrongInScheme_55 rfl rfl (by decide) (Lst.setL rfl rfl) ?_
        refine r_goto (q := 19) dX2_wrongInScheme_58 (by decide) ?_
        have hs : gLet (pAt σ i p) = true ∨ gDig (pAt σ i p) = true ∨ 0 ≤ ixO (tS 1) (pAt σ i p) := by first | exact Or.inl (by assumption) | exact Or.inr (Or.inl (by assumption)) | exact Or.inr (Or.inr (by omega))
        refine RW.drop 3 ?_
        exact ih (p + 1) (by omega) (by omega) (by omega) (by rw [← hr, gWrF.eq_def (pAt σ i) p e, if_pos (by omega), if_pos hs])
      · refine r_iload_n (q := 38) dX2_wrongInScheme_37 rfl rfl ?_
        refine cS_1 (My := mX2_isDigit) (q := 41) dX2_wrongInScheme_38 rfl kX2_31 vX2_isDigit (x2_isDigit (pAt_r _ _ _)) ⟨by decide, by decide⟩ ⟨by decide, by decide⟩ (Nat.le_of_ble_eq_true rfl) ?_
        refine r_ifB_ne (q := 44) (tgt := 55) dX2_wrongInScheme_41 rfl (by decide) (fun h41 => ?_) (fun h41 => ?_)
        · refine r_iinc (q := 58) dX2_wrongInScheme_55 rfl rfl (by decide) (Lst.setL rfl rfl) ?_
          refine r_goto (q := 19) dX2_wrongInScheme_58 (by decide) ?_
          have hs : gLet (pAt σ i p) = true ∨ gDig (pAt σ i p) = true ∨ 0 ≤ ixO (tS 1) (pAt σ i p) := by first | exact Or.inl (by assumption) | exact Or.inr (Or.inl (by assumption)) | exact Or.inr (Or.inr (by omega))
          refine RW.drop 3 ?_
          exact ih (p + 1) (by omega) (by omega) (by omega) (by rw [← hr, gWrF.eq_def (pAt σ i) p e, if_pos (by omega), if_pos hs])
        · refine r_ldcS (i := 1) (tx := "+-.") (q := 46) dX2_wrongInScheme_44 rfl (List.mem_of_getElem? (i := 1) rfl) ?_
          refine r_iload_n (q := 47) dX2_wrongInScheme_46 rfl rfl ?_
          refine cT_1 (My := mJ0_indexOf_0f7a4) (q := 50) dX2_wrongInScheme_47 rfl kX2_36 vJ0_indexOf_0f7a4 (by decide) rfl (j_indexOf (by decide) (pAt_r _ _ _)) ⟨by decide, by decide⟩ ⟨by decide, by decide⟩ (Nat.le_of_ble_eq_true rfl) ?_
          refine r_if_ge (q := 53) (tgt := 55) dX2_wrongInScheme_50 rfl (by decide) (by first | omega | exact pAt_r _ _ _ | exact ixO_r (by decide) _) (fun h50 => ?_) (fun h50 => ?_)
          · refine r_iinc (q := 58) dX2_wrongInScheme_55 rfl rfl (by decide) (Lst.setL rfl rfl) ?_
            refine r_goto (q := 19) dX2_wrongInScheme_58 (by decide) ?_
            have hs : gLet (pAt σ i p) = true ∨ gDig (pAt σ i p) = true ∨ 0 ≤ ixO (tS 1) (pAt σ i p) := by first | exact Or.inl (by assumption) | exact Or.inr (Or.inl (by assumption)) | exact Or.inr (Or.inr (by omega))
            refine RW.drop 3 ?_
            exact ih (p + 1) (by omega) (by omega) (by omega) (by rw [← hr, gWrF.eq_def (pAt σ i) p e, if_pos (by omega), if_pos hs])
          · refine r_iload_n (q := 54) dX2_wrongInScheme_53 rfl rfl ?_
            refine r_reti dX2_wrongInScheme_54 rfl (by decide) (by decide) ?_
            first
              | exact ret_i (by rw [← hr]; unfold gWrF; rw [if_neg (by omega)])
              | exact ret_i (by rw [← hr]; unfold gWrF; rw [if_pos (by omega), if_neg (by rw [h34, h41]; simp; omega)])
  refine r_iload_n (q := 1) dX2_wrongInScheme_0 rfl rfl ?_
  refine r_if_eq (q := 4) (tgt := 15) dX2_wrongInScheme_1 rfl (by decide) (by first | omega | exact pAt_r _ _ _ | exact ixO_r (by decide) _) (fun h1 => ?_) (fun h1 => ?_)
  · refine r_iconst (q := 16) dX2_wrongInScheme_15 rfl ?_
    refine r_reti dX2_wrongInScheme_16 rfl (by decide) (by decide) ?_
    exact ret_i (by unfold gWr; rw [if_pos (by first | omega | exact Or.inr (by assumption))])
  · refine r_aload_n (q := 5) dX2_wrongInScheme_4 rfl rfl ?_
    refine r_iconst (q := 6) dX2_wrongInScheme_5 rfl ?_
    refine cX3_1 (My := mX3_at) (q := 9) dX2_wrongInScheme_6 rfl kX2_9 vX3_at (hG _ _ (by first | rfl | exact hi)) rfl (x3_at hG hi hW (by omega)) ⟨by decide, by decide⟩ ⟨by decide, by decide⟩ (Nat.le_of_ble_eq_true rfl) ?_
    refine cS_1 (My := mX2_isLetter) (q := 12) dX2_wrongInScheme_9 rfl kX2_25 vX2_isLetter (x2_isLetter (pAt_r _ _ _)) ⟨by decide, by decide⟩ ⟨by decide, by decide⟩ (Nat.le_of_ble_eq_true rfl) ?_
    refine r_ifB_ne (q := 15) (tgt := 17) dX2_wrongInScheme_12 rfl (by decide) (fun h12 => ?_) (fun h12 => ?_)
    · refine r_iconst (q := 18) dX2_wrongInScheme_17 rfl ?_
      refine r_istore_n (q := 19) dX2_wrongInScheme_18 rfl (by decide) (Lst.setL rfl rfl) ?_
      have e9 : gWr (pAt σ i) e = gWrF (pAt σ i) 1 e := by unfold gWr; rw [if_neg (by simp [h12]; omega)]
      rw [e9]
      exact loop 1 (by omega) (by omega) rfl
    · refine r_iconst (q := 16) dX2_wrongInScheme_15 rfl ?_
      refine r_reti dX2_wrongInScheme_16 rfl (by decide) (by decide) ?_
      exact ret_i (by unfold gWr; rw [if_pos (by first | omega | exact Or.inr (by assumption))])
set_option maxRecDepth 100000 in
set_option maxHeartbeats 4000000 in
theorem x2_isAuthorityBad (hG : Full γ) (hi : vK 0 i = true) (hW : Wk σ) : Ev γ mX2_isAuthorityBad 7 0 0 [.ref (ga γ 0 i)] σ xs (rtn (some (.int (zI (bI (gAB (pAt σ i) (cnt σ i)))))) σ xs) nX := by
  refine Ev.of1 3 [some (.ref (ga γ 0 i)), none, none, none] rfl pn_X2_isAuthorityBad rfl (Nat.le_of_ble_eq_true rfl) ?_
  have hc := hW.1 i
  have h8 := gCol_rng (pAt σ i) hc.1
  refine r_aload_n (q := 1) dX2_isAuthorityBad_0 rfl rfl ?_
  refine cS_1 (My := mX2_schemeColon) (q := 4) dX2_isAuthorityBad_1 rfl kX2_42 vX2_schemeColon (x2_schemeColon hG hi hW) ⟨by decide, by decide⟩ ⟨by decide, by decide⟩ (Nat.le_of_ble_eq_true rfl) ?_
  refine r_iconst (q := 5) dX2_isAuthorityBad_4 rfl ?_
  refine r_iadd (q := 6) dX2_isAuthorityBad_5 rfl ?_
  refine r_istore_n (q := 7) dX2_isAuthorityBad_6 rfl (by decide) (Lst.setL rfl rfl) ?_
  refine r_aload_n (q := 8) dX2_isAuthorityBad_7 rfl rfl ?_
  refine r_iload_n (q := 9) dX2_isAuthorityBad_8 rfl rfl ?_
  refine cS_2 (My := mX2_isSlashed) (q := 12) dX2_isAuthorityBad_9 rfl kX2_46 vX2_isSlashed (x2_isSlashed hG hi hW (by omega)) ⟨by decide, by decide⟩ ⟨by decide, by decide⟩ (Nat.le_of_ble_eq_true rfl) ?_
  refine r_ifB_ne (q := 15) (tgt := 17) dX2_isAuthorityBad_12 rfl (by decide) (fun h12 => ?_) (fun h12 => ?_)
  · refine r_iload_n (q := 18) dX2_isAuthorityBad_17 rfl rfl ?_
    refine r_iconst (q := 19) dX2_isAuthorityBad_18 rfl ?_
    refine r_iadd (q := 20) dX2_isAuthorityBad_19 rfl ?_
    refine r_istore_n (q := 21) dX2_isAuthorityBad_20 rfl (by decide) (Lst.setL rfl rfl) ?_
    refine r_aload_n (q := 22) dX2_isAuthorityBad_21 rfl rfl ?_
    refine r_ldcS (i := 4) (tx := "/?#") (q := 24) dX2_isAuthorityBad_22 rfl (List.mem_of_getElem? (i := 51) rfl) ?_
    refine r_iload_n (q := 25) dX2_isAuthorityBad_24 rfl rfl ?_
    refine r_aload_n (q := 26) dX2_isAuthorityBad_25 rfl rfl ?_
    refine cX3_0 (My := mX3_count) (q := 29) dX2_isAuthorityBad_26 rfl kX2_17 vX3_count (hG _ _ (by first | rfl | exact hi)) rfl (x3_count hG hi) ⟨by decide, by decide⟩ ⟨by decide, by decide⟩ (Nat.le_of_ble_eq_true rfl) ?_
    refine cX3_3 (My := mX3_next) (q := 32) dX2_isAuthorityBad_29 rfl kX2_21 vX3_next (hG _ _ (by first | rfl | exact hi)) rfl (x3_next hG hi hW (by decide) (by have h5 := gSl_lt h12; have h6 := nxt_rng (isC (pAt σ i) 4) (cnt σ i) (gCol (pAt σ i) (cnt σ i) + 1 + 2) (by omega); omega) (by have h5 := gSl_lt h12; have h6 := nxt_rng (isC (pAt σ i) 4) (cnt σ i) (gCol (pAt σ i) (cnt σ i) + 1 + 2) (by omega); omega)) ⟨by decide, by decide⟩ ⟨by decide, by decide⟩ (Nat.le_of_ble_eq_true rfl) ?_
    refine r_istore_n (q := 33) dX2_isAuthorityBad_32 rfl (by decide) (Lst.setL rfl rfl) ?_
    refine r_aload_n (q := 34) dX2_isAuthorityBad_33 rfl rfl ?_
    refine r_ldcS (i := 3) (tx := "\"<>\\^`{|}") (q := 36) dX2_isAuthorityBad_34 rfl (List.mem_of_getElem? (i := 52) rfl) ?_
    refine r_iload_n (q := 37) dX2_isAuthorityBad_36 rfl rfl ?_
    refine r_iload_n (q := 38) dX2_isAuthorityBad_37 rfl rfl ?_
    refine cX3_3 (My := mX3_next) (q := 41) dX2_isAuthorityBad_38 rfl kX2_21 vX3_next (hG _ _ (by first | rfl | exact hi)) rfl (x3_next hG hi hW (by decide) (by have h5 := gSl_lt h12; have h6 := nxt_rng (isC (pAt σ i) 4) (cnt σ i) (gCol (pAt σ i) (cnt σ i) + 1 + 2) (by omega); omega) (by have h5 := gSl_lt h12; have h6 := nxt_rng (isC (pAt σ i) 4) (cnt σ i) (gCol (pAt σ i) (cnt σ i) + 1 + 2) (by omega); omega)) ⟨by decide, by decide⟩ ⟨by decide, by decide⟩ (Nat.le_of_ble_eq_true rfl) ?_
    refine r_iload_n (q := 42) dX2_isAuthorityBad_41 rfl rfl ?_
    refine r_icmp_ge (q := 45) (tgt := 49) dX2_isAuthorityBad_42 rfl (by decide) (by first | omega | (have h5 := gSl_lt h12; have h6 := nxt_rng (isC (pAt σ i) 4) (cnt σ i) (gCol (pAt σ i) (cnt σ i) + 1 + 2) (by omega); have h7 := nxt_rng (isC (pAt σ i) 3) _ (gCol (pAt σ i) (cnt σ i) + 1 + 2) h6.1; omega)) (by first | omega | (have h5 := gSl_lt h12; have h6 := nxt_rng (isC (pAt σ i) 4) (cnt σ i) (gCol (pAt σ i) (cnt σ i) + 1 + 2) (by omega); have h7 := nxt_rng (isC (pAt σ i) 3) _ (gCol (pAt σ i) (cnt σ i) + 1 + 2) h6.1; omega)) (fun h42 => ?_) (fun h42 => ?_)
    · refine r_iconst (q := 50) dX2_isAuthorityBad_49 rfl ?_
      refine r_retz dX2_isAuthorityBad_50 rfl (by first | rfl | exact narB _) (by decide) (by decide) ?_
      first
        | exact ret_i (by unfold gAB; rw [if_pos h12]; unfold gABe; simp [bI]; omega)
        | exact ret_i (by unfold gAB; rw [if_neg (by rw [h12]; decide)]; rfl)
    · refine r_iconst (q := 46) dX2_isAuthorityBad_45 rfl ?_
      refine r_goto (q := 50) dX2_isAuthorityBad_46 (by decide) ?_
      refine r_retz dX2_isAuthorityBad_50 rfl (by first | rfl | exact narB _) (by decide) (by decide) ?_
      first
        | exact ret_i (by unfold gAB; rw [if_pos h12]; unfold gABe; simp [bI]; omega)
        | exact ret_i (by unfold gAB; rw [if_neg (by rw [h12]; decide)]; rfl)
  · refine r_iconst (q := 16) dX2_isAuthorityBad_15 rfl ?_
    refine r_retz dX2_isAuthorityBad_16 rfl (by first | rfl | exact narB _) (by decide) (by decide) ?_
    first
      | exact ret_i (by unfold gAB; rw [if_pos h12]; unfold gABe; simp [bI]; omega)
      | exact ret_i (by unfold gAB; rw [if_neg (by rw [h12]; decide)]; rfl)
set_option maxRecDepth 100000 in
set_option maxHeartbeats 4000000 in
theorem x2_isLabel (hG : Full γ) (hi : vK 0 i = true) (hW : Wk σ) {b e : Int} (hb : -1 ≤ b ∧ b ≤ 300) (he : -1 ≤ e ∧ e ≤ 300) : Ev γ mX2_isLabel 3 0 0 [.ref (ga γ 0 i), .int (zI b), .int (zI e)] σ xs (rtn (some (.int (zI (bI (gLab (pAt σ i) b e))))) σ xs) nX := by
  refine Ev.of1 2 [some (.ref (ga γ 0 i)), some (.int (zI b)), some (.int (zI e)), none, none] rfl pn_X2_isLabel rfl (Nat.le_of_ble_eq_true rfl) ?_
  have loop : ∀ p : Int, p ≤ 400 → b ≤ p → gLabF (pAt σ i) p e = gLabF (pAt σ i) b e → RW γ mX2_isLabel 3 0 0 (rtn (some (.int (zI (bI (gLabF (pAt σ i) b e))))) σ xs) nX 0 0 31 [some (.ref (ga γ 0 i)), some (.int (zI b)), some (.int (zI e)), some (.int (zI p)), none] [] σ xs := by
    refine up (fun p hp ih h0 hr => ?_)
    refine r_iload_n (q := 32) dX2_isLabel_31 rfl rfl ?_
    refine r_iload_n (q := 33) dX2_isLabel_32 rfl rfl ?_
    refine r_icmp_ge (q := 36) (tgt := 74) dX2_isLabel_33 rfl (by decide) (by first | omega | exact pAt_r _ _ _ | exact ixO_r (by decide) _) (by first | omega | exact pAt_r _ _ _ | exact ixO_r (by decide) _) (fun h33 => ?_) (fun h33 => ?_)
    · refine r_iconst (q := 75) dX2_isLabel_74 rfl ?_
      refine r_retz dX2_isLabel_75 rfl (by first | rfl | exact narB _) (by decide) (by decide) ?_
      first
        | exact ret_i (by rw [← hr]; unfold gLabF; rw [if_neg (by omega)]; rfl)
        | exact ret_i (by rw [← hr]; unfold gLabF; rw [if_pos (by omega), if_neg (by rw [h48, h56]; simp; omega)]; rfl)
    · refine r_aload_n (q := 37) dX2_isLabel_36 rfl rfl ?_
      refine r_iload_n (q := 38) dX2_isLabel_37 rfl rfl ?_
      refine cX3_1 (My := mX3_at) (q := 41) dX2_isLabel_38 rfl kX2_9 vX3_at (hG _ _ (by first | rfl | exact hi)) rfl (x3_at hG hi hW (by omega)) ⟨by decide, by decide⟩ ⟨by decide, by decide⟩ (Nat.le_of_ble_eq_true rfl) ?_
      refine r_istore (q := 43) dX2_isLabel_41 rfl (by decide) (Lst.setL rfl rfl) ?_
      refine r_iload (q := 45) dX2_isLabel_43 rfl rfl ?_
      refine cS_1 (My := mX2_isLetter) (q := 48) dX2_isLabel_45 rfl kX2_25 vX2_isLetter (x2_isLetter (pAt_r _ _ _)) ⟨by decide, by decide⟩ ⟨by decide, by decide⟩ (Nat.le_of_ble_eq_true rfl) ?_
      refine r_ifB_ne (q := 51) (tgt := 68) dX2_isLabel_48 rfl (by decide) (fun h48 => ?_) (fun h48 => ?_)
      · refine r_iinc (q := 71) dX2_isLabel_68 rfl rfl (by decide) (Lst.setL rfl rfl) ?_
        refine r_goto (q := 31) dX2_isLabel_71 (by decide) ?_
        have hs : gLet (pAt σ i p) = true ∨ gDig (pAt σ i p) = true ∨ pAt σ i p = 45 := by first | exact Or.inl (by assumption) | exact Or.inr (Or.inl (by assumption)) | exact Or.inr (Or.inr (by omega))
        refine RW.drop 4 ?_
        exact ih (p + 1) (by omega) (by omega) (by omega) (by rw [← hr, gLabF.eq_def (pAt σ i) p e, if_pos (by omega), if_pos hs])
      · refine r_iload (q := 53) dX2_isLabel_51 rfl rfl ?_
        refine cS_1 (My := mX2_isDigit) (q := 56) dX2_isLabel_53 rfl kX2_31 vX2_isDigit (x2_isDigit (pAt_r _ _ _)) ⟨by decide, by decide⟩ ⟨by decide, by decide⟩ (Nat.le_of_ble_eq_true rfl) ?_
        refine r_ifB_ne (q := 59) (tgt := 68) dX2_isLabel_56 rfl (by decide) (fun h56 => ?_) (fun h56 => ?_)
        · refine r_iinc (q := 71) dX2_isLabel_68 rfl rfl (by decide) (Lst.setL rfl rfl) ?_
          refine r_goto (q := 31) dX2_isLabel_71 (by decide) ?_
          have hs : gLet (pAt σ i p) = true ∨ gDig (pAt σ i p) = true ∨ pAt σ i p = 45 := by first | exact Or.inl (by assumption) | exact Or.inr (Or.inl (by assumption)) | exact Or.inr (Or.inr (by omega))
          refine RW.drop 4 ?_
          exact ih (p + 1) (by omega) (by omega) (by omega) (by rw [← hr, gLabF.eq_def (pAt σ i) p e, if_pos (by omega), if_pos hs])
        · refine r_iload (q := 61) dX2_isLabel_59 rfl rfl ?_
          refine r_bipush (q := 63) dX2_isLabel_61 rfl (bip (by decide) (by decide)) ?_
          refine r_icmp_eq (q := 66) (tgt := 68) dX2_isLabel_63 rfl (by decide) (by first | omega | exact pAt_r _ _ _ | exact ixO_r (by decide) _) (by first | omega | exact pAt_r _ _ _ | exact ixO_r (by decide) _) (fun h63 => ?_) (fun h63 => ?_)
          · refine r_iinc (q := 71) dX2_isLabel_68 rfl rfl (by decide) (Lst.setL rfl rfl) ?_
            refine r_goto (q := 31) dX2_isLabel_71 (by decide) ?_
            have hs : gLet (pAt σ i p) = true ∨ gDig (pAt σ i p) = true ∨ pAt σ i p = 45 := by first | exact Or.inl (by assumption) | exact Or.inr (Or.inl (by assumption)) | exact Or.inr (Or.inr (by omega))
            refine RW.drop 4 ?_
            exact ih (p + 1) (by omega) (by omega) (by omega) (by rw [← hr, gLabF.eq_def (pAt σ i) p e, if_pos (by omega), if_pos hs])
          · refine r_iconst (q := 67) dX2_isLabel_66 rfl ?_
            refine r_retz dX2_isLabel_67 rfl (by first | rfl | exact narB _) (by decide) (by decide) ?_
            first
              | exact ret_i (by rw [← hr]; unfold gLabF; rw [if_neg (by omega)]; rfl)
              | exact ret_i (by rw [← hr]; unfold gLabF; rw [if_pos (by omega), if_neg (by rw [h48, h56]; simp; omega)]; rfl)
  refine r_iload_n (q := 1) dX2_isLabel_0 rfl rfl ?_
  refine r_iload_n (q := 2) dX2_isLabel_1 rfl rfl ?_
  refine r_icmp_ge (q := 5) (tgt := 27) dX2_isLabel_2 rfl (by decide) (by first | omega | exact pAt_r _ _ _ | exact ixO_r (by decide) _) (by first | omega | exact pAt_r _ _ _ | exact ixO_r (by decide) _) (fun h2 => ?_) (fun h2 => ?_)
  · refine r_iconst (q := 28) dX2_isLabel_27 rfl ?_
    refine r_retz dX2_isLabel_28 rfl (by first | rfl | exact narB _) (by decide) (by decide) ?_
    exact ret_i (by unfold gLab; rw [if_pos (by omega)]; rfl)
  · refine r_aload_n (q := 6) dX2_isLabel_5 rfl rfl ?_
    refine r_iload_n (q := 7) dX2_isLabel_6 rfl rfl ?_
    refine cX3_1 (My := mX3_at) (q := 10) dX2_isLabel_7 rfl kX2_9 vX3_at (hG _ _ (by first | rfl | exact hi)) rfl (x3_at hG hi hW (by omega)) ⟨by decide, by decide⟩ ⟨by decide, by decide⟩ (Nat.le_of_ble_eq_true rfl) ?_
    refine r_bipush (q := 12) dX2_isLabel_10 rfl (bip (by decide) (by decide)) ?_
    refine r_icmp_eq (q := 15) (tgt := 27) dX2_isLabel_12 rfl (by decide) (by first | omega | exact pAt_r _ _ _ | exact ixO_r (by decide) _) (by first | omega | exact pAt_r _ _ _ | exact ixO_r (by decide) _) (fun h12 => ?_) (fun h12 => ?_)
    · refine r_iconst (q := 28) dX2_isLabel_27 rfl ?_
      refine r_retz dX2_isLabel_28 rfl (by first | rfl | exact narB _) (by decide) (by decide) ?_
      exact ret_i (by unfold gLab; rw [if_pos (by omega)]; rfl)
    · refine r_aload_n (q := 16) dX2_isLabel_15 rfl rfl ?_
      refine r_iload_n (q := 17) dX2_isLabel_16 rfl rfl ?_
      refine r_iconst (q := 18) dX2_isLabel_17 rfl ?_
      refine r_isub (q := 19) dX2_isLabel_18 rfl ?_
      refine cX3_1 (My := mX3_at) (q := 22) dX2_isLabel_19 rfl kX2_9 vX3_at (hG _ _ (by first | rfl | exact hi)) rfl (x3_at hG hi hW (by omega)) ⟨by decide, by decide⟩ ⟨by decide, by decide⟩ (Nat.le_of_ble_eq_true rfl) ?_
      refine r_bipush (q := 24) dX2_isLabel_22 rfl (bip (by decide) (by decide)) ?_
      refine r_icmp_ne (q := 27) (tgt := 29) dX2_isLabel_24 rfl (by decide) (by first | omega | exact pAt_r _ _ _ | exact ixO_r (by decide) _) (by first | omega | exact pAt_r _ _ _ | exact ixO_r (by decide) _) (fun h24 => ?_) (fun h24 => ?_)
      · refine r_iload_n (q := 30) dX2_isLabel_29 rfl rfl ?_
        refine r_istore_n (q := 31) dX2_isLabel_30 rfl (by decide) (Lst.setL rfl rfl) ?_
        have e9 : gLab (pAt σ i) b e = gLabF (pAt σ i) b e := by unfold gLab; rw [if_neg (by omega)]
        rw [e9]
        exact loop b (by omega) (by omega) rfl
      · refine r_iconst (q := 28) dX2_isLabel_27 rfl ?_
        refine r_retz dX2_isLabel_28 rfl (by first | rfl | exact narB _) (by decide) (by decide) ?_
        exact ret_i (by unfold gLab; rw [if_pos (by omega)]; rfl)
set_option maxRecDepth 100000 in
set_option maxHeartbeats 4000000 in
theorem x2_numberIn (hG : Full γ) (hi : vK 0 i = true) (hW : Wk σ) {b e most : Int} (hb : -1 ≤ b ∧ b ≤ 300) (he : -1 ≤ e ∧ e ≤ 300) (hm : 0 ≤ most ∧ most ≤ 2147483647) : Ev γ mX2_numberIn 2 0 0 [.ref (ga γ 0 i), .int (zI b), .int (zI e), .int (zI most)] σ xs (rtn (some (.int (zI (gNum (pAt σ i) b e most)))) σ xs) nX := by
  refine Ev.of1 4 [some (.ref (ga γ 0 i)), some (.int (zI b)), some (.int (zI e)), some (.int (zI most)), none, none, none, none] rfl pn_X2_numberIn rfl (Nat.le_of_ble_eq_true rfl) ?_
  have loop : ∀ p : Int, p ≤ e → b ≤ p → ∀ a : Int, 0 ≤ a ∧ a ≤ most → gNumF (pAt σ i) e most a p = gNumF (pAt σ i) e most 0 b → RW γ mX2_numberIn 2 0 0 (rtn (some (.int (zI (gNumF (pAt σ i) e most 0 b)))) σ xs) nX 0 0 13 [some (.ref (ga γ 0 i)), some (.int (zI b)), some (.int (zI e)), some (.int (zI most)), some (.long (zL a)), none, some (.int (zI p)), none] [] σ xs := by
    refine up (fun p hp ih h0 a ha hr => ?_)
    refine r_iload (q := 15) dX2_numberIn_13 rfl rfl ?_
    refine r_iload_n (q := 16) dX2_numberIn_15 rfl rfl ?_
    refine r_icmp_ge (q := 19) (tgt := 68) dX2_numberIn_16 rfl (by decide) (by first | omega | exact pAt_r _ _ _ | (have h5 := pAt_rng σ i p; omega)) (by first | omega | exact pAt_r _ _ _ | (have h5 := pAt_rng σ i p; omega)) (fun h16 => ?_) (fun h16 => ?_)
    · refine r_lload (q := 70) dX2_numberIn_68 rfl rfl ?_
      refine r_l2i (q := 71) dX2_numberIn_70 rfl ?_
      refine r_reti dX2_numberIn_71 rfl (by decide) (by decide) ?_
      first
        | exact ret_i (by rw [← hr]; unfold gNumF; rw [if_neg (by omega)])
        | exact ret_i (by rw [← hr]; unfold gNumF; rw [if_pos (by omega), if_neg (by rw [h32]; decide)])
        | exact ret_i (by rw [← hr]; unfold gNumF; rw [if_pos (by omega), if_pos h32, if_pos (by omega)])
    · refine r_aload_n (q := 20) dX2_numberIn_19 rfl rfl ?_
      refine r_iload (q := 22) dX2_numberIn_20 rfl rfl ?_
      refine cX3_1 (My := mX3_at) (q := 25) dX2_numberIn_22 rfl kX2_9 vX3_at (hG _ _ (by first | rfl | exact hi)) rfl (x3_at hG hi hW (by omega)) ⟨by decide, by decide⟩ ⟨by decide, by decide⟩ (Nat.le_of_ble_eq_true rfl) ?_
      refine r_istore (q := 27) dX2_numberIn_25 rfl (by decide) (Lst.setL rfl rfl) ?_
      refine r_iload (q := 29) dX2_numberIn_27 rfl rfl ?_
      refine cS_1 (My := mX2_isDigit) (q := 32) dX2_numberIn_29 rfl kX2_31 vX2_isDigit (x2_isDigit (pAt_r _ _ _)) ⟨by decide, by decide⟩ ⟨by decide, by decide⟩ (Nat.le_of_ble_eq_true rfl) ?_
      refine r_ifB_ne (q := 35) (tgt := 37) dX2_numberIn_32 rfl (by decide) (fun h32 => ?_) (fun h32 => ?_)
      · refine r_ldc2 (q := 40) dX2_numberIn_37 rfl cX2_63 ?_
        refine r_lload (q := 42) dX2_numberIn_40 rfl rfl ?_
        refine r_lmul (q := 43) dX2_numberIn_42 rfl ?_
        refine r_iload (q := 45) dX2_numberIn_43 rfl rfl ?_
        refine r_bipush (q := 47) dX2_numberIn_45 rfl (bip (by decide) (by decide)) ?_
        refine r_isub (q := 48) dX2_numberIn_47 rfl ?_
        refine r_i2l (q := 49) dX2_numberIn_48 rfl (by first | omega | exact pAt_r _ _ _ | (have h5 := pAt_rng σ i p; omega)) ?_
        refine r_ladd (q := 50) dX2_numberIn_49 rfl ?_
        refine r_lstore (q := 52) dX2_numberIn_50 rfl (by decide) (Lst.set2 rfl) ?_
        refine r_lload (q := 54) dX2_numberIn_52 rfl rfl ?_
        refine r_iload_n (q := 55) dX2_numberIn_54 rfl rfl ?_
        refine r_i2l (q := 56) dX2_numberIn_55 rfl (by first | omega | exact pAt_r _ _ _ | (have h5 := pAt_rng σ i p; omega)) ?_
        refine r_lcmp (q := 57) dX2_numberIn_56 rfl (by have h5 := pAt_rng σ i p; omega) (by omega) (fun z56 hz56 => ?_)
        refine r_if_le (q := 60) (tgt := 62) dX2_numberIn_57 rfl (by decide) (by first | omega | exact pAt_r _ _ _ | (have h5 := pAt_rng σ i p; omega)) (fun h57 => ?_) (fun h57 => ?_)
        · refine r_iinc (q := 65) dX2_numberIn_62 rfl rfl (by decide) (Lst.setL rfl rfl) ?_
          refine r_goto (q := 13) dX2_numberIn_65 (by decide) ?_
          refine RW.drop 7 ?_
          exact ih (p + 1) (by omega) (by omega) (by omega) _ (by have h5 := pAt_rng σ i p; have h6 := of_decide_eq_true h32; omega) (by rw [← hr, gNumF.eq_def (pAt σ i) e most a p, if_pos (by omega), if_pos h32, if_neg (by omega)])
        · refine r_iconst (q := 61) dX2_numberIn_60 rfl ?_
          refine r_reti dX2_numberIn_61 rfl (by decide) (by decide) ?_
          first
            | exact ret_i (by rw [← hr]; unfold gNumF; rw [if_neg (by omega)])
            | exact ret_i (by rw [← hr]; unfold gNumF; rw [if_pos (by omega), if_neg (by rw [h32]; decide)])
            | exact ret_i (by rw [← hr]; unfold gNumF; rw [if_pos (by omega), if_pos h32, if_pos (by omega)])
      · refine r_iconst (q := 36) dX2_numberIn_35 rfl ?_
        refine r_reti dX2_numberIn_36 rfl (by decide) (by decide) ?_
        first
          | exact ret_i (by rw [← hr]; unfold gNumF; rw [if_neg (by omega)])
          | exact ret_i (by rw [← hr]; unfold gNumF; rw [if_pos (by omega), if_neg (by rw [h32]; decide)])
          | exact ret_i (by rw [← hr]; unfold gNumF; rw [if_pos (by omega), if_pos h32, if_pos (by omega)])
  refine r_iload_n (q := 1) dX2_numberIn_0 rfl rfl ?_
  refine r_iload_n (q := 2) dX2_numberIn_1 rfl rfl ?_
  refine r_icmp_lt (q := 5) (tgt := 7) dX2_numberIn_2 rfl (by decide) (by first | omega | exact pAt_r _ _ _ | exact ixO_r (by decide) _) (by first | omega | exact pAt_r _ _ _ | exact ixO_r (by decide) _) (fun h2 => ?_) (fun h2 => ?_)
  · refine r_lconst (z := 0) (q := 8) dX2_numberIn_7 rfl (by decide +kernel) ?_
    refine r_lstore (q := 10) dX2_numberIn_8 rfl (by decide) (Lst.set2 rfl) ?_
    refine r_iload_n (q := 11) dX2_numberIn_10 rfl rfl ?_
    refine r_istore (q := 13) dX2_numberIn_11 rfl (by decide) (Lst.setL rfl rfl) ?_
    have e9 : gNum (pAt σ i) b e most = gNumF (pAt σ i) e most 0 b := by unfold gNum; rw [if_neg (by omega)]
    rw [e9]
    exact loop b (by omega) (by omega) 0 (by omega) rfl
  · refine r_iconst (q := 6) dX2_numberIn_5 rfl ?_
    refine r_reti dX2_numberIn_6 rfl (by decide) (by decide) ?_
    exact ret_i (by unfold gNum; rw [if_pos (by omega)])
set_option maxRecDepth 100000 in
set_option maxHeartbeats 4000000 in
theorem x2_isPort (hG : Full γ) (hi : vK 0 i = true) (hW : Wk σ) {b e : Int} (hb : -1 ≤ b ∧ b ≤ 300) (he : -1 ≤ e ∧ e ≤ 300) : Ev γ mX2_isPort 3 0 0 [.ref (ga γ 0 i), .int (zI b), .int (zI e)] σ xs (rtn (some (.int (zI (bI (gPrt (pAt σ i) b e))))) σ xs) nX := by
  refine Ev.of1 0 [some (.ref (ga γ 0 i)), some (.int (zI b)), some (.int (zI e))] rfl pn_X2_isPort rfl (Nat.le_of_ble_eq_true rfl) ?_
  have h9 := gNum_rng (pAt σ i) (pAt_rng σ i) (most := 2147483647) (by omega) b e
  refine r_iload_n (q := 1) dX2_isPort_0 rfl rfl ?_
  refine r_iload_n (q := 2) dX2_isPort_1 rfl rfl ?_
  refine r_icmp_ge (q := 5) (tgt := 17) dX2_isPort_2 rfl (by decide) (by first | omega | exact pAt_r _ _ _ | exact ixO_r (by decide) _) (by first | omega | exact pAt_r _ _ _ | exact ixO_r (by decide) _) (fun h2 => ?_) (fun h2 => ?_)
  · refine r_iconst (q := 18) dX2_isPort_17 rfl ?_
    refine r_goto (q := 22) dX2_isPort_18 (by decide) ?_
    refine r_retz dX2_isPort_22 rfl (by first | rfl | exact narB _) (by decide) (by decide) ?_
    exact ret_i (by unfold gPrt; simp [bI]; omega)
  · refine r_aload_n (q := 6) dX2_isPort_5 rfl rfl ?_
    refine r_iload_n (q := 7) dX2_isPort_6 rfl rfl ?_
    refine r_iload_n (q := 8) dX2_isPort_7 rfl rfl ?_
    refine r_ldcI (q := 10) dX2_isPort_8 rfl cX2_62 ?_
    refine cS_4 (My := mX2_numberIn) (q := 13) dX2_isPort_10 rfl kX2_58 vX2_numberIn (x2_numberIn hG hi hW (by omega) (by omega) (by omega)) ⟨by decide, by decide⟩ ⟨by decide, by decide⟩ (Nat.le_of_ble_eq_true rfl) ?_
    refine r_iconst (q := 14) dX2_isPort_13 rfl ?_
    refine r_icmp_eq (q := 17) (tgt := 21) dX2_isPort_14 rfl (by decide) (by first | omega | exact pAt_r _ _ _ | exact ixO_r (by decide) _) (by first | omega | exact pAt_r _ _ _ | exact ixO_r (by decide) _) (fun h14 => ?_) (fun h14 => ?_)
    · refine r_iconst (q := 22) dX2_isPort_21 rfl ?_
      refine r_retz dX2_isPort_22 rfl (by first | rfl | exact narB _) (by decide) (by decide) ?_
      exact ret_i (by unfold gPrt; simp [bI]; omega)
    · refine r_iconst (q := 18) dX2_isPort_17 rfl ?_
      refine r_goto (q := 22) dX2_isPort_18 (by decide) ?_
      refine r_retz dX2_isPort_22 rfl (by first | rfl | exact narB _) (by decide) (by decide) ?_
      exact ret_i (by unfold gPrt; simp [bI]; omega)
set_option maxRecDepth 100000 in
set_option maxHeartbeats 4000000 in
theorem x2_isFourNumbers (hG : Full γ) (hi : vK 0 i = true) (hW : Wk σ) {b e : Int} (hb : 0 ≤ b) (he : b ≤ e ∧ e ≤ 200) : Ev γ mX2_isFourNumbers 3 0 0 [.ref (ga γ 0 i), .int (zI b), .int (zI e)] σ xs (rtn (some (.int (zI (bI (gFou (pAt σ i) b e))))) σ xs) nX := by
  refine Ev.of1 3 [some (.ref (ga γ 0 i)), some (.int (zI b)), some (.int (zI e)), none, none, none] rfl pn_X2_isFourNumbers rfl (Nat.le_of_ble_eq_true rfl) ?_
  have loop : ∀ p : Int, p ≤ e + 1 → b ≤ p → ∀ num : Int, b ≤ num ∧ num ≤ p → ∀ k : Int, 0 ≤ k ∧ k ≤ p → gFouF (pAt σ i) e num k p = gFou (pAt σ i) b e → RW γ mX2_isFourNumbers 3 0 0 (rtn (some (.int (zI (bI (gFou (pAt σ i) b e))))) σ xs) nX 0 0 8 [some (.ref (ga γ 0 i)), some (.int (zI b)), some (.int (zI e)), some (.int (zI num)), some (.int (zI k)), some (.int (zI p))] [] σ xs := by
    refine up (fun p hp ih h0 num hnum k hk hr => ?_)
    refine r_iload (q := 10) dX2_isFourNumbers_8 rfl rfl ?_
    refine r_iload_n (q := 11) dX2_isFourNumbers_10 rfl rfl ?_
    refine r_icmp_gt (q := 14) (tgt := 61) dX2_isFourNumbers_11 rfl (by decide) (by first | omega | exact pAt_r _ _ _ | (have h5 := gNum_rng (pAt σ i) (pAt_rng σ i) (most := 255) (by omega) num p; omega)) (by first | omega | exact pAt_r _ _ _ | (have h5 := gNum_rng (pAt σ i) (pAt_rng σ i) (most := 255) (by omega) num p; omega)) (fun h11 => ?_) (fun h11 => ?_)
    · refine r_iload (q := 63) dX2_isFourNumbers_61 rfl rfl ?_
      refine r_iconst (q := 64) dX2_isFourNumbers_63 rfl ?_
      refine r_icmp_ne (q := 67) (tgt := 71) dX2_isFourNumbers_64 rfl (by decide) (by first | omega | exact pAt_r _ _ _ | (have h5 := gNum_rng (pAt σ i) (pAt_rng σ i) (most := 255) (by omega) num p; omega)) (by first | omega | exact pAt_r _ _ _ | (have h5 := gNum_rng (pAt σ i) (pAt_rng σ i) (most := 255) (by omega) num p; omega)) (fun h64 => ?_) (fun h64 => ?_)
      · refine r_iconst (q := 72) dX2_isFourNumbers_71 rfl ?_
        refine r_retz dX2_isFourNumbers_72 rfl (by first | rfl | exact narB _) (by decide) (by decide) ?_
        first
          | exact ret_i (by rw [← hr]; unfold gFouF; rw [if_neg (by omega)]; simp [bI]; omega)
          | exact ret_i (by rw [← hr]; unfold gFouF; rw [if_pos (by omega), if_pos (by omega), if_pos (by omega)]; rfl)
      · refine r_iconst (q := 68) dX2_isFourNumbers_67 rfl ?_
        refine r_goto (q := 72) dX2_isFourNumbers_68 (by decide) ?_
        refine r_retz dX2_isFourNumbers_72 rfl (by first | rfl | exact narB _) (by decide) (by decide) ?_
        first
          | exact ret_i (by rw [← hr]; unfold gFouF; rw [if_neg (by omega)]; simp [bI]; omega)
          | exact ret_i (by rw [← hr]; unfold gFouF; rw [if_pos (by omega), if_pos (by omega), if_pos (by omega)]; rfl)
    · refine r_iload (q := 16) dX2_isFourNumbers_14 rfl rfl ?_
      refine r_iload_n (q := 17) dX2_isFourNumbers_16 rfl rfl ?_
      refine r_icmp_eq (q := 20) (tgt := 31) dX2_isFourNumbers_17 rfl (by decide) (by first | omega | exact pAt_r _ _ _ | (have h5 := gNum_rng (pAt σ i) (pAt_rng σ i) (most := 255) (by omega) num p; omega)) (by first | omega | exact pAt_r _ _ _ | (have h5 := gNum_rng (pAt σ i) (pAt_rng σ i) (most := 255) (by omega) num p; omega)) (fun h17 => ?_) (fun h17 => ?_)
      · refine r_aload_n (q := 32) dX2_isFourNumbers_31 rfl rfl ?_
        refine r_iload_n (q := 33) dX2_isFourNumbers_32 rfl rfl ?_
        refine r_iload (q := 35) dX2_isFourNumbers_33 rfl rfl ?_
        refine r_sipush (q := 38) dX2_isFourNumbers_35 rfl (sip (by decide) (by decide)) ?_
        refine cS_4 (My := mX2_numberIn) (q := 41) dX2_isFourNumbers_38 rfl kX2_58 vX2_numberIn (x2_numberIn hG hi hW (by omega) (by omega) (by omega)) ⟨by decide, by decide⟩ ⟨by decide, by decide⟩ (Nat.le_of_ble_eq_true rfl) ?_
        refine r_iconst (q := 42) dX2_isFourNumbers_41 rfl ?_
        refine r_icmp_ge (q := 45) (tgt := 47) dX2_isFourNumbers_42 rfl (by decide) (by first | omega | exact pAt_r _ _ _ | (have h5 := gNum_rng (pAt σ i) (pAt_rng σ i) (most := 255) (by omega) num p; omega)) (by first | omega | exact pAt_r _ _ _ | (have h5 := gNum_rng (pAt σ i) (pAt_rng σ i) (most := 255) (by omega) num p; omega)) (fun h42 => ?_) (fun h42 => ?_)
        · refine r_iinc (q := 50) dX2_isFourNumbers_47 rfl rfl (by decide) (Lst.setL rfl rfl) ?_
          refine r_iload (q := 52) dX2_isFourNumbers_50 rfl rfl ?_
          refine r_iconst (q := 53) dX2_isFourNumbers_52 rfl ?_
          refine r_iadd (q := 54) dX2_isFourNumbers_53 rfl ?_
          refine r_istore_n (q := 55) dX2_isFourNumbers_54 rfl (by decide) (Lst.setL rfl rfl) ?_
          refine r_iinc (q := 58) dX2_isFourNumbers_55 rfl rfl (by decide) (Lst.setL rfl rfl) ?_
          refine r_goto (q := 8) dX2_isFourNumbers_58 (by decide) ?_
          first
            | exact ih (p + 1) (by omega) (by omega) (by omega) _ (by omega) _ (by omega) (by rw [← hr, gFouF.eq_def (pAt σ i) e num k p, if_pos (by omega), if_pos (by omega), if_neg (by omega)])
            | exact ih (p + 1) (by omega) (by omega) (by omega) _ (by omega) _ (by omega) (by rw [← hr, gFouF.eq_def (pAt σ i) e num k p, if_pos (by omega), if_neg (by omega)])
        · refine r_iconst (q := 46) dX2_isFourNumbers_45 rfl ?_
          refine r_retz dX2_isFourNumbers_46 rfl (by first | rfl | exact narB _) (by decide) (by decide) ?_
          first
            | exact ret_i (by rw [← hr]; unfold gFouF; rw [if_neg (by omega)]; simp [bI]; omega)
            | exact ret_i (by rw [← hr]; unfold gFouF; rw [if_pos (by omega), if_pos (by omega), if_pos (by omega)]; rfl)
      · refine r_aload_n (q := 21) dX2_isFourNumbers_20 rfl rfl ?_
        refine r_iload (q := 23) dX2_isFourNumbers_21 rfl rfl ?_
        refine cX3_1 (My := mX3_at) (q := 26) dX2_isFourNumbers_23 rfl kX2_9 vX3_at (hG _ _ (by first | rfl | exact hi)) rfl (x3_at hG hi hW (by omega)) ⟨by decide, by decide⟩ ⟨by decide, by decide⟩ (Nat.le_of_ble_eq_true rfl) ?_
        refine r_bipush (q := 28) dX2_isFourNumbers_26 rfl (bip (by decide) (by decide)) ?_
        refine r_icmp_ne (q := 31) (tgt := 55) dX2_isFourNumbers_28 rfl (by decide) (by first | omega | exact pAt_r _ _ _ | (have h5 := gNum_rng (pAt σ i) (pAt_rng σ i) (most := 255) (by omega) num p; omega)) (by first | omega | exact pAt_r _ _ _ | (have h5 := gNum_rng (pAt σ i) (pAt_rng σ i) (most := 255) (by omega) num p; omega)) (fun h28 => ?_) (fun h28 => ?_)
        · refine r_iinc (q := 58) dX2_isFourNumbers_55 rfl rfl (by decide) (Lst.setL rfl rfl) ?_
          refine r_goto (q := 8) dX2_isFourNumbers_58 (by decide) ?_
          first
            | exact ih (p + 1) (by omega) (by omega) (by omega) _ (by omega) _ (by omega) (by rw [← hr, gFouF.eq_def (pAt σ i) e num k p, if_pos (by omega), if_pos (by omega), if_neg (by omega)])
            | exact ih (p + 1) (by omega) (by omega) (by omega) _ (by omega) _ (by omega) (by rw [← hr, gFouF.eq_def (pAt σ i) e num k p, if_pos (by omega), if_neg (by omega)])
        · refine r_aload_n (q := 32) dX2_isFourNumbers_31 rfl rfl ?_
          refine r_iload_n (q := 33) dX2_isFourNumbers_32 rfl rfl ?_
          refine r_iload (q := 35) dX2_isFourNumbers_33 rfl rfl ?_
          refine r_sipush (q := 38) dX2_isFourNumbers_35 rfl (sip (by decide) (by decide)) ?_
          refine cS_4 (My := mX2_numberIn) (q := 41) dX2_isFourNumbers_38 rfl kX2_58 vX2_numberIn (x2_numberIn hG hi hW (by omega) (by omega) (by omega)) ⟨by decide, by decide⟩ ⟨by decide, by decide⟩ (Nat.le_of_ble_eq_true rfl) ?_
          refine r_iconst (q := 42) dX2_isFourNumbers_41 rfl ?_
          refine r_icmp_ge (q := 45) (tgt := 47) dX2_isFourNumbers_42 rfl (by decide) (by first | omega | exact pAt_r _ _ _ | (have h5 := gNum_rng (pAt σ i) (pAt_rng σ i) (most := 255) (by omega) num p; omega)) (by first | omega | exact pAt_r _ _ _ | (have h5 := gNum_rng (pAt σ i) (pAt_rng σ i) (most := 255) (by omega) num p; omega)) (fun h42 => ?_) (fun h42 => ?_)
          · refine r_iinc (q := 50) dX2_isFourNumbers_47 rfl rfl (by decide) (Lst.setL rfl rfl) ?_
            refine r_iload (q := 52) dX2_isFourNumbers_50 rfl rfl ?_
            refine r_iconst (q := 53) dX2_isFourNumbers_52 rfl ?_
            refine r_iadd (q := 54) dX2_isFourNumbers_53 rfl ?_
            refine r_istore_n (q := 55) dX2_isFourNumbers_54 rfl (by decide) (Lst.setL rfl rfl) ?_
            refine r_iinc (q := 58) dX2_isFourNumbers_55 rfl rfl (by decide) (Lst.setL rfl rfl) ?_
            refine r_goto (q := 8) dX2_isFourNumbers_58 (by decide) ?_
            first
              | exact ih (p + 1) (by omega) (by omega) (by omega) _ (by omega) _ (by omega) (by rw [← hr, gFouF.eq_def (pAt σ i) e num k p, if_pos (by omega), if_pos (by omega), if_neg (by omega)])
              | exact ih (p + 1) (by omega) (by omega) (by omega) _ (by omega) _ (by omega) (by rw [← hr, gFouF.eq_def (pAt σ i) e num k p, if_pos (by omega), if_neg (by omega)])
          · refine r_iconst (q := 46) dX2_isFourNumbers_45 rfl ?_
            refine r_retz dX2_isFourNumbers_46 rfl (by first | rfl | exact narB _) (by decide) (by decide) ?_
            first
              | exact ret_i (by rw [← hr]; unfold gFouF; rw [if_neg (by omega)]; simp [bI]; omega)
              | exact ret_i (by rw [← hr]; unfold gFouF; rw [if_pos (by omega), if_pos (by omega), if_pos (by omega)]; rfl)
  refine r_iload_n (q := 1) dX2_isFourNumbers_0 rfl rfl ?_
  refine r_istore_n (q := 2) dX2_isFourNumbers_1 rfl (by decide) (Lst.setL rfl rfl) ?_
  refine r_iconst (q := 3) dX2_isFourNumbers_2 rfl ?_
  refine r_istore (q := 5) dX2_isFourNumbers_3 rfl (by decide) (Lst.setL rfl rfl) ?_
  refine r_iload_n (q := 6) dX2_isFourNumbers_5 rfl rfl ?_
  refine r_istore (q := 8) dX2_isFourNumbers_6 rfl (by decide) (Lst.setL rfl rfl) ?_
  exact loop b (by omega) (by omega) b (by omega) 0 (by omega) rfl
set_option maxRecDepth 100000 in
set_option maxHeartbeats 4000000 in
theorem x2_isName (hG : Full γ) (hi : vK 0 i = true) (hW : Wk σ) {b e : Int} (hb : 0 ≤ b) (he : b ≤ e ∧ e ≤ 200) : Ev γ mX2_isName 4 0 0 [.ref (ga γ 0 i), .int (zI b), .int (zI e)] σ xs (rtn (some (.int (zI (bI (gNam (pAt σ i) b e))))) σ xs) nX := by
  refine Ev.of1 4 [some (.ref (ga γ 0 i)), some (.int (zI b)), some (.int (zI e)), none, none, none, none] rfl pn_X2_isName rfl (Nat.le_of_ble_eq_true rfl) ?_
  have hs : b ≤ gStop (pAt σ i) b e ∧ gStop (pAt σ i) b e ≤ e := by unfold gStop; split <;> omega
  have loop : ∀ p : Int, p ≤ gStop (pAt σ i) b e + 1 → b ≤ p → ∀ lab : Int, b ≤ lab ∧ lab ≤ p → ∀ last : Int, b ≤ last ∧ last ≤ p → gNamE (pAt σ i) b (gNamF (pAt σ i) (gStop (pAt σ i) b e) lab last p) = gNam (pAt σ i) b e → RW γ mX2_isName 4 0 0 (rtn (some (.int (zI (bI (gNam (pAt σ i) b e))))) σ xs) nX 0 0 34 [some (.ref (ga γ 0 i)), some (.int (zI b)), some (.int (zI e)), some (.int (zI (gStop (pAt σ i) b e))), some (.int (zI lab)), some (.int (zI last)), some (.int (zI p))] [] σ xs := by
    refine up (fun p hp ih h0 lab hlab last hlast hr => ?_)
    refine r_iload (q := 36) dX2_isName_34 rfl rfl ?_
    refine r_iload_n (q := 37) dX2_isName_36 rfl rfl ?_
    refine r_icmp_gt (q := 40) (tgt := 86) dX2_isName_37 rfl (by decide) (by first | omega | exact pAt_r _ _ _ | exact ixO_r (by decide) _) (by first | omega | exact pAt_r _ _ _ | exact ixO_r (by decide) _) (fun h37 => ?_) (fun h37 => ?_)
    · refine r_iload (q := 88) dX2_isName_86 rfl rfl ?_
      refine r_iload_n (q := 89) dX2_isName_88 rfl rfl ?_
      refine r_icmp_eq (q := 92) (tgt := 104) dX2_isName_89 rfl (by decide) (by first | omega | exact pAt_r _ _ _ | exact ixO_r (by decide) _) (by first | omega | exact pAt_r _ _ _ | exact ixO_r (by decide) _) (fun h89 => ?_) (fun h89 => ?_)
      · refine r_iconst (q := 105) dX2_isName_104 rfl ?_
        refine r_goto (q := 109) dX2_isName_105 (by decide) ?_
        refine r_retz dX2_isName_109 rfl (by first | rfl | exact narB _) (by decide) (by decide) ?_
        first
          | exact ret_i (by rw [← hr, gNamF.eq_def, if_neg (by omega)]; show _ = bI (decide (last = b ∨ gLet (pAt σ i last) = true)); first | (rw [decide_eq_true (Or.inl (by omega))]; rfl) | (rw [decide_eq_true (Or.inr (by assumption))]; rfl) | (rw [decide_eq_false (by rintro (h | h); omega; rw [h101] at h; exact absurd h (by decide))]; rfl))
          | exact ret_i (by rw [← hr]; unfold gNamF; rw [if_pos (by omega), if_pos (by omega), if_neg (by rw [h65]; decide)]; rfl)
      · refine r_aload_n (q := 93) dX2_isName_92 rfl rfl ?_
        refine r_iload (q := 95) dX2_isName_93 rfl rfl ?_
        refine cX3_1 (My := mX3_at) (q := 98) dX2_isName_95 rfl kX2_9 vX3_at (hG _ _ (by first | rfl | exact hi)) rfl (x3_at hG hi hW (by omega)) ⟨by decide, by decide⟩ ⟨by decide, by decide⟩ (Nat.le_of_ble_eq_true rfl) ?_
        refine cS_1 (My := mX2_isLetter) (q := 101) dX2_isName_98 rfl kX2_25 vX2_isLetter (x2_isLetter (pAt_r _ _ _)) ⟨by decide, by decide⟩ ⟨by decide, by decide⟩ (Nat.le_of_ble_eq_true rfl) ?_
        refine r_ifB_eq (q := 104) (tgt := 108) dX2_isName_101 rfl (by decide) (fun h101 => ?_) (fun h101 => ?_)
        · refine r_iconst (q := 109) dX2_isName_108 rfl ?_
          refine r_retz dX2_isName_109 rfl (by first | rfl | exact narB _) (by decide) (by decide) ?_
          first
            | exact ret_i (by rw [← hr, gNamF.eq_def, if_neg (by omega)]; show _ = bI (decide (last = b ∨ gLet (pAt σ i last) = true)); first | (rw [decide_eq_true (Or.inl (by omega))]; rfl) | (rw [decide_eq_true (Or.inr (by assumption))]; rfl) | (rw [decide_eq_false (by rintro (h | h); omega; rw [h101] at h; exact absurd h (by decide))]; rfl))
            | exact ret_i (by rw [← hr]; unfold gNamF; rw [if_pos (by omega), if_pos (by omega), if_neg (by rw [h65]; decide)]; rfl)
        · refine r_iconst (q := 105) dX2_isName_104 rfl ?_
          refine r_goto (q := 109) dX2_isName_105 (by decide) ?_
          refine r_retz dX2_isName_109 rfl (by first | rfl | exact narB _) (by decide) (by decide) ?_
          first
            | exact ret_i (by rw [← hr, gNamF.eq_def, if_neg (by omega)]; show _ = bI (decide (last = b ∨ gLet (pAt σ i last) = true)); first | (rw [decide_eq_true (Or.inl (by omega))]; rfl) | (rw [decide_eq_true (Or.inr (by assumption))]; rfl) | (rw [decide_eq_false (by rintro (h | h); omega; rw [h101] at h; exact absurd h (by decide))]; rfl))
            | exact ret_i (by rw [← hr]; unfold gNamF; rw [if_pos (by omega), if_pos (by omega), if_neg (by rw [h65]; decide)]; rfl)
    · refine r_iload (q := 42) dX2_isName_40 rfl rfl ?_
      refine r_iload_n (q := 43) dX2_isName_42 rfl rfl ?_
      refine r_icmp_eq (q := 46) (tgt := 57) dX2_isName_43 rfl (by decide) (by first | omega | exact pAt_r _ _ _ | exact ixO_r (by decide) _) (by first | omega | exact pAt_r _ _ _ | exact ixO_r (by decide) _) (fun h43 => ?_) (fun h43 => ?_)
      · refine r_aload_n (q := 58) dX2_isName_57 rfl rfl ?_
        refine r_iload (q := 60) dX2_isName_58 rfl rfl ?_
        refine r_iload (q := 62) dX2_isName_60 rfl rfl ?_
        refine cS_3 (My := mX2_isLabel) (q := 65) dX2_isName_62 rfl kX2_54 vX2_isLabel (x2_isLabel hG hi hW (by omega) (by omega)) ⟨by decide, by decide⟩ ⟨by decide, by decide⟩ (Nat.le_of_ble_eq_true rfl) ?_
        refine r_ifB_ne (q := 68) (tgt := 70) dX2_isName_65 rfl (by decide) (fun h65 => ?_) (fun h65 => ?_)
        · refine r_iload (q := 72) dX2_isName_70 rfl rfl ?_
          refine r_istore (q := 74) dX2_isName_72 rfl (by decide) (Lst.setL rfl rfl) ?_
          refine r_iload (q := 76) dX2_isName_74 rfl rfl ?_
          refine r_iconst (q := 77) dX2_isName_76 rfl ?_
          refine r_iadd (q := 78) dX2_isName_77 rfl ?_
          refine r_istore (q := 80) dX2_isName_78 rfl (by decide) (Lst.setL rfl rfl) ?_
          refine r_iinc (q := 83) dX2_isName_80 rfl rfl (by decide) (Lst.setL rfl rfl) ?_
          refine r_goto (q := 34) dX2_isName_83 (by decide) ?_
          first
            | exact ih (p + 1) (by omega) (by omega) (by omega) _ (by omega) _ (by omega) (by rw [← hr, gNamF.eq_def (pAt σ i) (gStop (pAt σ i) b e) lab last p, if_pos (by omega), if_pos (by omega), if_pos h65])
            | exact ih (p + 1) (by omega) (by omega) (by omega) _ (by omega) _ (by omega) (by rw [← hr, gNamF.eq_def (pAt σ i) (gStop (pAt σ i) b e) lab last p, if_pos (by omega), if_neg (by omega)])
        · refine r_iconst (q := 69) dX2_isName_68 rfl ?_
          refine r_retz dX2_isName_69 rfl (by first | rfl | exact narB _) (by decide) (by decide) ?_
          first
            | exact ret_i (by rw [← hr, gNamF.eq_def, if_neg (by omega)]; show _ = bI (decide (last = b ∨ gLet (pAt σ i last) = true)); first | (rw [decide_eq_true (Or.inl (by omega))]; rfl) | (rw [decide_eq_true (Or.inr (by assumption))]; rfl) | (rw [decide_eq_false (by rintro (h | h); omega; rw [h101] at h; exact absurd h (by decide))]; rfl))
            | exact ret_i (by rw [← hr]; unfold gNamF; rw [if_pos (by omega), if_pos (by omega), if_neg (by rw [h65]; decide)]; rfl)
      · refine r_aload_n (q := 47) dX2_isName_46 rfl rfl ?_
        refine r_iload (q := 49) dX2_isName_47 rfl rfl ?_
        refine cX3_1 (My := mX3_at) (q := 52) dX2_isName_49 rfl kX2_9 vX3_at (hG _ _ (by first | rfl | exact hi)) rfl (x3_at hG hi hW (by omega)) ⟨by decide, by decide⟩ ⟨by decide, by decide⟩ (Nat.le_of_ble_eq_true rfl) ?_
        refine r_bipush (q := 54) dX2_isName_52 rfl (bip (by decide) (by decide)) ?_
        refine r_icmp_ne (q := 57) (tgt := 80) dX2_isName_54 rfl (by decide) (by first | omega | exact pAt_r _ _ _ | exact ixO_r (by decide) _) (by first | omega | exact pAt_r _ _ _ | exact ixO_r (by decide) _) (fun h54 => ?_) (fun h54 => ?_)
        · refine r_iinc (q := 83) dX2_isName_80 rfl rfl (by decide) (Lst.setL rfl rfl) ?_
          refine r_goto (q := 34) dX2_isName_83 (by decide) ?_
          first
            | exact ih (p + 1) (by omega) (by omega) (by omega) _ (by omega) _ (by omega) (by rw [← hr, gNamF.eq_def (pAt σ i) (gStop (pAt σ i) b e) lab last p, if_pos (by omega), if_pos (by omega), if_pos h65])
            | exact ih (p + 1) (by omega) (by omega) (by omega) _ (by omega) _ (by omega) (by rw [← hr, gNamF.eq_def (pAt σ i) (gStop (pAt σ i) b e) lab last p, if_pos (by omega), if_neg (by omega)])
        · refine r_aload_n (q := 58) dX2_isName_57 rfl rfl ?_
          refine r_iload (q := 60) dX2_isName_58 rfl rfl ?_
          refine r_iload (q := 62) dX2_isName_60 rfl rfl ?_
          refine cS_3 (My := mX2_isLabel) (q := 65) dX2_isName_62 rfl kX2_54 vX2_isLabel (x2_isLabel hG hi hW (by omega) (by omega)) ⟨by decide, by decide⟩ ⟨by decide, by decide⟩ (Nat.le_of_ble_eq_true rfl) ?_
          refine r_ifB_ne (q := 68) (tgt := 70) dX2_isName_65 rfl (by decide) (fun h65 => ?_) (fun h65 => ?_)
          · refine r_iload (q := 72) dX2_isName_70 rfl rfl ?_
            refine r_istore (q := 74) dX2_isName_72 rfl (by decide) (Lst.setL rfl rfl) ?_
            refine r_iload (q := 76) dX2_isName_74 rfl rfl ?_
            refine r_iconst (q := 77) dX2_isName_76 rfl ?_
            refine r_iadd (q := 78) dX2_isName_77 rfl ?_
            refine r_istore (q := 80) dX2_isName_78 rfl (by decide) (Lst.setL rfl rfl) ?_
            refine r_iinc (q := 83) dX2_isName_80 rfl rfl (by decide) (Lst.setL rfl rfl) ?_
            refine r_goto (q := 34) dX2_isName_83 (by decide) ?_
            first
              | exact ih (p + 1) (by omega) (by omega) (by omega) _ (by omega) _ (by omega) (by rw [← hr, gNamF.eq_def (pAt σ i) (gStop (pAt σ i) b e) lab last p, if_pos (by omega), if_pos (by omega), if_pos h65])
              | exact ih (p + 1) (by omega) (by omega) (by omega) _ (by omega) _ (by omega) (by rw [← hr, gNamF.eq_def (pAt σ i) (gStop (pAt σ i) b e) lab last p, if_pos (by omega), if_neg (by omega)])
          · refine r_iconst (q := 69) dX2_isName_68 rfl ?_
            refine r_retz dX2_isName_69 rfl (by first | rfl | exact narB _) (by decide) (by decide) ?_
            first
              | exact ret_i (by rw [← hr, gNamF.eq_def, if_neg (by omega)]; show _ = bI (decide (last = b ∨ gLet (pAt σ i last) = true)); first | (rw [decide_eq_true (Or.inl (by omega))]; rfl) | (rw [decide_eq_true (Or.inr (by assumption))]; rfl) | (rw [decide_eq_false (by rintro (h | h); omega; rw [h101] at h; exact absurd h (by decide))]; rfl))
              | exact ret_i (by rw [← hr]; unfold gNamF; rw [if_pos (by omega), if_pos (by omega), if_neg (by rw [h65]; decide)]; rfl)
  have J24 : ∀ z : Int, z = gStop (pAt σ i) b e → RW γ mX2_isName 4 0 0 (rtn (some (.int (zI (bI (gNam (pAt σ i) b e))))) σ xs) nX 0 0 24 [some (.ref (ga γ 0 i)), some (.int (zI b)), some (.int (zI e)), none, none, none, none] [.int (zI z)] σ xs := by
    intro z hz
    subst hz
    refine r_istore_n (q := 25) dX2_isName_24 rfl (by decide) (Lst.setL rfl rfl) ?_
    refine r_iload_n (q := 26) dX2_isName_25 rfl rfl ?_
    refine r_istore (q := 28) dX2_isName_26 rfl (by decide) (Lst.setL rfl rfl) ?_
    refine r_iload_n (q := 29) dX2_isName_28 rfl rfl ?_
    refine r_istore (q := 31) dX2_isName_29 rfl (by decide) (Lst.setL rfl rfl) ?_
    refine r_iload_n (q := 32) dX2_isName_31 rfl rfl ?_
    refine r_istore (q := 34) dX2_isName_32 rfl (by decide) (Lst.setL rfl rfl) ?_
    exact loop b (by omega) (by omega) b (by omega) b (by omega) rfl
  refine r_iload_n (q := 1) dX2_isName_0 rfl rfl ?_
  refine r_iload_n (q := 2) dX2_isName_1 rfl rfl ?_
  refine r_icmp_le (q := 5) (tgt := 23) dX2_isName_2 rfl (by decide) (by first | omega | exact pAt_r _ _ _ | exact ixO_r (by decide) _) (by first | omega | exact pAt_r _ _ _ | exact ixO_r (by decide) _) (fun h2 => ?_) (fun h2 => ?_)
  · refine r_iload_n (q := 24) dX2_isName_23 rfl rfl ?_
    exact J24 _ (by unfold gStop; first | rw [if_pos (by omega)] | rw [if_neg (by omega)])
  · refine r_aload_n (q := 6) dX2_isName_5 rfl rfl ?_
    refine r_iload_n (q := 7) dX2_isName_6 rfl rfl ?_
    refine r_iconst (q := 8) dX2_isName_7 rfl ?_
    refine r_isub (q := 9) dX2_isName_8 rfl ?_
    refine cX3_1 (My := mX3_at) (q := 12) dX2_isName_9 rfl kX2_9 vX3_at (hG _ _ (by first | rfl | exact hi)) rfl (x3_at hG hi hW (by omega)) ⟨by decide, by decide⟩ ⟨by decide, by decide⟩ (Nat.le_of_ble_eq_true rfl) ?_
    refine r_bipush (q := 14) dX2_isName_12 rfl (bip (by decide) (by decide)) ?_
    refine r_icmp_ne (q := 17) (tgt := 23) dX2_isName_14 rfl (by decide) (by first | omega | exact pAt_r _ _ _ | exact ixO_r (by decide) _) (by first | omega | exact pAt_r _ _ _ | exact ixO_r (by decide) _) (fun h14 => ?_) (fun h14 => ?_)
    · refine r_iload_n (q := 24) dX2_isName_23 rfl rfl ?_
      exact J24 _ (by unfold gStop; first | rw [if_pos (by omega)] | rw [if_neg (by omega)])
    · refine r_iload_n (q := 18) dX2_isName_17 rfl rfl ?_
      refine r_iconst (q := 19) dX2_isName_18 rfl ?_
      refine r_isub (q := 20) dX2_isName_19 rfl ?_
      refine r_goto (q := 24) dX2_isName_20 (by decide) ?_
      exact J24 _ (by unfold gStop; first | rw [if_pos (by omega)] | rw [if_neg (by omega)])
end X2
