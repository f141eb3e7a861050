/-! MATHS 4: texts put behind texts -/
abbrev Tx : Type := (Int → Int) × Int
abbrev Src : Type := Bool × (Int → Int) × Int × Int
def ap (t : Int → Int) (n : Int) (f : Int → Int) (b e : Int) : Int → Int := fun p => if n ≤ p ∧ p < n + (e - b) then f (b + (p - n)) else t p
def lg (l : List Int) : Int → Int := fun p => l.getD p.toNat 0
theorem ap_c {t : Int → Int} {n : Int} {f f' : Int → Int} {b b' e e' : Int} (h : e - b = e' - b') (hf : ∀ d, 0 ≤ d → d < e - b → f (b + d) = f' (b' + d)) : ap t n f b e = ap t n f' b' e' := by
  funext p
  unfold ap
  by_cases hp : n ≤ p ∧ p < n + (e - b)
  · rw [if_pos hp, if_pos (by omega), hf (p - n) (by omega) (by omega)]
  · rw [if_neg hp, if_neg (by omega)]
theorem ap_0 (t : Int → Int) (n : Int) (f : Int → Int) (b : Int) : ap t n f b b = t := by
  funext p
  unfold ap
  rw [if_neg (by omega)]
theorem ap_s {t : Int → Int} {n : Int} {f : Int → Int} {b e : Int} (h : b < e) : ap (ap t n f b (b + 1)) (n + 1) f (b + 1) e = ap t n f b e := by
  funext p
  unfold ap
  by_cases h1 : n + 1 ≤ p ∧ p < n + 1 + (e - (b + 1))
  · rw [if_pos h1, if_pos (by omega)]
    congr 1
    omega
  · rw [if_neg h1]
    by_cases h2 : n ≤ p ∧ p < n + (b + 1 - b)
    · rw [if_pos h2, if_pos (by omega)]
    · rw [if_neg h2, if_neg (by omega)]
theorem ap_l {t : Int → Int} {n c : Int} {l : List Int} : ap (ap t n (fun _ => c) 0 1) (n + 1) (lg l) 0 l.length = ap t n (lg (c :: l)) 0 (c :: l).length := by
  funext p
  have hl : ((c :: l).length : Int) = l.length + 1 := by simp
  unfold ap
  rw [hl]
  by_cases h1 : n + 1 ≤ p ∧ p < n + 1 + ((l.length : Int) - 0)
  · rw [if_pos h1, if_pos (by omega)]
    unfold lg
    rw [show (0 + (p - n)).toNat = (0 + (p - (n + 1))).toNat + 1 by omega, List.getD_cons_succ]
  · rw [if_neg h1]
    by_cases h2 : n ≤ p ∧ p < n + (1 - 0)
    · rw [if_pos h2, if_pos (by omega)]
      unfold lg
      rw [show (0 + (p - n)).toNat = 0 by omega, List.getD_cons_zero]
    · rw [if_neg h2, if_neg (by omega)]
-- the class's texts
theorem put_at {σ : St} {i : Nat} {c : Int} (hW : Wk σ) (hc : 0 ≤ c ∧ c < 65536) (h : cnt σ i < 128) : pAt (pPut σ i c) i = ap (pAt σ i) (cnt σ i) (fun _ => c) 0 1 ∧ cnt (pPut σ i c) i = cnt σ i + 1 := by
  have h0 := (hW.1 i).1
  have e : pPut σ i c = sCnt (sSg σ (u2 (sg σ) i (cnt σ i).toNat c)) (u1 (cnt σ) i (cnt σ i + 1)) := if_pos h
  have e1 : cnt (pPut σ i c) = u1 (cnt σ) i (cnt σ i + 1) := by rw [e]; rfl
  have e2 : sg (pPut σ i c) = u2 (sg σ) i (cnt σ i).toNat c := by rw [e]; rfl
  refine ⟨?_, by rw [e1, u1_s]⟩
  funext p
  have e3 : u2 (sg σ) i (cnt σ i).toNat c i = u1 (sg σ i) (cnt σ i).toNat c := u1_s _ _ _
  unfold pAt ap
  dsimp only
  rw [e1, u1_s, e2, e3]
  by_cases hp : cnt σ i ≤ p ∧ p < cnt σ i + (1 - 0)
  · rw [if_pos hp, if_pos (by omega), show p.toNat = (cnt σ i).toNat by omega, u1_s]
    omega
  · rw [if_neg hp]
    by_cases h2 : 0 ≤ p ∧ p < cnt σ i ∧ p < 128
    · rw [if_pos h2, if_pos (by omega), u1_n _ _ (by omega)]
    · rw [if_neg h2, if_neg (by omega)]
theorem put_o (σ : St) (i : Nat) (c : Int) {k : Nat} (hk : k ≠ i) : pAt (pPut σ i c) k = pAt σ k ∧ cnt (pPut σ i c) k = cnt σ k := by
  by_cases h : cnt σ i < 128
  · have e : pPut σ i c = sCnt (sSg σ (u2 (sg σ) i (cnt σ i).toNat c)) (u1 (cnt σ) i (cnt σ i + 1)) := if_pos h
    have e1 : cnt (pPut σ i c) = u1 (cnt σ) i (cnt σ i + 1) := by rw [e]; rfl
    have e2 : sg (pPut σ i c) = u2 (sg σ) i (cnt σ i).toNat c := by rw [e]; rfl
    have e3 : u2 (sg σ) i (cnt σ i).toNat c k = sg σ k := u1_n _ _ hk
    refine ⟨?_, by rw [e1, u1_n _ _ hk]⟩
    funext p
    unfold pAt
    rw [e1, u1_n _ _ hk, e2, e3]
  · have e : pPut σ i c = σ := if_neg h
    rw [e]
    exact ⟨rfl, rfl⟩
theorem put_n {σ : St} (i : Nat) (c : Int) (hW : Wk σ) : cnt (pPut σ i c) i = min 128 (cnt σ i + 1) := by
  have h0 := hW.1 i
  by_cases h : cnt σ i < 128
  · have e : pPut σ i c = sCnt (sSg σ (u2 (sg σ) i (cnt σ i).toNat c)) (u1 (cnt σ) i (cnt σ i + 1)) := if_pos h
    have e1 : cnt (pPut σ i c) = u1 (cnt σ) i (cnt σ i + 1) := by rw [e]; rfl
    rw [e1, u1_s]
    omega
  · have e : pPut σ i c = σ := if_neg h
    rw [e]
    omega
theorem putR_at {i j : Nat} (hij : j ≠ i) {e : Int} : ∀ b : Int, b ≤ e → ∀ σ : St, Wk σ → cnt σ i + (e - b) ≤ 128 → pAt (pPutR σ i j b e) i = ap (pAt σ i) (cnt σ i) (pAt σ j) b e ∧ cnt (pPutR σ i j b e) i = cnt σ i + (e - b) := by
  refine up (fun b hb ih σ hW hn => ?_)
  rw [pPutR.eq_def]
  by_cases h : b < e
  · rw [if_pos h]
    have hr := pAt_rng σ j b
    obtain ⟨a1, a2⟩ := put_at (i := i) (c := pAt σ j b) hW hr (by omega)
    obtain ⟨c1, c2⟩ := ih (b + 1) (by omega) (by omega) (pPut σ i (pAt σ j b)) (Wk_put hW i _) (by rw [a2]; omega)
    have o := (put_o σ i (pAt σ j b) hij).1
    have e1 : ap (pAt σ i) (cnt σ i) (fun _ => pAt σ j b) 0 1 = ap (pAt σ i) (cnt σ i) (pAt σ j) b (b + 1) := ap_c (by omega) (fun d h0 h1 => by rw [show d = 0 by omega, Int.add_zero])
    rw [c1, c2, a1, a2, o, e1]
    exact ⟨ap_s h, by omega⟩
  · rw [if_neg h]
    have e1 : b = e := by omega
    subst e1
    rw [ap_0]
    exact ⟨rfl, by omega⟩
theorem putR_o {i j : Nat} {e : Int} : ∀ b : Int, b ≤ e + 1 → ∀ σ : St, ∀ k, k ≠ i → pAt (pPutR σ i j b e) k = pAt σ k ∧ cnt (pPutR σ i j b e) k = cnt σ k := by
  refine up (fun b hb ih σ k hk => ?_)
  rw [pPutR.eq_def]
  by_cases h : b < e
  · rw [if_pos h]
    obtain ⟨a1, a2⟩ := ih (b + 1) (by omega) (by omega) (pPut σ i (pAt σ j b)) k hk
    obtain ⟨c1, c2⟩ := put_o σ i (pAt σ j b) hk
    rw [a1, a2, c1, c2]
    exact ⟨rfl, rfl⟩
  · rw [if_neg h]
    exact ⟨rfl, rfl⟩
theorem putR_o' {σ : St} {i j : Nat} {b e : Int} {k : Nat} (hk : k ≠ i) : pAt (pPutR σ i j b e) k = pAt σ k ∧ cnt (pPutR σ i j b e) k = cnt σ k := by
  by_cases h : b ≤ e + 1
  · exact putR_o b h σ k hk
  · rw [pPutR.eq_def, if_neg (by omega)]
    exact ⟨rfl, rfl⟩
theorem putR_n {i j : Nat} {e : Int} : ∀ b : Int, b ≤ e → ∀ σ : St, Wk σ → cnt (pPutR σ i j b e) i = min 128 (cnt σ i + (e - b)) := by
  refine up (fun b hb ih σ hW => ?_)
  have h0 := hW.1 i
  rw [pPutR.eq_def]
  by_cases h : b < e
  · rw [if_pos h, ih (b + 1) (by omega) (by omega) (pPut σ i (pAt σ j b)) (Wk_put hW i _), put_n i _ hW]
    omega
  · rw [if_neg h]
    omega
theorem putS_at {i : Nat} : ∀ (l : List Int), (∀ c ∈ l, 0 ≤ c ∧ c < 65536) → ∀ σ : St, Wk σ → cnt σ i + l.length ≤ 128 → pAt (pPutS σ i l) i = ap (pAt σ i) (cnt σ i) (lg l) 0 l.length ∧ cnt (pPutS σ i l) i = cnt σ i + l.length := by
  intro l
  induction l with
  | nil =>
    intro _ σ hW _
    refine ⟨(ap_0 _ _ _ _).symm, ?_⟩
    show cnt σ i = cnt σ i + ((0 : Nat) : Int)
    omega
  | cons c l ih =>
    intro hc σ hW hn
    have hl : ((c :: l).length : Int) = l.length + 1 := by simp
    rw [hl] at hn
    obtain ⟨a1, a2⟩ := put_at (i := i) hW (hc c List.mem_cons_self) (by omega)
    obtain ⟨c1, c2⟩ := ih (fun x hx => hc x (List.mem_cons_of_mem _ hx)) (pPut σ i c) (Wk_put hW i c) (by rw [a2]; omega)
    have e : pPutS σ i (c :: l) = pPutS (pPut σ i c) i l := rfl
    rw [e, c1, c2, a1, a2, ap_l]
    exact ⟨rfl, by omega⟩
theorem putS_o {i : Nat} : ∀ (l : List Int) (σ : St) (k : Nat), k ≠ i → pAt (pPutS σ i l) k = pAt σ k ∧ cnt (pPutS σ i l) k = cnt σ k := by
  intro l
  induction l with
  | nil => intro σ k _; exact ⟨rfl, rfl⟩
  | cons c l ih =>
    intro σ k hk
    have e : pPutS σ i (c :: l) = pPutS (pPut σ i c) i l := rfl
    obtain ⟨a1, a2⟩ := ih (pPut σ i c) k hk
    obtain ⟨c1, c2⟩ := put_o σ i c hk
    rw [e, a1, a2, c1, c2]
    exact ⟨rfl, rfl⟩
theorem putS_n {i : Nat} : ∀ (l : List Int) (σ : St), Wk σ → cnt (pPutS σ i l) i = min 128 (cnt σ i + l.length) := by
  intro l
  induction l with
  | nil =>
    intro σ hW
    have h0 := hW.1 i
    show cnt σ i = min 128 (cnt σ i + ((0 : Nat) : Int))
    omega
  | cons c l ih =>
    intro σ hW
    have h0 := hW.1 i
    have hl : ((c :: l).length : Int) = l.length + 1 := by simp
    have e : pPutS σ i (c :: l) = pPutS (pPut σ i c) i l := rfl
    rw [e, ih _ (Wk_put hW i c), put_n i c hW, hl]
    omega
-- a part between two words
def stp (x : Tx) (w1 : List Int) (f : Int → Int) (b e : Int) (w2 : List Int) : Tx := (ap (ap (ap x.1 x.2 (lg w1) 0 w1.length) (x.2 + w1.length) f b e) (x.2 + w1.length + (e - b)) (lg w2) 0 w2.length, x.2 + w1.length + (e - b) + w2.length)
def stq (x : Tx) (S : Src) (w1 w2 : List Int) : Tx := if S.1 = true then stp x w1 S.2.1 S.2.2.1 S.2.2.2 w2 else x
def cst (S : Src) (w1 w2 : List Int) : Int := if S.1 = true then w1.length + (S.2.2.2 - S.2.2.1) + w2.length else 0
def Se (S S' : Src) : Prop := S.1 = S'.1 ∧ (S.1 = true → S.2.2.1 = S'.2.2.1 ∧ S.2.2.2 = S'.2.2.2 ∧ ∀ p, S.2.2.1 ≤ p → p < S.2.2.2 → S.2.1 p = S'.2.1 p)
theorem stq_n (x : Tx) (S : Src) (w1 w2 : List Int) : (stq x S w1 w2).2 = x.2 + cst S w1 w2 := by
  unfold stq cst
  split
  · show x.2 + w1.length + (S.2.2.2 - S.2.2.1) + w2.length = _
    omega
  · omega
theorem stq_c {x : Tx} {S S' : Src} (h : Se S S') (w1 w2 : List Int) : stq x S w1 w2 = stq x S' w1 w2 := by
  unfold stq
  rw [← h.1]
  by_cases hs : S.1 = true
  · rw [if_pos hs, if_pos hs]
    obtain ⟨h1, h2, h3⟩ := h.2 hs
    unfold stp
    rw [← h1, ← h2]
    have e : ap (ap x.1 x.2 (lg w1) 0 w1.length) (x.2 + w1.length) S.2.1 S.2.2.1 S.2.2.2 = ap (ap x.1 x.2 (lg w1) 0 w1.length) (x.2 + w1.length) S'.2.1 S.2.2.1 S.2.2.2 := ap_c rfl (fun d h0 hd => h3 _ (by omega) (by omega))
    rw [e]
  · rw [if_neg hs, if_neg hs]
theorem cst_c {S S' : Src} (h : Se S S') (w1 w2 : List Int) : cst S w1 w2 = cst S' w1 w2 := by
  unfold cst
  rw [← h.1]
  by_cases hs : S.1 = true
  · rw [if_pos hs, if_pos hs]
    obtain ⟨h1, h2, -⟩ := h.2 hs
    rw [h1, h2]
  · rw [if_neg hs, if_neg hs]
def tx (σ : St) (i : Nat) : Tx := (pAt σ i, cnt σ i)
def pS (σ : St) (j : Nat) (k : Int) : Src := (pHas σ j k, pAt σ j, pBeg σ j k, pEnd σ j k)
theorem tS_in {w : Nat} (hw : w < nS) : ∀ c ∈ tS w, 0 ≤ c ∧ c < 65536 := fun c hc => by have := (tS_ok w hw).2 c hc; omega
theorem pBeg_same {σ σ' : St} (h : Same σ σ') (j : Nat) (k : Int) : pBeg σ' j k = pBeg σ j k ∧ pEnd σ' j k = pEnd σ j k ∧ pHas σ' j k = pHas σ j k := by
  have e1 : pBeg σ' j k = pBeg σ j k := by unfold pBeg; rw [h.1]
  have e2 : pEnd σ' j k = pEnd σ j k := by unfold pEnd; rw [h.2.1]
  exact ⟨e1, e2, by unfold pHas; rw [e1]⟩
theorem wp_o {σ : St} {w1 j : Nat} {k : Int} {w2 m : Nat} (hm : m ≠ 6) : pAt (pWP σ w1 j k w2) m = pAt σ m ∧ cnt (pWP σ w1 j k w2) m = cnt σ m := by
  unfold pWP
  split
  · obtain ⟨a1, a2⟩ := putS_o (tS w2) (pPutP (pPutS σ 6 (tS w1)) j k 6) m hm
    obtain ⟨b1, b2⟩ := putS_o (tS w1) σ m hm
    have c : pAt (pPutP (pPutS σ 6 (tS w1)) j k 6) m = pAt (pPutS σ 6 (tS w1)) m ∧ cnt (pPutP (pPutS σ 6 (tS w1)) j k 6) m = cnt (pPutS σ 6 (tS w1)) m := putR_o' hm
    rw [a1, a2, c.1, c.2, b1, b2]
    exact ⟨rfl, rfl⟩
  · exact ⟨rfl, rfl⟩
theorem wp_n {σ : St} {w1 j : Nat} {k : Int} {w2 : Nat} (hW : Wk σ) (hb : pHas σ j k = true → pBeg σ j k ≤ pEnd σ j k) : cnt (pWP σ w1 j k w2) 6 = min 128 (cnt σ 6 + cst (pS σ j k) (tS w1) (tS w2)) := by
  have h0 := hW.1 6
  unfold pWP cst
  by_cases h : pHas σ j k = true
  · have h' : (pS σ j k).1 = true := h
    rw [if_pos h, if_pos h']
    have hW1 : Wk (pPutS σ 6 (tS w1)) := Wk_putS _ hW
    have hW2 : Wk (pPutP (pPutS σ 6 (tS w1)) j k 6) := Wk_putP hW1 j k 6
    obtain ⟨p1, p2, -⟩ := pBeg_same (Same.putS 6 (tS w1) σ) j k
    have e : cnt (pPutP (pPutS σ 6 (tS w1)) j k 6) 6 = min 128 (cnt (pPutS σ 6 (tS w1)) 6 + (pEnd σ j k - pBeg σ j k)) := by
      unfold pPutP
      rw [p1, p2]
      exact putR_n _ (hb h) _ hW1
    rw [putS_n _ _ hW2, e, putS_n _ _ hW]
    show _ = min 128 (cnt σ 6 + (((tS w1).length : Int) + (pEnd σ j k - pBeg σ j k) + ((tS w2).length : Int)))
    have := hb h
    omega
  · have h' : ¬ (pS σ j k).1 = true := h
    rw [if_neg h, if_neg h']
    omega
theorem wp_at {σ : St} {w1 j : Nat} {k : Int} {w2 : Nat} (hW : Wk σ) (hj : j ≠ 6) (h1 : w1 < nS) (h2 : w2 < nS) (hb : pHas σ j k = true → pBeg σ j k ≤ pEnd σ j k) (hn : cnt σ 6 + cst (pS σ j k) (tS w1) (tS w2) ≤ 128) : tx (pWP σ w1 j k w2) 6 = stq (tx σ 6) (pS σ j k) (tS w1) (tS w2) := by
  have h0 := hW.1 6
  unfold stq
  unfold cst at hn
  by_cases h : pHas σ j k = true
  · have h' : (pS σ j k).1 = true := h
    rw [if_pos h'] at hn
    have hn : cnt σ 6 + (((tS w1).length : Int) + (pEnd σ j k - pBeg σ j k) + ((tS w2).length : Int)) ≤ 128 := hn
    have hbe := hb h
    rw [if_pos h']
    have e0 : pWP σ w1 j k w2 = pPutS (pPutP (pPutS σ 6 (tS w1)) j k 6) 6 (tS w2) := by unfold pWP; rw [if_pos h]
    have hW1 : Wk (pPutS σ 6 (tS w1)) := Wk_putS _ hW
    have hW2 : Wk (pPutP (pPutS σ 6 (tS w1)) j k 6) := Wk_putP hW1 j k 6
    obtain ⟨p1, p2, -⟩ := pBeg_same (Same.putS 6 (tS w1) σ) j k
    obtain ⟨a1, a2⟩ := putS_at (i := 6) (tS w1) (tS_in h1) σ hW (by omega)
    have b : pAt (pPutP (pPutS σ 6 (tS w1)) j k 6) 6 = ap (pAt (pPutS σ 6 (tS w1)) 6) (cnt (pPutS σ 6 (tS w1)) 6) (pAt (pPutS σ 6 (tS w1)) j) (pBeg σ j k) (pEnd σ j k) ∧ cnt (pPutP (pPutS σ 6 (tS w1)) j k 6) 6 = cnt (pPutS σ 6 (tS w1)) 6 + (pEnd σ j k - pBeg σ j k) := by
      unfold pPutP
      rw [p1, p2]
      exact putR_at hj _ hbe _ hW1 (by rw [a2]; omega)
    obtain ⟨b1, b2⟩ := b
    obtain ⟨c1, c2⟩ := putS_at (i := 6) (tS w2) (tS_in h2) _ hW2 (by rw [b2, a2]; omega)
    have o := (putS_o (tS w1) σ j hj).1
    unfold tx
    rw [e0, c1, c2, b1, b2, a1, a2, o]
    rfl
  · have h' : ¬ (pS σ j k).1 = true := h
    have e0 : pWP σ w1 j k w2 = σ := by unfold pWP; rw [if_neg h]
    rw [if_neg h', e0]
-- the model's text
theorem mput_at {s : St} {f : Nat → Int} {b e : Int} (hb : 0 ≤ b ∧ b ≤ e) (hW : Wr f b e) (hs : 0 ≤ msz s) : (mT (mPut s f b e), msz (mPut s f b e)) = (ap (mT s) (msz s) (fun p => f p.toNat) b e, msz s + (e - b)) := by
  obtain ⟨-, h2, -, h4⟩ := mPut_f b hb.2 hb.1 s hW hs
  rw [h2]
  congr 1
  funext p
  unfold mT ap
  dsimp only
  rw [h2]
  by_cases h5 : msz s ≤ p ∧ p < msz s + (e - b)
  · rw [if_pos h5, if_pos (by omega), h4, if_pos (by omega)]
    congr 2
    omega
  · rw [if_neg h5]
    by_cases h6 : 0 ≤ p ∧ p < msz s
    · rw [if_pos h6, if_pos (by omega), h4, if_neg (by omega)]
    · rw [if_neg h6, if_neg (by omega)]
def tm (s : St) : Tx := (mT s, msz s)
def preL (k : Int) : List Int := if k = 2 then [47, 47] else if k = 6 then [63] else if k = 7 then [35] else []
def postL (k : Int) : List Int := if k = 0 then [58] else []
def mS' (s : St) (j i sw k : Int) : Src := (aIs s j i sw k, fun p => msg s (60 * aBy sw k j i + p).toNat, mF s (aBy sw k j i) k, mTo s (aBy sw k j i) k)
theorem msign_at {s : St} {c : Int} (h37 : c ≠ 37) (hs : 0 ≤ msz s) : tm (mSign s c) = (ap (mT s) (msz s) (fun _ => c) 0 1, msz s + 1) := by
  have h := mput_at (s := s) (f := one c) (b := 0) (e := 1) (by omega) (one_w h37) hs
  have e : ap (mT s) (msz s) (fun p => one c p.toNat) 0 1 = ap (mT s) (msz s) (fun _ => c) 0 1 := ap_c rfl (fun d h0 h1 => by
    have : d = 0 := by omega
    subst this
    rfl)
  rw [e] at h
  exact h
theorem ap_one (t : Int → Int) (n c : Int) : ap t n (lg [c]) 0 1 = ap t n (fun _ => c) 0 1 := ap_c rfl (fun d h0 h1 => by
  have : d = 0 := by omega
  subst this
  rfl)
theorem apre_at {s : St} {k : Int} (hs : 0 ≤ msz s) : tm (aPre s k) = (ap (mT s) (msz s) (lg (preL k)) 0 (preL k).length, msz s + (preL k).length) := by
  unfold aPre preL
  by_cases h2 : k = 2
  · rw [if_pos h2, if_pos h2]
    have a := msign_at (s := s) (c := 47) (by decide) hs
    have a1 : mT (mSign s 47) = _ := congrArg Prod.fst a
    have a2 : msz (mSign s 47) = _ := congrArg Prod.snd a
    have a2 : msz (mSign s 47) = msz s + 1 := a2
    have b := msign_at (s := mSign s 47) (c := 47) (by decide) (by omega)
    rw [b, a1, a2]
    have e := ap_l (t := mT s) (n := msz s) (c := 47) (l := [47])
    have e2 := ap_one (ap (mT s) (msz s) (fun _ => 47) 0 1) (msz s + 1) 47
    have e : ap (ap (mT s) (msz s) (fun _ => 47) 0 1) (msz s + 1) (lg [47]) 0 1 = ap (mT s) (msz s) (lg [47, 47]) 0 2 := e
    rw [← e2]
    show (ap (ap (mT s) (msz s) (fun _ => 47) 0 1) (msz s + 1) (lg [47]) 0 1, msz s + 1 + 1) = (ap (mT s) (msz s) (lg [47, 47]) 0 2, msz s + 2)
    rw [e, Int.add_assoc]
    rfl
  · rw [if_neg h2, if_neg h2]
    by_cases h6 : k = 6
    · rw [if_pos h6, if_pos h6, msign_at (by decide) hs, ← ap_one]
      rfl
    · rw [if_neg h6, if_neg h6]
      by_cases h7 : k = 7
      · rw [if_pos h7, if_pos h7, msign_at (by decide) hs, ← ap_one]
        rfl
      · rw [if_neg h7, if_neg h7]
        show (mT s, msz s) = (ap (mT s) (msz s) (lg []) 0 ((0 : Nat) : Int), msz s + ((0 : Nat) : Int))
        have e : ap (mT s) (msz s) (lg []) 0 ((0 : Nat) : Int) = mT s := ap_0 _ _ _ _
        rw [e]
        congr 1
        omega
theorem apost_at {s : St} {k : Int} (hs : 0 ≤ msz s) : tm (aPost s k) = (ap (mT s) (msz s) (lg (postL k)) 0 (postL k).length, msz s + (postL k).length) := by
  unfold aPost postL
  by_cases h0 : k = 0
  · rw [if_pos h0, if_pos h0, msign_at (by decide) hs, ← ap_one]
    rfl
  · rw [if_neg h0, if_neg h0]
    show (mT s, msz s) = (ap (mT s) (msz s) (lg []) 0 ((0 : Nat) : Int), msz s + ((0 : Nat) : Int))
    have e : ap (mT s) (msz s) (lg []) 0 ((0 : Nat) : Int) = mT s := ap_0 _ _ _ _
    rw [e]
    congr 1
    omega
theorem aPre_q (s : St) {k : Int} (hs : 0 ≤ msz s) : Pq s (aPre s k) := by
  have sg : ∀ (x : St) (c : Int), c ≠ 37 → 0 ≤ msz x → Pq x (mSign x c) ∧ 0 ≤ msz (mSign x c) := fun x c hc hx => by
    obtain ⟨f1, f2, -, -⟩ := mPut_f (f := one c) (e := 1) 0 (by omega) (by omega) x (one_w hc) hx
    exact ⟨f1, by show 0 ≤ msz (mPut x (one c) 0 1); omega⟩
  unfold aPre
  split
  · exact (sg s 47 (by decide) hs).1.trans (sg _ 47 (by decide) (sg s 47 (by decide) hs).2).1
  · split
    · exact (sg s 63 (by decide) hs).1
    · split
      · exact (sg s 35 (by decide) hs).1
      · exact Pq.rfl'
theorem astep_at {s : St} {j i sw k : Int} (hs : 0 ≤ msz s) (hby : 0 ≤ aBy sw k j i) (hS : aIs s j i sw k = true → Sg s (aBy sw k j i) k) : tm (aStep s j i sw k) = stq (tm s) (mS' s j i sw k) (preL k) (postL k) := by
  unfold aStep stq
  by_cases h : aIs s j i sw k = true
  · have h' : (mS' s j i sw k).1 = true := h
    rw [if_pos h, if_pos h']
    obtain ⟨s1, s2, s3, s4⟩ := hS h
    have p := apre_at (s := s) (k := k) hs
    have p1 : mT (aPre s k) = _ := congrArg Prod.fst p
    have p2 : msz (aPre s k) = msz s + (preL k).length := congrArg Prod.snd p
    have q := Sq.of (aPre_q s (k := k) hs)
    obtain ⟨-, q2, q3, -⟩ := q.many (aBy sw k j i) k
    have a := mput_at (s := aPre s k) (f := msg (aPre s k)) (b := 60 * aBy sw k j i + mF (aPre s k) (aBy sw k j i) k) (e := 60 * aBy sw k j i + mTo (aPre s k) (aBy sw k j i) k) (by rw [q2, q3]; omega) (by rw [q.1, q2, q3]; exact s4) (by omega)
    have a1 : mT (mAdd (aPre s k) (aBy sw k j i) k) = _ := congrArg Prod.fst a
    have a2 : msz (mAdd (aPre s k) (aBy sw k j i) k) = _ := congrArg Prod.snd a
    have a2 : msz (mAdd (aPre s k) (aBy sw k j i) k) = msz (aPre s k) + (60 * aBy sw k j i + mTo (aPre s k) (aBy sw k j i) k - (60 * aBy sw k j i + mF (aPre s k) (aBy sw k j i) k)) := a2
    have b := apost_at (s := mAdd (aPre s k) (aBy sw k j i) k) (k := k) (by rw [a2, q2, q3]; omega)
    have e : ap (mT (aPre s k)) (msz (aPre s k)) (fun p => msg (aPre s k) p.toNat) (60 * aBy sw k j i + mF (aPre s k) (aBy sw k j i) k) (60 * aBy sw k j i + mTo (aPre s k) (aBy sw k j i) k) = ap (mT (aPre s k)) (msz (aPre s k)) (fun p => msg s (60 * aBy sw k j i + p).toNat) (mF s (aBy sw k j i) k) (mTo s (aBy sw k j i) k) := by
      rw [q2, q3, q.1]
      refine ap_c (by omega) (fun d _ _ => ?_)
      rw [Int.add_assoc]
    have n2 : msz (mAdd (aPre s k) (aBy sw k j i) k) = msz s + (preL k).length + (mTo s (aBy sw k j i) k - mF s (aBy sw k j i) k) := by
      rw [a2, p2, q2, q3]
      omega
    have a1 : mT (mAdd (aPre s k) (aBy sw k j i) k) = ap (mT (aPre s k)) (msz (aPre s k)) (fun p => msg (aPre s k) p.toNat) (60 * aBy sw k j i + mF (aPre s k) (aBy sw k j i) k) (60 * aBy sw k j i + mTo (aPre s k) (aBy sw k j i) k) := a1
    rw [b, n2, a1, e, p1, p2]
    rfl
  · have h' : ¬ (mS' s j i sw k).1 = true := h
    rw [if_neg h, if_neg h']
-- what stands there, perhaps without two signs
def sh (t : Int → Int) (r d m : Int) : Int → Int := fun p => if p < r then t p else if p + d < m then t (p + d) else 0
theorem ap_sh {t : Int → Int} {r d m : Int} {f : Int → Int} {b e : Int} (hm : r + d ≤ m) (hb : b ≤ e) (hf : ∀ q, 0 ≤ q → q < e - b → f (b + q) = t (m + q)) : ap (sh t r d m) (m - d) f b e = sh t r d (m + (e - b)) := by
  funext p
  unfold ap sh
  by_cases h : m - d ≤ p ∧ p < m - d + (e - b)
  · rw [if_pos h, hf _ (by omega) (by omega), if_neg (show ¬ p < r by omega), if_pos (by omega)]
    congr 1
    omega
  · rw [if_neg h]
    by_cases h2 : p < r
    · rw [if_pos h2, if_pos h2]
    · rw [if_neg h2, if_neg h2]
      by_cases h3 : p + d < m
      · rw [if_pos h3, if_pos (by omega)]
      · rw [if_neg h3, if_neg (by omega)]
theorem glue {t : Int → Int} {r d m e : Int} {w1 w2 : List Int} (hm : r + d ≤ m) (he : m + w1.length ≤ e) (h1 : ∀ q : Nat, q < w1.length → w1.getD q 0 = t (m + q)) (h2 : ∀ q : Nat, q < w2.length → w2.getD q 0 = t (e + q)) : stq (sh t r d m, m - d) (true, t, m + w1.length, e) w1 w2 = (sh t r d (e + w2.length), e + w2.length - d) := by
  have a1 : ap (sh t r d m) (m - d) (lg w1) 0 w1.length = sh t r d (m + w1.length) := by
    rw [ap_sh hm (by omega) (fun q h0 hq => by
      unfold lg
      rw [h1 (0 + q).toNat (by omega)]
      congr 1
      omega)]
    congr 1
  have a2 : ap (sh t r d (m + w1.length)) (m - d + w1.length) t (m + w1.length) e = sh t r d e := by
    rw [show m - d + (w1.length : Int) = m + w1.length - d by omega, ap_sh (by omega) he (fun q _ _ => rfl)]
    congr 1
    omega
  have a3 : ap (sh t r d e) (m - d + w1.length + (e - (m + w1.length))) (lg w2) 0 w2.length = sh t r d (e + w2.length) := by
    rw [show m - d + (w1.length : Int) + (e - (m + w1.length)) = e - d by omega, ap_sh (by omega) (by omega) (fun q h0 hq => by
      unfold lg
      rw [h2 (0 + q).toNat (by omega)]
      congr 1
      omega)]
    congr 1
  show stp (sh t r d m, m - d) w1 t (m + w1.length) e w2 = _
  unfold stp
  dsimp only
  rw [a1, a2, a3]
  congr 1
  omega
theorem sh_0 {t : Int → Int} {n : Int} (hT : Tz t n) : sh t 0 0 0 = fun _ => 0 := by
  funext p
  unfold sh
  by_cases h : p < 0
  · rw [if_pos h]
    by_cases h2 : t p = 0
    · exact h2
    · have := hT.2.2.1 p h2
      omega
  · rw [if_neg h, if_neg (by omega)]
theorem sh_r (t : Int → Int) {r : Int} (hr : 0 ≤ r) (d : Int) : sh t 0 0 r = sh t r d (r + d) := by
  funext p
  unfold sh
  by_cases h : p < r
  · rw [if_pos h]
    by_cases h2 : p < 0
    · rw [if_pos h2]
    · rw [if_neg h2, if_pos (by omega), Int.add_zero]
  · rw [if_neg (show ¬ p < 0 by omega), if_neg (show ¬ p + 0 < r by omega), if_neg h, if_neg (by omega)]
theorem sh_n {t : Int → Int} {n : Int} (hT : Tz t n) (r : Int) : sh t r 0 n = t := by
  funext p
  unfold sh
  by_cases h : p < r
  · rw [if_pos h]
  · rw [if_neg h]
    by_cases h2 : p + 0 < n
    · rw [if_pos h2, Int.add_zero]
    · rw [if_neg h2]
      by_cases h3 : t p = 0
      · exact h3.symm
      · have := hT.2.2.1 p h3
        omega
