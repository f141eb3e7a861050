/-! MATHS 10: the other calls, and their answers -/
-- type
theorem Inv.type {σ : St} (hI : Inv σ) {c : Int} (hc : 0 ≤ c ∧ c < 65536) (h37 : c ≠ 37) (hn : cnt σ 5 + 1 ≤ 60) (w : Int) : Inv (mSign (sMcd (sOv (pPut σ 5 c) w) 0) c) ∧ msz (mSign (sMcd (sOv (pPut σ 5 c) w) 0) c) = cnt σ 5 + 1 ∧ (mSign (sMcd (sOv (pPut σ 5 c) w) 0) c).1 = (pPut σ 5 c).1 := by
  have hW := hI.1
  obtain ⟨p1, p2⟩ := put_at (σ := σ) (i := 5) hW hc (by omega)
  have e : ap (pAt σ 5) (cnt σ 5) (fun _ => c) 0 1 = ap (pAt σ 5) (cnt σ 5) (fun p => one c p.toNat) 0 1 := ap_c rfl (fun d h0 h1 => by
    have : d = 0 := by omega
    subst this
    rfl)
  obtain ⟨q1, q2⟩ := hI.put (a := pPut σ 5 c) (f := one c) (b := 0) (e := 1) (w := w) (Same.put σ 5 c) (Wk_put hW 5 c) (fun j hj => put_o σ 5 c (by omega)) (one_r hc) (by omega) (Hx.one' h37) (by omega) (by rw [p1, e]) (by rw [p2]; omega)
  have hz : 0 ≤ msz (sMcd (sOv (pPut σ 5 c) w) 0) := by
    obtain ⟨o1, o2, o3, -⟩ := ovcd (pPut σ 5 c) w
    rw [o3, (md (a := pPut σ 5 c) (σ := σ) (by rw [(Same.put σ 5 c).2.2.2.2.2.2.2])).2.2.2.2.1]
    exact hI.2.2.1.sz.1
  exact ⟨q1, by rw [show mSign (sMcd (sOv (pPut σ 5 c) w) 0) c = mPut (sMcd (sOv (pPut σ 5 c) w) 0) (one c) 0 1 from rfl, q2, p2], (mPut_f (f := one c) (e := 1) 0 (by omega) (by omega) (sMcd (sOv (pPut σ 5 c) w) 0) (one_w h37) hz).1.1⟩
-- escape
theorem hex_dig : ∀ (s : Bool) (v : Nat), v < 16 → hexD s (v : Int) = mDig (v : Int) s ∧ hexc (mDig (v : Int) s) = true := by decide +kernel
theorem hex_dig' (s : Bool) {v : Int} (h : 0 ≤ v ∧ v ≤ 15) : hexD s v = mDig v s ∧ hexc (mDig v s) = true := by
  have := hex_dig s v.toNat (by omega)
  rw [Int.toNat_of_nonneg h.1] at this
  exact this
theorem Hx.escx {v : Int} (h : 0 ≤ v ∧ v ≤ 255) (s : Bool) : Hx (esc v s) 0 3 := fun p h1 h2 h3 => by
  obtain ⟨-, x1⟩ := hex_dig' s (v := v / 16) (by omega)
  obtain ⟨-, x2⟩ := hex_dig' s (v := v % 16) (by omega)
  have hp : p = 0 ∨ p = 1 ∨ p = 2 := by omega
  rcases hp with rfl | rfl | rfl
  · exact ⟨by omega, x1, x2⟩
  · have h4 : mDig (v / 16) s = 37 := h3
    exact absurd h4 (hex37 x1)
  · have h4 : mDig (v % 16) s = 37 := h3
    exact absurd h4 (hex37 x2)
theorem esc_at {σ : St} (hW : Wk σ) {v : Int} (hv : 0 ≤ v ∧ v ≤ 255) (s : Bool) (hn : cnt σ 5 + 3 ≤ 60) : Same σ (pEsc σ v s) ∧ Wk (pEsc σ v s) ∧ (∀ j, j ≠ 5 → pAt (pEsc σ v s) j = pAt σ j ∧ cnt (pEsc σ v s) j = cnt σ j) ∧ pAt (pEsc σ v s) 5 = ap (pAt σ 5) (cnt σ 5) (fun p => esc v s p.toNat) 0 3 ∧ cnt (pEsc σ v s) 5 = cnt σ 5 + 3 := by
  obtain ⟨d1, -⟩ := hex_dig' s (v := v / 16 % 16) (by omega)
  obtain ⟨d2, -⟩ := hex_dig' s (v := v % 16) (by omega)
  have r1 := mDig_r (v := v / 16 % 16) (by omega) s
  have r2 := mDig_r (v := v % 16) (by omega) s
  unfold pEsc
  rw [d1, d2]
  have e16 : v / 16 % 16 = v / 16 := by omega
  rw [e16] at r1 ⊢
  have hW1 := Wk_put hW 5 37
  have hW2 := Wk_put hW1 5 (mDig (v / 16) s)
  have hW3 := Wk_put hW2 5 (mDig (v % 16) s)
  obtain ⟨a1, a2⟩ := put_at (σ := σ) (i := 5) (c := 37) hW (by decide) (by omega)
  obtain ⟨b1, b2⟩ := put_at (σ := pPut σ 5 37) (i := 5) (c := mDig (v / 16) s) hW1 (by omega) (by omega)
  obtain ⟨c1, c2⟩ := put_at (σ := pPut (pPut σ 5 37) 5 (mDig (v / 16) s)) (i := 5) (c := mDig (v % 16) s) hW2 (by omega) (by omega)
  refine ⟨((Same.put _ _ _).trans (Same.put _ _ _)).trans (Same.put _ _ _), hW3, fun j hj => ?_, ?_, by rw [c2, b2, a2]; omega⟩
  · obtain ⟨x1, x2⟩ := put_o (pPut (pPut σ 5 37) 5 (mDig (v / 16) s)) 5 (mDig (v % 16) s) hj
    obtain ⟨y1, y2⟩ := put_o (pPut σ 5 37) 5 (mDig (v / 16) s) hj
    obtain ⟨z1, z2⟩ := put_o σ 5 37 hj
    exact ⟨x1.trans (y1.trans z1), x2.trans (y2.trans z2)⟩
  · rw [c1, b1, a1, b2, a2]
    funext p
    unfold ap
    dsimp only
    by_cases h3 : cnt σ 5 + 1 + 1 ≤ p ∧ p < cnt σ 5 + 1 + 1 + (1 - 0)
    · rw [if_pos h3, if_pos (by omega), show (0 + (p - cnt σ 5)).toNat = 2 by omega]
      rfl
    · rw [if_neg h3]
      by_cases h2 : cnt σ 5 + 1 ≤ p ∧ p < cnt σ 5 + 1 + (1 - 0)
      · rw [if_pos h2, if_pos (by omega), show (0 + (p - cnt σ 5)).toNat = 1 by omega]
        rfl
      · rw [if_neg h2]
        by_cases h1 : cnt σ 5 ≤ p ∧ p < cnt σ 5 + (1 - 0)
        · rw [if_pos h1, if_pos (by omega), show (0 + (p - cnt σ 5)).toNat = 0 by omega]
          rfl
        · rw [if_neg h1, if_neg (by omega)]
theorem Inv.escp {σ : St} (hI : Inv σ) {v : Int} (hv : 0 ≤ v ∧ v ≤ 255) (s : Bool) (hn : cnt σ 5 + 3 ≤ 60) (w : Int) : Inv (mEsc (sMcd (sOv (pEsc σ v s) w) 0) v s) ∧ msz (mEsc (sMcd (sOv (pEsc σ v s) w) 0) v s) = cnt (pEsc σ v s) 5 ∧ (mEsc (sMcd (sOv (pEsc σ v s) w) 0) v s).1 = (pEsc σ v s).1 := by
  obtain ⟨a1, a2, a3, a4, a5⟩ := esc_at hI.1 hv s hn
  obtain ⟨q1, q2⟩ := hI.put (a := pEsc σ v s) (f := esc v s) (b := 0) (e := 3) (w := w) a1 a2 (fun j hj => a3 j (by omega)) (esc_r hv s) (by omega) (Hx.escx hv s) (by omega) a4 (by rw [a5]; omega)
  have hz : 0 ≤ msz (sMcd (sOv (pEsc σ v s) w) 0) := by
    obtain ⟨o1, o2, o3, -⟩ := ovcd (pEsc σ v s) w
    rw [o3, (md (a := pEsc σ v s) (σ := σ) (by rw [a1.2.2.2.2.2.2.2])).2.2.2.2.1]
    exact hI.2.2.1.sz.1
  exact ⟨q1, q2, (mPut_f (e := 3) 0 (by omega) (by omega) (sMcd (sOv (pEsc σ v s) w) 0) (Hx.escx hv s).wr hz).1.1⟩
-- word
theorem wHx_n : ∀ q : Nat, q < 32 → ∀ n : Nat, n < 16 → (n : Int) < wL q → (tS (wIx q)).getD n 0 = 37 → (n : Int) + 2 < wL q ∧ hexc ((tS (wIx q)).getD (n + 1) 0) = true ∧ hexc ((tS (wIx q)).getD (n + 2) 0) = true := by decide +kernel
theorem Hx.word {q : Nat} (hq : q < 32) : Hx (wF q) 0 (wL q) := fun p h1 h2 h3 => by
  have hr := wA_r q hq
  have := wHx_n q hq p.toNat (by omega) (by omega) h3
  rw [show (p + 1).toNat = p.toNat + 1 by omega, show (p + 2).toNat = p.toNat + 2 by omega]
  exact ⟨by omega, this.2.1, this.2.2⟩
theorem Inv.word {σ : St} (hI : Inv σ) {q : Nat} (hq : q < 32) (hn : cnt σ 5 + (tS (wIx (q : Int))).length ≤ 60) (w : Int) : Inv (mWord (sMcd (sOv (pPutS σ 5 (tS (wIx (q : Int)))) w) 0) q) ∧ msz (mWord (sMcd (sOv (pPutS σ 5 (tS (wIx (q : Int)))) w) 0) q) = cnt (pPutS σ 5 (tS (wIx (q : Int)))) 5 ∧ (mWord (sMcd (sOv (pPutS σ 5 (tS (wIx (q : Int)))) w) 0) q).1 = (pPutS σ 5 (tS (wIx (q : Int)))).1 := by
  have hw := (wIx_ok (q : Int)).1
  obtain ⟨a4, a5⟩ := putS_at (i := 5) (tS (wIx (q : Int))) (tS_in hw) σ hI.1 (by omega)
  have a1 := Same.putS 5 (tS (wIx (q : Int))) σ
  have eL : wL q = ((tS (wIx (q : Int))).length : Int) := rfl
  obtain ⟨q1, q2⟩ := hI.put (a := pPutS σ 5 (tS (wIx (q : Int)))) (f := wF q) (b := 0) (e := wL q) (w := w) a1 (Wk_putS _ hI.1) (fun j hj => putS_o _ σ j (by omega)) (wF_r q) (by omega) (Hx.word hq) (by omega) (by rw [a4]; rfl) (by rw [a5]; omega)
  have hz : 0 ≤ msz (sMcd (sOv (pPutS σ 5 (tS (wIx (q : Int)))) w) 0) := by
    obtain ⟨o1, o2, o3, -⟩ := ovcd (pPutS σ 5 (tS (wIx (q : Int)))) w
    rw [o3, (md (a := pPutS σ 5 (tS (wIx (q : Int)))) (σ := σ) (by rw [a1.2.2.2.2.2.2.2])).2.2.2.2.1]
    exact hI.2.2.1.sz.1
  exact ⟨q1, q2, (mPut_f (e := wL q) 0 (by omega) (by omega) (sMcd (sOv (pPutS σ 5 (tS (wIx (q : Int)))) w) 0) (Hx.word hq).wr hz).1.1⟩
-- append
theorem Inv.app {σ : St} (hI : Inv σ) {j k : Nat} (hj4 : j < 4) (hk : k < 9) (hj : HdR σ j) (hp : pHas σ j (k : Int) = true) (hn : cnt σ 5 + pSiz σ j (k : Int) ≤ 60) (w : Int) : Inv (mAdd (sMcd (sOv (pPutP σ j (k : Int) 5) w) 0) (j : Int) (k : Int)) ∧ msz (mAdd (sMcd (sOv (pPutP σ j (k : Int) 5) w) 0) (j : Int) (k : Int)) = cnt (pPutP σ j (k : Int) 5) 5 ∧ (mAdd (sMcd (sOv (pPutP σ j (k : Int) 5) w) 0) (j : Int) (k : Int)).1 = (pPutP σ j (k : Int) 5).1 := by
  have hW := hI.1
  have hbe := hj.be hk hp
  obtain ⟨e1, e2⟩ := hj.pb hk
  obtain ⟨e3, e4⟩ := hj.mm hk
  have hm : mHas σ (j : Int) (k : Int) = true := by rw [← (hj.has hk).1]; exact hp
  obtain ⟨x1, x2, x3, x4⟩ := hj.hx hk hm
  have hne : pBeg σ j (k : Int) ≠ -1 := of_decide_eq_true hp
  have hs : pSiz σ j (k : Int) = pEnd σ j (k : Int) - pBeg σ j (k : Int) := if_neg hne
  rw [hs] at hn
  have a1 := Same.putP σ j (k : Int) 5
  obtain ⟨a4, a5⟩ := putR_at (i := 5) (j := j) (e := pEnd σ j (k : Int)) (by omega) (pBeg σ j (k : Int)) hbe σ hW (by omega)
  have a4 : pAt (pPutP σ j (k : Int) 5) 5 = _ := a4
  have a5 : cnt (pPutP σ j (k : Int) 5) 5 = _ := a5
  obtain ⟨m1, m2, m3, m4, m5, -⟩ := md (a := pPutP σ j (k : Int) 5) (σ := σ) (by rw [a1.2.2.2.2.2.2.2])
  have oth : ∀ m, m < 4 → pAt (pPutP σ j (k : Int) 5) m = pAt σ m ∧ cnt (pPutP σ j (k : Int) 5) m = cnt σ m := fun m hm => putR_o' (by omega)
  have hWa : Wk (pPutP σ j (k : Int) 5) := Wk_putP hW _ _ _
  obtain ⟨o1, o2, o3, o4, o5, o6, o7, o8, o9, -⟩ := ovcd (pPutP σ j (k : Int) 5) w
  generalize pPutP σ j (k : Int) 5 = a at *
  have f1 : mF (sMcd (sOv a w) 0) (j : Int) (k : Int) = mF σ (j : Int) (k : Int) := by unfold mF; rw [o8, m3.2.2.1]
  have f2 : mTo (sMcd (sOv a w) 0) (j : Int) (k : Int) = mTo σ (j : Int) (k : Int) := by unfold mTo; rw [o9, m3.2.2.2.1]
  unfold mAdd
  rw [f1, f2, o6, m3.2.1]
  have hl := (hj.lie hk)
  have hap : pAt a 5 = ap (pAt σ 5) (cnt σ 5) (fun p => msg σ p.toNat) (60 * (j : Int) + mF σ (j : Int) (k : Int)) (60 * (j : Int) + mTo σ (j : Int) (k : Int)) := by
    rw [a4]
    refine ap_c (by rw [e1, e2, e3, e4]; omega) (fun d d0 d1 => ?_)
    rw [e1, e2] at d1
    rw [e1, e3]
    rcases cb_r hj.tz k hk with z | z
    · omega
    · rw [hj.2.2.2.1 _ (by omega) (by omega), Int.add_assoc]
  obtain ⟨q1, q2⟩ := hI.put (a := a) (f := msg σ) (b := 60 * (j : Int) + mF σ (j : Int) (k : Int)) (e := 60 * (j : Int) + mTo σ (j : Int) (k : Int)) (w := w) a1 hWa oth hI.2.2.1.sg (by omega) x4 (by rw [e1, e2] at hn; rw [e3, e4]; omega) hap (by rw [a5, e1, e2, e3, e4]; omega)
  have hz : 0 ≤ msz (sMcd (sOv a w) 0) := by
    rw [o3, m5]
    exact hI.2.2.1.sz.1
  exact ⟨q1, q2, (mPut_f (60 * (j : Int) + mF σ (j : Int) (k : Int)) (by omega) (by omega) (sMcd (sOv a w) 0) x4.wr hz).1.1.trans o1⟩
-- drop, wipe
theorem short_at {σ : St} (hW : Wk σ) (i : Nat) {f : Int} (hf : 0 ≤ f ∧ f ≤ cnt σ i) : cnt (pShort σ i f) i = f ∧ (∀ p, pAt (pShort σ i f) i p = if p < f then pAt σ i p else 0) ∧ ∀ m, m ≠ i → pAt (pShort σ i f) m = pAt σ m ∧ cnt (pShort σ i f) m = cnt σ m := by
  have hc := hW.1 i
  by_cases h : f < cnt σ i
  · have e : pShort σ i f = sCnt σ (u1 (cnt σ) i f) := if_pos ⟨hf.1, h⟩
    have e1 : cnt (pShort σ i f) = u1 (cnt σ) i f := by rw [e]; rfl
    have e2 : sg (pShort σ i f) = sg σ := by rw [e]; rfl
    refine ⟨by rw [e1, u1_s], fun p => ?_, fun m hm => ⟨?_, by rw [e1, u1_n _ _ hm]⟩⟩
    · unfold pAt
      rw [e1, u1_s, e2]
      by_cases h1 : p < f
      · rw [if_pos h1]
        by_cases h2 : 0 ≤ p
        · rw [if_pos (by omega), if_pos (by omega)]
        · rw [if_neg (by omega), if_neg (by omega)]
      · rw [if_neg h1, if_neg (by omega)]
    · funext p
      unfold pAt
      rw [e1, u1_n _ _ hm, e2]
  · have e : pShort σ i f = σ := if_neg (fun z => h z.2)
    rw [e]
    refine ⟨by omega, fun p => ?_, fun m hm => ⟨rfl, rfl⟩⟩
    by_cases h1 : p < f
    · rw [if_pos h1]
    · rw [if_neg h1]
      unfold pAt
      rw [if_neg (by omega)]
theorem mzp_f (s : St) (m z : Int) : (sMsz (sMpm s m) z).1 = s.1 ∧ msz (sMsz (sMpm s m) z) = z ∧ mpm (sMsz (sMpm s m) z) = m ∧ mtx (sMsz (sMpm s m) z) = mtx s ∧ mpc (sMsz (sMpm s m) z) = mpc s ∧ msg (sMsz (sMpm s m) z) = msg s ∧ mlo (sMsz (sMpm s m) z) = mlo s ∧ mfr (sMsz (sMpm s m) z) = mfr s ∧ mto (sMsz (sMpm s m) z) = mto s ∧ mpo (sMsz (sMpm s m) z) = mpo s ∧ mbe (sMsz (sMpm s m) z) = mbe s ∧ men (sMsz (sMpm s m) z) = men s ∧ mpt (sMsz (sMpm s m) z) = mpt s ∧ mrf (sMsz (sMpm s m) z) = mrf s ∧ mpl (sMsz (sMpm s m) z) = mpl s ∧ (Mw s → 0 ≤ m ∧ m ≤ 60 → 0 ≤ z ∧ z ≤ 60 → Mw (sMsz (sMpm s m) z)) := ⟨rfl, rfl, rfl, rfl, rfl, rfl, rfl, rfl, rfl, rfl, rfl, rfl, rfl, rfl, rfl, fun h hm hz => ⟨hz, h.tx, hm, h.2.2.2⟩⟩
theorem Inv.drop {σ : St} (hI : Inv σ) (h0 : cnt σ 5 ≠ 0) (w : Int) : mpm (sMcd (sOv (pShort σ 5 (dropN σ)) w) 0) ≠ 0 ∧ Inv (sMsz (sMpm (sMcd (sOv (pShort σ 5 (dropN σ)) w) 0) (mpm (sOv (pShort σ 5 (dropN σ)) w) - 1)) (msz (sOv (pShort σ 5 (dropN σ)) w) - mpc (sOv (pShort σ 5 (dropN σ)) w) (mpm (sOv (pShort σ 5 (dropN σ)) w) - 1).toNat)) ∧ msz (sOv (pShort σ 5 (dropN σ)) w) - mpc (sOv (pShort σ 5 (dropN σ)) w) (mpm (sOv (pShort σ 5 (dropN σ)) w) - 1).toNat = cnt (pShort σ 5 (dropN σ)) 5 := by
  obtain ⟨i1, i2, i3, ⟨t1, t2, t3⟩, i5, i6, i7⟩ := id hI
  have hm : mpm σ ≠ 0 := fun z => by
    have h := t3.1
    rw [z] at h
    have h : msz σ = 0 := h
    omega
  have hl := t3.last hm
  have hpm := i3.pm
  have hsz := i3.sz
  have hd : dropN σ = msz σ - mpc σ (mpm σ - 1).toNat := by
    unfold dropN isEsc
    rw [t1, t2]
    rcases hl.1 with ⟨x1, x2⟩ | ⟨x1, x2⟩
    · rw [if_neg (by rw [decide_eq_false x2]; decide), x1]
    · rw [if_pos (decide_eq_true x2), x1]
  obtain ⟨s1, s2, s3⟩ := short_at i1 5 (f := dropN σ) (by rw [hd, t1]; rcases hl.1 with x | x <;> omega)
  have a1 := Same.short σ 5 (dropN σ)
  have hWa : Wk (pShort σ 5 (dropN σ)) := Wk_short i1 _ _
  generalize pShort σ 5 (dropN σ) = a at *
  obtain ⟨m1, m2, m3, m4, m5, m6, m7, m8, m9⟩ := md (a := a) (σ := σ) (by rw [a1.2.2.2.2.2.2.2])
  obtain ⟨o1, o2, o3, o4, o5, o6, o7, o8, o9, o10, o11, o12, o13, o14⟩ := ovcd a w
  have e1 : mpm (sOv a w) = mpm σ := m9
  have e2 : msz (sOv a w) = msz σ := m5
  have e3 : mpc (sOv a w) = mpc σ := m8
  rw [e1, e2, e3]
  have hP : PcO (sMcd (sOv a w) 0) := m2 t3
  have hMm : Mw (sMcd (sOv a w) 0) := o14 (m1 i3)
  have g1 : mpm (sMcd (sOv a w) 0) = mpm σ := o5.trans m9
  have g2 : msz (sMcd (sOv a w) 0) = msz σ := o3.trans m5
  have g3 : mpc (sMcd (sOv a w) 0) = mpc σ := o4.trans m8
  have g4 : mT (sMcd (sOv a w) 0) = mT σ := o13.trans m4
  obtain ⟨d1, d2⟩ := hP.drop (by rw [g1]; exact hm) (z := msz σ - mpc σ (mpm σ - 1).toNat) (by rw [g1, g2, g3])
  rw [g1] at d1 d2
  obtain ⟨z1, z2, z3, z4, z5, z6, z7, z8, z9, z10, z11, z12, z13, z14, z15, z16⟩ := mzp_f (sMcd (sOv a w) 0) (mpm σ - 1) (msz σ - mpc σ (mpm σ - 1).toNat)
  have hMw := z16 hMm (by omega) (by rcases hl.1 with x | x <;> omega)
  refine ⟨by rw [g1]; exact hm, hI.step (a := a) (by rw [a1.2.2.2.2.2.2.2]) (z1.trans o1) hWa (a1.R9 i2) (same_cs a1 (fun j hj => s3 j (by omega))) hMw ⟨z7.trans (o7.trans m3.1), z6.trans (o6.trans m3.2.1), z8.trans (o8.trans m3.2.2.1), z9.trans (o9.trans m3.2.2.2.1), z10.trans (o10.trans m3.2.2.2.2)⟩ ⟨by rw [s1, hd, z2], ?_, d1⟩ ?_, by rw [s1, hd]⟩
  · funext p
    rw [s2, d2, hd, g4, t2]
  · rw [z14, z15, o11, o12, m6, m7, a1.2.2.2.2.2.1, a1.2.2.2.2.2.2.1]
    exact ⟨i6, i7⟩
theorem Inv.wipe {σ : St} (hI : Inv σ) : Inv (sMpm (sMsz (sMcd (pShort σ 5 0) 0) 0) 0) ∧ msz (pShort σ 5 0) = cnt σ 5 := by
  obtain ⟨i1, i2, i3, ⟨t1, t2, t3⟩, i5, i6, i7⟩ := id hI
  have hsz := i3.sz
  obtain ⟨s1, s2, s3⟩ := short_at i1 5 (f := 0) (by omega)
  have a1 := Same.short σ 5 0
  have hWa : Wk (pShort σ 5 0) := Wk_short i1 _ _
  generalize pShort σ 5 0 = a at *
  obtain ⟨m1, m2, m3, m4, m5, m6, m7, m8, m9⟩ := md (a := a) (σ := σ) (by rw [a1.2.2.2.2.2.2.2])
  have hG := Gs.wiped (σ := sMcd a 0) (m1 i3)
  have hP := PcO.wiped (sMcd a 0)
  have ht := tm_w (sMcd a 0)
  have y1 : mT (sMpm (sMsz (sMcd a 0) 0) 0) = fun _ => 0 := congrArg Prod.fst ht
  refine ⟨hI.step (a := a) (by rw [a1.2.2.2.2.2.2.2]) hG.2.1.1 hWa (a1.R9 i2) (same_cs a1 (fun j hj => s3 j (by omega))) hG.1 m3 ⟨s1, ?_, hP⟩ ?_, by rw [m5, t1]⟩
  · rw [y1]
    funext p
    rw [s2]
    split
    · unfold pAt
      rw [if_neg (by omega)]
    · rfl
  · have r3 : mrf (sMpm (sMsz (sMcd a 0) 0) 0) = mrf σ := m6
    have r4 : mpl (sMpm (sMsz (sMcd a 0) 0) 0) = mpl σ := m7
    rw [r3, r4, a1.2.2.2.2.2.1, a1.2.2.2.2.2.2.1]
    exact ⟨i6, i7⟩
-- answers
theorem HdR.siz {σ : St} {j k : Nat} (hj : HdR σ j) (hk : k < 9) : pSiz σ j (k : Int) = mMany σ (j : Int) (k : Int) := by
  obtain ⟨e1, e2⟩ := hj.pb hk
  obtain ⟨e3, e4⟩ := hj.mm hk
  unfold pSiz mMany
  rw [e1, e2, e3, e4]
  rcases cb_r hj.tz k hk with z | z
  · rw [if_pos z.1, if_pos (by omega)]
  · rw [if_neg (by omega), if_neg (by omega)]
theorem HdR.beg {σ : St} {j k : Nat} (hj : HdR σ j) (hk : k < 9) : pBeg σ j (k : Int) = mF σ (j : Int) (k : Int) := by
  rw [(hj.pb hk).1, (hj.mm hk).1]
theorem HdR.sgn {σ : St} {j k : Nat} (hj : HdR σ j) (hk : k < 9) {p : Int} (hp : 0 ≤ p ∧ p < pSiz σ j (k : Int)) : pAt σ j (pBeg σ j (k : Int) + p) = msg σ (60 * (j : Int) + (mF σ (j : Int) (k : Int) + p)).toNat := by
  obtain ⟨e1, e2⟩ := hj.pb hk
  obtain ⟨e3, e4⟩ := hj.mm hk
  unfold pSiz at hp
  rw [e1, e2] at hp
  rw [e1, e3]
  rcases cb_r hj.tz k hk with z | z
  · rw [if_pos z.1] at hp
    omega
  · rw [if_neg (by omega)] at hp
    exact hj.2.2.2.1 _ (by omega) (by omega)
theorem mAlkF_i {σ : St} {i j k : Int} : ∀ p : Int, p ≤ mMany σ i k → (mAlkF σ i j k p = true ↔ ∀ q : Int, p ≤ q → q < mMany σ i k → msg σ (60 * i + mF σ i k + q).toNat = msg σ (60 * j + mF σ j k + q).toNat) := by
  refine up (fun p hp ih => ?_)
  rw [mAlkF.eq_def]
  by_cases h : p < mMany σ i k
  · rw [if_pos h]
    by_cases hx : msg σ (60 * i + mF σ i k + p).toNat = msg σ (60 * j + mF σ j k + p).toNat
    · rw [if_pos hx, ih (p + 1) (by omega) (by omega)]
      constructor
      · intro hh q q1 q2
        by_cases hq : q = p
        · rw [hq]; exact hx
        · exact hh q (by omega) q2
      · intro hh q q1 q2
        exact hh q (by omega) q2
    · rw [if_neg hx]
      constructor
      · intro z; cases z
      · intro z; exact absurd (z p (by omega) h) hx
  · rw [if_neg h]
    exact ⟨fun _ q q1 q2 => by omega, fun _ => rfl⟩
theorem pa_e {σ : St} {i j k : Nat} (hi : HdR σ i) (hj : HdR σ j) (hk : k < 9) : pPA σ i j (k : Int) = mAlk σ (i : Int) (j : Int) (k : Int) := by
  have hs := hi.siz hk
  have hs2 := hj.siz hk
  unfold pPA mAlk
  rw [hs, hs2]
  by_cases h : mMany σ (i : Int) (k : Int) = mMany σ (j : Int) (k : Int)
  · rw [if_pos h, if_pos h]
    obtain ⟨e1, e2⟩ := hi.pb hk
    have e3 := hi.beg hk
    have e4 := hj.beg hk
    by_cases hb : pBeg σ i (k : Int) = -1
    · have he : pEnd σ i (k : Int) = -1 := by
        rcases cb_r hi.tz k hk with z | z
        · rw [e2]; exact z.2
        · omega
      have hm : mMany σ (i : Int) (k : Int) = -1 := by rw [← hs]; exact if_pos hb
      rw [pRng.eq_def, if_neg (by omega), mAlkF.eq_def, if_neg (by omega)]
    · have hz : pSiz σ i (k : Int) = pEnd σ i (k : Int) - pBeg σ i (k : Int) := if_neg hb
      have hl : 0 ≤ pBeg σ i (k : Int) ∧ pBeg σ i (k : Int) ≤ pEnd σ i (k : Int) := by
        rcases cb_r hi.tz k hk with z | z <;> omega
      have hmm : mMany σ (i : Int) (k : Int) = pEnd σ i (k : Int) - pBeg σ i (k : Int) := by rw [← hs, hz]
      apply Bool.eq_iff_iff.mpr
      rw [pRng_i _ hl.2, mAlkF_i 0 (by omega)]
      have key : ∀ q : Int, 0 ≤ q → q < mMany σ (i : Int) (k : Int) → (pAt σ i (pBeg σ i (k : Int) + q) = pAt σ j (pBeg σ j (k : Int) + q) ↔ msg σ (60 * (i : Int) + mF σ (i : Int) (k : Int) + q).toNat = msg σ (60 * (j : Int) + mF σ (j : Int) (k : Int) + q).toNat) := fun q q1 q2 => by
        rw [hi.sgn hk ⟨q1, by omega⟩, hj.sgn hk ⟨q1, by omega⟩, Int.add_assoc, Int.add_assoc]
      constructor
      · intro hh q q1 q2
        refine (key q q1 q2).mp ?_
        have := hh (pBeg σ i (k : Int) + q) (by omega) (by omega)
        rw [this]
        congr 1
        omega
      · intro hh q q1 q2
        have := (key (q - pBeg σ i (k : Int)) (by omega) (by omega)).mpr (hh _ (by omega) (by omega))
        rw [show pBeg σ i (k : Int) + (q - pBeg σ i (k : Int)) = q by omega] at this
        rw [this]
        congr 1
        omega
  · rw [if_neg h, if_neg h]
theorem als_e {σ : St} {i j : Nat} (hi : HdR σ i) (hj : HdR σ j) : ∀ k : Int, k ≤ 9 → 0 ≤ k → ∀ x : Int, pPAsF σ i j x k = mAlsF σ (i : Int) (j : Int) x k := by
  refine up (fun k hk ih h0 x => ?_)
  rw [pPAsF.eq_def, mAlsF.eq_def]
  by_cases h : k < 9
  · have e := pa_e hi hj (k := k.toNat) (by omega)
    rw [Int.toNat_of_nonneg h0] at e
    rw [if_pos h, if_pos h, e]
    exact ih (k + 1) (by omega) (by omega) (by omega) _
  · rw [if_neg h, if_neg h]
theorem sumF_e {σ : St} {j : Nat} (hj : HdR σ j) : ∀ k : Int, k ≤ 9 → 0 ≤ k → ∀ x : Int, pSumF σ j x k = mSmF σ (j : Int) x k := by
  refine up (fun k hk ih h0 x => ?_)
  rw [pSumF.eq_def, mSmF.eq_def]
  by_cases h : k < 9
  · have e := hj.siz (k := k.toNat) (by omega)
    rw [Int.toNat_of_nonneg h0] at e
    rw [if_pos h, if_pos h, e]
    exact ih (k + 1) (by omega) (by omega) (by omega) _
  · rw [if_neg h, if_neg h, hj.2.2.2.2.2.1, Int.toNat_natCast]
theorem sum_e {σ : St} {j : Nat} (h : SlR σ j) (x : Int) : pSum σ j x = mSum σ (j : Int) x := by
  unfold pSum mSum
  rw [Int.toNat_natCast]
  cases hh : hld σ j
  · rw [if_neg (by decide), if_pos (h.held.2.mp hh)]
  · rw [if_pos rfl, if_neg (by have := h.held.1.mp hh; omega)]
    exact sumF_e (h.hd hh) 0 (by omega) (by omega) x
theorem ckA_e {σ : St} (hS : ∀ j : Nat, j < 4 → SlR σ j) : ∀ k : Int, k ≤ 4 → 0 ≤ k → ∀ x : Int, ckA σ x k = mCkA σ x k := by
  refine up (fun k hk ih h0 x => ?_)
  rw [ckA.eq_def, mCkA.eq_def]
  by_cases h : k < 4
  · have e := sum_e (hS k.toNat (by omega)) x
    rw [Int.toNat_of_nonneg h0] at e
    rw [if_pos h, if_pos h, e]
    exact ih (k + 1) (by omega) (by omega) (by omega) _
  · rw [if_neg h, if_neg h]
theorem ckT_e {σ : St} (h : TxR σ) : ∀ p : Int, p ≤ msz σ → ∀ x : Int, ckT σ x p = pk (mT σ) (msz σ) x p := by
  refine up (fun p hp ih x => ?_)
  rw [ckT.eq_def, pk.eq_def, h.1, h.2.1]
  by_cases hq : p < msz σ
  · rw [if_pos hq, if_pos hq]
    exact ih (p + 1) (by omega) (by omega) _
  · rw [if_neg hq, if_neg hq]
theorem Inv.ck {σ : St} (hI : Inv σ) : ckS σ = mCk σ := by
  unfold ckS mCk
  rw [ckT_e hI.2.2.2.1 0 hI.2.2.1.sz.1, hI.2.2.2.2.2.1]
  exact ckA_e hI.2.2.2.2.1 0 (by omega) (by omega) _
theorem Inv.noS {σ : St} (hI : Inv σ) (k : Int) : (¬ (0 ≤ k ∧ k < 4) → mNoS σ k = 1) ∧ (0 ≤ k ∧ k < 4 → (hld σ k.toNat = true → mNoS σ k = 0 ∧ HdR σ k.toNat) ∧ (hld σ k.toNat = false → mNoS σ k = 2)) := by
  unfold mNoS
  refine ⟨fun h => if_neg (by omega), fun h => ?_⟩
  have hs := hI.2.2.2.2.1 k.toNat (by omega)
  refine ⟨fun hh => ⟨?_, hs.hd hh⟩, fun hh => ?_⟩
  · rw [if_pos (by omega), if_neg (by have := hs.held.1.mp hh; omega)]
  · rw [if_pos (by omega), if_pos (hs.held.2.mp hh)]
theorem Inv.noP {σ : St} (hI : Inv σ) (k c : Int) : (¬ (0 ≤ k ∧ k < 4) → mNoP σ k c = 1) ∧ (0 ≤ k ∧ k < 4 → (ixO (tS 51) c < 0 → mNoP σ k c = 2) ∧ (0 ≤ ixO (tS 51) c → (hld σ k.toNat = true → mNoP σ k c = 0 ∧ HdR σ k.toNat) ∧ (hld σ k.toNat = false → mNoP σ k c = 3))) := by
  unfold mNoP
  refine ⟨fun h => if_neg (by omega), fun h => ⟨fun h2 => by rw [if_pos (by omega), if_pos h2], fun h2 => ?_⟩⟩
  have hs := hI.2.2.2.2.1 k.toNat (by omega)
  refine ⟨fun hh => ⟨?_, hs.hd hh⟩, fun hh => ?_⟩
  · rw [if_pos (by omega), if_neg (by omega), if_neg (by have := hs.held.1.mp hh; omega)]
  · rw [if_pos (by omega), if_neg (by omega), if_pos (hs.held.2.mp hh)]
