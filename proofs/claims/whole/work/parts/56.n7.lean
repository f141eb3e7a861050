/-! MATHS 7: parse, copy -/
theorem Fc.cs {σ a : St} (h : Fc σ a) : Cs σ a ∧ ∀ j, j ≠ 4 → pAt a j = pAt σ j ∧ cnt a j = cnt σ j := by
  have hp : ∀ j, j ≠ 4 → pAt a j = pAt σ j ∧ cnt a j = cnt σ j := fun j hj => by
    obtain ⟨h1, h2, -⟩ := h.1 j hj
    refine ⟨?_, h1⟩
    funext p
    unfold pAt
    rw [h1, h2]
  refine ⟨fun j hj => ?_, hp⟩
  obtain ⟨h1, -, h3, h4, h5⟩ := h.1 j (by omega)
  obtain ⟨p1, p2⟩ := hp j (by omega)
  exact ⟨h5, p2, p1, funext (fun q => (h3 q).1), funext (fun q => (h3 q).2), h4⟩
theorem PcO.of {s a : St} (h : PcO s) (h1 : mtx a = mtx s) (h2 : msz a = msz s) (h3 : mpc a = mpc s) (h4 : mpm a = mpm s) : mT a = mT s ∧ PcO a := by
  have e : mT a = mT s := by
    funext p
    unfold mT
    rw [h1, h2]
  refine ⟨e, ?_⟩
  unfold PcO
  rw [e, h2, h3, h4]
  exact h
theorem TxR.tz {σ : St} (h : TxR σ) (hM : Mw σ) : Tz (pAt σ 5) (cnt σ 5) := by
  have hz := hM.sz
  refine ⟨by rw [h.1]; omega, by rw [h.1]; omega, fun p hp => ?_, fun p => by rw [h.2.1]; exact mT_r hM p⟩
  rw [h.2.1] at hp
  rw [h.1]
  exact mT_0 hp
/-- one slot of the model -/
def Mj (σ a : St) (j : Nat) : Prop := mlo a j = mlo σ j ∧ (∀ p : Int, 0 ≤ p → p < 60 → msg a (60 * (j : Int) + p).toNat = msg σ (60 * (j : Int) + p).toNat) ∧ (∀ k : Nat, k < 9 → mfr a (9 * j + k) = mfr σ (9 * j + k) ∧ mto a (9 * j + k) = mto σ (9 * j + k)) ∧ mpo a j = mpo σ j
theorem SlR.of2 {σ a : St} {j : Nat} (h : SlR σ j) (hc : hld a j = hld σ j ∧ cnt a j = cnt σ j ∧ pAt a j = pAt σ j ∧ (∀ k : Nat, k < 9 → bg a j k = bg σ j k ∧ en a j k = en σ j k) ∧ pt a j = pt σ j) (hm : Mj σ a j) : SlR a j := by
  obtain ⟨c1, c2, c3, c4, c6⟩ := hc
  obtain ⟨m1, m2, m3, m5⟩ := hm
  rcases h with ⟨h1, h2, h3, h4, h5, h6, h7, h8⟩ | ⟨h1, h2⟩
  · left
    refine ⟨by rw [c1, h1], by rw [m1, c2, h2], by rw [c2]; exact h3, fun p p0 p1 => ?_, fun k hk => ?_, by rw [c6, m5, h6], by rw [c6, c3, c2, h7], by rw [c3, c2]; exact h8⟩
    · rw [c2] at p1
      rw [c3, m2 p p0 (by omega)]
      exact h4 p p0 p1
    · obtain ⟨x1, x2, x3, x4⟩ := h5 k hk
      rw [(c4 k hk).1, (c4 k hk).2, (m3 k hk).1, (m3 k hk).2, c3, c2]
      exact ⟨x1, x2, x3, x4⟩
  · exact Or.inr ⟨by rw [c1, h1], by rw [m1, h2]⟩
theorem rfx_f (c : St) (x r : Int) : cnt (sRp (sRc c x) r) = cnt c ∧ sg (sRp (sRc c x) r) = sg c ∧ bg (sRp (sRc c x) r) = bg c ∧ en (sRp (sRc c x) r) = en c ∧ pt (sRp (sRc c x) r) = pt c ∧ hld (sRp (sRc c x) r) = hld c ∧ rc (sRp (sRc c x) r) = x ∧ rp (sRp (sRc c x) r) = r ∧ (sRp (sRc c x) r).2 = c.2 ∧ (Wk c → Wk (sRp (sRc c x) r)) ∧ (R9 c → R9 (sRp (sRc c x) r)) := ⟨rfl, rfl, rfl, rfl, rfl, rfl, rfl, rfl, rfl, id, id⟩
theorem plx_f (s : St) (x r : Int) : mtx (sMpl (sMrf s x) r) = mtx s ∧ msz (sMpl (sMrf s x) r) = msz s ∧ mpc (sMpl (sMrf s x) r) = mpc s ∧ mpm (sMpl (sMrf s x) r) = mpm s ∧ msg (sMpl (sMrf s x) r) = msg s ∧ mlo (sMpl (sMrf s x) r) = mlo s ∧ mfr (sMpl (sMrf s x) r) = mfr s ∧ mto (sMpl (sMrf s x) r) = mto s ∧ mpo (sMpl (sMrf s x) r) = mpo s ∧ mbe (sMpl (sMrf s x) r) = mbe s ∧ men (sMpl (sMrf s x) r) = men s ∧ mpt (sMpl (sMrf s x) r) = mpt s ∧ mrf (sMpl (sMrf s x) r) = x ∧ mpl (sMpl (sMrf s x) r) = r ∧ (sMpl (sMrf s x) r).1 = s.1 := ⟨rfl, rfl, rfl, rfl, rfl, rfl, rfl, rfl, rfl, rfl, rfl, rfl, rfl, rfl, rfl⟩
theorem ovcd (a : St) (w : Int) : (sMcd (sOv a w) 0).1 = a.1 ∧ mtx (sMcd (sOv a w) 0) = mtx a ∧ msz (sMcd (sOv a w) 0) = msz a ∧ mpc (sMcd (sOv a w) 0) = mpc a ∧ mpm (sMcd (sOv a w) 0) = mpm a ∧ msg (sMcd (sOv a w) 0) = msg a ∧ mlo (sMcd (sOv a w) 0) = mlo a ∧ mfr (sMcd (sOv a w) 0) = mfr a ∧ mto (sMcd (sOv a w) 0) = mto a ∧ mpo (sMcd (sOv a w) 0) = mpo a ∧ mrf (sMcd (sOv a w) 0) = mrf a ∧ mpl (sMcd (sOv a w) 0) = mpl a ∧ mT (sMcd (sOv a w) 0) = mT a ∧ (Mw a → Mw (sMcd (sOv a w) 0)) := ⟨rfl, rfl, rfl, rfl, rfl, rfl, rfl, rfl, rfl, rfl, rfl, rfl, rfl, id⟩
theorem mtx_of {a σ : St} (h : a.2 = σ.2) : mtx a = mtx σ := by unfold mtx; rw [h]
theorem hld_cut5 (s : St) (t : Int → Int) (n : Int) : hld (sCut5 s t n) 4 = decide (rf (sCut5 s t n) = -1) := by
  have e : ∀ (x : St) (v : Nat → Bool), hld (sHd x v) = v ∧ rf (sHd x v) = rf x := fun _ _ => ⟨rfl, rfl⟩
  unfold sCut5
  rw [(e _ _).1, (e _ _).2]
  exact u1_s _ _ _
theorem Mw.mk' {b : St} (h1 : 0 ≤ msz b ∧ msz b ≤ 60) (h2 : ∀ j, 0 ≤ mtx b j ∧ mtx b j < 65536) (h3 : 0 ≤ mpm b ∧ mpm b ≤ 60) (h4 : ∀ j, 0 ≤ mpc b j ∧ mpc b j ≤ 3) (h5 : ∀ j, 0 ≤ msg b j ∧ msg b j < 65536) (h6 : ∀ j, -1 ≤ mlo b j ∧ mlo b j ≤ 60) (h7 : ∀ j, -1 ≤ mfr b j ∧ mfr b j ≤ 60) (h8 : ∀ j, -1 ≤ mto b j ∧ mto b j ≤ 60) (h9 : ∀ j, -1 ≤ mpo b j ∧ mpo b j ≤ 2147483647) (h10 : ∀ j, -1 ≤ mbe b j ∧ mbe b j ≤ 60) (h11 : ∀ j, -1 ≤ men b j ∧ men b j ≤ 60) (h12 : -1 ≤ mpt b ∧ mpt b ≤ 2147483647) (h13 : 0 ≤ mrf b ∧ mrf b ≤ 2147483647) : Mw b := ⟨h1, h2, h3, h4, h5, h6, h7, h8, h9, h10, h11, h12, h13⟩
/-- a text was refused -/
theorem Inv.refuse {σ : St} (hI : Inv σ) (hr : rc σ ≤ 1000) {w : Int} {s0 b : St} (hE : Ep (sMcd (sOv (sRp (sRc (sCut σ 5) (rc (sCut σ 5) + 1)) (prs0 σ)) w) 0) s0) (hb : b = sMpl (sMrf s0 (mrf s0 + 1)) (mPl (pAt σ 5) (cnt σ 5))) : Inv b ∧ prs0 σ = mPl (pAt σ 5) (cnt σ 5) ∧ rc b = rc σ + 1 := by
  obtain ⟨i1, i2, i3, i4, i5, i6, i7⟩ := id hI
  have hT := i4.tz i3
  have hF := Fc.cut σ 5 i1
  have hrf : prs0 σ = mPl (pAt σ 5) (cnt σ 5) := rf_cut i1 hT
  have hWc : Wk (sCut σ 5) := Wk_cut i1 i2 (by decide)
  generalize prs0 σ = r at hE hrf ⊢
  generalize sCut σ 5 = c at hE hF hWc
  obtain ⟨f1, f2, f3, f4, f5⟩ := id hF
  obtain ⟨g1, g2⟩ := hF.cs
  obtain ⟨a1, a2, a3, a4, a5, a6, a7, a8, a9, a10, a11⟩ := rfx_f c (rc c + 1) r
  generalize sRp (sRc c (rc c + 1)) r = a at *
  have hac : Cs c a ∧ ∀ j, pAt a j = pAt c j := by
    have hp : ∀ j, pAt a j = pAt c j := fun j => by funext p; unfold pAt; rw [a1, a2]
    exact ⟨fun j _ => ⟨by rw [a6], by rw [a1], hp j, by rw [a3], by rw [a4], by rw [a5]⟩, hp⟩
  have ha2 : a.2 = σ.2 := a9.trans f4
  obtain ⟨m1, m2, m3, m4, m5, m6, m7, m8, m9⟩ := md (a := a) (σ := σ) (by rw [ha2])
  have hx := mtx_of ha2
  obtain ⟨o1, o2, o3, o4, o5, o6, o7, o8, o9, o10, o11, o12, -, -⟩ := ovcd a w
  obtain ⟨⟨e1, e2, e3, e4, e5, e6, e7, e8, e9, e10, e11, e12, e13, e14⟩, x1, x2, x3⟩ := hE
  have hM := i3.rf
  obtain ⟨b1, b2, b3, b4, b5, b6, b7, b8, b9, b10, b11, b12, b13, b14, b15⟩ := plx_f s0 (mrf s0 + 1) (mPl (pAt σ 5) (cnt σ 5))
  rw [← hb] at b1 b2 b3 b4 b5 b6 b7 b8 b9 b10 b11 b12 b13 b14 b15
  have y3 : mtx b = mtx σ := b1.trans (e3.trans (o2.trans hx))
  have y4 : msz b = msz σ := b2.trans (e4.trans (o3.trans m5))
  have y5 : mpc b = mpc σ := b3.trans (e5.trans (o4.trans m8))
  have y6 : mpm b = mpm σ := b4.trans (e6.trans (o5.trans m9))
  have y7 : msg b = msg σ := b5.trans (e7.trans (o6.trans m3.2.1))
  have y8 : mlo b = mlo σ := b6.trans (e8.trans (o7.trans m3.1))
  have y9 : mfr b = mfr σ := b7.trans (e9.trans (o8.trans m3.2.2.1))
  have y10 : mto b = mto σ := b8.trans (e10.trans (o9.trans m3.2.2.2.1))
  have y11 : mpo b = mpo σ := b9.trans (e11.trans (o10.trans m3.2.2.2.2))
  have y12 : mrf s0 = mrf σ := e12.trans (o11.trans m6)
  have y13 : b.1 = a.1 := b15.trans (e1.trans o1)
  have hP := PcO.of (a := b) i4.2.2 y3 y4 y5 y6
  have hMw : Mw b := Mw.mk' (by rw [y4]; exact i3.sz) (by rw [y3]; exact i3.tx) (by rw [y6]; exact i3.pm) (by rw [y5]; exact i3.pc) (by rw [y7]; exact i3.sg) (by rw [y8]; exact i3.lo) (by rw [y9]; exact i3.fr) (by rw [y10]; exact i3.to) (by rw [y11]; exact i3.po) (by rw [b10]; exact x1) (by rw [b11]; exact x2) (by rw [b12]; exact x3) (by rw [b13, y12]; omega)
  refine ⟨hI.step (a := a) (by rw [ha2]) y13 (a10 hWc) (a11 (f5 i2)) (g1.trans hac.1) hMw ⟨y8, y7, y9, y10, y11⟩ ⟨?_, ?_, hP.2⟩ ?_, hrf, ?_⟩
  · rw [a1, (g2 5 (by decide)).2, y4]
    exact i4.1
  · rw [hac.2, (g2 5 (by decide)).1, hP.1]
    exact i4.2.1
  · rw [a7, a8, b13, b14, y12, f2]
    exact ⟨by omega, fun _ => hrf⟩
  · rw [(cl y13).2.2.2.2.2.2.2.2.2.1, a7, f2]
-- an address is taken over
theorem atkF_f {j i : Nat} : ∀ k : Int, k ≤ 9 → 0 ≤ k → ∀ σ : St, (cnt (pATkF σ j i k) = cnt σ ∧ sg (pATkF σ j i k) = sg σ ∧ rf (pATkF σ j i k) = rf σ ∧ rc (pATkF σ j i k) = rc σ ∧ rp (pATkF σ j i k) = rp σ ∧ (pATkF σ j i k).2 = σ.2) ∧ (∀ m, m ≠ j → bg (pATkF σ j i k) m = bg σ m ∧ en (pATkF σ j i k) m = en σ m ∧ pt (pATkF σ j i k) m = pt σ m ∧ hld (pATkF σ j i k) m = hld σ m) ∧ (∀ q : Nat, bg (pATkF σ j i k) j q = (if k ≤ q ∧ q < 9 then bg σ i q else bg σ j q) ∧ en (pATkF σ j i k) j q = (if k ≤ q ∧ q < 9 then en σ i q else en σ j q)) ∧ pt (pATkF σ j i k) j = pt σ i ∧ hld (pATkF σ j i k) j = hld σ i := by
  refine up (fun k hk ih h0 σ => ?_)
  rw [pATkF.eq_def]
  by_cases h : k < 9
  · rw [if_pos h]
    have e9 : pMk σ j k (pBeg σ i k) (pEnd σ i k) = sEn (sBg σ (u2 (bg σ) j k.toNat (pBeg σ i k))) (u2 (en σ) j k.toNat (pEnd σ i k)) := if_pos ⟨h0, h⟩
    have hb : pBeg σ i k = bg σ i k.toNat := if_pos ⟨h0, h⟩
    have he : pEnd σ i k = en σ i k.toNat := if_pos ⟨h0, h⟩
    have b1 : bg (pMk σ j k (pBeg σ i k) (pEnd σ i k)) = u2 (bg σ) j k.toNat (bg σ i k.toNat) := by rw [e9, hb]; rfl
    have b2 : en (pMk σ j k (pBeg σ i k) (pEnd σ i k)) = u2 (en σ) j k.toNat (en σ i k.toNat) := by rw [e9, he]; rfl
    have b3 : cnt (pMk σ j k (pBeg σ i k) (pEnd σ i k)) = cnt σ ∧ sg (pMk σ j k (pBeg σ i k) (pEnd σ i k)) = sg σ ∧ rf (pMk σ j k (pBeg σ i k) (pEnd σ i k)) = rf σ ∧ rc (pMk σ j k (pBeg σ i k) (pEnd σ i k)) = rc σ ∧ rp (pMk σ j k (pBeg σ i k) (pEnd σ i k)) = rp σ ∧ (pMk σ j k (pBeg σ i k) (pEnd σ i k)).2 = σ.2 ∧ pt (pMk σ j k (pBeg σ i k) (pEnd σ i k)) = pt σ ∧ hld (pMk σ j k (pBeg σ i k) (pEnd σ i k)) = hld σ := by rw [e9]; exact ⟨rfl, rfl, rfl, rfl, rfl, rfl, rfl, rfl⟩
    generalize pMk σ j k (pBeg σ i k) (pEnd σ i k) = τ at b1 b2 b3 ⊢
    obtain ⟨c1, c2, c3, c4, c5, c6, c7, c8⟩ := b3
    obtain ⟨⟨i1, i2, i3, i4, i5, i6⟩, j1, j2, j3, j4⟩ := ih (k + 1) (by omega) (by omega) (by omega) τ
    have o : ∀ (f : Nat → Nat → Int) (v : Int) (m q : Nat), (m ≠ j ∨ q ≠ k.toNat) → u2 f j k.toNat v m q = f m q := fun f v m q hm => by
      unfold u2
      by_cases hmj : m = j
      · subst hmj
        rw [u1_s]
        exact u1_n _ _ (by rcases hm with z | z; exact absurd rfl z; exact z)
      · rw [u1_n _ _ hmj]
    have o2 : ∀ (f : Nat → Nat → Int) (v : Int), u2 f j k.toNat v j k.toNat = v := fun f v => by
      unfold u2
      rw [u1_s, u1_s]
    refine ⟨⟨i1.trans c1, i2.trans c2, i3.trans c3, i4.trans c4, i5.trans c5, i6.trans c6⟩, fun m hm => ?_, fun q => ?_, by rw [j3, c7], by rw [j4, c8]⟩
    · obtain ⟨y1, y2, y3, y4⟩ := j1 m hm
      refine ⟨y1.trans ?_, y2.trans ?_, by rw [y3, c7], by rw [y4, c8]⟩
      · funext q; rw [b1, o _ _ _ _ (Or.inl hm)]
      · funext q; rw [b2, o _ _ _ _ (Or.inl hm)]
    · obtain ⟨y1, y2⟩ := j2 q
      rw [y1, y2, b1, b2]
      by_cases hq : q = k.toNat
      · have q1 : ¬ (k + 1 ≤ (q : Int) ∧ q < 9) := by omega
        have q2 : k ≤ (q : Int) ∧ q < 9 := by omega
        rw [if_neg q1, if_neg q1, if_pos q2, if_pos q2, hq, o2, o2]
        exact ⟨rfl, rfl⟩
      · rw [o _ _ _ _ (Or.inr hq), o _ _ _ _ (Or.inr hq), o _ _ _ _ (Or.inr hq), o _ _ _ _ (Or.inr hq)]
        by_cases hq2 : k + 1 ≤ (q : Int) ∧ q < 9
        · have q2 : k ≤ (q : Int) ∧ q < 9 := by omega
          rw [if_pos hq2, if_pos hq2, if_pos q2, if_pos q2]
          exact ⟨rfl, rfl⟩
        · have q2 : ¬ (k ≤ (q : Int) ∧ q < 9) := by omega
          rw [if_neg hq2, if_neg hq2, if_neg q2, if_neg q2]
          exact ⟨rfl, rfl⟩
  · rw [if_neg h]
    have e1 : ∀ (m : Nat) (hm : m ≠ j), u1 (pt σ) j (pt σ i) m = pt σ m := fun m hm => u1_n _ _ hm
    have e2 : ∀ (m : Nat) (hm : m ≠ j), u1 (hld σ) j (hld σ i) m = hld σ m := fun m hm => u1_n _ _ hm
    refine ⟨⟨rfl, rfl, rfl, rfl, rfl, rfl⟩, fun m hm => ⟨rfl, rfl, e1 m hm, e2 m hm⟩, fun q => ?_, u1_s _ _ _, u1_s _ _ _⟩
    rw [if_neg (by omega), if_neg (by omega)]
    exact ⟨rfl, rfl⟩
theorem atk_at {σ : St} (hW : Wk σ) (j i : Nat) : (pAt (pATk σ j i) j = pAt σ i ∧ cnt (pATk σ j i) j = cnt σ i ∧ (∀ q : Nat, q < 9 → bg (pATk σ j i) j q = bg σ i q ∧ en (pATk σ j i) j q = en σ i q) ∧ pt (pATk σ j i) j = pt σ i ∧ hld (pATk σ j i) j = hld σ i) ∧ (∀ m, m ≠ j → pAt (pATk σ j i) m = pAt σ m ∧ cnt (pATk σ j i) m = cnt σ m ∧ bg (pATk σ j i) m = bg σ m ∧ en (pATk σ j i) m = en σ m ∧ pt (pATk σ j i) m = pt σ m ∧ hld (pATk σ j i) m = hld σ m) ∧ rc (pATk σ j i) = rc σ ∧ rp (pATk σ j i) = rp σ ∧ (pATk σ j i).2 = σ.2 ∧ (R9 σ → R9 (pATk σ j i)) := by
  obtain ⟨⟨a1, a2, -, a4, a5, a6⟩, b1, b2, b3, b4⟩ := atkF_f (j := j) (i := i) 0 (by omega) (by omega) (pTak σ j i 0)
  obtain ⟨c1, c2, c3⟩ := tak_at (σ := σ) (i := j) (j := i) hW
  obtain ⟨-, d2, d3, d4, d5, -, d7, d8, d9, -⟩ := tak_F 0 (by omega) (σ := σ) (i := j) (j := i) (by omega) hW
  have hp : ∀ m, pAt (pATk σ j i) m = pAt (pTak σ j i 0) m ∧ cnt (pATk σ j i) m = cnt (pTak σ j i 0) m := fun m => by
    have e1 : cnt (pATk σ j i) = cnt (pTak σ j i 0) := a1
    have e2 : sg (pATk σ j i) = sg (pTak σ j i 0) := a2
    refine ⟨?_, by rw [e1]⟩
    funext p
    unfold pAt
    rw [e1, e2]
  have hb : ∀ q : Nat, bg (pATk σ j i) j q = (if (0 : Int) ≤ q ∧ q < 9 then bg σ i q else bg σ j q) ∧ en (pATk σ j i) j q = (if (0 : Int) ≤ q ∧ q < 9 then en σ i q else en σ j q) := fun q => by
    have := b2 q
    rw [d2, d3] at this
    exact this
  have ho : ∀ m, m ≠ j → bg (pATk σ j i) m = bg σ m ∧ en (pATk σ j i) m = en σ m ∧ pt (pATk σ j i) m = pt σ m ∧ hld (pATk σ j i) m = hld σ m := fun m hm => by
    have := b1 m hm
    rw [d2, d3, d4, d5] at this
    exact this
  refine ⟨⟨(hp j).1.trans c1, (hp j).2.trans c2, fun q hq => ?_, b3.trans (by rw [d4]), b4.trans (by rw [d5])⟩, fun m hm => ⟨(hp m).1.trans (c3 m hm).1, (hp m).2.trans (c3 m hm).2, ho m hm⟩, a4.trans d7, a5.trans d8, a6.trans d9, fun h9 m q hq => ?_⟩
  · have := hb q
    rw [if_pos (by omega), if_pos (by omega)] at this
    exact this
  · by_cases hm : m = j
    · subst hm
      have := hb q
      rw [if_neg (by omega), if_neg (by omega)] at this
      rw [this.1, this.2]
      exact h9 m q hq
    · rw [(ho m hm).1, (ho m hm).2.1]
      exact h9 m q hq
theorem cpy_i {g src : Nat → Int} {c m : Int} {q : Nat} (h : c ≤ (q : Int) ∧ (q : Int) < c + m) : cpy g src c m q = src ((q : Int) - c).toNat := if_pos h
theorem cpy_o {g src : Nat → Int} {c m : Int} {q : Nat} (h : (q : Int) < c ∨ c + m ≤ (q : Int)) : cpy g src c m q = g q := if_neg (by omega)
theorem cpy_b {g src : Nat → Int} {c m lo hi : Int} (h1 : ∀ j, lo ≤ g j ∧ g j ≤ hi) (h2 : ∀ j, lo ≤ src j ∧ src j ≤ hi) (j : Nat) : lo ≤ cpy g src c m j ∧ cpy g src c m j ≤ hi := by
  unfold cpy
  split
  · exact h2 _
  · exact h1 _
theorem u1_b {f : Nat → Int} {k : Nat} {v lo hi : Int} (h1 : ∀ j, lo ≤ f j ∧ f j ≤ hi) (hv : lo ≤ v ∧ v ≤ hi) (j : Nat) : lo ≤ u1 f k v j ∧ u1 f k v j ≤ hi := by
  unfold u1
  split
  · exact hv
  · exact h1 _
theorem sto_f' (s : St) (j : Int) : mlo (mSto s j) = u1 (mlo s) j.toNat (msz s) ∧ msg (mSto s j) = cpy (msg s) (mtx s) (60 * j) (msz s) ∧ mfr (mSto s j) = cpy (mfr s) (mbe s) (9 * j) 9 ∧ mto (mSto s j) = cpy (mto s) (men s) (9 * j) 9 ∧ mpo (mSto s j) = u1 (mpo s) j.toNat (mpt s) ∧ mtx (mSto s j) = mtx s ∧ msz (mSto s j) = msz s ∧ mpc (mSto s j) = mpc s ∧ mpm (mSto s j) = mpm s ∧ mbe (mSto s j) = mbe s ∧ men (mSto s j) = men s ∧ mpt (mSto s j) = mpt s ∧ mrf (mSto s j) = mrf s ∧ mpl (mSto s j) = mpl s ∧ (mSto s j).1 = s.1 := ⟨rfl, rfl, rfl, rfl, rfl, rfl, rfl, rfl, rfl, rfl, rfl, rfl, rfl, rfl, rfl⟩
theorem Mw.sto {s : St} (h : Mw s) (j : Int) : Mw (mSto s j) := by
  obtain ⟨e1, e2, e3, e4, e5, e6, e7, e8, e9, e10, e11, e12, e13, -, -⟩ := sto_f' s j
  have hz := h.sz
  have hsg : ∀ q, 0 ≤ cpy (msg s) (mtx s) (60 * j) (msz s) q ∧ cpy (msg s) (mtx s) (60 * j) (msz s) q ≤ 65535 := cpy_b (fun q => by have := h.sg q; omega) (fun q => by have := h.tx q; omega)
  exact ⟨by rw [e7]; exact h.sz, by rw [e6]; exact h.tx, by rw [e9]; exact h.pm, by rw [e8]; exact h.pc, by rw [e2]; exact fun q => by have := hsg q; omega, by rw [e1]; exact u1_b h.lo (by omega), by rw [e3]; exact cpy_b h.fr h.be, by rw [e4]; exact cpy_b h.to h.en, by rw [e5]; exact u1_b h.po h.pt, by rw [e10]; exact h.be, by rw [e11]; exact h.en, by rw [e12]; exact h.pt, by rw [e13]; exact h.rf⟩
/-- a text was taken -/
theorem Inv.keep {σ : St} (hI : Inv σ) (h9 : mPl (pAt σ 5) (cnt σ 5) = -1) {k w : Int} (hk : 0 ≤ k ∧ k < 4) : Inv (mSto (mFin (sMcd (sOv (pATk (sCut σ 5) k.toNat 4) w) 0) (pAt σ 5) (cnt σ 5)) k) ∧ prs0 σ = -1 ∧ rc (mSto (mFin (sMcd (sOv (pATk (sCut σ 5) k.toNat 4) w) 0) (pAt σ 5) (cnt σ 5)) k) = rc σ := by
  obtain ⟨i1, i2, i3, i4, i5, i6, i7⟩ := id hI
  have hT := i4.tz i3
  have hF := Fc.cut σ 5 i1
  obtain ⟨f1, f2, f3, f4, f5⟩ := id hF
  obtain ⟨g1, g2⟩ := hF.cs
  have hrf : prs0 σ = -1 := (rf_cut i1 hT).trans h9
  have hWc : Wk (sCut σ 5) := Wk_cut i1 i2 (by decide)
  obtain ⟨bb, bp⟩ := bg_cut i1 hT h9
  obtain ⟨-, -, n4, t4⟩ := (cut0_ok (i := 5) i1 i2 (by decide)).cut5
  have n4 : cnt (sCut σ 5) 4 = cnt σ 5 := n4
  have t4 : pAt (sCut σ 5) 4 = pAt σ 5 := t4
  have hh : hld (sCut σ 5) 4 = true := by
    unfold sCut
    rw [hld_cut5]
    exact decide_eq_true hrf
  obtain ⟨⟨a1, a2, a3, a4, a5⟩, ao, ac, ap', am, a9⟩ := atk_at hWc k.toNat 4
  have hWa : Wk (pATk (sCut σ 5) k.toNat 4) := Wk_atk hWc
  have h2 : (pATk (sCut σ 5) k.toNat 4).2 = σ.2 := am.trans f4
  generalize hA : pATk (sCut σ 5) k.toNat 4 = a at *
  obtain ⟨m1, m2, m3, m4, m5, m6, m7, m8, m9⟩ := md (a := a) (σ := σ) (by rw [h2])
  have hx : mtx a = mtx σ := by unfold mtx; rw [h2]
  have hP0 : Mp (sMcd (sOv a w) 0) (pAt σ 5) (cnt σ 5) := ⟨m1 i3, m4.trans i4.2.1.symm, m5.trans i4.1.symm⟩
  have hE := Ep.fin hP0
  have hMf := (hE.mp hP0).1
  obtain ⟨mb, mp⟩ := mbe_fin (sMcd (sOv a w) 0) (pAt σ 5) (cnt σ 5)
  obtain ⟨⟨e1, e2, e3, e4, e5, e6, e7, e8, e9, e10, e11, e12, e13, e14⟩, -⟩ := hE
  generalize mFin (sMcd (sOv a w) 0) (pAt σ 5) (cnt σ 5) = s at *
  obtain ⟨s1, s2, s3, s4, s5, s6, s7, s8, s9, s10, s11, s12, s13, s14, s15⟩ := sto_f' s k
  have z1 : (mSto s k).1 = a.1 := s15.trans e1
  obtain ⟨c1, c2, c3, c4, c5, c6, c7, c8, c9, c10, c11⟩ := cl z1
  have hsz : msz s = cnt σ 5 := (e4.trans m5).trans i4.1.symm
  have hmt : ∀ p : Int, 0 ≤ p → p < cnt σ 5 → mtx s p.toNat = pAt σ 5 p := fun p p0 p1 => by
    rw [e3, i4.2.1]
    have : mtx (sMcd (sOv a w) 0) = mtx σ := hx
    rw [this]
    exact (mT_in ⟨p0, by rw [← i4.1]; exact p1⟩).symm
  have hP := PcO.of (a := mSto s k) i4.2.2 (by rw [s6, e3]; exact hx) (by rw [s7, e4]; exact m5) (by rw [s8, e5]; exact m8) (by rw [s9, e6]; exact m9)
  have hz := i3.sz
  have h41 := i4.1
  have o5 : k.toNat ≠ 5 := by omega
  refine ⟨⟨c1 hWa, c2 (a9 (f5 i2)), hMf.sto k, ⟨?_, ?_, hP.2⟩, fun j hj => ?_, ?_⟩, hrf, ?_⟩
  · rw [c4, (ao 5 (Ne.symm o5)).2.1, (g2 5 (by decide)).2, s7, hsz]
  · rw [c5, (ao 5 (Ne.symm o5)).1, (g2 5 (by decide)).1, hP.1]
    exact i4.2.1
  · by_cases hjk : j = k.toNat
    · subst hjk
      have hkk : ((k.toNat : Nat) : Int) = k := by omega
      left
      have q1 : pAt (mSto s k) k.toNat = pAt σ 5 := by rw [c5, a1, t4]
      have q2 : cnt (mSto s k) k.toNat = cnt σ 5 := by rw [c4, a2, n4]
      refine ⟨by rw [c9, a5, hh], by rw [q2, s1, u1_s, hsz], by rw [q2, i4.1]; omega, fun p p0 p1 => ?_, fun q hq => ?_, by rw [c8, a4, bp, s5, u1_s, mp], by rw [q1, q2, c8, a4, bp], by rw [q1, q2]; exact hT, ?_, by rw [q1, q2]; exact h9⟩
      · rw [q2] at p1
        rw [q1, s2, hsz, hkk, cpy_i (by omega), show ((60 * k + p).toNat : Int) - 60 * k = p by omega, hmt p p0 p1]
      · obtain ⟨y1, y2⟩ := bb q hq
        obtain ⟨x1, x2⟩ := a3 q hq
        obtain ⟨w1, w2⟩ := mb q hq
        rw [c6, c7, x1, x2, y1, y2, s3, s4, cpy_i (by omega), cpy_i (by omega), q1, q2, show (((9 * k.toNat + q : Nat) : Int) - 9 * k).toNat = q by omega, w1, w2]
        exact ⟨rfl, rfl, rfl, rfl⟩
      · rw [q1, q2, i4.2.1, i4.1]
        exact i4.2.2.2.1
    · refine (i5 j hj).of2 ?_ ?_
      · obtain ⟨x1, x2, x3, x4, x5, x6⟩ := ao j hjk
        obtain ⟨y1, y2, y3, y4, y5, y6⟩ := g1 j hj
        rw [c9, c4, c5, c6, c7, c8]
        exact ⟨x6.trans y1, x2.trans y2, x1.trans y3, fun q _ => ⟨by rw [x3, y4], by rw [x4, y5]⟩, x5.trans y6⟩
      · have r1 : mlo s = mlo σ := e8.trans m3.1
        have r2 : msg s = msg σ := e7.trans m3.2.1
        have r3 : mfr s = mfr σ := e9.trans m3.2.2.1
        have r4 : mto s = mto σ := e10.trans m3.2.2.2.1
        have r5 : mpo s = mpo σ := e11.trans m3.2.2.2.2
        refine ⟨by rw [s1, u1_n _ _ hjk, r1], fun p p0 p1 => ?_, fun q hq => ?_, by rw [s5, u1_n _ _ hjk, r5]⟩
        · rw [s2, r2, hsz]
          exact cpy_o (by omega)
        · rw [s3, s4, r3, r4]
          exact ⟨cpy_o (by omega), cpy_o (by omega)⟩
  · rw [c10, c11, ac, ap', f2, f3, s13, s14]
    have r1 : mrf s = mrf σ := e12.trans m6
    have r2 : mpl s = mpl σ := e13.trans m7
    rw [r1, r2]
    exact ⟨i6, i7⟩
  · rw [c10, ac, f2]
-- copy
theorem cpyS_f (s : St) (i j : Int) : mlo (mCpy s i j) = u1 (mlo s) j.toNat (mlo s i.toNat) ∧ msg (mCpy s i j) = blk60 (msg s) i j 60 ∧ mfr (mCpy s i j) = blk9 (mfr s) i j 9 ∧ mto (mCpy s i j) = blk9 (mto s) i j 9 ∧ mpo (mCpy s i j) = u1 (mpo s) j.toNat (mpo s i.toNat) ∧ mtx (mCpy s i j) = mtx s ∧ msz (mCpy s i j) = msz s ∧ mpc (mCpy s i j) = mpc s ∧ mpm (mCpy s i j) = mpm s ∧ mbe (mCpy s i j) = mbe s ∧ men (mCpy s i j) = men s ∧ mpt (mCpy s i j) = mpt s ∧ mrf (mCpy s i j) = mrf s ∧ mpl (mCpy s i j) = mpl s ∧ (mCpy s i j).1 = s.1 := ⟨rfl, rfl, rfl, rfl, rfl, rfl, rfl, rfl, rfl, rfl, rfl, rfl, rfl, rfl, rfl⟩
theorem blk60_b {g : Nat → Int} {i j m lo hi : Int} (h1 : ∀ q, lo ≤ g q ∧ g q ≤ hi) (q : Nat) : lo ≤ blk60 g i j m q ∧ blk60 g i j m q ≤ hi := by
  unfold blk60
  split <;> exact h1 _
theorem blk9_b {g : Nat → Int} {i j m lo hi : Int} (h1 : ∀ q, lo ≤ g q ∧ g q ≤ hi) (q : Nat) : lo ≤ blk9 g i j m q ∧ blk9 g i j m q ≤ hi := by
  unfold blk9
  split <;> exact h1 _
theorem Mw.cpy {s : St} (h : Mw s) (i j : Int) : Mw (mCpy s i j) := by
  obtain ⟨e1, e2, e3, e4, e5, e6, e7, e8, e9, e10, e11, e12, e13, -, -⟩ := cpyS_f s i j
  have hsg : ∀ q, 0 ≤ blk60 (msg s) i j 60 q ∧ blk60 (msg s) i j 60 q ≤ 65535 := blk60_b (fun q => by have := h.sg q; omega)
  exact ⟨by rw [e7]; exact h.sz, by rw [e6]; exact h.tx, by rw [e9]; exact h.pm, by rw [e8]; exact h.pc, by rw [e2]; exact fun q => by have := hsg q; omega, by rw [e1]; exact u1_b h.lo (h.lo _), by rw [e3]; exact blk9_b h.fr, by rw [e4]; exact blk9_b h.to, by rw [e5]; exact u1_b h.po (h.po _), by rw [e10]; exact h.be, by rw [e11]; exact h.en, by rw [e12]; exact h.pt, by rw [e13]; exact h.rf⟩
theorem SlR.held {σ : St} {j : Nat} (h : SlR σ j) : (hld σ j = true ↔ 0 ≤ mlo σ j) ∧ (hld σ j = false ↔ mlo σ j < 0) := by
  rcases h with ⟨h1, h2, h3, h4, h5, h6, h7, h8, -⟩ | ⟨h1, h2⟩
  · have := h8.1
    rw [h1, h2]
    exact ⟨⟨(fun _ => this), (fun _ => rfl)⟩, ⟨(fun z => Bool.noConfusion z), (fun z => by omega)⟩⟩
  · rw [h1, h2]
    exact ⟨⟨(fun z => Bool.noConfusion z), (fun z => by omega)⟩, ⟨(fun _ => by omega), (fun _ => rfl)⟩⟩
theorem cntF_e {a b : St} (h : ∀ j : Nat, j < 4 → (hld a j = true ↔ 0 ≤ mlo b j)) : ∀ k : Int, k ≤ 4 → 0 ≤ k → ∀ x : Int, cntF a x k = mCntF b x k := by
  refine up (fun k hk ih h0 x => ?_)
  rw [cntF.eq_def, mCntF.eq_def]
  by_cases h4 : k < 4
  · rw [if_pos h4, if_pos h4, ih (k + 1) (by omega) (by omega) (by omega)]
    have := h k.toNat (by omega)
    by_cases hh : hld a k.toNat = true
    · rw [if_pos hh, if_pos (this.mp hh)]
    · rw [if_neg hh, if_neg (fun z => hh (this.mpr z))]
  · rw [if_neg h4, if_neg h4]
theorem Inv.copy {σ : St} (hI : Inv σ) {i j w : Int} (hi : 0 ≤ i ∧ i < 4) (hj : 0 ≤ j ∧ j < 4) : Inv (mCpy (sMcd (sOv (pCopy σ i j) w) 0) i j) ∧ cntF (pCopy σ i j) 0 0 = mCntF (mCpy (sMcd (sOv (pCopy σ i j) w) 0) i j) 0 0 ∧ rc (mCpy (sMcd (sOv (pCopy σ i j) w) 0) i j) = rc σ := by
  obtain ⟨i1, i2, i3, i4, i5, i6, i7⟩ := id hI
  unfold pCopy
  obtain ⟨⟨a1, a2, a3, a4, a5⟩, ao, ac, ap', am, a9⟩ := atk_at i1 j.toNat i.toNat
  have hWa : Wk (pATk σ j.toNat i.toNat) := Wk_atk i1
  generalize pATk σ j.toNat i.toNat = a at *
  obtain ⟨m1, m2, m3, m4, m5, m6, m7, m8, m9⟩ := md (a := a) (σ := σ) (by rw [am])
  have hx : mtx a = mtx σ := by unfold mtx; rw [am]
  obtain ⟨s1, s2, s3, s4, s5, s6, s7, s8, s9, s10, s11, s12, s13, s14, s15⟩ := cpyS_f (sMcd (sOv a w) 0) i j
  have hM : Mw (mCpy (sMcd (sOv a w) 0) i j) := Mw.cpy (s := sMcd (sOv a w) 0) (m1 i3) i j
  have r1 : mlo (sMcd (sOv a w) 0) = mlo σ := m3.1
  have r2 : msg (sMcd (sOv a w) 0) = msg σ := m3.2.1
  have r3 : mfr (sMcd (sOv a w) 0) = mfr σ := m3.2.2.1
  have r4 : mto (sMcd (sOv a w) 0) = mto σ := m3.2.2.2.1
  have r5 : mpo (sMcd (sOv a w) 0) = mpo σ := m3.2.2.2.2
  have r6 : mrf (sMcd (sOv a w) 0) = mrf σ := m6
  have r7 : mpl (sMcd (sOv a w) 0) = mpl σ := m7
  have r8 : mtx (sMcd (sOv a w) 0) = mtx σ := hx
  have r9 : msz (sMcd (sOv a w) 0) = msz σ := m5
  have r10 : mpc (sMcd (sOv a w) 0) = mpc σ := m8
  have r11 : mpm (sMcd (sOv a w) 0) = mpm σ := m9
  rw [r1] at s1
  rw [r2] at s2
  rw [r3] at s3
  rw [r4] at s4
  rw [r5] at s5
  rw [r6] at s13
  rw [r7] at s14
  have hP := PcO.of (a := mCpy (sMcd (sOv a w) 0) i j) i4.2.2 (s6.trans r8) (s7.trans r9) (s8.trans r10) (s9.trans r11)
  have s15 : (mCpy (sMcd (sOv a w) 0) i j).1 = a.1 := s15
  generalize mCpy (sMcd (sOv a w) 0) i j = b at *
  obtain ⟨c1, c2, c3, c4, c5, c6, c7, c8, c9, c10, c11⟩ := cl s15
  have hSl : ∀ q : Nat, q < 4 → SlR b q := fun q hq => by
    by_cases hqj : q = j.toNat
    · subst hqj
      have hjj : ((j.toNat : Nat) : Int) = j := by omega
      have q1 : pAt b j.toNat = pAt σ i.toNat := by rw [c5, a1]
      have q2 : cnt b j.toNat = cnt σ i.toNat := by rw [c4, a2]
      rcases i5 i.toNat (by omega) with ⟨h1, h2, h3, h4, h5, h6, h7, h8, h9, h10⟩ | ⟨h1, h2⟩
      · left
        refine ⟨by rw [c9, a5, h1], by rw [s1, u1_s, h2, q2], by rw [q2]; exact h3, fun p p0 p1 => ?_, fun k hk => ?_, by rw [c8, a4, s5, u1_s, h6], by rw [q1, q2, c8, a4, h7], by rw [q1, q2]; exact ⟨h8, h9, h10⟩⟩
        · rw [q2] at p1
          rw [q1, s2, h4 p p0 p1, hjj]
          unfold blk60
          rw [if_pos (by omega)]
          congr 1
          omega
        · obtain ⟨x1, x2, x3, x4⟩ := h5 k hk
          obtain ⟨y1, y2⟩ := a3 k hk
          have e1 : blk9 (mfr σ) i j 9 (9 * j.toNat + k) = mfr σ (9 * i.toNat + k) := by
            unfold blk9
            rw [if_pos (by omega)]
            congr 1
            omega
          have e2 : blk9 (mto σ) i j 9 (9 * j.toNat + k) = mto σ (9 * i.toNat + k) := by
            unfold blk9
            rw [if_pos (by omega)]
            congr 1
            omega
          rw [c6, c7, y1, y2, s3, s4, e1, e2, q1, q2]
          exact ⟨x1, x2, x3, x4⟩
      · exact Or.inr ⟨by rw [c9, a5, h1], by rw [s1, u1_s, h2]⟩
    · refine (i5 q hq).of2 ?_ ?_
      · obtain ⟨x1, x2, x3, x4, x5, x6⟩ := ao q hqj
        rw [c9, c4, c5, c6, c7, c8]
        exact ⟨x6, x2, x1, fun k _ => ⟨by rw [x3], by rw [x4]⟩, x5⟩
      · refine ⟨by rw [s1, u1_n _ _ hqj], fun p p0 p1 => ?_, fun k hk => ?_, by rw [s5, u1_n _ _ hqj]⟩
        · rw [s2]
          unfold blk60
          exact if_neg (by omega)
        · rw [s3, s4]
          unfold blk9
          exact ⟨if_neg (by omega), if_neg (by omega)⟩
  have o5 : (5 : Nat) ≠ j.toNat := by omega
  refine ⟨⟨c1 hWa, c2 (a9 i2), hM, ⟨?_, ?_, hP.2⟩, hSl, ?_⟩, ?_, ?_⟩
  · rw [c4, (ao 5 o5).2.1, s7, r9]
    exact i4.1
  · rw [c5, (ao 5 o5).1, hP.1]
    exact i4.2.1
  · rw [c10, c11, ac, ap', s13, s14]
    exact ⟨i6, i7⟩
  · exact cntF_e (fun q hq => by rw [← c9]; exact (hSl q hq).held.1) 0 (by omega) (by omega) 0
  · rw [c10, ac]
