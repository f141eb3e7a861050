/-! MATHS 6: the two states as one -/
def Esc (t : Int → Int) (n : Int) : Prop := ∀ p, t p = 37 → p + 2 < n ∧ hexc (t (p + 1)) = true ∧ hexc (t (p + 2)) = true
def Hx (f : Nat → Int) (b e : Int) : Prop := ∀ p : Int, b ≤ p → p < e → f p.toNat = 37 → p + 2 < e ∧ hexc (f (p + 1).toNat) = true ∧ hexc (f (p + 2).toNat) = true
theorem Hx.wr {f : Nat → Int} {b e : Int} (h : Hx f b e) : Wr f b e := fun p h1 h2 h3 => (h p h1 h2 h3).1
theorem hex37 {c : Int} (h : hexc c = true) : c ≠ 37 := fun z => by rw [z] at h; exact absurd h (by decide)
def Pcs (t : Int → Int) (pc : Nat → Int) : Nat → Int → Prop
  | 0, n => n = 0
  | m + 1, n => (pc m = 1 ∧ t (n - 1) ≠ 37 ∧ Pcs t pc m (n - 1)) ∨ (pc m = 3 ∧ t (n - 3) = 37 ∧ Pcs t pc m (n - 3))
theorem Pcs_le {t : Int → Int} {pc : Nat → Int} : ∀ (m : Nat) (n : Int), Pcs t pc m n → (m : Int) ≤ n := by
  intro m
  induction m with
  | zero => intro n h; have h : n = 0 := h; omega
  | succ m ih =>
    intro n h
    rcases h with ⟨-, -, h⟩ | ⟨-, -, h⟩
    · have := ih _ h; omega
    · have := ih _ h; omega
theorem Pcs_c {t t' : Int → Int} {pc pc' : Nat → Int} : ∀ (m : Nat) (n : Int), (∀ p, p < n → t p = t' p) → (∀ q, q < m → pc q = pc' q) → Pcs t pc m n → Pcs t' pc' m n := by
  intro m
  induction m with
  | zero => intro n _ _ h; exact h
  | succ m ih =>
    intro n h1 h2 h
    rcases h with ⟨a, b, h⟩ | ⟨a, b, h⟩
    · exact Or.inl ⟨by rw [← h2 m (by omega)]; exact a, by rw [← h1 _ (by omega)]; exact b, ih _ (fun p hp => h1 p (by omega)) (fun q hq => h2 q (by omega)) h⟩
    · exact Or.inr ⟨by rw [← h2 m (by omega)]; exact a, by rw [← h1 _ (by omega)]; exact b, ih _ (fun p hp => h1 p (by omega)) (fun q hq => h2 q (by omega)) h⟩
theorem Pcs_b {t : Int → Int} {pc : Nat → Int} (h0 : ∀ p, t p = 37 → 0 ≤ p ∧ hexc (t (p + 1)) = true ∧ hexc (t (p + 2)) = true) : ∀ (m : Nat) (n : Int), Pcs t pc m n → ∀ p, p < n → t p = 37 → p + 2 < n := by
  intro m
  induction m with
  | zero => intro n h p hp h3; have h : n = 0 := h; have := (h0 p h3).1; omega
  | succ m ih =>
    intro n h p hp h3
    rcases h with ⟨a, b, h⟩ | ⟨a, b, h⟩
    · by_cases h4 : p = n - 1
      · rw [h4] at h3; exact absurd h3 b
      · have := ih _ h p (by omega) h3; omega
    · have hb := h0 _ b
      by_cases h4 : p < n - 3
      · have := ih _ h p h4 h3; omega
      · by_cases h5 : p = n - 3 + 1
        · rw [h5] at h3; exact absurd h3 (hex37 hb.2.1)
        · by_cases h6 : p = n - 3 + 2
          · rw [h6] at h3; exact absurd h3 (hex37 hb.2.2)
          · omega
def PcO (s : St) : Prop := Pcs (mT s) (mpc s) (mpm s).toNat (msz s) ∧ Esc (mT s) (msz s) ∧ 0 ≤ mpm s ∧ 0 ≤ msz s
theorem PcO.le {s : St} (h : PcO s) : mpm s ≤ msz s := by have := Pcs_le _ _ h.1; have := h.2.2.1; omega
theorem m1_T {s : St} {f : Nat → Int} {b : Int} (hs : 0 ≤ msz s) : mT (m1 s f b) = ap (mT s) (msz s) (fun p => f p.toNat) b (b + mS f b) ∧ msz (m1 s f b) = msz s + mS f b ∧ mpm (m1 s f b) = mpm s + 1 ∧ mpc (m1 s f b) = u1 (mpc s) (mpm s).toNat (mS f b) := by
  have e1 : msz (m1 s f b) = msz s + mS f b := rfl
  have e2 : mpm (m1 s f b) = mpm s + 1 := rfl
  have e3 : ∀ q : Nat, mtx (m1 s f b) q = if msz s ≤ (q : Int) ∧ (q : Int) < msz s + mS f b then f (b + ((q : Int) - msz s)).toNat else mtx s q := fun q => rfl
  have hr := mS_r f b
  refine ⟨?_, e1, e2, rfl⟩
  funext p
  unfold mT ap
  dsimp only
  rw [e1]
  by_cases h5 : msz s ≤ p ∧ p < msz s + (b + mS f b - b)
  · rw [if_pos h5, if_pos (by omega), e3, if_pos (by omega)]
    congr 2
    omega
  · rw [if_neg h5]
    by_cases h6 : 0 ≤ p ∧ p < msz s
    · rw [if_pos h6, if_pos (by omega), e3, if_neg (by omega)]
    · rw [if_neg h6, if_neg (by omega)]
theorem mT_0 {s : St} {p : Int} (h : mT s p ≠ 0) : 0 ≤ p ∧ p < msz s := by
  by_cases h1 : 0 ≤ p ∧ p < msz s
  · exact h1
  · exact absurd (mT_out h1) h
theorem ap_i {t : Int → Int} {n : Int} {f : Int → Int} {b e p : Int} (h : n ≤ p ∧ p < n + (e - b)) : ap t n f b e p = f (b + (p - n)) := if_pos h
theorem ap_o {t : Int → Int} {n : Int} {f : Int → Int} {b e p : Int} (h : p < n ∨ n + (e - b) ≤ p) : ap t n f b e p = t p := by
  unfold ap
  rw [if_neg (by omega)]
theorem PcO.sm1 {s : St} {f : Nat → Int} {b e : Int} (h : PcO s) (hb : 0 ≤ b ∧ b < e) (hH : Hx f b e) : PcO (m1 s f b) := by
  obtain ⟨h1, h2, h3, h4⟩ := h
  obtain ⟨e1, e2, e3, e4⟩ := m1_T (s := s) (f := f) (b := b) h4
  have hr := mS_r f b
  have e5 : (mpm (m1 s f b)).toNat = (mpm s).toNat + 1 := by rw [e3]; omega
  have hn : ap (mT s) (msz s) (fun p => f p.toNat) b (b + mS f b) (msz s) = f b.toNat := by
    rw [ap_i (by omega)]
    congr 1
    omega
  have hp : Pcs (ap (mT s) (msz s) (fun p => f p.toNat) b (b + mS f b)) (u1 (mpc s) (mpm s).toNat (mS f b)) (mpm s).toNat (msz s) := Pcs_c _ _ (fun p hp => (ap_o (Or.inl hp)).symm) (fun q hq => (u1_n _ _ (by omega)).symm) h1
  refine ⟨?_, ?_, by rw [e3]; omega, by rw [e2]; omega⟩
  · rw [e1, e2, e4, e5]
    unfold Pcs
    rw [u1_s]
    by_cases h37 : f b.toNat = 37
    · right
      have hS : mS f b = 3 := if_pos h37
      rw [hS] at hp hn ⊢
      refine ⟨rfl, ?_, ?_⟩
      · rw [show msz s + 3 - 3 = msz s by omega, hn]; exact h37
      · rw [show msz s + 3 - 3 = msz s by omega]; exact hp
    · left
      have hS : mS f b = 1 := if_neg h37
      rw [hS] at hp hn ⊢
      refine ⟨rfl, ?_, ?_⟩
      · rw [show msz s + 1 - 1 = msz s by omega, hn]; exact h37
      · rw [show msz s + 1 - 1 = msz s by omega]; exact hp
  · rw [e1, e2]
    intro p hp37
    by_cases hin : msz s ≤ p ∧ p < msz s + (b + mS f b - b)
    · rw [ap_i hin] at hp37
      have hp37 : f (b + (p - msz s)).toNat = 37 := hp37
      by_cases h37 : f b.toNat = 37
      · have hS : mS f b = 3 := if_pos h37
        obtain ⟨x1, x2, x3⟩ := hH b (by omega) (by omega) h37
        rw [hS] at hin ⊢
        by_cases c0 : p = msz s
        · rw [c0, ap_i (by omega), ap_i (by omega)]
          refine ⟨by omega, ?_, ?_⟩
          · rw [show b + (msz s + 1 - msz s) = b + 1 by omega]; exact x2
          · rw [show b + (msz s + 2 - msz s) = b + 2 by omega]; exact x3
        · by_cases c1 : p = msz s + 1
          · rw [c1, show b + (msz s + 1 - msz s) = b + 1 by omega] at hp37
            exact absurd hp37 (hex37 x2)
          · have c2 : p = msz s + 2 := by omega
            rw [c2, show b + (msz s + 2 - msz s) = b + 2 by omega] at hp37
            exact absurd hp37 (hex37 x3)
      · have hS : mS f b = 1 := if_neg h37
        rw [hS] at hin
        rw [show b + (p - msz s) = b by omega] at hp37
        exact absurd hp37 h37
    · rw [ap_o (by omega)] at hp37
      obtain ⟨x1, x2, x3⟩ := h2 p hp37
      rw [ap_o (by omega), ap_o (by omega)]
      exact ⟨by omega, x2, x3⟩
theorem PcO.put {f : Nat → Int} {e : Int} : ∀ b : Int, b ≤ e → 0 ≤ b → ∀ s : St, PcO s → Hx f b e → PcO (mPut s f b e) := by
  refine up (fun b hb ih h0 s hs hH => ?_)
  rw [mPut.eq_def]
  by_cases h : b < e
  · rw [if_pos h]
    have hr := mS_r f b
    have hn : b + mS f b ≤ e := by
      unfold mS
      split
      · rename_i h37
        have := (hH b (by omega) h h37).1
        omega
      · omega
    exact ih (b + mS f b) (by omega) hn (by omega) _ (hs.sm1 ⟨h0, h⟩ hH) (fun p h1 h2 h3 => hH p (by omega) h2 h3)
  · rw [if_neg h]
    exact hs
theorem PcO.cd {s : St} (h : PcO s) (v : Int) : PcO (sMcd s v) := h
theorem PcO.wiped (s : St) : PcO (sMpm (sMsz s 0) 0) := by
  refine ⟨rfl, fun p hp => ?_, by show (0 : Int) ≤ 0; omega, by show (0 : Int) ≤ 0; omega⟩
  have h0 : mT (sMpm (sMsz s 0) 0) p = 0 := mT_out (fun z => by have z : 0 ≤ p ∧ p < 0 := z; omega)
  rw [h0] at hp
  exact absurd hp (by decide)
/-- the last piece: its size, and what stays -/
theorem PcO.last {s : St} (h : PcO s) (hm : mpm s ≠ 0) : ((mpc s (mpm s - 1).toNat = 1 ∧ mT s (msz s - 3) ≠ 37) ∨ (mpc s (mpm s - 1).toNat = 3 ∧ mT s (msz s - 3) = 37)) ∧ mpc s (mpm s - 1).toNat ≤ msz s := by
  obtain ⟨h1, h2, h3, h4⟩ := h
  have hE : ∀ p, mT s p = 37 → 0 ≤ p ∧ hexc (mT s (p + 1)) = true ∧ hexc (mT s (p + 2)) = true := fun p hp => ⟨(mT_0 (by rw [hp]; decide)).1, (h2 p hp).2⟩
  rw [show (mpm s).toNat = (mpm s - 1).toNat + 1 by omega] at h1
  rcases h1 with ⟨a, b, c⟩ | ⟨a, b, c⟩
  · have hl := Pcs_le _ _ c
    refine ⟨Or.inl ⟨a, fun z => ?_⟩, by omega⟩
    have := Pcs_b hE _ _ c (msz s - 3) (by omega) z
    omega
  · have hl := Pcs_le _ _ c
    exact ⟨Or.inr ⟨a, b⟩, by omega⟩
theorem PcO.drop {s : St} (h : PcO s) (hm : mpm s ≠ 0) {z : Int} (hz : z = msz s - mpc s (mpm s - 1).toNat) : PcO (sMsz (sMpm s (mpm s - 1)) z) ∧ ∀ p, mT (sMsz (sMpm s (mpm s - 1)) z) p = if p < z then mT s p else 0 := by
  have hl := h.last hm
  obtain ⟨h1, h2, h3, h4⟩ := h
  have hE : ∀ p, mT s p = 37 → 0 ≤ p ∧ hexc (mT s (p + 1)) = true ∧ hexc (mT s (p + 2)) = true := fun p hp => ⟨(mT_0 (by rw [hp]; decide)).1, (h2 p hp).2⟩
  have hzs : z ≤ msz s := by rcases hl.1 with x | x <;> omega
  have hT : ∀ p, mT (sMsz (sMpm s (mpm s - 1)) z) p = if p < z then mT s p else 0 := fun p => by
    show (if 0 ≤ p ∧ p < z then mtx s p.toNat else 0) = if p < z then (if 0 ≤ p ∧ p < msz s then mtx s p.toNat else 0) else 0
    by_cases c1 : p < z
    · rw [if_pos c1]
      by_cases c2 : 0 ≤ p
      · rw [if_pos ⟨c2, c1⟩, if_pos ⟨c2, by omega⟩]
      · rw [if_neg (fun x => c2 x.1), if_neg (fun x => c2 x.1)]
    · rw [if_neg c1, if_neg (fun x => c1 x.2)]
  have hc : Pcs (mT s) (mpc s) (mpm s - 1).toNat z := by
    rw [show (mpm s).toNat = (mpm s - 1).toNat + 1 by omega] at h1
    rcases h1 with ⟨a, b, c⟩ | ⟨a, b, c⟩
    · rw [hz, a]; exact c
    · rw [hz, a]; exact c
  refine ⟨⟨?_, ?_, by show 0 ≤ mpm s - 1; omega, by show 0 ≤ z; omega⟩, hT⟩
  · exact Pcs_c _ _ (fun p hp => by have hp : p < z := hp; rw [hT, if_pos hp]) (fun _ _ => rfl) hc
  · intro p hp
    rw [hT] at hp
    by_cases c1 : p < z
    · rw [if_pos c1] at hp
      have hb := Pcs_b hE _ _ hc p c1 hp
      have hx := hE p hp
      rw [hT, hT, if_pos (by omega), if_pos (by omega)]
      exact ⟨hb, hx.2⟩
    · rw [if_neg c1] at hp
      exact absurd hp (by decide)
-- the relation
def SlR (σ : St) (j : Nat) : Prop := (hld σ j = true ∧ mlo σ j = cnt σ j ∧ cnt σ j ≤ 60 ∧ (∀ p : Int, 0 ≤ p → p < cnt σ j → pAt σ j p = msg σ (60 * (j : Int) + p).toNat) ∧ (∀ k : Nat, k < 9 → bg σ j k = mfr σ (9 * j + k) ∧ en σ j k = mto σ (9 * j + k) ∧ bg σ j k = Cb (pAt σ j) (cnt σ j) k ∧ en σ j k = Ce (pAt σ j) (cnt σ j) k) ∧ pt σ j = mpo σ j ∧ pt σ j = Cp (pAt σ j) (cnt σ j) ∧ Tz (pAt σ j) (cnt σ j) ∧ Esc (pAt σ j) (cnt σ j) ∧ mPl (pAt σ j) (cnt σ j) = -1) ∨ (hld σ j = false ∧ mlo σ j = -1)
def TxR (σ : St) : Prop := cnt σ 5 = msz σ ∧ pAt σ 5 = mT σ ∧ PcO σ
def Inv (σ : St) : Prop := Wk σ ∧ R9 σ ∧ Mw σ ∧ TxR σ ∧ (∀ j : Nat, j < 4 → SlR σ j) ∧ (rc σ = mrf σ ∧ (rc σ ≠ 0 → rp σ = mpl σ))
def Cs (σ a : St) : Prop := ∀ j : Nat, j < 4 → hld a j = hld σ j ∧ cnt a j = cnt σ j ∧ pAt a j = pAt σ j ∧ bg a j = bg σ j ∧ en a j = en σ j ∧ pt a j = pt σ j
def Ms (σ a : St) : Prop := mlo a = mlo σ ∧ msg a = msg σ ∧ mfr a = mfr σ ∧ mto a = mto σ ∧ mpo a = mpo σ
theorem md {a σ : St} (h : a.2.1 = σ.2.1) : (Mw σ → Mw a) ∧ (PcO σ → PcO a) ∧ Ms σ a ∧ (mT a = mT σ ∧ msz a = msz σ ∧ mrf a = mrf σ ∧ mpl a = mpl σ ∧ mpc a = mpc σ ∧ mpm a = mpm σ) := by
  obtain ⟨x, y, o⟩ := a
  obtain ⟨x', y', o'⟩ := σ
  have h : y = y' := h
  subst h
  exact ⟨id, id, ⟨rfl, rfl, rfl, rfl, rfl⟩, rfl, rfl, rfl, rfl, rfl, rfl⟩
theorem cl {a σ : St} (h : a.1 = σ.1) : (Wk σ → Wk a) ∧ (R9 σ → R9 a) ∧ Cs σ a ∧ (cnt a = cnt σ ∧ (∀ i, pAt a i = pAt σ i) ∧ bg a = bg σ ∧ en a = en σ ∧ pt a = pt σ ∧ hld a = hld σ ∧ rc a = rc σ ∧ rp a = rp σ) := by
  obtain ⟨x, y, o⟩ := a
  obtain ⟨x', y', o'⟩ := σ
  have h : x = x' := h
  subst h
  exact ⟨id, id, fun _ _ => ⟨rfl, rfl, rfl, rfl, rfl, rfl⟩, rfl, fun _ => rfl, rfl, rfl, rfl, rfl, rfl, rfl⟩
theorem Cs.trans {a b c : St} (h : Cs a b) (g : Cs b c) : Cs a c := fun j hj => by
  obtain ⟨h1, h2, h3, h4, h5, h6⟩ := h j hj
  obtain ⟨g1, g2, g3, g4, g5, g6⟩ := g j hj
  exact ⟨g1.trans h1, g2.trans h2, g3.trans h3, g4.trans h4, g5.trans h5, g6.trans h6⟩
theorem SlR.of {σ a : St} {j : Nat} (h : SlR σ j) (hj : j < 4) (hc : Cs σ a) (hm : Ms σ a) : SlR a j := by
  obtain ⟨c1, c2, c3, c4, c5, c6⟩ := hc j hj
  obtain ⟨m1, m2, m3, m4, m5⟩ := hm
  unfold SlR
  rw [c1, c2, c3, c4, c5, c6, m1, m2, m3, m4, m5]
  exact h
/-- a call that leaves the slots alone: a behind the class's method, b behind the model's -/
theorem Inv.step {σ a b : St} (hI : Inv σ) (ha : a.2.1 = σ.2.1) (hb : b.1 = a.1) (hW : Wk a) (h9 : R9 a) (hC : Cs σ a) (hM : Mw b) (hS : Ms σ b) (ht : cnt a 5 = msz b ∧ pAt a 5 = mT b ∧ PcO b) (hr : rc a = mrf b ∧ (rc a ≠ 0 → rp a = mpl b)) : Inv b := by
  obtain ⟨k1, k2, k3, k4, k5, -, -, -, -, k6, k7⟩ := cl hb
  refine ⟨k1 hW, k2 h9, hM, ⟨by rw [k4]; exact ht.1, by rw [k5]; exact ht.2.1, ht.2.2⟩, fun j hj => (hI.2.2.2.2.1 j hj).of hj (hC.trans k3) hS, ?_⟩
  rw [k6, k7]
  exact hr
theorem Inv.cd {σ : St} (h : Inv σ) (v : Int) : Inv (sMcd σ v) := h
theorem Inv.ov {σ : St} (h : Inv σ) (v : Int) : Inv (sOv σ v) := h
-- what the class's texts change
theorem same_cs {σ a : St} (h : Same σ a) (hp : ∀ j, j < 4 → pAt a j = pAt σ j ∧ cnt a j = cnt σ j) : Cs σ a := fun j hj => by
  obtain ⟨h1, h2, h3, h4, -⟩ := h
  exact ⟨by rw [h4], (hp j hj).2, (hp j hj).1, by rw [h1], by rw [h2], by rw [h3]⟩
/-- a text was put behind the text -/
theorem Inv.put {σ a : St} {f : Nat → Int} {b e w : Int} (hI : Inv σ) (hS : Same σ a) (hW : Wk a) (hp : ∀ j, j < 4 → pAt a j = pAt σ j ∧ cnt a j = cnt σ j) (hf : ∀ j, 0 ≤ f j ∧ f j < 65536) (hb : 0 ≤ b ∧ b ≤ e) (hH : Hx f b e) (hn : cnt σ 5 + (e - b) ≤ 60) (h1 : pAt a 5 = ap (pAt σ 5) (cnt σ 5) (fun p => f p.toNat) b e) (h2 : cnt a 5 = cnt σ 5 + (e - b)) : Inv (mPut (sMcd (sOv a w) 0) f b e) ∧ msz (mPut (sMcd (sOv a w) 0) f b e) = cnt a 5 := by
  obtain ⟨i1, i2, i3, ⟨t1, t2, t3⟩, i5, i6, i7⟩ := hI
  have hI : Inv σ := ⟨i1, i2, i3, ⟨t1, t2, t3⟩, i5, i6, i7⟩
  have h21 : a.2.1 = σ.2.1 := by rw [hS.2.2.2.2.2.2.2]
  obtain ⟨m1, m2, m3, m4, m5, m6, m7, m8, m9⟩ := md h21
  have hs := i3.sz
  have hle := t3.le
  have hM0 : Mw (sMcd (sOv a w) 0) := m1 i3
  have e1 : msz (sMcd (sOv a w) 0) = msz σ := m5
  have e2 : mpm (sMcd (sOv a w) 0) = mpm σ := m9
  have e3 : mT (sMcd (sOv a w) 0) = mT σ := m4
  have hP0 : PcO (sMcd (sOv a w) 0) := m2 t3
  obtain ⟨q1, q2, q3, q4, q5, q6, q7, -, -, -, q8, q9, -⟩ := (mPut_f (f := f) (e := e) b hb.2 hb.1 (sMcd (sOv a w) 0) hH.wr (by omega)).1
  have q := mput_at (s := sMcd (sOv a w) 0) (f := f) hb hH.wr (by omega)
  have qa : mT (mPut (sMcd (sOv a w) 0) f b e) = _ := congrArg Prod.fst q
  have qb : msz (mPut (sMcd (sOv a w) 0) f b e) = _ := congrArg Prod.snd q
  have qa : mT (mPut (sMcd (sOv a w) 0) f b e) = ap (mT (sMcd (sOv a w) 0)) (msz (sMcd (sOv a w) 0)) (fun p => f p.toNat) b e := qa
  have qb : msz (mPut (sMcd (sOv a w) 0) f b e) = msz (sMcd (sOv a w) 0) + (e - b) := qb
  have hn2 : msz (mPut (sMcd (sOv a w) 0) f b e) = cnt a 5 := by rw [qb, e1, h2, t1]
  refine ⟨hI.step h21 q1 hW (hS.R9 i2) (same_cs hS hp) (hM0.put hf hb hH.wr (by omega) (by omega)) ⟨q4.trans m3.1, q3.trans m3.2.1, q5.trans m3.2.2.1, q6.trans m3.2.2.2.1, q7.trans m3.2.2.2.2⟩ ⟨hn2.symm, ?_, PcO.put b hb.2 hb.1 _ hP0 hH⟩ ?_, hn2⟩
  · rw [h1, qa, e3, e1, t1, t2]
  · rw [q8, q9, hS.2.2.2.2.2.1, hS.2.2.2.2.2.2.1]
    have e4 : mrf (sMcd (sOv a w) 0) = mrf σ := m6
    have e5 : mpl (sMcd (sOv a w) 0) = mpl σ := m7
    rw [e4, e5]
    exact ⟨i6, i7⟩
