/-! MATHS 1: hosts and ports, asked two ways -/
theorem nxt_t {P : Int → Bool} {b e : Int} (h : b < e) (hp : P b = true) : nxt P b e = b := by rw [nxt.eq_def, if_pos h, if_pos hp]
theorem nxt_f {P : Int → Bool} {b e : Int} (h : b < e) (hp : P b = false) : nxt P b e = nxt P (b + 1) e := by rw [nxt.eq_def, if_pos h, if_neg (by rw [hp]; decide)]
theorem nxt_e {P : Int → Bool} {b e : Int} (h : e ≤ b) : nxt P b e = e := by rw [nxt.eq_def, if_neg (by omega)]
theorem nxt_at {P : Int → Bool} {e : Int} : ∀ b : Int, b ≤ e → nxt P b e < e → P (nxt P b e) = true := by
  refine up (fun b hb ih h => ?_)
  by_cases h1 : b < e
  · cases hp : P b
    · rw [nxt_f h1 hp] at h ⊢
      exact ih (b + 1) (by omega) (by omega) h
    · rw [nxt_t h1 hp]
      exact hp
  · rw [nxt_e (by omega)] at h
    omega
theorem nxt_no {P : Int → Bool} {e : Int} : ∀ b : Int, b ≤ e → ∀ p, b ≤ p → p < nxt P b e → P p = false := by
  refine up (fun b hb ih p h1 h2 => ?_)
  by_cases h3 : b < e
  · cases hp : P b
    · rw [nxt_f h3 hp] at h2
      by_cases h4 : p = b
      · rw [h4]; exact hp
      · exact ih (b + 1) (by omega) (by omega) p (by omega) h2
    · rw [nxt_t h3 hp] at h2
      omega
  · rw [nxt_e (by omega)] at h2
    omega
def nst (m v c : Int) : Int := if v = -1 then -1 else if gDig c = true then (if m < 10 * v + (c - 48) then -1 else 10 * v + (c - 48)) else -1
theorem gNum_s {t : Int → Int} (ht : ∀ p, 0 ≤ t p ∧ t p < 65536) {m : Int} {p : Int} : ∀ q : Int, q ≤ p → ∀ a : Int, 0 ≤ a → gNumF t (p + 1) m a q = nst m (gNumF t p m a q) (t p) := by
  refine up (fun q hq ih a ha => ?_)
  by_cases h : q < p
  · rw [gNumF.eq_def t (p + 1), if_pos (by omega), gNumF.eq_def t p, if_pos h]
    cases hd : gDig (t q)
    · rfl
    · have hr := gDig_r hd
      rw [if_pos rfl, if_pos rfl]
      split
      · rfl
      · exact ih (q + 1) (by omega) (by omega) _ (by omega)
  · have e : q = p := by omega
    subst e
    rw [gNumF.eq_def t q, if_neg (by omega), gNumF.eq_def t (q + 1), if_pos (by omega)]
    unfold nst
    have ha1 : ¬ a = -1 := by omega
    rw [if_neg ha1]
    cases hd : gDig (t q)
    · rfl
    · rw [if_pos rfl, if_pos rfl]
      split
      · rfl
      · rw [gNumF.eq_def, if_neg (by omega)]
theorem gNum_0 {t : Int → Int} {m p : Int} : gNumF t p m 0 p = 0 := by rw [gNumF.eq_def, if_neg (by omega)]
theorem gDig_46 : gDig 46 = false := by decide
theorem fou_e {t : Int → Int} (ht : ∀ p, 0 ≤ t p ∧ t p < 65536) {e : Int} : ∀ p : Int, p ≤ e + 1 → ∀ num k : Int, num ≤ p → (gNumF t p 255 0 num ≠ -1 → (p ≤ e ∨ num = p) → gFouF t e num k p = mNumF t e k (gNumF t p 255 0 num) p) ∧ (gNumF t p 255 0 num = -1 → p ≤ e → gFouF t e num k p = false) := by
  refine up (fun p hp ih num k hn => ?_)
  have hv := gNumF_rg ht (most := 255) (by omega) p num (by omega) 0 (by omega)
  by_cases h1 : p ≤ e
  · by_cases h2 : p = e ∨ t p = 46
    · have hg : gNum t num p 255 = if p ≤ num then -1 else gNumF t p 255 0 num := rfl
      constructor
      · intro hv1 _
        have hnd : ¬ (p < e ∧ gDig (t p) = true) := by
          rintro ⟨z1, z2⟩
          rcases h2 with h2 | h2
          · omega
          · rw [h2] at z2
            exact absurd z2 (by decide)
        rw [gFouF.eq_def, if_pos h1, if_pos h2, mNumF.eq_def, if_pos h1, if_neg hnd]
        by_cases h3 : p ≤ num
        · have e1 : num = p := by omega
          subst e1
          rw [hg, if_pos h3, if_pos (by decide), if_pos (Or.inr gNum_0)]
        · rw [hg, if_neg h3]
          by_cases h4 : gNumF t p 255 0 num = 0
          · rw [if_pos (show gNumF t p 255 0 num < 1 by omega), if_pos (Or.inr h4)]
          · have hnb : ¬ ((p < e ∧ t p ≠ 46) ∨ gNumF t p 255 0 num = 0) := by
              rintro (⟨z1, z2⟩ | z)
              · rcases h2 with h2 | h2
                · omega
                · exact z2 h2
              · exact h4 z
            rw [if_neg (show ¬ gNumF t p 255 0 num < 1 by omega), if_neg hnb]
            have := (ih (p + 1) (by omega) (by omega) (p + 1) (k + 1) (by omega)).1 (by rw [gNum_0]; decide) (Or.inr rfl)
            rw [this, gNum_0]
      · intro hv1 _
        rw [gFouF.eq_def, if_pos h1, if_pos h2, if_pos]
        rw [hg]
        split <;> omega
    · have hs := gNum_s ht (m := 255) num hn 0 (by omega)
      constructor
      · intro hv1 _
        rw [gFouF.eq_def, if_pos h1, if_neg h2, mNumF.eq_def, if_pos h1]
        cases hd : gDig (t p)
        · have hs1 : gNumF t (p + 1) 255 0 num = -1 := by
            rw [hs]
            unfold nst
            rw [if_neg hv1, hd]
            rfl
          rw [if_neg (by rintro ⟨-, z⟩; exact absurd z (by decide)), if_pos (Or.inl ⟨by omega, fun z => h2 (Or.inr z)⟩)]
          exact (ih (p + 1) (by omega) (by omega) num k (by omega)).2 hs1 (by omega)
        · rw [if_pos ⟨by omega, rfl⟩]
          by_cases h5 : 255 < 10 * gNumF t p 255 0 num + t p - 48
          · rw [if_pos h5]
            have hs1 : gNumF t (p + 1) 255 0 num = -1 := by
              rw [hs]
              unfold nst
              rw [if_neg hv1, hd, if_pos rfl, if_pos (by omega)]
            exact (ih (p + 1) (by omega) (by omega) num k (by omega)).2 hs1 (by omega)
          · rw [if_neg h5]
            have hs1 : gNumF t (p + 1) 255 0 num = 10 * gNumF t p 255 0 num + t p - 48 := by
              rw [hs]
              unfold nst
              rw [if_neg hv1, hd, if_pos rfl, if_neg (by omega)]
              omega
            have hr := gDig_r hd
            have := (ih (p + 1) (by omega) (by omega) num k (by omega)).1 (by omega) (Or.inl (by omega))
            rw [this, hs1]
      · intro hv1 _
        rw [gFouF.eq_def, if_pos h1, if_neg h2]
        have hs1 : gNumF t (p + 1) 255 0 num = -1 := by
          rw [hs, hv1]
          rfl
        exact (ih (p + 1) (by omega) (by omega) num k (by omega)).2 hs1 (by omega)
  · refine ⟨fun hv1 h9 => ?_, fun _ z => absurd z h1⟩
    rw [gFouF.eq_def, if_neg h1, mNumF.eq_def, if_neg h1]
theorem gFou_e {t : Int → Int} (ht : ∀ p, 0 ≤ t p ∧ t p < 65536) {b e : Int} (hb : b ≤ e + 1) : gFou t b e = mNumF t e 0 0 b := by
  have := (fou_e ht b hb b 0 (by omega)).1 (by rw [gNum_0]; decide) (Or.inr rfl)
  unfold gFou
  rw [this, gNum_0]
def gOk (c : Int) : Bool := gLet c || gDig c || decide (c = 45)
theorem gOk_iff (c : Int) : (gLet c = true ∨ gDig c = true ∨ c = 45) ↔ gOk c = true := by
  unfold gOk
  rw [Bool.or_eq_true, Bool.or_eq_true, decide_eq_true_eq, or_assoc]
theorem gLab_s {t : Int → Int} {p : Int} : ∀ q : Int, q ≤ p → gLabF t q (p + 1) = (gLabF t q p && gOk (t p)) := by
  refine up (fun q hq ih => ?_)
  by_cases h : q < p
  · rw [gLabF.eq_def t q (p + 1), if_pos (by omega), gLabF.eq_def t q p, if_pos h]
    by_cases h2 : gLet (t q) = true ∨ gDig (t q) = true ∨ t q = 45
    · rw [if_pos h2, if_pos h2]
      exact ih (q + 1) (by omega) (by omega)
    · rw [if_neg h2, if_neg h2]
      rfl
  · have e : q = p := by omega
    subst e
    rw [gLabF.eq_def t q (q + 1), if_pos (by omega), gLabF.eq_def t q q, if_neg (show ¬ q < q by omega), Bool.true_and]
    by_cases h2 : gLet (t q) = true ∨ gDig (t q) = true ∨ t q = 45
    · rw [if_pos h2, gLabF.eq_def, if_neg (by omega), (gOk_iff _).mp h2]
    · rw [if_neg h2]
      cases h3 : gOk (t q)
      · rfl
      · exact absurd ((gOk_iff _).mpr h3) h2
theorem gLab_0 {t : Int → Int} {p : Int} : gLabF t p p = true := by rw [gLabF.eq_def, if_neg (by omega)]
theorem nam_e {t : Int → Int} {s b : Int} : ∀ p : Int, p ≤ s → ∀ lab last many : Int, b ≤ lab → lab ≤ p → 0 ≤ many → (many = 0 ↔ lab = b) → (gLabF t lab p = true → gNamE t b (gNamF t s lab last p) = mLabF t s lab many p) ∧ (gLabF t lab p = false → gNamE t b (gNamF t s lab last p) = false) := by
  refine up (fun p hp ih lab last many hbl hlp hm hmb => ?_)
  by_cases h2 : p = s ∨ t p = 46
  · constructor
    · intro hl
      have hnd : ¬ (p < s ∧ t p ≠ 46) := by
        rintro ⟨z1, z2⟩
        rcases h2 with h2 | h2
        · omega
        · exact z2 h2
      rw [gNamF.eq_def, if_pos hp, if_pos h2, mLabF.eq_def, if_pos hp, if_neg hnd]
      by_cases h3 : p = lab ∨ t lab = 45 ∨ t (p - 1) = 45
      · rw [if_pos h3]
        have : gLab t lab p = false := by
          unfold gLab
          have h9 : p ≤ lab ∨ t lab = 45 ∨ t (p - 1) = 45 := by
            rcases h3 with h3 | h3
            · exact Or.inl (by omega)
            · exact Or.inr h3
          rw [if_pos h9]
        rw [this]
        rfl
      · rw [if_neg h3]
        have hg : gLab t lab p = true := by
          have h9 : ¬ (p ≤ lab ∨ t lab = 45 ∨ t (p - 1) = 45) := by
            rintro (z | z)
            · exact h3 (Or.inl (by omega))
            · exact h3 (Or.inr z)
          unfold gLab
          rw [if_neg h9, hl]
        rw [hg, if_pos rfl]
        by_cases h4 : p = s
        · rw [gNamF.eq_def, if_neg (by omega)]
          show decide (lab = b ∨ gLet (t lab) = true) = _
          by_cases h5 : p = s ∧ 1 < many + 1 ∧ gLet (t lab) = false
          · rw [if_pos h5]
            apply decide_eq_false
            rintro (z | z)
            · have := hmb.mpr z
              omega
            · rw [h5.2.2] at z
              exact absurd z (by decide)
          · rw [if_neg h5, mLabF.eq_def, if_neg (by omega)]
            apply decide_eq_true
            by_cases h6 : lab = b
            · exact Or.inl h6
            · right
              cases hx : gLet (t lab)
              · exact absurd ⟨h4, by have : many ≠ 0 := fun z => h6 (hmb.mp z); omega, hx⟩ h5
              · rfl
        · rw [if_neg (by rintro ⟨z, -⟩; exact h4 z)]
          exact (ih (p + 1) (by omega) (by omega) (p + 1) lab (many + 1) (by omega) (by omega) (by omega) (by constructor <;> intro z <;> omega)).1 gLab_0
    · intro hl
      rw [gNamF.eq_def, if_pos hp, if_pos h2, if_neg]
      · rfl
      · unfold gLab
        split
        · decide
        · rw [hl]; decide
  · have hs := gLab_s (t := t) lab hlp
    have hlt : p < s := by omega
    have h46 : t p ≠ 46 := fun z => h2 (Or.inr z)
    constructor
    · intro hl
      rw [gNamF.eq_def, if_pos hp, if_neg h2, mLabF.eq_def, if_pos hp, if_pos ⟨hlt, h46⟩]
      by_cases h3 : gLet (t p) = true ∨ gDig (t p) = true ∨ t p = 45
      · rw [if_pos h3]
        exact (ih (p + 1) (by omega) (by omega) lab last many hbl (by omega) hm hmb).1 (by rw [hs, hl, (gOk_iff _).mp h3]; rfl)
      · rw [if_neg h3]
        exact (ih (p + 1) (by omega) (by omega) lab last many hbl (by omega) hm hmb).2 (by
          rw [hs]
          cases h5 : gOk (t p)
          · rw [Bool.and_false]
          · exact absurd ((gOk_iff _).mpr h5) h3)
    · intro hl
      rw [gNamF.eq_def, if_pos hp, if_neg h2]
      exact (ih (p + 1) (by omega) (by omega) lab last many hbl (by omega) hm hmb).2 (by rw [hs, hl]; rfl)
theorem gStop_r (t : Int → Int) {b e : Int} (h : b ≤ e) : b ≤ gStop t b e ∧ gStop t b e ≤ e := by
  unfold gStop
  split <;> omega
theorem gNam_e {t : Int → Int} {b e : Int} (hb : b ≤ e) : gNam t b e = mLabF t (gStop t b e) b 0 b := by
  unfold gNam
  exact (nam_e b (gStop_r t hb).1 b b 0 (by omega) (by omega) (by omega) (by constructor <;> intro _ <;> rfl)).1 gLab_0
theorem srv_e {t : Int → Int} (ht : ∀ p, 0 ≤ t p ∧ t p < 65536) {b e : Int} (hb : b ≤ e) : (hIs t b e = true ∧ gPrt t (hCol t b e + 1) e = true) ↔ mAutB t b e = true := by
  have hr := h_r t hb
  have e1 : hIs t b e = (mNumF t (hCol t b e) 0 0 (hHost t b e) || mLabF t (gStop t (hHost t b e) (hCol t b e)) (hHost t b e) 0 (hHost t b e)) := by
    unfold hIs
    rw [gNam_e (by omega), gFou_e ht (by omega), Bool.or_comm]
  have e2 : gPrt t (hCol t b e + 1) e = decide (mPort t b e ≠ -1) := by
    unfold gPrt gNum mPort
    by_cases h : e ≤ hCol t b e + 1
    · rw [decide_eq_true (Or.inl h)]
      rw [gNumF.eq_def, if_neg (by omega)]
      rfl
    · rw [if_neg h]
      apply decide_eq_decide.mpr
      constructor
      · rintro (z | z)
        · omega
        · exact z
      · exact Or.inr
  rw [e1, e2]
  unfold mAutB
  rw [Bool.and_eq_true]
