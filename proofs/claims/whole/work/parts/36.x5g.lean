/-! The model: typing, adding, storing -/
/-- what put leaves as it was -/
def Pq (σ s : St) : Prop := s.1 = σ.1 ∧ s.2.2 = σ.2.2 ∧ msg s = msg σ ∧ mlo s = mlo σ ∧ mfr s = mfr σ ∧ mto s = mto σ ∧ mpo s = mpo σ ∧ mbe s = mbe σ ∧ men s = men σ ∧ mpt s = mpt σ ∧ mrf s = mrf σ ∧ mpl s = mpl σ ∧ mcd s = mcd σ
theorem Pq.rfl' {σ : St} : Pq σ σ := ⟨rfl, rfl, rfl, rfl, rfl, rfl, rfl, rfl, rfl, rfl, rfl, rfl, rfl⟩
theorem Pq.trans {a b c : St} (h : Pq a b) (g : Pq b c) : Pq a c := by
  obtain ⟨h1, h2, h3, h4, h5, h6, h7, h8, h9, h10, h11, h12, h13⟩ := h
  obtain ⟨g1, g2, g3, g4, g5, g6, g7, g8, g9, g10, g11, g12, g13⟩ := g
  exact ⟨g1.trans h1, g2.trans h2, g3.trans h3, g4.trans h4, g5.trans h5, g6.trans h6, g7.trans h7, g8.trans h8, g9.trans h9, g10.trans h10, g11.trans h11, g12.trans h12, g13.trans h13⟩
theorem Pq.m1 (σ : St) (f : Nat → Int) (k : Int) : Pq σ (m1 σ f k) := ⟨rfl, rfl, rfl, rfl, rfl, rfl, rfl, rfl, rfl, rfl, rfl, rfl, rfl⟩
/-- a row of signs whose escapes end ahead of e -/
def Wr (f : Nat → Int) (b e : Int) : Prop := ∀ p : Int, b ≤ p → p < e → f p.toNat = 37 → p + 2 < e
theorem mPut_f {f : Nat → Int} {e : Int} : ∀ b : Int, b ≤ e → 0 ≤ b → ∀ σ : St, Wr f b e → 0 ≤ msz σ → Pq σ (mPut σ f b e) ∧ msz (mPut σ f b e) = msz σ + (e - b) ∧ (mpm σ ≤ mpm (mPut σ f b e) ∧ mpm (mPut σ f b e) ≤ mpm σ + (e - b)) ∧ ∀ q : Nat, mtx (mPut σ f b e) q = if msz σ ≤ (q : Int) ∧ (q : Int) < msz σ + (e - b) then f (b + ((q : Int) - msz σ)).toNat else mtx σ q := by
  refine up (fun b hb ih h0 σ hW hs => ?_)
  rw [mPut.eq_def]
  split
  · rename_i hlt
    have hn : b + mS f b ≤ e := by
      unfold mS
      split
      · rename_i h37
        have := hW b (by omega) hlt h37
        omega
      · omega
    have hr := mS_r f b
    have e1 : msz (m1 σ f b) = msz σ + mS f b := rfl
    have e2 : mpm (m1 σ f b) = mpm σ + 1 := rfl
    have e3 : ∀ q : Nat, mtx (m1 σ f b) q = if msz σ ≤ (q : Int) ∧ (q : Int) < msz σ + mS f b then f (b + ((q : Int) - msz σ)).toNat else mtx σ q := fun q => rfl
    obtain ⟨i1, i2, i3, i4⟩ := ih (b + mS f b) (by omega) hn (by omega) (m1 σ f b) (fun p h1 h2 h3 => hW p (by omega) h2 h3) (by rw [e1]; omega)
    refine ⟨(Pq.m1 σ f b).trans i1, by rw [i2, e1]; omega, by omega, fun q => ?_⟩
    rw [i4 q, e1, e3 q]
    by_cases c1 : msz σ ≤ (q : Int) ∧ (q : Int) < msz σ + mS f b
    · rw [if_neg (by omega), if_pos c1, if_pos (by omega)]
    · rw [if_neg c1]
      by_cases c2 : msz σ + mS f b ≤ (q : Int) ∧ (q : Int) < msz σ + mS f b + (e - (b + mS f b))
      · rw [if_pos c2, if_pos (by omega)]
        congr 2
        omega
      · rw [if_neg c2, if_neg (by omega)]
  · rename_i hlt
    refine ⟨Pq.rfl', by omega, by omega, fun q => ?_⟩
    rw [if_neg (by omega)]
theorem mPut_pc {f : Nat → Int} {e : Int} : ∀ b : Int, b ≤ e → ∀ σ : St, (∀ j, 0 ≤ mpc σ j ∧ mpc σ j ≤ 3) → ∀ j, 0 ≤ mpc (mPut σ f b e) j ∧ mpc (mPut σ f b e) j ≤ 3 := by
  refine up (fun b hb ih σ hp => ?_)
  rw [mPut.eq_def]
  split
  · have hr := mS_r f b
    have h1 : ∀ j, 0 ≤ mpc (m1 σ f b) j ∧ mpc (m1 σ f b) j ≤ 3 := fun j => by
      show 0 ≤ u1 (mpc σ) (mpm σ).toNat (mS f b) j ∧ u1 (mpc σ) (mpm σ).toNat (mS f b) j ≤ 3
      unfold u1
      split
      · omega
      · exact hp j
    by_cases hn : b + mS f b ≤ e
    · exact ih (b + mS f b) (by omega) hn (m1 σ f b) h1
    · rw [mPut.eq_def, if_neg (by omega)]
      exact h1
  · exact hp
theorem Mw.put {σ : St} (h : Mw σ) {f : Nat → Int} (hf : ∀ j, 0 ≤ f j ∧ f j < 65536) {b e : Int} (hb : 0 ≤ b ∧ b ≤ e) (hW : Wr f b e) (h1 : msz σ + (e - b) ≤ 60) (h2 : mpm σ + (e - b) ≤ 60) : Mw (mPut σ f b e) := by
  have hs := h.sz
  have hp := h.pm
  obtain ⟨⟨-, -, i3, i4, i5, i6, i7, i8, i9, i10, i11, -, -⟩, j1, j2, j3⟩ := mPut_f b hb.2 hb.1 σ hW hs.1
  refine ⟨by omega, fun j => ?_, by omega, mPut_pc b hb.2 σ h.pc, by rw [i3]; exact h.sg, by rw [i4]; exact h.lo, by rw [i5]; exact h.fr, by rw [i6]; exact h.to, by rw [i7]; exact h.po, by rw [i8]; exact h.be, by rw [i9]; exact h.en, by rw [i10]; exact h.pt, by rw [i11]; exact h.rf⟩
  rw [j3]
  split
  · exact hf _
  · exact h.tx j
def mAdd (σ : St) (j k : Int) : St := mPut σ (msg σ) (60 * j + mF σ j k) (60 * j + mTo σ j k)
/-- the part k of slot j: it is there, and its escapes end in it -/
def Sg (σ : St) (j k : Int) : Prop := 0 ≤ mF σ j k ∧ mF σ j k ≤ mTo σ j k ∧ mTo σ j k ≤ 60 ∧ Wr (msg σ) (60 * j + mF σ j k) (60 * j + mTo σ j k)
def one (c : Int) : Nat → Int := u1 (fun _ => 0) 0 c
def mSign (σ : St) (c : Int) : St := mPut σ (one c) 0 1
theorem one_r {c : Int} (hc : 0 ≤ c ∧ c < 65536) (j : Nat) : 0 ≤ one c j ∧ one c j < 65536 := by unfold one u1; split <;> (try dsimp only) <;> omega
theorem one_w {c : Int} (hc : c ≠ 37) : Wr (one c) 0 1 := fun p h1 h2 h3 => by
  have hp : p = 0 := by omega
  subst hp
  exact absurd h3 hc
def esc (v : Int) (s : Bool) : Nat → Int := u1 (u1 (u1 (fun _ => 0) 0 37) 1 (mDig (v / 16) s)) 2 (mDig (v % 16) s)
def mEsc (σ : St) (v : Int) (s : Bool) : St := mPut σ (esc v s) 0 3
theorem mDig_r {v : Int} (h : 0 ≤ v ∧ v ≤ 15) (s : Bool) : 48 ≤ mDig v s ∧ mDig v s ≤ 102 := by unfold mDig; cases s <;> simp <;> split <;> omega
theorem esc_r {v : Int} (h : 0 ≤ v ∧ v ≤ 255) (s : Bool) (j : Nat) : 0 ≤ esc v s j ∧ esc v s j < 65536 := by
  have h1 := mDig_r (v := v / 16) (by omega) s
  have h2 := mDig_r (v := v % 16) (by omega) s
  unfold esc u1
  repeat' split
  all_goals ((try dsimp only); omega)
theorem esc_w {v : Int} (h : 0 ≤ v ∧ v ≤ 255) (s : Bool) : Wr (esc v s) 0 3 := fun p h1 h2 h3 => by
  have a1 := mDig_r (v := v / 16) (by omega) s
  have a2 := mDig_r (v := v % 16) (by omega) s
  have hp : p = 0 ∨ p = 1 ∨ p = 2 := by omega
  rcases hp with rfl | rfl | rfl
  · omega
  · have h4 : mDig (v / 16) s = 37 := h3
    omega
  · have h4 : mDig (v % 16) s = 37 := h3
    omega
theorem div16 {v : Int} (h : 0 ≤ v ∧ v ≤ 255) : zI v / zI 16 = zI (v / 16) := by
  apply Int32.toInt_inj.mp
  rw [Int32.toInt_div, zI_toInt (by omega) (by omega), zI_toInt (by omega) (by omega), zI_toInt (by omega) (by omega), Int.tdiv_eq_ediv_of_nonneg h.1]
  have h1 : 0 ≤ v / 16 := by omega
  have h2 : v / 16 ≤ 255 := by omega
  rw [Int.bmod_def, Int.emod_eq_of_lt (by omega) (by omega), if_pos (by omega)]
theorem mod16 {v : Int} (h : 0 ≤ v ∧ v ≤ 255) : zI v - zI v / zI 16 * zI 16 = zI (v % 16) := by
  rw [div16 h, zI_mul, zI_sub]
  congr 1
  omega
section X5
variable {γ : Gm} {σ : St} {xs : va_W}
set_option maxRecDepth 100000 in
set_option maxHeartbeats 4000000 in
theorem m_sign (hG : Full γ) (hM : Mw σ) {c : Int} (hc : 0 ≤ c ∧ c < 65536) (h37 : c ≠ 37) (h1 : msz σ < 60) (h2 : mpm σ < 60) : Ev γ mX5_sign 2 1 1 [.ref (ga γ 8 0), .int (zI (c))] σ xs (rtn none (mSign σ c) xs) nX := by
  refine Ev.of1 0 [some (.ref (ga γ 8 0)), some (.int (zI (c)))] rfl pn_X5_sign rfl (Nat.le_of_ble_eq_true rfl) ?_
  have hs := hM.sz
  have hp := hM.pm
  refine r_aload_n (q := 1) dX5_sign_0 rfl rfl ?_
  refine r_iconst (q := 2) dX5_sign_1 rfl ?_
  refine r_newI (N := 1) (q := 4) dX5_sign_2 rfl (by decide) (by decide) aI (by decide) (by decide) (fun a => ?_)
  refine r_dup (q := 5) dX5_sign_4 rfl rfl ?_
  refine r_iconst (q := 6) dX5_sign_5 rfl ?_
  refine r_iload_n (q := 7) dX5_sign_6 rfl rfl ?_
  refine r_xist0 (N := 1) (f := (fun _ => 0)) (q := 8) dX5_sign_7 rfl (by omega) ?_
  refine r_iconst (q := 9) dX5_sign_8 rfl ?_
  refine r_iconst (q := 10) dX5_sign_9 rfl ?_
  refine cX5_3v (My := mX5_put) (q := 13) dX5_sign_10 rfl kX5_66 vX5_put (hG _ _ rfl) rfl (m_put hG (f := one c) (N := 1) (fun s2 _ => Rd.mem List.mem_cons_self) (one_r hc) (one_w h37) (by decide) (by decide) (by first | omega | (show 0 ≤ msz σ ∧ msz σ + (1 - 0) ≤ 60; omega)) (by first | omega | (show 0 ≤ mpm σ ∧ mpm σ + (1 - 0) ≤ 60; omega))) ⟨by decide, by decide⟩ ⟨by decide, by decide⟩ (Nat.le_of_ble_eq_true rfl) ?_
  refine RW.dropx ?_
  refine r_retv dX5_sign_13 rfl (by decide) (by decide) ?_
  exact ret_v rfl
set_option maxRecDepth 100000 in
set_option maxHeartbeats 4000000 in
theorem m_type_1 (hG : Full γ) (hM : Mw σ) {c : Int} (hc : 0 ≤ c ∧ c < 65536) (h : okTy c = false) : Ev γ mX5_type 3 0 0 [.ref (ga γ 8 0), .int (zI (c))] σ xs (rtn (some (.int (zI (0)))) (sMcd σ 1) xs) nX := by
  refine Ev.of1 0 [some (.ref (ga γ 8 0)), some (.int (zI (c)))] rfl pn_X5_type rfl (Nat.le_of_ble_eq_true rfl) ?_
  refine r_aload_n (q := 1) dX5_type_0 rfl rfl ?_
  refine r_iload_n (q := 2) dX5_type_1 rfl rfl ?_
  refine cS_1 (My := mX5_canType) (q := 5) dX5_type_2 rfl kX5_59 vX5_canType (m_canType (by omega)) ⟨by decide, by decide⟩ ⟨by decide, by decide⟩ (Nat.le_of_ble_eq_true rfl) ?_
  refine r_ifB_ne (q := 8) (tgt := 12) dX5_type_5 rfl (by decide) (fun h5 => ?_) (fun h5 => ?_)
  · rw [h] at h5; exact absurd h5 (by decide)
  · refine r_iconst (q := 9) dX5_type_8 rfl ?_
    refine r_goto (q := 26) dX5_type_9 (by decide) ?_
    refine cX5_1 (My := mX5_fails) (q := 29) dX5_type_26 rfl kX5_63 vX5_fails (hG _ _ rfl) rfl (m_fails hG (by omega)) ⟨by decide, by decide⟩ ⟨by decide, by decide⟩ (Nat.le_of_ble_eq_true rfl) ?_
    refine r_ifB_eq (q := 32) (tgt := 34) dX5_type_29 rfl (by decide) (fun h29 => ?_) (fun h29 => ?_)
    · exact absurd h29 (by decide)
    · refine r_iconst (q := 33) dX5_type_32 rfl ?_
      refine r_reti dX5_type_33 rfl (by decide) (by decide) ?_
      exact ret_is rfl rfl
set_option maxRecDepth 100000 in
set_option maxHeartbeats 4000000 in
theorem m_type_2 (hG : Full γ) (hM : Mw σ) {c : Int} (hc : 0 ≤ c ∧ c < 65536) (h : okTy c = true) (hs : msz σ = 60) : Ev γ mX5_type 3 0 0 [.ref (ga γ 8 0), .int (zI (c))] σ xs (rtn (some (.int (zI (0)))) (sMcd σ 2) xs) nX := by
  refine Ev.of1 0 [some (.ref (ga γ 8 0)), some (.int (zI (c)))] rfl pn_X5_type rfl (Nat.le_of_ble_eq_true rfl) ?_
  refine r_aload_n (q := 1) dX5_type_0 rfl rfl ?_
  refine r_iload_n (q := 2) dX5_type_1 rfl rfl ?_
  refine cS_1 (My := mX5_canType) (q := 5) dX5_type_2 rfl kX5_59 vX5_canType (m_canType (by omega)) ⟨by decide, by decide⟩ ⟨by decide, by decide⟩ (Nat.le_of_ble_eq_true rfl) ?_
  refine r_ifB_ne (q := 8) (tgt := 12) dX5_type_5 rfl (by decide) (fun h5 => ?_) (fun h5 => ?_)
  · refine r_aload_n (q := 13) dX5_type_12 rfl rfl ?_
    refine g_X5_size (i := 0) (q := 16) dX5_type_13 rfl fX5_53 (hG _ _ rfl) ?_
    refine r_bipush (q := 18) dX5_type_16 rfl (bip (by decide) (by decide)) ?_
    refine r_icmp_ne (q := 21) (tgt := 25) dX5_type_18 rfl (by decide) (by omega) (by omega) (fun h18 => ?_) (fun h18 => ?_)
    · exfalso; omega
    · refine r_iconst (q := 22) dX5_type_21 rfl ?_
      refine r_goto (q := 26) dX5_type_22 (by decide) ?_
      refine cX5_1 (My := mX5_fails) (q := 29) dX5_type_26 rfl kX5_63 vX5_fails (hG _ _ rfl) rfl (m_fails hG (by omega)) ⟨by decide, by decide⟩ ⟨by decide, by decide⟩ (Nat.le_of_ble_eq_true rfl) ?_
      refine r_ifB_eq (q := 32) (tgt := 34) dX5_type_29 rfl (by decide) (fun h29 => ?_) (fun h29 => ?_)
      · exact absurd h29 (by decide)
      · refine r_iconst (q := 33) dX5_type_32 rfl ?_
        refine r_reti dX5_type_33 rfl (by decide) (by decide) ?_
        exact ret_is rfl rfl
  · rw [h] at h5; exact absurd h5 (by decide)
set_option maxRecDepth 100000 in
set_option maxHeartbeats 4000000 in
theorem m_type_0 (hG : Full γ) (hM : Mw σ) {c : Int} (hc : 0 ≤ c ∧ c < 65536) (h : okTy c = true) (hs : msz σ < 60) (hp2 : mpm σ < 60) : Ev γ mX5_type 3 1 1 [.ref (ga γ 8 0), .int (zI (c))] σ xs (rtn (some (.int (zI (msz (mSign (sMcd σ 0) c))))) (mSign (sMcd σ 0) c) xs) nX := by
  refine Ev.of1 0 [some (.ref (ga γ 8 0)), some (.int (zI (c)))] rfl pn_X5_type rfl (Nat.le_of_ble_eq_true rfl) ?_
  have hz := hM.sz
  have hp := hM.pm
  have h37 : c ≠ 37 := by have h9 := of_decide_eq_true ((okTy_e c).symm.trans h); omega
  refine r_aload_n (q := 1) dX5_type_0 rfl rfl ?_
  refine r_iload_n (q := 2) dX5_type_1 rfl rfl ?_
  refine cS_1 (My := mX5_canType) (q := 5) dX5_type_2 rfl kX5_59 vX5_canType (m_canType (by omega)) ⟨by decide, by decide⟩ ⟨by decide, by decide⟩ (Nat.le_of_ble_eq_true rfl) ?_
  refine r_ifB_ne (q := 8) (tgt := 12) dX5_type_5 rfl (by decide) (fun h5 => ?_) (fun h5 => ?_)
  · refine r_aload_n (q := 13) dX5_type_12 rfl rfl ?_
    refine g_X5_size (i := 0) (q := 16) dX5_type_13 rfl fX5_53 (hG _ _ rfl) ?_
    refine r_bipush (q := 18) dX5_type_16 rfl (bip (by decide) (by decide)) ?_
    refine r_icmp_ne (q := 21) (tgt := 25) dX5_type_18 rfl (by decide) (by omega) (by omega) (fun h18 => ?_) (fun h18 => ?_)
    · refine r_iconst (q := 26) dX5_type_25 rfl ?_
      refine cX5_1 (My := mX5_fails) (q := 29) dX5_type_26 rfl kX5_63 vX5_fails (hG _ _ rfl) rfl (m_fails hG (by omega)) ⟨by decide, by decide⟩ ⟨by decide, by decide⟩ (Nat.le_of_ble_eq_true rfl) ?_
      refine r_ifB_eq (q := 32) (tgt := 34) dX5_type_29 rfl (by decide) (fun h29 => ?_) (fun h29 => ?_)
      · refine r_aload_n (q := 35) dX5_type_34 rfl rfl ?_
        refine r_iconst (q := 36) dX5_type_35 rfl ?_
        refine r_newI (N := 1) (q := 38) dX5_type_36 rfl (by decide) (by decide) aI (by decide) (by decide) (fun a => ?_)
        refine r_dup (q := 39) dX5_type_38 rfl rfl ?_
        refine r_iconst (q := 40) dX5_type_39 rfl ?_
        refine r_iload_n (q := 41) dX5_type_40 rfl rfl ?_
        refine r_xist0 (N := 1) (f := (fun _ => 0)) (q := 42) dX5_type_41 rfl (by omega) ?_
        refine r_iconst (q := 43) dX5_type_42 rfl ?_
        refine r_iconst (q := 44) dX5_type_43 rfl ?_
        refine cX5_3v (My := mX5_put) (q := 47) dX5_type_44 rfl kX5_66 vX5_put (hG _ _ rfl) rfl (m_put hG (f := one c) (N := 1) (fun s2 _ => Rd.mem List.mem_cons_self) (one_r hc) (one_w h37) (by decide) (by decide) (by first | omega | (show 0 ≤ msz σ ∧ msz σ + (1 - 0) ≤ 60; omega)) (by first | omega | (show 0 ≤ mpm σ ∧ mpm σ + (1 - 0) ≤ 60; omega))) ⟨by decide, by decide⟩ ⟨by decide, by decide⟩ (Nat.le_of_ble_eq_true rfl) ?_
        refine RW.dropx ?_
        refine r_aload_n (q := 48) dX5_type_47 rfl rfl ?_
        refine g_X5_size (i := 0) (q := 51) dX5_type_48 rfl fX5_53 (hG _ _ rfl) ?_
        refine r_reti dX5_type_51 rfl (by decide) (by decide) ?_
        exact ret_is rfl rfl
      · exact absurd h29 (by decide)
    · exfalso; omega
  · rw [h] at h5; exact absurd h5 (by decide)
set_option maxRecDepth 100000 in
set_option maxHeartbeats 4000000 in
theorem m_digit {v : Int} {s : Bool} (hv : 0 ≤ v ∧ v ≤ 15) : Ev γ mX5_digit 1 0 0 [.int (zI (v)), .int (zI (bI s))] σ xs (rtn (some (.int (zI (mDig v s)))) σ xs) nX := by
  refine Ev.of1 0 [some (.int (zI (v))), some (.int (zI (bI s)))] rfl pn_X5_digit rfl (Nat.le_of_ble_eq_true rfl) ?_
  refine r_iload_n (q := 1) dX5_digit_0 rfl rfl ?_
  refine r_bipush (q := 3) dX5_digit_1 rfl (bip (by decide) (by decide)) ?_
  refine r_icmp_ge (q := 6) (tgt := 13) dX5_digit_3 rfl (by decide) (by omega) (by omega) (fun h3 => ?_) (fun h3 => ?_)
  · refine r_iload_n (q := 14) dX5_digit_13 rfl rfl ?_
    refine r_ifB_eq (q := 17) (tgt := 22) dX5_digit_14 rfl (by decide) (fun h14 => ?_) (fun h14 => ?_)
    · refine r_bipush (q := 24) dX5_digit_22 rfl (bip (by decide) (by decide)) ?_
      refine r_iload_n (q := 25) dX5_digit_24 rfl rfl ?_
      refine r_iadd (q := 26) dX5_digit_25 rfl ?_
      refine r_bipush (q := 28) dX5_digit_26 rfl (bip (by decide) (by decide)) ?_
      refine r_isub (q := 29) dX5_digit_28 rfl ?_
      refine r_reti dX5_digit_29 rfl (by decide) (by decide) ?_
      first
        | exact ret_i (by unfold mDig; rw [if_pos (by omega)])
        | exact ret_i (by unfold mDig; rw [if_neg (by omega), h14]; rfl)
    · refine r_bipush (q := 19) dX5_digit_17 rfl (bip (by decide) (by decide)) ?_
      refine r_goto (q := 24) dX5_digit_19 (by decide) ?_
      refine r_iload_n (q := 25) dX5_digit_24 rfl rfl ?_
      refine r_iadd (q := 26) dX5_digit_25 rfl ?_
      refine r_bipush (q := 28) dX5_digit_26 rfl (bip (by decide) (by decide)) ?_
      refine r_isub (q := 29) dX5_digit_28 rfl ?_
      refine r_reti dX5_digit_29 rfl (by decide) (by decide) ?_
      first
        | exact ret_i (by unfold mDig; rw [if_pos (by omega)])
        | exact ret_i (by unfold mDig; rw [if_neg (by omega), h14]; rfl)
  · refine r_bipush (q := 8) dX5_digit_6 rfl (bip (by decide) (by decide)) ?_
    refine r_iload_n (q := 9) dX5_digit_8 rfl rfl ?_
    refine r_iadd (q := 10) dX5_digit_9 rfl ?_
    refine r_goto (q := 29) dX5_digit_10 (by decide) ?_
    refine r_reti dX5_digit_29 rfl (by decide) (by decide) ?_
    first
      | exact ret_i (by unfold mDig; rw [if_pos (by omega)])
      | exact ret_i (by unfold mDig; rw [if_neg (by omega), h14]; rfl)
set_option maxRecDepth 100000 in
set_option maxHeartbeats 4000000 in
theorem m_escape_1 (hG : Full γ) (hM : Mw σ) {v : Int} {s : Bool} (hr : -2147483648 ≤ v ∧ v ≤ 2147483647) (h : ¬ (0 ≤ v ∧ v ≤ 255)) : Ev γ mX5_escape 3 0 0 [.ref (ga γ 8 0), .int (zI (v)), .int (zI (bI s))] σ xs (rtn (some (.int (zI (0)))) (sMcd σ 1) xs) nX := by
  refine Ev.of1 0 [some (.ref (ga γ 8 0)), some (.int (zI (v))), some (.int (zI (bI s)))] rfl pn_X5_escape rfl (Nat.le_of_ble_eq_true rfl) ?_
  refine r_aload_n (q := 1) dX5_escape_0 rfl rfl ?_
  refine r_iload_n (q := 2) dX5_escape_1 rfl rfl ?_
  refine r_iconst (q := 3) dX5_escape_2 rfl ?_
  refine r_sipush (q := 6) dX5_escape_3 rfl (sip (by decide) (by decide)) ?_
  refine cS_3 (My := mX5_in) (q := 9) dX5_escape_6 rfl kX5_41 vX5_in (m_in (by omega) (by omega) (by omega)) ⟨by decide, by decide⟩ ⟨by decide, by decide⟩ (Nat.le_of_ble_eq_true rfl) ?_
  refine r_ifB_ne (q := 12) (tgt := 16) dX5_escape_9 rfl (by decide) (fun h9 => ?_) (fun h9 => ?_)
  · exfalso; simp at h9; omega
  · refine r_iconst (q := 13) dX5_escape_12 rfl ?_
    refine r_goto (q := 32) dX5_escape_13 (by decide) ?_
    refine cX5_1 (My := mX5_fails) (q := 35) dX5_escape_32 rfl kX5_63 vX5_fails (hG _ _ rfl) rfl (m_fails hG (by omega)) ⟨by decide, by decide⟩ ⟨by decide, by decide⟩ (Nat.le_of_ble_eq_true rfl) ?_
    refine r_ifB_eq (q := 38) (tgt := 40) dX5_escape_35 rfl (by decide) (fun h35 => ?_) (fun h35 => ?_)
    · exact absurd h35 (by decide)
    · refine r_iconst (q := 39) dX5_escape_38 rfl ?_
      refine r_reti dX5_escape_39 rfl (by decide) (by decide) ?_
      exact ret_is rfl rfl
set_option maxRecDepth 100000 in
set_option maxHeartbeats 4000000 in
theorem m_escape_2 (hG : Full γ) (hM : Mw σ) {v : Int} {s : Bool} (hv : 0 ≤ v ∧ v ≤ 255) (h : 60 < msz σ + 3) : Ev γ mX5_escape 3 0 0 [.ref (ga γ 8 0), .int (zI (v)), .int (zI (bI s))] σ xs (rtn (some (.int (zI (0)))) (sMcd σ 2) xs) nX := by
  refine Ev.of1 0 [some (.ref (ga γ 8 0)), some (.int (zI (v))), some (.int (zI (bI s)))] rfl pn_X5_escape rfl (Nat.le_of_ble_eq_true rfl) ?_
  have hz := hM.sz
  refine r_aload_n (q := 1) dX5_escape_0 rfl rfl ?_
  refine r_iload_n (q := 2) dX5_escape_1 rfl rfl ?_
  refine r_iconst (q := 3) dX5_escape_2 rfl ?_
  refine r_sipush (q := 6) dX5_escape_3 rfl (sip (by decide) (by decide)) ?_
  refine cS_3 (My := mX5_in) (q := 9) dX5_escape_6 rfl kX5_41 vX5_in (m_in (by omega) (by omega) (by omega)) ⟨by decide, by decide⟩ ⟨by decide, by decide⟩ (Nat.le_of_ble_eq_true rfl) ?_
  refine r_ifB_ne (q := 12) (tgt := 16) dX5_escape_9 rfl (by decide) (fun h9 => ?_) (fun h9 => ?_)
  · refine r_aload_n (q := 17) dX5_escape_16 rfl rfl ?_
    refine g_X5_size (i := 0) (q := 20) dX5_escape_17 rfl fX5_53 (hG _ _ rfl) ?_
    refine r_iconst (q := 21) dX5_escape_20 rfl ?_
    refine r_iadd (q := 22) dX5_escape_21 rfl ?_
    refine r_bipush (q := 24) dX5_escape_22 rfl (bip (by decide) (by decide)) ?_
    refine r_icmp_le (q := 27) (tgt := 31) dX5_escape_24 rfl (by decide) (by omega) (by omega) (fun h24 => ?_) (fun h24 => ?_)
    · exfalso; omega
    · refine r_iconst (q := 28) dX5_escape_27 rfl ?_
      refine r_goto (q := 32) dX5_escape_28 (by decide) ?_
      refine cX5_1 (My := mX5_fails) (q := 35) dX5_escape_32 rfl kX5_63 vX5_fails (hG _ _ rfl) rfl (m_fails hG (by omega)) ⟨by decide, by decide⟩ ⟨by decide, by decide⟩ (Nat.le_of_ble_eq_true rfl) ?_
      refine r_ifB_eq (q := 38) (tgt := 40) dX5_escape_35 rfl (by decide) (fun h35 => ?_) (fun h35 => ?_)
      · exact absurd h35 (by decide)
      · refine r_iconst (q := 39) dX5_escape_38 rfl ?_
        refine r_reti dX5_escape_39 rfl (by decide) (by decide) ?_
        exact ret_is rfl rfl
  · exfalso; simp at h9; omega
set_option maxRecDepth 100000 in
set_option maxHeartbeats 4000000 in
theorem m_escape_0 (hG : Full γ) (hM : Mw σ) {v : Int} {s : Bool} (hv : 0 ≤ v ∧ v ≤ 255) (h : msz σ + 3 ≤ 60) (hp2 : mpm σ ≤ msz σ) : Ev γ mX5_escape 3 1 3 [.ref (ga γ 8 0), .int (zI (v)), .int (zI (bI s))] σ xs (rtn (some (.int (zI (msz (mEsc (sMcd σ 0) v s))))) (mEsc (sMcd σ 0) v s) xs) nX := by
  refine Ev.of1 0 [some (.ref (ga γ 8 0)), some (.int (zI (v))), some (.int (zI (bI s)))] rfl pn_X5_escape rfl (Nat.le_of_ble_eq_true rfl) ?_
  have hz := hM.sz
  have hp := hM.pm
  refine r_aload_n (q := 1) dX5_escape_0 rfl rfl ?_
  refine r_iload_n (q := 2) dX5_escape_1 rfl rfl ?_
  refine r_iconst (q := 3) dX5_escape_2 rfl ?_
  refine r_sipush (q := 6) dX5_escape_3 rfl (sip (by decide) (by decide)) ?_
  refine cS_3 (My := mX5_in) (q := 9) dX5_escape_6 rfl kX5_41 vX5_in (m_in (by omega) (by omega) (by omega)) ⟨by decide, by decide⟩ ⟨by decide, by decide⟩ (Nat.le_of_ble_eq_true rfl) ?_
  refine r_ifB_ne (q := 12) (tgt := 16) dX5_escape_9 rfl (by decide) (fun h9 => ?_) (fun h9 => ?_)
  · refine r_aload_n (q := 17) dX5_escape_16 rfl rfl ?_
    refine g_X5_size (i := 0) (q := 20) dX5_escape_17 rfl fX5_53 (hG _ _ rfl) ?_
    refine r_iconst (q := 21) dX5_escape_20 rfl ?_
    refine r_iadd (q := 22) dX5_escape_21 rfl ?_
    refine r_bipush (q := 24) dX5_escape_22 rfl (bip (by decide) (by decide)) ?_
    refine r_icmp_le (q := 27) (tgt := 31) dX5_escape_24 rfl (by decide) (by omega) (by omega) (fun h24 => ?_) (fun h24 => ?_)
    · refine r_iconst (q := 32) dX5_escape_31 rfl ?_
      refine cX5_1 (My := mX5_fails) (q := 35) dX5_escape_32 rfl kX5_63 vX5_fails (hG _ _ rfl) rfl (m_fails hG (by omega)) ⟨by decide, by decide⟩ ⟨by decide, by decide⟩ (Nat.le_of_ble_eq_true rfl) ?_
      refine r_ifB_eq (q := 38) (tgt := 40) dX5_escape_35 rfl (by decide) (fun h35 => ?_) (fun h35 => ?_)
      · refine r_aload_n (q := 41) dX5_escape_40 rfl rfl ?_
        refine r_iconst (q := 42) dX5_escape_41 rfl ?_
        refine r_newI (N := 3) (q := 44) dX5_escape_42 rfl (by decide) (by decide) aI (by decide) (by decide) (fun a => ?_)
        refine r_dup (q := 45) dX5_escape_44 rfl rfl ?_
        refine r_iconst (q := 46) dX5_escape_45 rfl ?_
        refine r_bipush (q := 48) dX5_escape_46 rfl (bip (by decide) (by decide)) ?_
        refine r_xist0 (N := 3) (f := (fun _ => 0)) (q := 49) dX5_escape_48 rfl (by omega) ?_
        refine r_dup (q := 50) dX5_escape_49 rfl rfl ?_
        refine r_iconst (q := 51) dX5_escape_50 rfl ?_
        refine r_iload_n (q := 52) dX5_escape_51 rfl rfl ?_
        refine r_bipush (q := 54) dX5_escape_52 rfl (bip (by decide) (by decide)) ?_
        refine r_idiv (q := 55) dX5_escape_54 rfl (by decide) (div16 hv) ?_
        refine r_iload_n (q := 56) dX5_escape_55 rfl rfl ?_
        refine cS_2 (My := mX5_digit) (q := 59) dX5_escape_56 rfl kX5_70 vX5_digit (m_digit (by omega)) ⟨by decide, by decide⟩ ⟨by decide, by decide⟩ (Nat.le_of_ble_eq_true rfl) ?_
        refine r_xist0 (N := 3) (f := (u1 (fun _ => 0) 0 37)) (q := 60) dX5_escape_59 rfl (by omega) ?_
        refine r_dup (q := 61) dX5_escape_60 rfl rfl ?_
        refine r_iconst (q := 62) dX5_escape_61 rfl ?_
        refine r_iload_n (q := 63) dX5_escape_62 rfl rfl ?_
        refine r_bipush (q := 65) dX5_escape_63 rfl (bip (by decide) (by decide)) ?_
        refine r_irem (q := 66) dX5_escape_65 rfl (by decide) (mod16 hv) ?_
        refine r_iload_n (q := 67) dX5_escape_66 rfl rfl ?_
        refine cS_2 (My := mX5_digit) (q := 70) dX5_escape_67 rfl kX5_70 vX5_digit (m_digit (by omega)) ⟨by decide, by decide⟩ ⟨by decide, by decide⟩ (Nat.le_of_ble_eq_true rfl) ?_
        refine r_xist0 (N := 3) (f := (u1 (u1 (fun _ => 0) 0 37) 1 (mDig (v / 16) s))) (q := 71) dX5_escape_70 rfl (by omega) ?_
        refine r_iconst (q := 72) dX5_escape_71 rfl ?_
        refine r_iconst (q := 73) dX5_escape_72 rfl ?_
        refine cX5_3v (My := mX5_put) (q := 76) dX5_escape_73 rfl kX5_66 vX5_put (hG _ _ rfl) rfl (m_put hG (f := esc v s) (N := 3) (fun s2 _ => Rd.mem List.mem_cons_self) (esc_r hv s) (esc_w hv s) (by decide) (by decide) (by show 0 ≤ msz σ ∧ msz σ + (3 - 0) ≤ 60; omega) (by show 0 ≤ mpm σ ∧ mpm σ + (3 - 0) ≤ 60; omega)) ⟨by decide, by decide⟩ ⟨by decide, by decide⟩ (Nat.le_of_ble_eq_true rfl) ?_
        refine RW.dropx ?_
        refine r_aload_n (q := 77) dX5_escape_76 rfl rfl ?_
        refine g_X5_size (i := 0) (q := 80) dX5_escape_77 rfl fX5_53 (hG _ _ rfl) ?_
        refine r_reti dX5_escape_80 rfl (by decide) (by decide) ?_
        exact ret_is rfl rfl
      · exact absurd h35 (by decide)
    · exfalso; omega
  · exfalso; simp at h9; omega
set_option maxRecDepth 100000 in
set_option maxHeartbeats 4000000 in
theorem m_add (hG : Full γ) (hM : Mw σ) {j c k : Int} (hj : 0 ≤ j ∧ j < 4) (hc : -2147483648 ≤ c ∧ c ≤ 2147483647) (hk : ixO (tS 51) c = k) (h0 : 0 ≤ k) (hS : Sg σ j k) (h1 : msz σ + mMany σ j k ≤ 60) (h2 : mpm σ ≤ msz σ) : Ev γ mX5_add 6 0 0 [.ref (ga γ 8 0), .int (zI (j)), .int (zI (c))] σ xs (rtn none (mAdd σ j k) xs) nX := by
  refine Ev.of1 1 [some (.ref (ga γ 8 0)), some (.int (zI (j))), some (.int (zI (c))), none] rfl pn_X5_add rfl (Nat.le_of_ble_eq_true rfl) ?_
  have hz := hM.sz
  have hp := hM.pm
  have h8 := ix51 c
  rw [hk] at h8
  obtain ⟨s1, s2, s3, s4⟩ := id hS
  have hm : mMany σ j k = mTo σ j k - mF σ j k := if_neg (by omega)
  refine r_bipush (q := 2) dX5_add_0 rfl (bip (by decide) (by decide)) ?_
  refine r_iload_n (q := 3) dX5_add_2 rfl rfl ?_
  refine r_imul (q := 4) dX5_add_3 rfl ?_
  refine r_iload_n (q := 5) dX5_add_4 rfl rfl ?_
  refine cS_1 (My := mX5_partOf) (q := 8) dX5_add_5 rfl kX5_100 vX5_partOf (m_partOf hc) ⟨by decide, by decide⟩ ⟨by decide, by decide⟩ (Nat.le_of_ble_eq_true rfl) ?_
  refine r_iadd (q := 9) dX5_add_8 rfl ?_
  rw [hk]
  refine r_istore_n (q := 10) dX5_add_9 rfl (by decide) (Lst.setL rfl rfl) ?_
  refine r_aload_n (q := 11) dX5_add_10 rfl rfl ?_
  refine r_aload_n (q := 12) dX5_add_11 rfl rfl ?_
  refine g_X5_signs (i := 0) (q := 15) dX5_add_12 rfl fX5_16 (hG _ _ rfl) ?_
  refine r_bipush (q := 17) dX5_add_15 rfl (bip (by decide) (by decide)) ?_
  refine r_iload_n (q := 18) dX5_add_17 rfl rfl ?_
  refine r_imul (q := 19) dX5_add_18 rfl ?_
  refine r_aload_n (q := 20) dX5_add_19 rfl rfl ?_
  refine g_X5_from (i := 0) (q := 23) dX5_add_20 rfl fX5_22 (hG _ _ rfl) ?_
  refine r_iload_n (q := 24) dX5_add_23 rfl rfl ?_
  refine l_mfr (i := 0) (q := 25) dX5_add_24 rfl (hG _ _ rfl) (by omega) ?_
  refine r_iadd (q := 26) dX5_add_25 rfl ?_
  refine r_bipush (q := 28) dX5_add_26 rfl (bip (by decide) (by decide)) ?_
  refine r_iload_n (q := 29) dX5_add_28 rfl rfl ?_
  refine r_imul (q := 30) dX5_add_29 rfl ?_
  refine r_aload_n (q := 31) dX5_add_30 rfl rfl ?_
  refine g_X5_to (i := 0) (q := 34) dX5_add_31 rfl fX5_25 (hG _ _ rfl) ?_
  refine r_iload_n (q := 35) dX5_add_34 rfl rfl ?_
  refine l_mto (i := 0) (q := 36) dX5_add_35 rfl (hG _ _ rfl) (by omega) ?_
  refine r_iadd (q := 37) dX5_add_36 rfl ?_
  rw [show mfr σ (9 * j + k).toNat = mF σ j k from rfl, show mto σ (9 * j + k).toNat = mTo σ j k from rfl]
  refine cX5_3v (My := mX5_put) (q := 40) dX5_add_37 rfl kX5_66 vX5_put (hG _ _ rfl) rfl (m_put hG (f := msg σ) (N := 240) (fun s2 h => by rw [← h]; exact Rd.sg γ s2 xs (hG _ _ rfl)) hM.sg hS.2.2.2 (by omega) (by omega) (by omega) (by omega)) ⟨by decide, by decide⟩ ⟨by decide, by decide⟩ (Nat.le_of_ble_eq_true rfl) ?_
  refine r_retv dX5_add_40 rfl (by decide) (by decide) ?_
  exact ret_v rfl
set_option maxRecDepth 100000 in
set_option maxHeartbeats 4000000 in
theorem m_append_e (hG : Full γ) (hM : Mw σ) {j : Int} (hr : -2147483648 ≤ j ∧ j ≤ 2147483647) {c : Int} (hc : -2147483648 ≤ c ∧ c ≤ 2147483647) {v : Int} (hv : 0 < v ∧ v ≤ 5) (hN : mNoP σ j c = v) : Ev γ mX5_append 8 0 0 [.ref (ga γ 8 0), .int (zI (j)), .int (zI (c))] σ xs (rtn (some (.int (zI (0)))) (sMcd σ v) xs) nX := by
  refine Ev.of1 1 [some (.ref (ga γ 8 0)), some (.int (zI (j))), some (.int (zI (c))), none] rfl pn_X5_append rfl (Nat.le_of_ble_eq_true rfl) ?_
  refine r_aload_n (q := 1) dX5_append_0 rfl rfl ?_
  refine r_iload_n (q := 2) dX5_append_1 rfl rfl ?_
  refine r_iload_n (q := 3) dX5_append_2 rfl rfl ?_
  refine cX5_2 (My := mX5_noPart) (q := 6) dX5_append_3 rfl kX5_164 vX5_noPart (hG _ _ rfl) rfl (m_noPart hG hM (by omega) hc hN) ⟨by decide, by decide⟩ ⟨by decide, by decide⟩ (Nat.le_of_ble_eq_true rfl) ?_
  refine r_istore_n (q := 7) dX5_append_6 rfl (by decide) (Lst.setL rfl rfl) ?_
  refine r_aload_n (q := 8) dX5_append_7 rfl rfl ?_
  refine r_iload_n (q := 9) dX5_append_8 rfl rfl ?_
  refine r_if_le (q := 12) (tgt := 16) dX5_append_9 rfl (by decide) (by omega) (fun h9 => ?_) (fun h9 => ?_)
  · exfalso; omega
  · refine r_iload_n (q := 13) dX5_append_12 rfl rfl ?_
    refine r_goto (q := 53) dX5_append_13 (by decide) ?_
    refine cX5_1 (My := mX5_fails) (q := 56) dX5_append_53 rfl kX5_63 vX5_fails (hG _ _ rfl) rfl (m_fails hG (by omega)) ⟨by decide, by decide⟩ ⟨by decide, by decide⟩ (Nat.le_of_ble_eq_true rfl) ?_
    refine r_ifB_eq (q := 59) (tgt := 61) dX5_append_56 rfl (by decide) (fun h56 => ?_) (fun h56 => ?_)
    · have := of_decide_eq_false h56; omega
    · refine r_iconst (q := 60) dX5_append_59 rfl ?_
      refine r_reti dX5_append_60 rfl (by decide) (by decide) ?_
      exact ret_is rfl rfl
set_option maxRecDepth 100000 in
set_option maxHeartbeats 4000000 in
theorem m_append_3 (hG : Full γ) (hM : Mw σ) {j : Int} (hj : 0 ≤ j ∧ j < 4) {c : Int} (hc : -2147483648 ≤ c ∧ c ≤ 2147483647) (h0 : 0 ≤ ixO (tS 51) c) (hN : mNoP σ j c = 0) (hh : mHas σ j (ixO (tS 51) c) = false) : Ev γ mX5_append 8 0 0 [.ref (ga γ 8 0), .int (zI (j)), .int (zI (c))] σ xs (rtn (some (.int (zI (0)))) (sMcd σ 3) xs) nX := by
  refine Ev.of1 1 [some (.ref (ga γ 8 0)), some (.int (zI (j))), some (.int (zI (c))), none] rfl pn_X5_append rfl (Nat.le_of_ble_eq_true rfl) ?_
  refine r_aload_n (q := 1) dX5_append_0 rfl rfl ?_
  refine r_iload_n (q := 2) dX5_append_1 rfl rfl ?_
  refine r_iload_n (q := 3) dX5_append_2 rfl rfl ?_
  refine cX5_2 (My := mX5_noPart) (q := 6) dX5_append_3 rfl kX5_164 vX5_noPart (hG _ _ rfl) rfl (m_noPart hG hM (by omega) hc hN) ⟨by decide, by decide⟩ ⟨by decide, by decide⟩ (Nat.le_of_ble_eq_true rfl) ?_
  refine r_istore_n (q := 7) dX5_append_6 rfl (by decide) (Lst.setL rfl rfl) ?_
  refine r_aload_n (q := 8) dX5_append_7 rfl rfl ?_
  refine r_iload_n (q := 9) dX5_append_8 rfl rfl ?_
  refine r_if_le (q := 12) (tgt := 16) dX5_append_9 rfl (by decide) (by omega) (fun h9 => ?_) (fun h9 => ?_)
  · refine r_aload_n (q := 17) dX5_append_16 rfl rfl ?_
    refine r_iload_n (q := 18) dX5_append_17 rfl rfl ?_
    refine r_iload_n (q := 19) dX5_append_18 rfl rfl ?_
    refine cX5_2 (My := mX5_has) (q := 22) dX5_append_19 rfl kX5_160 vX5_has (hG _ _ rfl) rfl (m_has hG hM hj hc rfl h0) ⟨by decide, by decide⟩ ⟨by decide, by decide⟩ (Nat.le_of_ble_eq_true rfl) ?_
    refine r_ifB_ne (q := 25) (tgt := 29) dX5_append_22 rfl (by decide) (fun h22 => ?_) (fun h22 => ?_)
    · rw [hh] at h22; exact absurd h22 (by decide)
    · refine r_iconst (q := 26) dX5_append_25 rfl ?_
      refine r_goto (q := 53) dX5_append_26 (by decide) ?_
      refine cX5_1 (My := mX5_fails) (q := 56) dX5_append_53 rfl kX5_63 vX5_fails (hG _ _ rfl) rfl (m_fails hG (by omega)) ⟨by decide, by decide⟩ ⟨by decide, by decide⟩ (Nat.le_of_ble_eq_true rfl) ?_
      refine r_ifB_eq (q := 59) (tgt := 61) dX5_append_56 rfl (by decide) (fun h56 => ?_) (fun h56 => ?_)
      · exact absurd h56 (by decide)
      · refine r_iconst (q := 60) dX5_append_59 rfl ?_
        refine r_reti dX5_append_60 rfl (by decide) (by decide) ?_
        exact ret_is rfl rfl
  · exfalso; omega
set_option maxRecDepth 100000 in
set_option maxHeartbeats 4000000 in
theorem m_append_4 (hG : Full γ) (hM : Mw σ) {j : Int} (hj : 0 ≤ j ∧ j < 4) {c : Int} (hc : -2147483648 ≤ c ∧ c ≤ 2147483647) (h0 : 0 ≤ ixO (tS 51) c) (hN : mNoP σ j c = 0) (hh : mHas σ j (ixO (tS 51) c) = true) (h1 : 60 < msz σ + mMany σ j (ixO (tS 51) c)) : Ev γ mX5_append 8 0 0 [.ref (ga γ 8 0), .int (zI (j)), .int (zI (c))] σ xs (rtn (some (.int (zI (0)))) (sMcd σ 4) xs) nX := by
  refine Ev.of1 1 [some (.ref (ga γ 8 0)), some (.int (zI (j))), some (.int (zI (c))), none] rfl pn_X5_append rfl (Nat.le_of_ble_eq_true rfl) ?_
  refine r_aload_n (q := 1) dX5_append_0 rfl rfl ?_
  refine r_iload_n (q := 2) dX5_append_1 rfl rfl ?_
  refine r_iload_n (q := 3) dX5_append_2 rfl rfl ?_
  refine cX5_2 (My := mX5_noPart) (q := 6) dX5_append_3 rfl kX5_164 vX5_noPart (hG _ _ rfl) rfl (m_noPart hG hM (by omega) hc hN) ⟨by decide, by decide⟩ ⟨by decide, by decide⟩ (Nat.le_of_ble_eq_true rfl) ?_
  refine r_istore_n (q := 7) dX5_append_6 rfl (by decide) (Lst.setL rfl rfl) ?_
  refine r_aload_n (q := 8) dX5_append_7 rfl rfl ?_
  refine r_iload_n (q := 9) dX5_append_8 rfl rfl ?_
  refine r_if_le (q := 12) (tgt := 16) dX5_append_9 rfl (by decide) (by first | omega | (have h9 := mMany_r hM j (ixO (tS 51) c); have h8 := hM.sz; omega)) (fun h9 => ?_) (fun h9 => ?_)
  · refine r_aload_n (q := 17) dX5_append_16 rfl rfl ?_
    refine r_iload_n (q := 18) dX5_append_17 rfl rfl ?_
    refine r_iload_n (q := 19) dX5_append_18 rfl rfl ?_
    refine cX5_2 (My := mX5_has) (q := 22) dX5_append_19 rfl kX5_160 vX5_has (hG _ _ rfl) rfl (m_has hG hM hj hc rfl h0) ⟨by decide, by decide⟩ ⟨by decide, by decide⟩ (Nat.le_of_ble_eq_true rfl) ?_
    refine r_ifB_ne (q := 25) (tgt := 29) dX5_append_22 rfl (by decide) (fun h22 => ?_) (fun h22 => ?_)
    · refine r_aload_n (q := 30) dX5_append_29 rfl rfl ?_
      refine g_X5_size (i := 0) (q := 33) dX5_append_30 rfl fX5_53 (hG _ _ rfl) ?_
      refine r_aload_n (q := 34) dX5_append_33 rfl rfl ?_
      refine r_iload_n (q := 35) dX5_append_34 rfl rfl ?_
      refine r_iload_n (q := 36) dX5_append_35 rfl rfl ?_
      refine cS_1 (My := mX5_partOf) (q := 39) dX5_append_36 rfl kX5_100 vX5_partOf (m_partOf hc) ⟨by decide, by decide⟩ ⟨by decide, by decide⟩ (Nat.le_of_ble_eq_true rfl) ?_
      refine cX5_2 (My := mX5_many) (q := 42) dX5_append_39 rfl kX5_168 vX5_many (hG _ _ rfl) rfl (m_many hG hM hj (by have := ix51 c; omega)) ⟨by decide, by decide⟩ ⟨by decide, by decide⟩ (Nat.le_of_ble_eq_true rfl) ?_
      refine r_iadd (q := 43) dX5_append_42 rfl ?_
      refine r_bipush (q := 45) dX5_append_43 rfl (bip (by decide) (by decide)) ?_
      refine r_icmp_le (q := 48) (tgt := 52) dX5_append_45 rfl (by decide) (by first | omega | (have h9 := mMany_r hM j (ixO (tS 51) c); have h8 := hM.sz; omega)) (by first | omega | (have h9 := mMany_r hM j (ixO (tS 51) c); have h8 := hM.sz; omega)) (fun h45 => ?_) (fun h45 => ?_)
      · exfalso; omega
      · refine r_iconst (q := 49) dX5_append_48 rfl ?_
        refine r_goto (q := 53) dX5_append_49 (by decide) ?_
        refine cX5_1 (My := mX5_fails) (q := 56) dX5_append_53 rfl kX5_63 vX5_fails (hG _ _ rfl) rfl (m_fails hG (by omega)) ⟨by decide, by decide⟩ ⟨by decide, by decide⟩ (Nat.le_of_ble_eq_true rfl) ?_
        refine r_ifB_eq (q := 59) (tgt := 61) dX5_append_56 rfl (by decide) (fun h56 => ?_) (fun h56 => ?_)
        · exact absurd h56 (by decide)
        · refine r_iconst (q := 60) dX5_append_59 rfl ?_
          refine r_reti dX5_append_60 rfl (by decide) (by decide) ?_
          exact ret_is rfl rfl
    · rw [hh] at h22; exact absurd h22 (by decide)
  · exfalso; omega
set_option maxRecDepth 100000 in
set_option maxHeartbeats 4000000 in
theorem m_append_0 (hG : Full γ) (hM : Mw σ) {j : Int} (hj : 0 ≤ j ∧ j < 4) {c : Int} (hc : -2147483648 ≤ c ∧ c ≤ 2147483647) (h0 : 0 ≤ ixO (tS 51) c) (hN : mNoP σ j c = 0) (hh : mHas σ j (ixO (tS 51) c) = true) (hS : Sg (sMcd σ 0) j (ixO (tS 51) c)) (h1 : msz (sMcd σ 0) + mMany (sMcd σ 0) j (ixO (tS 51) c) ≤ 60) (h2 : mpm (sMcd σ 0) ≤ msz (sMcd σ 0)) : Ev γ mX5_append 8 0 0 [.ref (ga γ 8 0), .int (zI (j)), .int (zI (c))] σ xs (rtn (some (.int (zI (msz (mAdd (sMcd σ 0) j (ixO (tS 51) c)))))) (mAdd (sMcd σ 0) j (ixO (tS 51) c)) xs) nX := by
  refine Ev.of1 1 [some (.ref (ga γ 8 0)), some (.int (zI (j))), some (.int (zI (c))), none] rfl pn_X5_append rfl (Nat.le_of_ble_eq_true rfl) ?_
  refine r_aload_n (q := 1) dX5_append_0 rfl rfl ?_
  refine r_iload_n (q := 2) dX5_append_1 rfl rfl ?_
  refine r_iload_n (q := 3) dX5_append_2 rfl rfl ?_
  refine cX5_2 (My := mX5_noPart) (q := 6) dX5_append_3 rfl kX5_164 vX5_noPart (hG _ _ rfl) rfl (m_noPart hG hM (by omega) hc hN) ⟨by decide, by decide⟩ ⟨by decide, by decide⟩ (Nat.le_of_ble_eq_true rfl) ?_
  refine r_istore_n (q := 7) dX5_append_6 rfl (by decide) (Lst.setL rfl rfl) ?_
  refine r_aload_n (q := 8) dX5_append_7 rfl rfl ?_
  refine r_iload_n (q := 9) dX5_append_8 rfl rfl ?_
  refine r_if_le (q := 12) (tgt := 16) dX5_append_9 rfl (by decide) (by first | omega | (have h9 := mMany_r hM j (ixO (tS 51) c); have h8 := hM.sz; omega)) (fun h9 => ?_) (fun h9 => ?_)
  · refine r_aload_n (q := 17) dX5_append_16 rfl rfl ?_
    refine r_iload_n (q := 18) dX5_append_17 rfl rfl ?_
    refine r_iload_n (q := 19) dX5_append_18 rfl rfl ?_
    refine cX5_2 (My := mX5_has) (q := 22) dX5_append_19 rfl kX5_160 vX5_has (hG _ _ rfl) rfl (m_has hG hM hj hc rfl h0) ⟨by decide, by decide⟩ ⟨by decide, by decide⟩ (Nat.le_of_ble_eq_true rfl) ?_
    refine r_ifB_ne (q := 25) (tgt := 29) dX5_append_22 rfl (by decide) (fun h22 => ?_) (fun h22 => ?_)
    · refine r_aload_n (q := 30) dX5_append_29 rfl rfl ?_
      refine g_X5_size (i := 0) (q := 33) dX5_append_30 rfl fX5_53 (hG _ _ rfl) ?_
      refine r_aload_n (q := 34) dX5_append_33 rfl rfl ?_
      refine r_iload_n (q := 35) dX5_append_34 rfl rfl ?_
      refine r_iload_n (q := 36) dX5_append_35 rfl rfl ?_
      refine cS_1 (My := mX5_partOf) (q := 39) dX5_append_36 rfl kX5_100 vX5_partOf (m_partOf hc) ⟨by decide, by decide⟩ ⟨by decide, by decide⟩ (Nat.le_of_ble_eq_true rfl) ?_
      refine cX5_2 (My := mX5_many) (q := 42) dX5_append_39 rfl kX5_168 vX5_many (hG _ _ rfl) rfl (m_many hG hM hj (by have := ix51 c; omega)) ⟨by decide, by decide⟩ ⟨by decide, by decide⟩ (Nat.le_of_ble_eq_true rfl) ?_
      refine r_iadd (q := 43) dX5_append_42 rfl ?_
      refine r_bipush (q := 45) dX5_append_43 rfl (bip (by decide) (by decide)) ?_
      refine r_icmp_le (q := 48) (tgt := 52) dX5_append_45 rfl (by decide) (by first | omega | (have h9 := mMany_r hM j (ixO (tS 51) c); have h8 := hM.sz; omega)) (by first | omega | (have h9 := mMany_r hM j (ixO (tS 51) c); have h8 := hM.sz; omega)) (fun h45 => ?_) (fun h45 => ?_)
      · refine r_iconst (q := 53) dX5_append_52 rfl ?_
        refine cX5_1 (My := mX5_fails) (q := 56) dX5_append_53 rfl kX5_63 vX5_fails (hG _ _ rfl) rfl (m_fails hG (by omega)) ⟨by decide, by decide⟩ ⟨by decide, by decide⟩ (Nat.le_of_ble_eq_true rfl) ?_
        refine r_ifB_eq (q := 59) (tgt := 61) dX5_append_56 rfl (by decide) (fun h56 => ?_) (fun h56 => ?_)
        · refine r_aload_n (q := 62) dX5_append_61 rfl rfl ?_
          refine r_iload_n (q := 63) dX5_append_62 rfl rfl ?_
          refine r_iload_n (q := 64) dX5_append_63 rfl rfl ?_
          refine cX5_2v (My := mX5_add) (q := 67) dX5_append_64 rfl kX5_171 vX5_add (hG _ _ rfl) rfl (m_add hG (hM.cd 0) hj hc rfl h0 hS h1 h2) ⟨by decide, by decide⟩ ⟨by decide, by decide⟩ (Nat.le_of_ble_eq_true rfl) ?_
          refine r_aload_n (q := 68) dX5_append_67 rfl rfl ?_
          refine g_X5_size (i := 0) (q := 71) dX5_append_68 rfl fX5_53 (hG _ _ rfl) ?_
          refine r_reti dX5_append_71 rfl (by decide) (by decide) ?_
          exact ret_is rfl rfl
        · exact absurd h56 (by decide)
      · exfalso; have h1 : msz σ + mMany σ j (ixO (tS 51) c) ≤ 60 := h1; omega
    · rw [hh] at h22; exact absurd h22 (by decide)
  · exfalso; omega
end X5
