/-! The model: words -/
def ixK (l : List Int) (c k : Int) : Int := ixF c (l.drop k.toNat) k
def wA (q : Nat) : Int := [0, 5, 10, 17, 19, 21, 24, 26, 28, 30, 32, 37, 41, 46, 56, 64, 74, 78, 80, 82, 85, 87, 89, 93, 96, 104, 109, 116, 123, 125, 127, 130].getD q 0
def wL (q : Nat) : Int := ((tS (wIx q)).length : Int)
theorem wA_s : ∀ q : Nat, q < 31 → ixK (tS 58) 32 (wA q) + 1 = wA (q + 1) := by decide +kernel
theorem wA_r : ∀ q : Nat, q < 32 → 0 ≤ wA q ∧ wA q + wL q < (tS 58).length ∧ wL q ≤ 16 ∧ (tS 58).getD (wA q + wL q).toNat 0 = 32 := by decide +kernel
theorem wA_c : ∀ q : Nat, q < 32 → ∀ n : Nat, n < 16 → (n : Int) < wL q → (tS 58).getD (wA q + n).toNat 0 = (tS (wIx q)).getD n 0 ∧ (tS (wIx q)).getD n 0 ≠ 32 ∧ ((tS (wIx q)).getD n 0 = 37 → (n : Int) + 2 < wL q) := by decide +kernel
def wF (q : Nat) : Nat → Int := fun j => (tS (wIx q)).getD j 0
def wRow (q : Nat) (n : Int) : Nat → Int := fun j => if (j : Int) < n then wF q j else 0
theorem wF_r (q : Nat) (j : Nat) : 0 ≤ wF q j ∧ wF q j < 65536 := by
  have := tS_rng (wIx_ok q).1 (j : Int)
  unfold wF
  rw [Int.toNat_natCast] at this
  omega
theorem wRow_s {q : Nat} {n : Int} (h : 0 ≤ n) : u1 (wRow q n) n.toNat (wF q n.toNat) = wRow q (n + 1) := by
  funext j
  unfold u1 wRow
  by_cases h1 : j = n.toNat
  · rw [if_pos h1, if_pos (by omega), h1]
  · rw [if_neg h1]
    by_cases h2 : (j : Int) < n
    · rw [if_pos h2, if_pos (by omega)]
    · rw [if_neg h2, if_neg (by omega)]
theorem wRow_0 (q : Nat) : (fun _ : Nat => zI 0) = fun j => zI (wRow q 0 j) := by
  funext j
  unfold wRow
  rw [if_neg (by omega)]
theorem wRow_e (q : Nat) : wRow q (wL q) = wF q := by
  funext j
  unfold wRow
  split
  · rfl
  · rename_i h
    unfold wL at h
    unfold wF
    rw [List.getD_eq_getElem?_getD, List.getElem?_eq_none (by omega)]
    rfl
theorem wF_w {q : Nat} (hq : q < 32) : Wr (wF q) 0 (wL q) := fun p h1 h2 h3 => by
  have h := wA_r q hq
  have h4 := (wA_c q hq p.toNat (by omega) (by omega)).2.2 h3
  omega
def mWord (σ : St) (q : Nat) : St := mPut σ (wF q) 0 (wL q)
section X5
variable {γ : Gm} {σ : St} {xs : va_W}
set_option maxRecDepth 100000 in
set_option maxHeartbeats 4000000 in
theorem j_indexOfCharK {i : Nat} (hi : i < nS) {a k0 : Int} (ha : 0 ≤ a ∧ a ≤ 127) (hk : 0 ≤ k0 ∧ k0 < (tS i).length) : Ev γ mJ1_indexOfChar_4cfef 1 0 0 [.ref (gV γ i), .int (zI a), .int (zI k0), .int (zI (tS i).length)] σ xs (rtn (some (.int (zI (ixK (tS i) a k0)))) σ xs) nX := by
  refine Ev.of1 2 [some (.ref (gV γ i)), some (.int (zI a)), some (.int (zI k0)), some (.int (zI (tS i).length)), none, none] rfl pn_J1_indexOfChar_4cfef rfl (Nat.le_of_ble_eq_true rfl) ?_
  have hln := (tS_ok i hi).1
  have loop : ∀ c : Int, ((a < 128 ∧ c = a) ∨ (128 ≤ a ∧ c = a - 256)) → ∀ p : Int, p ≤ (tS i).length → 0 ≤ p → ixF a ((tS i).drop p.toNat) p = ixK (tS i) a k0 → RW γ mJ1_indexOfChar_4cfef 1 0 0 (rtn (some (.int (zI (ixK (tS i) a k0)))) σ xs) nX 0 0 7 [some (.ref (gV γ i)), some (.int (zI a)), some (.int (zI k0)), some (.int (zI (tS i).length)), some (.int (zI c)), some (.int (zI p))] [] σ xs := by
    intro c hc
    refine up (fun p hp ih h0 hinv => ?_)
    refine r_iload (q := 9) dJ1_indexOfChar_4cfef_7 rfl rfl ?_
    refine r_iload_n (q := 10) dJ1_indexOfChar_4cfef_9 rfl rfl ?_
    refine r_icmp_ge (q := 13) (tgt := 31) dJ1_indexOfChar_4cfef_10 rfl (by decide) (by have hb := tS_rng hi p; have := (tS_ok i hi).1; omega) (by have hb := tS_rng hi p; have := (tS_ok i hi).1; omega) (fun h10 => ?_) (fun h10 => ?_)
    · refine r_iconst (q := 32) dJ1_indexOfChar_4cfef_31 rfl ?_
      refine r_reti dJ1_indexOfChar_4cfef_32 rfl (by decide) (by decide) ?_
      first
        | (exact ret_i (by rw [← hinv, ixE (by omega)]))
        | (have hb := tS_rng hi p; exact ret_i (by rw [← hinv, ixD (p := p) (by omega) (by omega), if_pos (by omega)]))
    · refine r_aload_n (q := 14) dJ1_indexOfChar_4cfef_13 rfl rfl ?_
      refine r_iload (q := 16) dJ1_indexOfChar_4cfef_14 rfl rfl ?_
      refine r_strB (q := 17) dJ1_indexOfChar_4cfef_16 rfl hi (by omega) ?_
      refine r_iload (q := 19) dJ1_indexOfChar_4cfef_17 rfl rfl ?_
      refine r_icmp_ne (q := 22) (tgt := 25) dJ1_indexOfChar_4cfef_19 rfl (by decide) (by have hb := tS_rng hi p; have := (tS_ok i hi).1; omega) (by have hb := tS_rng hi p; have := (tS_ok i hi).1; omega) (fun h19 => ?_) (fun h19 => ?_)
      · refine r_iinc (q := 28) dJ1_indexOfChar_4cfef_25 rfl rfl (by decide) (Lst.setL rfl rfl) ?_
        refine r_goto (q := 7) dJ1_indexOfChar_4cfef_28 (by decide) ?_
        have hb := tS_rng hi p
        exact ih (p + 1) (by omega) (by omega) (by omega) (by rw [← hinv, ixD (p := p) (by omega) (by omega), if_neg (by omega)])
      · refine r_iload (q := 24) dJ1_indexOfChar_4cfef_22 rfl rfl ?_
        refine r_reti dJ1_indexOfChar_4cfef_24 rfl (by decide) (by decide) ?_
        first
          | (exact ret_i (by rw [← hinv, ixE (by omega)]))
          | (have hb := tS_rng hi p; exact ret_i (by rw [← hinv, ixD (p := p) (by omega) (by omega), if_pos (by omega)]))
  refine r_iload_n (q := 1) dJ1_indexOfChar_4cfef_0 rfl rfl ?_
  refine r_i2b (q := 2) dJ1_indexOfChar_4cfef_1 rfl (by omega) (fun c hc => ?_)
  refine r_istore (q := 4) dJ1_indexOfChar_4cfef_2 rfl (by decide) (Lst.setL rfl rfl) ?_
  refine r_iload_n (q := 5) dJ1_indexOfChar_4cfef_4 rfl rfl ?_
  refine r_istore (q := 7) dJ1_indexOfChar_4cfef_5 rfl (by decide) (Lst.setL rfl rfl) ?_
  exact loop c hc k0 (by omega) (by omega) rfl
set_option maxRecDepth 100000 in
set_option maxHeartbeats 4000000 in
theorem j_indexOfBK {i : Nat} (hi : i < nS) {a k0 : Int} (ha : 0 ≤ a ∧ a ≤ 127) (hk : 0 ≤ k0 ∧ k0 < (tS i).length) : Ev γ mJ1_indexOf_4cfef 2 0 0 [.ref (gV γ i), .int (zI a), .int (zI k0), .int (zI (tS i).length)] σ xs (rtn (some (.int (zI (ixK (tS i) a k0)))) σ xs) nX := by
  refine Ev.of1 0 [some (.ref (gV γ i)), some (.int (zI a)), some (.int (zI k0)), some (.int (zI (tS i).length))] rfl pn_J1_indexOf_4cfef rfl (Nat.le_of_ble_eq_true rfl) ?_
  have hln := (tS_ok i hi).1
  refine r_iload_n (q := 1) dJ1_indexOf_4cfef_0 rfl rfl ?_
  refine cS_1 (My := mJ1_canEncode_9a6ad) (q := 4) dJ1_indexOf_4cfef_1 rfl kJ1_88 vJ1_canEncode_9a6ad (j_canEncode (by omega)) ⟨by decide, by decide⟩ ⟨by decide, by decide⟩ (Nat.le_of_ble_eq_true rfl) ?_
  refine r_ifB_ne (q := 7) (tgt := 9) dJ1_indexOf_4cfef_4 rfl (by decide) (fun h4 => ?_) (fun h4 => ?_)
  · refine r_iload_n (q := 10) dJ1_indexOf_4cfef_9 rfl rfl ?_
    refine r_iconst (q := 11) dJ1_indexOf_4cfef_10 rfl ?_
    refine r_max (q := 14) dJ1_indexOf_4cfef_11 rfl jw_max (by omega) (by omega) (by decide) (by decide) (by decide) (Nat.le_of_ble_eq_true rfl) ?_
    rw [if_neg (by omega)]
    refine r_istore_n (q := 15) dJ1_indexOf_4cfef_14 rfl (by decide) (Lst.setL rfl rfl) ?_
    refine r_iload_n (q := 16) dJ1_indexOf_4cfef_15 rfl rfl ?_
    refine r_aload_n (q := 17) dJ1_indexOf_4cfef_16 rfl rfl ?_
    refine r_strL (q := 18) dJ1_indexOf_4cfef_17 rfl hi ?_
    refine r_min (q := 21) dJ1_indexOf_4cfef_18 rfl jw_min (by omega) (by omega) (by decide) (by decide) (by decide) (Nat.le_of_ble_eq_true rfl) ?_
    rw [if_neg (by omega)]
    refine r_istore_n (q := 22) dJ1_indexOf_4cfef_21 rfl (by decide) (Lst.setL rfl rfl) ?_
    refine r_iload_n (q := 23) dJ1_indexOf_4cfef_22 rfl rfl ?_
    refine r_iload_n (q := 24) dJ1_indexOf_4cfef_23 rfl rfl ?_
    refine r_icmp_lt (q := 27) (tgt := 29) dJ1_indexOf_4cfef_24 rfl (by decide) (by omega) (by omega) (fun h24 => ?_) (fun h24 => ?_)
    · refine r_aload_n (q := 30) dJ1_indexOf_4cfef_29 rfl rfl ?_
      refine r_iload_n (q := 31) dJ1_indexOf_4cfef_30 rfl rfl ?_
      refine r_iload_n (q := 32) dJ1_indexOf_4cfef_31 rfl rfl ?_
      refine r_iload_n (q := 33) dJ1_indexOf_4cfef_32 rfl rfl ?_
      refine cS_4 (My := mJ1_indexOfChar_4cfef) (q := 36) dJ1_indexOf_4cfef_33 rfl kJ1_95 vJ1_indexOfChar_4cfef (j_indexOfCharK hi ha hk) ⟨by decide, by decide⟩ ⟨by decide, by decide⟩ (Nat.le_of_ble_eq_true rfl) ?_
      refine r_reti dJ1_indexOf_4cfef_36 rfl (by decide) (by decide) ?_
      first
        | exact ret_i rfl
        | (exfalso; first | omega | (have h5 := of_decide_eq_false h4; omega))
    · refine r_iconst (q := 28) dJ1_indexOf_4cfef_27 rfl ?_
      refine r_reti dJ1_indexOf_4cfef_28 rfl (by decide) (by decide) ?_
      first
        | exact ret_i rfl
        | (exfalso; first | omega | (have h5 := of_decide_eq_false h4; omega))
  · refine r_iconst (q := 8) dJ1_indexOf_4cfef_7 rfl ?_
    refine r_reti dJ1_indexOf_4cfef_8 rfl (by decide) (by decide) ?_
    first
      | exact ret_i rfl
      | (exfalso; first | omega | (have h5 := of_decide_eq_false h4; omega))
set_option maxRecDepth 100000 in
set_option maxHeartbeats 4000000 in
theorem j_indexOfK {i : Nat} (hi : i < nS) {a k0 : Int} (ha : 0 ≤ a ∧ a ≤ 127) (hk : 0 ≤ k0 ∧ k0 < (tS i).length) : Ev γ mJ0_indexOf_7cf53 3 0 0 [.ref (gK γ i), .int (zI a), .int (zI k0)] σ xs (rtn (some (.int (zI (ixK (tS i) a k0)))) σ xs) nX := by
  refine Ev.of1 0 [some (.ref (gK γ i)), some (.int (zI a)), some (.int (zI k0))] rfl pn_J0_indexOf_7cf53 rfl (Nat.le_of_ble_eq_true rfl) ?_
  refine r_aload_n (q := 1) dJ0_indexOf_7cf53_0 rfl rfl ?_
  refine cT_0 (My := mJ0_isLatin1_aae02) (q := 4) dJ0_indexOf_7cf53_1 rfl kJ0_492 vJ0_isLatin1_aae02 hi rfl (j_isLatin1 hi) ⟨by decide, by decide⟩ ⟨by decide, by decide⟩ (Nat.le_of_ble_eq_true rfl) ?_
  refine r_ifB_eq (q := 7) (tgt := 23) dJ0_indexOf_7cf53_4 rfl (by decide) (fun h4 => ?_) (fun h4 => ?_)
  · exact absurd h4 (by decide)
  · refine r_aload_n (q := 8) dJ0_indexOf_7cf53_7 rfl rfl ?_
    refine r_strV (q := 11) dJ0_indexOf_7cf53_8 rfl hi fJ0_9 ?_
    refine r_iload_n (q := 12) dJ0_indexOf_7cf53_11 rfl rfl ?_
    refine r_iload_n (q := 13) dJ0_indexOf_7cf53_12 rfl rfl ?_
    refine r_aload_n (q := 14) dJ0_indexOf_7cf53_13 rfl rfl ?_
    refine cT_0 (My := mJ0_length_8abf5) (q := 17) dJ0_indexOf_7cf53_14 rfl kJ0_505 vJ0_length_8abf5 hi rfl (j_length hi) ⟨by decide, by decide⟩ ⟨by decide, by decide⟩ (Nat.le_of_ble_eq_true rfl) ?_
    refine cS_4 (My := mJ1_indexOf_4cfef) (q := 20) dJ0_indexOf_7cf53_17 rfl kJ0_637 vJ1_indexOf_4cfef (j_indexOfBK hi ha hk) ⟨by decide, by decide⟩ ⟨by decide, by decide⟩ (Nat.le_of_ble_eq_true rfl) ?_
    refine r_goto (q := 36) dJ0_indexOf_7cf53_20 (by decide) ?_
    refine r_reti dJ0_indexOf_7cf53_36 rfl (by decide) (by decide) ?_
    first | exact ret_i rfl
set_option maxRecDepth 100000 in
set_option maxHeartbeats 4000000 in
theorem m_word_1 (hG : Full γ) (hM : Mw σ) {k : Int} (hr : -2147483648 ≤ k ∧ k ≤ 2147483647) (h : ¬ (0 ≤ k ∧ k ≤ 31)) : Ev γ mX5_word 8 1 16 [.ref (ga γ 8 0), .int (zI (k))] σ xs (rtn (some (.int (zI (0)))) (sMcd σ 1) xs) nX := by
  refine Ev.of1 4 [some (.ref (ga γ 8 0)), some (.int (zI (k))), none, none, none, none] rfl pn_X5_word rfl (Nat.le_of_ble_eq_true rfl) ?_
  refine r_bipush (q := 2) dX5_word_0 rfl (bip (by decide) (by decide)) ?_
  refine r_newI (N := 16) (q := 4) dX5_word_2 rfl (by decide) (by decide) aI (by decide) (by decide) (fun a => ?_)
  rw [wRow_0 k.toNat]
  refine r_astore_n (q := 5) dX5_word_4 rfl (by decide) (Lst.setL rfl rfl) ?_
  refine r_iconst (q := 6) dX5_word_5 rfl ?_
  refine r_istore_n (q := 7) dX5_word_6 rfl (by decide) (Lst.setL rfl rfl) ?_
  refine r_iconst (q := 8) dX5_word_7 rfl ?_
  refine r_istore (q := 10) dX5_word_8 rfl (by decide) (Lst.setL rfl rfl) ?_
  refine r_iconst (q := 11) dX5_word_10 rfl ?_
  refine r_istore (q := 13) dX5_word_11 rfl (by decide) (Lst.setL rfl rfl) ?_
  refine r_iload (q := 15) dX5_word_13 rfl rfl ?_
  refine r_iload_n (q := 16) dX5_word_15 rfl rfl ?_
  refine r_icmp_ge (q := 19) (tgt := 42) dX5_word_16 rfl (by decide) (by omega) (by omega) (fun h16 => ?_) (fun h16 => ?_)
  · refine r_iload_n (q := 43) dX5_word_42 rfl rfl ?_
    refine r_iconst (q := 44) dX5_word_43 rfl ?_
    refine r_bipush (q := 46) dX5_word_44 rfl (bip (by decide) (by decide)) ?_
    refine cS_3 (My := mX5_in) (q := 49) dX5_word_46 rfl kX5_41 vX5_in (m_in (by omega) (by omega) (by omega)) ⟨by decide, by decide⟩ ⟨by decide, by decide⟩ (Nat.le_of_ble_eq_true rfl) ?_
    refine r_ifB_eq (q := 52) (tgt := 85) dX5_word_49 rfl (by decide) (fun h49 => ?_) (fun h49 => ?_)
    · refine r_aload_n (q := 86) dX5_word_85 rfl rfl ?_
      refine r_iload_n (q := 87) dX5_word_86 rfl rfl ?_
      refine r_iconst (q := 88) dX5_word_87 rfl ?_
      refine r_bipush (q := 90) dX5_word_88 rfl (bip (by decide) (by decide)) ?_
      refine cS_3 (My := mX5_in) (q := 93) dX5_word_90 rfl kX5_41 vX5_in (m_in (by omega) (by omega) (by omega)) ⟨by decide, by decide⟩ ⟨by decide, by decide⟩ (Nat.le_of_ble_eq_true rfl) ?_
      refine r_ifB_ne (q := 96) (tgt := 100) dX5_word_93 rfl (by decide) (fun h93 => ?_) (fun h93 => ?_)
      · exfalso; simp at h93; omega
      · refine r_iconst (q := 97) dX5_word_96 rfl ?_
        refine r_goto (q := 117) dX5_word_97 (by decide) ?_
        refine cX5_1 (My := mX5_fails) (q := 120) dX5_word_117 rfl kX5_63 vX5_fails (hG _ _ rfl) rfl (m_fails hG (by omega)) ⟨by decide, by decide⟩ ⟨by decide, by decide⟩ (Nat.le_of_ble_eq_true rfl) ?_
        refine r_ifB_eq (q := 123) (tgt := 125) dX5_word_120 rfl (by decide) (fun h120 => ?_) (fun h120 => ?_)
        · exact absurd h120 (by decide)
        · refine r_iconst (q := 124) dX5_word_123 rfl ?_
          refine RW.dropx ?_
          refine r_reti dX5_word_124 rfl (by decide) (by decide) ?_
          exact ret_is rfl rfl
    · exfalso; simp at h49; omega
  · refine r_iload_n (q := 20) dX5_word_19 rfl rfl ?_
    refine r_bipush (q := 22) dX5_word_20 rfl (bip (by decide) (by decide)) ?_
    refine r_icmp_ge (q := 25) (tgt := 42) dX5_word_22 rfl (by decide) (by omega) (by omega) (fun h22 => ?_) (fun h22 => ?_)
    · refine r_iload_n (q := 43) dX5_word_42 rfl rfl ?_
      refine r_iconst (q := 44) dX5_word_43 rfl ?_
      refine r_bipush (q := 46) dX5_word_44 rfl (bip (by decide) (by decide)) ?_
      refine cS_3 (My := mX5_in) (q := 49) dX5_word_46 rfl kX5_41 vX5_in (m_in (by omega) (by omega) (by omega)) ⟨by decide, by decide⟩ ⟨by decide, by decide⟩ (Nat.le_of_ble_eq_true rfl) ?_
      refine r_ifB_eq (q := 52) (tgt := 85) dX5_word_49 rfl (by decide) (fun h49 => ?_) (fun h49 => ?_)
      · refine r_aload_n (q := 86) dX5_word_85 rfl rfl ?_
        refine r_iload_n (q := 87) dX5_word_86 rfl rfl ?_
        refine r_iconst (q := 88) dX5_word_87 rfl ?_
        refine r_bipush (q := 90) dX5_word_88 rfl (bip (by decide) (by decide)) ?_
        refine cS_3 (My := mX5_in) (q := 93) dX5_word_90 rfl kX5_41 vX5_in (m_in (by omega) (by omega) (by omega)) ⟨by decide, by decide⟩ ⟨by decide, by decide⟩ (Nat.le_of_ble_eq_true rfl) ?_
        refine r_ifB_ne (q := 96) (tgt := 100) dX5_word_93 rfl (by decide) (fun h93 => ?_) (fun h93 => ?_)
        · exfalso; simp at h93; omega
        · refine r_iconst (q := 97) dX5_word_96 rfl ?_
          refine r_goto (q := 117) dX5_word_97 (by decide) ?_
          refine cX5_1 (My := mX5_fails) (q := 120) dX5_word_117 rfl kX5_63 vX5_fails (hG _ _ rfl) rfl (m_fails hG (by omega)) ⟨by decide, by decide⟩ ⟨by decide, by decide⟩ (Nat.le_of_ble_eq_true rfl) ?_
          refine r_ifB_eq (q := 123) (tgt := 125) dX5_word_120 rfl (by decide) (fun h120 => ?_) (fun h120 => ?_)
          · exact absurd h120 (by decide)
          · refine r_iconst (q := 124) dX5_word_123 rfl ?_
            refine RW.dropx ?_
            refine r_reti dX5_word_124 rfl (by decide) (by decide) ?_
            exact ret_is rfl rfl
      · exfalso; simp at h49; omega
    · exfalso; omega
set_option maxRecDepth 100000 in
set_option maxHeartbeats 4000000 in
theorem m_word_2 (hG : Full γ) (hM : Mw σ) {k : Int} (hk : 0 ≤ k ∧ k ≤ 31) (h : 60 < msz σ + wL k.toNat) : Ev γ mX5_word 8 1 16 [.ref (ga γ 8 0), .int (zI (k))] σ xs (rtn (some (.int (zI (0)))) (sMcd σ 2) xs) nX := by
  refine Ev.of1 4 [some (.ref (ga γ 8 0)), some (.int (zI (k))), none, none, none, none] rfl pn_X5_word rfl (Nat.le_of_ble_eq_true rfl) ?_
  have hz := hM.sz
  have hp := hM.pm
  have hq : k.toNat < 32 := by omega
  have hA := wA_r k.toNat hq
  have hw0 : 0 ≤ wL k.toNat := Int.natCast_nonneg _
  have main : ∀ a : Nat, RW γ mX5_word 8 1 16 (rtn (some (.int (zI (0)))) (sMcd σ 2) xs) nX 1 16 4 [some (.ref (ga γ 8 0)), some (.int (zI (k))), none, none, none, none] [.ref a] σ ((a, .inl (gc γ 1, (16, .inl (fun j => zI (wRow k.toNat (0) j))))) :: xs) := by
    intro a
    have J85 : RW γ mX5_word 8 1 16 (rtn (some (.int (zI (0)))) (sMcd σ 2) xs) nX 1 16 85 [some (.ref (ga γ 8 0)), some (.int (zI (k))), some (.ref a), some (.int (zI (wA k.toNat))), some (.int (zI (wL k.toNat))), none] [] σ ((a, .inl (gc γ 1, (16, .inl (fun j => zI (wRow k.toNat (wL k.toNat) j))))) :: xs) := by
      refine r_aload_n (q := 86) dX5_word_85 rfl rfl ?_
      refine r_iload_n (q := 87) dX5_word_86 rfl rfl ?_
      refine r_iconst (q := 88) dX5_word_87 rfl ?_
      refine r_bipush (q := 90) dX5_word_88 rfl (bip (by decide) (by decide)) ?_
      refine cS_3 (My := mX5_in) (q := 93) dX5_word_90 rfl kX5_41 vX5_in (m_in (by omega) (by omega) (by omega)) ⟨by decide, by decide⟩ ⟨by decide, by decide⟩ (Nat.le_of_ble_eq_true rfl) ?_
      refine r_ifB_ne (q := 96) (tgt := 100) dX5_word_93 rfl (by decide) (fun h93 => ?_) (fun h93 => ?_)
      · refine r_aload_n (q := 101) dX5_word_100 rfl rfl ?_
        refine g_X5_size (i := 0) (q := 104) dX5_word_101 rfl fX5_53 (hG _ _ rfl) ?_
        refine r_iload (q := 106) dX5_word_104 rfl rfl ?_
        refine r_iadd (q := 107) dX5_word_106 rfl ?_
        refine r_bipush (q := 109) dX5_word_107 rfl (bip (by decide) (by decide)) ?_
        refine r_icmp_le (q := 112) (tgt := 116) dX5_word_109 rfl (by decide) (by omega) (by omega) (fun h109 => ?_) (fun h109 => ?_)
        · exfalso; omega
        · refine r_iconst (q := 113) dX5_word_112 rfl ?_
          refine r_goto (q := 117) dX5_word_113 (by decide) ?_
          refine cX5_1 (My := mX5_fails) (q := 120) dX5_word_117 rfl kX5_63 vX5_fails (hG _ _ rfl) rfl (m_fails hG (by omega)) ⟨by decide, by decide⟩ ⟨by decide, by decide⟩ (Nat.le_of_ble_eq_true rfl) ?_
          refine r_ifB_eq (q := 123) (tgt := 125) dX5_word_120 rfl (by decide) (fun h120 => ?_) (fun h120 => ?_)
          · exact absurd h120 (by decide)
          · refine r_iconst (q := 124) dX5_word_123 rfl ?_
            refine RW.dropx ?_
            refine r_reti dX5_word_124 rfl (by decide) (by decide) ?_
            exact ret_is rfl rfl
      · exfalso; simp at h93; omega
    have loop2 : ∀ n : Int, n ≤ wL k.toNat → 0 ≤ n → RW γ mX5_word 8 1 16 (rtn (some (.int (zI (0)))) (sMcd σ 2) xs) nX 1 16 42 [some (.ref (ga γ 8 0)), some (.int (zI (k))), some (.ref a), some (.int (zI (wA k.toNat))), some (.int (zI (n))), none] [] σ ((a, .inl (gc γ 1, (16, .inl (fun j => zI (wRow k.toNat (n) j))))) :: xs) := by
      refine up (fun n hn9 ih hn0 => ?_)
      have hc9 : n < wL k.toNat → (tS 58).getD (wA k.toNat + n).toNat 0 = (tS (wIx (k.toNat : Int))).getD n.toNat 0 ∧ (tS (wIx (k.toNat : Int))).getD n.toNat 0 ≠ 32 ∧ ((tS (wIx (k.toNat : Int))).getD n.toNat 0 = 37 → n + 2 < wL k.toNat) := fun hnl => by
        have h := wA_c k.toNat hq n.toNat (by omega) (by omega)
        rw [show ((n.toNat : Nat) : Int) = n by omega] at h
        exact h
      refine r_iload_n (q := 43) dX5_word_42 rfl rfl ?_
      refine r_iconst (q := 44) dX5_word_43 rfl ?_
      refine r_bipush (q := 46) dX5_word_44 rfl (bip (by decide) (by decide)) ?_
      refine cS_3 (My := mX5_in) (q := 49) dX5_word_46 rfl kX5_41 vX5_in (m_in (by omega) (by omega) (by omega)) ⟨by decide, by decide⟩ ⟨by decide, by decide⟩ (Nat.le_of_ble_eq_true rfl) ?_
      refine r_ifB_eq (q := 52) (tgt := 85) dX5_word_49 rfl (by decide) (fun h49 => ?_) (fun h49 => ?_)
      · first
          | (exfalso; simp at h49; omega)
          | (have en : n = wL k.toNat := by
               by_cases hnl : n < wL k.toNat
               · exact absurd (hc9 hnl).2.1 (by rw [← (hc9 hnl).1]; simpa using h63)
               · omega
             rw [en]
             exact J85)
      · refine r_ldcS (i := 58) (tx := "http file mailto a : // / ? # @ user u:p host w.x-y.com 1.2.3.4 1.2.3.256 :81 - . a- 9 _ p/q .. x=1&y=2 ;v=1 %41%7e ~(!)*' $ { <> 2147483648 ") (q := 54) dX5_word_52 rfl (List.mem_of_getElem? (i := 63) rfl) ?_
        refine r_iload_n (q := 55) dX5_word_54 rfl rfl ?_
        refine r_iload (q := 57) dX5_word_55 rfl rfl ?_
        refine r_iadd (q := 58) dX5_word_57 rfl ?_
        refine cT_1 (My := mJ0_charAt_5068e) (q := 61) dX5_word_58 rfl kX5_79 vJ0_charAt_5068e (by decide) rfl (j_charAt (by decide) (by omega)) ⟨by decide, by decide⟩ ⟨by decide, by decide⟩ (Nat.le_of_ble_eq_true rfl) ?_
        refine r_bipush (q := 63) dX5_word_61 rfl (bip (by decide) (by decide)) ?_
        refine r_icmp_eq (q := 66) (tgt := 85) dX5_word_63 rfl (by decide) (by have := tS_rng (i := 58) (by decide) (wA k.toNat + n); omega) (by have := tS_rng (i := 58) (by decide) (wA k.toNat + n); omega) (fun h63 => ?_) (fun h63 => ?_)
        · first
            | (exfalso; simp at h49; omega)
            | (have en : n = wL k.toNat := by
                 by_cases hnl : n < wL k.toNat
                 · exact absurd (hc9 hnl).2.1 (by rw [← (hc9 hnl).1]; simpa using h63)
                 · omega
               rw [en]
               exact J85)
        · have hnl : n < wL k.toNat := by
            by_cases hnl : n < wL k.toNat
            · exact hnl
            · have en : n = wL k.toNat := by omega
              rw [en] at h63
              exact absurd hA.2.2.2 h63
          have hcc : (tS 58).getD (wA k.toNat + n).toNat 0 = (tS (wIx (k.toNat : Int))).getD n.toNat 0 := (hc9 hnl).1
          refine r_aload_n (q := 67) dX5_word_66 rfl rfl ?_
          refine r_iload (q := 69) dX5_word_67 rfl rfl ?_
          refine r_ldcS (i := 58) (tx := "http file mailto a : // / ? # @ user u:p host w.x-y.com 1.2.3.4 1.2.3.256 :81 - . a- 9 _ p/q .. x=1&y=2 ;v=1 %41%7e ~(!)*' $ { <> 2147483648 ") (q := 71) dX5_word_69 rfl (List.mem_of_getElem? (i := 63) rfl) ?_
          refine r_iload_n (q := 72) dX5_word_71 rfl rfl ?_
          refine r_iload (q := 74) dX5_word_72 rfl rfl ?_
          refine r_iadd (q := 75) dX5_word_74 rfl ?_
          refine cT_1 (My := mJ0_charAt_5068e) (q := 78) dX5_word_75 rfl kX5_79 vJ0_charAt_5068e (by decide) rfl (j_charAt (by decide) (by omega)) ⟨by decide, by decide⟩ ⟨by decide, by decide⟩ (Nat.le_of_ble_eq_true rfl) ?_
          refine r_xist0 (N := 16) (f := wRow k.toNat n) (q := 79) dX5_word_78 rfl (by omega) ?_
          rw [hcc, show (tS (wIx (k.toNat : Int))).getD n.toNat 0 = wF k.toNat n.toNat from rfl, wRow_s hn0]
          refine r_iinc (q := 82) dX5_word_79 rfl rfl (by decide) (Lst.setL rfl rfl) ?_
          refine r_goto (q := 42) dX5_word_82 (by decide) ?_
          exact ih (n + 1) (by omega) (by omega) (by omega)
    have loop : ∀ q : Int, q ≤ k → 0 ≤ q → RW γ mX5_word 8 1 16 (rtn (some (.int (zI (0)))) (sMcd σ 2) xs) nX 1 16 13 [some (.ref (ga γ 8 0)), some (.int (zI (k))), some (.ref a), some (.int (zI (wA q.toNat))), some (.int (zI (0))), some (.int (zI (q)))] [] σ ((a, .inl (gc γ 1, (16, .inl (fun j => zI (wRow k.toNat (0) j))))) :: xs) := by
      refine up (fun q hq9 ih hq0 => ?_)
      refine r_iload (q := 15) dX5_word_13 rfl rfl ?_
      refine r_iload_n (q := 16) dX5_word_15 rfl rfl ?_
      refine r_icmp_ge (q := 19) (tgt := 42) dX5_word_16 rfl (by decide) (by omega) (by omega) (fun h16 => ?_) (fun h16 => ?_)
      · first
          | (exfalso; omega)
          | (have eq9 : q = k := by omega
             rw [eq9]
             refine RW.drop 5 ?_
             exact loop2 0 (by omega) (by omega))
      · refine r_iload_n (q := 20) dX5_word_19 rfl rfl ?_
        refine r_bipush (q := 22) dX5_word_20 rfl (bip (by decide) (by decide)) ?_
        refine r_icmp_ge (q := 25) (tgt := 42) dX5_word_22 rfl (by decide) (by omega) (by omega) (fun h22 => ?_) (fun h22 => ?_)
        · first
            | (exfalso; omega)
            | (have eq9 : q = k := by omega
               rw [eq9]
               refine RW.drop 5 ?_
               exact loop2 0 (by omega) (by omega))
        · refine r_ldcS (i := 58) (tx := "http file mailto a : // / ? # @ user u:p host w.x-y.com 1.2.3.4 1.2.3.256 :81 - . a- 9 _ p/q .. x=1&y=2 ;v=1 %41%7e ~(!)*' $ { <> 2147483648 ") (q := 27) dX5_word_25 rfl (List.mem_of_getElem? (i := 63) rfl) ?_
          refine r_bipush (q := 29) dX5_word_27 rfl (bip (by decide) (by decide)) ?_
          refine r_iload_n (q := 30) dX5_word_29 rfl rfl ?_
          refine cT_2 (My := mJ0_indexOf_7cf53) (q := 33) dX5_word_30 rfl kX5_76 vJ0_indexOf_7cf53 (by decide) rfl (j_indexOfK (by decide) (by decide) (by have := wA_r q.toNat (by omega); have h7 : 0 ≤ wL q.toNat := Int.natCast_nonneg _; omega)) ⟨by decide, by decide⟩ ⟨by decide, by decide⟩ (Nat.le_of_ble_eq_true rfl) ?_
          refine r_iconst (q := 34) dX5_word_33 rfl ?_
          refine r_iadd (q := 35) dX5_word_34 rfl ?_
          refine r_istore_n (q := 36) dX5_word_35 rfl (by decide) (Lst.setL rfl rfl) ?_
          refine r_iinc (q := 39) dX5_word_36 rfl rfl (by decide) (Lst.setL rfl rfl) ?_
          refine r_goto (q := 13) dX5_word_39 (by decide) ?_
          have e9 := wA_s q.toNat (by omega)
          rw [e9, show q.toNat + 1 = (q + 1).toNat by omega]
          exact ih (q + 1) (by omega) (by omega) (by omega)
    refine r_astore_n (q := 5) dX5_word_4 rfl (by decide) (Lst.setL rfl rfl) ?_
    refine r_iconst (q := 6) dX5_word_5 rfl ?_
    refine r_istore_n (q := 7) dX5_word_6 rfl (by decide) (Lst.setL rfl rfl) ?_
    refine r_iconst (q := 8) dX5_word_7 rfl ?_
    refine r_istore (q := 10) dX5_word_8 rfl (by decide) (Lst.setL rfl rfl) ?_
    refine r_iconst (q := 11) dX5_word_10 rfl ?_
    refine r_istore (q := 13) dX5_word_11 rfl (by decide) (Lst.setL rfl rfl) ?_
    exact loop 0 (by omega) (by omega)
  refine r_bipush (q := 2) dX5_word_0 rfl (bip (by decide) (by decide)) ?_
  refine r_newI (N := 16) (q := 4) dX5_word_2 rfl (by decide) (by decide) aI (by decide) (by decide) (fun a => ?_)
  rw [wRow_0 k.toNat]
  exact main a
set_option maxRecDepth 100000 in
set_option maxHeartbeats 4000000 in
theorem m_word_0 (hG : Full γ) (hM : Mw σ) {k : Int} (hk : 0 ≤ k ∧ k ≤ 31) (h : msz σ + wL k.toNat ≤ 60) (hp2 : mpm σ ≤ msz σ) : Ev γ mX5_word 8 1 16 [.ref (ga γ 8 0), .int (zI (k))] σ xs (rtn (some (.int (zI (msz (mWord (sMcd σ 0) k.toNat))))) (mWord (sMcd σ 0) k.toNat) xs) nX := by
  refine Ev.of1 4 [some (.ref (ga γ 8 0)), some (.int (zI (k))), none, none, none, none] rfl pn_X5_word rfl (Nat.le_of_ble_eq_true rfl) ?_
  have hz := hM.sz
  have hp := hM.pm
  have hq : k.toNat < 32 := by omega
  have hA := wA_r k.toNat hq
  have hw0 : 0 ≤ wL k.toNat := Int.natCast_nonneg _
  have main : ∀ a : Nat, RW γ mX5_word 8 1 16 (rtn (some (.int (zI (msz (mWord (sMcd σ 0) k.toNat))))) (mWord (sMcd σ 0) k.toNat) xs) nX 1 16 4 [some (.ref (ga γ 8 0)), some (.int (zI (k))), none, none, none, none] [.ref a] σ ((a, .inl (gc γ 1, (16, .inl (fun j => zI (wRow k.toNat (0) j))))) :: xs) := by
    intro a
    have J85 : RW γ mX5_word 8 1 16 (rtn (some (.int (zI (msz (mWord (sMcd σ 0) k.toNat))))) (mWord (sMcd σ 0) k.toNat) xs) nX 1 16 85 [some (.ref (ga γ 8 0)), some (.int (zI (k))), some (.ref a), some (.int (zI (wA k.toNat))), some (.int (zI (wL k.toNat))), none] [] σ ((a, .inl (gc γ 1, (16, .inl (fun j => zI (wRow k.toNat (wL k.toNat) j))))) :: xs) := by
      refine r_aload_n (q := 86) dX5_word_85 rfl rfl ?_
      refine r_iload_n (q := 87) dX5_word_86 rfl rfl ?_
      refine r_iconst (q := 88) dX5_word_87 rfl ?_
      refine r_bipush (q := 90) dX5_word_88 rfl (bip (by decide) (by decide)) ?_
      refine cS_3 (My := mX5_in) (q := 93) dX5_word_90 rfl kX5_41 vX5_in (m_in (by omega) (by omega) (by omega)) ⟨by decide, by decide⟩ ⟨by decide, by decide⟩ (Nat.le_of_ble_eq_true rfl) ?_
      refine r_ifB_ne (q := 96) (tgt := 100) dX5_word_93 rfl (by decide) (fun h93 => ?_) (fun h93 => ?_)
      · refine r_aload_n (q := 101) dX5_word_100 rfl rfl ?_
        refine g_X5_size (i := 0) (q := 104) dX5_word_101 rfl fX5_53 (hG _ _ rfl) ?_
        refine r_iload (q := 106) dX5_word_104 rfl rfl ?_
        refine r_iadd (q := 107) dX5_word_106 rfl ?_
        refine r_bipush (q := 109) dX5_word_107 rfl (bip (by decide) (by decide)) ?_
        refine r_icmp_le (q := 112) (tgt := 116) dX5_word_109 rfl (by decide) (by omega) (by omega) (fun h109 => ?_) (fun h109 => ?_)
        · refine r_iconst (q := 117) dX5_word_116 rfl ?_
          refine cX5_1 (My := mX5_fails) (q := 120) dX5_word_117 rfl kX5_63 vX5_fails (hG _ _ rfl) rfl (m_fails hG (by omega)) ⟨by decide, by decide⟩ ⟨by decide, by decide⟩ (Nat.le_of_ble_eq_true rfl) ?_
          refine r_ifB_eq (q := 123) (tgt := 125) dX5_word_120 rfl (by decide) (fun h120 => ?_) (fun h120 => ?_)
          · refine r_aload_n (q := 126) dX5_word_125 rfl rfl ?_
            refine r_aload_n (q := 127) dX5_word_126 rfl rfl ?_
            refine r_iconst (q := 128) dX5_word_127 rfl ?_
            refine r_iload (q := 130) dX5_word_128 rfl rfl ?_
            refine cX5_3v (My := mX5_put) (q := 133) dX5_word_130 rfl kX5_66 vX5_put (hG _ _ rfl) rfl (m_put hG (f := wRow k.toNat (wL k.toNat)) (N := 16) (fun s2 _ => Rd.mem List.mem_cons_self) (by rw [wRow_e]; exact wF_r _) (by rw [wRow_e]; exact wF_w hq) (by omega) (by omega) (by show 0 ≤ msz σ ∧ msz σ + (wL k.toNat - 0) ≤ 60; omega) (by show 0 ≤ mpm σ ∧ mpm σ + (wL k.toNat - 0) ≤ 60; omega)) ⟨by decide, by decide⟩ ⟨by decide, by decide⟩ (Nat.le_of_ble_eq_true rfl) ?_
            refine RW.dropx ?_
            rw [wRow_e]
            refine r_aload_n (q := 134) dX5_word_133 rfl rfl ?_
            refine g_X5_size (i := 0) (q := 137) dX5_word_134 rfl fX5_53 (hG _ _ rfl) ?_
            refine r_reti dX5_word_137 rfl (by decide) (by decide) ?_
            exact ret_is rfl rfl
          · exact absurd h120 (by decide)
        · exfalso; omega
      · exfalso; simp at h93; omega
    have loop2 : ∀ n : Int, n ≤ wL k.toNat → 0 ≤ n → RW γ mX5_word 8 1 16 (rtn (some (.int (zI (msz (mWord (sMcd σ 0) k.toNat))))) (mWord (sMcd σ 0) k.toNat) xs) nX 1 16 42 [some (.ref (ga γ 8 0)), some (.int (zI (k))), some (.ref a), some (.int (zI (wA k.toNat))), some (.int (zI (n))), none] [] σ ((a, .inl (gc γ 1, (16, .inl (fun j => zI (wRow k.toNat (n) j))))) :: xs) := by
      refine up (fun n hn9 ih hn0 => ?_)
      have hc9 : n < wL k.toNat → (tS 58).getD (wA k.toNat + n).toNat 0 = (tS (wIx (k.toNat : Int))).getD n.toNat 0 ∧ (tS (wIx (k.toNat : Int))).getD n.toNat 0 ≠ 32 ∧ ((tS (wIx (k.toNat : Int))).getD n.toNat 0 = 37 → n + 2 < wL k.toNat) := fun hnl => by
        have h := wA_c k.toNat hq n.toNat (by omega) (by omega)
        rw [show ((n.toNat : Nat) : Int) = n by omega] at h
        exact h
      refine r_iload_n (q := 43) dX5_word_42 rfl rfl ?_
      refine r_iconst (q := 44) dX5_word_43 rfl ?_
      refine r_bipush (q := 46) dX5_word_44 rfl (bip (by decide) (by decide)) ?_
      refine cS_3 (My := mX5_in) (q := 49) dX5_word_46 rfl kX5_41 vX5_in (m_in (by omega) (by omega) (by omega)) ⟨by decide, by decide⟩ ⟨by decide, by decide⟩ (Nat.le_of_ble_eq_true rfl) ?_
      refine r_ifB_eq (q := 52) (tgt := 85) dX5_word_49 rfl (by decide) (fun h49 => ?_) (fun h49 => ?_)
      · first
          | (exfalso; simp at h49; omega)
          | (have en : n = wL k.toNat := by
               by_cases hnl : n < wL k.toNat
               · exact absurd (hc9 hnl).2.1 (by rw [← (hc9 hnl).1]; simpa using h63)
               · omega
             rw [en]
             exact J85)
      · refine r_ldcS (i := 58) (tx := "http file mailto a : // / ? # @ user u:p host w.x-y.com 1.2.3.4 1.2.3.256 :81 - . a- 9 _ p/q .. x=1&y=2 ;v=1 %41%7e ~(!)*' $ { <> 2147483648 ") (q := 54) dX5_word_52 rfl (List.mem_of_getElem? (i := 63) rfl) ?_
        refine r_iload_n (q := 55) dX5_word_54 rfl rfl ?_
        refine r_iload (q := 57) dX5_word_55 rfl rfl ?_
        refine r_iadd (q := 58) dX5_word_57 rfl ?_
        refine cT_1 (My := mJ0_charAt_5068e) (q := 61) dX5_word_58 rfl kX5_79 vJ0_charAt_5068e (by decide) rfl (j_charAt (by decide) (by omega)) ⟨by decide, by decide⟩ ⟨by decide, by decide⟩ (Nat.le_of_ble_eq_true rfl) ?_
        refine r_bipush (q := 63) dX5_word_61 rfl (bip (by decide) (by decide)) ?_
        refine r_icmp_eq (q := 66) (tgt := 85) dX5_word_63 rfl (by decide) (by have := tS_rng (i := 58) (by decide) (wA k.toNat + n); omega) (by have := tS_rng (i := 58) (by decide) (wA k.toNat + n); omega) (fun h63 => ?_) (fun h63 => ?_)
        · first
            | (exfalso; simp at h49; omega)
            | (have en : n = wL k.toNat := by
                 by_cases hnl : n < wL k.toNat
                 · exact absurd (hc9 hnl).2.1 (by rw [← (hc9 hnl).1]; simpa using h63)
                 · omega
               rw [en]
               exact J85)
        · have hnl : n < wL k.toNat := by
            by_cases hnl : n < wL k.toNat
            · exact hnl
            · have en : n = wL k.toNat := by omega
              rw [en] at h63
              exact absurd hA.2.2.2 h63
          have hcc : (tS 58).getD (wA k.toNat + n).toNat 0 = (tS (wIx (k.toNat : Int))).getD n.toNat 0 := (hc9 hnl).1
          refine r_aload_n (q := 67) dX5_word_66 rfl rfl ?_
          refine r_iload (q := 69) dX5_word_67 rfl rfl ?_
          refine r_ldcS (i := 58) (tx := "http file mailto a : // / ? # @ user u:p host w.x-y.com 1.2.3.4 1.2.3.256 :81 - . a- 9 _ p/q .. x=1&y=2 ;v=1 %41%7e ~(!)*' $ { <> 2147483648 ") (q := 71) dX5_word_69 rfl (List.mem_of_getElem? (i := 63) rfl) ?_
          refine r_iload_n (q := 72) dX5_word_71 rfl rfl ?_
          refine r_iload (q := 74) dX5_word_72 rfl rfl ?_
          refine r_iadd (q := 75) dX5_word_74 rfl ?_
          refine cT_1 (My := mJ0_charAt_5068e) (q := 78) dX5_word_75 rfl kX5_79 vJ0_charAt_5068e (by decide) rfl (j_charAt (by decide) (by omega)) ⟨by decide, by decide⟩ ⟨by decide, by decide⟩ (Nat.le_of_ble_eq_true rfl) ?_
          refine r_xist0 (N := 16) (f := wRow k.toNat n) (q := 79) dX5_word_78 rfl (by omega) ?_
          rw [hcc, show (tS (wIx (k.toNat : Int))).getD n.toNat 0 = wF k.toNat n.toNat from rfl, wRow_s hn0]
          refine r_iinc (q := 82) dX5_word_79 rfl rfl (by decide) (Lst.setL rfl rfl) ?_
          refine r_goto (q := 42) dX5_word_82 (by decide) ?_
          exact ih (n + 1) (by omega) (by omega) (by omega)
    have loop : ∀ q : Int, q ≤ k → 0 ≤ q → RW γ mX5_word 8 1 16 (rtn (some (.int (zI (msz (mWord (sMcd σ 0) k.toNat))))) (mWord (sMcd σ 0) k.toNat) xs) nX 1 16 13 [some (.ref (ga γ 8 0)), some (.int (zI (k))), some (.ref a), some (.int (zI (wA q.toNat))), some (.int (zI (0))), some (.int (zI (q)))] [] σ ((a, .inl (gc γ 1, (16, .inl (fun j => zI (wRow k.toNat (0) j))))) :: xs) := by
      refine up (fun q hq9 ih hq0 => ?_)
      refine r_iload (q := 15) dX5_word_13 rfl rfl ?_
      refine r_iload_n (q := 16) dX5_word_15 rfl rfl ?_
      refine r_icmp_ge (q := 19) (tgt := 42) dX5_word_16 rfl (by decide) (by omega) (by omega) (fun h16 => ?_) (fun h16 => ?_)
      · first
          | (exfalso; omega)
          | (have eq9 : q = k := by omega
             rw [eq9]
             refine RW.drop 5 ?_
             exact loop2 0 (by omega) (by omega))
      · refine r_iload_n (q := 20) dX5_word_19 rfl rfl ?_
        refine r_bipush (q := 22) dX5_word_20 rfl (bip (by decide) (by decide)) ?_
        refine r_icmp_ge (q := 25) (tgt := 42) dX5_word_22 rfl (by decide) (by omega) (by omega) (fun h22 => ?_) (fun h22 => ?_)
        · first
            | (exfalso; omega)
            | (have eq9 : q = k := by omega
               rw [eq9]
               refine RW.drop 5 ?_
               exact loop2 0 (by omega) (by omega))
        · refine r_ldcS (i := 58) (tx := "http file mailto a : // / ? # @ user u:p host w.x-y.com 1.2.3.4 1.2.3.256 :81 - . a- 9 _ p/q .. x=1&y=2 ;v=1 %41%7e ~(!)*' $ { <> 2147483648 ") (q := 27) dX5_word_25 rfl (List.mem_of_getElem? (i := 63) rfl) ?_
          refine r_bipush (q := 29) dX5_word_27 rfl (bip (by decide) (by decide)) ?_
          refine r_iload_n (q := 30) dX5_word_29 rfl rfl ?_
          refine cT_2 (My := mJ0_indexOf_7cf53) (q := 33) dX5_word_30 rfl kX5_76 vJ0_indexOf_7cf53 (by decide) rfl (j_indexOfK (by decide) (by decide) (by have := wA_r q.toNat (by omega); have h7 : 0 ≤ wL q.toNat := Int.natCast_nonneg _; omega)) ⟨by decide, by decide⟩ ⟨by decide, by decide⟩ (Nat.le_of_ble_eq_true rfl) ?_
          refine r_iconst (q := 34) dX5_word_33 rfl ?_
          refine r_iadd (q := 35) dX5_word_34 rfl ?_
          refine r_istore_n (q := 36) dX5_word_35 rfl (by decide) (Lst.setL rfl rfl) ?_
          refine r_iinc (q := 39) dX5_word_36 rfl rfl (by decide) (Lst.setL rfl rfl) ?_
          refine r_goto (q := 13) dX5_word_39 (by decide) ?_
          have e9 := wA_s q.toNat (by omega)
          rw [e9, show q.toNat + 1 = (q + 1).toNat by omega]
          exact ih (q + 1) (by omega) (by omega) (by omega)
    refine r_astore_n (q := 5) dX5_word_4 rfl (by decide) (Lst.setL rfl rfl) ?_
    refine r_iconst (q := 6) dX5_word_5 rfl ?_
    refine r_istore_n (q := 7) dX5_word_6 rfl (by decide) (Lst.setL rfl rfl) ?_
    refine r_iconst (q := 8) dX5_word_7 rfl ?_
    refine r_istore (q := 10) dX5_word_8 rfl (by decide) (Lst.setL rfl rfl) ?_
    refine r_iconst (q := 11) dX5_word_10 rfl ?_
    refine r_istore (q := 13) dX5_word_11 rfl (by decide) (Lst.setL rfl rfl) ?_
    exact loop 0 (by omega) (by omega)
  refine r_bipush (q := 2) dX5_word_0 rfl (bip (by decide) (by decide)) ?_
  refine r_newI (N := 16) (q := 4) dX5_word_2 rfl (by decide) (by decide) aI (by decide) (by decide) (fun a => ?_)
  rw [wRow_0 k.toNat]
  exact main a
end X5
