/-! The model: its methods as functions of the state -/
def Mw (σ : St) : Prop := (0 ≤ msz σ ∧ msz σ ≤ 60) ∧ (∀ j, 0 ≤ mtx σ j ∧ mtx σ j < 65536) ∧ (0 ≤ mpm σ ∧ mpm σ ≤ 60) ∧ (∀ j, 0 ≤ mpc σ j ∧ mpc σ j ≤ 3) ∧ (∀ j, 0 ≤ msg σ j ∧ msg σ j < 65536) ∧ (∀ j, -1 ≤ mlo σ j ∧ mlo σ j ≤ 60) ∧ (∀ j, -1 ≤ mfr σ j ∧ mfr σ j ≤ 60) ∧ (∀ j, -1 ≤ mto σ j ∧ mto σ j ≤ 60) ∧ (∀ j, -1 ≤ mpo σ j ∧ mpo σ j ≤ 2147483647) ∧ (∀ j, -1 ≤ mbe σ j ∧ mbe σ j ≤ 60) ∧ (∀ j, -1 ≤ men σ j ∧ men σ j ≤ 60) ∧ (-1 ≤ mpt σ ∧ mpt σ ≤ 2147483647) ∧ (0 ≤ mrf σ ∧ mrf σ ≤ 2147483647)
theorem Mw.sz {σ : St} (h : Mw σ) : 0 ≤ msz σ ∧ msz σ ≤ 60 := h.1
theorem Mw.tx {σ : St} (h : Mw σ) (j : Nat) : 0 ≤ mtx σ j ∧ mtx σ j < 65536 := h.2.1 j
theorem Mw.pm {σ : St} (h : Mw σ) : 0 ≤ mpm σ ∧ mpm σ ≤ 60 := h.2.2.1
theorem Mw.pc {σ : St} (h : Mw σ) (j : Nat) : 0 ≤ mpc σ j ∧ mpc σ j ≤ 3 := h.2.2.2.1 j
theorem Mw.sg {σ : St} (h : Mw σ) (j : Nat) : 0 ≤ msg σ j ∧ msg σ j < 65536 := h.2.2.2.2.1 j
theorem Mw.lo {σ : St} (h : Mw σ) (j : Nat) : -1 ≤ mlo σ j ∧ mlo σ j ≤ 60 := h.2.2.2.2.2.1 j
theorem Mw.fr {σ : St} (h : Mw σ) (j : Nat) : -1 ≤ mfr σ j ∧ mfr σ j ≤ 60 := h.2.2.2.2.2.2.1 j
theorem Mw.to {σ : St} (h : Mw σ) (j : Nat) : -1 ≤ mto σ j ∧ mto σ j ≤ 60 := h.2.2.2.2.2.2.2.1 j
theorem Mw.po {σ : St} (h : Mw σ) (j : Nat) : -1 ≤ mpo σ j ∧ mpo σ j ≤ 2147483647 := h.2.2.2.2.2.2.2.2.1 j
theorem Mw.be {σ : St} (h : Mw σ) (j : Nat) : -1 ≤ mbe σ j ∧ mbe σ j ≤ 60 := h.2.2.2.2.2.2.2.2.2.1 j
theorem Mw.en {σ : St} (h : Mw σ) (j : Nat) : -1 ≤ men σ j ∧ men σ j ≤ 60 := h.2.2.2.2.2.2.2.2.2.2.1 j
theorem Mw.pt {σ : St} (h : Mw σ) : -1 ≤ mpt σ ∧ mpt σ ≤ 2147483647 := h.2.2.2.2.2.2.2.2.2.2.2.1
theorem Mw.rf {σ : St} (h : Mw σ) : 0 ≤ mrf σ ∧ mrf σ ≤ 2147483647 := h.2.2.2.2.2.2.2.2.2.2.2.2
theorem Mw.cd {σ : St} (h : Mw σ) (v : Int) : Mw (sMcd σ v) := h
/-- the model's text, by its places -/
def mT (σ : St) (p : Int) : Int := if 0 ≤ p ∧ p < msz σ then mtx σ p.toNat else 0
theorem mT_in {σ : St} {p : Int} (h : 0 ≤ p ∧ p < msz σ) : mT σ p = mtx σ p.toNat := if_pos h
theorem mT_out {σ : St} {p : Int} (h : ¬ (0 ≤ p ∧ p < msz σ)) : mT σ p = 0 := if_neg h
theorem mT_r {σ : St} (h : Mw σ) (p : Int) : 0 ≤ mT σ p ∧ mT σ p < 65536 := by
  unfold mT
  split
  · exact h.tx _
  · omega
theorem ix3 (c : Int) : (decide (0 ≤ ixO (tS 3) c)) = decide (c = 34 ∨ c = 60 ∨ c = 62 ∨ c = 92 ∨ c = 94 ∨ c = 96 ∨ c = 123 ∨ c = 124 ∨ c = 125) := by
  have e : tS 3 = [34, 60, 62, 92, 94, 96, 123, 124, 125] := rfl
  rw [e]
  unfold ixO
  simp only [ixF]
  repeat' split
  all_goals (simp; try omega)
theorem ix11 (c : Int) : (decide (ixO (tS 11) c < 0)) = decide (c ≠ 37 ∧ c ≠ 91 ∧ c ≠ 93 ∧ c ≠ 48) := by
  have e : tS 11 = [37, 91, 93, 48] := rfl
  rw [e]
  unfold ixO
  simp only [ixF]
  repeat' split
  all_goals (simp; try omega)
theorem okTy_e (c : Int) : okTy c = decide ((33 ≤ c ∧ c ≤ 126) ∧ c ≠ 37 ∧ c ≠ 91 ∧ c ≠ 93 ∧ c ≠ 48) := by
  have h := ix11 c
  have h2 : (ixO (tS 11) c < 0) ↔ (c ≠ 37 ∧ c ≠ 91 ∧ c ≠ 93 ∧ c ≠ 48) := by
    constructor
    · intro z
      rw [decide_eq_true z] at h
      exact of_decide_eq_true h.symm
    · intro z
      rw [decide_eq_true z] at h
      exact of_decide_eq_true h
  unfold okTy
  apply decide_eq_decide.mpr
  rw [h2]
  constructor
  · rintro ⟨a, b, c⟩; exact ⟨⟨a, b⟩, c⟩
  · rintro ⟨⟨a, b⟩, c⟩; exact ⟨a, b, c⟩
-- what put writes: the signs, then size, the piece, and how many pieces
def mS (f : Nat → Int) (k : Int) : Int := if f k.toNat = 37 then 3 else 1
def mW (σ : St) (f : Nat → Int) (k i : Int) : St := sMtx σ (fun j => if msz σ ≤ (j : Int) ∧ (j : Int) < msz σ + i then f (k + ((j : Int) - msz σ)).toNat else mtx σ j)
def m1 (σ : St) (f : Nat → Int) (k : Int) : St := sMpm (sMpc (sMsz (mW σ f k (mS f k)) (msz σ + mS f k)) (u1 (mpc σ) (mpm σ).toNat (mS f k))) (mpm σ + 1)
theorem mS_r (f : Nat → Int) (k : Int) : 1 ≤ mS f k ∧ mS f k ≤ 3 := by unfold mS; split <;> omega
def mPut (σ : St) (f : Nat → Int) (k e : Int) : St := if k < e then mPut (m1 σ f k) f (k + mS f k) e else σ
termination_by (e - k).toNat
decreasing_by have := mS_r f k; omega
theorem mW_0 (σ : St) (f : Nat → Int) (k : Int) : mW σ f k 0 = σ := by
  have e : (fun j : Nat => if msz σ ≤ (j : Int) ∧ (j : Int) < msz σ + 0 then f (k + ((j : Int) - msz σ)).toNat else mtx σ j) = mtx σ := by
    funext j
    rw [if_neg (by omega)]
  unfold mW
  rw [e]
  rfl
theorem mW_s {σ : St} {f : Nat → Int} {k i : Int} (h0 : 0 ≤ i) (hs : 0 ≤ msz σ) : sMtx (mW σ f k i) (u1 (mtx (mW σ f k i)) (msz σ + i).toNat (f (k + i).toNat)) = mW σ f k (i + 1) := by
  have e : u1 (mtx (mW σ f k i)) (msz σ + i).toNat (f (k + i).toNat) = fun j : Nat => if msz σ ≤ (j : Int) ∧ (j : Int) < msz σ + (i + 1) then f (k + ((j : Int) - msz σ)).toNat else mtx σ j := by
    funext j
    unfold u1
    show (if j = (msz σ + i).toNat then f (k + i).toNat else if msz σ ≤ (j : Int) ∧ (j : Int) < msz σ + i then f (k + ((j : Int) - msz σ)).toNat else mtx σ j) = _
    by_cases hj : j = (msz σ + i).toNat
    · rw [if_pos hj, if_pos (by omega)]
      congr 2
      omega
    · rw [if_neg hj]
      by_cases hq : msz σ ≤ (j : Int) ∧ (j : Int) < msz σ + i
      · rw [if_pos hq, if_pos (by omega)]
      · rw [if_neg hq, if_neg (by omega)]
  rw [e]
  rfl
theorem aI : Cond.arrayClass .int ∈ uw := uw_i (by decide +kernel)
def mDig (v : Int) (s : Bool) : Int := if v < 10 then 48 + v else (if s = true then 97 else 65) + v - 10
theorem gCol_y {t : Int → Int} {n : Int} (h : t (gColP t n) = 58) : gCol t n = gColP t n := by unfold gCol; rw [if_pos h]
theorem gCol_n {t : Int → Int} {n : Int} (h : t (gColP t n) ≠ 58) : gCol t n = -1 := by unfold gCol; rw [if_neg h]
section X5
variable {γ : Gm} {σ : St} {xs : va_W}
theorem r_xist0 {M : Md} {d k n : Nat} {Qr : Option Value → St → va_W → Prop} {Qx : String → St → va_W → Prop} {c1 n1 pc q : Nat} {L : List (Option Value)} {st : List Value} {a : Nat} {N : Nat} {f : Nat → Int} {z w : Int} (hd : decode M.2.1 pc = .ok (.iastore, 1)) (hq : pc + 1 = q) (hz : 0 ≤ z ∧ z < (N : Int) ∧ z ≤ 2147483647) (kk : RW γ M d k n Qr Qx c1 n1 q L st σ ((a, .inl (gc γ 1, (N, .inl (fun j => zI (u1 f z.toNat w j))))) :: xs)) : RW γ M d k n Qr Qx c1 n1 pc L (.int (zI w) :: .int (zI z) :: .ref a :: st) σ ((a, .inl (gc γ 1, (N, .inl (fun j => zI (f j))))) :: xs) := r_xist (ix := 0) rfl hd hq hz kk
set_option maxRecDepth 100000 in
set_option maxHeartbeats 4000000 in
theorem m_thrown (hG : Full γ) : Ev γ mX5_thrown 1 0 0 [.ref (ga γ 8 0)] σ xs (rtn (some (.int (zI (mcd σ)))) σ xs) nX := by
  refine Ev.of1 0 [some (.ref (ga γ 8 0))] rfl pn_X5_thrown rfl (Nat.le_of_ble_eq_true rfl) ?_
  refine r_aload_n (q := 1) dX5_thrown_0 rfl rfl ?_
  refine g_X5_code (i := 0) (q := 4) dX5_thrown_1 rfl fX5_37 (hG _ _ rfl) ?_
  refine r_reti dX5_thrown_4 rfl (by decide) (by decide) ?_
  exact ret_i rfl
set_option maxRecDepth 100000 in
set_option maxHeartbeats 4000000 in
theorem m_fails (hG : Full γ) {v : Int} (hv : 0 ≤ v ∧ v ≤ 5) : Ev γ mX5_fails 1 0 0 [.ref (ga γ 8 0), .int (zI (v))] σ xs (rtn (some (.int (zI (bI (decide (0 < v)))))) (sMcd σ v) xs) nX := by
  refine Ev.of1 0 [some (.ref (ga γ 8 0)), some (.int (zI (v)))] rfl pn_X5_fails rfl (Nat.le_of_ble_eq_true rfl) ?_
  refine r_aload_n (q := 1) dX5_fails_0 rfl rfl ?_
  refine r_iload_n (q := 2) dX5_fails_1 rfl rfl ?_
  refine p_X5_code (i := 0) (q := 5) dX5_fails_2 rfl fX5_37 (hG _ _ rfl) ?_
  refine r_iload_n (q := 6) dX5_fails_5 rfl rfl ?_
  refine r_if_le (q := 9) (tgt := 13) dX5_fails_6 rfl (by decide) (by omega) (fun h6 => ?_) (fun h6 => ?_)
  · refine r_iconst (q := 14) dX5_fails_13 rfl ?_
    refine r_retz dX5_fails_14 rfl (by first | rfl | exact narB _) (by decide) (by decide) ?_
    exact ret_is (by simp [bI]; omega) rfl
  · refine r_iconst (q := 10) dX5_fails_9 rfl ?_
    refine r_goto (q := 14) dX5_fails_10 (by decide) ?_
    refine r_retz dX5_fails_14 rfl (by first | rfl | exact narB _) (by decide) (by decide) ?_
    exact ret_is (by simp [bI]; omega) rfl
set_option maxRecDepth 100000 in
set_option maxHeartbeats 4000000 in
theorem m_in {a lo hi : Int} (ha : -2147483648 ≤ a ∧ a ≤ 2147483647) (hl : -2147483648 ≤ lo ∧ lo ≤ 2147483647) (hh : -2147483648 ≤ hi ∧ hi ≤ 2147483647) : Ev γ mX5_in 1 0 0 [.int (zI a), .int (zI lo), .int (zI hi)] σ xs (rtn (some (.int (zI (bI (decide (lo ≤ a ∧ a ≤ hi)))))) σ xs) nX := by
  refine Ev.of1 0 [some (.int (zI a)), some (.int (zI lo)), some (.int (zI hi))] rfl pn_X5_in rfl (Nat.le_of_ble_eq_true rfl) ?_
  refine r_iload_n (q := 1) dX5_in_0 rfl rfl ?_
  refine r_iload_n (q := 2) dX5_in_1 rfl rfl ?_
  refine r_icmp_lt (q := 5) (tgt := 14) dX5_in_2 rfl (by decide) (by omega) (by omega) (fun h2 => ?_) (fun h2 => ?_)
  · refine r_iconst (q := 15) dX5_in_14 rfl ?_
    refine r_retz dX5_in_15 rfl (by first | rfl | exact narB _) (by decide) (by decide) ?_
    exact ret_i (by simp [bI]; omega)
  · refine r_iload_n (q := 6) dX5_in_5 rfl rfl ?_
    refine r_iload_n (q := 7) dX5_in_6 rfl rfl ?_
    refine r_icmp_gt (q := 10) (tgt := 14) dX5_in_7 rfl (by decide) (by omega) (by omega) (fun h7 => ?_) (fun h7 => ?_)
    · refine r_iconst (q := 15) dX5_in_14 rfl ?_
      refine r_retz dX5_in_15 rfl (by first | rfl | exact narB _) (by decide) (by decide) ?_
      exact ret_i (by simp [bI]; omega)
    · refine r_iconst (q := 11) dX5_in_10 rfl ?_
      refine r_goto (q := 15) dX5_in_11 (by decide) ?_
      refine r_retz dX5_in_15 rfl (by first | rfl | exact narB _) (by decide) (by decide) ?_
      exact ret_i (by simp [bI]; omega)
set_option maxRecDepth 100000 in
set_option maxHeartbeats 4000000 in
theorem m_isSlot {k : Int} (hk : -2147483648 ≤ k ∧ k ≤ 2147483647) : Ev γ mX5_isSlot 2 0 0 [.int (zI k)] σ xs (rtn (some (.int (zI (bI (decide (0 ≤ k ∧ k ≤ 3)))))) σ xs) nX := by
  refine Ev.of1 0 [some (.int (zI k))] rfl pn_X5_isSlot rfl (Nat.le_of_ble_eq_true rfl) ?_
  refine r_iload_n (q := 1) dX5_isSlot_0 rfl rfl ?_
  refine r_iconst (q := 2) dX5_isSlot_1 rfl ?_
  refine r_iconst (q := 3) dX5_isSlot_2 rfl ?_
  refine cS_3 (My := mX5_in) (q := 6) dX5_isSlot_3 rfl kX5_41 vX5_in (m_in (by omega) (by omega) (by omega)) ⟨by decide, by decide⟩ ⟨by decide, by decide⟩ (Nat.le_of_ble_eq_true rfl) ?_
  refine r_retz dX5_isSlot_6 rfl (narB _) (by decide) (by decide) ?_
  exact ret_i rfl
set_option maxRecDepth 100000 in
set_option maxHeartbeats 4000000 in
theorem m_partOf {c : Int} (hc : -2147483648 ≤ c ∧ c ≤ 2147483647) : Ev γ mX5_partOf 5 0 0 [.int (zI c)] σ xs (rtn (some (.int (zI (ixO (tS 51) c)))) σ xs) nX := by
  refine Ev.of1 0 [some (.int (zI c))] rfl pn_X5_partOf rfl (Nat.le_of_ble_eq_true rfl) ?_
  refine r_ldcS (i := 51) (tx := "smauhpqfw") (q := 2) dX5_partOf_0 rfl (List.mem_of_getElem? (i := 66) rfl) ?_
  refine r_iload_n (q := 3) dX5_partOf_2 rfl rfl ?_
  refine cT_1 (My := mJ0_indexOf_0f7a4) (q := 6) dX5_partOf_3 rfl kX5_47 vJ0_indexOf_0f7a4 (by decide) rfl (j_indexOf (by decide) hc) ⟨by decide, by decide⟩ ⟨by decide, by decide⟩ (Nat.le_of_ble_eq_true rfl) ?_
  refine r_reti dX5_partOf_6 rfl (by decide) (by decide) ?_
  exact ret_i rfl
set_option maxRecDepth 100000 in
set_option maxHeartbeats 4000000 in
theorem m_isLetter {c : Int} (hc : -2147483648 ≤ c ∧ c ≤ 2147483647) : Ev γ mX5_isLetter 2 0 0 [.int (zI c)] σ xs (rtn (some (.int (zI (bI (gLet c))))) σ xs) nX := by
  refine Ev.of1 0 [some (.int (zI c))] rfl pn_X5_isLetter rfl (Nat.le_of_ble_eq_true rfl) ?_
  refine r_iload_n (q := 1) dX5_isLetter_0 rfl rfl ?_
  refine r_bipush (q := 3) dX5_isLetter_1 rfl (bip (by decide) (by decide)) ?_
  refine r_bipush (q := 5) dX5_isLetter_3 rfl (bip (by decide) (by decide)) ?_
  refine cS_3 (My := mX5_in) (q := 8) dX5_isLetter_5 rfl kX5_41 vX5_in (m_in (by omega) (by omega) (by omega)) ⟨by decide, by decide⟩ ⟨by decide, by decide⟩ (Nat.le_of_ble_eq_true rfl) ?_
  refine r_ifB_ne (q := 11) (tgt := 22) dX5_isLetter_8 rfl (by decide) (fun h8 => ?_) (fun h8 => ?_)
  · refine r_iconst (q := 23) dX5_isLetter_22 rfl ?_
    refine r_goto (q := 27) dX5_isLetter_23 (by decide) ?_
    refine r_retz dX5_isLetter_27 rfl (by first | rfl | exact narB _) (by decide) (by decide) ?_
    exact ret_i (by unfold gLet; simp [bI] at *; omega)
  · refine r_iload_n (q := 12) dX5_isLetter_11 rfl rfl ?_
    refine r_bipush (q := 14) dX5_isLetter_12 rfl (bip (by decide) (by decide)) ?_
    refine r_bipush (q := 16) dX5_isLetter_14 rfl (bip (by decide) (by decide)) ?_
    refine cS_3 (My := mX5_in) (q := 19) dX5_isLetter_16 rfl kX5_41 vX5_in (m_in (by omega) (by omega) (by omega)) ⟨by decide, by decide⟩ ⟨by decide, by decide⟩ (Nat.le_of_ble_eq_true rfl) ?_
    refine r_ifB_eq (q := 22) (tgt := 26) dX5_isLetter_19 rfl (by decide) (fun h19 => ?_) (fun h19 => ?_)
    · refine r_iconst (q := 27) dX5_isLetter_26 rfl ?_
      refine r_retz dX5_isLetter_27 rfl (by first | rfl | exact narB _) (by decide) (by decide) ?_
      exact ret_i (by unfold gLet; simp [bI] at *; omega)
    · refine r_iconst (q := 23) dX5_isLetter_22 rfl ?_
      refine r_goto (q := 27) dX5_isLetter_23 (by decide) ?_
      refine r_retz dX5_isLetter_27 rfl (by first | rfl | exact narB _) (by decide) (by decide) ?_
      exact ret_i (by unfold gLet; simp [bI] at *; omega)
set_option maxRecDepth 100000 in
set_option maxHeartbeats 4000000 in
theorem m_isDigit {c : Int} (hc : -2147483648 ≤ c ∧ c ≤ 2147483647) : Ev γ mX5_isDigit 2 0 0 [.int (zI c)] σ xs (rtn (some (.int (zI (bI (gDig c))))) σ xs) nX := by
  refine Ev.of1 0 [some (.int (zI c))] rfl pn_X5_isDigit rfl (Nat.le_of_ble_eq_true rfl) ?_
  refine r_iload_n (q := 1) dX5_isDigit_0 rfl rfl ?_
  refine r_bipush (q := 3) dX5_isDigit_1 rfl (bip (by decide) (by decide)) ?_
  refine r_bipush (q := 5) dX5_isDigit_3 rfl (bip (by decide) (by decide)) ?_
  refine cS_3 (My := mX5_in) (q := 8) dX5_isDigit_5 rfl kX5_41 vX5_in (m_in (by omega) (by omega) (by omega)) ⟨by decide, by decide⟩ ⟨by decide, by decide⟩ (Nat.le_of_ble_eq_true rfl) ?_
  refine r_retz dX5_isDigit_8 rfl (narB _) (by decide) (by decide) ?_
  exact ret_i rfl
set_option maxRecDepth 100000 in
set_option maxHeartbeats 4000000 in
theorem m_isBad {c : Int} (hc : -2147483648 ≤ c ∧ c ≤ 2147483647) : Ev γ mX5_isBad 1 0 0 [.int (zI c)] σ xs (rtn (some (.int (zI (bI (decide (0 ≤ ixO (tS 3) c)))))) σ xs) nX := by
  refine Ev.of1 0 [some (.int (zI c))] rfl pn_X5_isBad rfl (Nat.le_of_ble_eq_true rfl) ?_
  refine r_iload_n (q := 1) dX5_isBad_0 rfl rfl ?_
  refine r_bipush (q := 3) dX5_isBad_1 rfl (bip (by decide) (by decide)) ?_
  refine r_icmp_eq (q := 6) (tgt := 54) dX5_isBad_3 rfl (by decide) (by omega) (by omega) (fun h3 => ?_) (fun h3 => ?_)
  · refine r_iconst (q := 55) dX5_isBad_54 rfl ?_
    refine r_goto (q := 59) dX5_isBad_55 (by decide) ?_
    refine r_retz dX5_isBad_59 rfl (by first | rfl | exact narB _) (by decide) (by decide) ?_
    exact ret_i (by rw [ix3]; simp [bI]; omega)
  · refine r_iload_n (q := 7) dX5_isBad_6 rfl rfl ?_
    refine r_bipush (q := 9) dX5_isBad_7 rfl (bip (by decide) (by decide)) ?_
    refine r_icmp_eq (q := 12) (tgt := 54) dX5_isBad_9 rfl (by decide) (by omega) (by omega) (fun h9 => ?_) (fun h9 => ?_)
    · refine r_iconst (q := 55) dX5_isBad_54 rfl ?_
      refine r_goto (q := 59) dX5_isBad_55 (by decide) ?_
      refine r_retz dX5_isBad_59 rfl (by first | rfl | exact narB _) (by decide) (by decide) ?_
      exact ret_i (by rw [ix3]; simp [bI]; omega)
    · refine r_iload_n (q := 13) dX5_isBad_12 rfl rfl ?_
      refine r_bipush (q := 15) dX5_isBad_13 rfl (bip (by decide) (by decide)) ?_
      refine r_icmp_eq (q := 18) (tgt := 54) dX5_isBad_15 rfl (by decide) (by omega) (by omega) (fun h15 => ?_) (fun h15 => ?_)
      · refine r_iconst (q := 55) dX5_isBad_54 rfl ?_
        refine r_goto (q := 59) dX5_isBad_55 (by decide) ?_
        refine r_retz dX5_isBad_59 rfl (by first | rfl | exact narB _) (by decide) (by decide) ?_
        exact ret_i (by rw [ix3]; simp [bI]; omega)
      · refine r_iload_n (q := 19) dX5_isBad_18 rfl rfl ?_
        refine r_bipush (q := 21) dX5_isBad_19 rfl (bip (by decide) (by decide)) ?_
        refine r_icmp_eq (q := 24) (tgt := 54) dX5_isBad_21 rfl (by decide) (by omega) (by omega) (fun h21 => ?_) (fun h21 => ?_)
        · refine r_iconst (q := 55) dX5_isBad_54 rfl ?_
          refine r_goto (q := 59) dX5_isBad_55 (by decide) ?_
          refine r_retz dX5_isBad_59 rfl (by first | rfl | exact narB _) (by decide) (by decide) ?_
          exact ret_i (by rw [ix3]; simp [bI]; omega)
        · refine r_iload_n (q := 25) dX5_isBad_24 rfl rfl ?_
          refine r_bipush (q := 27) dX5_isBad_25 rfl (bip (by decide) (by decide)) ?_
          refine r_icmp_eq (q := 30) (tgt := 54) dX5_isBad_27 rfl (by decide) (by omega) (by omega) (fun h27 => ?_) (fun h27 => ?_)
          · refine r_iconst (q := 55) dX5_isBad_54 rfl ?_
            refine r_goto (q := 59) dX5_isBad_55 (by decide) ?_
            refine r_retz dX5_isBad_59 rfl (by first | rfl | exact narB _) (by decide) (by decide) ?_
            exact ret_i (by rw [ix3]; simp [bI]; omega)
          · refine r_iload_n (q := 31) dX5_isBad_30 rfl rfl ?_
            refine r_bipush (q := 33) dX5_isBad_31 rfl (bip (by decide) (by decide)) ?_
            refine r_icmp_eq (q := 36) (tgt := 54) dX5_isBad_33 rfl (by decide) (by omega) (by omega) (fun h33 => ?_) (fun h33 => ?_)
            · refine r_iconst (q := 55) dX5_isBad_54 rfl ?_
              refine r_goto (q := 59) dX5_isBad_55 (by decide) ?_
              refine r_retz dX5_isBad_59 rfl (by first | rfl | exact narB _) (by decide) (by decide) ?_
              exact ret_i (by rw [ix3]; simp [bI]; omega)
            · refine r_iload_n (q := 37) dX5_isBad_36 rfl rfl ?_
              refine r_bipush (q := 39) dX5_isBad_37 rfl (bip (by decide) (by decide)) ?_
              refine r_icmp_eq (q := 42) (tgt := 54) dX5_isBad_39 rfl (by decide) (by omega) (by omega) (fun h39 => ?_) (fun h39 => ?_)
              · refine r_iconst (q := 55) dX5_isBad_54 rfl ?_
                refine r_goto (q := 59) dX5_isBad_55 (by decide) ?_
                refine r_retz dX5_isBad_59 rfl (by first | rfl | exact narB _) (by decide) (by decide) ?_
                exact ret_i (by rw [ix3]; simp [bI]; omega)
              · refine r_iload_n (q := 43) dX5_isBad_42 rfl rfl ?_
                refine r_bipush (q := 45) dX5_isBad_43 rfl (bip (by decide) (by decide)) ?_
                refine r_icmp_eq (q := 48) (tgt := 54) dX5_isBad_45 rfl (by decide) (by omega) (by omega) (fun h45 => ?_) (fun h45 => ?_)
                · refine r_iconst (q := 55) dX5_isBad_54 rfl ?_
                  refine r_goto (q := 59) dX5_isBad_55 (by decide) ?_
                  refine r_retz dX5_isBad_59 rfl (by first | rfl | exact narB _) (by decide) (by decide) ?_
                  exact ret_i (by rw [ix3]; simp [bI]; omega)
                · refine r_iload_n (q := 49) dX5_isBad_48 rfl rfl ?_
                  refine r_bipush (q := 51) dX5_isBad_49 rfl (bip (by decide) (by decide)) ?_
                  refine r_icmp_ne (q := 54) (tgt := 58) dX5_isBad_51 rfl (by decide) (by omega) (by omega) (fun h51 => ?_) (fun h51 => ?_)
                  · refine r_iconst (q := 59) dX5_isBad_58 rfl ?_
                    refine r_retz dX5_isBad_59 rfl (by first | rfl | exact narB _) (by decide) (by decide) ?_
                    exact ret_i (by rw [ix3]; simp [bI]; omega)
                  · refine r_iconst (q := 55) dX5_isBad_54 rfl ?_
                    refine r_goto (q := 59) dX5_isBad_55 (by decide) ?_
                    refine r_retz dX5_isBad_59 rfl (by first | rfl | exact narB _) (by decide) (by decide) ?_
                    exact ret_i (by rw [ix3]; simp [bI]; omega)
set_option maxRecDepth 100000 in
set_option maxHeartbeats 4000000 in
theorem m_canType {c : Int} (hc : -2147483648 ≤ c ∧ c ≤ 2147483647) : Ev γ mX5_canType 2 0 0 [.int (zI c)] σ xs (rtn (some (.int (zI (bI (okTy c))))) σ xs) nX := by
  refine Ev.of1 0 [some (.int (zI c))] rfl pn_X5_canType rfl (Nat.le_of_ble_eq_true rfl) ?_
  refine r_iload_n (q := 1) dX5_canType_0 rfl rfl ?_
  refine r_bipush (q := 3) dX5_canType_1 rfl (bip (by decide) (by decide)) ?_
  refine r_bipush (q := 5) dX5_canType_3 rfl (bip (by decide) (by decide)) ?_
  refine cS_3 (My := mX5_in) (q := 8) dX5_canType_5 rfl kX5_41 vX5_in (m_in (by omega) (by omega) (by omega)) ⟨by decide, by decide⟩ ⟨by decide, by decide⟩ (Nat.le_of_ble_eq_true rfl) ?_
  refine r_ifB_eq (q := 11) (tgt := 39) dX5_canType_8 rfl (by decide) (fun h8 => ?_) (fun h8 => ?_)
  · refine r_iconst (q := 40) dX5_canType_39 rfl ?_
    refine r_retz dX5_canType_40 rfl (by first | rfl | exact narB _) (by decide) (by decide) ?_
    exact ret_i (by rw [okTy_e]; simp [bI] at *; omega)
  · refine r_iload_n (q := 12) dX5_canType_11 rfl rfl ?_
    refine r_bipush (q := 14) dX5_canType_12 rfl (bip (by decide) (by decide)) ?_
    refine r_icmp_eq (q := 17) (tgt := 39) dX5_canType_14 rfl (by decide) (by omega) (by omega) (fun h14 => ?_) (fun h14 => ?_)
    · refine r_iconst (q := 40) dX5_canType_39 rfl ?_
      refine r_retz dX5_canType_40 rfl (by first | rfl | exact narB _) (by decide) (by decide) ?_
      exact ret_i (by rw [okTy_e]; simp [bI] at *; omega)
    · refine r_iload_n (q := 18) dX5_canType_17 rfl rfl ?_
      refine r_bipush (q := 20) dX5_canType_18 rfl (bip (by decide) (by decide)) ?_
      refine r_icmp_eq (q := 23) (tgt := 39) dX5_canType_20 rfl (by decide) (by omega) (by omega) (fun h20 => ?_) (fun h20 => ?_)
      · refine r_iconst (q := 40) dX5_canType_39 rfl ?_
        refine r_retz dX5_canType_40 rfl (by first | rfl | exact narB _) (by decide) (by decide) ?_
        exact ret_i (by rw [okTy_e]; simp [bI] at *; omega)
      · refine r_iload_n (q := 24) dX5_canType_23 rfl rfl ?_
        refine r_bipush (q := 26) dX5_canType_24 rfl (bip (by decide) (by decide)) ?_
        refine r_icmp_eq (q := 29) (tgt := 39) dX5_canType_26 rfl (by decide) (by omega) (by omega) (fun h26 => ?_) (fun h26 => ?_)
        · refine r_iconst (q := 40) dX5_canType_39 rfl ?_
          refine r_retz dX5_canType_40 rfl (by first | rfl | exact narB _) (by decide) (by decide) ?_
          exact ret_i (by rw [okTy_e]; simp [bI] at *; omega)
        · refine r_iload_n (q := 30) dX5_canType_29 rfl rfl ?_
          refine r_bipush (q := 32) dX5_canType_30 rfl (bip (by decide) (by decide)) ?_
          refine r_icmp_eq (q := 35) (tgt := 39) dX5_canType_32 rfl (by decide) (by omega) (by omega) (fun h32 => ?_) (fun h32 => ?_)
          · refine r_iconst (q := 40) dX5_canType_39 rfl ?_
            refine r_retz dX5_canType_40 rfl (by first | rfl | exact narB _) (by decide) (by decide) ?_
            exact ret_i (by rw [okTy_e]; simp [bI] at *; omega)
          · refine r_iconst (q := 36) dX5_canType_35 rfl ?_
            refine r_goto (q := 40) dX5_canType_36 (by decide) ?_
            refine r_retz dX5_canType_40 rfl (by first | rfl | exact narB _) (by decide) (by decide) ?_
            exact ret_i (by rw [okTy_e]; simp [bI] at *; omega)
set_option maxRecDepth 100000 in
set_option maxHeartbeats 4000000 in
theorem m_put (hG : Full γ) {f : Nat → Int} {N a : Nat} (hR : ∀ σ2 : St, msg σ2 = msg σ → Rd γ σ2 xs a N f) (hf : ∀ j, 0 ≤ f j ∧ f j < 65536) {b e : Int} (hA : ∀ p : Int, b ≤ p → p < e → f p.toNat = 37 → p + 2 < e) (hb : 0 ≤ b ∧ b ≤ e) (he : e ≤ N ∧ e ≤ 1000) (hs : 0 ≤ msz σ ∧ msz σ + (e - b) ≤ 60) (hp : 0 ≤ mpm σ ∧ mpm σ + (e - b) ≤ 60) : Ev γ mX5_put 1 0 0 [.ref (ga γ 8 0), .ref a, .int (zI (b)), .int (zI (e))] σ xs (rtn none (mPut σ f b e) xs) nX := by
  refine Ev.of1 3 [some (.ref (ga γ 8 0)), some (.ref a), some (.int (zI (b))), some (.int (zI (e))), none, none, none] rfl pn_X5_put rfl (Nat.le_of_ble_eq_true rfl) ?_
  have loop : ∀ k : Int, k ≤ 1100 → b ≤ k → k ≤ e → ∀ σ1 : St, msg σ1 = msg σ → 0 ≤ msz σ1 → msz σ1 + (e - k) ≤ 60 → 0 ≤ mpm σ1 → mpm σ1 + (e - k) ≤ 60 → mPut σ1 f k e = mPut σ f b e → RW γ mX5_put 1 0 0 (rtn none (mPut σ f b e) xs) nX 0 0 3 [some (.ref (ga γ 8 0)), some (.ref a), some (.int (zI (b))), some (.int (zI (e))), some (.int (zI (k))), none, none] [] (σ1) xs := by
    refine up (fun k hk9 ih hbk hke σ1 hm s0 s1 p0 p1 hr => ?_)
    have hS := mS_r f k
    have J23 : k < e → RW γ mX5_put 1 0 0 (rtn none (mPut σ f b e) xs) nX 0 0 23 [some (.ref (ga γ 8 0)), some (.ref a), some (.int (zI (b))), some (.int (zI (e))), some (.int (zI (k))), none, none] [.int (zI (mS f k))] (σ1) xs := by
      intro hlt
      have hkn : k + mS f k ≤ e := by
        unfold mS
        split
        · rename_i h37
          have := hA k hbk hlt h37
          omega
        · omega
      have J60 : RW γ mX5_put 1 0 0 (rtn none (mPut σ f b e) xs) nX 0 0 60 [some (.ref (ga γ 8 0)), some (.ref a), some (.int (zI (b))), some (.int (zI (e))), some (.int (zI (k))), some (.int (zI (mS f k))), some (.int (zI (mS f k)))] [] (mW σ1 f k (mS f k)) xs := by
        have e1 : msz (mW σ1 f k (mS f k)) = msz σ1 := rfl
        have e2 : mpm (mW σ1 f k (mS f k)) = mpm σ1 := rfl
        refine r_aload_n (q := 61) dX5_put_60 rfl rfl ?_
        refine r_dup (q := 62) dX5_put_61 rfl rfl ?_
        refine g_X5_size (i := 0) (q := 65) dX5_put_62 rfl fX5_53 (hG _ _ rfl) ?_
        refine r_iload (q := 67) dX5_put_65 rfl rfl ?_
        refine r_iadd (q := 68) dX5_put_67 rfl ?_
        refine p_X5_size (i := 0) (q := 71) dX5_put_68 rfl fX5_53 (hG _ _ rfl) ?_
        refine r_aload_n (q := 72) dX5_put_71 rfl rfl ?_
        refine g_X5_pieces (i := 0) (q := 75) dX5_put_72 rfl fX5_13 (hG _ _ rfl) ?_
        refine r_aload_n (q := 76) dX5_put_75 rfl rfl ?_
        refine g_X5_pieceMany (i := 0) (q := 79) dX5_put_76 rfl fX5_56 (hG _ _ rfl) ?_
        refine r_iload (q := 81) dX5_put_79 rfl rfl ?_
        refine s_mpc (i := 0) (q := 82) dX5_put_81 rfl (hG _ _ rfl) (by show 0 ≤ mpm σ1 ∧ mpm σ1 < 60; omega) ?_
        refine r_aload_n (q := 83) dX5_put_82 rfl rfl ?_
        refine r_dup (q := 84) dX5_put_83 rfl rfl ?_
        refine g_X5_pieceMany (i := 0) (q := 87) dX5_put_84 rfl fX5_56 (hG _ _ rfl) ?_
        refine r_iconst (q := 88) dX5_put_87 rfl ?_
        refine r_iadd (q := 89) dX5_put_88 rfl ?_
        refine p_X5_pieceMany (i := 0) (q := 92) dX5_put_89 rfl fX5_56 (hG _ _ rfl) ?_
        refine r_iload (q := 94) dX5_put_92 rfl rfl ?_
        refine r_iload (q := 96) dX5_put_94 rfl rfl ?_
        refine r_iadd (q := 97) dX5_put_96 rfl ?_
        refine r_istore (q := 99) dX5_put_97 rfl (by decide) (Lst.setL rfl rfl) ?_
        refine r_goto (q := 3) dX5_put_99 (by decide) ?_
        refine RW.drop 5 ?_
        refine RW.drop 6 ?_
        exact ih (k + mS f k) (by omega) (by omega) (by omega) (by omega) (m1 σ1 f k) hm (by show 0 ≤ msz σ1 + mS f k; omega) (by show msz σ1 + mS f k + (e - (k + mS f k)) ≤ 60; omega) (by show 0 ≤ mpm σ1 + 1; omega) (by show mpm σ1 + 1 + (e - (k + mS f k)) ≤ 60; omega) (by rw [← hr, mPut.eq_def σ1 f k e, if_pos (by omega)])
      have J28 : ∀ i : Int, i ≤ mS f k → 0 ≤ i → RW γ mX5_put 1 0 0 (rtn none (mPut σ f b e) xs) nX 0 0 28 [some (.ref (ga γ 8 0)), some (.ref a), some (.int (zI (b))), some (.int (zI (e))), some (.int (zI (k))), some (.int (zI (mS f k))), some (.int (zI (i)))] [] (mW σ1 f k i) xs := by
        refine up (fun i hi9 ihi hi0 => ?_)
        have e1 : msz (mW σ1 f k i) = msz σ1 := rfl
        refine r_iload (q := 30) dX5_put_28 rfl rfl ?_
        refine r_iload (q := 32) dX5_put_30 rfl rfl ?_
        refine r_icmp_ge (q := 35) (tgt := 60) dX5_put_32 rfl (by decide) (by omega) (by omega) (fun h32 => ?_) (fun h32 => ?_)
        · have ei : i = mS f k := by omega
          rw [ei]
          exact J60
        · refine r_aload_n (q := 36) dX5_put_35 rfl rfl ?_
          refine g_X5_text (i := 0) (q := 39) dX5_put_36 rfl fX5_7 (hG _ _ rfl) ?_
          refine r_aload_n (q := 40) dX5_put_39 rfl rfl ?_
          refine g_X5_size (i := 0) (q := 43) dX5_put_40 rfl fX5_53 (hG _ _ rfl) ?_
          refine r_iload (q := 45) dX5_put_43 rfl rfl ?_
          refine r_iadd (q := 46) dX5_put_45 rfl ?_
          refine r_aload_n (q := 47) dX5_put_46 rfl rfl ?_
          refine r_iload (q := 49) dX5_put_47 rfl rfl ?_
          refine r_iload (q := 51) dX5_put_49 rfl rfl ?_
          refine r_iadd (q := 52) dX5_put_51 rfl ?_
          refine r_rd (N := N) (f := f) (hR _ (by exact hm)) (q := 53) dX5_put_52 rfl (by omega) ?_
          refine s_mtx (i := 0) (q := 54) dX5_put_53 rfl (hG _ _ rfl) (by omega) ?_
          refine r_iinc (q := 57) dX5_put_54 rfl rfl (by decide) (Lst.setL rfl rfl) ?_
          refine r_goto (q := 28) dX5_put_57 (by decide) ?_
          refine RW.cast (mW_s (by omega) (by omega)) rfl ?_
          exact ihi (i + 1) (by omega) (by omega) (by omega)
      refine r_istore (q := 25) dX5_put_23 rfl (by decide) (Lst.setL rfl rfl) ?_
      refine r_iconst (q := 26) dX5_put_25 rfl ?_
      refine r_istore (q := 28) dX5_put_26 rfl (by decide) (Lst.setL rfl rfl) ?_
      refine RW.cast (mW_0 σ1 f k).symm rfl ?_
      exact J28 0 (by omega) (by omega)
    refine r_iload (q := 5) dX5_put_3 rfl rfl ?_
    refine r_iload_n (q := 6) dX5_put_5 rfl rfl ?_
    refine r_icmp_ge (q := 9) (tgt := 102) dX5_put_6 rfl (by decide) (by first | omega | (have h8 := hf k.toNat; omega)) (by first | omega | (have h8 := hf k.toNat; omega)) (fun h6 => ?_) (fun h6 => ?_)
    · refine r_retv dX5_put_102 rfl (by decide) (by decide) ?_
      exact ret_v (by rw [← hr, mPut.eq_def σ1 f k e, if_neg (by omega)])
    · refine r_aload_n (q := 10) dX5_put_9 rfl rfl ?_
      refine r_iload (q := 12) dX5_put_10 rfl rfl ?_
      refine r_rd (N := N) (f := f) (hR _ (by exact hm)) (q := 13) dX5_put_12 rfl (by omega) ?_
      refine r_bipush (q := 15) dX5_put_13 rfl (bip (by decide) (by decide)) ?_
      refine r_icmp_ne (q := 18) (tgt := 22) dX5_put_15 rfl (by decide) (by first | omega | (have h8 := hf k.toNat; omega)) (by first | omega | (have h8 := hf k.toNat; omega)) (fun h15 => ?_) (fun h15 => ?_)
      · refine r_iconst (q := 23) dX5_put_22 rfl ?_
        first
          | (have e9 : mS f k = 1 := if_neg (by omega)
             rw [e9] at J23; exact J23 (by omega))
          | (have e9 : mS f k = 3 := if_pos (by omega)
             rw [e9] at J23; exact J23 (by omega))
      · refine r_iconst (q := 19) dX5_put_18 rfl ?_
        refine r_goto (q := 23) dX5_put_19 (by decide) ?_
        first
          | (have e9 : mS f k = 1 := if_neg (by omega)
             rw [e9] at J23; exact J23 (by omega))
          | (have e9 : mS f k = 3 := if_pos (by omega)
             rw [e9] at J23; exact J23 (by omega))
  refine r_iload_n (q := 1) dX5_put_0 rfl rfl ?_
  refine r_istore (q := 3) dX5_put_1 rfl (by decide) (Lst.setL rfl rfl) ?_
  exact loop b (by omega) (by omega) (by omega) σ rfl (by omega) (by omega) (by omega) (by omega) rfl
set_option maxRecDepth 100000 in
set_option maxHeartbeats 4000000 in
theorem m_drop_1 (hG : Full γ) (hM : Mw σ) (h : mpm σ = 0) : Ev γ mX5_drop 2 0 0 [.ref (ga γ 8 0)] σ xs (rtn (some (.int (zI 0))) (sMcd σ 1) xs) nX := by
  refine Ev.of1 0 [some (.ref (ga γ 8 0))] rfl pn_X5_drop rfl (Nat.le_of_ble_eq_true rfl) ?_
  have hp := hM.pm
  refine r_aload_n (q := 1) dX5_drop_0 rfl rfl ?_
  refine r_aload_n (q := 2) dX5_drop_1 rfl rfl ?_
  refine g_X5_pieceMany (i := 0) (q := 5) dX5_drop_2 rfl fX5_56 (hG _ _ rfl) ?_
  refine r_if_ne (q := 8) (tgt := 12) dX5_drop_5 rfl (by decide) (by omega) (fun h5 => ?_) (fun h5 => ?_)
  · exfalso; omega
  · refine r_iconst (q := 9) dX5_drop_8 rfl ?_
    refine r_goto (q := 13) dX5_drop_9 (by decide) ?_
    refine cX5_1 (My := mX5_fails) (q := 16) dX5_drop_13 rfl kX5_63 vX5_fails (hG _ _ rfl) rfl (m_fails hG (by omega)) ⟨by decide, by decide⟩ ⟨by decide, by decide⟩ (Nat.le_of_ble_eq_true rfl) ?_
    refine r_ifB_eq (q := 19) (tgt := 21) dX5_drop_16 rfl (by decide) (fun h16 => ?_) (fun h16 => ?_)
    · exact absurd h16 (by decide)
    · refine r_iconst (q := 20) dX5_drop_19 rfl ?_
      refine r_reti dX5_drop_20 rfl (by decide) (by decide) ?_
      exact ret_is rfl rfl
set_option maxRecDepth 100000 in
set_option maxHeartbeats 4000000 in
theorem m_drop_0 (hG : Full γ) (hM : Mw σ) (h : mpm σ ≠ 0) : Ev γ mX5_drop 2 0 0 [.ref (ga γ 8 0)] σ xs (rtn (some (.int (zI (msz σ - mpc σ (mpm σ - 1).toNat)))) (sMsz (sMpm (sMcd σ 0) (mpm σ - 1)) (msz σ - mpc σ (mpm σ - 1).toNat)) xs) nX := by
  refine Ev.of1 0 [some (.ref (ga γ 8 0))] rfl pn_X5_drop rfl (Nat.le_of_ble_eq_true rfl) ?_
  have hp := hM.pm
  refine r_aload_n (q := 1) dX5_drop_0 rfl rfl ?_
  refine r_aload_n (q := 2) dX5_drop_1 rfl rfl ?_
  refine g_X5_pieceMany (i := 0) (q := 5) dX5_drop_2 rfl fX5_56 (hG _ _ rfl) ?_
  refine r_if_ne (q := 8) (tgt := 12) dX5_drop_5 rfl (by decide) (by omega) (fun h5 => ?_) (fun h5 => ?_)
  · refine r_iconst (q := 13) dX5_drop_12 rfl ?_
    refine cX5_1 (My := mX5_fails) (q := 16) dX5_drop_13 rfl kX5_63 vX5_fails (hG _ _ rfl) rfl (m_fails hG (by omega)) ⟨by decide, by decide⟩ ⟨by decide, by decide⟩ (Nat.le_of_ble_eq_true rfl) ?_
    refine r_ifB_eq (q := 19) (tgt := 21) dX5_drop_16 rfl (by decide) (fun h16 => ?_) (fun h16 => ?_)
    · refine r_aload_n (q := 22) dX5_drop_21 rfl rfl ?_
      refine r_dup (q := 23) dX5_drop_22 rfl rfl ?_
      refine g_X5_pieceMany (i := 0) (q := 26) dX5_drop_23 rfl fX5_56 (hG _ _ rfl) ?_
      refine r_iconst (q := 27) dX5_drop_26 rfl ?_
      refine r_isub (q := 28) dX5_drop_27 rfl ?_
      refine p_X5_pieceMany (i := 0) (q := 31) dX5_drop_28 rfl fX5_56 (hG _ _ rfl) ?_
      refine r_aload_n (q := 32) dX5_drop_31 rfl rfl ?_
      refine r_dup (q := 33) dX5_drop_32 rfl rfl ?_
      refine g_X5_size (i := 0) (q := 36) dX5_drop_33 rfl fX5_53 (hG _ _ rfl) ?_
      refine r_aload_n (q := 37) dX5_drop_36 rfl rfl ?_
      refine g_X5_pieces (i := 0) (q := 40) dX5_drop_37 rfl fX5_13 (hG _ _ rfl) ?_
      refine r_aload_n (q := 41) dX5_drop_40 rfl rfl ?_
      refine g_X5_pieceMany (i := 0) (q := 44) dX5_drop_41 rfl fX5_56 (hG _ _ rfl) ?_
      refine l_mpc (i := 0) (q := 45) dX5_drop_44 rfl (hG _ _ rfl) (by show 0 ≤ mpm σ - 1 ∧ mpm σ - 1 < 60; omega) ?_
      refine r_isub (q := 46) dX5_drop_45 rfl ?_
      refine p_X5_size (i := 0) (q := 49) dX5_drop_46 rfl fX5_53 (hG _ _ rfl) ?_
      refine r_aload_n (q := 50) dX5_drop_49 rfl rfl ?_
      refine g_X5_size (i := 0) (q := 53) dX5_drop_50 rfl fX5_53 (hG _ _ rfl) ?_
      refine r_reti dX5_drop_53 rfl (by decide) (by decide) ?_
      exact ret_is rfl rfl
    · exact absurd h16 (by decide)
  · exfalso; omega
set_option maxRecDepth 100000 in
set_option maxHeartbeats 4000000 in
theorem m_wipe (hG : Full γ) : Ev γ mX5_wipe 1 0 0 [.ref (ga γ 8 0)] σ xs (rtn (some (.int (zI (msz σ)))) (sMpm (sMsz (sMcd σ 0) 0) 0) xs) nX := by
  refine Ev.of1 1 [some (.ref (ga γ 8 0)), none] rfl pn_X5_wipe rfl (Nat.le_of_ble_eq_true rfl) ?_
  refine r_aload_n (q := 1) dX5_wipe_0 rfl rfl ?_
  refine r_iconst (q := 2) dX5_wipe_1 rfl ?_
  refine p_X5_code (i := 0) (q := 5) dX5_wipe_2 rfl fX5_37 (hG _ _ rfl) ?_
  refine r_aload_n (q := 6) dX5_wipe_5 rfl rfl ?_
  refine g_X5_size (i := 0) (q := 9) dX5_wipe_6 rfl fX5_53 (hG _ _ rfl) ?_
  refine r_istore_n (q := 10) dX5_wipe_9 rfl (by decide) (Lst.setL rfl rfl) ?_
  refine r_aload_n (q := 11) dX5_wipe_10 rfl rfl ?_
  refine r_iconst (q := 12) dX5_wipe_11 rfl ?_
  refine p_X5_size (i := 0) (q := 15) dX5_wipe_12 rfl fX5_53 (hG _ _ rfl) ?_
  refine r_aload_n (q := 16) dX5_wipe_15 rfl rfl ?_
  refine r_iconst (q := 17) dX5_wipe_16 rfl ?_
  refine p_X5_pieceMany (i := 0) (q := 20) dX5_wipe_17 rfl fX5_56 (hG _ _ rfl) ?_
  refine r_iload_n (q := 21) dX5_wipe_20 rfl rfl ?_
  refine r_reti dX5_wipe_21 rfl (by decide) (by decide) ?_
  exact ret_is rfl rfl
set_option maxRecDepth 100000 in
set_option maxHeartbeats 4000000 in
theorem m_length (hG : Full γ) : Ev γ mX5_length 1 0 0 [.ref (ga γ 8 0)] σ xs (rtn (some (.int (zI (msz σ)))) (sMcd σ 0) xs) nX := by
  refine Ev.of1 0 [some (.ref (ga γ 8 0))] rfl pn_X5_length rfl (Nat.le_of_ble_eq_true rfl) ?_
  refine r_aload_n (q := 1) dX5_length_0 rfl rfl ?_
  refine r_iconst (q := 2) dX5_length_1 rfl ?_
  refine p_X5_code (i := 0) (q := 5) dX5_length_2 rfl fX5_37 (hG _ _ rfl) ?_
  refine r_aload_n (q := 6) dX5_length_5 rfl rfl ?_
  refine g_X5_size (i := 0) (q := 9) dX5_length_6 rfl fX5_53 (hG _ _ rfl) ?_
  refine r_reti dX5_length_9 rfl (by decide) (by decide) ?_
  exact ret_is rfl rfl
set_option maxRecDepth 100000 in
set_option maxHeartbeats 4000000 in
theorem m_signAt_1 (hG : Full γ) (hM : Mw σ) {p : Int} (hp : -2147483648 ≤ p ∧ p ≤ 2147483647) (h : ¬ (0 ≤ p ∧ p < msz σ)) : Ev γ mX5_signAt 2 0 0 [.ref (ga γ 8 0), .int (zI (p))] σ xs (rtn (some (.int (zI 0))) (sMcd σ 1) xs) nX := by
  refine Ev.of1 0 [some (.ref (ga γ 8 0)), some (.int (zI (p)))] rfl pn_X5_signAt rfl (Nat.le_of_ble_eq_true rfl) ?_
  have hs := hM.sz
  refine r_aload_n (q := 1) dX5_signAt_0 rfl rfl ?_
  refine r_iload_n (q := 2) dX5_signAt_1 rfl rfl ?_
  refine r_iconst (q := 3) dX5_signAt_2 rfl ?_
  refine r_aload_n (q := 4) dX5_signAt_3 rfl rfl ?_
  refine g_X5_size (i := 0) (q := 7) dX5_signAt_4 rfl fX5_53 (hG _ _ rfl) ?_
  refine r_iconst (q := 8) dX5_signAt_7 rfl ?_
  refine r_isub (q := 9) dX5_signAt_8 rfl ?_
  refine cS_3 (My := mX5_in) (q := 12) dX5_signAt_9 rfl kX5_41 vX5_in (m_in (by omega) (by omega) (by omega)) ⟨by decide, by decide⟩ ⟨by decide, by decide⟩ (Nat.le_of_ble_eq_true rfl) ?_
  refine r_ifB_eq (q := 15) (tgt := 19) dX5_signAt_12 rfl (by decide) (fun h12 => ?_) (fun h12 => ?_)
  · refine r_iconst (q := 20) dX5_signAt_19 rfl ?_
    refine cX5_1 (My := mX5_fails) (q := 23) dX5_signAt_20 rfl kX5_63 vX5_fails (hG _ _ rfl) rfl (m_fails hG (by omega)) ⟨by decide, by decide⟩ ⟨by decide, by decide⟩ (Nat.le_of_ble_eq_true rfl) ?_
    refine r_ifB_eq (q := 26) (tgt := 30) dX5_signAt_23 rfl (by decide) (fun h23 => ?_) (fun h23 => ?_)
    · exact absurd h23 (by decide)
    · refine r_iconst (q := 27) dX5_signAt_26 rfl ?_
      refine r_goto (q := 37) dX5_signAt_27 (by decide) ?_
      refine r_retz dX5_signAt_37 rfl (narC (by omega)) (by decide) (by decide) ?_
      exact ret_is rfl rfl
  · exfalso; simp at h12; omega
set_option maxRecDepth 100000 in
set_option maxHeartbeats 4000000 in
theorem m_signAt_0 (hG : Full γ) (hM : Mw σ) {p : Int} (hp : -2147483648 ≤ p ∧ p ≤ 2147483647) (h : 0 ≤ p ∧ p < msz σ) : Ev γ mX5_signAt 2 0 0 [.ref (ga γ 8 0), .int (zI (p))] σ xs (rtn (some (.int (zI (mT σ p)))) (sMcd σ 0) xs) nX := by
  refine Ev.of1 0 [some (.ref (ga γ 8 0)), some (.int (zI (p)))] rfl pn_X5_signAt rfl (Nat.le_of_ble_eq_true rfl) ?_
  have hs := hM.sz
  refine r_aload_n (q := 1) dX5_signAt_0 rfl rfl ?_
  refine r_iload_n (q := 2) dX5_signAt_1 rfl rfl ?_
  refine r_iconst (q := 3) dX5_signAt_2 rfl ?_
  refine r_aload_n (q := 4) dX5_signAt_3 rfl rfl ?_
  refine g_X5_size (i := 0) (q := 7) dX5_signAt_4 rfl fX5_53 (hG _ _ rfl) ?_
  refine r_iconst (q := 8) dX5_signAt_7 rfl ?_
  refine r_isub (q := 9) dX5_signAt_8 rfl ?_
  refine cS_3 (My := mX5_in) (q := 12) dX5_signAt_9 rfl kX5_41 vX5_in (m_in (by omega) (by omega) (by omega)) ⟨by decide, by decide⟩ ⟨by decide, by decide⟩ (Nat.le_of_ble_eq_true rfl) ?_
  refine r_ifB_eq (q := 15) (tgt := 19) dX5_signAt_12 rfl (by decide) (fun h12 => ?_) (fun h12 => ?_)
  · exfalso; simp at h12; omega
  · refine r_iconst (q := 16) dX5_signAt_15 rfl ?_
    refine r_goto (q := 20) dX5_signAt_16 (by decide) ?_
    refine cX5_1 (My := mX5_fails) (q := 23) dX5_signAt_20 rfl kX5_63 vX5_fails (hG _ _ rfl) rfl (m_fails hG (by omega)) ⟨by decide, by decide⟩ ⟨by decide, by decide⟩ (Nat.le_of_ble_eq_true rfl) ?_
    refine r_ifB_eq (q := 26) (tgt := 30) dX5_signAt_23 rfl (by decide) (fun h23 => ?_) (fun h23 => ?_)
    · refine r_aload_n (q := 31) dX5_signAt_30 rfl rfl ?_
      refine g_X5_text (i := 0) (q := 34) dX5_signAt_31 rfl fX5_7 (hG _ _ rfl) ?_
      refine r_iload_n (q := 35) dX5_signAt_34 rfl rfl ?_
      refine l_mtx (i := 0) (q := 36) dX5_signAt_35 rfl (hG _ _ rfl) (by omega) ?_
      refine r_i2c (q := 37) dX5_signAt_36 rfl ?_
      refine r_retz dX5_signAt_37 rfl (narC (by omega)) (by decide) (by decide) ?_
      exact ret_is (by rw [mT_in h]; have h8 := hM.tx p.toNat; show mtx σ p.toNat % 65536 = mtx σ p.toNat; omega) rfl
    · exact absurd h23 (by decide)
end X5
