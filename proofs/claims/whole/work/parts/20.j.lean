/-! The JDK's texts: length, charAt, indexOf -/
def ixF (c : Int) : List Int → Int → Int
  | [], _ => -1
  | b :: l, k => if b = c then k else ixF c l (k + 1)
/-- the first place of c among the signs, or -1 -/
def ixO (l : List Int) (c : Int) : Int := ixF c l 0
theorem tS_ok : ∀ i, i < nS → (tS i).length ≤ 200 ∧ ∀ b ∈ tS i, 0 ≤ b ∧ b < 128 := by decide +kernel
theorem tS_get {i : Nat} (hi : i < nS) {z : Int} (h0 : 0 ≤ z) (h1 : z < (tS i).length) : 0 ≤ (tS i).getD z.toNat 0 ∧ (tS i).getD z.toNat 0 < 128 := by
  have hl : z.toNat < (tS i).length := by omega
  rw [List.getD_eq_getElem?_getD, List.getElem?_eq_getElem hl]
  exact (tS_ok i hi).2 _ (List.getElem_mem hl)
theorem ixF_lt (c : Int) : ∀ (l : List Int) (k : Int), -1 ≤ k → -1 ≤ ixF c l k ∧ ixF c l k < k + l.length + 1 := by
  intro l
  induction l with
  | nil => intro k hk; simp [ixF]; omega
  | cons b l ih =>
    intro k hk
    unfold ixF
    have := ih (k + 1) (by omega)
    simp only [List.length_cons]
    split <;> omega
theorem ixO_rng (i : Nat) (hi : i < nS) (c : Int) : -1 ≤ ixO (tS i) c ∧ ixO (tS i) c ≤ 201 := by
  have h := ixF_lt c (tS i) 0 (by omega)
  have := (tS_ok i hi).1
  unfold ixO
  omega
theorem up {e : Int} {P : Int → Prop} (h : ∀ p, p ≤ e → (∀ p', p < p' → p' ≤ e → P p') → P p) : ∀ p, p ≤ e → P p := by
  intro p hp
  have key : ∀ (m : Nat) (p : Int), p ≤ e → (e - p).toNat = m → P p := by
    intro m
    induction m using Nat.strongRecOn with
    | ind m ih =>
      intro p hp hm
      exact h p hp (fun p' h1 h2 => ih (e - p').toNat (by omega) p' h2 rfl)
  exact key _ p hp rfl
theorem and255 {b : Int} (h0 : 0 ≤ b) (h1 : b < 128) : zI b &&& zI 255 = zI b := by
  obtain ⟨n, rfl⟩ : ∃ n : Nat, b = (n : Int) := ⟨b.toNat, by omega⟩
  have h := pk_andN (n := n) (by omega) (m := zI 255) 8 (by decide)
  have e : nI n = zI (n : Int) := zI_ofNat n
  rw [e] at h
  rw [h, Nat.mod_eq_of_lt (by omega), e]
theorem shr0 (a : Int) : zI a >>> (zI 0 &&& 31) = zI a := sb_shr0 (zI a)
theorem jw_max : Cond.methodLink RJ1 92 Lib.Math.max.name ∈ uw ∧ Cond.static Lib.Math.max.name ∈ uw ∧ Cond.initialized "java/lang/Math" ∈ uw ∧ Cond.code Lib.Math.max.name Lib.Math.max.code 2 (some .int) ∈ uw := ⟨uw_i (by decide +kernel), uw_i (by decide +kernel), uw_i (by decide +kernel), uw_i (by decide +kernel)⟩
theorem jw_min : Cond.methodLink RJ1 38 Lib.Math.min.name ∈ uw ∧ Cond.static Lib.Math.min.name ∈ uw ∧ Cond.initialized "java/lang/Math" ∈ uw ∧ Cond.code Lib.Math.min.name Lib.Math.min.code 2 (some .int) ∈ uw := ⟨uw_i (by decide +kernel), uw_i (by decide +kernel), uw_i (by decide +kernel), uw_i (by decide +kernel)⟩
section J
variable {γ : Gm} {σ : St} {xs : va_W}
set_option maxRecDepth 100000 in
set_option maxHeartbeats 4000000 in
theorem j_canEncode {a : Int} (ha : -2147483648 ≤ a ∧ a ≤ 2147483647) : Ev γ mJ1_canEncode_9a6ad 1 0 0 [.int (zI a)] σ xs (rtn (some (.int (zI (bI (decide (0 ≤ a ∧ a ≤ 255)))))) σ xs) nX := by
  refine Ev.of1 0 [some (.int (zI a))] rfl pn_J1_canEncode_9a6ad rfl (Nat.le_of_ble_eq_true rfl) ?_
  refine r_iload_n (q := 1) dJ1_canEncode_9a6ad_0 rfl rfl ?_
  refine r_if_lt (q := 4) (tgt := 15) dJ1_canEncode_9a6ad_1 rfl (by decide) (by omega) (fun h1 => ?_) (fun h1 => ?_)
  · refine r_iconst (q := 16) dJ1_canEncode_9a6ad_15 rfl ?_
    refine r_retz dJ1_canEncode_9a6ad_16 rfl (by first | rfl | exact narB _) (by decide) (by decide) ?_
    exact ret_i (by simp [bI]; omega)
  · refine r_iload_n (q := 5) dJ1_canEncode_9a6ad_4 rfl rfl ?_
    refine r_sipush (q := 8) dJ1_canEncode_9a6ad_5 rfl (sip (by decide) (by decide)) ?_
    refine r_icmp_gt (q := 11) (tgt := 15) dJ1_canEncode_9a6ad_8 rfl (by decide) (by omega) (by omega) (fun h8 => ?_) (fun h8 => ?_)
    · refine r_iconst (q := 16) dJ1_canEncode_9a6ad_15 rfl ?_
      refine r_retz dJ1_canEncode_9a6ad_16 rfl (by first | rfl | exact narB _) (by decide) (by decide) ?_
      exact ret_i (by simp [bI]; omega)
    · refine r_iconst (q := 12) dJ1_canEncode_9a6ad_11 rfl ?_
      refine r_goto (q := 16) dJ1_canEncode_9a6ad_12 (by decide) ?_
      refine r_retz dJ1_canEncode_9a6ad_16 rfl (by first | rfl | exact narB _) (by decide) (by decide) ?_
      exact ret_i (by simp [bI]; omega)
set_option maxRecDepth 100000 in
set_option maxHeartbeats 4000000 in
theorem j_coder {i : Nat} (hi : i < nS) : Ev γ mJ0_coder_7d493 1 0 0 [.ref (gK γ i)] σ xs (rtn (some (.int (zI 0))) σ xs) nX := by
  refine Ev.of1 0 [some (.ref (gK γ i))] rfl pn_J0_coder_7d493 rfl (Nat.le_of_ble_eq_true rfl) ?_
  refine r_strS (q := 3) dJ0_coder_7d493_0 rfl fJ0_38 ?_
  refine r_if_eq (q := 6) (tgt := 13) dJ0_coder_7d493_3 rfl (by decide) (by omega) (fun h3 => ?_) (fun h3 => ?_)
  · refine r_iconst (q := 14) dJ0_coder_7d493_13 rfl ?_
    refine r_retz dJ0_coder_7d493_14 rfl (by decide +kernel) (by decide) (by decide) ?_
    first | exact ret_i (by omega) | (exfalso; omega)
  · refine r_aload_n (q := 7) dJ0_coder_7d493_6 rfl rfl ?_
    refine r_strC (q := 10) dJ0_coder_7d493_7 rfl hi fJ0_15 ?_
    refine r_goto (q := 14) dJ0_coder_7d493_10 (by decide) ?_
    refine r_retz dJ0_coder_7d493_14 rfl (by decide +kernel) (by decide) (by decide) ?_
    first | exact ret_i (by omega) | (exfalso; omega)
set_option maxRecDepth 100000 in
set_option maxHeartbeats 4000000 in
theorem j_isLatin1 {i : Nat} (hi : i < nS) : Ev γ mJ0_isLatin1_aae02 1 0 0 [.ref (gK γ i)] σ xs (rtn (some (.int (zI (bI true)))) σ xs) nX := by
  refine Ev.of1 0 [some (.ref (gK γ i))] rfl pn_J0_isLatin1_aae02 rfl (Nat.le_of_ble_eq_true rfl) ?_
  refine r_strS (q := 3) dJ0_isLatin1_aae02_0 rfl fJ0_38 ?_
  refine r_if_eq (q := 6) (tgt := 17) dJ0_isLatin1_aae02_3 rfl (by decide) (by omega) (fun h3 => ?_) (fun h3 => ?_)
  · refine r_iconst (q := 18) dJ0_isLatin1_aae02_17 rfl ?_
    refine r_retz dJ0_isLatin1_aae02_18 rfl (by first | rfl | exact narB _) (by decide) (by decide) ?_
    first | exact ret_i rfl | (exfalso; omega)
  · refine r_aload_n (q := 7) dJ0_isLatin1_aae02_6 rfl rfl ?_
    refine r_strC (q := 10) dJ0_isLatin1_aae02_7 rfl hi fJ0_15 ?_
    refine r_if_ne (q := 13) (tgt := 17) dJ0_isLatin1_aae02_10 rfl (by decide) (by omega) (fun h10 => ?_) (fun h10 => ?_)
    · refine r_iconst (q := 18) dJ0_isLatin1_aae02_17 rfl ?_
      refine r_retz dJ0_isLatin1_aae02_18 rfl (by first | rfl | exact narB _) (by decide) (by decide) ?_
      first | exact ret_i rfl | (exfalso; omega)
    · refine r_iconst (q := 14) dJ0_isLatin1_aae02_13 rfl ?_
      refine r_goto (q := 18) dJ0_isLatin1_aae02_14 (by decide) ?_
      refine r_retz dJ0_isLatin1_aae02_18 rfl (by first | rfl | exact narB _) (by decide) (by decide) ?_
      first | exact ret_i rfl | (exfalso; omega)
set_option maxRecDepth 100000 in
set_option maxHeartbeats 4000000 in
theorem j_length {i : Nat} (hi : i < nS) : Ev γ mJ0_length_8abf5 2 0 0 [.ref (gK γ i)] σ xs (rtn (some (.int (zI (tS i).length))) σ xs) nX := by
  refine Ev.of1 0 [some (.ref (gK γ i))] rfl pn_J0_length_8abf5 rfl (Nat.le_of_ble_eq_true rfl) ?_
  refine r_aload_n (q := 1) dJ0_length_8abf5_0 rfl rfl ?_
  refine r_strV (q := 4) dJ0_length_8abf5_1 rfl hi fJ0_9 ?_
  refine r_strL (q := 5) dJ0_length_8abf5_4 rfl hi ?_
  refine r_aload_n (q := 6) dJ0_length_8abf5_5 rfl rfl ?_
  refine cT_0 (My := mJ0_coder_7d493) (q := 9) dJ0_length_8abf5_6 rfl kJ0_335 vJ0_coder_7d493 hi rfl (j_coder hi) ⟨by decide, by decide⟩ ⟨by decide, by decide⟩ (Nat.le_of_ble_eq_true rfl) ?_
  refine r_ishr (q := 10) dJ0_length_8abf5_9 rfl (shr0 _) ?_
  refine r_reti dJ0_length_8abf5_10 rfl (by decide) (by decide) ?_
  exact ret_i rfl
theorem tS_rng {i : Nat} (hi : i < nS) (p : Int) : 0 ≤ (tS i).getD p.toNat 0 ∧ (tS i).getD p.toNat 0 < 128 := by
  by_cases hl : p.toNat < (tS i).length
  · rw [List.getD_eq_getElem?_getD, List.getElem?_eq_getElem hl]
    exact (tS_ok i hi).2 _ (List.getElem_mem hl)
  · rw [List.getD_eq_getElem?_getD, List.getElem?_eq_none (by omega)]
    simp
theorem ixD {i : Nat} {p a : Int} (h0 : 0 ≤ p) (h1 : p < (tS i).length) : ixF a ((tS i).drop p.toNat) p = if (tS i).getD p.toNat 0 = a then p else ixF a ((tS i).drop (p + 1).toNat) (p + 1) := by
  have hl : p.toNat < (tS i).length := by omega
  rw [List.drop_eq_getElem_cons hl, ixF, List.getD_eq_getElem?_getD, List.getElem?_eq_getElem hl, show (p + 1).toNat = p.toNat + 1 by omega]
  rfl
theorem ixE {i : Nat} {p a : Int} (h1 : ((tS i).length : Int) ≤ p) : ixF a ((tS i).drop p.toNat) p = -1 := by
  rw [List.drop_eq_nil_iff.mpr (by omega), ixF]
set_option maxRecDepth 100000 in
set_option maxHeartbeats 4000000 in
theorem j_indexOfChar {i : Nat} (hi : i < nS) {a : Int} (ha : 0 ≤ a ∧ a ≤ 255) : Ev γ mJ1_indexOfChar_4cfef 1 0 0 [.ref (gV γ i), .int (zI a), .int (zI 0), .int (zI (tS i).length)] σ xs (rtn (some (.int (zI (ixO (tS i) a)))) σ xs) nX := by
  refine Ev.of1 2 [some (.ref (gV γ i)), some (.int (zI a)), some (.int (zI 0)), some (.int (zI (tS i).length)), none, none] rfl pn_J1_indexOfChar_4cfef rfl (Nat.le_of_ble_eq_true rfl) ?_
  have hln := (tS_ok i hi).1
  have loop : ∀ c : Int, ((a < 128 ∧ c = a) ∨ (128 ≤ a ∧ c = a - 256)) → ∀ p : Int, p ≤ (tS i).length → 0 ≤ p → ixF a ((tS i).drop p.toNat) p = ixO (tS i) a → RW γ mJ1_indexOfChar_4cfef 1 0 0 (rtn (some (.int (zI (ixO (tS i) a)))) σ xs) nX 0 0 7 [some (.ref (gV γ i)), some (.int (zI a)), some (.int (zI 0)), some (.int (zI (tS i).length)), some (.int (zI c)), some (.int (zI p))] [] σ xs := by
    intro c hc
    refine up (fun p hp ih h0 hinv => ?_)
    refine r_iload (q := 9) dJ1_indexOfChar_4cfef_7 rfl rfl ?_
    refine r_iload_n (q := 10) dJ1_indexOfChar_4cfef_9 rfl rfl ?_
    refine r_icmp_ge (q := 13) (tgt := 31) dJ1_indexOfChar_4cfef_10 rfl (by decide) (by have hb := tS_rng hi p; have := (tS_ok i hi).1; omega) (by have hb := tS_rng hi p; have := (tS_ok i hi).1; omega) (fun h10 => ?_) (fun h10 => ?_)
    · refine r_iconst (q := 32) dJ1_indexOfChar_4cfef_31 rfl ?_
      refine r_reti dJ1_indexOfChar_4cfef_32 rfl (by decide) (by decide) ?_
      first
        | (exact ret_i (by rw [← hinv, ixE (by omega)]))
        | (have hb := tS_rng hi p; exact ret_i (by rw [← hinv, ixD (p := p) (by omega) (by omega), if_pos (by omega)]))
    · refine r_aload_n (q := 14) dJ1_indexOfChar_4cfef_13 rfl rfl ?_
      refine r_iload (q := 16) dJ1_indexOfChar_4cfef_14 rfl rfl ?_
      refine r_strB (q := 17) dJ1_indexOfChar_4cfef_16 rfl hi (by omega) ?_
      refine r_iload (q := 19) dJ1_indexOfChar_4cfef_17 rfl rfl ?_
      refine r_icmp_ne (q := 22) (tgt := 25) dJ1_indexOfChar_4cfef_19 rfl (by decide) (by have hb := tS_rng hi p; have := (tS_ok i hi).1; omega) (by have hb := tS_rng hi p; have := (tS_ok i hi).1; omega) (fun h19 => ?_) (fun h19 => ?_)
      · refine r_iinc (q := 28) dJ1_indexOfChar_4cfef_25 rfl rfl (by decide) (Lst.setL rfl rfl) ?_
        refine r_goto (q := 7) dJ1_indexOfChar_4cfef_28 (by decide) ?_
        have hb := tS_rng hi p
        exact ih (p + 1) (by omega) (by omega) (by omega) (by rw [← hinv, ixD (p := p) (by omega) (by omega), if_neg (by omega)])
      · refine r_iload (q := 24) dJ1_indexOfChar_4cfef_22 rfl rfl ?_
        refine r_reti dJ1_indexOfChar_4cfef_24 rfl (by decide) (by decide) ?_
        first
          | (exact ret_i (by rw [← hinv, ixE (by omega)]))
          | (have hb := tS_rng hi p; exact ret_i (by rw [← hinv, ixD (p := p) (by omega) (by omega), if_pos (by omega)]))
  refine r_iload_n (q := 1) dJ1_indexOfChar_4cfef_0 rfl rfl ?_
  refine r_i2b (q := 2) dJ1_indexOfChar_4cfef_1 rfl ha (fun c hc => ?_)
  refine r_istore (q := 4) dJ1_indexOfChar_4cfef_2 rfl (by decide) (Lst.setL rfl rfl) ?_
  refine r_iload_n (q := 5) dJ1_indexOfChar_4cfef_4 rfl rfl ?_
  refine r_istore (q := 7) dJ1_indexOfChar_4cfef_5 rfl (by decide) (Lst.setL rfl rfl) ?_
  exact loop c hc 0 (by omega) (by omega) rfl
theorem ixF_out {c : Int} : ∀ (l : List Int) (k : Int), (∀ b ∈ l, b ≠ c) → ixF c l k = -1 := by
  intro l
  induction l with
  | nil => intro k _; rfl
  | cons b l ih =>
    intro k h
    rw [ixF, if_neg (h b List.mem_cons_self)]
    exact ih (k + 1) (fun b hb => h b (List.mem_cons_of_mem _ hb))
theorem ixO_out {i : Nat} (hi : i < nS) {a : Int} (h : a < 0 ∨ 127 < a ∨ ((tS i).length : Int) ≤ 0) : ixO (tS i) a = -1 := by
  refine ixF_out _ _ (fun b hb e => ?_)
  have := (tS_ok i hi).2 b hb
  have hl : 0 < (tS i).length := List.length_pos_of_mem hb
  omega
set_option maxRecDepth 100000 in
set_option maxHeartbeats 4000000 in
theorem j_indexOfB {i : Nat} (hi : i < nS) {a : Int} (ha : -2147483648 ≤ a ∧ a ≤ 2147483647) : Ev γ mJ1_indexOf_4cfef 2 0 0 [.ref (gV γ i), .int (zI a), .int (zI 0), .int (zI (tS i).length)] σ xs (rtn (some (.int (zI (ixO (tS i) a)))) σ xs) nX := by
  refine Ev.of1 0 [some (.ref (gV γ i)), some (.int (zI a)), some (.int (zI 0)), some (.int (zI (tS i).length))] rfl pn_J1_indexOf_4cfef rfl (Nat.le_of_ble_eq_true rfl) ?_
  have hln := (tS_ok i hi).1
  refine r_iload_n (q := 1) dJ1_indexOf_4cfef_0 rfl rfl ?_
  refine cS_1 (My := mJ1_canEncode_9a6ad) (q := 4) dJ1_indexOf_4cfef_1 rfl kJ1_88 vJ1_canEncode_9a6ad (j_canEncode ha) ⟨by decide, by decide⟩ ⟨by decide, by decide⟩ (Nat.le_of_ble_eq_true rfl) ?_
  refine r_ifB_ne (q := 7) (tgt := 9) dJ1_indexOf_4cfef_4 rfl (by decide) (fun h4 => ?_) (fun h4 => ?_)
  · refine r_iload_n (q := 10) dJ1_indexOf_4cfef_9 rfl rfl ?_
    refine r_iconst (q := 11) dJ1_indexOf_4cfef_10 rfl ?_
    refine r_max (q := 14) dJ1_indexOf_4cfef_11 rfl jw_max (by omega) (by omega) (by decide) (by decide) (by decide) (Nat.le_of_ble_eq_true rfl) ?_
    rw [if_neg (by omega)]
    refine r_istore_n (q := 15) dJ1_indexOf_4cfef_14 rfl (by decide) (Lst.setL rfl rfl) ?_
    refine r_iload_n (q := 16) dJ1_indexOf_4cfef_15 rfl rfl ?_
    refine r_aload_n (q := 17) dJ1_indexOf_4cfef_16 rfl rfl ?_
    refine r_strL (q := 18) dJ1_indexOf_4cfef_17 rfl hi ?_
    refine r_min (q := 21) dJ1_indexOf_4cfef_18 rfl jw_min (by omega) (by omega) (by decide) (by decide) (by decide) (Nat.le_of_ble_eq_true rfl) ?_
    rw [if_neg (by omega)]
    refine r_istore_n (q := 22) dJ1_indexOf_4cfef_21 rfl (by decide) (Lst.setL rfl rfl) ?_
    refine r_iload_n (q := 23) dJ1_indexOf_4cfef_22 rfl rfl ?_
    refine r_iload_n (q := 24) dJ1_indexOf_4cfef_23 rfl rfl ?_
    refine r_icmp_lt (q := 27) (tgt := 29) dJ1_indexOf_4cfef_24 rfl (by decide) (by omega) (by omega) (fun h24 => ?_) (fun h24 => ?_)
    · refine r_aload_n (q := 30) dJ1_indexOf_4cfef_29 rfl rfl ?_
      refine r_iload_n (q := 31) dJ1_indexOf_4cfef_30 rfl rfl ?_
      refine r_iload_n (q := 32) dJ1_indexOf_4cfef_31 rfl rfl ?_
      refine r_iload_n (q := 33) dJ1_indexOf_4cfef_32 rfl rfl ?_
      refine cS_4 (My := mJ1_indexOfChar_4cfef) (q := 36) dJ1_indexOf_4cfef_33 rfl kJ1_95 vJ1_indexOfChar_4cfef (j_indexOfChar hi (by simpa using h4)) ⟨by decide, by decide⟩ ⟨by decide, by decide⟩ (Nat.le_of_ble_eq_true rfl) ?_
      refine r_reti dJ1_indexOf_4cfef_36 rfl (by decide) (by decide) ?_
      first
        | exact ret_i rfl
        | (refine ret_i ?_; exact (ixO_out hi (by first | omega | (have h5 := of_decide_eq_false h4; omega))).symm)
    · refine r_iconst (q := 28) dJ1_indexOf_4cfef_27 rfl ?_
      refine r_reti dJ1_indexOf_4cfef_28 rfl (by decide) (by decide) ?_
      first
        | exact ret_i rfl
        | (refine ret_i ?_; exact (ixO_out hi (by first | omega | (have h5 := of_decide_eq_false h4; omega))).symm)
  · refine r_iconst (q := 8) dJ1_indexOf_4cfef_7 rfl ?_
    refine r_reti dJ1_indexOf_4cfef_8 rfl (by decide) (by decide) ?_
    first
      | exact ret_i rfl
      | (refine ret_i ?_; exact (ixO_out hi (by first | omega | (have h5 := of_decide_eq_false h4; omega))).symm)
set_option maxRecDepth 100000 in
set_option maxHeartbeats 4000000 in
theorem j_indexOf2 {i : Nat} (hi : i < nS) {a : Int} (ha : -2147483648 ≤ a ∧ a ≤ 2147483647) : Ev γ mJ0_indexOf_7cf53 3 0 0 [.ref (gK γ i), .int (zI a), .int (zI 0)] σ xs (rtn (some (.int (zI (ixO (tS i) a)))) σ xs) nX := by
  refine Ev.of1 0 [some (.ref (gK γ i)), some (.int (zI a)), some (.int (zI 0))] rfl pn_J0_indexOf_7cf53 rfl (Nat.le_of_ble_eq_true rfl) ?_
  refine r_aload_n (q := 1) dJ0_indexOf_7cf53_0 rfl rfl ?_
  refine cT_0 (My := mJ0_isLatin1_aae02) (q := 4) dJ0_indexOf_7cf53_1 rfl kJ0_492 vJ0_isLatin1_aae02 hi rfl (j_isLatin1 hi) ⟨by decide, by decide⟩ ⟨by decide, by decide⟩ (Nat.le_of_ble_eq_true rfl) ?_
  refine r_ifB_eq (q := 7) (tgt := 23) dJ0_indexOf_7cf53_4 rfl (by decide) (fun h4 => ?_) (fun h4 => ?_)
  · exact absurd h4 (by decide)
  · refine r_aload_n (q := 8) dJ0_indexOf_7cf53_7 rfl rfl ?_
    refine r_strV (q := 11) dJ0_indexOf_7cf53_8 rfl hi fJ0_9 ?_
    refine r_iload_n (q := 12) dJ0_indexOf_7cf53_11 rfl rfl ?_
    refine r_iload_n (q := 13) dJ0_indexOf_7cf53_12 rfl rfl ?_
    refine r_aload_n (q := 14) dJ0_indexOf_7cf53_13 rfl rfl ?_
    refine cT_0 (My := mJ0_length_8abf5) (q := 17) dJ0_indexOf_7cf53_14 rfl kJ0_505 vJ0_length_8abf5 hi rfl (j_length hi) ⟨by decide, by decide⟩ ⟨by decide, by decide⟩ (Nat.le_of_ble_eq_true rfl) ?_
    refine cS_4 (My := mJ1_indexOf_4cfef) (q := 20) dJ0_indexOf_7cf53_17 rfl kJ0_637 vJ1_indexOf_4cfef (j_indexOfB hi ha) ⟨by decide, by decide⟩ ⟨by decide, by decide⟩ (Nat.le_of_ble_eq_true rfl) ?_
    refine r_goto (q := 36) dJ0_indexOf_7cf53_20 (by decide) ?_
    refine r_reti dJ0_indexOf_7cf53_36 rfl (by decide) (by decide) ?_
    first | exact ret_i rfl
set_option maxRecDepth 100000 in
set_option maxHeartbeats 4000000 in
theorem j_indexOf {i : Nat} (hi : i < nS) {a : Int} (ha : -2147483648 ≤ a ∧ a ≤ 2147483647) : Ev γ mJ0_indexOf_0f7a4 4 0 0 [.ref (gK γ i), .int (zI a)] σ xs (rtn (some (.int (zI (ixO (tS i) a)))) σ xs) nX := by
  refine Ev.of1 0 [some (.ref (gK γ i)), some (.int (zI a))] rfl pn_J0_indexOf_0f7a4 rfl (Nat.le_of_ble_eq_true rfl) ?_
  refine r_aload_n (q := 1) dJ0_indexOf_0f7a4_0 rfl rfl ?_
  refine r_iload_n (q := 2) dJ0_indexOf_0f7a4_1 rfl rfl ?_
  refine r_iconst (q := 3) dJ0_indexOf_0f7a4_2 rfl ?_
  refine cT_2 (My := mJ0_indexOf_7cf53) (q := 6) dJ0_indexOf_0f7a4_3 rfl kJ0_633 vJ0_indexOf_7cf53 hi rfl (j_indexOf2 hi ha) ⟨by decide, by decide⟩ ⟨by decide, by decide⟩ (Nat.le_of_ble_eq_true rfl) ?_
  refine r_reti dJ0_indexOf_0f7a4_6 rfl (by decide) (by decide) ?_
  exact ret_i rfl
set_option maxRecDepth 100000 in
set_option maxHeartbeats 4000000 in
theorem j_checkIx {p n : Int} {v : Value} (hv : v.category = 1) (h : 0 ≤ p ∧ p < n ∧ n ≤ 2147483647) : Ev γ mJ3_checkIndex_8e157 1 0 0 [.int (zI p), .int (zI n), v] σ xs (rtn (some (.int (zI p))) σ xs) nX := by
  refine Ev.of1 0 [some (.int (zI p)), some (.int (zI n)), some v] rfl pn_J3_checkIndex_8e157 (by simp [hv]; exact ⟨rfl, rfl⟩) (by cases v <;> first | (exact Nat.le_of_ble_eq_true rfl) | (simp [Value.category] at hv)) ?_
  refine r_iload_n (q := 1) dJ3_checkIndex_8e157_0 rfl rfl ?_
  refine r_if_lt (q := 4) (tgt := 9) dJ3_checkIndex_8e157_1 rfl (by decide) (by omega) (fun h1 => ?_) (fun h1 => ?_)
  · exfalso; omega
  · refine r_iload_n (q := 5) dJ3_checkIndex_8e157_4 rfl rfl ?_
    refine r_iload_n (q := 6) dJ3_checkIndex_8e157_5 rfl rfl ?_
    refine r_icmp_lt (q := 9) (tgt := 16) dJ3_checkIndex_8e157_6 rfl (by decide) (by omega) (by omega) (fun h6 => ?_) (fun h6 => ?_)
    · refine r_iload_n (q := 17) dJ3_checkIndex_8e157_16 rfl rfl ?_
      refine r_reti dJ3_checkIndex_8e157_17 rfl (by decide) (by decide) ?_
      exact ret_i rfl
    · exfalso; omega
set_option maxRecDepth 100000 in
set_option maxHeartbeats 4000000 in
theorem j_checkIndex {p n : Int} (h : 0 ≤ p ∧ p < n ∧ n ≤ 2147483647) : Ev γ mJ0_checkIndex_df160 2 0 0 [.int (zI p), .int (zI n)] σ xs (rtn none σ xs) nX := by
  refine Ev.of1 0 [some (.int (zI p)), some (.int (zI n))] rfl pn_J0_checkIndex_df160 rfl (Nat.le_of_ble_eq_true rfl) ?_
  refine r_iload_n (q := 1) dJ0_checkIndex_df160_0 rfl rfl ?_
  refine r_iload_n (q := 2) dJ0_checkIndex_df160_1 rfl rfl ?_
  have k9 : ∀ v : Value, v.category = 1 → RW γ mJ0_checkIndex_df160 2 0 0 (rtn none σ xs) nX 0 0 5 [some (.int (zI p)), some (.int (zI n))] [v, .int (zI n), .int (zI p)] σ xs := fun v hv => by
    refine cS_3 (My := mJ3_checkIndex_8e157) (q := 8) dJ0_checkIndex_df160_5 rfl kJ0_1059 vJ3_checkIndex_8e157 (j_checkIx hv h) ⟨by decide, by decide⟩ ⟨by decide, by decide⟩ (Nat.le_of_ble_eq_true rfl) ?_
    refine r_pop (q := 9) dJ0_checkIndex_df160_8 rfl rfl ?_
    exact r_retv dJ0_checkIndex_df160_9 rfl (by decide) (by decide) (ret_v rfl)
  exact r_sio (q := 5) dJ0_checkIndex_df160_2 rfl fJ0_1053 (k9 _ rfl) (fun t => k9 _ rfl)
set_option maxRecDepth 100000 in
set_option maxHeartbeats 4000000 in
theorem j_charAtB {i : Nat} (hi : i < nS) {p : Int} (hp : 0 ≤ p ∧ p < (tS i).length) : Ev γ mJ1_charAt_3b067 3 0 0 [.ref (gV γ i), .int (zI p)] σ xs (rtn (some (.int (zI ((tS i).getD p.toNat 0)))) σ xs) nX := by
  refine Ev.of1 0 [some (.ref (gV γ i)), some (.int (zI p))] rfl pn_J1_charAt_3b067 rfl (Nat.le_of_ble_eq_true rfl) ?_
  have hln := (tS_ok i hi).1
  have hb := tS_rng hi p
  refine r_iload_n (q := 1) dJ1_charAt_3b067_0 rfl rfl ?_
  refine r_aload_n (q := 2) dJ1_charAt_3b067_1 rfl rfl ?_
  refine r_strL (q := 3) dJ1_charAt_3b067_2 rfl hi ?_
  refine cS_2v (My := mJ0_checkIndex_df160) (q := 6) dJ1_charAt_3b067_3 rfl kJ1_9 vJ0_checkIndex_df160 (j_checkIndex (by omega)) ⟨by decide, by decide⟩ ⟨by decide, by decide⟩ (Nat.le_of_ble_eq_true rfl) ?_
  refine r_aload_n (q := 7) dJ1_charAt_3b067_6 rfl rfl ?_
  refine r_iload_n (q := 8) dJ1_charAt_3b067_7 rfl rfl ?_
  refine r_strB (q := 9) dJ1_charAt_3b067_8 rfl hi (by omega) ?_
  refine r_sipush (q := 12) dJ1_charAt_3b067_9 rfl (sip (by decide) (by decide)) ?_
  refine r_iand (q := 13) dJ1_charAt_3b067_12 rfl ?_
  rw [and255 (tS_rng hi p).1 (tS_rng hi p).2]
  refine r_i2c (q := 14) dJ1_charAt_3b067_13 rfl ?_
  refine r_retz dJ1_charAt_3b067_14 rfl (narC (by omega)) (by decide) (by decide) ?_
  exact ret_i (by omega)
set_option maxRecDepth 100000 in
set_option maxHeartbeats 4000000 in
theorem j_charAt {i : Nat} (hi : i < nS) {p : Int} (hp : 0 ≤ p ∧ p < (tS i).length) : Ev γ mJ0_charAt_5068e 4 0 0 [.ref (gK γ i), .int (zI p)] σ xs (rtn (some (.int (zI ((tS i).getD p.toNat 0)))) σ xs) nX := by
  refine Ev.of1 0 [some (.ref (gK γ i)), some (.int (zI p))] rfl pn_J0_charAt_5068e rfl (Nat.le_of_ble_eq_true rfl) ?_
  have hb := tS_rng hi p
  refine r_aload_n (q := 1) dJ0_charAt_5068e_0 rfl rfl ?_
  refine cT_0 (My := mJ0_isLatin1_aae02) (q := 4) dJ0_charAt_5068e_1 rfl kJ0_492 vJ0_isLatin1_aae02 hi rfl (j_isLatin1 hi) ⟨by decide, by decide⟩ ⟨by decide, by decide⟩ (Nat.le_of_ble_eq_true rfl) ?_
  refine r_ifB_eq (q := 7) (tgt := 16) dJ0_charAt_5068e_4 rfl (by decide) (fun h4 => ?_) (fun h4 => ?_)
  · exact absurd h4 (by decide)
  · refine r_aload_n (q := 8) dJ0_charAt_5068e_7 rfl rfl ?_
    refine r_strV (q := 11) dJ0_charAt_5068e_8 rfl hi fJ0_9 ?_
    refine r_iload_n (q := 12) dJ0_charAt_5068e_11 rfl rfl ?_
    refine cS_2 (My := mJ1_charAt_3b067) (q := 15) dJ0_charAt_5068e_12 rfl kJ0_495 vJ1_charAt_3b067 (j_charAtB hi hp) ⟨by decide, by decide⟩ ⟨by decide, by decide⟩ (Nat.le_of_ble_eq_true rfl) ?_
    refine r_retz dJ0_charAt_5068e_15 rfl (narC (by omega)) (by decide) (by decide) ?_
    exact ret_i rfl
end J
