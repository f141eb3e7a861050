/-! THE LAW: its loop -/
section LOOP
variable {γ : Gm} {b Ln : Nat} {X : Nat → Int32} {Q : List Frame → Array Value → State → State → Prop} {xs : va_W}
theorem lp_head {c1 n1 : Nat} {i : Int} {σ : St} (hLn : Ln ≤ 2048) (hi : 0 ≤ i ∧ i ≤ 100000) (kt : (Ln : Int) - 4 < i → GW γ mLaw room_1 (ZL γ b Ln X) Q c1 n1 1491 (LL γ b i none none) [] σ xs) (kf : i ≤ (Ln : Int) - 4 → GW γ mLaw room_1 (ZL γ b Ln X) Q c1 n1 32 (LL γ b i none none) [] σ xs) : GW γ mLaw room_1 (ZL γ b Ln X) Q c1 n1 23 (LL γ b i none none) [] σ xs := by
  refine h_iload (q := 25) dL_law_23 rfl rfl ?_
  refine h_aload_n (q := 26) dL_law_25 rfl rfl ?_
  refine h_slen (q := 27) dL_law_26 rfl ?_
  refine h_iconst (q := 28) dL_law_27 rfl ?_
  refine h_isub (q := 29) dL_law_28 rfl ?_
  exact h_icmp_gt (q := 32) (tgt := 1491) dL_law_29 rfl (by decide) (by omega) (by omega) kt kf
theorem lp_body {c1 n1 : Nat} {i : Int} {σ : St} (hG : Full γ) (hi : 0 ≤ i ∧ i + 4 ≤ Ln ∧ Ln ≤ 2048) (hc : c1 + 20 ≤ 601024 ∧ n1 + 60 ≤ 7293034) (hI : Inv σ) (hr9 : rc σ ≤ 1000) (nx : NX γ b Ln X Q c1 n1 i σ xs) : GW γ mLaw room_1 (ZL γ b Ln X) Q c1 n1 32 (LL γ b i none none) [] σ xs := by
  refine h_aload_n (q := 33) dL_law_32 rfl rfl ?_
  refine h_iload (q := 35) dL_law_33 rfl rfl ?_
  refine h_sld (q := 36) dL_law_35 rfl (by omega) ?_
  refine h_bipush (q := 38) dL_law_36 rfl (by decide) ?_
  refine h_iand (q := 39) dL_law_38 rfl ?_
  obtain ⟨j, hj, e⟩ := pk_andE (zI (X i.toNat).toInt) (m := zI 31) 5 (by decide)
  rw [e]
  refine GW.cast rfl (show _ = [Value.int (zI (j : Int))] by rw [show nI j = Int32.ofNat j from rfl, zI_ofNat]) ?_
  rcases (show j = 0 ∨ j = 1 ∨ j = 2 ∨ j = 3 ∨ j = 4 ∨ j = 5 ∨ j = 6 ∨ j = 7 ∨ j = 8 ∨ j = 9 ∨ j = 10 ∨ j = 11 ∨ j = 12 ∨ j = 13 ∨ j = 14 ∨ j = 15 ∨ j = 16 ∨ j = 17 ∨ j = 18 ∨ j = 19 ∨ j = 20 ∨ j = 21 ∨ j = 22 ∨ j = 23 ∨ j = 24 ∨ 25 ≤ j by omega) with rfl | rfl | rfl | rfl | rfl | rfl | rfl | rfl | rfl | rfl | rfl | rfl | rfl | rfl | rfl | rfl | rfl | rfl | rfl | rfl | rfl | rfl | rfl | rfl | rfl | h25
  · exact h_tabI (tgt := 152) dL_law_39 (by decide) (by decide) (by decide) (off := 113) (by decide) (by decide) (do_type hG hi hc hI hr9 nx)
  · exact h_tabI (tgt := 210) dL_law_39 (by decide) (by decide) (by decide) (off := 171) (by decide) (by decide) (do_escape hG hi hc hI hr9 nx)
  · exact h_tabI (tgt := 294) dL_law_39 (by decide) (by decide) (by decide) (off := 255) (by decide) (by decide) (do_word hG hi hc hI hr9 nx)
  · exact h_tabI (tgt := 350) dL_law_39 (by decide) (by decide) (by decide) (off := 311) (by decide) (by decide) (do_drop hG hi hc hI hr9 nx)
  · exact h_tabI (tgt := 394) dL_law_39 (by decide) (by decide) (by decide) (off := 355) (by decide) (by decide) (do_wipe hG hi hc hI hr9 nx)
  · exact h_tabI (tgt := 407) dL_law_39 (by decide) (by decide) (by decide) (off := 368) (by decide) (by decide) (do_length hG hi hc hI hr9 nx)
  · exact h_tabI (tgt := 420) dL_law_39 (by decide) (by decide) (by decide) (off := 381) (by decide) (by decide) (do_signAt hG hi hc hI hr9 nx)
  · exact h_tabI (tgt := 476) dL_law_39 (by decide) (by decide) (by decide) (off := 437) (by decide) (by decide) (do_parse hG hi hc hI hr9 nx)
  · exact h_tabI (tgt := 532) dL_law_39 (by decide) (by decide) (by decide) (off := 493) (by decide) (by decide) (do_refusals hG hi hc hI hr9 nx)
  · exact h_tabI (tgt := 545) dL_law_39 (by decide) (by decide) (by decide) (off := 506) (by decide) (by decide) (do_refusedAt hG hi hc hI hr9 nx)
  · exact h_tabI (tgt := 589) dL_law_39 (by decide) (by decide) (by decide) (off := 550) (by decide) (by decide) (do_isTold hG hi hc hI hr9 nx)
  · exact h_tabI (tgt := 640) dL_law_39 (by decide) (by decide) (by decide) (off := 601) (by decide) (by decide) (do_isThere hG hi hc hI hr9 nx)
  · exact h_tabI (tgt := 703) dL_law_39 (by decide) (by decide) (by decide) (off := 664) (by decide) (by decide) (do_isAbsolute hG hi hc hI hr9 nx)
  · exact h_tabI (tgt := 766) dL_law_39 (by decide) (by decide) (by decide) (off := 727) (by decide) (by decide) (do_isOpaque hG hi hc hI hr9 nx)
  · exact h_tabI (tgt := 829) dL_law_39 (by decide) (by decide) (by decide) (off := 790) (by decide) (by decide) (do_port hG hi hc hI hr9 nx)
  · exact h_tabI (tgt := 885) dL_law_39 (by decide) (by decide) (by decide) (off := 846) (by decide) (by decide) (do_size hG hi hc hI hr9 nx)
  · exact h_tabI (tgt := 955) dL_law_39 (by decide) (by decide) (by decide) (off := 916) (by decide) (by decide) (do_partSign hG hi hc hI hr9 nx)
  · exact h_tabI (tgt := 1037) dL_law_39 (by decide) (by decide) (by decide) (off := 998) (by decide) (by decide) (do_begin hG hi hc hI hr9 nx)
  · exact h_tabI (tgt := 1107) dL_law_39 (by decide) (by decide) (by decide) (off := 1068) (by decide) (by decide) (do_append hG hi hc hI hr9 nx)
  · exact h_tabI (tgt := 1177) dL_law_39 (by decide) (by decide) (by decide) (off := 1138) (by decide) (by decide) (do_copy hG hi hc hI hr9 nx)
  · exact h_tabI (tgt := 1245) dL_law_39 (by decide) (by decide) (by decide) (off := 1206) (by decide) (by decide) (do_alike hG hi hc hI hr9 nx)
  · exact h_tabI (tgt := 1313) dL_law_39 (by decide) (by decide) (by decide) (off := 1274) (by decide) (by decide) (do_together hG hi hc hI hr9 nx)
  · exact h_tabI (tgt := 1376) dL_law_39 (by decide) (by decide) (by decide) (off := 1337) (by decide) (by decide) (do_mix hG hi hc hI hr9 nx)
  · exact h_tabI (tgt := 1458) dL_law_39 (by decide) (by decide) (by decide) (off := 1419) (by decide) (by decide) (do_isTrue hG hi hc hI hr9 nx)
  · exact h_tabI (tgt := 1471) dL_law_39 (by decide) (by decide) (by decide) (off := 1432) (by decide) (by decide) (do_checksum hG hi hc hI hr9 nx)
  · refine h_tabO (tgt := 1485) dL_law_39 (by omega) (Or.inr (by omega)) (by decide) ?_
    exact GW.wid (c1 + 20) (n1 + 60) (by omega) (by omega) (nx.same hI rfl)
theorem lp_go (hG : Full γ) (hLn : Ln ≤ 2048) (exit : ∀ (c1 n1 : Nat) (i : Int) (σ : St), c1 ≤ 601024 → n1 ≤ 7293034 → Inv σ → GW γ mLaw room_1 (ZL γ b Ln X) Q c1 n1 1491 (LL γ b i none none) [] σ xs) : ∀ (k c1 n1 : Nat) (i : Int) (σ : St), 0 ≤ i → i + 4 * (k : Int) ≤ 100000 → (Ln : Int) < i + 4 * (k : Int) + 4 → rc σ + (k : Int) ≤ 1000 → c1 + 20 * k ≤ 601024 → n1 + 60 * k ≤ 7293034 → Inv σ → GW γ mLaw room_1 (ZL γ b Ln X) Q c1 n1 23 (LL γ b i none none) [] σ xs := by
  intro k
  induction k with
  | zero =>
    intro c1 n1 i σ h0 h1 h2 h3 h4 h5 hI
    exact lp_head hLn (by omega) (fun _ => exit c1 n1 i σ (by omega) (by omega) hI) (fun h => absurd h (by omega))
  | succ k ih =>
    intro c1 n1 i σ h0 h1 h2 h3 h4 h5 hI
    refine lp_head hLn (by omega) (fun _ => exit c1 n1 i σ (by omega) (by omega) hI) (fun h => ?_)
    refine lp_body hG (by omega) (by omega) hI (by omega) (fun s hs hr => ?_)
    refine h_iinc (q := 1488) dL_law_1485 rfl rfl (by decide) (Lst.setL rfl rfl) ?_
    refine h_goto (q := 23) dL_law_1488 (by decide) ?_
    exact ih (c1 + 20) (n1 + 60) (i + 4) s (by omega) (by omega) (by omega) (by omega) (by omega) (by omega) hs
end LOOP
