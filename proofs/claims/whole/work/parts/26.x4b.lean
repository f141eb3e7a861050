/-! Linkloom, going on: words, addresses, parts -/
def wIx (k : Int) : Nat := [18, 19, 20, 21, 7, 9, 22, 10, 2, 6, 23, 24, 25, 26, 27, 28, 29, 30, 31, 32, 33, 34, 35, 36, 37, 38, 39, 40, 41, 42, 43, 44].getD k.toNat 8
theorem wIx_ok (k : Int) : wIx k < nS ∧ (tS (wIx k)).length ≤ 10 := by
  have key : ∀ q : Nat, q < 32 → [18, 19, 20, 21, 7, 9, 22, 10, 2, 6, 23, 24, 25, 26, 27, 28, 29, 30, 31, 32, 33, 34, 35, 36, 37, 38, 39, 40, 41, 42, 43, 44].getD q 8 < nS ∧ (tS ([18, 19, 20, 21, 7, 9, 22, 10, 2, 6, 23, 24, 25, 26, 27, 28, 29, 30, 31, 32, 33, 34, 35, 36, 37, 38, 39, 40, 41, 42, 43, 44].getD q 8)).length ≤ 10 := by decide +kernel
  by_cases h : k.toNat < 32
  · exact key _ h
  · have e : wIx k = 8 := by
      unfold wIx
      rw [List.getD_eq_getElem?_getD, List.getElem?_eq_none (by simp; omega)]
      rfl
    rw [e]
    decide
def prs0 (σ : St) : Int := rf (sCut σ 5)
def pPrs (σ : St) (k : Int) : St := if prs0 σ = -1 then pATk (sCut σ 5) k.toNat 4 else sRp (sRc (sCut σ 5) (rc (sCut σ 5) + 1)) (prs0 σ)
def pCopy (σ : St) (k k2 : Int) : St := pATk σ k2.toNat k.toNat
def cntF (σ : St) (a k : Int) : Int := if k < 4 then cntF σ (if hld σ k.toNat = true then a + 1 else a) (k + 1) else a
termination_by (4 - k).toNat
decreasing_by omega
def pTog (σ : St) (k : Int) : St := pTak (pWv σ k.toNat k.toNat (-1)) 5 6 0
def pMixW (σ : St) (k k2 c : Int) : St := pWv σ k.toNat k2.toNat (ixO (tS 51) c)
def pMix (σ : St) (k k2 c : Int) : St := pTak (pMixW σ k k2 c) 5 6 0
section X4b
variable {γ : Gm} {σ : St} {xs : va_W} {i j : Nat}
theorem r_ldcSw {M : Md} {d k n : Nat} {Qr : Option Value → St → va_W → Prop} {Qx : String → St → va_W → Prop} {c1 n1 pc q : Nat} {L : List (Option Value)} {st : List Value} {idx i : Nat} {tx : String} (hd : decode M.2.1 pc = .ok (.ldc_w idx, 3)) (hq : pc + 3 = q) (hm : (M.1.cls, idx, i, tx) ∈ stab) (kk : RW γ M d k n Qr Qx c1 n1 q L (.ref (gK γ i) :: st) σ xs) : RW γ M d k n Qr Qx c1 n1 pc L st σ xs := by
  subst hq
  intro p e s m args below meth c H locs ls C hS hC hG hl
  intro T hT X
  obtain ⟨t, a1, b1⟩ := kk p e s m args below meth c H locs ls C hS hC hG hl T hT X
  have hZ := C.2.2.2.2.2.2.2.2.1.2.1 _ hm
  exact ⟨t, X.ldcStringW C.1 C.2.2.2.2.1 (text := tx) (a := gK γ i) hZ.1 hZ.2 (g := F0 m pc ls st) rfl (by rw [C.2.1]; exact hd) t a1, b1⟩
theorem r_tab {M : Md} {d k n : Nat} {Qr : Option Value → St → va_W → Prop} {Qx : String → St → va_W → Prop} {c1 n1 pc : Nat} {L : List (Option Value)} {st : List Value} {dflt lo hi : Int} {offs : Array Int} {len tgt : Nat} {z off : Int} (hd : decode M.2.1 pc = .ok (.tableswitch dflt lo hi offs, len)) (h1 : lo ≤ z) (h2 : z ≤ hi) (h3 : offs[(z - lo).toNat]? = some off) (ht : (pc : Int) + off = (tgt : Int)) (hz : -2147483648 ≤ z ∧ z ≤ 2147483647) (kk : RW γ M d k n Qr Qx c1 n1 tgt L st σ xs) : RW γ M d k n Qr Qx c1 n1 pc L (.int (zI z) :: st) σ xs := by
  intro p e s m args below meth c H locs ls C hS hC hG hl
  have e9 : (zI z).toInt = z := zI_toInt hz.1 hz.2
  exact lv_tableIn C.1 C.2.1 hd (by rw [e9]; omega) (by rw [e9]; omega) (by rw [e9]; exact h3) ht (kk p e s m args below meth c H locs ls C hS hC hG hl)
set_option maxRecDepth 100000 in
set_option maxHeartbeats 4000000 in
theorem x4_wordAt {k : Int} (hk : 0 ≤ k ∧ k < 32) : Ev γ mX4_wordAt 1 0 0 [.int (zI k)] σ xs (rtn (some (.ref (gK γ (wIx k)))) σ xs) nX := by
  obtain ⟨m, rfl⟩ : ∃ m : Nat, k = (m : Int) := ⟨k.toNat, by omega⟩
  have hm : m < 32 := by omega
  refine Ev.of1 0 [some (.int (zI m))] rfl pn_X4_wordAt rfl (Nat.le_of_ble_eq_true rfl) ?_
  refine r_iload_n (q := 1) dX4_wordAt_0 rfl rfl ?_
  match m, hm with
  | 0, _ => exact r_tab (tgt := 144) (off := 143) dX4_wordAt_1 (by decide) (by decide) rfl (by decide) (by decide) (by
      refine r_ldcS (i := 18) (tx := "http") (q := 146) dX4_wordAt_144 rfl (List.mem_of_getElem? (i := 20) rfl) ?_
      exact r_reta dX4_wordAt_146 rfl (by decide) (by decide) ⟨rfl, rfl, rfl⟩)
  | 1, _ => exact r_tab (tgt := 147) (off := 146) dX4_wordAt_1 (by decide) (by decide) rfl (by decide) (by decide) (by
      refine r_ldcS (i := 19) (tx := "file") (q := 149) dX4_wordAt_147 rfl (List.mem_of_getElem? (i := 21) rfl) ?_
      exact r_reta dX4_wordAt_149 rfl (by decide) (by decide) ⟨rfl, rfl, rfl⟩)
  | 2, _ => exact r_tab (tgt := 150) (off := 149) dX4_wordAt_1 (by decide) (by decide) rfl (by decide) (by decide) (by
      refine r_ldcS (i := 20) (tx := "mailto") (q := 152) dX4_wordAt_150 rfl (List.mem_of_getElem? (i := 22) rfl) ?_
      exact r_reta dX4_wordAt_152 rfl (by decide) (by decide) ⟨rfl, rfl, rfl⟩)
  | 3, _ => exact r_tab (tgt := 153) (off := 152) dX4_wordAt_1 (by decide) (by decide) rfl (by decide) (by decide) (by
      refine r_ldcS (i := 21) (tx := "a") (q := 155) dX4_wordAt_153 rfl (List.mem_of_getElem? (i := 23) rfl) ?_
      exact r_reta dX4_wordAt_155 rfl (by decide) (by decide) ⟨rfl, rfl, rfl⟩)
  | 4, _ => exact r_tab (tgt := 156) (off := 155) dX4_wordAt_1 (by decide) (by decide) rfl (by decide) (by decide) (by
      refine r_ldcS (i := 7) (tx := ":") (q := 158) dX4_wordAt_156 rfl (List.mem_of_getElem? (i := 9) rfl) ?_
      exact r_reta dX4_wordAt_158 rfl (by decide) (by decide) ⟨rfl, rfl, rfl⟩)
  | 5, _ => exact r_tab (tgt := 159) (off := 158) dX4_wordAt_1 (by decide) (by decide) rfl (by decide) (by decide) (by
      refine r_ldcS (i := 9) (tx := "//") (q := 161) dX4_wordAt_159 rfl (List.mem_of_getElem? (i := 11) rfl) ?_
      exact r_reta dX4_wordAt_161 rfl (by decide) (by decide) ⟨rfl, rfl, rfl⟩)
  | 6, _ => exact r_tab (tgt := 162) (off := 161) dX4_wordAt_1 (by decide) (by decide) rfl (by decide) (by decide) (by
      refine r_ldcS (i := 22) (tx := "/") (q := 164) dX4_wordAt_162 rfl (List.mem_of_getElem? (i := 24) rfl) ?_
      exact r_reta dX4_wordAt_164 rfl (by decide) (by decide) ⟨rfl, rfl, rfl⟩)
  | 7, _ => exact r_tab (tgt := 165) (off := 164) dX4_wordAt_1 (by decide) (by decide) rfl (by decide) (by decide) (by
      refine r_ldcS (i := 10) (tx := "?") (q := 167) dX4_wordAt_165 rfl (List.mem_of_getElem? (i := 12) rfl) ?_
      exact r_reta dX4_wordAt_167 rfl (by decide) (by decide) ⟨rfl, rfl, rfl⟩)
  | 8, _ => exact r_tab (tgt := 168) (off := 167) dX4_wordAt_1 (by decide) (by decide) rfl (by decide) (by decide) (by
      refine r_ldcS (i := 2) (tx := "#") (q := 170) dX4_wordAt_168 rfl (List.mem_of_getElem? (i := 10) rfl) ?_
      exact r_reta dX4_wordAt_170 rfl (by decide) (by decide) ⟨rfl, rfl, rfl⟩)
  | 9, _ => exact r_tab (tgt := 171) (off := 170) dX4_wordAt_1 (by decide) (by decide) rfl (by decide) (by decide) (by
      refine r_ldcSw (i := 6) (tx := "@") (q := 174) dX4_wordAt_171 rfl (List.mem_of_getElem? (i := 25) rfl) ?_
      exact r_reta dX4_wordAt_174 rfl (by decide) (by decide) ⟨rfl, rfl, rfl⟩)
  | 10, _ => exact r_tab (tgt := 175) (off := 174) dX4_wordAt_1 (by decide) (by decide) rfl (by decide) (by decide) (by
      refine r_ldcSw (i := 23) (tx := "user") (q := 178) dX4_wordAt_175 rfl (List.mem_of_getElem? (i := 26) rfl) ?_
      exact r_reta dX4_wordAt_178 rfl (by decide) (by decide) ⟨rfl, rfl, rfl⟩)
  | 11, _ => exact r_tab (tgt := 179) (off := 178) dX4_wordAt_1 (by decide) (by decide) rfl (by decide) (by decide) (by
      refine r_ldcSw (i := 24) (tx := "u:p") (q := 182) dX4_wordAt_179 rfl (List.mem_of_getElem? (i := 27) rfl) ?_
      exact r_reta dX4_wordAt_182 rfl (by decide) (by decide) ⟨rfl, rfl, rfl⟩)
  | 12, _ => exact r_tab (tgt := 183) (off := 182) dX4_wordAt_1 (by decide) (by decide) rfl (by decide) (by decide) (by
      refine r_ldcSw (i := 25) (tx := "host") (q := 186) dX4_wordAt_183 rfl (List.mem_of_getElem? (i := 28) rfl) ?_
      exact r_reta dX4_wordAt_186 rfl (by decide) (by decide) ⟨rfl, rfl, rfl⟩)
  | 13, _ => exact r_tab (tgt := 187) (off := 186) dX4_wordAt_1 (by decide) (by decide) rfl (by decide) (by decide) (by
      refine r_ldcSw (i := 26) (tx := "w.x-y.com") (q := 190) dX4_wordAt_187 rfl (List.mem_of_getElem? (i := 29) rfl) ?_
      exact r_reta dX4_wordAt_190 rfl (by decide) (by decide) ⟨rfl, rfl, rfl⟩)
  | 14, _ => exact r_tab (tgt := 191) (off := 190) dX4_wordAt_1 (by decide) (by decide) rfl (by decide) (by decide) (by
      refine r_ldcSw (i := 27) (tx := "1.2.3.4") (q := 194) dX4_wordAt_191 rfl (List.mem_of_getElem? (i := 30) rfl) ?_
      exact r_reta dX4_wordAt_194 rfl (by decide) (by decide) ⟨rfl, rfl, rfl⟩)
  | 15, _ => exact r_tab (tgt := 195) (off := 194) dX4_wordAt_1 (by decide) (by decide) rfl (by decide) (by decide) (by
      refine r_ldcSw (i := 28) (tx := "1.2.3.256") (q := 198) dX4_wordAt_195 rfl (List.mem_of_getElem? (i := 31) rfl) ?_
      exact r_reta dX4_wordAt_198 rfl (by decide) (by decide) ⟨rfl, rfl, rfl⟩)
  | 16, _ => exact r_tab (tgt := 199) (off := 198) dX4_wordAt_1 (by decide) (by decide) rfl (by decide) (by decide) (by
      refine r_ldcSw (i := 29) (tx := ":81") (q := 202) dX4_wordAt_199 rfl (List.mem_of_getElem? (i := 32) rfl) ?_
      exact r_reta dX4_wordAt_202 rfl (by decide) (by decide) ⟨rfl, rfl, rfl⟩)
  | 17, _ => exact r_tab (tgt := 203) (off := 202) dX4_wordAt_1 (by decide) (by decide) rfl (by decide) (by decide) (by
      refine r_ldcSw (i := 30) (tx := "-") (q := 206) dX4_wordAt_203 rfl (List.mem_of_getElem? (i := 33) rfl) ?_
      exact r_reta dX4_wordAt_206 rfl (by decide) (by decide) ⟨rfl, rfl, rfl⟩)
  | 18, _ => exact r_tab (tgt := 207) (off := 206) dX4_wordAt_1 (by decide) (by decide) rfl (by decide) (by decide) (by
      refine r_ldcSw (i := 31) (tx := ".") (q := 210) dX4_wordAt_207 rfl (List.mem_of_getElem? (i := 34) rfl) ?_
      exact r_reta dX4_wordAt_210 rfl (by decide) (by decide) ⟨rfl, rfl, rfl⟩)
  | 19, _ => exact r_tab (tgt := 211) (off := 210) dX4_wordAt_1 (by decide) (by decide) rfl (by decide) (by decide) (by
      refine r_ldcSw (i := 32) (tx := "a-") (q := 214) dX4_wordAt_211 rfl (List.mem_of_getElem? (i := 35) rfl) ?_
      exact r_reta dX4_wordAt_214 rfl (by decide) (by decide) ⟨rfl, rfl, rfl⟩)
  | 20, _ => exact r_tab (tgt := 215) (off := 214) dX4_wordAt_1 (by decide) (by decide) rfl (by decide) (by decide) (by
      refine r_ldcSw (i := 33) (tx := "9") (q := 218) dX4_wordAt_215 rfl (List.mem_of_getElem? (i := 36) rfl) ?_
      exact r_reta dX4_wordAt_218 rfl (by decide) (by decide) ⟨rfl, rfl, rfl⟩)
  | 21, _ => exact r_tab (tgt := 219) (off := 218) dX4_wordAt_1 (by decide) (by decide) rfl (by decide) (by decide) (by
      refine r_ldcSw (i := 34) (tx := "_") (q := 222) dX4_wordAt_219 rfl (List.mem_of_getElem? (i := 37) rfl) ?_
      exact r_reta dX4_wordAt_222 rfl (by decide) (by decide) ⟨rfl, rfl, rfl⟩)
  | 22, _ => exact r_tab (tgt := 223) (off := 222) dX4_wordAt_1 (by decide) (by decide) rfl (by decide) (by decide) (by
      refine r_ldcSw (i := 35) (tx := "p/q") (q := 226) dX4_wordAt_223 rfl (List.mem_of_getElem? (i := 38) rfl) ?_
      exact r_reta dX4_wordAt_226 rfl (by decide) (by decide) ⟨rfl, rfl, rfl⟩)
  | 23, _ => exact r_tab (tgt := 227) (off := 226) dX4_wordAt_1 (by decide) (by decide) rfl (by decide) (by decide) (by
      refine r_ldcSw (i := 36) (tx := "..") (q := 230) dX4_wordAt_227 rfl (List.mem_of_getElem? (i := 39) rfl) ?_
      exact r_reta dX4_wordAt_230 rfl (by decide) (by decide) ⟨rfl, rfl, rfl⟩)
  | 24, _ => exact r_tab (tgt := 231) (off := 230) dX4_wordAt_1 (by decide) (by decide) rfl (by decide) (by decide) (by
      refine r_ldcSw (i := 37) (tx := "x=1&y=2") (q := 234) dX4_wordAt_231 rfl (List.mem_of_getElem? (i := 40) rfl) ?_
      exact r_reta dX4_wordAt_234 rfl (by decide) (by decide) ⟨rfl, rfl, rfl⟩)
  | 25, _ => exact r_tab (tgt := 235) (off := 234) dX4_wordAt_1 (by decide) (by decide) rfl (by decide) (by decide) (by
      refine r_ldcSw (i := 38) (tx := ";v=1") (q := 238) dX4_wordAt_235 rfl (List.mem_of_getElem? (i := 41) rfl) ?_
      exact r_reta dX4_wordAt_238 rfl (by decide) (by decide) ⟨rfl, rfl, rfl⟩)
  | 26, _ => exact r_tab (tgt := 239) (off := 238) dX4_wordAt_1 (by decide) (by decide) rfl (by decide) (by decide) (by
      refine r_ldcSw (i := 39) (tx := "%41%7e") (q := 242) dX4_wordAt_239 rfl (List.mem_of_getElem? (i := 42) rfl) ?_
      exact r_reta dX4_wordAt_242 rfl (by decide) (by decide) ⟨rfl, rfl, rfl⟩)
  | 27, _ => exact r_tab (tgt := 243) (off := 242) dX4_wordAt_1 (by decide) (by decide) rfl (by decide) (by decide) (by
      refine r_ldcSw (i := 40) (tx := "~(!)*'") (q := 246) dX4_wordAt_243 rfl (List.mem_of_getElem? (i := 43) rfl) ?_
      exact r_reta dX4_wordAt_246 rfl (by decide) (by decide) ⟨rfl, rfl, rfl⟩)
  | 28, _ => exact r_tab (tgt := 247) (off := 246) dX4_wordAt_1 (by decide) (by decide) rfl (by decide) (by decide) (by
      refine r_ldcSw (i := 41) (tx := "$") (q := 250) dX4_wordAt_247 rfl (List.mem_of_getElem? (i := 44) rfl) ?_
      exact r_reta dX4_wordAt_250 rfl (by decide) (by decide) ⟨rfl, rfl, rfl⟩)
  | 29, _ => exact r_tab (tgt := 251) (off := 250) dX4_wordAt_1 (by decide) (by decide) rfl (by decide) (by decide) (by
      refine r_ldcSw (i := 42) (tx := "{") (q := 254) dX4_wordAt_251 rfl (List.mem_of_getElem? (i := 45) rfl) ?_
      exact r_reta dX4_wordAt_254 rfl (by decide) (by decide) ⟨rfl, rfl, rfl⟩)
  | 30, _ => exact r_tab (tgt := 255) (off := 254) dX4_wordAt_1 (by decide) (by decide) rfl (by decide) (by decide) (by
      refine r_ldcSw (i := 43) (tx := "<>") (q := 258) dX4_wordAt_255 rfl (List.mem_of_getElem? (i := 46) rfl) ?_
      exact r_reta dX4_wordAt_258 rfl (by decide) (by decide) ⟨rfl, rfl, rfl⟩)
  | 31, _ => exact r_tab (tgt := 259) (off := 258) dX4_wordAt_1 (by decide) (by decide) rfl (by decide) (by decide) (by
      refine r_ldcSw (i := 44) (tx := "2147483648") (q := 262) dX4_wordAt_259 rfl (List.mem_of_getElem? (i := 47) rfl) ?_
      exact r_reta dX4_wordAt_262 rfl (by decide) (by decide) ⟨rfl, rfl, rfl⟩)
  | m + 32, h => omega
set_option maxRecDepth 100000 in
set_option maxHeartbeats 4000000 in
theorem x4_word (hG : Full γ) (hW : Wk σ) {k : Int} (hk : 0 ≤ k ∧ k < 32) (hn : cnt σ 5 + (tS (wIx k)).length ≤ 60) : Ev γ mX4_word 7 0 0 [.ref (ga γ 6 0), .int (zI k)] σ xs (rtn (some (.int (zI (cnt (pPutS σ 5 (tS (wIx k))) 5)))) (pPutS σ 5 (tS (wIx k))) xs) nX := by
  refine Ev.of1 1 [some (.ref (ga γ 6 0)), some (.int (zI k)), none] rfl pn_X4_word rfl (Nat.le_of_ble_eq_true rfl) ?_
  have hc5 := hW.1 5
  have hw := (wIx_ok k).2
  refine r_iload_n (q := 1) dX4_word_0 rfl rfl ?_
  refine r_if_lt (q := 4) (tgt := 10) dX4_word_1 rfl (by decide) (by omega) (fun h1 => ?_) (fun h1 => ?_)
  · exfalso; omega
  · refine r_iload_n (q := 5) dX4_word_4 rfl rfl ?_
    refine r_bipush (q := 7) dX4_word_5 rfl (bip (by decide) (by decide)) ?_
    refine r_icmp_lt (q := 10) (tgt := 20) dX4_word_7 rfl (by decide) (by omega) (by omega) (fun h7 => ?_) (fun h7 => ?_)
    · refine r_iload_n (q := 21) dX4_word_20 rfl rfl ?_
      refine cS_1 (My := mX4_wordAt) (q := 24) dX4_word_21 rfl kX4_75 vX4_wordAt (x4_wordAt hk) ⟨by decide, by decide⟩ ⟨by decide, by decide⟩ (Nat.le_of_ble_eq_true rfl) ?_
      refine r_astore_n (q := 25) dX4_word_24 rfl (by decide) (Lst.setL rfl rfl) ?_
      refine r_aload_n (q := 26) dX4_word_25 rfl rfl ?_
      refine r_aload_n (q := 27) dX4_word_26 rfl rfl ?_
      refine cT_0 (My := mJ0_length_8abf5) (q := 30) dX4_word_27 rfl kX4_79 vJ0_length_8abf5 (wIx_ok k).1 rfl (j_length (wIx_ok k).1) ⟨by decide, by decide⟩ ⟨by decide, by decide⟩ (Nat.le_of_ble_eq_true rfl) ?_
      refine cX4_1v (My := mX4_checkRoom) (q := 33) dX4_word_30 rfl kX4_48 vX4_checkRoom (hG _ _ rfl) rfl (x4_checkRoom hG hW (by omega) (by omega)) ⟨by decide, by decide⟩ ⟨by decide, by decide⟩ (Nat.le_of_ble_eq_true rfl) ?_
      refine r_aload_n (q := 34) dX4_word_33 rfl rfl ?_
      refine g_X4_text (i := 0) (q := 37) dX4_word_34 rfl fX4_10 (hG _ _ rfl) ?_
      refine r_aload_n (q := 38) dX4_word_37 rfl rfl ?_
      refine cX3_1v (My := mX3_putAll) (q := 41) dX4_word_38 rfl kX4_82 vX3_putAll (hG _ _ rfl) rfl (x3_putAll hG rfl hW (wIx_ok k).1) ⟨by decide, by decide⟩ ⟨by decide, by decide⟩ (Nat.le_of_ble_eq_true rfl) ?_
      refine r_aload_n (q := 42) dX4_word_41 rfl rfl ?_
      refine g_X4_text (i := 0) (q := 45) dX4_word_42 rfl fX4_10 (hG _ _ rfl) ?_
      refine cX3_0 (My := mX3_count) (q := 48) dX4_word_45 rfl kX4_56 vX3_count (hG _ _ rfl) rfl (x3_count hG rfl) ⟨by decide, by decide⟩ ⟨by decide, by decide⟩ (Nat.le_of_ble_eq_true rfl) ?_
      refine r_reti dX4_word_48 rfl (by decide) (by decide) ?_
      exact ret_i rfl
    · exfalso; omega
set_option maxRecDepth 100000 in
set_option maxHeartbeats 4000000 in
theorem x4_word_b1 (hG : Full γ) (hW : Wk σ) {k : Int} (hr : -2147483648 ≤ k ∧ k ≤ 2147483647) (hk : k < 0 ∨ 32 ≤ k) : Ev γ mX4_word 7 1 6 [.ref (ga γ 6 0), .int (zI k)] σ xs (nR) (thr "java/lang/IndexOutOfBoundsException" σ xs) := by
  refine Ev.of1 1 [some (.ref (ga γ 6 0)), some (.int (zI k)), none] rfl pn_X4_word rfl (Nat.le_of_ble_eq_true rfl) ?_
  have hc5 := hW.1 5
  have hw := (wIx_ok k).2
  refine r_iload_n (q := 1) dX4_word_0 rfl rfl ?_
  refine r_if_lt (q := 4) (tgt := 10) dX4_word_1 rfl (by decide) (by omega) (fun h1 => ?_) (fun h1 => ?_)
  · refine r_throw (i := 17) (tx := "no such word") dX4_word_10 dX4_word_13 dX4_word_14 dX4_word_16 dX4_word_19 (by decide) (List.mem_of_getElem? (i := 19) rfl) tw_74 (by decide) (by decide) (by decide) (Nat.le_of_ble_eq_true rfl) ?_
    exact ⟨rfl, rfl, rfl⟩
  · refine r_iload_n (q := 5) dX4_word_4 rfl rfl ?_
    refine r_bipush (q := 7) dX4_word_5 rfl (bip (by decide) (by decide)) ?_
    refine r_icmp_lt (q := 10) (tgt := 20) dX4_word_7 rfl (by decide) (by omega) (by omega) (fun h7 => ?_) (fun h7 => ?_)
    · exfalso; omega
    · refine r_throw (i := 17) (tx := "no such word") dX4_word_10 dX4_word_13 dX4_word_14 dX4_word_16 dX4_word_19 (by decide) (List.mem_of_getElem? (i := 19) rfl) tw_74 (by decide) (by decide) (by decide) (Nat.le_of_ble_eq_true rfl) ?_
      exact ⟨rfl, rfl, rfl⟩
set_option maxRecDepth 100000 in
set_option maxHeartbeats 4000000 in
theorem x4_word_b2 (hG : Full γ) (hW : Wk σ) {k : Int} (hk : 0 ≤ k ∧ k < 32) (hn : 60 < cnt σ 5 + (tS (wIx k)).length) : Ev γ mX4_word 7 1 6 [.ref (ga γ 6 0), .int (zI k)] σ xs (nR) (thr "java/lang/IllegalStateException" σ xs) := by
  refine Ev.of1 1 [some (.ref (ga γ 6 0)), some (.int (zI k)), none] rfl pn_X4_word rfl (Nat.le_of_ble_eq_true rfl) ?_
  have hc5 := hW.1 5
  have hw := (wIx_ok k).2
  refine r_iload_n (q := 1) dX4_word_0 rfl rfl ?_
  refine r_if_lt (q := 4) (tgt := 10) dX4_word_1 rfl (by decide) (by omega) (fun h1 => ?_) (fun h1 => ?_)
  · exfalso; omega
  · refine r_iload_n (q := 5) dX4_word_4 rfl rfl ?_
    refine r_bipush (q := 7) dX4_word_5 rfl (bip (by decide) (by decide)) ?_
    refine r_icmp_lt (q := 10) (tgt := 20) dX4_word_7 rfl (by decide) (by omega) (by omega) (fun h7 => ?_) (fun h7 => ?_)
    · refine r_iload_n (q := 21) dX4_word_20 rfl rfl ?_
      refine cS_1 (My := mX4_wordAt) (q := 24) dX4_word_21 rfl kX4_75 vX4_wordAt (x4_wordAt hk) ⟨by decide, by decide⟩ ⟨by decide, by decide⟩ (Nat.le_of_ble_eq_true rfl) ?_
      refine r_astore_n (q := 25) dX4_word_24 rfl (by decide) (Lst.setL rfl rfl) ?_
      refine r_aload_n (q := 26) dX4_word_25 rfl rfl ?_
      refine r_aload_n (q := 27) dX4_word_26 rfl rfl ?_
      refine cT_0 (My := mJ0_length_8abf5) (q := 30) dX4_word_27 rfl kX4_79 vJ0_length_8abf5 (wIx_ok k).1 rfl (j_length (wIx_ok k).1) ⟨by decide, by decide⟩ ⟨by decide, by decide⟩ (Nat.le_of_ble_eq_true rfl) ?_
      refine tX4_1v (My := mX4_checkRoom) (q := 33) dX4_word_30 rfl kX4_48 vX4_checkRoom (hG _ _ rfl) rfl (x4_checkRoom_b hG hW (by omega) (by omega)) ⟨by decide, by decide⟩ ⟨by decide, by decide⟩ (Nat.le_of_ble_eq_true rfl) ?_
      exact ⟨rfl, rfl, rfl⟩
    · exfalso; omega
set_option maxRecDepth 100000 in
set_option maxHeartbeats 4000000 in
theorem x4_parse (hG : Full γ) (hW : Wk σ) (h9 : R9 σ) {k : Int} (hk : 0 ≤ k ∧ k < 4) (hb : gAB (pAt σ 5) (cnt σ 5) = false) : Ev γ mX4_parse 9 0 0 [.ref (ga γ 6 0), .int (zI k)] σ xs (rtn (some (.int (zI (prs0 σ)))) (pPrs σ k) xs) nX := by
  refine Ev.of1 2 [some (.ref (ga γ 6 0)), some (.int (zI k)), none, none] rfl pn_X4_parse rfl (Nat.le_of_ble_eq_true rfl) ?_
  have hC5 := (cut0_ok (i := 5) hW h9 (by decide)).cut5
  have h8 : -1 ≤ prs0 σ ∧ prs0 σ ≤ 128 := hC5.1.2.2.2.2
  refine r_aload_n (q := 1) dX4_parse_0 rfl rfl ?_
  refine r_iload_n (q := 2) dX4_parse_1 rfl rfl ?_
  refine cX4_1 (My := mX4_slotAt) (q := 5) dX4_parse_2 rfl kX4_98 vX4_slotAt (hG _ _ (by first | rfl | exact hj | exact hi | exact vk2 hk | exact vk2 hk2)) rfl (x4_slotAt hG hk) ⟨by decide, by decide⟩ ⟨by decide, by decide⟩ (Nat.le_of_ble_eq_true rfl) ?_
  refine r_astore_n (q := 6) dX4_parse_5 rfl (by decide) (Lst.setL rfl rfl) ?_
  refine r_aload_n (q := 7) dX4_parse_6 rfl rfl ?_
  refine g_X4_text (i := 0) (q := 10) dX4_parse_7 rfl fX4_10 (hG _ _ (by first | rfl | exact hj | exact hi | exact vk2 hk | exact vk2 hk2)) ?_
  refine cS_1 (My := mX2_isAuthorityBad) (q := 13) dX4_parse_10 rfl kX4_102 vX2_isAuthorityBad (x2_isAuthorityBad hG rfl hW) ⟨by decide, by decide⟩ ⟨by decide, by decide⟩ (Nat.le_of_ble_eq_true rfl) ?_
  refine r_ifB_eq (q := 16) (tgt := 26) dX4_parse_13 rfl (by decide) (fun h13 => ?_) (fun h13 => ?_)
  · refine r_aload_n (q := 27) dX4_parse_26 rfl rfl ?_
    refine g_X4_cutter (i := 0) (q := 30) dX4_parse_27 rfl fX4_22 (hG _ _ (by first | rfl | exact hj | exact hi | exact vk2 hk | exact vk2 hk2)) ?_
    refine r_aload_n (q := 31) dX4_parse_30 rfl rfl ?_
    refine g_X4_text (i := 0) (q := 34) dX4_parse_31 rfl fX4_10 (hG _ _ (by first | rfl | exact hj | exact hi | exact vk2 hk | exact vk2 hk2)) ?_
    refine cX1_1 (My := mX1_cut) (q := 37) dX4_parse_34 rfl kX4_113 vX1_cut (hG _ _ (by first | rfl | exact hj | exact hi | exact vk2 hk | exact vk2 hk2)) rfl (x1_cut hG rfl (by decide) hW h9) ⟨by decide, by decide⟩ ⟨by decide, by decide⟩ (Nat.le_of_ble_eq_true rfl) ?_
    refine RW.cast rfl (show _ = [Value.int (zI (prs0 σ))] from rfl) ?_
    refine r_istore_n (q := 38) dX4_parse_37 rfl (by decide) (Lst.setL rfl rfl) ?_
    refine r_iload_n (q := 39) dX4_parse_38 rfl rfl ?_
    refine r_iconst (q := 40) dX4_parse_39 rfl ?_
    refine r_icmp_ne (q := 43) (tgt := 57) dX4_parse_40 rfl (by decide) (by omega) (by omega) (fun h40 => ?_) (fun h40 => ?_)
    · refine r_aload_n (q := 58) dX4_parse_57 rfl rfl ?_
      refine r_dup (q := 59) dX4_parse_58 rfl rfl ?_
      refine g_X4_refusalCount (i := 0) (q := 62) dX4_parse_59 rfl fX4_125 (hG _ _ (by first | rfl | exact hj | exact hi | exact vk2 hk | exact vk2 hk2)) ?_
      refine r_iconst (q := 63) dX4_parse_62 rfl ?_
      refine r_iadd (q := 64) dX4_parse_63 rfl ?_
      refine p_X4_refusalCount (i := 0) (q := 67) dX4_parse_64 rfl fX4_125 (hG _ _ (by first | rfl | exact hj | exact hi | exact vk2 hk | exact vk2 hk2)) ?_
      refine r_aload_n (q := 68) dX4_parse_67 rfl rfl ?_
      refine r_iload_n (q := 69) dX4_parse_68 rfl rfl ?_
      refine p_X4_refusedPlace (i := 0) (q := 72) dX4_parse_69 rfl fX4_129 (hG _ _ (by first | rfl | exact hj | exact hi | exact vk2 hk | exact vk2 hk2)) ?_
      refine r_iload_n (q := 73) dX4_parse_72 rfl rfl ?_
      refine r_reti dX4_parse_73 rfl (by decide) (by decide) ?_
      first
        | exact ret_is rfl (by unfold pPrs; rw [if_pos (by assumption)])
        | exact ret_is rfl (by unfold pPrs; rw [if_neg (by assumption)])
    · refine r_aload_n (q := 44) dX4_parse_43 rfl rfl ?_
      refine r_aload_n (q := 45) dX4_parse_44 rfl rfl ?_
      refine g_X4_cutter (i := 0) (q := 48) dX4_parse_45 rfl fX4_22 (hG _ _ (by first | rfl | exact hj | exact hi | exact vk2 hk | exact vk2 hk2)) ?_
      refine cX1_0 (My := mX1_address) (q := 51) dX4_parse_48 rfl kX4_117 vX1_address (hG _ _ (by first | rfl | exact hj | exact hi | exact vk2 hk | exact vk2 hk2)) rfl (x1_address hG) ⟨by decide, by decide⟩ ⟨by decide, by decide⟩ (Nat.le_of_ble_eq_true rfl) ?_
      refine cX0_1v (My := mX0_takeOver) (q := 54) dX4_parse_51 rfl kX4_121 vX0_takeOver (hG _ _ (by first | rfl | exact hj | exact hi | exact vk2 hk | exact vk2 hk2)) rfl (x0_takeOver hG (vk2 hk) rfl hC5.1) ⟨by decide, by decide⟩ ⟨by decide, by decide⟩ (Nat.le_of_ble_eq_true rfl) ?_
      refine r_goto (q := 72) dX4_parse_54 (by decide) ?_
      refine r_iload_n (q := 73) dX4_parse_72 rfl rfl ?_
      refine r_reti dX4_parse_73 rfl (by decide) (by decide) ?_
      first
        | exact ret_is rfl (by unfold pPrs; rw [if_pos (by assumption)])
        | exact ret_is rfl (by unfold pPrs; rw [if_neg (by assumption)])
  · rw [hb] at h13; exact absurd h13 (by decide)
set_option maxRecDepth 100000 in
set_option maxHeartbeats 4000000 in
theorem x4_parse_b1 (hG : Full γ) {k : Int} (hr : -2147483648 ≤ k ∧ k ≤ 2147483647) (hk : k < 0 ∨ 4 ≤ k) : Ev γ mX4_parse 9 1 6 [.ref (ga γ 6 0), .int (zI k)] σ xs (nR) (thr "java/lang/IndexOutOfBoundsException" σ xs) := by
  refine Ev.of1 2 [some (.ref (ga γ 6 0)), some (.int (zI k)), none, none] rfl pn_X4_parse rfl (Nat.le_of_ble_eq_true rfl) ?_
  refine r_aload_n (q := 1) dX4_parse_0 rfl rfl ?_
  refine r_iload_n (q := 2) dX4_parse_1 rfl rfl ?_
  refine tX4_1 (My := mX4_slotAt) (q := 5) dX4_parse_2 rfl kX4_98 vX4_slotAt (hG _ _ rfl) rfl (x4_slotAt_b hG (by omega) hk) ⟨by decide, by decide⟩ ⟨by decide, by decide⟩ (Nat.le_of_ble_eq_true rfl) ?_
  exact ⟨rfl, rfl, rfl⟩
set_option maxRecDepth 100000 in
set_option maxHeartbeats 4000000 in
theorem x4_parse_b2 (hG : Full γ) (hW : Wk σ) (h9 : R9 σ) {k : Int} (hk : 0 ≤ k ∧ k < 4) (hb : gAB (pAt σ 5) (cnt σ 5) = true) : Ev γ mX4_parse 9 1 6 [.ref (ga γ 6 0), .int (zI k)] σ xs (nR) (thr "java/lang/IllegalStateException" σ xs) := by
  refine Ev.of1 2 [some (.ref (ga γ 6 0)), some (.int (zI k)), none, none] rfl pn_X4_parse rfl (Nat.le_of_ble_eq_true rfl) ?_
  refine r_aload_n (q := 1) dX4_parse_0 rfl rfl ?_
  refine r_iload_n (q := 2) dX4_parse_1 rfl rfl ?_
  refine cX4_1 (My := mX4_slotAt) (q := 5) dX4_parse_2 rfl kX4_98 vX4_slotAt (hG _ _ (by first | rfl | exact hj | exact hi | exact vk2 hk | exact vk2 hk2)) rfl (x4_slotAt hG hk) ⟨by decide, by decide⟩ ⟨by decide, by decide⟩ (Nat.le_of_ble_eq_true rfl) ?_
  refine r_astore_n (q := 6) dX4_parse_5 rfl (by decide) (Lst.setL rfl rfl) ?_
  refine r_aload_n (q := 7) dX4_parse_6 rfl rfl ?_
  refine g_X4_text (i := 0) (q := 10) dX4_parse_7 rfl fX4_10 (hG _ _ (by first | rfl | exact hj | exact hi | exact vk2 hk | exact vk2 hk2)) ?_
  refine cS_1 (My := mX2_isAuthorityBad) (q := 13) dX4_parse_10 rfl kX4_102 vX2_isAuthorityBad (x2_isAuthorityBad hG rfl hW) ⟨by decide, by decide⟩ ⟨by decide, by decide⟩ (Nat.le_of_ble_eq_true rfl) ?_
  refine r_ifB_eq (q := 16) (tgt := 26) dX4_parse_13 rfl (by decide) (fun h13 => ?_) (fun h13 => ?_)
  · rw [hb] at h13; exact absurd h13 (by decide)
  · refine r_throw (i := 48) (tx := "a bad sign in the authority") dX4_parse_16 dX4_parse_19 dX4_parse_20 dX4_parse_22 dX4_parse_25 (by decide) (List.mem_of_getElem? (i := 53) rfl) tw_112 (by decide) (by decide) (by decide) (Nat.le_of_ble_eq_true rfl) ?_
    exact ⟨rfl, rfl, rfl⟩
set_option maxRecDepth 100000 in
set_option maxHeartbeats 4000000 in
theorem x4_refusals (hG : Full γ) : Ev γ mX4_refusals 7 0 0 [.ref (ga γ 6 0)] σ xs (rtn (some (.int (zI (rc σ)))) σ xs) nX := by
  refine Ev.of1 0 [some (.ref (ga γ 6 0))] rfl pn_X4_refusals rfl (Nat.le_of_ble_eq_true rfl) ?_
  refine r_aload_n (q := 1) dX4_refusals_0 rfl rfl ?_
  refine g_X4_refusalCount (i := 0) (q := 4) dX4_refusals_1 rfl fX4_125 (hG _ _ rfl) ?_
  refine r_reti dX4_refusals_4 rfl (by decide) (by decide) ?_
  exact ret_i rfl
set_option maxRecDepth 100000 in
set_option maxHeartbeats 4000000 in
theorem x4_refusedAt (hG : Full γ) (hrc : 0 ≤ rc σ ∧ rc σ ≤ 2147483647) (h : rc σ ≠ 0) : Ev γ mX4_refusedAt 7 0 0 [.ref (ga γ 6 0)] σ xs (rtn (some (.int (zI (rp σ)))) σ xs) nX := by
  refine Ev.of1 0 [some (.ref (ga γ 6 0))] rfl pn_X4_refusedAt rfl (Nat.le_of_ble_eq_true rfl) ?_
  refine r_aload_n (q := 1) dX4_refusedAt_0 rfl rfl ?_
  refine cX4_0v (My := mX4_checkRefused) (q := 4) dX4_refusedAt_1 rfl kX4_132 vX4_checkRefused (hG _ _ rfl) rfl (x4_checkRefused hG hrc h) ⟨by decide, by decide⟩ ⟨by decide, by decide⟩ (Nat.le_of_ble_eq_true rfl) ?_
  refine r_aload_n (q := 5) dX4_refusedAt_4 rfl rfl ?_
  refine g_X4_refusedPlace (i := 0) (q := 8) dX4_refusedAt_5 rfl fX4_129 (hG _ _ rfl) ?_
  refine r_reti dX4_refusedAt_8 rfl (by decide) (by decide) ?_
  exact ret_i rfl
set_option maxRecDepth 100000 in
set_option maxHeartbeats 4000000 in
theorem x4_refusedAt_b (hG : Full γ) (hrc : 0 ≤ rc σ ∧ rc σ ≤ 2147483647) (h : rc σ = 0) : Ev γ mX4_refusedAt 7 1 6 [.ref (ga γ 6 0)] σ xs (nR) (thr "java/util/NoSuchElementException" σ xs) := by
  refine Ev.of1 0 [some (.ref (ga γ 6 0))] rfl pn_X4_refusedAt rfl (Nat.le_of_ble_eq_true rfl) ?_
  refine r_aload_n (q := 1) dX4_refusedAt_0 rfl rfl ?_
  refine tX4_0v (My := mX4_checkRefused) (q := 4) dX4_refusedAt_1 rfl kX4_132 vX4_checkRefused (hG _ _ rfl) rfl (x4_checkRefused_b hG hrc h) ⟨by decide, by decide⟩ ⟨by decide, by decide⟩ (Nat.le_of_ble_eq_true rfl) ?_
  exact ⟨rfl, rfl, rfl⟩
set_option maxRecDepth 100000 in
set_option maxHeartbeats 4000000 in
theorem x4_isTold (hG : Full γ) (hrc : 0 ≤ rc σ ∧ rc σ ≤ 2147483647) (h : rc σ ≠ 0) : Ev γ mX4_isTold 7 0 0 [.ref (ga γ 6 0)] σ xs (rtn (some (.int (zI (bI true)))) σ xs) nX := by
  refine Ev.of1 0 [some (.ref (ga γ 6 0))] rfl pn_X4_isTold rfl (Nat.le_of_ble_eq_true rfl) ?_
  refine r_aload_n (q := 1) dX4_isTold_0 rfl rfl ?_
  refine cX4_0v (My := mX4_checkRefused) (q := 4) dX4_isTold_1 rfl kX4_132 vX4_checkRefused (hG _ _ rfl) rfl (x4_checkRefused hG hrc h) ⟨by decide, by decide⟩ ⟨by decide, by decide⟩ (Nat.le_of_ble_eq_true rfl) ?_
  refine r_iconst (q := 5) dX4_isTold_4 rfl ?_
  refine r_retz dX4_isTold_5 rfl (by first | rfl | exact narB _) (by decide) (by decide) ?_
  exact ret_i rfl
set_option maxRecDepth 100000 in
set_option maxHeartbeats 4000000 in
theorem x4_isTold_b (hG : Full γ) (hrc : 0 ≤ rc σ ∧ rc σ ≤ 2147483647) (h : rc σ = 0) : Ev γ mX4_isTold 7 1 6 [.ref (ga γ 6 0)] σ xs (nR) (thr "java/util/NoSuchElementException" σ xs) := by
  refine Ev.of1 0 [some (.ref (ga γ 6 0))] rfl pn_X4_isTold rfl (Nat.le_of_ble_eq_true rfl) ?_
  refine r_aload_n (q := 1) dX4_isTold_0 rfl rfl ?_
  refine tX4_0v (My := mX4_checkRefused) (q := 4) dX4_isTold_1 rfl kX4_132 vX4_checkRefused (hG _ _ rfl) rfl (x4_checkRefused_b hG hrc h) ⟨by decide, by decide⟩ ⟨by decide, by decide⟩ (Nat.le_of_ble_eq_true rfl) ?_
  exact ⟨rfl, rfl, rfl⟩
set_option maxRecDepth 100000 in
set_option maxHeartbeats 4000000 in
theorem x4_isThere (hG : Full γ) {k : Int} (hk : 0 ≤ k ∧ k < 4) : Ev γ mX4_isThere 7 0 0 [.ref (ga γ 6 0), .int (zI k)] σ xs (rtn (some (.int (zI (bI (hld σ k.toNat))))) σ xs) nX := by
  refine Ev.of1 0 [some (.ref (ga γ 6 0)), some (.int (zI k))] rfl pn_X4_isThere rfl (Nat.le_of_ble_eq_true rfl) ?_
  refine r_aload_n (q := 1) dX4_isThere_0 rfl rfl ?_
  refine r_iload_n (q := 2) dX4_isThere_1 rfl rfl ?_
  refine cX4_1 (My := mX4_slotAt) (q := 5) dX4_isThere_2 rfl kX4_98 vX4_slotAt (hG _ _ (by first | rfl | exact hj | exact hi | exact vk2 hk | exact vk2 hk2)) rfl (x4_slotAt hG hk) ⟨by decide, by decide⟩ ⟨by decide, by decide⟩ (Nat.le_of_ble_eq_true rfl) ?_
  refine cX0_0 (My := mX0_isHeld) (q := 8) dX4_isThere_5 rfl kX4_135 vX0_isHeld (hG _ _ (by first | rfl | exact hj | exact hi | exact vk2 hk | exact vk2 hk2)) rfl (x0_isHeld hG (vk2 hk)) ⟨by decide, by decide⟩ ⟨by decide, by decide⟩ (Nat.le_of_ble_eq_true rfl) ?_
  refine r_retz dX4_isThere_8 rfl (narB _) (by decide) (by decide) ?_
  exact ret_i rfl
set_option maxRecDepth 100000 in
set_option maxHeartbeats 4000000 in
theorem x4_isThere_b (hG : Full γ) {k : Int} (hr : -2147483648 ≤ k ∧ k ≤ 2147483647) (hk : k < 0 ∨ 4 ≤ k) : Ev γ mX4_isThere 7 1 6 [.ref (ga γ 6 0), .int (zI k)] σ xs (nR) (thr "java/lang/IndexOutOfBoundsException" σ xs) := by
  refine Ev.of1 0 [some (.ref (ga γ 6 0)), some (.int (zI k))] rfl pn_X4_isThere rfl (Nat.le_of_ble_eq_true rfl) ?_
  refine r_aload_n (q := 1) dX4_isThere_0 rfl rfl ?_
  refine r_iload_n (q := 2) dX4_isThere_1 rfl rfl ?_
  refine tX4_1 (My := mX4_slotAt) (q := 5) dX4_isThere_2 rfl kX4_98 vX4_slotAt (hG _ _ rfl) rfl (x4_slotAt_b hG (by omega) hk) ⟨by decide, by decide⟩ ⟨by decide, by decide⟩ (Nat.le_of_ble_eq_true rfl) ?_
  exact ⟨rfl, rfl, rfl⟩
set_option maxRecDepth 100000 in
set_option maxHeartbeats 4000000 in
theorem x4_isAbsolute (hG : Full γ) {k : Int} (hk : 0 ≤ k ∧ k < 4) (hW : Wk σ) (hh : hld σ k.toNat = true) : Ev γ mX4_isAbsolute 8 0 0 [.ref (ga γ 6 0), .int (zI k)] σ xs (rtn (some (.int (zI (bI (pHas σ k.toNat 0))))) σ xs) nX := by
  refine Ev.of1 0 [some (.ref (ga γ 6 0)), some (.int (zI k))] rfl pn_X4_isAbsolute rfl (Nat.le_of_ble_eq_true rfl) ?_
  refine r_aload_n (q := 1) dX4_isAbsolute_0 rfl rfl ?_
  refine r_iload_n (q := 2) dX4_isAbsolute_1 rfl rfl ?_
  refine cX4_1 (My := mX4_addressAt) (q := 5) dX4_isAbsolute_2 rfl kX4_139 vX4_addressAt (hG _ _ (by first | rfl | exact hj | exact hi | exact vk2 hk | exact vk2 hk2)) rfl (x4_addressAt hG hk hh) ⟨by decide, by decide⟩ ⟨by decide, by decide⟩ (Nat.le_of_ble_eq_true rfl) ?_
  refine r_iconst (q := 6) dX4_isAbsolute_5 rfl ?_
  refine cX0_1 (My := mX0_has) (q := 9) dX4_isAbsolute_6 rfl kX4_142 vX0_has (hG _ _ (by first | rfl | exact hj | exact hi | exact vk2 hk | exact vk2 hk2)) rfl (x0_has hG (vk2 hk) hW (by decide)) ⟨by decide, by decide⟩ ⟨by decide, by decide⟩ (Nat.le_of_ble_eq_true rfl) ?_
  refine r_retz dX4_isAbsolute_9 rfl (narB _) (by decide) (by decide) ?_
  exact ret_i rfl
set_option maxRecDepth 100000 in
set_option maxHeartbeats 4000000 in
theorem x4_isAbsolute_b1 (hG : Full γ) {k : Int} (hr : -2147483648 ≤ k ∧ k ≤ 2147483647) (hk : k < 0 ∨ 4 ≤ k) : Ev γ mX4_isAbsolute 8 1 6 [.ref (ga γ 6 0), .int (zI k)] σ xs (nR) (thr "java/lang/IndexOutOfBoundsException" σ xs) := by
  refine Ev.of1 0 [some (.ref (ga γ 6 0)), some (.int (zI k))] rfl pn_X4_isAbsolute rfl (Nat.le_of_ble_eq_true rfl) ?_
  refine r_aload_n (q := 1) dX4_isAbsolute_0 rfl rfl ?_
  refine r_iload_n (q := 2) dX4_isAbsolute_1 rfl rfl ?_
  refine tX4_1 (My := mX4_addressAt) (q := 5) dX4_isAbsolute_2 rfl kX4_139 vX4_addressAt (hG _ _ rfl) rfl (x4_addressAt_b1 hG hr hk) ⟨by decide, by decide⟩ ⟨by decide, by decide⟩ (Nat.le_of_ble_eq_true rfl) ?_
  exact ⟨rfl, rfl, rfl⟩
set_option maxRecDepth 100000 in
set_option maxHeartbeats 4000000 in
theorem x4_isAbsolute_b2 (hG : Full γ) {k : Int} (hk : 0 ≤ k ∧ k < 4) (hh : hld σ k.toNat = false) : Ev γ mX4_isAbsolute 8 1 6 [.ref (ga γ 6 0), .int (zI k)] σ xs (nR) (thr "java/util/NoSuchElementException" σ xs) := by
  refine Ev.of1 0 [some (.ref (ga γ 6 0)), some (.int (zI k))] rfl pn_X4_isAbsolute rfl (Nat.le_of_ble_eq_true rfl) ?_
  refine r_aload_n (q := 1) dX4_isAbsolute_0 rfl rfl ?_
  refine r_iload_n (q := 2) dX4_isAbsolute_1 rfl rfl ?_
  refine tX4_1 (My := mX4_addressAt) (q := 5) dX4_isAbsolute_2 rfl kX4_139 vX4_addressAt (hG _ _ rfl) rfl (x4_addressAt_b2 hG hk hh) ⟨by decide, by decide⟩ ⟨by decide, by decide⟩ (Nat.le_of_ble_eq_true rfl) ?_
  exact ⟨rfl, rfl, rfl⟩
set_option maxRecDepth 100000 in
set_option maxHeartbeats 4000000 in
theorem x4_isOpaque (hG : Full γ) {k : Int} (hk : 0 ≤ k ∧ k < 4) (hW : Wk σ) (hh : hld σ k.toNat = true) : Ev γ mX4_isOpaque 8 0 0 [.ref (ga γ 6 0), .int (zI k)] σ xs (rtn (some (.int (zI (bI (!pHas σ k.toNat 5))))) σ xs) nX := by
  refine Ev.of1 0 [some (.ref (ga γ 6 0)), some (.int (zI k))] rfl pn_X4_isOpaque rfl (Nat.le_of_ble_eq_true rfl) ?_
  refine r_aload_n (q := 1) dX4_isOpaque_0 rfl rfl ?_
  refine r_iload_n (q := 2) dX4_isOpaque_1 rfl rfl ?_
  refine cX4_1 (My := mX4_addressAt) (q := 5) dX4_isOpaque_2 rfl kX4_139 vX4_addressAt (hG _ _ (by first | rfl | exact hj | exact hi | exact vk2 hk | exact vk2 hk2)) rfl (x4_addressAt hG hk hh) ⟨by decide, by decide⟩ ⟨by decide, by decide⟩ (Nat.le_of_ble_eq_true rfl) ?_
  refine r_iconst (q := 6) dX4_isOpaque_5 rfl ?_
  refine cX0_1 (My := mX0_has) (q := 9) dX4_isOpaque_6 rfl kX4_142 vX0_has (hG _ _ (by first | rfl | exact hj | exact hi | exact vk2 hk | exact vk2 hk2)) rfl (x0_has hG (vk2 hk) hW (by decide)) ⟨by decide, by decide⟩ ⟨by decide, by decide⟩ (Nat.le_of_ble_eq_true rfl) ?_
  refine r_ifB_ne (q := 12) (tgt := 16) dX4_isOpaque_9 rfl (by decide) (fun h9 => ?_) (fun h9 => ?_)
  · refine r_iconst (q := 17) dX4_isOpaque_16 rfl ?_
    refine r_retz dX4_isOpaque_17 rfl (by first | rfl | exact narB _) (by decide) (by decide) ?_
    exact ret_i (by rw [h9]; rfl)
  · refine r_iconst (q := 13) dX4_isOpaque_12 rfl ?_
    refine r_goto (q := 17) dX4_isOpaque_13 (by decide) ?_
    refine r_retz dX4_isOpaque_17 rfl (by first | rfl | exact narB _) (by decide) (by decide) ?_
    exact ret_i (by rw [h9]; rfl)
set_option maxRecDepth 100000 in
set_option maxHeartbeats 4000000 in
theorem x4_isOpaque_b1 (hG : Full γ) {k : Int} (hr : -2147483648 ≤ k ∧ k ≤ 2147483647) (hk : k < 0 ∨ 4 ≤ k) : Ev γ mX4_isOpaque 8 1 6 [.ref (ga γ 6 0), .int (zI k)] σ xs (nR) (thr "java/lang/IndexOutOfBoundsException" σ xs) := by
  refine Ev.of1 0 [some (.ref (ga γ 6 0)), some (.int (zI k))] rfl pn_X4_isOpaque rfl (Nat.le_of_ble_eq_true rfl) ?_
  refine r_aload_n (q := 1) dX4_isOpaque_0 rfl rfl ?_
  refine r_iload_n (q := 2) dX4_isOpaque_1 rfl rfl ?_
  refine tX4_1 (My := mX4_addressAt) (q := 5) dX4_isOpaque_2 rfl kX4_139 vX4_addressAt (hG _ _ rfl) rfl (x4_addressAt_b1 hG hr hk) ⟨by decide, by decide⟩ ⟨by decide, by decide⟩ (Nat.le_of_ble_eq_true rfl) ?_
  exact ⟨rfl, rfl, rfl⟩
set_option maxRecDepth 100000 in
set_option maxHeartbeats 4000000 in
theorem x4_isOpaque_b2 (hG : Full γ) {k : Int} (hk : 0 ≤ k ∧ k < 4) (hh : hld σ k.toNat = false) : Ev γ mX4_isOpaque 8 1 6 [.ref (ga γ 6 0), .int (zI k)] σ xs (nR) (thr "java/util/NoSuchElementException" σ xs) := by
  refine Ev.of1 0 [some (.ref (ga γ 6 0)), some (.int (zI k))] rfl pn_X4_isOpaque rfl (Nat.le_of_ble_eq_true rfl) ?_
  refine r_aload_n (q := 1) dX4_isOpaque_0 rfl rfl ?_
  refine r_iload_n (q := 2) dX4_isOpaque_1 rfl rfl ?_
  refine tX4_1 (My := mX4_addressAt) (q := 5) dX4_isOpaque_2 rfl kX4_139 vX4_addressAt (hG _ _ rfl) rfl (x4_addressAt_b2 hG hk hh) ⟨by decide, by decide⟩ ⟨by decide, by decide⟩ (Nat.le_of_ble_eq_true rfl) ?_
  exact ⟨rfl, rfl, rfl⟩
set_option maxRecDepth 100000 in
set_option maxHeartbeats 4000000 in
theorem x4_port (hG : Full γ) {k : Int} (hk : 0 ≤ k ∧ k < 4) (hW : Wk σ) (hh : hld σ k.toNat = true) : Ev γ mX4_port 8 0 0 [.ref (ga γ 6 0), .int (zI k)] σ xs (rtn (some (.int (zI (pt σ k.toNat)))) σ xs) nX := by
  refine Ev.of1 0 [some (.ref (ga γ 6 0)), some (.int (zI k))] rfl pn_X4_port rfl (Nat.le_of_ble_eq_true rfl) ?_
  refine r_aload_n (q := 1) dX4_port_0 rfl rfl ?_
  refine r_iload_n (q := 2) dX4_port_1 rfl rfl ?_
  refine cX4_1 (My := mX4_addressAt) (q := 5) dX4_port_2 rfl kX4_139 vX4_addressAt (hG _ _ (by first | rfl | exact hj | exact hi | exact vk2 hk | exact vk2 hk2)) rfl (x4_addressAt hG hk hh) ⟨by decide, by decide⟩ ⟨by decide, by decide⟩ (Nat.le_of_ble_eq_true rfl) ?_
  refine cX0_0 (My := mX0_portNumber) (q := 8) dX4_port_5 rfl kX4_146 vX0_portNumber (hG _ _ (by first | rfl | exact hj | exact hi | exact vk2 hk | exact vk2 hk2)) rfl (x0_portNumber hG (vk2 hk)) ⟨by decide, by decide⟩ ⟨by decide, by decide⟩ (Nat.le_of_ble_eq_true rfl) ?_
  refine r_reti dX4_port_8 rfl (by decide) (by decide) ?_
  exact ret_i rfl
set_option maxRecDepth 100000 in
set_option maxHeartbeats 4000000 in
theorem x4_port_b1 (hG : Full γ) {k : Int} (hr : -2147483648 ≤ k ∧ k ≤ 2147483647) (hk : k < 0 ∨ 4 ≤ k) : Ev γ mX4_port 8 1 6 [.ref (ga γ 6 0), .int (zI k)] σ xs (nR) (thr "java/lang/IndexOutOfBoundsException" σ xs) := by
  refine Ev.of1 0 [some (.ref (ga γ 6 0)), some (.int (zI k))] rfl pn_X4_port rfl (Nat.le_of_ble_eq_true rfl) ?_
  refine r_aload_n (q := 1) dX4_port_0 rfl rfl ?_
  refine r_iload_n (q := 2) dX4_port_1 rfl rfl ?_
  refine tX4_1 (My := mX4_addressAt) (q := 5) dX4_port_2 rfl kX4_139 vX4_addressAt (hG _ _ rfl) rfl (x4_addressAt_b1 hG hr hk) ⟨by decide, by decide⟩ ⟨by decide, by decide⟩ (Nat.le_of_ble_eq_true rfl) ?_
  exact ⟨rfl, rfl, rfl⟩
set_option maxRecDepth 100000 in
set_option maxHeartbeats 4000000 in
theorem x4_port_b2 (hG : Full γ) {k : Int} (hk : 0 ≤ k ∧ k < 4) (hh : hld σ k.toNat = false) : Ev γ mX4_port 8 1 6 [.ref (ga γ 6 0), .int (zI k)] σ xs (nR) (thr "java/util/NoSuchElementException" σ xs) := by
  refine Ev.of1 0 [some (.ref (ga γ 6 0)), some (.int (zI k))] rfl pn_X4_port rfl (Nat.le_of_ble_eq_true rfl) ?_
  refine r_aload_n (q := 1) dX4_port_0 rfl rfl ?_
  refine r_iload_n (q := 2) dX4_port_1 rfl rfl ?_
  refine tX4_1 (My := mX4_addressAt) (q := 5) dX4_port_2 rfl kX4_139 vX4_addressAt (hG _ _ rfl) rfl (x4_addressAt_b2 hG hk hh) ⟨by decide, by decide⟩ ⟨by decide, by decide⟩ (Nat.le_of_ble_eq_true rfl) ?_
  exact ⟨rfl, rfl, rfl⟩
set_option maxRecDepth 100000 in
set_option maxHeartbeats 4000000 in
theorem x4_size (hG : Full γ) {k : Int} (hk : 0 ≤ k ∧ k < 4) {c : Int} (hc : 0 ≤ c ∧ c < 65536) (hW : Wk σ) (h0 : 0 ≤ ixO (tS 51) c) (hh : hld σ k.toNat = true) : Ev γ mX4_size 7 0 0 [.ref (ga γ 6 0), .int (zI k), .int (zI c)] σ xs (rtn (some (.int (zI (pSiz σ k.toNat (ixO (tS 51) c))))) σ xs) nX := by
  refine Ev.of1 2 [some (.ref (ga γ 6 0)), some (.int (zI k)), some (.int (zI c)), none, none] rfl pn_X4_size rfl (Nat.le_of_ble_eq_true rfl) ?_
  refine r_aload_n (q := 1) dX4_size_0 rfl rfl ?_
  refine r_iload_n (q := 2) dX4_size_1 rfl rfl ?_
  refine cX4_1 (My := mX4_slotAt) (q := 5) dX4_size_2 rfl kX4_98 vX4_slotAt (hG _ _ (by first | rfl | exact hj | exact hi | exact vk2 hk | exact vk2 hk2)) rfl (x4_slotAt hG hk) ⟨by decide, by decide⟩ ⟨by decide, by decide⟩ (Nat.le_of_ble_eq_true rfl) ?_
  refine r_astore_n (q := 6) dX4_size_5 rfl (by decide) (Lst.setL rfl rfl) ?_
  refine r_iload_n (q := 7) dX4_size_6 rfl rfl ?_
  refine cS_1 (My := mX4_partOf) (q := 10) dX4_size_7 rfl kX4_149 vX4_partOf (x4_partOf (by omega) h0) ⟨by decide, by decide⟩ ⟨by decide, by decide⟩ (Nat.le_of_ble_eq_true rfl) ?_
  refine r_istore (q := 12) dX4_size_10 rfl (by decide) (Lst.setL rfl rfl) ?_
  refine r_aload_n (q := 13) dX4_size_12 rfl rfl ?_
  refine cS_1v (My := mX4_checkHeld) (q := 16) dX4_size_13 rfl kX4_153 vX4_checkHeld (x4_checkHeld hG (by first | exact vk2 hk | exact vk2 hk2) (by assumption)) ⟨by decide, by decide⟩ ⟨by decide, by decide⟩ (Nat.le_of_ble_eq_true rfl) ?_
  refine r_aload_n (q := 17) dX4_size_16 rfl rfl ?_
  refine r_iload (q := 19) dX4_size_17 rfl rfl ?_
  refine cX0_1 (My := mX0_sizeOf) (q := 22) dX4_size_19 rfl kX4_156 vX0_sizeOf (hG _ _ (by first | rfl | exact hj | exact hi | exact vk2 hk | exact vk2 hk2)) rfl (x0_sizeOf hG (vk2 hk) hW (ixO_r (by decide) _)) ⟨by decide, by decide⟩ ⟨by decide, by decide⟩ (Nat.le_of_ble_eq_true rfl) ?_
  refine r_reti dX4_size_22 rfl (by decide) (by decide) ?_
  exact ret_i rfl
set_option maxRecDepth 100000 in
set_option maxHeartbeats 4000000 in
theorem x4_size_b1 (hG : Full γ) {k : Int} (hr : -2147483648 ≤ k ∧ k ≤ 2147483647) (hk : k < 0 ∨ 4 ≤ k) {c : Int} (hc : 0 ≤ c ∧ c < 65536) : Ev γ mX4_size 7 1 6 [.ref (ga γ 6 0), .int (zI k), .int (zI c)] σ xs (nR) (thr "java/lang/IndexOutOfBoundsException" σ xs) := by
  refine Ev.of1 2 [some (.ref (ga γ 6 0)), some (.int (zI k)), some (.int (zI c)), none, none] rfl pn_X4_size rfl (Nat.le_of_ble_eq_true rfl) ?_
  refine r_aload_n (q := 1) dX4_size_0 rfl rfl ?_
  refine r_iload_n (q := 2) dX4_size_1 rfl rfl ?_
  refine tX4_1 (My := mX4_slotAt) (q := 5) dX4_size_2 rfl kX4_98 vX4_slotAt (hG _ _ rfl) rfl (x4_slotAt_b hG (by omega) hk) ⟨by decide, by decide⟩ ⟨by decide, by decide⟩ (Nat.le_of_ble_eq_true rfl) ?_
  exact ⟨rfl, rfl, rfl⟩
set_option maxRecDepth 100000 in
set_option maxHeartbeats 4000000 in
theorem x4_size_b2 (hG : Full γ) {k : Int} (hk : 0 ≤ k ∧ k < 4) {c : Int} (hc : 0 ≤ c ∧ c < 65536) (h0 : ixO (tS 51) c < 0) : Ev γ mX4_size 7 1 6 [.ref (ga γ 6 0), .int (zI k), .int (zI c)] σ xs (nR) (thr "java/lang/IllegalArgumentException" σ xs) := by
  refine Ev.of1 2 [some (.ref (ga γ 6 0)), some (.int (zI k)), some (.int (zI c)), none, none] rfl pn_X4_size rfl (Nat.le_of_ble_eq_true rfl) ?_
  refine r_aload_n (q := 1) dX4_size_0 rfl rfl ?_
  refine r_iload_n (q := 2) dX4_size_1 rfl rfl ?_
  refine cX4_1 (My := mX4_slotAt) (q := 5) dX4_size_2 rfl kX4_98 vX4_slotAt (hG _ _ (by first | rfl | exact hj | exact hi | exact vk2 hk | exact vk2 hk2)) rfl (x4_slotAt hG hk) ⟨by decide, by decide⟩ ⟨by decide, by decide⟩ (Nat.le_of_ble_eq_true rfl) ?_
  refine r_astore_n (q := 6) dX4_size_5 rfl (by decide) (Lst.setL rfl rfl) ?_
  refine r_iload_n (q := 7) dX4_size_6 rfl rfl ?_
  refine tS_1 (My := mX4_partOf) (q := 10) dX4_size_7 rfl kX4_149 vX4_partOf (x4_partOf_b (by omega) h0) ⟨by decide, by decide⟩ ⟨by decide, by decide⟩ (Nat.le_of_ble_eq_true rfl) ?_
  exact ⟨rfl, rfl, rfl⟩
set_option maxRecDepth 100000 in
set_option maxHeartbeats 4000000 in
theorem x4_size_b3 (hG : Full γ) {k : Int} (hk : 0 ≤ k ∧ k < 4) {c : Int} (hc : 0 ≤ c ∧ c < 65536) (h0 : 0 ≤ ixO (tS 51) c) (hh : hld σ k.toNat = false) : Ev γ mX4_size 7 1 6 [.ref (ga γ 6 0), .int (zI k), .int (zI c)] σ xs (nR) (thr "java/util/NoSuchElementException" σ xs) := by
  refine Ev.of1 2 [some (.ref (ga γ 6 0)), some (.int (zI k)), some (.int (zI c)), none, none] rfl pn_X4_size rfl (Nat.le_of_ble_eq_true rfl) ?_
  refine r_aload_n (q := 1) dX4_size_0 rfl rfl ?_
  refine r_iload_n (q := 2) dX4_size_1 rfl rfl ?_
  refine cX4_1 (My := mX4_slotAt) (q := 5) dX4_size_2 rfl kX4_98 vX4_slotAt (hG _ _ (by first | rfl | exact hj | exact hi | exact vk2 hk | exact vk2 hk2)) rfl (x4_slotAt hG hk) ⟨by decide, by decide⟩ ⟨by decide, by decide⟩ (Nat.le_of_ble_eq_true rfl) ?_
  refine r_astore_n (q := 6) dX4_size_5 rfl (by decide) (Lst.setL rfl rfl) ?_
  refine r_iload_n (q := 7) dX4_size_6 rfl rfl ?_
  refine cS_1 (My := mX4_partOf) (q := 10) dX4_size_7 rfl kX4_149 vX4_partOf (x4_partOf (by omega) h0) ⟨by decide, by decide⟩ ⟨by decide, by decide⟩ (Nat.le_of_ble_eq_true rfl) ?_
  refine r_istore (q := 12) dX4_size_10 rfl (by decide) (Lst.setL rfl rfl) ?_
  refine r_aload_n (q := 13) dX4_size_12 rfl rfl ?_
  refine tS_1v (My := mX4_checkHeld) (q := 16) dX4_size_13 rfl kX4_153 vX4_checkHeld (x4_checkHeld_b hG (vk2 hk) hh) ⟨by decide, by decide⟩ ⟨by decide, by decide⟩ (Nat.le_of_ble_eq_true rfl) ?_
  exact ⟨rfl, rfl, rfl⟩
set_option maxRecDepth 100000 in
set_option maxHeartbeats 4000000 in
theorem x4_begin (hG : Full γ) {k : Int} (hk : 0 ≤ k ∧ k < 4) {c : Int} (hc : 0 ≤ c ∧ c < 65536) (hW : Wk σ) (h0 : 0 ≤ ixO (tS 51) c) (hh : hld σ k.toNat = true) : Ev γ mX4_begin 7 0 0 [.ref (ga γ 6 0), .int (zI k), .int (zI c)] σ xs (rtn (some (.int (zI (pBeg σ k.toNat (ixO (tS 51) c))))) σ xs) nX := by
  refine Ev.of1 2 [some (.ref (ga γ 6 0)), some (.int (zI k)), some (.int (zI c)), none, none] rfl pn_X4_begin rfl (Nat.le_of_ble_eq_true rfl) ?_
  refine r_aload_n (q := 1) dX4_begin_0 rfl rfl ?_
  refine r_iload_n (q := 2) dX4_begin_1 rfl rfl ?_
  refine cX4_1 (My := mX4_slotAt) (q := 5) dX4_begin_2 rfl kX4_98 vX4_slotAt (hG _ _ (by first | rfl | exact hj | exact hi | exact vk2 hk | exact vk2 hk2)) rfl (x4_slotAt hG hk) ⟨by decide, by decide⟩ ⟨by decide, by decide⟩ (Nat.le_of_ble_eq_true rfl) ?_
  refine r_astore_n (q := 6) dX4_begin_5 rfl (by decide) (Lst.setL rfl rfl) ?_
  refine r_iload_n (q := 7) dX4_begin_6 rfl rfl ?_
  refine cS_1 (My := mX4_partOf) (q := 10) dX4_begin_7 rfl kX4_149 vX4_partOf (x4_partOf (by omega) h0) ⟨by decide, by decide⟩ ⟨by decide, by decide⟩ (Nat.le_of_ble_eq_true rfl) ?_
  refine r_istore (q := 12) dX4_begin_10 rfl (by decide) (Lst.setL rfl rfl) ?_
  refine r_aload_n (q := 13) dX4_begin_12 rfl rfl ?_
  refine cS_1v (My := mX4_checkHeld) (q := 16) dX4_begin_13 rfl kX4_153 vX4_checkHeld (x4_checkHeld hG (by first | exact vk2 hk | exact vk2 hk2) (by assumption)) ⟨by decide, by decide⟩ ⟨by decide, by decide⟩ (Nat.le_of_ble_eq_true rfl) ?_
  refine r_aload_n (q := 17) dX4_begin_16 rfl rfl ?_
  refine r_iload (q := 19) dX4_begin_17 rfl rfl ?_
  refine cX0_1 (My := mX0_beginOf) (q := 22) dX4_begin_19 rfl kX4_165 vX0_beginOf (hG _ _ (by first | rfl | exact hj | exact hi | exact vk2 hk | exact vk2 hk2)) rfl (x0_beginOf hG (vk2 hk) hW (ixO_r (by decide) _)) ⟨by decide, by decide⟩ ⟨by decide, by decide⟩ (Nat.le_of_ble_eq_true rfl) ?_
  refine r_reti dX4_begin_22 rfl (by decide) (by decide) ?_
  exact ret_i rfl
set_option maxRecDepth 100000 in
set_option maxHeartbeats 4000000 in
theorem x4_begin_b1 (hG : Full γ) {k : Int} (hr : -2147483648 ≤ k ∧ k ≤ 2147483647) (hk : k < 0 ∨ 4 ≤ k) {c : Int} (hc : 0 ≤ c ∧ c < 65536) : Ev γ mX4_begin 7 1 6 [.ref (ga γ 6 0), .int (zI k), .int (zI c)] σ xs (nR) (thr "java/lang/IndexOutOfBoundsException" σ xs) := by
  refine Ev.of1 2 [some (.ref (ga γ 6 0)), some (.int (zI k)), some (.int (zI c)), none, none] rfl pn_X4_begin rfl (Nat.le_of_ble_eq_true rfl) ?_
  refine r_aload_n (q := 1) dX4_begin_0 rfl rfl ?_
  refine r_iload_n (q := 2) dX4_begin_1 rfl rfl ?_
  refine tX4_1 (My := mX4_slotAt) (q := 5) dX4_begin_2 rfl kX4_98 vX4_slotAt (hG _ _ rfl) rfl (x4_slotAt_b hG (by omega) hk) ⟨by decide, by decide⟩ ⟨by decide, by decide⟩ (Nat.le_of_ble_eq_true rfl) ?_
  exact ⟨rfl, rfl, rfl⟩
set_option maxRecDepth 100000 in
set_option maxHeartbeats 4000000 in
theorem x4_begin_b2 (hG : Full γ) {k : Int} (hk : 0 ≤ k ∧ k < 4) {c : Int} (hc : 0 ≤ c ∧ c < 65536) (h0 : ixO (tS 51) c < 0) : Ev γ mX4_begin 7 1 6 [.ref (ga γ 6 0), .int (zI k), .int (zI c)] σ xs (nR) (thr "java/lang/IllegalArgumentException" σ xs) := by
  refine Ev.of1 2 [some (.ref (ga γ 6 0)), some (.int (zI k)), some (.int (zI c)), none, none] rfl pn_X4_begin rfl (Nat.le_of_ble_eq_true rfl) ?_
  refine r_aload_n (q := 1) dX4_begin_0 rfl rfl ?_
  refine r_iload_n (q := 2) dX4_begin_1 rfl rfl ?_
  refine cX4_1 (My := mX4_slotAt) (q := 5) dX4_begin_2 rfl kX4_98 vX4_slotAt (hG _ _ (by first | rfl | exact hj | exact hi | exact vk2 hk | exact vk2 hk2)) rfl (x4_slotAt hG hk) ⟨by decide, by decide⟩ ⟨by decide, by decide⟩ (Nat.le_of_ble_eq_true rfl) ?_
  refine r_astore_n (q := 6) dX4_begin_5 rfl (by decide) (Lst.setL rfl rfl) ?_
  refine r_iload_n (q := 7) dX4_begin_6 rfl rfl ?_
  refine tS_1 (My := mX4_partOf) (q := 10) dX4_begin_7 rfl kX4_149 vX4_partOf (x4_partOf_b (by omega) h0) ⟨by decide, by decide⟩ ⟨by decide, by decide⟩ (Nat.le_of_ble_eq_true rfl) ?_
  exact ⟨rfl, rfl, rfl⟩
set_option maxRecDepth 100000 in
set_option maxHeartbeats 4000000 in
theorem x4_begin_b3 (hG : Full γ) {k : Int} (hk : 0 ≤ k ∧ k < 4) {c : Int} (hc : 0 ≤ c ∧ c < 65536) (h0 : 0 ≤ ixO (tS 51) c) (hh : hld σ k.toNat = false) : Ev γ mX4_begin 7 1 6 [.ref (ga γ 6 0), .int (zI k), .int (zI c)] σ xs (nR) (thr "java/util/NoSuchElementException" σ xs) := by
  refine Ev.of1 2 [some (.ref (ga γ 6 0)), some (.int (zI k)), some (.int (zI c)), none, none] rfl pn_X4_begin rfl (Nat.le_of_ble_eq_true rfl) ?_
  refine r_aload_n (q := 1) dX4_begin_0 rfl rfl ?_
  refine r_iload_n (q := 2) dX4_begin_1 rfl rfl ?_
  refine cX4_1 (My := mX4_slotAt) (q := 5) dX4_begin_2 rfl kX4_98 vX4_slotAt (hG _ _ (by first | rfl | exact hj | exact hi | exact vk2 hk | exact vk2 hk2)) rfl (x4_slotAt hG hk) ⟨by decide, by decide⟩ ⟨by decide, by decide⟩ (Nat.le_of_ble_eq_true rfl) ?_
  refine r_astore_n (q := 6) dX4_begin_5 rfl (by decide) (Lst.setL rfl rfl) ?_
  refine r_iload_n (q := 7) dX4_begin_6 rfl rfl ?_
  refine cS_1 (My := mX4_partOf) (q := 10) dX4_begin_7 rfl kX4_149 vX4_partOf (x4_partOf (by omega) h0) ⟨by decide, by decide⟩ ⟨by decide, by decide⟩ (Nat.le_of_ble_eq_true rfl) ?_
  refine r_istore (q := 12) dX4_begin_10 rfl (by decide) (Lst.setL rfl rfl) ?_
  refine r_aload_n (q := 13) dX4_begin_12 rfl rfl ?_
  refine tS_1v (My := mX4_checkHeld) (q := 16) dX4_begin_13 rfl kX4_153 vX4_checkHeld (x4_checkHeld_b hG (vk2 hk) hh) ⟨by decide, by decide⟩ ⟨by decide, by decide⟩ (Nat.le_of_ble_eq_true rfl) ?_
  exact ⟨rfl, rfl, rfl⟩
set_option maxRecDepth 100000 in
set_option maxHeartbeats 4000000 in
theorem x4_partSign (hG : Full γ) {k : Int} (hk : 0 ≤ k ∧ k < 4) {c : Int} (hc : 0 ≤ c ∧ c < 65536) {p : Int} (hp : -2147483648 ≤ p ∧ p ≤ 2147483647) (hW : Wk σ) (h0 : 0 ≤ ixO (tS 51) c) (hh : hld σ k.toNat = true) (hb : 0 ≤ p ∧ p < pSiz σ k.toNat (ixO (tS 51) c)) : Ev γ mX4_partSign 7 0 0 [.ref (ga γ 6 0), .int (zI k), .int (zI c), .int (zI p)] σ xs (rtn (some (.int (zI (pAt σ k.toNat (pBeg σ k.toNat (ixO (tS 51) c) + p))))) σ xs) nX := by
  refine Ev.of1 2 [some (.ref (ga γ 6 0)), some (.int (zI k)), some (.int (zI c)), some (.int (zI p)), none, none] rfl pn_X4_partSign rfl (Nat.le_of_ble_eq_true rfl) ?_
  have h9 := pAt_rng σ k.toNat (pBeg σ k.toNat (ixO (tS 51) c) + p)
  refine r_aload_n (q := 1) dX4_partSign_0 rfl rfl ?_
  refine r_iload_n (q := 2) dX4_partSign_1 rfl rfl ?_
  refine cX4_1 (My := mX4_slotAt) (q := 5) dX4_partSign_2 rfl kX4_98 vX4_slotAt (hG _ _ (by first | rfl | exact hj | exact hi | exact vk2 hk | exact vk2 hk2)) rfl (x4_slotAt hG hk) ⟨by decide, by decide⟩ ⟨by decide, by decide⟩ (Nat.le_of_ble_eq_true rfl) ?_
  refine r_astore (q := 7) dX4_partSign_5 rfl (by decide) (Lst.setL rfl rfl) ?_
  refine r_iload_n (q := 8) dX4_partSign_7 rfl rfl ?_
  refine cS_1 (My := mX4_partOf) (q := 11) dX4_partSign_8 rfl kX4_149 vX4_partOf (x4_partOf (by omega) h0) ⟨by decide, by decide⟩ ⟨by decide, by decide⟩ (Nat.le_of_ble_eq_true rfl) ?_
  refine r_istore (q := 13) dX4_partSign_11 rfl (by decide) (Lst.setL rfl rfl) ?_
  refine r_aload (q := 15) dX4_partSign_13 rfl rfl ?_
  refine cS_1v (My := mX4_checkHeld) (q := 18) dX4_partSign_15 rfl kX4_153 vX4_checkHeld (x4_checkHeld hG (by first | exact vk2 hk | exact vk2 hk2) (by assumption)) ⟨by decide, by decide⟩ ⟨by decide, by decide⟩ (Nat.le_of_ble_eq_true rfl) ?_
  refine r_iload_n (q := 19) dX4_partSign_18 rfl rfl ?_
  refine r_if_lt (q := 22) (tgt := 33) dX4_partSign_19 rfl (by decide) (by first | omega | (have h8 := pSiz_r hW k.toNat (ixO (tS 51) c); omega)) (fun h19 => ?_) (fun h19 => ?_)
  · exfalso; omega
  · refine r_iload_n (q := 23) dX4_partSign_22 rfl rfl ?_
    refine r_aload (q := 25) dX4_partSign_23 rfl rfl ?_
    refine r_iload (q := 27) dX4_partSign_25 rfl rfl ?_
    refine cX0_1 (My := mX0_sizeOf) (q := 30) dX4_partSign_27 rfl kX4_156 vX0_sizeOf (hG _ _ (by first | rfl | exact hj | exact hi | exact vk2 hk | exact vk2 hk2)) rfl (x0_sizeOf hG (vk2 hk) hW (ixO_r (by decide) _)) ⟨by decide, by decide⟩ ⟨by decide, by decide⟩ (Nat.le_of_ble_eq_true rfl) ?_
    refine r_icmp_lt (q := 33) (tgt := 43) dX4_partSign_30 rfl (by decide) (by first | omega | (have h8 := pSiz_r hW k.toNat (ixO (tS 51) c); omega)) (by first | omega | (have h8 := pSiz_r hW k.toNat (ixO (tS 51) c); omega)) (fun h30 => ?_) (fun h30 => ?_)
    · refine r_aload (q := 45) dX4_partSign_43 rfl rfl ?_
      refine r_iload (q := 47) dX4_partSign_45 rfl rfl ?_
      refine r_iload_n (q := 48) dX4_partSign_47 rfl rfl ?_
      refine cX0_2 (My := mX0_signOf) (q := 51) dX4_partSign_48 rfl kX4_161 vX0_signOf (hG _ _ (by first | rfl | exact hj | exact hi | exact vk2 hk | exact vk2 hk2)) rfl (x0_signOf hG (vk2 hk) hW (ixO_r (by decide) _) (by have h8 := pSiz_r hW k.toNat (ixO (tS 51) c); omega)) ⟨by decide, by decide⟩ ⟨by decide, by decide⟩ (Nat.le_of_ble_eq_true rfl) ?_
      refine r_retz dX4_partSign_51 rfl (narC (by omega)) (by decide) (by decide) ?_
      exact ret_i rfl
    · exfalso; omega
set_option maxRecDepth 100000 in
set_option maxHeartbeats 4000000 in
theorem x4_partSign_b1 (hG : Full γ) {k : Int} (hr : -2147483648 ≤ k ∧ k ≤ 2147483647) (hk : k < 0 ∨ 4 ≤ k) {c : Int} (hc : 0 ≤ c ∧ c < 65536) {p : Int} (hp : -2147483648 ≤ p ∧ p ≤ 2147483647) : Ev γ mX4_partSign 7 1 6 [.ref (ga γ 6 0), .int (zI k), .int (zI c), .int (zI p)] σ xs (nR) (thr "java/lang/IndexOutOfBoundsException" σ xs) := by
  refine Ev.of1 2 [some (.ref (ga γ 6 0)), some (.int (zI k)), some (.int (zI c)), some (.int (zI p)), none, none] rfl pn_X4_partSign rfl (Nat.le_of_ble_eq_true rfl) ?_
  refine r_aload_n (q := 1) dX4_partSign_0 rfl rfl ?_
  refine r_iload_n (q := 2) dX4_partSign_1 rfl rfl ?_
  refine tX4_1 (My := mX4_slotAt) (q := 5) dX4_partSign_2 rfl kX4_98 vX4_slotAt (hG _ _ rfl) rfl (x4_slotAt_b hG (by omega) hk) ⟨by decide, by decide⟩ ⟨by decide, by decide⟩ (Nat.le_of_ble_eq_true rfl) ?_
  exact ⟨rfl, rfl, rfl⟩
set_option maxRecDepth 100000 in
set_option maxHeartbeats 4000000 in
theorem x4_partSign_b2 (hG : Full γ) {k : Int} (hk : 0 ≤ k ∧ k < 4) {c : Int} (hc : 0 ≤ c ∧ c < 65536) {p : Int} (hp : -2147483648 ≤ p ∧ p ≤ 2147483647) (h0 : ixO (tS 51) c < 0) : Ev γ mX4_partSign 7 1 6 [.ref (ga γ 6 0), .int (zI k), .int (zI c), .int (zI p)] σ xs (nR) (thr "java/lang/IllegalArgumentException" σ xs) := by
  refine Ev.of1 2 [some (.ref (ga γ 6 0)), some (.int (zI k)), some (.int (zI c)), some (.int (zI p)), none, none] rfl pn_X4_partSign rfl (Nat.le_of_ble_eq_true rfl) ?_
  refine r_aload_n (q := 1) dX4_partSign_0 rfl rfl ?_
  refine r_iload_n (q := 2) dX4_partSign_1 rfl rfl ?_
  refine cX4_1 (My := mX4_slotAt) (q := 5) dX4_partSign_2 rfl kX4_98 vX4_slotAt (hG _ _ (by first | rfl | exact hj | exact hi | exact vk2 hk | exact vk2 hk2)) rfl (x4_slotAt hG hk) ⟨by decide, by decide⟩ ⟨by decide, by decide⟩ (Nat.le_of_ble_eq_true rfl) ?_
  refine r_astore (q := 7) dX4_partSign_5 rfl (by decide) (Lst.setL rfl rfl) ?_
  refine r_iload_n (q := 8) dX4_partSign_7 rfl rfl ?_
  refine tS_1 (My := mX4_partOf) (q := 11) dX4_partSign_8 rfl kX4_149 vX4_partOf (x4_partOf_b (by omega) h0) ⟨by decide, by decide⟩ ⟨by decide, by decide⟩ (Nat.le_of_ble_eq_true rfl) ?_
  exact ⟨rfl, rfl, rfl⟩
set_option maxRecDepth 100000 in
set_option maxHeartbeats 4000000 in
theorem x4_partSign_b3 (hG : Full γ) {k : Int} (hk : 0 ≤ k ∧ k < 4) {c : Int} (hc : 0 ≤ c ∧ c < 65536) {p : Int} (hp : -2147483648 ≤ p ∧ p ≤ 2147483647) (h0 : 0 ≤ ixO (tS 51) c) (hh : hld σ k.toNat = false) : Ev γ mX4_partSign 7 1 6 [.ref (ga γ 6 0), .int (zI k), .int (zI c), .int (zI p)] σ xs (nR) (thr "java/util/NoSuchElementException" σ xs) := by
  refine Ev.of1 2 [some (.ref (ga γ 6 0)), some (.int (zI k)), some (.int (zI c)), some (.int (zI p)), none, none] rfl pn_X4_partSign rfl (Nat.le_of_ble_eq_true rfl) ?_
  refine r_aload_n (q := 1) dX4_partSign_0 rfl rfl ?_
  refine r_iload_n (q := 2) dX4_partSign_1 rfl rfl ?_
  refine cX4_1 (My := mX4_slotAt) (q := 5) dX4_partSign_2 rfl kX4_98 vX4_slotAt (hG _ _ (by first | rfl | exact hj | exact hi | exact vk2 hk | exact vk2 hk2)) rfl (x4_slotAt hG hk) ⟨by decide, by decide⟩ ⟨by decide, by decide⟩ (Nat.le_of_ble_eq_true rfl) ?_
  refine r_astore (q := 7) dX4_partSign_5 rfl (by decide) (Lst.setL rfl rfl) ?_
  refine r_iload_n (q := 8) dX4_partSign_7 rfl rfl ?_
  refine cS_1 (My := mX4_partOf) (q := 11) dX4_partSign_8 rfl kX4_149 vX4_partOf (x4_partOf (by omega) h0) ⟨by decide, by decide⟩ ⟨by decide, by decide⟩ (Nat.le_of_ble_eq_true rfl) ?_
  refine r_istore (q := 13) dX4_partSign_11 rfl (by decide) (Lst.setL rfl rfl) ?_
  refine r_aload (q := 15) dX4_partSign_13 rfl rfl ?_
  refine tS_1v (My := mX4_checkHeld) (q := 18) dX4_partSign_15 rfl kX4_153 vX4_checkHeld (x4_checkHeld_b hG (vk2 hk) hh) ⟨by decide, by decide⟩ ⟨by decide, by decide⟩ (Nat.le_of_ble_eq_true rfl) ?_
  exact ⟨rfl, rfl, rfl⟩
set_option maxRecDepth 100000 in
set_option maxHeartbeats 4000000 in
theorem x4_partSign_b4 (hG : Full γ) {k : Int} (hk : 0 ≤ k ∧ k < 4) {c : Int} (hc : 0 ≤ c ∧ c < 65536) {p : Int} (hp : -2147483648 ≤ p ∧ p ≤ 2147483647) (hW : Wk σ) (h0 : 0 ≤ ixO (tS 51) c) (hh : hld σ k.toNat = true) (hb : p < 0 ∨ pSiz σ k.toNat (ixO (tS 51) c) ≤ p) : Ev γ mX4_partSign 7 1 6 [.ref (ga γ 6 0), .int (zI k), .int (zI c), .int (zI p)] σ xs (nR) (thr "java/util/NoSuchElementException" σ xs) := by
  refine Ev.of1 2 [some (.ref (ga γ 6 0)), some (.int (zI k)), some (.int (zI c)), some (.int (zI p)), none, none] rfl pn_X4_partSign rfl (Nat.le_of_ble_eq_true rfl) ?_
  refine r_aload_n (q := 1) dX4_partSign_0 rfl rfl ?_
  refine r_iload_n (q := 2) dX4_partSign_1 rfl rfl ?_
  refine cX4_1 (My := mX4_slotAt) (q := 5) dX4_partSign_2 rfl kX4_98 vX4_slotAt (hG _ _ (by first | rfl | exact hj | exact hi | exact vk2 hk | exact vk2 hk2)) rfl (x4_slotAt hG hk) ⟨by decide, by decide⟩ ⟨by decide, by decide⟩ (Nat.le_of_ble_eq_true rfl) ?_
  refine r_astore (q := 7) dX4_partSign_5 rfl (by decide) (Lst.setL rfl rfl) ?_
  refine r_iload_n (q := 8) dX4_partSign_7 rfl rfl ?_
  refine cS_1 (My := mX4_partOf) (q := 11) dX4_partSign_8 rfl kX4_149 vX4_partOf (x4_partOf (by omega) h0) ⟨by decide, by decide⟩ ⟨by decide, by decide⟩ (Nat.le_of_ble_eq_true rfl) ?_
  refine r_istore (q := 13) dX4_partSign_11 rfl (by decide) (Lst.setL rfl rfl) ?_
  refine r_aload (q := 15) dX4_partSign_13 rfl rfl ?_
  refine cS_1v (My := mX4_checkHeld) (q := 18) dX4_partSign_15 rfl kX4_153 vX4_checkHeld (x4_checkHeld hG (by first | exact vk2 hk | exact vk2 hk2) (by assumption)) ⟨by decide, by decide⟩ ⟨by decide, by decide⟩ (Nat.le_of_ble_eq_true rfl) ?_
  refine r_iload_n (q := 19) dX4_partSign_18 rfl rfl ?_
  refine r_if_lt (q := 22) (tgt := 33) dX4_partSign_19 rfl (by decide) (by first | omega | (have h8 := pSiz_r hW k.toNat (ixO (tS 51) c); omega)) (fun h19 => ?_) (fun h19 => ?_)
  · refine r_throwN (i := 53) (tx := "the part has no such place") dX4_partSign_33 dX4_partSign_36 dX4_partSign_37 dX4_partSign_39 dX4_partSign_42 rfl (List.mem_of_getElem? (i := 58) rfl) (by decide) (by decide) (by decide) (Nat.le_of_ble_eq_true rfl) ?_
    exact ⟨rfl, rfl, rfl⟩
  · refine r_iload_n (q := 23) dX4_partSign_22 rfl rfl ?_
    refine r_aload (q := 25) dX4_partSign_23 rfl rfl ?_
    refine r_iload (q := 27) dX4_partSign_25 rfl rfl ?_
    refine cX0_1 (My := mX0_sizeOf) (q := 30) dX4_partSign_27 rfl kX4_156 vX0_sizeOf (hG _ _ (by first | rfl | exact hj | exact hi | exact vk2 hk | exact vk2 hk2)) rfl (x0_sizeOf hG (vk2 hk) hW (ixO_r (by decide) _)) ⟨by decide, by decide⟩ ⟨by decide, by decide⟩ (Nat.le_of_ble_eq_true rfl) ?_
    refine r_icmp_lt (q := 33) (tgt := 43) dX4_partSign_30 rfl (by decide) (by first | omega | (have h8 := pSiz_r hW k.toNat (ixO (tS 51) c); omega)) (by first | omega | (have h8 := pSiz_r hW k.toNat (ixO (tS 51) c); omega)) (fun h30 => ?_) (fun h30 => ?_)
    · exfalso; omega
    · refine r_throwN (i := 53) (tx := "the part has no such place") dX4_partSign_33 dX4_partSign_36 dX4_partSign_37 dX4_partSign_39 dX4_partSign_42 rfl (List.mem_of_getElem? (i := 58) rfl) (by decide) (by decide) (by decide) (Nat.le_of_ble_eq_true rfl) ?_
      exact ⟨rfl, rfl, rfl⟩
set_option maxRecDepth 100000 in
set_option maxHeartbeats 4000000 in
theorem x4_append (hG : Full γ) {k : Int} (hk : 0 ≤ k ∧ k < 4) {c : Int} (hc : 0 ≤ c ∧ c < 65536) (hW : Wk σ) (h0 : 0 ≤ ixO (tS 51) c) (hh : hld σ k.toNat = true) (hp : pHas σ k.toNat (ixO (tS 51) c) = true) (hn : cnt σ 5 + pSiz σ k.toNat (ixO (tS 51) c) ≤ 60) : Ev γ mX4_append 7 0 0 [.ref (ga γ 6 0), .int (zI k), .int (zI c)] σ xs (rtn (some (.int (zI (cnt (pPutP σ k.toNat (ixO (tS 51) c) 5) 5)))) (pPutP σ k.toNat (ixO (tS 51) c) 5) xs) nX := by
  refine Ev.of1 2 [some (.ref (ga γ 6 0)), some (.int (zI k)), some (.int (zI c)), none, none] rfl pn_X4_append rfl (Nat.le_of_ble_eq_true rfl) ?_
  refine r_aload_n (q := 1) dX4_append_0 rfl rfl ?_
  refine r_iload_n (q := 2) dX4_append_1 rfl rfl ?_
  refine cX4_1 (My := mX4_slotAt) (q := 5) dX4_append_2 rfl kX4_98 vX4_slotAt (hG _ _ (by first | rfl | exact hj | exact hi | exact vk2 hk | exact vk2 hk2)) rfl (x4_slotAt hG hk) ⟨by decide, by decide⟩ ⟨by decide, by decide⟩ (Nat.le_of_ble_eq_true rfl) ?_
  refine r_astore_n (q := 6) dX4_append_5 rfl (by decide) (Lst.setL rfl rfl) ?_
  refine r_iload_n (q := 7) dX4_append_6 rfl rfl ?_
  refine cS_1 (My := mX4_partOf) (q := 10) dX4_append_7 rfl kX4_149 vX4_partOf (x4_partOf (by omega) h0) ⟨by decide, by decide⟩ ⟨by decide, by decide⟩ (Nat.le_of_ble_eq_true rfl) ?_
  refine r_istore (q := 12) dX4_append_10 rfl (by decide) (Lst.setL rfl rfl) ?_
  refine r_aload_n (q := 13) dX4_append_12 rfl rfl ?_
  refine cS_1v (My := mX4_checkHeld) (q := 16) dX4_append_13 rfl kX4_153 vX4_checkHeld (x4_checkHeld hG (by first | exact vk2 hk | exact vk2 hk2) (by assumption)) ⟨by decide, by decide⟩ ⟨by decide, by decide⟩ (Nat.le_of_ble_eq_true rfl) ?_
  refine r_aload_n (q := 17) dX4_append_16 rfl rfl ?_
  refine r_iload (q := 19) dX4_append_17 rfl rfl ?_
  refine cX0_1 (My := mX0_has) (q := 22) dX4_append_19 rfl kX4_142 vX0_has (hG _ _ (by first | rfl | exact hj | exact hi | exact vk2 hk | exact vk2 hk2)) rfl (x0_has hG (vk2 hk) hW (ixO_r (by decide) _)) ⟨by decide, by decide⟩ ⟨by decide, by decide⟩ (Nat.le_of_ble_eq_true rfl) ?_
  refine r_ifB_ne (q := 25) (tgt := 35) dX4_append_22 rfl (by decide) (fun h22 => ?_) (fun h22 => ?_)
  · refine r_aload_n (q := 36) dX4_append_35 rfl rfl ?_
    refine r_aload_n (q := 37) dX4_append_36 rfl rfl ?_
    refine r_iload (q := 39) dX4_append_37 rfl rfl ?_
    refine cX0_1 (My := mX0_sizeOf) (q := 42) dX4_append_39 rfl kX4_156 vX0_sizeOf (hG _ _ (by first | rfl | exact hj | exact hi | exact vk2 hk | exact vk2 hk2)) rfl (x0_sizeOf hG (vk2 hk) hW (ixO_r (by decide) _)) ⟨by decide, by decide⟩ ⟨by decide, by decide⟩ (Nat.le_of_ble_eq_true rfl) ?_
    refine cX4_1v (My := mX4_checkRoom) (q := 45) dX4_append_42 rfl kX4_48 vX4_checkRoom (hG _ _ (by first | rfl | exact hj | exact hi | exact vk2 hk | exact vk2 hk2)) rfl (x4_checkRoom hG hW (by have h8 := pSiz_r hW k.toNat (ixO (tS 51) c); omega) hn) ⟨by decide, by decide⟩ ⟨by decide, by decide⟩ (Nat.le_of_ble_eq_true rfl) ?_
    refine r_aload_n (q := 46) dX4_append_45 rfl rfl ?_
    refine r_iload (q := 48) dX4_append_46 rfl rfl ?_
    refine r_aload_n (q := 49) dX4_append_48 rfl rfl ?_
    refine g_X4_text (i := 0) (q := 52) dX4_append_49 rfl fX4_10 (hG _ _ (by first | rfl | exact hj | exact hi | exact vk2 hk | exact vk2 hk2)) ?_
    refine cX0_2v (My := mX0_putPart) (q := 55) dX4_append_52 rfl kX4_170 vX0_putPart (hG _ _ (by first | rfl | exact hj | exact hi | exact vk2 hk | exact vk2 hk2)) rfl (x0_putPart hG (vk2 hk) rfl hW (ixO_r (by decide) _)) ⟨by decide, by decide⟩ ⟨by decide, by decide⟩ (Nat.le_of_ble_eq_true rfl) ?_
    refine r_aload_n (q := 56) dX4_append_55 rfl rfl ?_
    refine g_X4_text (i := 0) (q := 59) dX4_append_56 rfl fX4_10 (hG _ _ (by first | rfl | exact hj | exact hi | exact vk2 hk | exact vk2 hk2)) ?_
    refine cX3_0 (My := mX3_count) (q := 62) dX4_append_59 rfl kX4_56 vX3_count (hG _ _ (by first | rfl | exact hj | exact hi | exact vk2 hk | exact vk2 hk2)) rfl (x3_count hG rfl) ⟨by decide, by decide⟩ ⟨by decide, by decide⟩ (Nat.le_of_ble_eq_true rfl) ?_
    refine r_reti dX4_append_62 rfl (by decide) (by decide) ?_
    exact ret_i rfl
  · rw [hp] at h22; exact absurd h22 (by decide)
set_option maxRecDepth 100000 in
set_option maxHeartbeats 4000000 in
theorem x4_append_b1 (hG : Full γ) {k : Int} (hr : -2147483648 ≤ k ∧ k ≤ 2147483647) (hk : k < 0 ∨ 4 ≤ k) {c : Int} (hc : 0 ≤ c ∧ c < 65536) : Ev γ mX4_append 7 1 6 [.ref (ga γ 6 0), .int (zI k), .int (zI c)] σ xs (nR) (thr "java/lang/IndexOutOfBoundsException" σ xs) := by
  refine Ev.of1 2 [some (.ref (ga γ 6 0)), some (.int (zI k)), some (.int (zI c)), none, none] rfl pn_X4_append rfl (Nat.le_of_ble_eq_true rfl) ?_
  refine r_aload_n (q := 1) dX4_append_0 rfl rfl ?_
  refine r_iload_n (q := 2) dX4_append_1 rfl rfl ?_
  refine tX4_1 (My := mX4_slotAt) (q := 5) dX4_append_2 rfl kX4_98 vX4_slotAt (hG _ _ rfl) rfl (x4_slotAt_b hG (by omega) hk) ⟨by decide, by decide⟩ ⟨by decide, by decide⟩ (Nat.le_of_ble_eq_true rfl) ?_
  exact ⟨rfl, rfl, rfl⟩
set_option maxRecDepth 100000 in
set_option maxHeartbeats 4000000 in
theorem x4_append_b2 (hG : Full γ) {k : Int} (hk : 0 ≤ k ∧ k < 4) {c : Int} (hc : 0 ≤ c ∧ c < 65536) (h0 : ixO (tS 51) c < 0) : Ev γ mX4_append 7 1 6 [.ref (ga γ 6 0), .int (zI k), .int (zI c)] σ xs (nR) (thr "java/lang/IllegalArgumentException" σ xs) := by
  refine Ev.of1 2 [some (.ref (ga γ 6 0)), some (.int (zI k)), some (.int (zI c)), none, none] rfl pn_X4_append rfl (Nat.le_of_ble_eq_true rfl) ?_
  refine r_aload_n (q := 1) dX4_append_0 rfl rfl ?_
  refine r_iload_n (q := 2) dX4_append_1 rfl rfl ?_
  refine cX4_1 (My := mX4_slotAt) (q := 5) dX4_append_2 rfl kX4_98 vX4_slotAt (hG _ _ (by first | rfl | exact hj | exact hi | exact vk2 hk | exact vk2 hk2)) rfl (x4_slotAt hG hk) ⟨by decide, by decide⟩ ⟨by decide, by decide⟩ (Nat.le_of_ble_eq_true rfl) ?_
  refine r_astore_n (q := 6) dX4_append_5 rfl (by decide) (Lst.setL rfl rfl) ?_
  refine r_iload_n (q := 7) dX4_append_6 rfl rfl ?_
  refine tS_1 (My := mX4_partOf) (q := 10) dX4_append_7 rfl kX4_149 vX4_partOf (x4_partOf_b (by omega) h0) ⟨by decide, by decide⟩ ⟨by decide, by decide⟩ (Nat.le_of_ble_eq_true rfl) ?_
  exact ⟨rfl, rfl, rfl⟩
set_option maxRecDepth 100000 in
set_option maxHeartbeats 4000000 in
theorem x4_append_b3 (hG : Full γ) {k : Int} (hk : 0 ≤ k ∧ k < 4) {c : Int} (hc : 0 ≤ c ∧ c < 65536) (h0 : 0 ≤ ixO (tS 51) c) (hh : hld σ k.toNat = false) : Ev γ mX4_append 7 1 6 [.ref (ga γ 6 0), .int (zI k), .int (zI c)] σ xs (nR) (thr "java/util/NoSuchElementException" σ xs) := by
  refine Ev.of1 2 [some (.ref (ga γ 6 0)), some (.int (zI k)), some (.int (zI c)), none, none] rfl pn_X4_append rfl (Nat.le_of_ble_eq_true rfl) ?_
  refine r_aload_n (q := 1) dX4_append_0 rfl rfl ?_
  refine r_iload_n (q := 2) dX4_append_1 rfl rfl ?_
  refine cX4_1 (My := mX4_slotAt) (q := 5) dX4_append_2 rfl kX4_98 vX4_slotAt (hG _ _ (by first | rfl | exact hj | exact hi | exact vk2 hk | exact vk2 hk2)) rfl (x4_slotAt hG hk) ⟨by decide, by decide⟩ ⟨by decide, by decide⟩ (Nat.le_of_ble_eq_true rfl) ?_
  refine r_astore_n (q := 6) dX4_append_5 rfl (by decide) (Lst.setL rfl rfl) ?_
  refine r_iload_n (q := 7) dX4_append_6 rfl rfl ?_
  refine cS_1 (My := mX4_partOf) (q := 10) dX4_append_7 rfl kX4_149 vX4_partOf (x4_partOf (by omega) h0) ⟨by decide, by decide⟩ ⟨by decide, by decide⟩ (Nat.le_of_ble_eq_true rfl) ?_
  refine r_istore (q := 12) dX4_append_10 rfl (by decide) (Lst.setL rfl rfl) ?_
  refine r_aload_n (q := 13) dX4_append_12 rfl rfl ?_
  refine tS_1v (My := mX4_checkHeld) (q := 16) dX4_append_13 rfl kX4_153 vX4_checkHeld (x4_checkHeld_b hG (vk2 hk) hh) ⟨by decide, by decide⟩ ⟨by decide, by decide⟩ (Nat.le_of_ble_eq_true rfl) ?_
  exact ⟨rfl, rfl, rfl⟩
set_option maxRecDepth 100000 in
set_option maxHeartbeats 4000000 in
theorem x4_append_b4 (hG : Full γ) {k : Int} (hk : 0 ≤ k ∧ k < 4) {c : Int} (hc : 0 ≤ c ∧ c < 65536) (hW : Wk σ) (h0 : 0 ≤ ixO (tS 51) c) (hh : hld σ k.toNat = true) (hp : pHas σ k.toNat (ixO (tS 51) c) = false) : Ev γ mX4_append 7 1 6 [.ref (ga γ 6 0), .int (zI k), .int (zI c)] σ xs (nR) (thr "java/util/NoSuchElementException" σ xs) := by
  refine Ev.of1 2 [some (.ref (ga γ 6 0)), some (.int (zI k)), some (.int (zI c)), none, none] rfl pn_X4_append rfl (Nat.le_of_ble_eq_true rfl) ?_
  refine r_aload_n (q := 1) dX4_append_0 rfl rfl ?_
  refine r_iload_n (q := 2) dX4_append_1 rfl rfl ?_
  refine cX4_1 (My := mX4_slotAt) (q := 5) dX4_append_2 rfl kX4_98 vX4_slotAt (hG _ _ (by first | rfl | exact hj | exact hi | exact vk2 hk | exact vk2 hk2)) rfl (x4_slotAt hG hk) ⟨by decide, by decide⟩ ⟨by decide, by decide⟩ (Nat.le_of_ble_eq_true rfl) ?_
  refine r_astore_n (q := 6) dX4_append_5 rfl (by decide) (Lst.setL rfl rfl) ?_
  refine r_iload_n (q := 7) dX4_append_6 rfl rfl ?_
  refine cS_1 (My := mX4_partOf) (q := 10) dX4_append_7 rfl kX4_149 vX4_partOf (x4_partOf (by omega) h0) ⟨by decide, by decide⟩ ⟨by decide, by decide⟩ (Nat.le_of_ble_eq_true rfl) ?_
  refine r_istore (q := 12) dX4_append_10 rfl (by decide) (Lst.setL rfl rfl) ?_
  refine r_aload_n (q := 13) dX4_append_12 rfl rfl ?_
  refine cS_1v (My := mX4_checkHeld) (q := 16) dX4_append_13 rfl kX4_153 vX4_checkHeld (x4_checkHeld hG (by first | exact vk2 hk | exact vk2 hk2) (by assumption)) ⟨by decide, by decide⟩ ⟨by decide, by decide⟩ (Nat.le_of_ble_eq_true rfl) ?_
  refine r_aload_n (q := 17) dX4_append_16 rfl rfl ?_
  refine r_iload (q := 19) dX4_append_17 rfl rfl ?_
  refine cX0_1 (My := mX0_has) (q := 22) dX4_append_19 rfl kX4_142 vX0_has (hG _ _ (by first | rfl | exact hj | exact hi | exact vk2 hk | exact vk2 hk2)) rfl (x0_has hG (vk2 hk) hW (ixO_r (by decide) _)) ⟨by decide, by decide⟩ ⟨by decide, by decide⟩ (Nat.le_of_ble_eq_true rfl) ?_
  refine r_ifB_ne (q := 25) (tgt := 35) dX4_append_22 rfl (by decide) (fun h22 => ?_) (fun h22 => ?_)
  · rw [hp] at h22; exact absurd h22 (by decide)
  · refine r_throwN (i := 54) (tx := "the address does not have that part") dX4_append_25 dX4_append_28 dX4_append_29 dX4_append_31 dX4_append_34 rfl (List.mem_of_getElem? (i := 59) rfl) (by decide) (by decide) (by decide) (Nat.le_of_ble_eq_true rfl) ?_
    exact ⟨rfl, rfl, rfl⟩
set_option maxRecDepth 100000 in
set_option maxHeartbeats 4000000 in
theorem x4_append_b5 (hG : Full γ) {k : Int} (hk : 0 ≤ k ∧ k < 4) {c : Int} (hc : 0 ≤ c ∧ c < 65536) (hW : Wk σ) (h0 : 0 ≤ ixO (tS 51) c) (hh : hld σ k.toNat = true) (hp : pHas σ k.toNat (ixO (tS 51) c) = true) (hn : 60 < cnt σ 5 + pSiz σ k.toNat (ixO (tS 51) c)) : Ev γ mX4_append 7 1 6 [.ref (ga γ 6 0), .int (zI k), .int (zI c)] σ xs (nR) (thr "java/lang/IllegalStateException" σ xs) := by
  refine Ev.of1 2 [some (.ref (ga γ 6 0)), some (.int (zI k)), some (.int (zI c)), none, none] rfl pn_X4_append rfl (Nat.le_of_ble_eq_true rfl) ?_
  refine r_aload_n (q := 1) dX4_append_0 rfl rfl ?_
  refine r_iload_n (q := 2) dX4_append_1 rfl rfl ?_
  refine cX4_1 (My := mX4_slotAt) (q := 5) dX4_append_2 rfl kX4_98 vX4_slotAt (hG _ _ (by first | rfl | exact hj | exact hi | exact vk2 hk | exact vk2 hk2)) rfl (x4_slotAt hG hk) ⟨by decide, by decide⟩ ⟨by decide, by decide⟩ (Nat.le_of_ble_eq_true rfl) ?_
  refine r_astore_n (q := 6) dX4_append_5 rfl (by decide) (Lst.setL rfl rfl) ?_
  refine r_iload_n (q := 7) dX4_append_6 rfl rfl ?_
  refine cS_1 (My := mX4_partOf) (q := 10) dX4_append_7 rfl kX4_149 vX4_partOf (x4_partOf (by omega) h0) ⟨by decide, by decide⟩ ⟨by decide, by decide⟩ (Nat.le_of_ble_eq_true rfl) ?_
  refine r_istore (q := 12) dX4_append_10 rfl (by decide) (Lst.setL rfl rfl) ?_
  refine r_aload_n (q := 13) dX4_append_12 rfl rfl ?_
  refine cS_1v (My := mX4_checkHeld) (q := 16) dX4_append_13 rfl kX4_153 vX4_checkHeld (x4_checkHeld hG (by first | exact vk2 hk | exact vk2 hk2) (by assumption)) ⟨by decide, by decide⟩ ⟨by decide, by decide⟩ (Nat.le_of_ble_eq_true rfl) ?_
  refine r_aload_n (q := 17) dX4_append_16 rfl rfl ?_
  refine r_iload (q := 19) dX4_append_17 rfl rfl ?_
  refine cX0_1 (My := mX0_has) (q := 22) dX4_append_19 rfl kX4_142 vX0_has (hG _ _ (by first | rfl | exact hj | exact hi | exact vk2 hk | exact vk2 hk2)) rfl (x0_has hG (vk2 hk) hW (ixO_r (by decide) _)) ⟨by decide, by decide⟩ ⟨by decide, by decide⟩ (Nat.le_of_ble_eq_true rfl) ?_
  refine r_ifB_ne (q := 25) (tgt := 35) dX4_append_22 rfl (by decide) (fun h22 => ?_) (fun h22 => ?_)
  · refine r_aload_n (q := 36) dX4_append_35 rfl rfl ?_
    refine r_aload_n (q := 37) dX4_append_36 rfl rfl ?_
    refine r_iload (q := 39) dX4_append_37 rfl rfl ?_
    refine cX0_1 (My := mX0_sizeOf) (q := 42) dX4_append_39 rfl kX4_156 vX0_sizeOf (hG _ _ (by first | rfl | exact hj | exact hi | exact vk2 hk | exact vk2 hk2)) rfl (x0_sizeOf hG (vk2 hk) hW (ixO_r (by decide) _)) ⟨by decide, by decide⟩ ⟨by decide, by decide⟩ (Nat.le_of_ble_eq_true rfl) ?_
    refine tX4_1v (My := mX4_checkRoom) (q := 45) dX4_append_42 rfl kX4_48 vX4_checkRoom (hG _ _ (by first | rfl | exact hj | exact hi | exact vk2 hk | exact vk2 hk2)) rfl (x4_checkRoom_b hG hW (by have h8 := pSiz_r hW k.toNat (ixO (tS 51) c); omega) hn) ⟨by decide, by decide⟩ ⟨by decide, by decide⟩ (Nat.le_of_ble_eq_true rfl) ?_
    exact ⟨rfl, rfl, rfl⟩
  · rw [hp] at h22; exact absurd h22 (by decide)
end X4b
