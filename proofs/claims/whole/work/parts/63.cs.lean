/-! THE LAW: each case out of two contracts -/
section ESC
variable {γ : Gm} {M : Md} {R : Room} {Z : Array Value → State → Method → Code → Prop} {Q : List Frame → Array Value → State → State → Prop} {c1 n1 pc : Nat} {L : List (Option Value)} {st : List Value} {σ : St} {xs : va_W}
/-- x != 0 as a truth value: ifeq to the 0; 1; goto behind the 0 -/
theorem h_escA {z o1 o2 : Int} {t j : Nat} (hd : decode M.2.1 pc = .ok (.ifCond .eq o1, 3)) (ht : (pc : Int) + o1 = (t : Int)) (d1 : decode M.2.1 (pc + 3) = .ok (.iconst 1, 1)) (d2 : decode M.2.1 (pc + 4) = .ok (.goto o2, 3)) (d0 : decode M.2.1 t = .ok (.iconst 0, 1)) (hj : ((pc + 4 : Nat) : Int) + o2 = (j : Int)) (hj2 : t + 1 = j) (hz : -2147483648 ≤ z ∧ z ≤ 2147483647) (kk : GW γ M R Z Q c1 n1 j L (.int (zI (bI (decide (z ≠ 0)))) :: st) σ xs) : GW γ M R Z Q c1 n1 pc L (.int (zI z) :: st) σ xs := by
  refine h_if_eq (q := pc + 3) (tgt := t) hd rfl ht hz (fun h => ?_) (fun h => ?_)
  · refine h_iconst (q := j) d0 hj2 ?_
    have e : decide (z ≠ 0) = false := decide_eq_false (fun x => x h)
    rw [e] at kk
    exact kk
  · refine h_iconst (q := pc + 4) d1 rfl ?_
    refine h_goto (q := j) d2 hj ?_
    have e : decide (z ≠ 0) = true := decide_eq_true h
    rw [e] at kk
    exact kk
end ESC
section CASES
variable {γ : Gm} {b Ln : Nat} {X : Nat → Int32} {Q : List Frame → Array Value → State → State → Prop} {c1 n1 : Nat} {i : Int} {σ : St} {xs : va_W}
set_option maxRecDepth 100000 in
set_option maxHeartbeats 4000000 in
theorem cs_type (hG : Full γ) (hi : 0 ≤ i ∧ i + 4 ≤ Ln ∧ Ln ≤ 2048) (hc : c1 + 20 ≤ 601024 ∧ n1 + 60 ≤ 7293034) {ky ny k2 n2 : Nat} (h1 : ky ≤ 8 ∧ ny ≤ 30) (h2 : k2 ≤ 8 ∧ n2 ≤ 30) {r : Int} {w : Int} {σ1 : St} {P : St → Prop} (hr : 0 ≤ r ∧ r ≤ 5) (hw : -2147483648 ≤ w ∧ w ≤ 2147483647) (hH : EvH γ mL_type hh_type 8 ky ny [.ref (ga γ 6 0), .int (zI (sx X i 1 % 65536)), .ref (ga γ 18 0)] σ xs (rtn (some (.int (zI r))) σ1 xs) nX) (hM : Ev γ mX5_type 3 k2 n2 [.ref (ga γ 8 0), .int (zI (sx X i 1 % 65536))] σ1 xs (QM (.int (zI w)) P xs) nX) (hcd : ∀ s, P s → mcd s = r) (hov : r = 0 → ∀ s, P s → ov s = w) (next : ∀ s, P s → GW γ mLaw room_1 (ZL γ b Ln X) Q (c1 + 20) (n1 + 60) 1485 (LL γ b i none none) [] s xs) : GW γ mLaw room_1 (ZL γ b Ln X) Q c1 n1 152 (LL γ b i none none) [] σ xs := by
  refine h_aload_n (q := 153) dL_law_152 rfl rfl ?_
  refine h_aload_n (q := 154) dL_law_153 rfl rfl ?_
  refine h_iload (q := 156) dL_law_154 rfl rfl ?_
  refine h_iconst (q := 157) dL_law_156 rfl ?_
  refine h_iadd (q := 158) dL_law_157 rfl ?_
  refine h_sld (q := 159) dL_law_158 rfl (by omega) ?_
  refine h_i2c (q := 160) dL_law_159 rfl ?_
  refine h_aload_n (q := 161) dL_law_160 rfl rfl ?_
  refine hS_3 (My := mL_type) (q := 164) dL_law_161 rfl kL_94 vL_type hH ⟨by decide, by decide⟩ ⟨by show c1 + ky ≤ 601024; omega, by show n1 + ny ≤ 7293034; omega⟩ (Nat.le_of_ble_eq_true rfl) ?_
  refine h_istore (q := 166) dL_law_164 rfl (by decide) (Lst.setL rfl rfl) ?_
  refine h_aload_n (q := 167) dL_law_166 rfl rfl ?_
  refine h_aload_n (q := 168) dL_law_167 rfl rfl ?_
  refine h_iload (q := 170) dL_law_168 rfl rfl ?_
  refine h_iconst (q := 171) dL_law_170 rfl ?_
  refine h_iadd (q := 172) dL_law_171 rfl ?_
  refine h_sld (q := 173) dL_law_172 rfl (by omega) ?_
  refine h_i2c (q := 174) dL_law_173 rfl ?_
  refine hM_1 (My := mX5_type) (q := 177) dL_law_174 rfl kL_99 vX5_type (hG _ _ rfl) rfl hM ⟨by decide, by decide⟩ ⟨by show c1 + ky + k2 ≤ 601024; omega, by show n1 + ny + n2 ≤ 7293034; omega⟩ (Nat.le_of_ble_eq_true rfl) (fun v s x hQ => ?_)
  obtain ⟨rfl, rfl, hs⟩ := hQ
  refine GW.cast rfl (show _ = [Value.int (zI w)] from rfl) ?_
  refine h_istore (q := 179) dL_law_177 rfl (by decide) (Lst.setL rfl rfl) ?_
  refine h_aload_n (q := 180) dL_law_179 rfl rfl ?_
  refine h_thrown (q := 183) hG dL_law_180 rfl kL_100 ⟨by decide, by decide⟩ ⟨by show c1 + ky + k2 + 0 ≤ 601024; omega, by show n1 + ny + n2 + 0 ≤ 7293034; omega⟩ (Nat.le_of_ble_eq_true rfl) (hcd s hs) ?_
  refine h_iload (q := 185) dL_law_183 rfl rfl ?_
  refine h_icmp_eq (q := 188) (tgt := 190) dL_law_185 rfl (by decide) (by omega) (by omega) (fun _ => ?_) (fun z => absurd rfl z)
  refine h_iload (q := 192) dL_law_190 rfl rfl ?_
  refine h_if_ne (q := 195) (tgt := 207) dL_law_192 rfl (by decide) (by omega) (fun _ => ?_) (fun hr0 => ?_)
  · refine h_goto (q := 1485) dL_law_207 (by decide) ?_
    refine GW.drop 5 (GW.drop 6 ?_)
    exact GW.wid (c1 + 20) (n1 + 60) (by omega) (by omega) (next s hs)
  · refine h_aload_n (q := 196) dL_law_195 rfl rfl ?_
    refine h_iconst (q := 197) dL_law_196 rfl ?_
    refine h_laldO (q := 198) dL_law_197 rfl (hG _ _ rfl) ?_
    refine h_iload (q := 200) dL_law_198 rfl rfl ?_
    refine h_i2l (q := 201) dL_law_200 rfl hw ?_
    refine GW.cast rfl (show _ = [Value.long (zL w), Value.long (zL w)] by rw [hov hr0 s hs]) ?_
    refine h_lcmpE (q := 202) dL_law_201 rfl ?_
    refine h_if_eq (q := 205) (tgt := 207) dL_law_202 rfl (by decide) (by decide) (fun _ => ?_) (fun z => absurd rfl z)
    refine h_goto (q := 1485) dL_law_207 (by decide) ?_
    refine GW.drop 5 (GW.drop 6 ?_)
    exact GW.wid (c1 + 20) (n1 + 60) (by omega) (by omega) (next s hs)
set_option maxRecDepth 100000 in
set_option maxHeartbeats 4000000 in
theorem cs_escape (hG : Full γ) (hi : 0 ≤ i ∧ i + 4 ≤ Ln ∧ Ln ≤ 2048) (hc : c1 + 20 ≤ 601024 ∧ n1 + 60 ≤ 7293034) {ky ny k2 n2 : Nat} (h1 : ky ≤ 8 ∧ ny ≤ 30) (h2 : k2 ≤ 8 ∧ n2 ≤ 30) {r : Int} {w : Int} {σ1 : St} {P : St → Prop} (hr : 0 ≤ r ∧ r ≤ 5) (hw : -2147483648 ≤ w ∧ w ≤ 2147483647) (hH : EvH γ mL_escape hh_escape 8 ky ny [.ref (ga γ 6 0), .int (zI (sx X i 1)), .int (zI (bI (decide (sx X i 2 ≠ 0)))), .ref (ga γ 18 0)] σ xs (rtn (some (.int (zI r))) σ1 xs) nX) (hM : Ev γ mX5_escape 3 k2 n2 [.ref (ga γ 8 0), .int (zI (sx X i 1)), .int (zI (bI (decide (sx X i 2 ≠ 0))))] σ1 xs (QM (.int (zI w)) P xs) nX) (hcd : ∀ s, P s → mcd s = r) (hov : r = 0 → ∀ s, P s → ov s = w) (next : ∀ s, P s → GW γ mLaw room_1 (ZL γ b Ln X) Q (c1 + 20) (n1 + 60) 1485 (LL γ b i none none) [] s xs) : GW γ mLaw room_1 (ZL γ b Ln X) Q c1 n1 210 (LL γ b i none none) [] σ xs := by
  refine h_aload_n (q := 211) dL_law_210 rfl rfl ?_
  refine h_aload_n (q := 212) dL_law_211 rfl rfl ?_
  refine h_iload (q := 214) dL_law_212 rfl rfl ?_
  refine h_iconst (q := 215) dL_law_214 rfl ?_
  refine h_iadd (q := 216) dL_law_215 rfl ?_
  refine h_sld (q := 217) dL_law_216 rfl (by omega) ?_
  refine h_aload_n (q := 218) dL_law_217 rfl rfl ?_
  refine h_iload (q := 220) dL_law_218 rfl rfl ?_
  refine h_iconst (q := 221) dL_law_220 rfl ?_
  refine h_iadd (q := 222) dL_law_221 rfl ?_
  refine h_sld (q := 223) dL_law_222 rfl (by omega) ?_
  refine h_escA dL_law_223 (by decide) dL_law_226 dL_law_227 dL_law_230 (by decide) rfl (sx_r X i 2) ?_
  refine h_aload_n (q := 232) dL_law_231 rfl rfl ?_
  refine hS_4 (My := mL_escape) (q := 235) dL_law_232 rfl kL_103 vL_escape hH ⟨by decide, by decide⟩ ⟨by show c1 + ky ≤ 601024; omega, by show n1 + ny ≤ 7293034; omega⟩ (Nat.le_of_ble_eq_true rfl) ?_
  refine h_istore (q := 237) dL_law_235 rfl (by decide) (Lst.setL rfl rfl) ?_
  refine h_aload_n (q := 238) dL_law_237 rfl rfl ?_
  refine h_aload_n (q := 239) dL_law_238 rfl rfl ?_
  refine h_iload (q := 241) dL_law_239 rfl rfl ?_
  refine h_iconst (q := 242) dL_law_241 rfl ?_
  refine h_iadd (q := 243) dL_law_242 rfl ?_
  refine h_sld (q := 244) dL_law_243 rfl (by omega) ?_
  refine h_aload_n (q := 245) dL_law_244 rfl rfl ?_
  refine h_iload (q := 247) dL_law_245 rfl rfl ?_
  refine h_iconst (q := 248) dL_law_247 rfl ?_
  refine h_iadd (q := 249) dL_law_248 rfl ?_
  refine h_sld (q := 250) dL_law_249 rfl (by omega) ?_
  refine h_escA dL_law_250 (by decide) dL_law_253 dL_law_254 dL_law_257 (by decide) rfl (sx_r X i 2) ?_
  refine hM_2 (My := mX5_escape) (q := 261) dL_law_258 rfl kL_106 vX5_escape (hG _ _ rfl) rfl hM ⟨by decide, by decide⟩ ⟨by show c1 + ky + k2 ≤ 601024; omega, by show n1 + ny + n2 ≤ 7293034; omega⟩ (Nat.le_of_ble_eq_true rfl) (fun v s x hQ => ?_)
  obtain ⟨rfl, rfl, hs⟩ := hQ
  refine GW.cast rfl (show _ = [Value.int (zI w)] from rfl) ?_
  refine h_istore (q := 263) dL_law_261 rfl (by decide) (Lst.setL rfl rfl) ?_
  refine h_aload_n (q := 264) dL_law_263 rfl rfl ?_
  refine h_thrown (q := 267) hG dL_law_264 rfl kL_100 ⟨by decide, by decide⟩ ⟨by show c1 + ky + k2 + 0 ≤ 601024; omega, by show n1 + ny + n2 + 0 ≤ 7293034; omega⟩ (Nat.le_of_ble_eq_true rfl) (hcd s hs) ?_
  refine h_iload (q := 269) dL_law_267 rfl rfl ?_
  refine h_icmp_eq (q := 272) (tgt := 274) dL_law_269 rfl (by decide) (by omega) (by omega) (fun _ => ?_) (fun z => absurd rfl z)
  refine h_iload (q := 276) dL_law_274 rfl rfl ?_
  refine h_if_ne (q := 279) (tgt := 291) dL_law_276 rfl (by decide) (by omega) (fun _ => ?_) (fun hr0 => ?_)
  · refine h_goto (q := 1485) dL_law_291 (by decide) ?_
    refine GW.drop 5 (GW.drop 6 ?_)
    exact GW.wid (c1 + 20) (n1 + 60) (by omega) (by omega) (next s hs)
  · refine h_aload_n (q := 280) dL_law_279 rfl rfl ?_
    refine h_iconst (q := 281) dL_law_280 rfl ?_
    refine h_laldO (q := 282) dL_law_281 rfl (hG _ _ rfl) ?_
    refine h_iload (q := 284) dL_law_282 rfl rfl ?_
    refine h_i2l (q := 285) dL_law_284 rfl hw ?_
    refine GW.cast rfl (show _ = [Value.long (zL w), Value.long (zL w)] by rw [hov hr0 s hs]) ?_
    refine h_lcmpE (q := 286) dL_law_285 rfl ?_
    refine h_if_eq (q := 289) (tgt := 291) dL_law_286 rfl (by decide) (by decide) (fun _ => ?_) (fun z => absurd rfl z)
    refine h_goto (q := 1485) dL_law_291 (by decide) ?_
    refine GW.drop 5 (GW.drop 6 ?_)
    exact GW.wid (c1 + 20) (n1 + 60) (by omega) (by omega) (next s hs)
set_option maxRecDepth 100000 in
set_option maxHeartbeats 4000000 in
theorem cs_word (hG : Full γ) (hi : 0 ≤ i ∧ i + 4 ≤ Ln ∧ Ln ≤ 2048) (hc : c1 + 20 ≤ 601024 ∧ n1 + 60 ≤ 7293034) {ky ny k2 n2 : Nat} (h1 : ky ≤ 8 ∧ ny ≤ 30) (h2 : k2 ≤ 8 ∧ n2 ≤ 30) {r : Int} {w : Int} {σ1 : St} {P : St → Prop} (hr : 0 ≤ r ∧ r ≤ 5) (hw : -2147483648 ≤ w ∧ w ≤ 2147483647) (hH : EvH γ mL_word hh_word 8 ky ny [.ref (ga γ 6 0), .int (zI (sx X i 1)), .ref (ga γ 18 0)] σ xs (rtn (some (.int (zI r))) σ1 xs) nX) (hM : Ev γ mX5_word 8 k2 n2 [.ref (ga γ 8 0), .int (zI (sx X i 1))] σ1 xs (QM (.int (zI w)) P xs) nX) (hcd : ∀ s, P s → mcd s = r) (hov : r = 0 → ∀ s, P s → ov s = w) (next : ∀ s, P s → GW γ mLaw room_1 (ZL γ b Ln X) Q (c1 + 20) (n1 + 60) 1485 (LL γ b i none none) [] s xs) : GW γ mLaw room_1 (ZL γ b Ln X) Q c1 n1 294 (LL γ b i none none) [] σ xs := by
  refine h_aload_n (q := 295) dL_law_294 rfl rfl ?_
  refine h_aload_n (q := 296) dL_law_295 rfl rfl ?_
  refine h_iload (q := 298) dL_law_296 rfl rfl ?_
  refine h_iconst (q := 299) dL_law_298 rfl ?_
  refine h_iadd (q := 300) dL_law_299 rfl ?_
  refine h_sld (q := 301) dL_law_300 rfl (by omega) ?_
  refine h_aload_n (q := 302) dL_law_301 rfl rfl ?_
  refine hS_3 (My := mL_word) (q := 305) dL_law_302 rfl kL_107 vL_word hH ⟨by decide, by decide⟩ ⟨by show c1 + ky ≤ 601024; omega, by show n1 + ny ≤ 7293034; omega⟩ (Nat.le_of_ble_eq_true rfl) ?_
  refine h_istore (q := 307) dL_law_305 rfl (by decide) (Lst.setL rfl rfl) ?_
  refine h_aload_n (q := 308) dL_law_307 rfl rfl ?_
  refine h_aload_n (q := 309) dL_law_308 rfl rfl ?_
  refine h_iload (q := 311) dL_law_309 rfl rfl ?_
  refine h_iconst (q := 312) dL_law_311 rfl ?_
  refine h_iadd (q := 313) dL_law_312 rfl ?_
  refine h_sld (q := 314) dL_law_313 rfl (by omega) ?_
  refine hM_1 (My := mX5_word) (q := 317) dL_law_314 rfl kL_110 vX5_word (hG _ _ rfl) rfl hM ⟨by decide, by decide⟩ ⟨by show c1 + ky + k2 ≤ 601024; omega, by show n1 + ny + n2 ≤ 7293034; omega⟩ (Nat.le_of_ble_eq_true rfl) (fun v s x hQ => ?_)
  obtain ⟨rfl, rfl, hs⟩ := hQ
  refine GW.cast rfl (show _ = [Value.int (zI w)] from rfl) ?_
  refine h_istore (q := 319) dL_law_317 rfl (by decide) (Lst.setL rfl rfl) ?_
  refine h_aload_n (q := 320) dL_law_319 rfl rfl ?_
  refine h_thrown (q := 323) hG dL_law_320 rfl kL_100 ⟨by decide, by decide⟩ ⟨by show c1 + ky + k2 + 0 ≤ 601024; omega, by show n1 + ny + n2 + 0 ≤ 7293034; omega⟩ (Nat.le_of_ble_eq_true rfl) (hcd s hs) ?_
  refine h_iload (q := 325) dL_law_323 rfl rfl ?_
  refine h_icmp_eq (q := 328) (tgt := 330) dL_law_325 rfl (by decide) (by omega) (by omega) (fun _ => ?_) (fun z => absurd rfl z)
  refine h_iload (q := 332) dL_law_330 rfl rfl ?_
  refine h_if_ne (q := 335) (tgt := 347) dL_law_332 rfl (by decide) (by omega) (fun _ => ?_) (fun hr0 => ?_)
  · refine h_goto (q := 1485) dL_law_347 (by decide) ?_
    refine GW.drop 5 (GW.drop 6 ?_)
    exact GW.wid (c1 + 20) (n1 + 60) (by omega) (by omega) (next s hs)
  · refine h_aload_n (q := 336) dL_law_335 rfl rfl ?_
    refine h_iconst (q := 337) dL_law_336 rfl ?_
    refine h_laldO (q := 338) dL_law_337 rfl (hG _ _ rfl) ?_
    refine h_iload (q := 340) dL_law_338 rfl rfl ?_
    refine h_i2l (q := 341) dL_law_340 rfl hw ?_
    refine GW.cast rfl (show _ = [Value.long (zL w), Value.long (zL w)] by rw [hov hr0 s hs]) ?_
    refine h_lcmpE (q := 342) dL_law_341 rfl ?_
    refine h_if_eq (q := 345) (tgt := 347) dL_law_342 rfl (by decide) (by decide) (fun _ => ?_) (fun z => absurd rfl z)
    refine h_goto (q := 1485) dL_law_347 (by decide) ?_
    refine GW.drop 5 (GW.drop 6 ?_)
    exact GW.wid (c1 + 20) (n1 + 60) (by omega) (by omega) (next s hs)
set_option maxRecDepth 100000 in
set_option maxHeartbeats 4000000 in
theorem cs_drop (hG : Full γ) (hi : 0 ≤ i ∧ i + 4 ≤ Ln ∧ Ln ≤ 2048) (hc : c1 + 20 ≤ 601024 ∧ n1 + 60 ≤ 7293034) {ky ny k2 n2 : Nat} (h1 : ky ≤ 8 ∧ ny ≤ 30) (h2 : k2 ≤ 8 ∧ n2 ≤ 30) {r : Int} {w : Int} {σ1 : St} {P : St → Prop} (hr : 0 ≤ r ∧ r ≤ 5) (hw : -2147483648 ≤ w ∧ w ≤ 2147483647) (hH : EvH γ mL_drop hh_drop 8 ky ny [.ref (ga γ 6 0), .ref (ga γ 18 0)] σ xs (rtn (some (.int (zI r))) σ1 xs) nX) (hM : Ev γ mX5_drop 2 k2 n2 [.ref (ga γ 8 0)] σ1 xs (QM (.int (zI w)) P xs) nX) (hcd : ∀ s, P s → mcd s = r) (hov : r = 0 → ∀ s, P s → ov s = w) (next : ∀ s, P s → GW γ mLaw room_1 (ZL γ b Ln X) Q (c1 + 20) (n1 + 60) 1485 (LL γ b i none none) [] s xs) : GW γ mLaw room_1 (ZL γ b Ln X) Q c1 n1 350 (LL γ b i none none) [] σ xs := by
  refine h_aload_n (q := 351) dL_law_350 rfl rfl ?_
  refine h_aload_n (q := 352) dL_law_351 rfl rfl ?_
  refine hS_2 (My := mL_drop) (q := 355) dL_law_352 rfl kL_111 vL_drop hH ⟨by decide, by decide⟩ ⟨by show c1 + ky ≤ 601024; omega, by show n1 + ny ≤ 7293034; omega⟩ (Nat.le_of_ble_eq_true rfl) ?_
  refine h_istore (q := 357) dL_law_355 rfl (by decide) (Lst.setL rfl rfl) ?_
  refine h_aload_n (q := 358) dL_law_357 rfl rfl ?_
  refine hM_0 (My := mX5_drop) (q := 361) dL_law_358 rfl kL_114 vX5_drop (hG _ _ rfl) rfl hM ⟨by decide, by decide⟩ ⟨by show c1 + ky + k2 ≤ 601024; omega, by show n1 + ny + n2 ≤ 7293034; omega⟩ (Nat.le_of_ble_eq_true rfl) (fun v s x hQ => ?_)
  obtain ⟨rfl, rfl, hs⟩ := hQ
  refine GW.cast rfl (show _ = [Value.int (zI w)] from rfl) ?_
  refine h_istore (q := 363) dL_law_361 rfl (by decide) (Lst.setL rfl rfl) ?_
  refine h_aload_n (q := 364) dL_law_363 rfl rfl ?_
  refine h_thrown (q := 367) hG dL_law_364 rfl kL_100 ⟨by decide, by decide⟩ ⟨by show c1 + ky + k2 + 0 ≤ 601024; omega, by show n1 + ny + n2 + 0 ≤ 7293034; omega⟩ (Nat.le_of_ble_eq_true rfl) (hcd s hs) ?_
  refine h_iload (q := 369) dL_law_367 rfl rfl ?_
  refine h_icmp_eq (q := 372) (tgt := 374) dL_law_369 rfl (by decide) (by omega) (by omega) (fun _ => ?_) (fun z => absurd rfl z)
  refine h_iload (q := 376) dL_law_374 rfl rfl ?_
  refine h_if_ne (q := 379) (tgt := 391) dL_law_376 rfl (by decide) (by omega) (fun _ => ?_) (fun hr0 => ?_)
  · refine h_goto (q := 1485) dL_law_391 (by decide) ?_
    refine GW.drop 5 (GW.drop 6 ?_)
    exact GW.wid (c1 + 20) (n1 + 60) (by omega) (by omega) (next s hs)
  · refine h_aload_n (q := 380) dL_law_379 rfl rfl ?_
    refine h_iconst (q := 381) dL_law_380 rfl ?_
    refine h_laldO (q := 382) dL_law_381 rfl (hG _ _ rfl) ?_
    refine h_iload (q := 384) dL_law_382 rfl rfl ?_
    refine h_i2l (q := 385) dL_law_384 rfl hw ?_
    refine GW.cast rfl (show _ = [Value.long (zL w), Value.long (zL w)] by rw [hov hr0 s hs]) ?_
    refine h_lcmpE (q := 386) dL_law_385 rfl ?_
    refine h_if_eq (q := 389) (tgt := 391) dL_law_386 rfl (by decide) (by decide) (fun _ => ?_) (fun z => absurd rfl z)
    refine h_goto (q := 1485) dL_law_391 (by decide) ?_
    refine GW.drop 5 (GW.drop 6 ?_)
    exact GW.wid (c1 + 20) (n1 + 60) (by omega) (by omega) (next s hs)
set_option maxRecDepth 100000 in
set_option maxHeartbeats 4000000 in
theorem cs_wipe (hG : Full γ) (hi : 0 ≤ i ∧ i + 4 ≤ Ln ∧ Ln ≤ 2048) (hc : c1 + 20 ≤ 601024 ∧ n1 + 60 ≤ 7293034) {ky ny k2 n2 : Nat} (h1 : ky ≤ 8 ∧ ny ≤ 30) (h2 : k2 ≤ 8 ∧ n2 ≤ 30) {w : Int} {σ1 : St} {P : St → Prop} (hw : -2147483648 ≤ w ∧ w ≤ 2147483647) (hX : Ev γ mX4_wipe 7 ky ny [.ref (ga γ 6 0)] σ xs (rtn (some (.int (zI w))) σ1 xs) nX) (hM : Ev γ mX5_wipe 1 k2 n2 [.ref (ga γ 8 0)] σ1 xs (QM (.int (zI w)) P xs) nX) (next : ∀ s, P s → GW γ mLaw room_1 (ZL γ b Ln X) Q (c1 + 20) (n1 + 60) 1485 (LL γ b i none none) [] s xs) : GW γ mLaw room_1 (ZL γ b Ln X) Q c1 n1 394 (LL γ b i none none) [] σ xs := by
  refine h_aload_n (q := 395) dL_law_394 rfl rfl ?_
  refine hX_0 (My := mX4_wipe) (q := 398) dL_law_395 rfl kL_115 vX4_wipe (hG _ _ rfl) rfl hX ⟨by decide, by decide⟩ ⟨by show c1 + ky ≤ 601024; omega, by show n1 + ny ≤ 7293034; omega⟩ (Nat.le_of_ble_eq_true rfl) (fun v0 s0 x0 h0 => ?_)
  obtain ⟨rfl, rfl, rfl⟩ := h0
  refine GW.cast rfl (show _ = [Value.int (zI w)] from rfl) ?_
  refine h_aload_n (q := 399) dL_law_398 rfl rfl ?_
  refine hM_0 (My := mX5_wipe) (q := 402) dL_law_399 rfl kL_118 vX5_wipe (hG _ _ rfl) rfl hM ⟨by decide, by decide⟩ ⟨by show c1 + ky + k2 ≤ 601024; omega, by show n1 + ny + n2 ≤ 7293034; omega⟩ (Nat.le_of_ble_eq_true rfl) (fun v s x hQ => ?_)
  obtain ⟨rfl, rfl, hs⟩ := hQ
  refine GW.cast rfl (show _ = [Value.int (zI w), Value.int (zI w)] from rfl) ?_
  refine h_icmp_eq (q := 405) (tgt := 1485) dL_law_402 rfl (by decide) hw hw (fun _ => ?_) (fun z => absurd rfl z)
  refine GW.drop 5 (GW.drop 6 ?_)
  exact GW.wid (c1 + 20) (n1 + 60) (by omega) (by omega) (next s hs)
set_option maxRecDepth 100000 in
set_option maxHeartbeats 4000000 in
theorem cs_length (hG : Full γ) (hi : 0 ≤ i ∧ i + 4 ≤ Ln ∧ Ln ≤ 2048) (hc : c1 + 20 ≤ 601024 ∧ n1 + 60 ≤ 7293034) {ky ny k2 n2 : Nat} (h1 : ky ≤ 8 ∧ ny ≤ 30) (h2 : k2 ≤ 8 ∧ n2 ≤ 30) {w : Int} {σ1 : St} {P : St → Prop} (hw : -2147483648 ≤ w ∧ w ≤ 2147483647) (hX : Ev γ mX4_length 7 ky ny [.ref (ga γ 6 0)] σ xs (rtn (some (.int (zI w))) σ1 xs) nX) (hM : Ev γ mX5_length 1 k2 n2 [.ref (ga γ 8 0)] σ1 xs (QM (.int (zI w)) P xs) nX) (next : ∀ s, P s → GW γ mLaw room_1 (ZL γ b Ln X) Q (c1 + 20) (n1 + 60) 1485 (LL γ b i none none) [] s xs) : GW γ mLaw room_1 (ZL γ b Ln X) Q c1 n1 407 (LL γ b i none none) [] σ xs := by
  refine h_aload_n (q := 408) dL_law_407 rfl rfl ?_
  refine hX_0 (My := mX4_length) (q := 411) dL_law_408 rfl kL_119 vX4_length (hG _ _ rfl) rfl hX ⟨by decide, by decide⟩ ⟨by show c1 + ky ≤ 601024; omega, by show n1 + ny ≤ 7293034; omega⟩ (Nat.le_of_ble_eq_true rfl) (fun v0 s0 x0 h0 => ?_)
  obtain ⟨rfl, rfl, rfl⟩ := h0
  refine GW.cast rfl (show _ = [Value.int (zI w)] from rfl) ?_
  refine h_aload_n (q := 412) dL_law_411 rfl rfl ?_
  refine hM_0 (My := mX5_length) (q := 415) dL_law_412 rfl kL_122 vX5_length (hG _ _ rfl) rfl hM ⟨by decide, by decide⟩ ⟨by show c1 + ky + k2 ≤ 601024; omega, by show n1 + ny + n2 ≤ 7293034; omega⟩ (Nat.le_of_ble_eq_true rfl) (fun v s x hQ => ?_)
  obtain ⟨rfl, rfl, hs⟩ := hQ
  refine GW.cast rfl (show _ = [Value.int (zI w), Value.int (zI w)] from rfl) ?_
  refine h_icmp_eq (q := 418) (tgt := 1485) dL_law_415 rfl (by decide) hw hw (fun _ => ?_) (fun z => absurd rfl z)
  refine GW.drop 5 (GW.drop 6 ?_)
  exact GW.wid (c1 + 20) (n1 + 60) (by omega) (by omega) (next s hs)
set_option maxRecDepth 100000 in
set_option maxHeartbeats 4000000 in
theorem cs_signAt (hG : Full γ) (hi : 0 ≤ i ∧ i + 4 ≤ Ln ∧ Ln ≤ 2048) (hc : c1 + 20 ≤ 601024 ∧ n1 + 60 ≤ 7293034) {ky ny k2 n2 : Nat} (h1 : ky ≤ 8 ∧ ny ≤ 30) (h2 : k2 ≤ 8 ∧ n2 ≤ 30) {r : Int} {w : Int} {σ1 : St} {P : St → Prop} (hr : 0 ≤ r ∧ r ≤ 5) (hw : -2147483648 ≤ w ∧ w ≤ 2147483647) (hH : EvH γ mL_signAt hh_signAt 8 ky ny [.ref (ga γ 6 0), .int (zI (sx X i 1)), .ref (ga γ 18 0)] σ xs (rtn (some (.int (zI r))) σ1 xs) nX) (hM : Ev γ mX5_signAt 2 k2 n2 [.ref (ga γ 8 0), .int (zI (sx X i 1))] σ1 xs (QM (.int (zI w)) P xs) nX) (hcd : ∀ s, P s → mcd s = r) (hov : r = 0 → ∀ s, P s → ov s = w) (next : ∀ s, P s → GW γ mLaw room_1 (ZL γ b Ln X) Q (c1 + 20) (n1 + 60) 1485 (LL γ b i none none) [] s xs) : GW γ mLaw room_1 (ZL γ b Ln X) Q c1 n1 420 (LL γ b i none none) [] σ xs := by
  refine h_aload_n (q := 421) dL_law_420 rfl rfl ?_
  refine h_aload_n (q := 422) dL_law_421 rfl rfl ?_
  refine h_iload (q := 424) dL_law_422 rfl rfl ?_
  refine h_iconst (q := 425) dL_law_424 rfl ?_
  refine h_iadd (q := 426) dL_law_425 rfl ?_
  refine h_sld (q := 427) dL_law_426 rfl (by omega) ?_
  refine h_aload_n (q := 428) dL_law_427 rfl rfl ?_
  refine hS_3 (My := mL_signAt) (q := 431) dL_law_428 rfl kL_123 vL_signAt hH ⟨by decide, by decide⟩ ⟨by show c1 + ky ≤ 601024; omega, by show n1 + ny ≤ 7293034; omega⟩ (Nat.le_of_ble_eq_true rfl) ?_
  refine h_istore (q := 433) dL_law_431 rfl (by decide) (Lst.setL rfl rfl) ?_
  refine h_aload_n (q := 434) dL_law_433 rfl rfl ?_
  refine h_aload_n (q := 435) dL_law_434 rfl rfl ?_
  refine h_iload (q := 437) dL_law_435 rfl rfl ?_
  refine h_iconst (q := 438) dL_law_437 rfl ?_
  refine h_iadd (q := 439) dL_law_438 rfl ?_
  refine h_sld (q := 440) dL_law_439 rfl (by omega) ?_
  refine hM_1 (My := mX5_signAt) (q := 443) dL_law_440 rfl kL_125 vX5_signAt (hG _ _ rfl) rfl hM ⟨by decide, by decide⟩ ⟨by show c1 + ky + k2 ≤ 601024; omega, by show n1 + ny + n2 ≤ 7293034; omega⟩ (Nat.le_of_ble_eq_true rfl) (fun v s x hQ => ?_)
  obtain ⟨rfl, rfl, hs⟩ := hQ
  refine GW.cast rfl (show _ = [Value.int (zI w)] from rfl) ?_
  refine h_istore (q := 445) dL_law_443 rfl (by decide) (Lst.setL rfl rfl) ?_
  refine h_aload_n (q := 446) dL_law_445 rfl rfl ?_
  refine h_thrown (q := 449) hG dL_law_446 rfl kL_100 ⟨by decide, by decide⟩ ⟨by show c1 + ky + k2 + 0 ≤ 601024; omega, by show n1 + ny + n2 + 0 ≤ 7293034; omega⟩ (Nat.le_of_ble_eq_true rfl) (hcd s hs) ?_
  refine h_iload (q := 451) dL_law_449 rfl rfl ?_
  refine h_icmp_eq (q := 454) (tgt := 456) dL_law_451 rfl (by decide) (by omega) (by omega) (fun _ => ?_) (fun z => absurd rfl z)
  refine h_iload (q := 458) dL_law_456 rfl rfl ?_
  refine h_if_ne (q := 461) (tgt := 473) dL_law_458 rfl (by decide) (by omega) (fun _ => ?_) (fun hr0 => ?_)
  · refine h_goto (q := 1485) dL_law_473 (by decide) ?_
    refine GW.drop 5 (GW.drop 6 ?_)
    exact GW.wid (c1 + 20) (n1 + 60) (by omega) (by omega) (next s hs)
  · refine h_aload_n (q := 462) dL_law_461 rfl rfl ?_
    refine h_iconst (q := 463) dL_law_462 rfl ?_
    refine h_laldO (q := 464) dL_law_463 rfl (hG _ _ rfl) ?_
    refine h_iload (q := 466) dL_law_464 rfl rfl ?_
    refine h_i2l (q := 467) dL_law_466 rfl hw ?_
    refine GW.cast rfl (show _ = [Value.long (zL w), Value.long (zL w)] by rw [hov hr0 s hs]) ?_
    refine h_lcmpE (q := 468) dL_law_467 rfl ?_
    refine h_if_eq (q := 471) (tgt := 473) dL_law_468 rfl (by decide) (by decide) (fun _ => ?_) (fun z => absurd rfl z)
    refine h_goto (q := 1485) dL_law_473 (by decide) ?_
    refine GW.drop 5 (GW.drop 6 ?_)
    exact GW.wid (c1 + 20) (n1 + 60) (by omega) (by omega) (next s hs)
set_option maxRecDepth 100000 in
set_option maxHeartbeats 4000000 in
theorem cs_parse (hG : Full γ) (hi : 0 ≤ i ∧ i + 4 ≤ Ln ∧ Ln ≤ 2048) (hc : c1 + 20 ≤ 601024 ∧ n1 + 60 ≤ 7293034) {ky ny k2 n2 : Nat} (h1 : ky ≤ 8 ∧ ny ≤ 30) (h2 : k2 ≤ 8 ∧ n2 ≤ 30) {r : Int} {w : Int} {σ1 : St} {P : St → Prop} (hr : 0 ≤ r ∧ r ≤ 5) (hw : -2147483648 ≤ w ∧ w ≤ 2147483647) (hH : EvH γ mL_parse hh_parse 10 ky ny [.ref (ga γ 6 0), .int (zI (sx X i 1)), .ref (ga γ 18 0)] σ xs (rtn (some (.int (zI r))) σ1 xs) nX) (hM : Ev γ mX5_parse 9 k2 n2 [.ref (ga γ 8 0), .int (zI (sx X i 1))] σ1 xs (QM (.int (zI w)) P xs) nX) (hcd : ∀ s, P s → mcd s = r) (hov : r = 0 → ∀ s, P s → ov s = w) (next : ∀ s, P s → GW γ mLaw room_1 (ZL γ b Ln X) Q (c1 + 20) (n1 + 60) 1485 (LL γ b i none none) [] s xs) : GW γ mLaw room_1 (ZL γ b Ln X) Q c1 n1 476 (LL γ b i none none) [] σ xs := by
  refine h_aload_n (q := 477) dL_law_476 rfl rfl ?_
  refine h_aload_n (q := 478) dL_law_477 rfl rfl ?_
  refine h_iload (q := 480) dL_law_478 rfl rfl ?_
  refine h_iconst (q := 481) dL_law_480 rfl ?_
  refine h_iadd (q := 482) dL_law_481 rfl ?_
  refine h_sld (q := 483) dL_law_482 rfl (by omega) ?_
  refine h_aload_n (q := 484) dL_law_483 rfl rfl ?_
  refine hS_3 (My := mL_parse) (q := 487) dL_law_484 rfl kL_126 vL_parse hH ⟨by decide, by decide⟩ ⟨by show c1 + ky ≤ 601024; omega, by show n1 + ny ≤ 7293034; omega⟩ (Nat.le_of_ble_eq_true rfl) ?_
  refine h_istore (q := 489) dL_law_487 rfl (by decide) (Lst.setL rfl rfl) ?_
  refine h_aload_n (q := 490) dL_law_489 rfl rfl ?_
  refine h_aload_n (q := 491) dL_law_490 rfl rfl ?_
  refine h_iload (q := 493) dL_law_491 rfl rfl ?_
  refine h_iconst (q := 494) dL_law_493 rfl ?_
  refine h_iadd (q := 495) dL_law_494 rfl ?_
  refine h_sld (q := 496) dL_law_495 rfl (by omega) ?_
  refine hM_1 (My := mX5_parse) (q := 499) dL_law_496 rfl kL_128 vX5_parse (hG _ _ rfl) rfl hM ⟨by decide, by decide⟩ ⟨by show c1 + ky + k2 ≤ 601024; omega, by show n1 + ny + n2 ≤ 7293034; omega⟩ (Nat.le_of_ble_eq_true rfl) (fun v s x hQ => ?_)
  obtain ⟨rfl, rfl, hs⟩ := hQ
  refine GW.cast rfl (show _ = [Value.int (zI w)] from rfl) ?_
  refine h_istore (q := 501) dL_law_499 rfl (by decide) (Lst.setL rfl rfl) ?_
  refine h_aload_n (q := 502) dL_law_501 rfl rfl ?_
  refine h_thrown (q := 505) hG dL_law_502 rfl kL_100 ⟨by decide, by decide⟩ ⟨by show c1 + ky + k2 + 0 ≤ 601024; omega, by show n1 + ny + n2 + 0 ≤ 7293034; omega⟩ (Nat.le_of_ble_eq_true rfl) (hcd s hs) ?_
  refine h_iload (q := 507) dL_law_505 rfl rfl ?_
  refine h_icmp_eq (q := 510) (tgt := 512) dL_law_507 rfl (by decide) (by omega) (by omega) (fun _ => ?_) (fun z => absurd rfl z)
  refine h_iload (q := 514) dL_law_512 rfl rfl ?_
  refine h_if_ne (q := 517) (tgt := 529) dL_law_514 rfl (by decide) (by omega) (fun _ => ?_) (fun hr0 => ?_)
  · refine h_goto (q := 1485) dL_law_529 (by decide) ?_
    refine GW.drop 5 (GW.drop 6 ?_)
    exact GW.wid (c1 + 20) (n1 + 60) (by omega) (by omega) (next s hs)
  · refine h_aload_n (q := 518) dL_law_517 rfl rfl ?_
    refine h_iconst (q := 519) dL_law_518 rfl ?_
    refine h_laldO (q := 520) dL_law_519 rfl (hG _ _ rfl) ?_
    refine h_iload (q := 522) dL_law_520 rfl rfl ?_
    refine h_i2l (q := 523) dL_law_522 rfl hw ?_
    refine GW.cast rfl (show _ = [Value.long (zL w), Value.long (zL w)] by rw [hov hr0 s hs]) ?_
    refine h_lcmpE (q := 524) dL_law_523 rfl ?_
    refine h_if_eq (q := 527) (tgt := 529) dL_law_524 rfl (by decide) (by decide) (fun _ => ?_) (fun z => absurd rfl z)
    refine h_goto (q := 1485) dL_law_529 (by decide) ?_
    refine GW.drop 5 (GW.drop 6 ?_)
    exact GW.wid (c1 + 20) (n1 + 60) (by omega) (by omega) (next s hs)
set_option maxRecDepth 100000 in
set_option maxHeartbeats 4000000 in
theorem cs_refusals (hG : Full γ) (hi : 0 ≤ i ∧ i + 4 ≤ Ln ∧ Ln ≤ 2048) (hc : c1 + 20 ≤ 601024 ∧ n1 + 60 ≤ 7293034) {ky ny k2 n2 : Nat} (h1 : ky ≤ 8 ∧ ny ≤ 30) (h2 : k2 ≤ 8 ∧ n2 ≤ 30) {w : Int} {σ1 : St} {P : St → Prop} (hw : -2147483648 ≤ w ∧ w ≤ 2147483647) (hX : Ev γ mX4_refusals 7 ky ny [.ref (ga γ 6 0)] σ xs (rtn (some (.int (zI w))) σ1 xs) nX) (hM : Ev γ mX5_refusals 1 k2 n2 [.ref (ga γ 8 0)] σ1 xs (QM (.int (zI w)) P xs) nX) (next : ∀ s, P s → GW γ mLaw room_1 (ZL γ b Ln X) Q (c1 + 20) (n1 + 60) 1485 (LL γ b i none none) [] s xs) : GW γ mLaw room_1 (ZL γ b Ln X) Q c1 n1 532 (LL γ b i none none) [] σ xs := by
  refine h_aload_n (q := 533) dL_law_532 rfl rfl ?_
  refine hX_0 (My := mX4_refusals) (q := 536) dL_law_533 rfl kL_129 vX4_refusals (hG _ _ rfl) rfl hX ⟨by decide, by decide⟩ ⟨by show c1 + ky ≤ 601024; omega, by show n1 + ny ≤ 7293034; omega⟩ (Nat.le_of_ble_eq_true rfl) (fun v0 s0 x0 h0 => ?_)
  obtain ⟨rfl, rfl, rfl⟩ := h0
  refine GW.cast rfl (show _ = [Value.int (zI w)] from rfl) ?_
  refine h_aload_n (q := 537) dL_law_536 rfl rfl ?_
  refine hM_0 (My := mX5_refusals) (q := 540) dL_law_537 rfl kL_132 vX5_refusals (hG _ _ rfl) rfl hM ⟨by decide, by decide⟩ ⟨by show c1 + ky + k2 ≤ 601024; omega, by show n1 + ny + n2 ≤ 7293034; omega⟩ (Nat.le_of_ble_eq_true rfl) (fun v s x hQ => ?_)
  obtain ⟨rfl, rfl, hs⟩ := hQ
  refine GW.cast rfl (show _ = [Value.int (zI w), Value.int (zI w)] from rfl) ?_
  refine h_icmp_eq (q := 543) (tgt := 1485) dL_law_540 rfl (by decide) hw hw (fun _ => ?_) (fun z => absurd rfl z)
  refine GW.drop 5 (GW.drop 6 ?_)
  exact GW.wid (c1 + 20) (n1 + 60) (by omega) (by omega) (next s hs)
set_option maxRecDepth 100000 in
set_option maxHeartbeats 4000000 in
theorem cs_refusedAt (hG : Full γ) (hi : 0 ≤ i ∧ i + 4 ≤ Ln ∧ Ln ≤ 2048) (hc : c1 + 20 ≤ 601024 ∧ n1 + 60 ≤ 7293034) {ky ny k2 n2 : Nat} (h1 : ky ≤ 8 ∧ ny ≤ 30) (h2 : k2 ≤ 8 ∧ n2 ≤ 30) {r : Int} {w : Int} {σ1 : St} {P : St → Prop} (hr : 0 ≤ r ∧ r ≤ 5) (hw : -2147483648 ≤ w ∧ w ≤ 2147483647) (hH : EvH γ mL_refusedAt hh_refusedAt 8 ky ny [.ref (ga γ 6 0), .ref (ga γ 18 0)] σ xs (rtn (some (.int (zI r))) σ1 xs) nX) (hM : Ev γ mX5_refusedAt 2 k2 n2 [.ref (ga γ 8 0)] σ1 xs (QM (.int (zI w)) P xs) nX) (hcd : ∀ s, P s → mcd s = r) (hov : r = 0 → ∀ s, P s → ov s = w) (next : ∀ s, P s → GW γ mLaw room_1 (ZL γ b Ln X) Q (c1 + 20) (n1 + 60) 1485 (LL γ b i none none) [] s xs) : GW γ mLaw room_1 (ZL γ b Ln X) Q c1 n1 545 (LL γ b i none none) [] σ xs := by
  refine h_aload_n (q := 546) dL_law_545 rfl rfl ?_
  refine h_aload_n (q := 547) dL_law_546 rfl rfl ?_
  refine hS_2 (My := mL_refusedAt) (q := 550) dL_law_547 rfl kL_133 vL_refusedAt hH ⟨by decide, by decide⟩ ⟨by show c1 + ky ≤ 601024; omega, by show n1 + ny ≤ 7293034; omega⟩ (Nat.le_of_ble_eq_true rfl) ?_
  refine h_istore (q := 552) dL_law_550 rfl (by decide) (Lst.setL rfl rfl) ?_
  refine h_aload_n (q := 553) dL_law_552 rfl rfl ?_
  refine hM_0 (My := mX5_refusedAt) (q := 556) dL_law_553 rfl kL_135 vX5_refusedAt (hG _ _ rfl) rfl hM ⟨by decide, by decide⟩ ⟨by show c1 + ky + k2 ≤ 601024; omega, by show n1 + ny + n2 ≤ 7293034; omega⟩ (Nat.le_of_ble_eq_true rfl) (fun v s x hQ => ?_)
  obtain ⟨rfl, rfl, hs⟩ := hQ
  refine GW.cast rfl (show _ = [Value.int (zI w)] from rfl) ?_
  refine h_istore (q := 558) dL_law_556 rfl (by decide) (Lst.setL rfl rfl) ?_
  refine h_aload_n (q := 559) dL_law_558 rfl rfl ?_
  refine h_thrown (q := 562) hG dL_law_559 rfl kL_100 ⟨by decide, by decide⟩ ⟨by show c1 + ky + k2 + 0 ≤ 601024; omega, by show n1 + ny + n2 + 0 ≤ 7293034; omega⟩ (Nat.le_of_ble_eq_true rfl) (hcd s hs) ?_
  refine h_iload (q := 564) dL_law_562 rfl rfl ?_
  refine h_icmp_eq (q := 567) (tgt := 569) dL_law_564 rfl (by decide) (by omega) (by omega) (fun _ => ?_) (fun z => absurd rfl z)
  refine h_iload (q := 571) dL_law_569 rfl rfl ?_
  refine h_if_ne (q := 574) (tgt := 586) dL_law_571 rfl (by decide) (by omega) (fun _ => ?_) (fun hr0 => ?_)
  · refine h_goto (q := 1485) dL_law_586 (by decide) ?_
    refine GW.drop 5 (GW.drop 6 ?_)
    exact GW.wid (c1 + 20) (n1 + 60) (by omega) (by omega) (next s hs)
  · refine h_aload_n (q := 575) dL_law_574 rfl rfl ?_
    refine h_iconst (q := 576) dL_law_575 rfl ?_
    refine h_laldO (q := 577) dL_law_576 rfl (hG _ _ rfl) ?_
    refine h_iload (q := 579) dL_law_577 rfl rfl ?_
    refine h_i2l (q := 580) dL_law_579 rfl hw ?_
    refine GW.cast rfl (show _ = [Value.long (zL w), Value.long (zL w)] by rw [hov hr0 s hs]) ?_
    refine h_lcmpE (q := 581) dL_law_580 rfl ?_
    refine h_if_eq (q := 584) (tgt := 586) dL_law_581 rfl (by decide) (by decide) (fun _ => ?_) (fun z => absurd rfl z)
    refine h_goto (q := 1485) dL_law_586 (by decide) ?_
    refine GW.drop 5 (GW.drop 6 ?_)
    exact GW.wid (c1 + 20) (n1 + 60) (by omega) (by omega) (next s hs)
set_option maxRecDepth 100000 in
set_option maxHeartbeats 4000000 in
theorem cs_isTold (hG : Full γ) (hi : 0 ≤ i ∧ i + 4 ≤ Ln ∧ Ln ≤ 2048) (hc : c1 + 20 ≤ 601024 ∧ n1 + 60 ≤ 7293034) {ky ny k2 n2 : Nat} (h1 : ky ≤ 8 ∧ ny ≤ 30) (h2 : k2 ≤ 8 ∧ n2 ≤ 30) {r : Int} {w : Bool} {σ1 : St} {P : St → Prop} (hr : 0 ≤ r ∧ r ≤ 5) (hH : EvH γ mL_isTold hh_isTold 8 ky ny [.ref (ga γ 6 0), .ref (ga γ 18 0)] σ xs (rtn (some (.int (zI r))) σ1 xs) nX) (hM : Ev γ mX5_isTold 2 k2 n2 [.ref (ga γ 8 0)] σ1 xs (QM (.int (zI (bI w))) P xs) nX) (hcd : ∀ s, P s → mcd s = r) (hov : r = 0 → ∀ s, P s → ov s = bI w) (next : ∀ s, P s → GW γ mLaw room_1 (ZL γ b Ln X) Q (c1 + 20) (n1 + 60) 1485 (LL γ b i none none) [] s xs) : GW γ mLaw room_1 (ZL γ b Ln X) Q c1 n1 589 (LL γ b i none none) [] σ xs := by
  refine h_aload_n (q := 590) dL_law_589 rfl rfl ?_
  refine h_aload_n (q := 591) dL_law_590 rfl rfl ?_
  refine hS_2 (My := mL_isTold) (q := 594) dL_law_591 rfl kL_136 vL_isTold hH ⟨by decide, by decide⟩ ⟨by show c1 + ky ≤ 601024; omega, by show n1 + ny ≤ 7293034; omega⟩ (Nat.le_of_ble_eq_true rfl) ?_
  refine h_istore (q := 596) dL_law_594 rfl (by decide) (Lst.setL rfl rfl) ?_
  refine h_aload_n (q := 597) dL_law_596 rfl rfl ?_
  refine hM_0 (My := mX5_isTold) (q := 600) dL_law_597 rfl kL_138 vX5_isTold (hG _ _ rfl) rfl hM ⟨by decide, by decide⟩ ⟨by show c1 + ky + k2 ≤ 601024; omega, by show n1 + ny + n2 ≤ 7293034; omega⟩ (Nat.le_of_ble_eq_true rfl) (fun v s x hQ => ?_)
  obtain ⟨rfl, rfl, hs⟩ := hQ
  refine GW.cast rfl (show _ = [Value.int (zI (bI w))] from rfl) ?_
  refine h_istore (q := 602) dL_law_600 rfl (by decide) (Lst.setL rfl rfl) ?_
  refine h_aload_n (q := 603) dL_law_602 rfl rfl ?_
  refine h_thrown (q := 606) hG dL_law_603 rfl kL_100 ⟨by decide, by decide⟩ ⟨by show c1 + ky + k2 + 0 ≤ 601024; omega, by show n1 + ny + n2 + 0 ≤ 7293034; omega⟩ (Nat.le_of_ble_eq_true rfl) (hcd s hs) ?_
  refine h_iload (q := 608) dL_law_606 rfl rfl ?_
  refine h_icmp_eq (q := 611) (tgt := 613) dL_law_608 rfl (by decide) (by omega) (by omega) (fun _ => ?_) (fun z => absurd rfl z)
  refine h_iload (q := 615) dL_law_613 rfl rfl ?_
  refine h_if_ne (q := 618) (tgt := 637) dL_law_615 rfl (by decide) (by omega) (fun _ => ?_) (fun hr0 => ?_)
  · refine h_goto (q := 1485) dL_law_637 (by decide) ?_
    refine GW.drop 5 (GW.drop 6 ?_)
    exact GW.wid (c1 + 20) (n1 + 60) (by omega) (by omega) (next s hs)
  · refine h_aload_n (q := 619) dL_law_618 rfl rfl ?_
    refine h_iconst (q := 620) dL_law_619 rfl ?_
    refine h_laldO (q := 621) dL_law_620 rfl (hG _ _ rfl) ?_
    refine h_iload (q := 623) dL_law_621 rfl rfl ?_
    refine h_ifB_eq (q := 626) (tgt := 630) dL_law_623 rfl (by decide) (fun hw6 => ?_) (fun hw6 => ?_)
    · refine h_lconst (z := 0) (q := 631) dL_law_630 rfl (by decide +kernel) ?_
      refine GW.cast rfl (show _ = [Value.long (zL (bI w)), Value.long (zL (bI w))] by rw [hov hr0 s hs, hw6]; rfl) ?_
      refine h_lcmpE (q := 632) dL_law_631 rfl ?_
      refine h_if_eq (q := 635) (tgt := 637) dL_law_632 rfl (by decide) (by decide) (fun _ => ?_) (fun z => absurd rfl z)
      refine h_goto (q := 1485) dL_law_637 (by decide) ?_
      refine GW.drop 5 (GW.drop 6 ?_)
      exact GW.wid (c1 + 20) (n1 + 60) (by omega) (by omega) (next s hs)
    · refine h_lconst (z := 1) (q := 627) dL_law_626 rfl (by decide +kernel) ?_
      refine h_goto (q := 631) dL_law_627 (by decide) ?_
      refine GW.cast rfl (show _ = [Value.long (zL (bI w)), Value.long (zL (bI w))] by rw [hov hr0 s hs, hw6]; rfl) ?_
      refine h_lcmpE (q := 632) dL_law_631 rfl ?_
      refine h_if_eq (q := 635) (tgt := 637) dL_law_632 rfl (by decide) (by decide) (fun _ => ?_) (fun z => absurd rfl z)
      refine h_goto (q := 1485) dL_law_637 (by decide) ?_
      refine GW.drop 5 (GW.drop 6 ?_)
      exact GW.wid (c1 + 20) (n1 + 60) (by omega) (by omega) (next s hs)
set_option maxRecDepth 100000 in
set_option maxHeartbeats 4000000 in
theorem cs_isThere (hG : Full γ) (hi : 0 ≤ i ∧ i + 4 ≤ Ln ∧ Ln ≤ 2048) (hc : c1 + 20 ≤ 601024 ∧ n1 + 60 ≤ 7293034) {ky ny k2 n2 : Nat} (h1 : ky ≤ 8 ∧ ny ≤ 30) (h2 : k2 ≤ 8 ∧ n2 ≤ 30) {r : Int} {w : Bool} {σ1 : St} {P : St → Prop} (hr : 0 ≤ r ∧ r ≤ 5) (hH : EvH γ mL_isThere hh_isThere 8 ky ny [.ref (ga γ 6 0), .int (zI (sx X i 1)), .ref (ga γ 18 0)] σ xs (rtn (some (.int (zI r))) σ1 xs) nX) (hM : Ev γ mX5_isThere 3 k2 n2 [.ref (ga γ 8 0), .int (zI (sx X i 1))] σ1 xs (QM (.int (zI (bI w))) P xs) nX) (hcd : ∀ s, P s → mcd s = r) (hov : r = 0 → ∀ s, P s → ov s = bI w) (next : ∀ s, P s → GW γ mLaw room_1 (ZL γ b Ln X) Q (c1 + 20) (n1 + 60) 1485 (LL γ b i none none) [] s xs) : GW γ mLaw room_1 (ZL γ b Ln X) Q c1 n1 640 (LL γ b i none none) [] σ xs := by
  refine h_aload_n (q := 641) dL_law_640 rfl rfl ?_
  refine h_aload_n (q := 642) dL_law_641 rfl rfl ?_
  refine h_iload (q := 644) dL_law_642 rfl rfl ?_
  refine h_iconst (q := 645) dL_law_644 rfl ?_
  refine h_iadd (q := 646) dL_law_645 rfl ?_
  refine h_sld (q := 647) dL_law_646 rfl (by omega) ?_
  refine h_aload_n (q := 648) dL_law_647 rfl rfl ?_
  refine hS_3 (My := mL_isThere) (q := 651) dL_law_648 rfl kL_139 vL_isThere hH ⟨by decide, by decide⟩ ⟨by show c1 + ky ≤ 601024; omega, by show n1 + ny ≤ 7293034; omega⟩ (Nat.le_of_ble_eq_true rfl) ?_
  refine h_istore (q := 653) dL_law_651 rfl (by decide) (Lst.setL rfl rfl) ?_
  refine h_aload_n (q := 654) dL_law_653 rfl rfl ?_
  refine h_aload_n (q := 655) dL_law_654 rfl rfl ?_
  refine h_iload (q := 657) dL_law_655 rfl rfl ?_
  refine h_iconst (q := 658) dL_law_657 rfl ?_
  refine h_iadd (q := 659) dL_law_658 rfl ?_
  refine h_sld (q := 660) dL_law_659 rfl (by omega) ?_
  refine hM_1 (My := mX5_isThere) (q := 663) dL_law_660 rfl kL_141 vX5_isThere (hG _ _ rfl) rfl hM ⟨by decide, by decide⟩ ⟨by show c1 + ky + k2 ≤ 601024; omega, by show n1 + ny + n2 ≤ 7293034; omega⟩ (Nat.le_of_ble_eq_true rfl) (fun v s x hQ => ?_)
  obtain ⟨rfl, rfl, hs⟩ := hQ
  refine GW.cast rfl (show _ = [Value.int (zI (bI w))] from rfl) ?_
  refine h_istore (q := 665) dL_law_663 rfl (by decide) (Lst.setL rfl rfl) ?_
  refine h_aload_n (q := 666) dL_law_665 rfl rfl ?_
  refine h_thrown (q := 669) hG dL_law_666 rfl kL_100 ⟨by decide, by decide⟩ ⟨by show c1 + ky + k2 + 0 ≤ 601024; omega, by show n1 + ny + n2 + 0 ≤ 7293034; omega⟩ (Nat.le_of_ble_eq_true rfl) (hcd s hs) ?_
  refine h_iload (q := 671) dL_law_669 rfl rfl ?_
  refine h_icmp_eq (q := 674) (tgt := 676) dL_law_671 rfl (by decide) (by omega) (by omega) (fun _ => ?_) (fun z => absurd rfl z)
  refine h_iload (q := 678) dL_law_676 rfl rfl ?_
  refine h_if_ne (q := 681) (tgt := 700) dL_law_678 rfl (by decide) (by omega) (fun _ => ?_) (fun hr0 => ?_)
  · refine h_goto (q := 1485) dL_law_700 (by decide) ?_
    refine GW.drop 5 (GW.drop 6 ?_)
    exact GW.wid (c1 + 20) (n1 + 60) (by omega) (by omega) (next s hs)
  · refine h_aload_n (q := 682) dL_law_681 rfl rfl ?_
    refine h_iconst (q := 683) dL_law_682 rfl ?_
    refine h_laldO (q := 684) dL_law_683 rfl (hG _ _ rfl) ?_
    refine h_iload (q := 686) dL_law_684 rfl rfl ?_
    refine h_ifB_eq (q := 689) (tgt := 693) dL_law_686 rfl (by decide) (fun hw6 => ?_) (fun hw6 => ?_)
    · refine h_lconst (z := 0) (q := 694) dL_law_693 rfl (by decide +kernel) ?_
      refine GW.cast rfl (show _ = [Value.long (zL (bI w)), Value.long (zL (bI w))] by rw [hov hr0 s hs, hw6]; rfl) ?_
      refine h_lcmpE (q := 695) dL_law_694 rfl ?_
      refine h_if_eq (q := 698) (tgt := 700) dL_law_695 rfl (by decide) (by decide) (fun _ => ?_) (fun z => absurd rfl z)
      refine h_goto (q := 1485) dL_law_700 (by decide) ?_
      refine GW.drop 5 (GW.drop 6 ?_)
      exact GW.wid (c1 + 20) (n1 + 60) (by omega) (by omega) (next s hs)
    · refine h_lconst (z := 1) (q := 690) dL_law_689 rfl (by decide +kernel) ?_
      refine h_goto (q := 694) dL_law_690 (by decide) ?_
      refine GW.cast rfl (show _ = [Value.long (zL (bI w)), Value.long (zL (bI w))] by rw [hov hr0 s hs, hw6]; rfl) ?_
      refine h_lcmpE (q := 695) dL_law_694 rfl ?_
      refine h_if_eq (q := 698) (tgt := 700) dL_law_695 rfl (by decide) (by decide) (fun _ => ?_) (fun z => absurd rfl z)
      refine h_goto (q := 1485) dL_law_700 (by decide) ?_
      refine GW.drop 5 (GW.drop 6 ?_)
      exact GW.wid (c1 + 20) (n1 + 60) (by omega) (by omega) (next s hs)
set_option maxRecDepth 100000 in
set_option maxHeartbeats 4000000 in
theorem cs_isAbsolute (hG : Full γ) (hi : 0 ≤ i ∧ i + 4 ≤ Ln ∧ Ln ≤ 2048) (hc : c1 + 20 ≤ 601024 ∧ n1 + 60 ≤ 7293034) {ky ny k2 n2 : Nat} (h1 : ky ≤ 8 ∧ ny ≤ 30) (h2 : k2 ≤ 8 ∧ n2 ≤ 30) {r : Int} {w : Bool} {σ1 : St} {P : St → Prop} (hr : 0 ≤ r ∧ r ≤ 5) (hH : EvH γ mL_isAbsolute hh_isAbsolute 9 ky ny [.ref (ga γ 6 0), .int (zI (sx X i 1)), .ref (ga γ 18 0)] σ xs (rtn (some (.int (zI r))) σ1 xs) nX) (hM : Ev γ mX5_isAbsolute 8 k2 n2 [.ref (ga γ 8 0), .int (zI (sx X i 1))] σ1 xs (QM (.int (zI (bI w))) P xs) nX) (hcd : ∀ s, P s → mcd s = r) (hov : r = 0 → ∀ s, P s → ov s = bI w) (next : ∀ s, P s → GW γ mLaw room_1 (ZL γ b Ln X) Q (c1 + 20) (n1 + 60) 1485 (LL γ b i none none) [] s xs) : GW γ mLaw room_1 (ZL γ b Ln X) Q c1 n1 703 (LL γ b i none none) [] σ xs := by
  refine h_aload_n (q := 704) dL_law_703 rfl rfl ?_
  refine h_aload_n (q := 705) dL_law_704 rfl rfl ?_
  refine h_iload (q := 707) dL_law_705 rfl rfl ?_
  refine h_iconst (q := 708) dL_law_707 rfl ?_
  refine h_iadd (q := 709) dL_law_708 rfl ?_
  refine h_sld (q := 710) dL_law_709 rfl (by omega) ?_
  refine h_aload_n (q := 711) dL_law_710 rfl rfl ?_
  refine hS_3 (My := mL_isAbsolute) (q := 714) dL_law_711 rfl kL_142 vL_isAbsolute hH ⟨by decide, by decide⟩ ⟨by show c1 + ky ≤ 601024; omega, by show n1 + ny ≤ 7293034; omega⟩ (Nat.le_of_ble_eq_true rfl) ?_
  refine h_istore (q := 716) dL_law_714 rfl (by decide) (Lst.setL rfl rfl) ?_
  refine h_aload_n (q := 717) dL_law_716 rfl rfl ?_
  refine h_aload_n (q := 718) dL_law_717 rfl rfl ?_
  refine h_iload (q := 720) dL_law_718 rfl rfl ?_
  refine h_iconst (q := 721) dL_law_720 rfl ?_
  refine h_iadd (q := 722) dL_law_721 rfl ?_
  refine h_sld (q := 723) dL_law_722 rfl (by omega) ?_
  refine hM_1 (My := mX5_isAbsolute) (q := 726) dL_law_723 rfl kL_144 vX5_isAbsolute (hG _ _ rfl) rfl hM ⟨by decide, by decide⟩ ⟨by show c1 + ky + k2 ≤ 601024; omega, by show n1 + ny + n2 ≤ 7293034; omega⟩ (Nat.le_of_ble_eq_true rfl) (fun v s x hQ => ?_)
  obtain ⟨rfl, rfl, hs⟩ := hQ
  refine GW.cast rfl (show _ = [Value.int (zI (bI w))] from rfl) ?_
  refine h_istore (q := 728) dL_law_726 rfl (by decide) (Lst.setL rfl rfl) ?_
  refine h_aload_n (q := 729) dL_law_728 rfl rfl ?_
  refine h_thrown (q := 732) hG dL_law_729 rfl kL_100 ⟨by decide, by decide⟩ ⟨by show c1 + ky + k2 + 0 ≤ 601024; omega, by show n1 + ny + n2 + 0 ≤ 7293034; omega⟩ (Nat.le_of_ble_eq_true rfl) (hcd s hs) ?_
  refine h_iload (q := 734) dL_law_732 rfl rfl ?_
  refine h_icmp_eq (q := 737) (tgt := 739) dL_law_734 rfl (by decide) (by omega) (by omega) (fun _ => ?_) (fun z => absurd rfl z)
  refine h_iload (q := 741) dL_law_739 rfl rfl ?_
  refine h_if_ne (q := 744) (tgt := 763) dL_law_741 rfl (by decide) (by omega) (fun _ => ?_) (fun hr0 => ?_)
  · refine h_goto (q := 1485) dL_law_763 (by decide) ?_
    refine GW.drop 5 (GW.drop 6 ?_)
    exact GW.wid (c1 + 20) (n1 + 60) (by omega) (by omega) (next s hs)
  · refine h_aload_n (q := 745) dL_law_744 rfl rfl ?_
    refine h_iconst (q := 746) dL_law_745 rfl ?_
    refine h_laldO (q := 747) dL_law_746 rfl (hG _ _ rfl) ?_
    refine h_iload (q := 749) dL_law_747 rfl rfl ?_
    refine h_ifB_eq (q := 752) (tgt := 756) dL_law_749 rfl (by decide) (fun hw6 => ?_) (fun hw6 => ?_)
    · refine h_lconst (z := 0) (q := 757) dL_law_756 rfl (by decide +kernel) ?_
      refine GW.cast rfl (show _ = [Value.long (zL (bI w)), Value.long (zL (bI w))] by rw [hov hr0 s hs, hw6]; rfl) ?_
      refine h_lcmpE (q := 758) dL_law_757 rfl ?_
      refine h_if_eq (q := 761) (tgt := 763) dL_law_758 rfl (by decide) (by decide) (fun _ => ?_) (fun z => absurd rfl z)
      refine h_goto (q := 1485) dL_law_763 (by decide) ?_
      refine GW.drop 5 (GW.drop 6 ?_)
      exact GW.wid (c1 + 20) (n1 + 60) (by omega) (by omega) (next s hs)
    · refine h_lconst (z := 1) (q := 753) dL_law_752 rfl (by decide +kernel) ?_
      refine h_goto (q := 757) dL_law_753 (by decide) ?_
      refine GW.cast rfl (show _ = [Value.long (zL (bI w)), Value.long (zL (bI w))] by rw [hov hr0 s hs, hw6]; rfl) ?_
      refine h_lcmpE (q := 758) dL_law_757 rfl ?_
      refine h_if_eq (q := 761) (tgt := 763) dL_law_758 rfl (by decide) (by decide) (fun _ => ?_) (fun z => absurd rfl z)
      refine h_goto (q := 1485) dL_law_763 (by decide) ?_
      refine GW.drop 5 (GW.drop 6 ?_)
      exact GW.wid (c1 + 20) (n1 + 60) (by omega) (by omega) (next s hs)
set_option maxRecDepth 100000 in
set_option maxHeartbeats 4000000 in
theorem cs_isOpaque (hG : Full γ) (hi : 0 ≤ i ∧ i + 4 ≤ Ln ∧ Ln ≤ 2048) (hc : c1 + 20 ≤ 601024 ∧ n1 + 60 ≤ 7293034) {ky ny k2 n2 : Nat} (h1 : ky ≤ 8 ∧ ny ≤ 30) (h2 : k2 ≤ 8 ∧ n2 ≤ 30) {r : Int} {w : Bool} {σ1 : St} {P : St → Prop} (hr : 0 ≤ r ∧ r ≤ 5) (hH : EvH γ mL_isOpaque hh_isOpaque 9 ky ny [.ref (ga γ 6 0), .int (zI (sx X i 1)), .ref (ga γ 18 0)] σ xs (rtn (some (.int (zI r))) σ1 xs) nX) (hM : Ev γ mX5_isOpaque 8 k2 n2 [.ref (ga γ 8 0), .int (zI (sx X i 1))] σ1 xs (QM (.int (zI (bI w))) P xs) nX) (hcd : ∀ s, P s → mcd s = r) (hov : r = 0 → ∀ s, P s → ov s = bI w) (next : ∀ s, P s → GW γ mLaw room_1 (ZL γ b Ln X) Q (c1 + 20) (n1 + 60) 1485 (LL γ b i none none) [] s xs) : GW γ mLaw room_1 (ZL γ b Ln X) Q c1 n1 766 (LL γ b i none none) [] σ xs := by
  refine h_aload_n (q := 767) dL_law_766 rfl rfl ?_
  refine h_aload_n (q := 768) dL_law_767 rfl rfl ?_
  refine h_iload (q := 770) dL_law_768 rfl rfl ?_
  refine h_iconst (q := 771) dL_law_770 rfl ?_
  refine h_iadd (q := 772) dL_law_771 rfl ?_
  refine h_sld (q := 773) dL_law_772 rfl (by omega) ?_
  refine h_aload_n (q := 774) dL_law_773 rfl rfl ?_
  refine hS_3 (My := mL_isOpaque) (q := 777) dL_law_774 rfl kL_145 vL_isOpaque hH ⟨by decide, by decide⟩ ⟨by show c1 + ky ≤ 601024; omega, by show n1 + ny ≤ 7293034; omega⟩ (Nat.le_of_ble_eq_true rfl) ?_
  refine h_istore (q := 779) dL_law_777 rfl (by decide) (Lst.setL rfl rfl) ?_
  refine h_aload_n (q := 780) dL_law_779 rfl rfl ?_
  refine h_aload_n (q := 781) dL_law_780 rfl rfl ?_
  refine h_iload (q := 783) dL_law_781 rfl rfl ?_
  refine h_iconst (q := 784) dL_law_783 rfl ?_
  refine h_iadd (q := 785) dL_law_784 rfl ?_
  refine h_sld (q := 786) dL_law_785 rfl (by omega) ?_
  refine hM_1 (My := mX5_isOpaque) (q := 789) dL_law_786 rfl kL_147 vX5_isOpaque (hG _ _ rfl) rfl hM ⟨by decide, by decide⟩ ⟨by show c1 + ky + k2 ≤ 601024; omega, by show n1 + ny + n2 ≤ 7293034; omega⟩ (Nat.le_of_ble_eq_true rfl) (fun v s x hQ => ?_)
  obtain ⟨rfl, rfl, hs⟩ := hQ
  refine GW.cast rfl (show _ = [Value.int (zI (bI w))] from rfl) ?_
  refine h_istore (q := 791) dL_law_789 rfl (by decide) (Lst.setL rfl rfl) ?_
  refine h_aload_n (q := 792) dL_law_791 rfl rfl ?_
  refine h_thrown (q := 795) hG dL_law_792 rfl kL_100 ⟨by decide, by decide⟩ ⟨by show c1 + ky + k2 + 0 ≤ 601024; omega, by show n1 + ny + n2 + 0 ≤ 7293034; omega⟩ (Nat.le_of_ble_eq_true rfl) (hcd s hs) ?_
  refine h_iload (q := 797) dL_law_795 rfl rfl ?_
  refine h_icmp_eq (q := 800) (tgt := 802) dL_law_797 rfl (by decide) (by omega) (by omega) (fun _ => ?_) (fun z => absurd rfl z)
  refine h_iload (q := 804) dL_law_802 rfl rfl ?_
  refine h_if_ne (q := 807) (tgt := 826) dL_law_804 rfl (by decide) (by omega) (fun _ => ?_) (fun hr0 => ?_)
  · refine h_goto (q := 1485) dL_law_826 (by decide) ?_
    refine GW.drop 5 (GW.drop 6 ?_)
    exact GW.wid (c1 + 20) (n1 + 60) (by omega) (by omega) (next s hs)
  · refine h_aload_n (q := 808) dL_law_807 rfl rfl ?_
    refine h_iconst (q := 809) dL_law_808 rfl ?_
    refine h_laldO (q := 810) dL_law_809 rfl (hG _ _ rfl) ?_
    refine h_iload (q := 812) dL_law_810 rfl rfl ?_
    refine h_ifB_eq (q := 815) (tgt := 819) dL_law_812 rfl (by decide) (fun hw6 => ?_) (fun hw6 => ?_)
    · refine h_lconst (z := 0) (q := 820) dL_law_819 rfl (by decide +kernel) ?_
      refine GW.cast rfl (show _ = [Value.long (zL (bI w)), Value.long (zL (bI w))] by rw [hov hr0 s hs, hw6]; rfl) ?_
      refine h_lcmpE (q := 821) dL_law_820 rfl ?_
      refine h_if_eq (q := 824) (tgt := 826) dL_law_821 rfl (by decide) (by decide) (fun _ => ?_) (fun z => absurd rfl z)
      refine h_goto (q := 1485) dL_law_826 (by decide) ?_
      refine GW.drop 5 (GW.drop 6 ?_)
      exact GW.wid (c1 + 20) (n1 + 60) (by omega) (by omega) (next s hs)
    · refine h_lconst (z := 1) (q := 816) dL_law_815 rfl (by decide +kernel) ?_
      refine h_goto (q := 820) dL_law_816 (by decide) ?_
      refine GW.cast rfl (show _ = [Value.long (zL (bI w)), Value.long (zL (bI w))] by rw [hov hr0 s hs, hw6]; rfl) ?_
      refine h_lcmpE (q := 821) dL_law_820 rfl ?_
      refine h_if_eq (q := 824) (tgt := 826) dL_law_821 rfl (by decide) (by decide) (fun _ => ?_) (fun z => absurd rfl z)
      refine h_goto (q := 1485) dL_law_826 (by decide) ?_
      refine GW.drop 5 (GW.drop 6 ?_)
      exact GW.wid (c1 + 20) (n1 + 60) (by omega) (by omega) (next s hs)
set_option maxRecDepth 100000 in
set_option maxHeartbeats 4000000 in
theorem cs_port (hG : Full γ) (hi : 0 ≤ i ∧ i + 4 ≤ Ln ∧ Ln ≤ 2048) (hc : c1 + 20 ≤ 601024 ∧ n1 + 60 ≤ 7293034) {ky ny k2 n2 : Nat} (h1 : ky ≤ 8 ∧ ny ≤ 30) (h2 : k2 ≤ 8 ∧ n2 ≤ 30) {r : Int} {w : Int} {σ1 : St} {P : St → Prop} (hr : 0 ≤ r ∧ r ≤ 5) (hw : -2147483648 ≤ w ∧ w ≤ 2147483647) (hH : EvH γ mL_port hh_port 9 ky ny [.ref (ga γ 6 0), .int (zI (sx X i 1)), .ref (ga γ 18 0)] σ xs (rtn (some (.int (zI r))) σ1 xs) nX) (hM : Ev γ mX5_port 4 k2 n2 [.ref (ga γ 8 0), .int (zI (sx X i 1))] σ1 xs (QM (.int (zI w)) P xs) nX) (hcd : ∀ s, P s → mcd s = r) (hov : r = 0 → ∀ s, P s → ov s = w) (next : ∀ s, P s → GW γ mLaw room_1 (ZL γ b Ln X) Q (c1 + 20) (n1 + 60) 1485 (LL γ b i none none) [] s xs) : GW γ mLaw room_1 (ZL γ b Ln X) Q c1 n1 829 (LL γ b i none none) [] σ xs := by
  refine h_aload_n (q := 830) dL_law_829 rfl rfl ?_
  refine h_aload_n (q := 831) dL_law_830 rfl rfl ?_
  refine h_iload (q := 833) dL_law_831 rfl rfl ?_
  refine h_iconst (q := 834) dL_law_833 rfl ?_
  refine h_iadd (q := 835) dL_law_834 rfl ?_
  refine h_sld (q := 836) dL_law_835 rfl (by omega) ?_
  refine h_aload_n (q := 837) dL_law_836 rfl rfl ?_
  refine hS_3 (My := mL_port) (q := 840) dL_law_837 rfl kL_148 vL_port hH ⟨by decide, by decide⟩ ⟨by show c1 + ky ≤ 601024; omega, by show n1 + ny ≤ 7293034; omega⟩ (Nat.le_of_ble_eq_true rfl) ?_
  refine h_istore (q := 842) dL_law_840 rfl (by decide) (Lst.setL rfl rfl) ?_
  refine h_aload_n (q := 843) dL_law_842 rfl rfl ?_
  refine h_aload_n (q := 844) dL_law_843 rfl rfl ?_
  refine h_iload (q := 846) dL_law_844 rfl rfl ?_
  refine h_iconst (q := 847) dL_law_846 rfl ?_
  refine h_iadd (q := 848) dL_law_847 rfl ?_
  refine h_sld (q := 849) dL_law_848 rfl (by omega) ?_
  refine hM_1 (My := mX5_port) (q := 852) dL_law_849 rfl kL_150 vX5_port (hG _ _ rfl) rfl hM ⟨by decide, by decide⟩ ⟨by show c1 + ky + k2 ≤ 601024; omega, by show n1 + ny + n2 ≤ 7293034; omega⟩ (Nat.le_of_ble_eq_true rfl) (fun v s x hQ => ?_)
  obtain ⟨rfl, rfl, hs⟩ := hQ
  refine GW.cast rfl (show _ = [Value.int (zI w)] from rfl) ?_
  refine h_istore (q := 854) dL_law_852 rfl (by decide) (Lst.setL rfl rfl) ?_
  refine h_aload_n (q := 855) dL_law_854 rfl rfl ?_
  refine h_thrown (q := 858) hG dL_law_855 rfl kL_100 ⟨by decide, by decide⟩ ⟨by show c1 + ky + k2 + 0 ≤ 601024; omega, by show n1 + ny + n2 + 0 ≤ 7293034; omega⟩ (Nat.le_of_ble_eq_true rfl) (hcd s hs) ?_
  refine h_iload (q := 860) dL_law_858 rfl rfl ?_
  refine h_icmp_eq (q := 863) (tgt := 865) dL_law_860 rfl (by decide) (by omega) (by omega) (fun _ => ?_) (fun z => absurd rfl z)
  refine h_iload (q := 867) dL_law_865 rfl rfl ?_
  refine h_if_ne (q := 870) (tgt := 882) dL_law_867 rfl (by decide) (by omega) (fun _ => ?_) (fun hr0 => ?_)
  · refine h_goto (q := 1485) dL_law_882 (by decide) ?_
    refine GW.drop 5 (GW.drop 6 ?_)
    exact GW.wid (c1 + 20) (n1 + 60) (by omega) (by omega) (next s hs)
  · refine h_aload_n (q := 871) dL_law_870 rfl rfl ?_
    refine h_iconst (q := 872) dL_law_871 rfl ?_
    refine h_laldO (q := 873) dL_law_872 rfl (hG _ _ rfl) ?_
    refine h_iload (q := 875) dL_law_873 rfl rfl ?_
    refine h_i2l (q := 876) dL_law_875 rfl hw ?_
    refine GW.cast rfl (show _ = [Value.long (zL w), Value.long (zL w)] by rw [hov hr0 s hs]) ?_
    refine h_lcmpE (q := 877) dL_law_876 rfl ?_
    refine h_if_eq (q := 880) (tgt := 882) dL_law_877 rfl (by decide) (by decide) (fun _ => ?_) (fun z => absurd rfl z)
    refine h_goto (q := 1485) dL_law_882 (by decide) ?_
    refine GW.drop 5 (GW.drop 6 ?_)
    exact GW.wid (c1 + 20) (n1 + 60) (by omega) (by omega) (next s hs)
set_option maxRecDepth 100000 in
set_option maxHeartbeats 4000000 in
theorem cs_size (hG : Full γ) (hi : 0 ≤ i ∧ i + 4 ≤ Ln ∧ Ln ≤ 2048) (hc : c1 + 20 ≤ 601024 ∧ n1 + 60 ≤ 7293034) {ky ny k2 n2 : Nat} (h1 : ky ≤ 8 ∧ ny ≤ 30) (h2 : k2 ≤ 8 ∧ n2 ≤ 30) {r : Int} {w : Int} {σ1 : St} {P : St → Prop} (hr : 0 ≤ r ∧ r ≤ 5) (hw : -2147483648 ≤ w ∧ w ≤ 2147483647) (hH : EvH γ mL_size hh_size 8 ky ny [.ref (ga γ 6 0), .int (zI (sx X i 1)), .int (zI (sx X i 2 % 65536)), .ref (ga γ 18 0)] σ xs (rtn (some (.int (zI r))) σ1 xs) nX) (hM : Ev γ mX5_size 7 k2 n2 [.ref (ga γ 8 0), .int (zI (sx X i 1)), .int (zI (sx X i 2 % 65536))] σ1 xs (QM (.int (zI w)) P xs) nX) (hcd : ∀ s, P s → mcd s = r) (hov : r = 0 → ∀ s, P s → ov s = w) (next : ∀ s, P s → GW γ mLaw room_1 (ZL γ b Ln X) Q (c1 + 20) (n1 + 60) 1485 (LL γ b i none none) [] s xs) : GW γ mLaw room_1 (ZL γ b Ln X) Q c1 n1 885 (LL γ b i none none) [] σ xs := by
  refine h_aload_n (q := 886) dL_law_885 rfl rfl ?_
  refine h_aload_n (q := 887) dL_law_886 rfl rfl ?_
  refine h_iload (q := 889) dL_law_887 rfl rfl ?_
  refine h_iconst (q := 890) dL_law_889 rfl ?_
  refine h_iadd (q := 891) dL_law_890 rfl ?_
  refine h_sld (q := 892) dL_law_891 rfl (by omega) ?_
  refine h_aload_n (q := 893) dL_law_892 rfl rfl ?_
  refine h_iload (q := 895) dL_law_893 rfl rfl ?_
  refine h_iconst (q := 896) dL_law_895 rfl ?_
  refine h_iadd (q := 897) dL_law_896 rfl ?_
  refine h_sld (q := 898) dL_law_897 rfl (by omega) ?_
  refine h_i2c (q := 899) dL_law_898 rfl ?_
  refine h_aload_n (q := 900) dL_law_899 rfl rfl ?_
  refine hS_4 (My := mL_size) (q := 903) dL_law_900 rfl kL_151 vL_size hH ⟨by decide, by decide⟩ ⟨by show c1 + ky ≤ 601024; omega, by show n1 + ny ≤ 7293034; omega⟩ (Nat.le_of_ble_eq_true rfl) ?_
  refine h_istore (q := 905) dL_law_903 rfl (by decide) (Lst.setL rfl rfl) ?_
  refine h_aload_n (q := 906) dL_law_905 rfl rfl ?_
  refine h_aload_n (q := 907) dL_law_906 rfl rfl ?_
  refine h_iload (q := 909) dL_law_907 rfl rfl ?_
  refine h_iconst (q := 910) dL_law_909 rfl ?_
  refine h_iadd (q := 911) dL_law_910 rfl ?_
  refine h_sld (q := 912) dL_law_911 rfl (by omega) ?_
  refine h_aload_n (q := 913) dL_law_912 rfl rfl ?_
  refine h_iload (q := 915) dL_law_913 rfl rfl ?_
  refine h_iconst (q := 916) dL_law_915 rfl ?_
  refine h_iadd (q := 917) dL_law_916 rfl ?_
  refine h_sld (q := 918) dL_law_917 rfl (by omega) ?_
  refine h_i2c (q := 919) dL_law_918 rfl ?_
  refine hM_2 (My := mX5_size) (q := 922) dL_law_919 rfl kL_154 vX5_size (hG _ _ rfl) rfl hM ⟨by decide, by decide⟩ ⟨by show c1 + ky + k2 ≤ 601024; omega, by show n1 + ny + n2 ≤ 7293034; omega⟩ (Nat.le_of_ble_eq_true rfl) (fun v s x hQ => ?_)
  obtain ⟨rfl, rfl, hs⟩ := hQ
  refine GW.cast rfl (show _ = [Value.int (zI w)] from rfl) ?_
  refine h_istore (q := 924) dL_law_922 rfl (by decide) (Lst.setL rfl rfl) ?_
  refine h_aload_n (q := 925) dL_law_924 rfl rfl ?_
  refine h_thrown (q := 928) hG dL_law_925 rfl kL_100 ⟨by decide, by decide⟩ ⟨by show c1 + ky + k2 + 0 ≤ 601024; omega, by show n1 + ny + n2 + 0 ≤ 7293034; omega⟩ (Nat.le_of_ble_eq_true rfl) (hcd s hs) ?_
  refine h_iload (q := 930) dL_law_928 rfl rfl ?_
  refine h_icmp_eq (q := 933) (tgt := 935) dL_law_930 rfl (by decide) (by omega) (by omega) (fun _ => ?_) (fun z => absurd rfl z)
  refine h_iload (q := 937) dL_law_935 rfl rfl ?_
  refine h_if_ne (q := 940) (tgt := 952) dL_law_937 rfl (by decide) (by omega) (fun _ => ?_) (fun hr0 => ?_)
  · refine h_goto (q := 1485) dL_law_952 (by decide) ?_
    refine GW.drop 5 (GW.drop 6 ?_)
    exact GW.wid (c1 + 20) (n1 + 60) (by omega) (by omega) (next s hs)
  · refine h_aload_n (q := 941) dL_law_940 rfl rfl ?_
    refine h_iconst (q := 942) dL_law_941 rfl ?_
    refine h_laldO (q := 943) dL_law_942 rfl (hG _ _ rfl) ?_
    refine h_iload (q := 945) dL_law_943 rfl rfl ?_
    refine h_i2l (q := 946) dL_law_945 rfl hw ?_
    refine GW.cast rfl (show _ = [Value.long (zL w), Value.long (zL w)] by rw [hov hr0 s hs]) ?_
    refine h_lcmpE (q := 947) dL_law_946 rfl ?_
    refine h_if_eq (q := 950) (tgt := 952) dL_law_947 rfl (by decide) (by decide) (fun _ => ?_) (fun z => absurd rfl z)
    refine h_goto (q := 1485) dL_law_952 (by decide) ?_
    refine GW.drop 5 (GW.drop 6 ?_)
    exact GW.wid (c1 + 20) (n1 + 60) (by omega) (by omega) (next s hs)
set_option maxRecDepth 100000 in
set_option maxHeartbeats 4000000 in
theorem cs_partSign (hG : Full γ) (hi : 0 ≤ i ∧ i + 4 ≤ Ln ∧ Ln ≤ 2048) (hc : c1 + 20 ≤ 601024 ∧ n1 + 60 ≤ 7293034) {ky ny k2 n2 : Nat} (h1 : ky ≤ 8 ∧ ny ≤ 30) (h2 : k2 ≤ 8 ∧ n2 ≤ 30) {r : Int} {w : Int} {σ1 : St} {P : St → Prop} (hr : 0 ≤ r ∧ r ≤ 5) (hw : -2147483648 ≤ w ∧ w ≤ 2147483647) (hH : EvH γ mL_partSign hh_partSign 8 ky ny [.ref (ga γ 6 0), .int (zI (sx X i 1)), .int (zI (sx X i 2 % 65536)), .int (zI (sx X i 3)), .ref (ga γ 18 0)] σ xs (rtn (some (.int (zI r))) σ1 xs) nX) (hM : Ev γ mX5_partSign 7 k2 n2 [.ref (ga γ 8 0), .int (zI (sx X i 1)), .int (zI (sx X i 2 % 65536)), .int (zI (sx X i 3))] σ1 xs (QM (.int (zI w)) P xs) nX) (hcd : ∀ s, P s → mcd s = r) (hov : r = 0 → ∀ s, P s → ov s = w) (next : ∀ s, P s → GW γ mLaw room_1 (ZL γ b Ln X) Q (c1 + 20) (n1 + 60) 1485 (LL γ b i none none) [] s xs) : GW γ mLaw room_1 (ZL γ b Ln X) Q c1 n1 955 (LL γ b i none none) [] σ xs := by
  refine h_aload_n (q := 956) dL_law_955 rfl rfl ?_
  refine h_aload_n (q := 957) dL_law_956 rfl rfl ?_
  refine h_iload (q := 959) dL_law_957 rfl rfl ?_
  refine h_iconst (q := 960) dL_law_959 rfl ?_
  refine h_iadd (q := 961) dL_law_960 rfl ?_
  refine h_sld (q := 962) dL_law_961 rfl (by omega) ?_
  refine h_aload_n (q := 963) dL_law_962 rfl rfl ?_
  refine h_iload (q := 965) dL_law_963 rfl rfl ?_
  refine h_iconst (q := 966) dL_law_965 rfl ?_
  refine h_iadd (q := 967) dL_law_966 rfl ?_
  refine h_sld (q := 968) dL_law_967 rfl (by omega) ?_
  refine h_i2c (q := 969) dL_law_968 rfl ?_
  refine h_aload_n (q := 970) dL_law_969 rfl rfl ?_
  refine h_iload (q := 972) dL_law_970 rfl rfl ?_
  refine h_iconst (q := 973) dL_law_972 rfl ?_
  refine h_iadd (q := 974) dL_law_973 rfl ?_
  refine h_sld (q := 975) dL_law_974 rfl (by omega) ?_
  refine h_aload_n (q := 976) dL_law_975 rfl rfl ?_
  refine hS_5 (My := mL_partSign) (q := 979) dL_law_976 rfl kL_155 vL_partSign hH ⟨by decide, by decide⟩ ⟨by show c1 + ky ≤ 601024; omega, by show n1 + ny ≤ 7293034; omega⟩ (Nat.le_of_ble_eq_true rfl) ?_
  refine h_istore (q := 981) dL_law_979 rfl (by decide) (Lst.setL rfl rfl) ?_
  refine h_aload_n (q := 982) dL_law_981 rfl rfl ?_
  refine h_aload_n (q := 983) dL_law_982 rfl rfl ?_
  refine h_iload (q := 985) dL_law_983 rfl rfl ?_
  refine h_iconst (q := 986) dL_law_985 rfl ?_
  refine h_iadd (q := 987) dL_law_986 rfl ?_
  refine h_sld (q := 988) dL_law_987 rfl (by omega) ?_
  refine h_aload_n (q := 989) dL_law_988 rfl rfl ?_
  refine h_iload (q := 991) dL_law_989 rfl rfl ?_
  refine h_iconst (q := 992) dL_law_991 rfl ?_
  refine h_iadd (q := 993) dL_law_992 rfl ?_
  refine h_sld (q := 994) dL_law_993 rfl (by omega) ?_
  refine h_i2c (q := 995) dL_law_994 rfl ?_
  refine h_aload_n (q := 996) dL_law_995 rfl rfl ?_
  refine h_iload (q := 998) dL_law_996 rfl rfl ?_
  refine h_iconst (q := 999) dL_law_998 rfl ?_
  refine h_iadd (q := 1000) dL_law_999 rfl ?_
  refine h_sld (q := 1001) dL_law_1000 rfl (by omega) ?_
  refine hM_3 (My := mX5_partSign) (q := 1004) dL_law_1001 rfl kL_158 vX5_partSign (hG _ _ rfl) rfl hM ⟨by decide, by decide⟩ ⟨by show c1 + ky + k2 ≤ 601024; omega, by show n1 + ny + n2 ≤ 7293034; omega⟩ (Nat.le_of_ble_eq_true rfl) (fun v s x hQ => ?_)
  obtain ⟨rfl, rfl, hs⟩ := hQ
  refine GW.cast rfl (show _ = [Value.int (zI w)] from rfl) ?_
  refine h_istore (q := 1006) dL_law_1004 rfl (by decide) (Lst.setL rfl rfl) ?_
  refine h_aload_n (q := 1007) dL_law_1006 rfl rfl ?_
  refine h_thrown (q := 1010) hG dL_law_1007 rfl kL_100 ⟨by decide, by decide⟩ ⟨by show c1 + ky + k2 + 0 ≤ 601024; omega, by show n1 + ny + n2 + 0 ≤ 7293034; omega⟩ (Nat.le_of_ble_eq_true rfl) (hcd s hs) ?_
  refine h_iload (q := 1012) dL_law_1010 rfl rfl ?_
  refine h_icmp_eq (q := 1015) (tgt := 1017) dL_law_1012 rfl (by decide) (by omega) (by omega) (fun _ => ?_) (fun z => absurd rfl z)
  refine h_iload (q := 1019) dL_law_1017 rfl rfl ?_
  refine h_if_ne (q := 1022) (tgt := 1034) dL_law_1019 rfl (by decide) (by omega) (fun _ => ?_) (fun hr0 => ?_)
  · refine h_goto (q := 1485) dL_law_1034 (by decide) ?_
    refine GW.drop 5 (GW.drop 6 ?_)
    exact GW.wid (c1 + 20) (n1 + 60) (by omega) (by omega) (next s hs)
  · refine h_aload_n (q := 1023) dL_law_1022 rfl rfl ?_
    refine h_iconst (q := 1024) dL_law_1023 rfl ?_
    refine h_laldO (q := 1025) dL_law_1024 rfl (hG _ _ rfl) ?_
    refine h_iload (q := 1027) dL_law_1025 rfl rfl ?_
    refine h_i2l (q := 1028) dL_law_1027 rfl hw ?_
    refine GW.cast rfl (show _ = [Value.long (zL w), Value.long (zL w)] by rw [hov hr0 s hs]) ?_
    refine h_lcmpE (q := 1029) dL_law_1028 rfl ?_
    refine h_if_eq (q := 1032) (tgt := 1034) dL_law_1029 rfl (by decide) (by decide) (fun _ => ?_) (fun z => absurd rfl z)
    refine h_goto (q := 1485) dL_law_1034 (by decide) ?_
    refine GW.drop 5 (GW.drop 6 ?_)
    exact GW.wid (c1 + 20) (n1 + 60) (by omega) (by omega) (next s hs)
set_option maxRecDepth 100000 in
set_option maxHeartbeats 4000000 in
theorem cs_begin (hG : Full γ) (hi : 0 ≤ i ∧ i + 4 ≤ Ln ∧ Ln ≤ 2048) (hc : c1 + 20 ≤ 601024 ∧ n1 + 60 ≤ 7293034) {ky ny k2 n2 : Nat} (h1 : ky ≤ 8 ∧ ny ≤ 30) (h2 : k2 ≤ 8 ∧ n2 ≤ 30) {r : Int} {w : Int} {σ1 : St} {P : St → Prop} (hr : 0 ≤ r ∧ r ≤ 5) (hw : -2147483648 ≤ w ∧ w ≤ 2147483647) (hH : EvH γ mL_begin hh_begin 8 ky ny [.ref (ga γ 6 0), .int (zI (sx X i 1)), .int (zI (sx X i 2 % 65536)), .ref (ga γ 18 0)] σ xs (rtn (some (.int (zI r))) σ1 xs) nX) (hM : Ev γ mX5_begin 7 k2 n2 [.ref (ga γ 8 0), .int (zI (sx X i 1)), .int (zI (sx X i 2 % 65536))] σ1 xs (QM (.int (zI w)) P xs) nX) (hcd : ∀ s, P s → mcd s = r) (hov : r = 0 → ∀ s, P s → ov s = w) (next : ∀ s, P s → GW γ mLaw room_1 (ZL γ b Ln X) Q (c1 + 20) (n1 + 60) 1485 (LL γ b i none none) [] s xs) : GW γ mLaw room_1 (ZL γ b Ln X) Q c1 n1 1037 (LL γ b i none none) [] σ xs := by
  refine h_aload_n (q := 1038) dL_law_1037 rfl rfl ?_
  refine h_aload_n (q := 1039) dL_law_1038 rfl rfl ?_
  refine h_iload (q := 1041) dL_law_1039 rfl rfl ?_
  refine h_iconst (q := 1042) dL_law_1041 rfl ?_
  refine h_iadd (q := 1043) dL_law_1042 rfl ?_
  refine h_sld (q := 1044) dL_law_1043 rfl (by omega) ?_
  refine h_aload_n (q := 1045) dL_law_1044 rfl rfl ?_
  refine h_iload (q := 1047) dL_law_1045 rfl rfl ?_
  refine h_iconst (q := 1048) dL_law_1047 rfl ?_
  refine h_iadd (q := 1049) dL_law_1048 rfl ?_
  refine h_sld (q := 1050) dL_law_1049 rfl (by omega) ?_
  refine h_i2c (q := 1051) dL_law_1050 rfl ?_
  refine h_aload_n (q := 1052) dL_law_1051 rfl rfl ?_
  refine hS_4 (My := mL_begin) (q := 1055) dL_law_1052 rfl kL_159 vL_begin hH ⟨by decide, by decide⟩ ⟨by show c1 + ky ≤ 601024; omega, by show n1 + ny ≤ 7293034; omega⟩ (Nat.le_of_ble_eq_true rfl) ?_
  refine h_istore (q := 1057) dL_law_1055 rfl (by decide) (Lst.setL rfl rfl) ?_
  refine h_aload_n (q := 1058) dL_law_1057 rfl rfl ?_
  refine h_aload_n (q := 1059) dL_law_1058 rfl rfl ?_
  refine h_iload (q := 1061) dL_law_1059 rfl rfl ?_
  refine h_iconst (q := 1062) dL_law_1061 rfl ?_
  refine h_iadd (q := 1063) dL_law_1062 rfl ?_
  refine h_sld (q := 1064) dL_law_1063 rfl (by omega) ?_
  refine h_aload_n (q := 1065) dL_law_1064 rfl rfl ?_
  refine h_iload (q := 1067) dL_law_1065 rfl rfl ?_
  refine h_iconst (q := 1068) dL_law_1067 rfl ?_
  refine h_iadd (q := 1069) dL_law_1068 rfl ?_
  refine h_sld (q := 1070) dL_law_1069 rfl (by omega) ?_
  refine h_i2c (q := 1071) dL_law_1070 rfl ?_
  refine hM_2 (My := mX5_begin) (q := 1074) dL_law_1071 rfl kL_161 vX5_begin (hG _ _ rfl) rfl hM ⟨by decide, by decide⟩ ⟨by show c1 + ky + k2 ≤ 601024; omega, by show n1 + ny + n2 ≤ 7293034; omega⟩ (Nat.le_of_ble_eq_true rfl) (fun v s x hQ => ?_)
  obtain ⟨rfl, rfl, hs⟩ := hQ
  refine GW.cast rfl (show _ = [Value.int (zI w)] from rfl) ?_
  refine h_istore (q := 1076) dL_law_1074 rfl (by decide) (Lst.setL rfl rfl) ?_
  refine h_aload_n (q := 1077) dL_law_1076 rfl rfl ?_
  refine h_thrown (q := 1080) hG dL_law_1077 rfl kL_100 ⟨by decide, by decide⟩ ⟨by show c1 + ky + k2 + 0 ≤ 601024; omega, by show n1 + ny + n2 + 0 ≤ 7293034; omega⟩ (Nat.le_of_ble_eq_true rfl) (hcd s hs) ?_
  refine h_iload (q := 1082) dL_law_1080 rfl rfl ?_
  refine h_icmp_eq (q := 1085) (tgt := 1087) dL_law_1082 rfl (by decide) (by omega) (by omega) (fun _ => ?_) (fun z => absurd rfl z)
  refine h_iload (q := 1089) dL_law_1087 rfl rfl ?_
  refine h_if_ne (q := 1092) (tgt := 1104) dL_law_1089 rfl (by decide) (by omega) (fun _ => ?_) (fun hr0 => ?_)
  · refine h_goto (q := 1485) dL_law_1104 (by decide) ?_
    refine GW.drop 5 (GW.drop 6 ?_)
    exact GW.wid (c1 + 20) (n1 + 60) (by omega) (by omega) (next s hs)
  · refine h_aload_n (q := 1093) dL_law_1092 rfl rfl ?_
    refine h_iconst (q := 1094) dL_law_1093 rfl ?_
    refine h_laldO (q := 1095) dL_law_1094 rfl (hG _ _ rfl) ?_
    refine h_iload (q := 1097) dL_law_1095 rfl rfl ?_
    refine h_i2l (q := 1098) dL_law_1097 rfl hw ?_
    refine GW.cast rfl (show _ = [Value.long (zL w), Value.long (zL w)] by rw [hov hr0 s hs]) ?_
    refine h_lcmpE (q := 1099) dL_law_1098 rfl ?_
    refine h_if_eq (q := 1102) (tgt := 1104) dL_law_1099 rfl (by decide) (by decide) (fun _ => ?_) (fun z => absurd rfl z)
    refine h_goto (q := 1485) dL_law_1104 (by decide) ?_
    refine GW.drop 5 (GW.drop 6 ?_)
    exact GW.wid (c1 + 20) (n1 + 60) (by omega) (by omega) (next s hs)
set_option maxRecDepth 100000 in
set_option maxHeartbeats 4000000 in
theorem cs_append (hG : Full γ) (hi : 0 ≤ i ∧ i + 4 ≤ Ln ∧ Ln ≤ 2048) (hc : c1 + 20 ≤ 601024 ∧ n1 + 60 ≤ 7293034) {ky ny k2 n2 : Nat} (h1 : ky ≤ 8 ∧ ny ≤ 30) (h2 : k2 ≤ 8 ∧ n2 ≤ 30) {r : Int} {w : Int} {σ1 : St} {P : St → Prop} (hr : 0 ≤ r ∧ r ≤ 5) (hw : -2147483648 ≤ w ∧ w ≤ 2147483647) (hH : EvH γ mL_append hh_append 8 ky ny [.ref (ga γ 6 0), .int (zI (sx X i 1)), .int (zI (sx X i 2 % 65536)), .ref (ga γ 18 0)] σ xs (rtn (some (.int (zI r))) σ1 xs) nX) (hM : Ev γ mX5_append 8 k2 n2 [.ref (ga γ 8 0), .int (zI (sx X i 1)), .int (zI (sx X i 2 % 65536))] σ1 xs (QM (.int (zI w)) P xs) nX) (hcd : ∀ s, P s → mcd s = r) (hov : r = 0 → ∀ s, P s → ov s = w) (next : ∀ s, P s → GW γ mLaw room_1 (ZL γ b Ln X) Q (c1 + 20) (n1 + 60) 1485 (LL γ b i none none) [] s xs) : GW γ mLaw room_1 (ZL γ b Ln X) Q c1 n1 1107 (LL γ b i none none) [] σ xs := by
  refine h_aload_n (q := 1108) dL_law_1107 rfl rfl ?_
  refine h_aload_n (q := 1109) dL_law_1108 rfl rfl ?_
  refine h_iload (q := 1111) dL_law_1109 rfl rfl ?_
  refine h_iconst (q := 1112) dL_law_1111 rfl ?_
  refine h_iadd (q := 1113) dL_law_1112 rfl ?_
  refine h_sld (q := 1114) dL_law_1113 rfl (by omega) ?_
  refine h_aload_n (q := 1115) dL_law_1114 rfl rfl ?_
  refine h_iload (q := 1117) dL_law_1115 rfl rfl ?_
  refine h_iconst (q := 1118) dL_law_1117 rfl ?_
  refine h_iadd (q := 1119) dL_law_1118 rfl ?_
  refine h_sld (q := 1120) dL_law_1119 rfl (by omega) ?_
  refine h_i2c (q := 1121) dL_law_1120 rfl ?_
  refine h_aload_n (q := 1122) dL_law_1121 rfl rfl ?_
  refine hS_4 (My := mL_append) (q := 1125) dL_law_1122 rfl kL_162 vL_append hH ⟨by decide, by decide⟩ ⟨by show c1 + ky ≤ 601024; omega, by show n1 + ny ≤ 7293034; omega⟩ (Nat.le_of_ble_eq_true rfl) ?_
  refine h_istore (q := 1127) dL_law_1125 rfl (by decide) (Lst.setL rfl rfl) ?_
  refine h_aload_n (q := 1128) dL_law_1127 rfl rfl ?_
  refine h_aload_n (q := 1129) dL_law_1128 rfl rfl ?_
  refine h_iload (q := 1131) dL_law_1129 rfl rfl ?_
  refine h_iconst (q := 1132) dL_law_1131 rfl ?_
  refine h_iadd (q := 1133) dL_law_1132 rfl ?_
  refine h_sld (q := 1134) dL_law_1133 rfl (by omega) ?_
  refine h_aload_n (q := 1135) dL_law_1134 rfl rfl ?_
  refine h_iload (q := 1137) dL_law_1135 rfl rfl ?_
  refine h_iconst (q := 1138) dL_law_1137 rfl ?_
  refine h_iadd (q := 1139) dL_law_1138 rfl ?_
  refine h_sld (q := 1140) dL_law_1139 rfl (by omega) ?_
  refine h_i2c (q := 1141) dL_law_1140 rfl ?_
  refine hM_2 (My := mX5_append) (q := 1144) dL_law_1141 rfl kL_164 vX5_append (hG _ _ rfl) rfl hM ⟨by decide, by decide⟩ ⟨by show c1 + ky + k2 ≤ 601024; omega, by show n1 + ny + n2 ≤ 7293034; omega⟩ (Nat.le_of_ble_eq_true rfl) (fun v s x hQ => ?_)
  obtain ⟨rfl, rfl, hs⟩ := hQ
  refine GW.cast rfl (show _ = [Value.int (zI w)] from rfl) ?_
  refine h_istore (q := 1146) dL_law_1144 rfl (by decide) (Lst.setL rfl rfl) ?_
  refine h_aload_n (q := 1147) dL_law_1146 rfl rfl ?_
  refine h_thrown (q := 1150) hG dL_law_1147 rfl kL_100 ⟨by decide, by decide⟩ ⟨by show c1 + ky + k2 + 0 ≤ 601024; omega, by show n1 + ny + n2 + 0 ≤ 7293034; omega⟩ (Nat.le_of_ble_eq_true rfl) (hcd s hs) ?_
  refine h_iload (q := 1152) dL_law_1150 rfl rfl ?_
  refine h_icmp_eq (q := 1155) (tgt := 1157) dL_law_1152 rfl (by decide) (by omega) (by omega) (fun _ => ?_) (fun z => absurd rfl z)
  refine h_iload (q := 1159) dL_law_1157 rfl rfl ?_
  refine h_if_ne (q := 1162) (tgt := 1174) dL_law_1159 rfl (by decide) (by omega) (fun _ => ?_) (fun hr0 => ?_)
  · refine h_goto (q := 1485) dL_law_1174 (by decide) ?_
    refine GW.drop 5 (GW.drop 6 ?_)
    exact GW.wid (c1 + 20) (n1 + 60) (by omega) (by omega) (next s hs)
  · refine h_aload_n (q := 1163) dL_law_1162 rfl rfl ?_
    refine h_iconst (q := 1164) dL_law_1163 rfl ?_
    refine h_laldO (q := 1165) dL_law_1164 rfl (hG _ _ rfl) ?_
    refine h_iload (q := 1167) dL_law_1165 rfl rfl ?_
    refine h_i2l (q := 1168) dL_law_1167 rfl hw ?_
    refine GW.cast rfl (show _ = [Value.long (zL w), Value.long (zL w)] by rw [hov hr0 s hs]) ?_
    refine h_lcmpE (q := 1169) dL_law_1168 rfl ?_
    refine h_if_eq (q := 1172) (tgt := 1174) dL_law_1169 rfl (by decide) (by decide) (fun _ => ?_) (fun z => absurd rfl z)
    refine h_goto (q := 1485) dL_law_1174 (by decide) ?_
    refine GW.drop 5 (GW.drop 6 ?_)
    exact GW.wid (c1 + 20) (n1 + 60) (by omega) (by omega) (next s hs)
set_option maxRecDepth 100000 in
set_option maxHeartbeats 4000000 in
theorem cs_copy (hG : Full γ) (hi : 0 ≤ i ∧ i + 4 ≤ Ln ∧ Ln ≤ 2048) (hc : c1 + 20 ≤ 601024 ∧ n1 + 60 ≤ 7293034) {ky ny k2 n2 : Nat} (h1 : ky ≤ 8 ∧ ny ≤ 30) (h2 : k2 ≤ 8 ∧ n2 ≤ 30) {r : Int} {w : Int} {σ1 : St} {P : St → Prop} (hr : 0 ≤ r ∧ r ≤ 5) (hw : -2147483648 ≤ w ∧ w ≤ 2147483647) (hH : EvH γ mL_copy hh_copy 9 ky ny [.ref (ga γ 6 0), .int (zI (sx X i 1)), .int (zI (sx X i 2)), .ref (ga γ 18 0)] σ xs (rtn (some (.int (zI r))) σ1 xs) nX) (hM : Ev γ mX5_copy 3 k2 n2 [.ref (ga γ 8 0), .int (zI (sx X i 1)), .int (zI (sx X i 2))] σ1 xs (QM (.int (zI w)) P xs) nX) (hcd : ∀ s, P s → mcd s = r) (hov : r = 0 → ∀ s, P s → ov s = w) (next : ∀ s, P s → GW γ mLaw room_1 (ZL γ b Ln X) Q (c1 + 20) (n1 + 60) 1485 (LL γ b i none none) [] s xs) : GW γ mLaw room_1 (ZL γ b Ln X) Q c1 n1 1177 (LL γ b i none none) [] σ xs := by
  refine h_aload_n (q := 1178) dL_law_1177 rfl rfl ?_
  refine h_aload_n (q := 1179) dL_law_1178 rfl rfl ?_
  refine h_iload (q := 1181) dL_law_1179 rfl rfl ?_
  refine h_iconst (q := 1182) dL_law_1181 rfl ?_
  refine h_iadd (q := 1183) dL_law_1182 rfl ?_
  refine h_sld (q := 1184) dL_law_1183 rfl (by omega) ?_
  refine h_aload_n (q := 1185) dL_law_1184 rfl rfl ?_
  refine h_iload (q := 1187) dL_law_1185 rfl rfl ?_
  refine h_iconst (q := 1188) dL_law_1187 rfl ?_
  refine h_iadd (q := 1189) dL_law_1188 rfl ?_
  refine h_sld (q := 1190) dL_law_1189 rfl (by omega) ?_
  refine h_aload_n (q := 1191) dL_law_1190 rfl rfl ?_
  refine hS_4 (My := mL_copy) (q := 1194) dL_law_1191 rfl kL_165 vL_copy hH ⟨by decide, by decide⟩ ⟨by show c1 + ky ≤ 601024; omega, by show n1 + ny ≤ 7293034; omega⟩ (Nat.le_of_ble_eq_true rfl) ?_
  refine h_istore (q := 1196) dL_law_1194 rfl (by decide) (Lst.setL rfl rfl) ?_
  refine h_aload_n (q := 1197) dL_law_1196 rfl rfl ?_
  refine h_aload_n (q := 1198) dL_law_1197 rfl rfl ?_
  refine h_iload (q := 1200) dL_law_1198 rfl rfl ?_
  refine h_iconst (q := 1201) dL_law_1200 rfl ?_
  refine h_iadd (q := 1202) dL_law_1201 rfl ?_
  refine h_sld (q := 1203) dL_law_1202 rfl (by omega) ?_
  refine h_aload_n (q := 1204) dL_law_1203 rfl rfl ?_
  refine h_iload (q := 1206) dL_law_1204 rfl rfl ?_
  refine h_iconst (q := 1207) dL_law_1206 rfl ?_
  refine h_iadd (q := 1208) dL_law_1207 rfl ?_
  refine h_sld (q := 1209) dL_law_1208 rfl (by omega) ?_
  refine hM_2 (My := mX5_copy) (q := 1212) dL_law_1209 rfl kL_168 vX5_copy (hG _ _ rfl) rfl hM ⟨by decide, by decide⟩ ⟨by show c1 + ky + k2 ≤ 601024; omega, by show n1 + ny + n2 ≤ 7293034; omega⟩ (Nat.le_of_ble_eq_true rfl) (fun v s x hQ => ?_)
  obtain ⟨rfl, rfl, hs⟩ := hQ
  refine GW.cast rfl (show _ = [Value.int (zI w)] from rfl) ?_
  refine h_istore (q := 1214) dL_law_1212 rfl (by decide) (Lst.setL rfl rfl) ?_
  refine h_aload_n (q := 1215) dL_law_1214 rfl rfl ?_
  refine h_thrown (q := 1218) hG dL_law_1215 rfl kL_100 ⟨by decide, by decide⟩ ⟨by show c1 + ky + k2 + 0 ≤ 601024; omega, by show n1 + ny + n2 + 0 ≤ 7293034; omega⟩ (Nat.le_of_ble_eq_true rfl) (hcd s hs) ?_
  refine h_iload (q := 1220) dL_law_1218 rfl rfl ?_
  refine h_icmp_eq (q := 1223) (tgt := 1225) dL_law_1220 rfl (by decide) (by omega) (by omega) (fun _ => ?_) (fun z => absurd rfl z)
  refine h_iload (q := 1227) dL_law_1225 rfl rfl ?_
  refine h_if_ne (q := 1230) (tgt := 1242) dL_law_1227 rfl (by decide) (by omega) (fun _ => ?_) (fun hr0 => ?_)
  · refine h_goto (q := 1485) dL_law_1242 (by decide) ?_
    refine GW.drop 5 (GW.drop 6 ?_)
    exact GW.wid (c1 + 20) (n1 + 60) (by omega) (by omega) (next s hs)
  · refine h_aload_n (q := 1231) dL_law_1230 rfl rfl ?_
    refine h_iconst (q := 1232) dL_law_1231 rfl ?_
    refine h_laldO (q := 1233) dL_law_1232 rfl (hG _ _ rfl) ?_
    refine h_iload (q := 1235) dL_law_1233 rfl rfl ?_
    refine h_i2l (q := 1236) dL_law_1235 rfl hw ?_
    refine GW.cast rfl (show _ = [Value.long (zL w), Value.long (zL w)] by rw [hov hr0 s hs]) ?_
    refine h_lcmpE (q := 1237) dL_law_1236 rfl ?_
    refine h_if_eq (q := 1240) (tgt := 1242) dL_law_1237 rfl (by decide) (by decide) (fun _ => ?_) (fun z => absurd rfl z)
    refine h_goto (q := 1485) dL_law_1242 (by decide) ?_
    refine GW.drop 5 (GW.drop 6 ?_)
    exact GW.wid (c1 + 20) (n1 + 60) (by omega) (by omega) (next s hs)
set_option maxRecDepth 100000 in
set_option maxHeartbeats 4000000 in
theorem cs_alike (hG : Full γ) (hi : 0 ≤ i ∧ i + 4 ≤ Ln ∧ Ln ≤ 2048) (hc : c1 + 20 ≤ 601024 ∧ n1 + 60 ≤ 7293034) {ky ny k2 n2 : Nat} (h1 : ky ≤ 8 ∧ ny ≤ 30) (h2 : k2 ≤ 8 ∧ n2 ≤ 30) {r : Int} {w : Int} {σ1 : St} {P : St → Prop} (hr : 0 ≤ r ∧ r ≤ 5) (hw : -2147483648 ≤ w ∧ w ≤ 2147483647) (hH : EvH γ mL_alike hh_alike 8 ky ny [.ref (ga γ 6 0), .int (zI (sx X i 1)), .int (zI (sx X i 2)), .ref (ga γ 18 0)] σ xs (rtn (some (.int (zI r))) σ1 xs) nX) (hM : Ev γ mX5_alike 3 k2 n2 [.ref (ga γ 8 0), .int (zI (sx X i 1)), .int (zI (sx X i 2))] σ1 xs (QM (.int (zI w)) P xs) nX) (hcd : ∀ s, P s → mcd s = r) (hov : r = 0 → ∀ s, P s → ov s = w) (next : ∀ s, P s → GW γ mLaw room_1 (ZL γ b Ln X) Q (c1 + 20) (n1 + 60) 1485 (LL γ b i none none) [] s xs) : GW γ mLaw room_1 (ZL γ b Ln X) Q c1 n1 1245 (LL γ b i none none) [] σ xs := by
  refine h_aload_n (q := 1246) dL_law_1245 rfl rfl ?_
  refine h_aload_n (q := 1247) dL_law_1246 rfl rfl ?_
  refine h_iload (q := 1249) dL_law_1247 rfl rfl ?_
  refine h_iconst (q := 1250) dL_law_1249 rfl ?_
  refine h_iadd (q := 1251) dL_law_1250 rfl ?_
  refine h_sld (q := 1252) dL_law_1251 rfl (by omega) ?_
  refine h_aload_n (q := 1253) dL_law_1252 rfl rfl ?_
  refine h_iload (q := 1255) dL_law_1253 rfl rfl ?_
  refine h_iconst (q := 1256) dL_law_1255 rfl ?_
  refine h_iadd (q := 1257) dL_law_1256 rfl ?_
  refine h_sld (q := 1258) dL_law_1257 rfl (by omega) ?_
  refine h_aload_n (q := 1259) dL_law_1258 rfl rfl ?_
  refine hS_4 (My := mL_alike) (q := 1262) dL_law_1259 rfl kL_169 vL_alike hH ⟨by decide, by decide⟩ ⟨by show c1 + ky ≤ 601024; omega, by show n1 + ny ≤ 7293034; omega⟩ (Nat.le_of_ble_eq_true rfl) ?_
  refine h_istore (q := 1264) dL_law_1262 rfl (by decide) (Lst.setL rfl rfl) ?_
  refine h_aload_n (q := 1265) dL_law_1264 rfl rfl ?_
  refine h_aload_n (q := 1266) dL_law_1265 rfl rfl ?_
  refine h_iload (q := 1268) dL_law_1266 rfl rfl ?_
  refine h_iconst (q := 1269) dL_law_1268 rfl ?_
  refine h_iadd (q := 1270) dL_law_1269 rfl ?_
  refine h_sld (q := 1271) dL_law_1270 rfl (by omega) ?_
  refine h_aload_n (q := 1272) dL_law_1271 rfl rfl ?_
  refine h_iload (q := 1274) dL_law_1272 rfl rfl ?_
  refine h_iconst (q := 1275) dL_law_1274 rfl ?_
  refine h_iadd (q := 1276) dL_law_1275 rfl ?_
  refine h_sld (q := 1277) dL_law_1276 rfl (by omega) ?_
  refine hM_2 (My := mX5_alike) (q := 1280) dL_law_1277 rfl kL_171 vX5_alike (hG _ _ rfl) rfl hM ⟨by decide, by decide⟩ ⟨by show c1 + ky + k2 ≤ 601024; omega, by show n1 + ny + n2 ≤ 7293034; omega⟩ (Nat.le_of_ble_eq_true rfl) (fun v s x hQ => ?_)
  obtain ⟨rfl, rfl, hs⟩ := hQ
  refine GW.cast rfl (show _ = [Value.int (zI w)] from rfl) ?_
  refine h_istore (q := 1282) dL_law_1280 rfl (by decide) (Lst.setL rfl rfl) ?_
  refine h_aload_n (q := 1283) dL_law_1282 rfl rfl ?_
  refine h_thrown (q := 1286) hG dL_law_1283 rfl kL_100 ⟨by decide, by decide⟩ ⟨by show c1 + ky + k2 + 0 ≤ 601024; omega, by show n1 + ny + n2 + 0 ≤ 7293034; omega⟩ (Nat.le_of_ble_eq_true rfl) (hcd s hs) ?_
  refine h_iload (q := 1288) dL_law_1286 rfl rfl ?_
  refine h_icmp_eq (q := 1291) (tgt := 1293) dL_law_1288 rfl (by decide) (by omega) (by omega) (fun _ => ?_) (fun z => absurd rfl z)
  refine h_iload (q := 1295) dL_law_1293 rfl rfl ?_
  refine h_if_ne (q := 1298) (tgt := 1310) dL_law_1295 rfl (by decide) (by omega) (fun _ => ?_) (fun hr0 => ?_)
  · refine h_goto (q := 1485) dL_law_1310 (by decide) ?_
    refine GW.drop 5 (GW.drop 6 ?_)
    exact GW.wid (c1 + 20) (n1 + 60) (by omega) (by omega) (next s hs)
  · refine h_aload_n (q := 1299) dL_law_1298 rfl rfl ?_
    refine h_iconst (q := 1300) dL_law_1299 rfl ?_
    refine h_laldO (q := 1301) dL_law_1300 rfl (hG _ _ rfl) ?_
    refine h_iload (q := 1303) dL_law_1301 rfl rfl ?_
    refine h_i2l (q := 1304) dL_law_1303 rfl hw ?_
    refine GW.cast rfl (show _ = [Value.long (zL w), Value.long (zL w)] by rw [hov hr0 s hs]) ?_
    refine h_lcmpE (q := 1305) dL_law_1304 rfl ?_
    refine h_if_eq (q := 1308) (tgt := 1310) dL_law_1305 rfl (by decide) (by decide) (fun _ => ?_) (fun z => absurd rfl z)
    refine h_goto (q := 1485) dL_law_1310 (by decide) ?_
    refine GW.drop 5 (GW.drop 6 ?_)
    exact GW.wid (c1 + 20) (n1 + 60) (by omega) (by omega) (next s hs)
set_option maxRecDepth 100000 in
set_option maxHeartbeats 4000000 in
theorem cs_together (hG : Full γ) (hi : 0 ≤ i ∧ i + 4 ≤ Ln ∧ Ln ≤ 2048) (hc : c1 + 20 ≤ 601024 ∧ n1 + 60 ≤ 7293034) {ky ny k2 n2 : Nat} (h1 : ky ≤ 8 ∧ ny ≤ 30) (h2 : k2 ≤ 8 ∧ n2 ≤ 30) {r : Int} {w : Bool} {σ1 : St} {P : St → Prop} (hr : 0 ≤ r ∧ r ≤ 5) (hH : EvH γ mL_together hh_together 9 ky ny [.ref (ga γ 6 0), .int (zI (sx X i 1)), .ref (ga γ 18 0)] σ xs (rtn (some (.int (zI r))) σ1 xs) nX) (hM : Ev γ mX5_together 8 k2 n2 [.ref (ga γ 8 0), .int (zI (sx X i 1))] σ1 xs (QM (.int (zI (bI w))) P xs) nX) (hcd : ∀ s, P s → mcd s = r) (hov : r = 0 → ∀ s, P s → ov s = bI w) (next : ∀ s, P s → GW γ mLaw room_1 (ZL γ b Ln X) Q (c1 + 20) (n1 + 60) 1485 (LL γ b i none none) [] s xs) : GW γ mLaw room_1 (ZL γ b Ln X) Q c1 n1 1313 (LL γ b i none none) [] σ xs := by
  refine h_aload_n (q := 1314) dL_law_1313 rfl rfl ?_
  refine h_aload_n (q := 1315) dL_law_1314 rfl rfl ?_
  refine h_iload (q := 1317) dL_law_1315 rfl rfl ?_
  refine h_iconst (q := 1318) dL_law_1317 rfl ?_
  refine h_iadd (q := 1319) dL_law_1318 rfl ?_
  refine h_sld (q := 1320) dL_law_1319 rfl (by omega) ?_
  refine h_aload_n (q := 1321) dL_law_1320 rfl rfl ?_
  refine hS_3 (My := mL_together) (q := 1324) dL_law_1321 rfl kL_172 vL_together hH ⟨by decide, by decide⟩ ⟨by show c1 + ky ≤ 601024; omega, by show n1 + ny ≤ 7293034; omega⟩ (Nat.le_of_ble_eq_true rfl) ?_
  refine h_istore (q := 1326) dL_law_1324 rfl (by decide) (Lst.setL rfl rfl) ?_
  refine h_aload_n (q := 1327) dL_law_1326 rfl rfl ?_
  refine h_aload_n (q := 1328) dL_law_1327 rfl rfl ?_
  refine h_iload (q := 1330) dL_law_1328 rfl rfl ?_
  refine h_iconst (q := 1331) dL_law_1330 rfl ?_
  refine h_iadd (q := 1332) dL_law_1331 rfl ?_
  refine h_sld (q := 1333) dL_law_1332 rfl (by omega) ?_
  refine hM_1 (My := mX5_together) (q := 1336) dL_law_1333 rfl kL_174 vX5_together (hG _ _ rfl) rfl hM ⟨by decide, by decide⟩ ⟨by show c1 + ky + k2 ≤ 601024; omega, by show n1 + ny + n2 ≤ 7293034; omega⟩ (Nat.le_of_ble_eq_true rfl) (fun v s x hQ => ?_)
  obtain ⟨rfl, rfl, hs⟩ := hQ
  refine GW.cast rfl (show _ = [Value.int (zI (bI w))] from rfl) ?_
  refine h_istore (q := 1338) dL_law_1336 rfl (by decide) (Lst.setL rfl rfl) ?_
  refine h_aload_n (q := 1339) dL_law_1338 rfl rfl ?_
  refine h_thrown (q := 1342) hG dL_law_1339 rfl kL_100 ⟨by decide, by decide⟩ ⟨by show c1 + ky + k2 + 0 ≤ 601024; omega, by show n1 + ny + n2 + 0 ≤ 7293034; omega⟩ (Nat.le_of_ble_eq_true rfl) (hcd s hs) ?_
  refine h_iload (q := 1344) dL_law_1342 rfl rfl ?_
  refine h_icmp_eq (q := 1347) (tgt := 1349) dL_law_1344 rfl (by decide) (by omega) (by omega) (fun _ => ?_) (fun z => absurd rfl z)
  refine h_iload (q := 1351) dL_law_1349 rfl rfl ?_
  refine h_if_ne (q := 1354) (tgt := 1373) dL_law_1351 rfl (by decide) (by omega) (fun _ => ?_) (fun hr0 => ?_)
  · refine h_goto (q := 1485) dL_law_1373 (by decide) ?_
    refine GW.drop 5 (GW.drop 6 ?_)
    exact GW.wid (c1 + 20) (n1 + 60) (by omega) (by omega) (next s hs)
  · refine h_aload_n (q := 1355) dL_law_1354 rfl rfl ?_
    refine h_iconst (q := 1356) dL_law_1355 rfl ?_
    refine h_laldO (q := 1357) dL_law_1356 rfl (hG _ _ rfl) ?_
    refine h_iload (q := 1359) dL_law_1357 rfl rfl ?_
    refine h_ifB_eq (q := 1362) (tgt := 1366) dL_law_1359 rfl (by decide) (fun hw6 => ?_) (fun hw6 => ?_)
    · refine h_lconst (z := 0) (q := 1367) dL_law_1366 rfl (by decide +kernel) ?_
      refine GW.cast rfl (show _ = [Value.long (zL (bI w)), Value.long (zL (bI w))] by rw [hov hr0 s hs, hw6]; rfl) ?_
      refine h_lcmpE (q := 1368) dL_law_1367 rfl ?_
      refine h_if_eq (q := 1371) (tgt := 1373) dL_law_1368 rfl (by decide) (by decide) (fun _ => ?_) (fun z => absurd rfl z)
      refine h_goto (q := 1485) dL_law_1373 (by decide) ?_
      refine GW.drop 5 (GW.drop 6 ?_)
      exact GW.wid (c1 + 20) (n1 + 60) (by omega) (by omega) (next s hs)
    · refine h_lconst (z := 1) (q := 1363) dL_law_1362 rfl (by decide +kernel) ?_
      refine h_goto (q := 1367) dL_law_1363 (by decide) ?_
      refine GW.cast rfl (show _ = [Value.long (zL (bI w)), Value.long (zL (bI w))] by rw [hov hr0 s hs, hw6]; rfl) ?_
      refine h_lcmpE (q := 1368) dL_law_1367 rfl ?_
      refine h_if_eq (q := 1371) (tgt := 1373) dL_law_1368 rfl (by decide) (by decide) (fun _ => ?_) (fun z => absurd rfl z)
      refine h_goto (q := 1485) dL_law_1373 (by decide) ?_
      refine GW.drop 5 (GW.drop 6 ?_)
      exact GW.wid (c1 + 20) (n1 + 60) (by omega) (by omega) (next s hs)
set_option maxRecDepth 100000 in
set_option maxHeartbeats 4000000 in
theorem cs_mix (hG : Full γ) (hi : 0 ≤ i ∧ i + 4 ≤ Ln ∧ Ln ≤ 2048) (hc : c1 + 20 ≤ 601024 ∧ n1 + 60 ≤ 7293034) {ky ny k2 n2 : Nat} (h1 : ky ≤ 8 ∧ ny ≤ 30) (h2 : k2 ≤ 8 ∧ n2 ≤ 30) {r : Int} {w : Int} {σ1 : St} {P : St → Prop} (hr : 0 ≤ r ∧ r ≤ 5) (hw : -2147483648 ≤ w ∧ w ≤ 2147483647) (hH : EvH γ mL_mix hh_mix 9 ky ny [.ref (ga γ 6 0), .int (zI (sx X i 1)), .int (zI (sx X i 2)), .int (zI (sx X i 3 % 65536)), .ref (ga γ 18 0)] σ xs (rtn (some (.int (zI r))) σ1 xs) nX) (hM : Ev γ mX5_mix 8 k2 n2 [.ref (ga γ 8 0), .int (zI (sx X i 1)), .int (zI (sx X i 2)), .int (zI (sx X i 3 % 65536))] σ1 xs (QM (.int (zI w)) P xs) nX) (hcd : ∀ s, P s → mcd s = r) (hov : r = 0 → ∀ s, P s → ov s = w) (next : ∀ s, P s → GW γ mLaw room_1 (ZL γ b Ln X) Q (c1 + 20) (n1 + 60) 1485 (LL γ b i none none) [] s xs) : GW γ mLaw room_1 (ZL γ b Ln X) Q c1 n1 1376 (LL γ b i none none) [] σ xs := by
  refine h_aload_n (q := 1377) dL_law_1376 rfl rfl ?_
  refine h_aload_n (q := 1378) dL_law_1377 rfl rfl ?_
  refine h_iload (q := 1380) dL_law_1378 rfl rfl ?_
  refine h_iconst (q := 1381) dL_law_1380 rfl ?_
  refine h_iadd (q := 1382) dL_law_1381 rfl ?_
  refine h_sld (q := 1383) dL_law_1382 rfl (by omega) ?_
  refine h_aload_n (q := 1384) dL_law_1383 rfl rfl ?_
  refine h_iload (q := 1386) dL_law_1384 rfl rfl ?_
  refine h_iconst (q := 1387) dL_law_1386 rfl ?_
  refine h_iadd (q := 1388) dL_law_1387 rfl ?_
  refine h_sld (q := 1389) dL_law_1388 rfl (by omega) ?_
  refine h_aload_n (q := 1390) dL_law_1389 rfl rfl ?_
  refine h_iload (q := 1392) dL_law_1390 rfl rfl ?_
  refine h_iconst (q := 1393) dL_law_1392 rfl ?_
  refine h_iadd (q := 1394) dL_law_1393 rfl ?_
  refine h_sld (q := 1395) dL_law_1394 rfl (by omega) ?_
  refine h_i2c (q := 1396) dL_law_1395 rfl ?_
  refine h_aload_n (q := 1397) dL_law_1396 rfl rfl ?_
  refine hS_5 (My := mL_mix) (q := 1400) dL_law_1397 rfl kL_175 vL_mix hH ⟨by decide, by decide⟩ ⟨by show c1 + ky ≤ 601024; omega, by show n1 + ny ≤ 7293034; omega⟩ (Nat.le_of_ble_eq_true rfl) ?_
  refine h_istore (q := 1402) dL_law_1400 rfl (by decide) (Lst.setL rfl rfl) ?_
  refine h_aload_n (q := 1403) dL_law_1402 rfl rfl ?_
  refine h_aload_n (q := 1404) dL_law_1403 rfl rfl ?_
  refine h_iload (q := 1406) dL_law_1404 rfl rfl ?_
  refine h_iconst (q := 1407) dL_law_1406 rfl ?_
  refine h_iadd (q := 1408) dL_law_1407 rfl ?_
  refine h_sld (q := 1409) dL_law_1408 rfl (by omega) ?_
  refine h_aload_n (q := 1410) dL_law_1409 rfl rfl ?_
  refine h_iload (q := 1412) dL_law_1410 rfl rfl ?_
  refine h_iconst (q := 1413) dL_law_1412 rfl ?_
  refine h_iadd (q := 1414) dL_law_1413 rfl ?_
  refine h_sld (q := 1415) dL_law_1414 rfl (by omega) ?_
  refine h_aload_n (q := 1416) dL_law_1415 rfl rfl ?_
  refine h_iload (q := 1418) dL_law_1416 rfl rfl ?_
  refine h_iconst (q := 1419) dL_law_1418 rfl ?_
  refine h_iadd (q := 1420) dL_law_1419 rfl ?_
  refine h_sld (q := 1421) dL_law_1420 rfl (by omega) ?_
  refine h_i2c (q := 1422) dL_law_1421 rfl ?_
  refine hM_3 (My := mX5_mix) (q := 1425) dL_law_1422 rfl kL_178 vX5_mix (hG _ _ rfl) rfl hM ⟨by decide, by decide⟩ ⟨by show c1 + ky + k2 ≤ 601024; omega, by show n1 + ny + n2 ≤ 7293034; omega⟩ (Nat.le_of_ble_eq_true rfl) (fun v s x hQ => ?_)
  obtain ⟨rfl, rfl, hs⟩ := hQ
  refine GW.cast rfl (show _ = [Value.int (zI w)] from rfl) ?_
  refine h_istore (q := 1427) dL_law_1425 rfl (by decide) (Lst.setL rfl rfl) ?_
  refine h_aload_n (q := 1428) dL_law_1427 rfl rfl ?_
  refine h_thrown (q := 1431) hG dL_law_1428 rfl kL_100 ⟨by decide, by decide⟩ ⟨by show c1 + ky + k2 + 0 ≤ 601024; omega, by show n1 + ny + n2 + 0 ≤ 7293034; omega⟩ (Nat.le_of_ble_eq_true rfl) (hcd s hs) ?_
  refine h_iload (q := 1433) dL_law_1431 rfl rfl ?_
  refine h_icmp_eq (q := 1436) (tgt := 1438) dL_law_1433 rfl (by decide) (by omega) (by omega) (fun _ => ?_) (fun z => absurd rfl z)
  refine h_iload (q := 1440) dL_law_1438 rfl rfl ?_
  refine h_if_ne (q := 1443) (tgt := 1455) dL_law_1440 rfl (by decide) (by omega) (fun _ => ?_) (fun hr0 => ?_)
  · refine h_goto (q := 1485) dL_law_1455 (by decide) ?_
    refine GW.drop 5 (GW.drop 6 ?_)
    exact GW.wid (c1 + 20) (n1 + 60) (by omega) (by omega) (next s hs)
  · refine h_aload_n (q := 1444) dL_law_1443 rfl rfl ?_
    refine h_iconst (q := 1445) dL_law_1444 rfl ?_
    refine h_laldO (q := 1446) dL_law_1445 rfl (hG _ _ rfl) ?_
    refine h_iload (q := 1448) dL_law_1446 rfl rfl ?_
    refine h_i2l (q := 1449) dL_law_1448 rfl hw ?_
    refine GW.cast rfl (show _ = [Value.long (zL w), Value.long (zL w)] by rw [hov hr0 s hs]) ?_
    refine h_lcmpE (q := 1450) dL_law_1449 rfl ?_
    refine h_if_eq (q := 1453) (tgt := 1455) dL_law_1450 rfl (by decide) (by decide) (fun _ => ?_) (fun z => absurd rfl z)
    refine h_goto (q := 1485) dL_law_1455 (by decide) ?_
    refine GW.drop 5 (GW.drop 6 ?_)
    exact GW.wid (c1 + 20) (n1 + 60) (by omega) (by omega) (next s hs)
set_option maxRecDepth 100000 in
set_option maxHeartbeats 4000000 in
theorem cs_isTrue (hG : Full γ) (hi : 0 ≤ i ∧ i + 4 ≤ Ln ∧ Ln ≤ 2048) (hc : c1 + 20 ≤ 601024 ∧ n1 + 60 ≤ 7293034) {ky ny k2 n2 : Nat} (h1 : ky ≤ 8 ∧ ny ≤ 30) (h2 : k2 ≤ 8 ∧ n2 ≤ 30) {w : Bool} {σ1 : St} {P : St → Prop} (hX : Ev γ mX4_isTrue 10 ky ny [.ref (ga γ 6 0)] σ xs (rtn (some (.int (zI (bI w)))) σ1 xs) nX) (hM : Ev γ mX5_isTrue 1 k2 n2 [.ref (ga γ 8 0)] σ1 xs (QM (.int (zI (bI w))) P xs) nX) (next : ∀ s, P s → GW γ mLaw room_1 (ZL γ b Ln X) Q (c1 + 20) (n1 + 60) 1485 (LL γ b i none none) [] s xs) : GW γ mLaw room_1 (ZL γ b Ln X) Q c1 n1 1458 (LL γ b i none none) [] σ xs := by
  refine h_aload_n (q := 1459) dL_law_1458 rfl rfl ?_
  refine hX_0 (My := mX4_isTrue) (q := 1462) dL_law_1459 rfl kL_179 vX4_isTrue (hG _ _ rfl) rfl hX ⟨by decide, by decide⟩ ⟨by show c1 + ky ≤ 601024; omega, by show n1 + ny ≤ 7293034; omega⟩ (Nat.le_of_ble_eq_true rfl) (fun v0 s0 x0 h0 => ?_)
  obtain ⟨rfl, rfl, rfl⟩ := h0
  refine GW.cast rfl (show _ = [Value.int (zI (bI w))] from rfl) ?_
  refine h_aload_n (q := 1463) dL_law_1462 rfl rfl ?_
  refine hM_0 (My := mX5_isTrue) (q := 1466) dL_law_1463 rfl kL_182 vX5_isTrue (hG _ _ rfl) rfl hM ⟨by decide, by decide⟩ ⟨by show c1 + ky + k2 ≤ 601024; omega, by show n1 + ny + n2 ≤ 7293034; omega⟩ (Nat.le_of_ble_eq_true rfl) (fun v s x hQ => ?_)
  obtain ⟨rfl, rfl, hs⟩ := hQ
  refine GW.cast rfl (show _ = [Value.int (zI (bI w)), Value.int (zI (bI w))] from rfl) ?_
  refine h_icmp_eq (q := 1469) (tgt := 1485) dL_law_1466 rfl (by decide) (by cases w <;> decide) (by cases w <;> decide) (fun _ => ?_) (fun z => absurd rfl z)
  refine GW.drop 5 (GW.drop 6 ?_)
  exact GW.wid (c1 + 20) (n1 + 60) (by omega) (by omega) (next s hs)
set_option maxRecDepth 100000 in
set_option maxHeartbeats 4000000 in
theorem cs_checksum (hG : Full γ) (hi : 0 ≤ i ∧ i + 4 ≤ Ln ∧ Ln ≤ 2048) (hc : c1 + 20 ≤ 601024 ∧ n1 + 60 ≤ 7293034) {ky ny k2 n2 : Nat} (h1 : ky ≤ 8 ∧ ny ≤ 30) (h2 : k2 ≤ 8 ∧ n2 ≤ 30) {w : Int} {σ1 : St} {P : St → Prop} (hX : Ev γ mX4_checksum 7 ky ny [.ref (ga γ 6 0)] σ xs (rtn (some (.long (zL w))) σ1 xs) nX) (hM : Ev γ mX5_checksum 2 k2 n2 [.ref (ga γ 8 0)] σ1 xs (QM (.long (zL w)) P xs) nX) (next : ∀ s, P s → GW γ mLaw room_1 (ZL γ b Ln X) Q (c1 + 20) (n1 + 60) 1485 (LL γ b i none none) [] s xs) : GW γ mLaw room_1 (ZL γ b Ln X) Q c1 n1 1471 (LL γ b i none none) [] σ xs := by
  refine h_aload_n (q := 1472) dL_law_1471 rfl rfl ?_
  refine hX_0 (My := mX4_checksum) (q := 1475) dL_law_1472 rfl kL_183 vX4_checksum (hG _ _ rfl) rfl hX ⟨by decide, by decide⟩ ⟨by show c1 + ky ≤ 601024; omega, by show n1 + ny ≤ 7293034; omega⟩ (Nat.le_of_ble_eq_true rfl) (fun v0 s0 x0 h0 => ?_)
  obtain ⟨rfl, rfl, rfl⟩ := h0
  refine GW.cast rfl (show _ = [Value.long (zL w)] from rfl) ?_
  refine h_aload_n (q := 1476) dL_law_1475 rfl rfl ?_
  refine hM_0 (My := mX5_checksum) (q := 1479) dL_law_1476 rfl kL_187 vX5_checksum (hG _ _ rfl) rfl hM ⟨by decide, by decide⟩ ⟨by show c1 + ky + k2 ≤ 601024; omega, by show n1 + ny + n2 ≤ 7293034; omega⟩ (Nat.le_of_ble_eq_true rfl) (fun v s x hQ => ?_)
  obtain ⟨rfl, rfl, hs⟩ := hQ
  refine GW.cast rfl (show _ = [Value.long (zL w), Value.long (zL w)] from rfl) ?_
  refine h_lcmpE (q := 1480) dL_law_1479 rfl ?_
  refine h_if_eq (q := 1483) (tgt := 1485) dL_law_1480 rfl (by decide) (by decide) (fun _ => ?_) (fun z => absurd rfl z)
  refine GW.drop 5 (GW.drop 6 ?_)
  exact GW.wid (c1 + 20) (n1 + 60) (by omega) (by omega) (next s hs)
end CASES
