/-! ROWS on the heap, calls, returns, throws -/
theorem Cl.kept {γ : Gm} {σ : St} {xs : va_W} {H H' : Heap} (hC : Cl γ σ xs H) (h : ∀ q, q < H.size → H'[q]? = H[q]?) : Cl γ σ xs H' := ⟨fun k i hv => (hC.1 k i hv).kept (h _ (hC.1 k i hv).lt), fun k q hk => (hC.2 k q hk).kept (h _ (hC.2 k q hk).lt)⟩
theorem Cl.upd {γ : Gm} {σ σ' : St} {xs : va_W} {H H' : Heap} {kd i : Nat} (hC : Cl γ σ xs H) (hG : Gok γ xs) (hv : gv γ kd i) (h1 : va_at (gD γ) vwCl (ga γ kd i, ct γ σ' kd i) H') (h2 : ∀ q, q ≠ ga γ kd i → H'[q]? = H[q]?) (h3 : ∀ k' i', vK k' i' = true → ¬ (k' = kd ∧ i' = i) → ct γ σ' k' i' = ct γ σ k' i') : Cl γ σ' xs H' := by
  refine ⟨fun k' i' hv' => ?_, fun k q hk => (hC.2 k q hk).kept (h2 _ (hG.2.2.2.2.1 kd i hv q (List.mem_of_getElem? hk)))⟩
  by_cases he : k' = kd ∧ i' = i
  · obtain ⟨rfl, rfl⟩ := he
    exact h1
  · rw [h3 k' i' (hG.2.2.2.2.2 k' i' hv') he]
    exact (hC.1 k' i' hv').kept (h2 _ (fun z => he (hG.2.1 k' i' kd i hv' hv z)))
section ZW
variable {p : Program} {l : Launch} {e : Env} {R : Room} {s : State} {m : MethodId} {args : Array Value} {below : List Frame} {meth : Method} {c : Code} {H : Heap} {locs : List Loc} {cells slots : Nat} {Q : State → Prop}
variable {cc : ByteArray} {pc : Nat} {ls : Array Slot} {rest : List Value} {D : va_G} {cl : List vw_C} {a : Nat} {tys : List (ClassId × FieldType)}
theorem z_put (hexec : p.tables.exec = Jvm.exec) (hb : c.code = cc) {own ref C : String} {T : u_T} {N ci index : Nat} {Ts : List Cond} (hts : ∀ w ∈ Ts, w.before args s = true) (hin : ∀ w ∈ u_ws C T N, w ∈ Ts) (ty0 : Nat → FieldType) (hty : ∀ k, k < N → parseFieldDescriptor (T k).2.2.1 = some (ty0 k)) (hnm : ∀ a, a < N → ∀ b, b < N → a ≠ b → (T a).2.1 ≠ (T b).2.1) (hown : s.vm.findClass own = some m.cls) (hK : va_K D cl tys s) {fs : List Value} (hP : va_at D cl (a, .inr (ci, fs)) H) (hc : cl[ci]? = some (C, T, N)) (k : Nat) (hk : k < N) (hlink : (Cond.fieldLink own index ref (T k).2.1 (T k).2.2.1).before args s = true) (hsame : ∀ x, s.fieldFound? (T k).1 (T k).2.1 (T k).2.2.1 = some x → s.fieldFound? ref (T k).2.1 (T k).2.2.1 = some x) (hfin : (T k).2.2.2 = false) {ty : FieldType} {v : Value} (hd : parseFieldDescriptor (T k).2.2.1 = some ty) (hn : narrow ty v = v) (hfit : fits ty v = true) (hl : k < fs.length)
    (hdg : decode cc pc = .ok (.putfield index, 3)) (kk : ∀ (H1 : Heap) (w : Nat), va_at D cl (a, .inr (ci, fs.set k v)) H1 → H1.size = H.size → (∀ q, q ≠ a → H1[q]? = H[q]?) → W p l e R s m args below meth c H1 (locs ++ [⟨a, w⟩]) cells slots Q (F0 m (pc + 3) ls rest)) : W p l e R s m args below meth c H locs cells slots Q (F0 m pc ls (v :: .ref a :: rest)) := by
  have hap := va_apart (own := own) hts hin ty0 hty hnm hK hc
  obtain ⟨r, h1, cell, q1, q2, q3, q4⟩ := hP
  have hr : r = (C, T, N) := Option.some.inj (h1.symm.trans hc)
  subst hr
  obtain ⟨hS, hfc, kC, hkC, hkind⟩ := hK.1 ci _ hc
  obtain ⟨cf, kf, fi, f, hi, hsl⟩ := hS k hk
  have hlay := hts _ (hin _ (u_in_lay hk))
  unfold u_lay at hlay
  rw [if_neg (by rw [hfin]; decide)] at hlay
  have hst := (u_facts hfc hkC (u_lays hts hin hk) hi).1
  have h6 := u_store hfc hkC hkind hlay hi hd hn hfit
  refine W.putK hexec hb (f := f) ⟨hown, hlink, ⟨_, _, _, hsame _ hi⟩, hst⟩ (by rw [q2]; exact h6) q1 q3 (by rw [hsl]; exact k2_hasslot (q4 k hk)) rfl rfl hdg fun H' e1 e2 e3 => ?_
  rw [hsl] at e1 ⊢
  exact kk H' _ ⟨_, hc, t_OB.to (V := updV (vp_V fs) k v) ⟨_, e1, q2, q3, t_set q4 hap hk v⟩ (fun j _ => vp_updV_set hl v j)⟩ e2 e3
theorem z_iast (hexec : p.tables.exec = Jvm.exec) (hb : c.code = cc) {cA : ClassId} {n : Nat} {f g : Nat → Int32} (hP : va_at D cl (a, .inl (cA, n, .inl f)) H) (hA : ArrOfT s cA .int) {i x : Int32} (hin : vp_in i n) (hg : ∀ q, g q = if q = i.toNatClampNeg then x else f q) (hdg : decode cc pc = .ok (.iastore, 1))
    (kk : ∀ (H1 : Heap) (w : Nat), va_at D cl (a, .inl (cA, n, .inl g)) H1 → H1.size = H.size → (∀ q, q ≠ a → H1[q]? = H[q]?) → W p l e R s m args below meth c H1 (locs ++ [⟨a, w⟩]) cells slots Q (F0 m (pc + 1) ls rest)) : W p l e R s m args below meth c H locs cells slots Q (F0 m pc ls (.int x :: .int i :: .ref a :: rest)) := by
  refine W.iast hexec hb hP (hA n (fun j => .int (f j))) (fun q => by cases q) (by show ¬ (i < 0 ∨ (arrV _ _ _).slots.size ≤ _); rw [arrV_size]; exact hin) rfl rfl hdg fun H1 e z oq => ?_
  refine kk H1 _ ?_ z oq
  show H1[a]? = some (vp_cell _ _)
  rw [e]
  rw [vp_cell_i, vp_cell_i, arrV_store]
  congr 2
  funext q
  rw [hg q]
  by_cases hq : q = i.toNatClampNeg
  · subst hq
    simp [updV]
  · simp [updV, hq]
theorem z_cast (hexec : p.tables.exec = Jvm.exec) (hb : c.code = cc) {cA : ClassId} {n : Nat} {f g : Nat → Int32} (hP : va_at D cl (a, .inl (cA, n, .inl f)) H) (hA : ArrOfT s cA .char) {i x y : Int32} (hin : vp_in i n) (hy : narrow .char (.int x) = .int y) (hg : ∀ q, g q = if q = i.toNatClampNeg then y else f q) (hdg : decode cc pc = .ok (.castore, 1))
    (kk : ∀ (H1 : Heap) (w : Nat), va_at D cl (a, .inl (cA, n, .inl g)) H1 → H1.size = H.size → (∀ q, q ≠ a → H1[q]? = H[q]?) → W p l e R s m args below meth c H1 (locs ++ [⟨a, w⟩]) cells slots Q (F0 m (pc + 1) ls rest)) : W p l e R s m args below meth c H locs cells slots Q (F0 m pc ls (.int x :: .int i :: .ref a :: rest)) := by
  refine W.cast hexec hb hP (hA n (fun j => .int (f j))) (fun q => by cases q) (by show ¬ (i < 0 ∨ (arrV _ _ _).slots.size ≤ _); rw [arrV_size]; exact hin) rfl rfl hdg fun H1 e z oq => ?_
  refine kk H1 _ ?_ z oq
  show H1[a]? = some (vp_cell _ _)
  rw [e, hy]
  rw [vp_cell_i, vp_cell_i, arrV_store]
  congr 2
  funext q
  rw [hg q]
  by_cases hq : q = i.toNatClampNeg
  · subst hq
    simp [updV]
  · simp [updV, hq]
theorem z_last (hexec : p.tables.exec = Jvm.exec) (hb : c.code = cc) {cA : ClassId} {n : Nat} {f g : Nat → Int64} (hP : va_at D cl (a, .inl (cA, n, .inr (.inl f))) H) (hA : ArrOfT s cA .long) {i : Int32} {x : Int64} (hin : vp_in i n) (hg : ∀ q, q < n → g q = if q = i.toNatClampNeg then x else f q) (hn1 : n = 1) (hdg : decode cc pc = .ok (.lastore, 1))
    (kk : ∀ (H1 : Heap) (w : Nat), va_at D cl (a, .inl (cA, n, .inr (.inl g))) H1 → H1.size = H.size → (∀ q, q ≠ a → H1[q]? = H[q]?) → W p l e R s m args below meth c H1 (locs ++ [⟨a, w⟩]) cells slots Q (F0 m (pc + 1) ls rest)) : W p l e R s m args below meth c H locs cells slots Q (F0 m pc ls (.long x :: .int i :: .ref a :: rest)) := by
  refine W.last hexec hb hP (hA n (fun j => .long (f j))) (fun q => by cases q) (by show ¬ (i < 0 ∨ (arrV _ _ _).slots.size ≤ _); rw [arrV_size]; exact hin) rfl rfl hdg fun H1 e z oq => ?_
  refine kk H1 _ ?_ z oq
  show H1[a]? = some (vp_cell _ _)
  rw [e]
  rw [vp_cell_l, vp_cell_l, arrV_store]
  subst hn1
  have h0 := hg 0 (by omega)
  have e0 : i.toNatClampNeg = 0 := by
    have : i.toNatClampNeg < 1 := Nat.not_le.mp fun q => hin (Or.inr q)
    omega
  rw [e0] at h0 ⊢
  simp at h0
  simp [arrV, updV, h0]
end ZW
theorem va_S.zput {A : Nat → Prop} {H0 H H1 : Heap} {locs : List Loc} {a w : Nat} (h : va_S A H0 H locs) (z : H1.size = H.size) (oq : ∀ q : Nat, q ≠ a → H1[q]? = H[q]?) (ha : A a) : va_S A H0 H1 (locs ++ [⟨a, w⟩]) := va_S.put h z oq ha
section HEAP
variable {γ : Gm} {M : Md} {d k n : Nat} {Qr : Option Value → St → va_W → Prop} {Qx : String → St → va_W → Prop} {c1 n1 pc q : Nat} {L : List (Option Value)} {st : List Value} {σ : St} {xs : va_W}
theorem r_get {kd i ci N j idx : Nat} {C : String} {T : u_T} {fs : List Value} {v : Value} (hd : decode M.2.1 pc = .ok (.getfield idx, 3)) (hq : pc + 3 = q) (hf : Cond.fieldLink M.1.cls idx (T j).1 (T j).2.1 (T j).2.2.1 ∈ uw) (hin : ∀ w ∈ u_ws C T N, w ∈ uw) (hc : vwCl[ci]? = some (C, T, N)) (hj : j < N) (hv : gv γ kd i) (hct : ct γ σ kd i = .inr (ci, fs)) (hfs : fs[j]? = some v) (kk : RW γ M d k n Qr Qx c1 n1 q L (v :: st) σ xs) : RW γ M d k n Qr Qx c1 n1 pc L (.ref (ga γ kd i) :: st) σ xs := by
  subst hq
  intro p e s m args below meth c H locs ls C0 hS hC hG hl
  have hP : va_P (gD γ) vwCl [(ga γ kd i, .inr (ci, fs))] H := fun k x hx => by
    have hk : k = 0 := by
      have := (List.getElem?_eq_some_iff.mp hx).1
      simp at this
      exact this
    subst hk
    cases hx
    rw [← hct]
    exact hC.1 kd i hv
  exact va_get C0.1 C0.2.1 C0.2.2.2.2.2.1 hin C0.2.2.2.2.1 C0.2.2.2.2.2.2.2.1 hP 0 rfl hc j hj (C0.2.2.2.2.2.1 _ hf) (fun x h => h) hfs hd (kk p e s m args below meth c H locs ls C0 hS hC hG hl)
theorem r_put {kd i ci N j idx : Nat} {C : String} {T : u_T} {fs : List Value} {v : Value} {σ' : St} {ty0 : Nat → FieldType} {ty : FieldType} (hd : decode M.2.1 pc = .ok (.putfield idx, 3)) (hq : pc + 3 = q) (hf : Cond.fieldLink M.1.cls idx (T j).1 (T j).2.1 (T j).2.2.1 ∈ uw) (hin : ∀ w ∈ u_ws C T N, w ∈ uw) (hty : ∀ k, k < N → parseFieldDescriptor (T k).2.2.1 = some (ty0 k)) (hnm : ∀ a, a < N → ∀ b, b < N → a ≠ b → (T a).2.1 ≠ (T b).2.1) (hc : vwCl[ci]? = some (C, T, N)) (hj : j < N) (hfin : (T j).2.2.2 = false) (hdt : parseFieldDescriptor (T j).2.2.1 = some ty) (hn : narrow ty v = v) (hfit : fits ty v = true) (hv : gv γ kd i) (hct : ct γ σ kd i = .inr (ci, fs)) (hjl : j < fs.length) (hct' : ct γ σ' kd i = .inr (ci, fs.set j v)) (hoth : ∀ k' i', vK k' i' = true → ¬ (k' = kd ∧ i' = i) → ct γ σ' k' i' = ct γ σ k' i') (kk : RW γ M d k n Qr Qx c1 n1 q L st σ' xs) : RW γ M d k n Qr Qx c1 n1 pc L (v :: .ref (ga γ kd i) :: st) σ xs := by
  subst hq
  intro p e s m args below meth c H locs ls C0 hS hC hG hl
  have hP := hC.1 kd i hv
  rw [hct] at hP
  refine z_put C0.1 C0.2.1 C0.2.2.2.2.2.1 hin ty0 hty hnm C0.2.2.2.2.1 C0.2.2.2.2.2.2.2.1 hP hc j hj (C0.2.2.2.2.2.1 _ hf) (fun x h => h) hfin hdt hn hfit hjl hd (fun H1 w a1 z1 o1 => ?_)
  exact kk p e s m args below meth c H1 _ ls C0 (hS.zput z1 o1 (hG.2.2.1 kd i hv)) (hC.upd hG hv (by rw [hct']; exact a1) o1 hoth) hG hl
theorem r_iald {kd i N : Nat} {z : Int} {f : Nat → Int32} (hct : ct γ σ kd i = .inl (gc γ 1, (N, .inl f))) (hd : decode M.2.1 pc = .ok (.iaload, 1)) (hq : pc + 1 = q) (hv : gv γ kd i) (hz : 0 ≤ z ∧ z < (N : Int) ∧ z ≤ 2147483647) (kk : RW γ M d k n Qr Qx c1 n1 q L (.int (f z.toNat) :: st) σ xs) : RW γ M d k n Qr Qx c1 n1 pc L (.int (zI z) :: .ref (ga γ kd i) :: st) σ xs := by
  subst hq
  intro p e s m args below meth c H locs ls C0 hS hC hG hl
  have hP : va_P (gD γ) vwCl [(ga γ kd i, .inl (gc γ 1, (N, .inl f)))] H := fun k x hx => by
    have hk : k = 0 := by
      have := (List.getElem?_eq_some_iff.mp hx).1
      simp at this
      exact this
    subst hk
    cases hx
    rw [← hct]
    exact hC.1 kd i hv
  refine va_iald C0.1 C0.2.1 C0.2.2.2.2.2.2.2.1 hP 0 1 rfl rfl (zI_in hz.1 hz.2.1 hz.2.2) hd ?_
  rw [zI_clamp ⟨hz.1, hz.2.2⟩]
  exact kk p e s m args below meth c H locs ls C0 hS hC hG hl
theorem r_iast {kd i N : Nat} {z w : Int} {f g : Nat → Int32} {σ' : St} (hct : ct γ σ kd i = .inl (gc γ 1, (N, .inl f))) (hct' : ct γ σ' kd i = .inl (gc γ 1, (N, .inl g))) (hg : ∀ q, g q = if q = z.toNat then zI w else f q) (hoth : ∀ k' i', vK k' i' = true → ¬ (k' = kd ∧ i' = i) → ct γ σ' k' i' = ct γ σ k' i') (hd : decode M.2.1 pc = .ok (.iastore, 1)) (hq : pc + 1 = q) (hv : gv γ kd i) (hz : 0 ≤ z ∧ z < (N : Int) ∧ z ≤ 2147483647) (kk : RW γ M d k n Qr Qx c1 n1 q L st σ' xs) : RW γ M d k n Qr Qx c1 n1 pc L (.int (zI w) :: .int (zI z) :: .ref (ga γ kd i) :: st) σ xs := by
  subst hq
  intro p e s m args below meth c H locs ls C0 hS hC hG hl
  have hP := hC.1 kd i hv
  rw [hct] at hP
  refine z_iast C0.1 C0.2.1 hP (C0.2.2.2.2.2.2.2.1.2 1 _ rfl).1 (zI_in hz.1 hz.2.1 hz.2.2) (g := g) (fun q => by rw [zI_clamp ⟨hz.1, hz.2.2⟩]; exact hg q) hd (fun H1 w a1 z1 o1 => ?_)
  exact kk p e s m args below meth c H1 _ ls C0 (hS.zput z1 o1 (hG.2.2.1 kd i hv)) (hC.upd hG hv (by rw [hct']; exact a1) o1 hoth) hG hl
theorem r_cald {i : Nat} {z : Int} (hd : decode M.2.1 pc = .ok (.caload, 1)) (hq : pc + 1 = q) (hv : gv γ 1 i) (hz : 0 ≤ z ∧ z < 128) (kk : RW γ M d k n Qr Qx c1 n1 q L (.int (zI (sg σ i z.toNat % 65536)) :: st) σ xs) : RW γ M d k n Qr Qx c1 n1 pc L (.int (zI z) :: .ref (ga γ 1 i) :: st) σ xs := by
  subst hq
  intro p e s m args below meth c H locs ls C0 hS hC hG hl
  have hP : va_P (gD γ) vwCl [(ga γ 1 i, ct γ σ 1 i)] H := fun k x hx => by
    have hk : k = 0 := by
      have := (List.getElem?_eq_some_iff.mp hx).1
      simp at this
      exact this
    subst hk
    cases hx
    exact hC.1 1 i hv
  refine va_cald C0.1 C0.2.1 C0.2.2.2.2.2.2.2.1 hP 0 0 rfl rfl (zI_in hz.1 (by omega) (by omega)) hd ?_
  rw [zI_clamp ⟨hz.1, by omega⟩]
  exact kk p e s m args below meth c H locs ls C0 hS hC hG hl
theorem r_aaldS {z : Int} (hd : decode M.2.1 pc = .ok (.aaload, 1)) (hq : pc + 1 = q) (hv : gv γ 7 0) (hz : 0 ≤ z ∧ z < 4) (kk : RW γ M d k n Qr Qx c1 n1 q L (.ref (ga γ 2 z.toNat) :: st) σ xs) : RW γ M d k n Qr Qx c1 n1 pc L (.int (zI z) :: .ref (ga γ 7 0) :: st) σ xs := by
  subst hq
  intro p e s m args below meth c H locs ls C0 hS hC hG hl
  have hP : va_P (gD γ) vwCl [(ga γ 7 0, ct γ σ 7 0)] H := fun k x hx => by
    have hk : k = 0 := by
      have := (List.getElem?_eq_some_iff.mp hx).1
      simp at this
      exact this
    subst hk
    cases hx
    exact hC.1 7 0 hv
  refine va_aldq C0.1 C0.2.1 C0.2.2.2.2.2.2.2.1 hP 0 3 rfl rfl (zI_in hz.1 (by omega) (by omega)) hd ?_
  rw [zI_clamp ⟨hz.1, by omega⟩]
  exact kk p e s m args below meth c H locs ls C0 hS hC hG hl
theorem r_laldO (hd : decode M.2.1 pc = .ok (.laload, 1)) (hq : pc + 1 = q) (hv : gv γ 18 0) (kk : RW γ M d k n Qr Qx c1 n1 q L (.long (zL (ov σ)) :: st) σ xs) : RW γ M d k n Qr Qx c1 n1 pc L (.int (zI 0) :: .ref (ga γ 18 0) :: st) σ xs := by
  subst hq
  intro p e s m args below meth c H locs ls C0 hS hC hG hl
  have hP : va_P (gD γ) vwCl [(ga γ 18 0, ct γ σ 18 0)] H := fun k x hx => by
    have hk : k = 0 := by
      have := (List.getElem?_eq_some_iff.mp hx).1
      simp at this
      exact this
    subst hk
    cases hx
    exact hC.1 18 0 hv
  exact va_lald C0.1 C0.2.1 C0.2.2.2.2.2.2.2.1 hP 0 2 rfl rfl (zI_in (by omega) (by omega) (by omega)) hd (kk p e s m args below meth c H locs ls C0 hS hC hG hl)
/-- the length of an array of the world -/
theorem r_alen {kd i t0 : Nat} {cA : ClassId} {x : vp_A} {ty : FieldType} {z : Int} (hct : ct γ σ kd i = .inl (cA, x)) (ht : (tysG γ)[t0]? = some (cA, ty)) (hz : (x.1 : Int) = z) (hd : decode M.2.1 pc = .ok (.arraylength, 1)) (hq : pc + 1 = q) (hv : gv γ kd i) (kk : RW γ M d k n Qr Qx c1 n1 q L (.int (zI z) :: st) σ xs) : RW γ M d k n Qr Qx c1 n1 pc L (.ref (ga γ kd i) :: st) σ xs := by
  subst hq
  intro p e s m args below meth c H locs ls C0 hS hC hG hl
  have hP : va_P (gD γ) vwCl [(ga γ kd i, .inl (cA, x))] H := fun k y hx => by
    have hk : k = 0 := by
      have := (List.getElem?_eq_some_iff.mp hx).1
      simp at this
      exact this
    subst hk
    cases hx
    rw [← hct]
    exact hC.1 kd i hv
  exact va_alen C0.1 C0.2.1 C0.2.2.2.2.2.2.2.1 hP 0 t0 rfl ht (by rw [zI_ofNat, hz]) hd (kk p e s m args below meth c H locs ls C0 hS hC hG hl)
theorem nar_char (w : Int) : narrow .char (.int (zI w)) = .int (zI (w % 65536)) := by
  have h := zI_char w
  have e : narrow .char (.int (zI w)) = .int (vp_nar .char (zI w)) := by
    unfold vp_nar
    rfl
  rw [e, vp_nar_char, ← h]
  rfl
theorem ct_oth_sg {i j : Nat} {w : Int} : ∀ k' i', vK k' i' = true → ¬ (k' = 1 ∧ i' = i) → ct γ (sSg σ (u2 (sg σ) i j w)) k' i' = ct γ σ k' i' := by
  intro k' i' _ h
  unfold ct
  split <;> first | rfl | skip
  have hne : i' ≠ i := fun z => h ⟨rfl, z⟩
  simp [sg, sSg, u2, u1, hne]
theorem r_cast {i : Nat} {z w : Int} (hd : decode M.2.1 pc = .ok (.castore, 1)) (hq : pc + 1 = q) (hv : gv γ 1 i) (hz : 0 ≤ z ∧ z < 128) (kk : RW γ M d k n Qr Qx c1 n1 q L st (sSg σ (u2 (sg σ) i z.toNat w)) xs) : RW γ M d k n Qr Qx c1 n1 pc L (.int (zI w) :: .int (zI z) :: .ref (ga γ 1 i) :: st) σ xs := by
  subst hq
  intro p e s m args below meth c H locs ls C0 hS hC hG hl
  refine z_cast C0.1 C0.2.1 (hC.1 1 i hv) (C0.2.2.2.2.2.2.2.1.2 0 _ rfl).1 (zI_in hz.1 (by omega) (by omega)) (nar_char w) (g := fun j => zI (sg (sSg σ (u2 (sg σ) i z.toNat w)) i j % 65536)) (fun q => ?_) hd (fun H1 w' a1 z1 o1 => ?_)
  · rw [zI_clamp ⟨hz.1, by omega⟩]
    by_cases hq : q = z.toNat
    · subst hq
      simp [sg, sSg, u2, u1]
    · simp [sg, sSg, u2, u1, hq]
  · exact kk p e s m args below meth c H1 _ ls C0 (hS.zput z1 o1 (hG.2.2.1 1 i hv)) (hC.upd hG hv a1 o1 ct_oth_sg) hG hl
theorem r_lastO {w : Int} (hd : decode M.2.1 pc = .ok (.lastore, 1)) (hq : pc + 1 = q) (hv : gv γ 18 0) (kk : RW γ M d k n Qr Qx c1 n1 q L st (sOv σ w) xs) : RW γ M d k n Qr Qx c1 n1 pc L (.long (zL w) :: .int (zI 0) :: .ref (ga γ 18 0) :: st) σ xs := by
  subst hq
  intro p e s m args below meth c H locs ls C0 hS hC hG hl
  refine z_last C0.1 C0.2.1 (hC.1 18 0 hv) (C0.2.2.2.2.2.2.2.1.2 2 _ rfl).1 (zI_in (by omega) (by omega) (by omega)) (g := fun _ => zL w) (fun q hq => ?_) rfl hd (fun H1 w' a1 z1 o1 => ?_)
  · have h0 : q = 0 := by omega
    subst h0
    rw [zI_clamp (by omega)]
    rfl
  · refine kk p e s m args below meth c H1 _ ls C0 (hS.zput z1 o1 (hG.2.2.1 18 0 hv)) (hC.upd hG hv a1 o1 ?_) hG hl
    intro k' i' h9 h
    unfold ct
    split <;> first | rfl | skip
    exact absurd ⟨rfl, by simpa [vK] using h9⟩ h

theorem uin_X3 : ∀ w ∈ u_ws RX3 TX3 2, w ∈ uw := fun w h => uw_i ((show ∀ w ∈ u_ws RX3 TX3 2, w ∈ lw_tbl ∧ goodWord w = true by decide +kernel) w h)
theorem g_X3_signs {i idx : Nat} (hd : decode M.2.1 pc = .ok (.getfield idx, 3)) (hq : pc + 3 = q) (hf : Cond.fieldLink M.1.cls idx (TX3 0).1 (TX3 0).2.1 (TX3 0).2.2.1 ∈ uw) (hv : gv γ 0 i) (kk : RW γ M d k n Qr Qx c1 n1 q L (.ref (ga γ 1 i) :: st) σ xs) : RW γ M d k n Qr Qx c1 n1 pc L (.ref (ga γ 0 i) :: st) σ xs := r_get (j := 0) (N := 2) hd hq hf uin_X3 rfl (by decide) hv rfl rfl kk
theorem g_X3_count {i idx : Nat} (hd : decode M.2.1 pc = .ok (.getfield idx, 3)) (hq : pc + 3 = q) (hf : Cond.fieldLink M.1.cls idx (TX3 1).1 (TX3 1).2.1 (TX3 1).2.2.1 ∈ uw) (hv : gv γ 0 i) (kk : RW γ M d k n Qr Qx c1 n1 q L (.int (zI (cnt σ i)) :: st) σ xs) : RW γ M d k n Qr Qx c1 n1 pc L (.ref (ga γ 0 i) :: st) σ xs := r_get (j := 1) (N := 2) hd hq hf uin_X3 rfl (by decide) hv rfl rfl kk
theorem uin_X0 : ∀ w ∈ u_ws RX0 TX0 5, w ∈ uw := fun w h => uw_i ((show ∀ w ∈ u_ws RX0 TX0 5, w ∈ lw_tbl ∧ goodWord w = true by decide +kernel) w h)
theorem g_X0_whole {i idx : Nat} (hd : decode M.2.1 pc = .ok (.getfield idx, 3)) (hq : pc + 3 = q) (hf : Cond.fieldLink M.1.cls idx (TX0 0).1 (TX0 0).2.1 (TX0 0).2.2.1 ∈ uw) (hv : gv γ 2 i) (kk : RW γ M d k n Qr Qx c1 n1 q L (.ref (ga γ 0 i) :: st) σ xs) : RW γ M d k n Qr Qx c1 n1 pc L (.ref (ga γ 2 i) :: st) σ xs := r_get (j := 0) (N := 5) hd hq hf uin_X0 rfl (by decide) hv rfl rfl kk
theorem g_X0_begins {i idx : Nat} (hd : decode M.2.1 pc = .ok (.getfield idx, 3)) (hq : pc + 3 = q) (hf : Cond.fieldLink M.1.cls idx (TX0 1).1 (TX0 1).2.1 (TX0 1).2.2.1 ∈ uw) (hv : gv γ 2 i) (kk : RW γ M d k n Qr Qx c1 n1 q L (.ref (ga γ 3 i) :: st) σ xs) : RW γ M d k n Qr Qx c1 n1 pc L (.ref (ga γ 2 i) :: st) σ xs := r_get (j := 1) (N := 5) hd hq hf uin_X0 rfl (by decide) hv rfl rfl kk
theorem g_X0_ends {i idx : Nat} (hd : decode M.2.1 pc = .ok (.getfield idx, 3)) (hq : pc + 3 = q) (hf : Cond.fieldLink M.1.cls idx (TX0 2).1 (TX0 2).2.1 (TX0 2).2.2.1 ∈ uw) (hv : gv γ 2 i) (kk : RW γ M d k n Qr Qx c1 n1 q L (.ref (ga γ 4 i) :: st) σ xs) : RW γ M d k n Qr Qx c1 n1 pc L (.ref (ga γ 2 i) :: st) σ xs := r_get (j := 2) (N := 5) hd hq hf uin_X0 rfl (by decide) hv rfl rfl kk
theorem g_X0_portNumber {i idx : Nat} (hd : decode M.2.1 pc = .ok (.getfield idx, 3)) (hq : pc + 3 = q) (hf : Cond.fieldLink M.1.cls idx (TX0 3).1 (TX0 3).2.1 (TX0 3).2.2.1 ∈ uw) (hv : gv γ 2 i) (kk : RW γ M d k n Qr Qx c1 n1 q L (.int (zI (pt σ i)) :: st) σ xs) : RW γ M d k n Qr Qx c1 n1 pc L (.ref (ga γ 2 i) :: st) σ xs := r_get (j := 3) (N := 5) hd hq hf uin_X0 rfl (by decide) hv rfl rfl kk
theorem g_X0_isHeld {i idx : Nat} (hd : decode M.2.1 pc = .ok (.getfield idx, 3)) (hq : pc + 3 = q) (hf : Cond.fieldLink M.1.cls idx (TX0 4).1 (TX0 4).2.1 (TX0 4).2.2.1 ∈ uw) (hv : gv γ 2 i) (kk : RW γ M d k n Qr Qx c1 n1 q L (.int (zI (bI (hld σ i))) :: st) σ xs) : RW γ M d k n Qr Qx c1 n1 pc L (.ref (ga γ 2 i) :: st) σ xs := r_get (j := 4) (N := 5) hd hq hf uin_X0 rfl (by decide) hv rfl rfl kk
theorem uin_X1 : ∀ w ∈ u_ws RX1 TX1 3, w ∈ uw := fun w h => uw_i ((show ∀ w ∈ u_ws RX1 TX1 3, w ∈ lw_tbl ∧ goodWord w = true by decide +kernel) w h)
theorem g_X1_address {i idx : Nat} (hd : decode M.2.1 pc = .ok (.getfield idx, 3)) (hq : pc + 3 = q) (hf : Cond.fieldLink M.1.cls idx (TX1 0).1 (TX1 0).2.1 (TX1 0).2.2.1 ∈ uw) (hv : gv γ 5 0) (kk : RW γ M d k n Qr Qx c1 n1 q L (.ref (ga γ 2 4) :: st) σ xs) : RW γ M d k n Qr Qx c1 n1 pc L (.ref (ga γ 5 0) :: st) σ xs := r_get (j := 0) (N := 3) hd hq hf uin_X1 rfl (by decide) hv rfl rfl kk
theorem g_X1_text {i idx : Nat} (hd : decode M.2.1 pc = .ok (.getfield idx, 3)) (hq : pc + 3 = q) (hf : Cond.fieldLink M.1.cls idx (TX1 1).1 (TX1 1).2.1 (TX1 1).2.2.1 ∈ uw) (hv : gv γ 5 0) (kk : RW γ M d k n Qr Qx c1 n1 q L (.ref (ga γ 0 4) :: st) σ xs) : RW γ M d k n Qr Qx c1 n1 pc L (.ref (ga γ 5 0) :: st) σ xs := r_get (j := 1) (N := 3) hd hq hf uin_X1 rfl (by decide) hv rfl rfl kk
theorem g_X1_refused {i idx : Nat} (hd : decode M.2.1 pc = .ok (.getfield idx, 3)) (hq : pc + 3 = q) (hf : Cond.fieldLink M.1.cls idx (TX1 2).1 (TX1 2).2.1 (TX1 2).2.2.1 ∈ uw) (hv : gv γ 5 0) (kk : RW γ M d k n Qr Qx c1 n1 q L (.int (zI (rf σ)) :: st) σ xs) : RW γ M d k n Qr Qx c1 n1 pc L (.ref (ga γ 5 0) :: st) σ xs := r_get (j := 2) (N := 3) hd hq hf uin_X1 rfl (by decide) hv rfl rfl kk
theorem uin_X4 : ∀ w ∈ u_ws RX4 TX4 6, w ∈ uw := fun w h => uw_i ((show ∀ w ∈ u_ws RX4 TX4 6, w ∈ lw_tbl ∧ goodWord w = true by decide +kernel) w h)
theorem g_X4_text {i idx : Nat} (hd : decode M.2.1 pc = .ok (.getfield idx, 3)) (hq : pc + 3 = q) (hf : Cond.fieldLink M.1.cls idx (TX4 0).1 (TX4 0).2.1 (TX4 0).2.2.1 ∈ uw) (hv : gv γ 6 0) (kk : RW γ M d k n Qr Qx c1 n1 q L (.ref (ga γ 0 5) :: st) σ xs) : RW γ M d k n Qr Qx c1 n1 pc L (.ref (ga γ 6 0) :: st) σ xs := r_get (j := 0) (N := 6) hd hq hf uin_X4 rfl (by decide) hv rfl rfl kk
theorem g_X4_slots {i idx : Nat} (hd : decode M.2.1 pc = .ok (.getfield idx, 3)) (hq : pc + 3 = q) (hf : Cond.fieldLink M.1.cls idx (TX4 1).1 (TX4 1).2.1 (TX4 1).2.2.1 ∈ uw) (hv : gv γ 6 0) (kk : RW γ M d k n Qr Qx c1 n1 q L (.ref (ga γ 7 0) :: st) σ xs) : RW γ M d k n Qr Qx c1 n1 pc L (.ref (ga γ 6 0) :: st) σ xs := r_get (j := 1) (N := 6) hd hq hf uin_X4 rfl (by decide) hv rfl rfl kk
theorem g_X4_cutter {i idx : Nat} (hd : decode M.2.1 pc = .ok (.getfield idx, 3)) (hq : pc + 3 = q) (hf : Cond.fieldLink M.1.cls idx (TX4 2).1 (TX4 2).2.1 (TX4 2).2.2.1 ∈ uw) (hv : gv γ 6 0) (kk : RW γ M d k n Qr Qx c1 n1 q L (.ref (ga γ 5 0) :: st) σ xs) : RW γ M d k n Qr Qx c1 n1 pc L (.ref (ga γ 6 0) :: st) σ xs := r_get (j := 2) (N := 6) hd hq hf uin_X4 rfl (by decide) hv rfl rfl kk
theorem g_X4_loom {i idx : Nat} (hd : decode M.2.1 pc = .ok (.getfield idx, 3)) (hq : pc + 3 = q) (hf : Cond.fieldLink M.1.cls idx (TX4 3).1 (TX4 3).2.1 (TX4 3).2.2.1 ∈ uw) (hv : gv γ 6 0) (kk : RW γ M d k n Qr Qx c1 n1 q L (.ref (ga γ 0 6) :: st) σ xs) : RW γ M d k n Qr Qx c1 n1 pc L (.ref (ga γ 6 0) :: st) σ xs := r_get (j := 3) (N := 6) hd hq hf uin_X4 rfl (by decide) hv rfl rfl kk
theorem g_X4_refusalCount {i idx : Nat} (hd : decode M.2.1 pc = .ok (.getfield idx, 3)) (hq : pc + 3 = q) (hf : Cond.fieldLink M.1.cls idx (TX4 4).1 (TX4 4).2.1 (TX4 4).2.2.1 ∈ uw) (hv : gv γ 6 0) (kk : RW γ M d k n Qr Qx c1 n1 q L (.int (zI (rc σ)) :: st) σ xs) : RW γ M d k n Qr Qx c1 n1 pc L (.ref (ga γ 6 0) :: st) σ xs := r_get (j := 4) (N := 6) hd hq hf uin_X4 rfl (by decide) hv rfl rfl kk
theorem g_X4_refusedPlace {i idx : Nat} (hd : decode M.2.1 pc = .ok (.getfield idx, 3)) (hq : pc + 3 = q) (hf : Cond.fieldLink M.1.cls idx (TX4 5).1 (TX4 5).2.1 (TX4 5).2.2.1 ∈ uw) (hv : gv γ 6 0) (kk : RW γ M d k n Qr Qx c1 n1 q L (.int (zI (rp σ)) :: st) σ xs) : RW γ M d k n Qr Qx c1 n1 pc L (.ref (ga γ 6 0) :: st) σ xs := r_get (j := 5) (N := 6) hd hq hf uin_X4 rfl (by decide) hv rfl rfl kk
theorem uin_X5 : ∀ w ∈ u_ws RX5 TX5 15, w ∈ uw := fun w h => uw_i ((show ∀ w ∈ u_ws RX5 TX5 15, w ∈ lw_tbl ∧ goodWord w = true by decide +kernel) w h)
theorem g_X5_text {i idx : Nat} (hd : decode M.2.1 pc = .ok (.getfield idx, 3)) (hq : pc + 3 = q) (hf : Cond.fieldLink M.1.cls idx (TX5 0).1 (TX5 0).2.1 (TX5 0).2.2.1 ∈ uw) (hv : gv γ 8 0) (kk : RW γ M d k n Qr Qx c1 n1 q L (.ref (ga γ 9 0) :: st) σ xs) : RW γ M d k n Qr Qx c1 n1 pc L (.ref (ga γ 8 0) :: st) σ xs := r_get (j := 0) (N := 15) hd hq hf uin_X5 rfl (by decide) hv rfl rfl kk
theorem g_X5_size {i idx : Nat} (hd : decode M.2.1 pc = .ok (.getfield idx, 3)) (hq : pc + 3 = q) (hf : Cond.fieldLink M.1.cls idx (TX5 1).1 (TX5 1).2.1 (TX5 1).2.2.1 ∈ uw) (hv : gv γ 8 0) (kk : RW γ M d k n Qr Qx c1 n1 q L (.int (zI (msz σ)) :: st) σ xs) : RW γ M d k n Qr Qx c1 n1 pc L (.ref (ga γ 8 0) :: st) σ xs := r_get (j := 1) (N := 15) hd hq hf uin_X5 rfl (by decide) hv rfl rfl kk
theorem g_X5_pieces {i idx : Nat} (hd : decode M.2.1 pc = .ok (.getfield idx, 3)) (hq : pc + 3 = q) (hf : Cond.fieldLink M.1.cls idx (TX5 2).1 (TX5 2).2.1 (TX5 2).2.2.1 ∈ uw) (hv : gv γ 8 0) (kk : RW γ M d k n Qr Qx c1 n1 q L (.ref (ga γ 10 0) :: st) σ xs) : RW γ M d k n Qr Qx c1 n1 pc L (.ref (ga γ 8 0) :: st) σ xs := r_get (j := 2) (N := 15) hd hq hf uin_X5 rfl (by decide) hv rfl rfl kk
theorem g_X5_pieceMany {i idx : Nat} (hd : decode M.2.1 pc = .ok (.getfield idx, 3)) (hq : pc + 3 = q) (hf : Cond.fieldLink M.1.cls idx (TX5 3).1 (TX5 3).2.1 (TX5 3).2.2.1 ∈ uw) (hv : gv γ 8 0) (kk : RW γ M d k n Qr Qx c1 n1 q L (.int (zI (mpm σ)) :: st) σ xs) : RW γ M d k n Qr Qx c1 n1 pc L (.ref (ga γ 8 0) :: st) σ xs := r_get (j := 3) (N := 15) hd hq hf uin_X5 rfl (by decide) hv rfl rfl kk
theorem g_X5_signs {i idx : Nat} (hd : decode M.2.1 pc = .ok (.getfield idx, 3)) (hq : pc + 3 = q) (hf : Cond.fieldLink M.1.cls idx (TX5 4).1 (TX5 4).2.1 (TX5 4).2.2.1 ∈ uw) (hv : gv γ 8 0) (kk : RW γ M d k n Qr Qx c1 n1 q L (.ref (ga γ 11 0) :: st) σ xs) : RW γ M d k n Qr Qx c1 n1 pc L (.ref (ga γ 8 0) :: st) σ xs := r_get (j := 4) (N := 15) hd hq hf uin_X5 rfl (by decide) hv rfl rfl kk
theorem g_X5_long_ {i idx : Nat} (hd : decode M.2.1 pc = .ok (.getfield idx, 3)) (hq : pc + 3 = q) (hf : Cond.fieldLink M.1.cls idx (TX5 5).1 (TX5 5).2.1 (TX5 5).2.2.1 ∈ uw) (hv : gv γ 8 0) (kk : RW γ M d k n Qr Qx c1 n1 q L (.ref (ga γ 12 0) :: st) σ xs) : RW γ M d k n Qr Qx c1 n1 pc L (.ref (ga γ 8 0) :: st) σ xs := r_get (j := 5) (N := 15) hd hq hf uin_X5 rfl (by decide) hv rfl rfl kk
theorem g_X5_from {i idx : Nat} (hd : decode M.2.1 pc = .ok (.getfield idx, 3)) (hq : pc + 3 = q) (hf : Cond.fieldLink M.1.cls idx (TX5 6).1 (TX5 6).2.1 (TX5 6).2.2.1 ∈ uw) (hv : gv γ 8 0) (kk : RW γ M d k n Qr Qx c1 n1 q L (.ref (ga γ 13 0) :: st) σ xs) : RW γ M d k n Qr Qx c1 n1 pc L (.ref (ga γ 8 0) :: st) σ xs := r_get (j := 6) (N := 15) hd hq hf uin_X5 rfl (by decide) hv rfl rfl kk
theorem g_X5_to {i idx : Nat} (hd : decode M.2.1 pc = .ok (.getfield idx, 3)) (hq : pc + 3 = q) (hf : Cond.fieldLink M.1.cls idx (TX5 7).1 (TX5 7).2.1 (TX5 7).2.2.1 ∈ uw) (hv : gv γ 8 0) (kk : RW γ M d k n Qr Qx c1 n1 q L (.ref (ga γ 14 0) :: st) σ xs) : RW γ M d k n Qr Qx c1 n1 pc L (.ref (ga γ 8 0) :: st) σ xs := r_get (j := 7) (N := 15) hd hq hf uin_X5 rfl (by decide) hv rfl rfl kk
theorem g_X5_ports {i idx : Nat} (hd : decode M.2.1 pc = .ok (.getfield idx, 3)) (hq : pc + 3 = q) (hf : Cond.fieldLink M.1.cls idx (TX5 8).1 (TX5 8).2.1 (TX5 8).2.2.1 ∈ uw) (hv : gv γ 8 0) (kk : RW γ M d k n Qr Qx c1 n1 q L (.ref (ga γ 15 0) :: st) σ xs) : RW γ M d k n Qr Qx c1 n1 pc L (.ref (ga γ 8 0) :: st) σ xs := r_get (j := 8) (N := 15) hd hq hf uin_X5 rfl (by decide) hv rfl rfl kk
theorem g_X5_begin {i idx : Nat} (hd : decode M.2.1 pc = .ok (.getfield idx, 3)) (hq : pc + 3 = q) (hf : Cond.fieldLink M.1.cls idx (TX5 9).1 (TX5 9).2.1 (TX5 9).2.2.1 ∈ uw) (hv : gv γ 8 0) (kk : RW γ M d k n Qr Qx c1 n1 q L (.ref (ga γ 16 0) :: st) σ xs) : RW γ M d k n Qr Qx c1 n1 pc L (.ref (ga γ 8 0) :: st) σ xs := r_get (j := 9) (N := 15) hd hq hf uin_X5 rfl (by decide) hv rfl rfl kk
theorem g_X5_end {i idx : Nat} (hd : decode M.2.1 pc = .ok (.getfield idx, 3)) (hq : pc + 3 = q) (hf : Cond.fieldLink M.1.cls idx (TX5 10).1 (TX5 10).2.1 (TX5 10).2.2.1 ∈ uw) (hv : gv γ 8 0) (kk : RW γ M d k n Qr Qx c1 n1 q L (.ref (ga γ 17 0) :: st) σ xs) : RW γ M d k n Qr Qx c1 n1 pc L (.ref (ga γ 8 0) :: st) σ xs := r_get (j := 10) (N := 15) hd hq hf uin_X5 rfl (by decide) hv rfl rfl kk
theorem g_X5_port {i idx : Nat} (hd : decode M.2.1 pc = .ok (.getfield idx, 3)) (hq : pc + 3 = q) (hf : Cond.fieldLink M.1.cls idx (TX5 11).1 (TX5 11).2.1 (TX5 11).2.2.1 ∈ uw) (hv : gv γ 8 0) (kk : RW γ M d k n Qr Qx c1 n1 q L (.int (zI (mpt σ)) :: st) σ xs) : RW γ M d k n Qr Qx c1 n1 pc L (.ref (ga γ 8 0) :: st) σ xs := r_get (j := 11) (N := 15) hd hq hf uin_X5 rfl (by decide) hv rfl rfl kk
theorem g_X5_refused {i idx : Nat} (hd : decode M.2.1 pc = .ok (.getfield idx, 3)) (hq : pc + 3 = q) (hf : Cond.fieldLink M.1.cls idx (TX5 12).1 (TX5 12).2.1 (TX5 12).2.2.1 ∈ uw) (hv : gv γ 8 0) (kk : RW γ M d k n Qr Qx c1 n1 q L (.int (zI (mrf σ)) :: st) σ xs) : RW γ M d k n Qr Qx c1 n1 pc L (.ref (ga γ 8 0) :: st) σ xs := r_get (j := 12) (N := 15) hd hq hf uin_X5 rfl (by decide) hv rfl rfl kk
theorem g_X5_place {i idx : Nat} (hd : decode M.2.1 pc = .ok (.getfield idx, 3)) (hq : pc + 3 = q) (hf : Cond.fieldLink M.1.cls idx (TX5 13).1 (TX5 13).2.1 (TX5 13).2.2.1 ∈ uw) (hv : gv γ 8 0) (kk : RW γ M d k n Qr Qx c1 n1 q L (.int (zI (mpl σ)) :: st) σ xs) : RW γ M d k n Qr Qx c1 n1 pc L (.ref (ga γ 8 0) :: st) σ xs := r_get (j := 13) (N := 15) hd hq hf uin_X5 rfl (by decide) hv rfl rfl kk
theorem g_X5_code {i idx : Nat} (hd : decode M.2.1 pc = .ok (.getfield idx, 3)) (hq : pc + 3 = q) (hf : Cond.fieldLink M.1.cls idx (TX5 14).1 (TX5 14).2.1 (TX5 14).2.2.1 ∈ uw) (hv : gv γ 8 0) (kk : RW γ M d k n Qr Qx c1 n1 q L (.int (zI (mcd σ)) :: st) σ xs) : RW γ M d k n Qr Qx c1 n1 pc L (.ref (ga γ 8 0) :: st) σ xs := r_get (j := 14) (N := 15) hd hq hf uin_X5 rfl (by decide) hv rfl rfl kk
theorem p_X3_count {i idx : Nat} {w : Int} (hd : decode M.2.1 pc = .ok (.putfield idx, 3)) (hq : pc + 3 = q) (hf : Cond.fieldLink M.1.cls idx (TX3 1).1 (TX3 1).2.1 (TX3 1).2.2.1 ∈ uw) (hv : gv γ 0 i) (kk : RW γ M d k n Qr Qx c1 n1 q L st (sCnt σ (u1 (cnt σ) i w)) xs) : RW γ M d k n Qr Qx c1 n1 pc L (.int (zI w) :: .ref (ga γ 0 i) :: st) σ xs := by
  refine r_put (j := 1) (N := 2) (ty0 := tyX3) (ty := .int) hd hq hf uin_X3 tyX3_ok nmX3 rfl (by decide) rfl (by decide +kernel) (vp_nar_int _) rfl hv rfl (Nat.le_of_ble_eq_true rfl) ?_ ?_ kk
  · simp [ct, cnt, sCnt, u1]; try rfl
  · exact fun k' i' _ h => by
        unfold ct
        split <;> first | rfl | skip
        have hne : i' ≠ i := fun z => h ⟨rfl, z⟩
        simp [bg, cnt, en, hld, pt, sg, sCnt, u1, hne]
theorem p_X0_portNumber {i idx : Nat} {w : Int} (hd : decode M.2.1 pc = .ok (.putfield idx, 3)) (hq : pc + 3 = q) (hf : Cond.fieldLink M.1.cls idx (TX0 3).1 (TX0 3).2.1 (TX0 3).2.2.1 ∈ uw) (hv : gv γ 2 i) (kk : RW γ M d k n Qr Qx c1 n1 q L st (sPt σ (u1 (pt σ) i w)) xs) : RW γ M d k n Qr Qx c1 n1 pc L (.int (zI w) :: .ref (ga γ 2 i) :: st) σ xs := by
  refine r_put (j := 3) (N := 5) (ty0 := tyX0) (ty := .int) hd hq hf uin_X0 tyX0_ok nmX0 rfl (by decide) rfl (by decide +kernel) (vp_nar_int _) rfl hv rfl (Nat.le_of_ble_eq_true rfl) ?_ ?_ kk
  · simp [ct, pt, sPt, u1]; try rfl
  · exact fun k' i' _ h => by
        unfold ct
        split <;> first | rfl | skip
        have hne : i' ≠ i := fun z => h ⟨rfl, z⟩
        simp [bg, cnt, en, hld, pt, sg, sPt, u1, hne]
theorem p_X0_isHeld {i idx : Nat} {w : Bool} (hd : decode M.2.1 pc = .ok (.putfield idx, 3)) (hq : pc + 3 = q) (hf : Cond.fieldLink M.1.cls idx (TX0 4).1 (TX0 4).2.1 (TX0 4).2.2.1 ∈ uw) (hv : gv γ 2 i) (kk : RW γ M d k n Qr Qx c1 n1 q L st (sHd σ (u1 (hld σ) i w)) xs) : RW γ M d k n Qr Qx c1 n1 pc L (.int (zI (bI w)) :: .ref (ga γ 2 i) :: st) σ xs := by
  refine r_put (j := 4) (N := 5) (ty0 := tyX0) (ty := .boolean) hd hq hf uin_X0 tyX0_ok nmX0 rfl (by decide) rfl (by decide +kernel) (by cases w <;> rfl) (by cases w <;> rfl) hv rfl (Nat.le_of_ble_eq_true rfl) ?_ ?_ kk
  · simp [ct, hld, sHd, u1]; try rfl
  · exact fun k' i' _ h => by
        unfold ct
        split <;> first | rfl | skip
        have hne : i' ≠ i := fun z => h ⟨rfl, z⟩
        simp [bg, cnt, en, hld, pt, sg, sHd, u1, hne]
theorem p_X1_refused {i idx : Nat} {w : Int} (hd : decode M.2.1 pc = .ok (.putfield idx, 3)) (hq : pc + 3 = q) (hf : Cond.fieldLink M.1.cls idx (TX1 2).1 (TX1 2).2.1 (TX1 2).2.2.1 ∈ uw) (hv : gv γ 5 0) (kk : RW γ M d k n Qr Qx c1 n1 q L st (sRf σ w) xs) : RW γ M d k n Qr Qx c1 n1 pc L (.int (zI w) :: .ref (ga γ 5 0) :: st) σ xs := by
  refine r_put (j := 2) (N := 3) (ty0 := tyX1) (ty := .int) hd hq hf uin_X1 tyX1_ok nmX1 rfl (by decide) rfl (by decide +kernel) (vp_nar_int _) rfl hv rfl (Nat.le_of_ble_eq_true rfl) ?_ ?_ kk
  · rfl
  · exact fun k' i' h9 h => by
        unfold ct
        split <;> first | rfl | skip
        exact absurd ⟨rfl, by simpa [vK] using h9⟩ h
theorem p_X4_refusalCount {i idx : Nat} {w : Int} (hd : decode M.2.1 pc = .ok (.putfield idx, 3)) (hq : pc + 3 = q) (hf : Cond.fieldLink M.1.cls idx (TX4 4).1 (TX4 4).2.1 (TX4 4).2.2.1 ∈ uw) (hv : gv γ 6 0) (kk : RW γ M d k n Qr Qx c1 n1 q L st (sRc σ w) xs) : RW γ M d k n Qr Qx c1 n1 pc L (.int (zI w) :: .ref (ga γ 6 0) :: st) σ xs := by
  refine r_put (j := 4) (N := 6) (ty0 := tyX4) (ty := .int) hd hq hf uin_X4 tyX4_ok nmX4 rfl (by decide) rfl (by decide +kernel) (vp_nar_int _) rfl hv rfl (Nat.le_of_ble_eq_true rfl) ?_ ?_ kk
  · rfl
  · exact fun k' i' h9 h => by
        unfold ct
        split <;> first | rfl | skip
        exact absurd ⟨rfl, by simpa [vK] using h9⟩ h
theorem p_X4_refusedPlace {i idx : Nat} {w : Int} (hd : decode M.2.1 pc = .ok (.putfield idx, 3)) (hq : pc + 3 = q) (hf : Cond.fieldLink M.1.cls idx (TX4 5).1 (TX4 5).2.1 (TX4 5).2.2.1 ∈ uw) (hv : gv γ 6 0) (kk : RW γ M d k n Qr Qx c1 n1 q L st (sRp σ w) xs) : RW γ M d k n Qr Qx c1 n1 pc L (.int (zI w) :: .ref (ga γ 6 0) :: st) σ xs := by
  refine r_put (j := 5) (N := 6) (ty0 := tyX4) (ty := .int) hd hq hf uin_X4 tyX4_ok nmX4 rfl (by decide) rfl (by decide +kernel) (vp_nar_int _) rfl hv rfl (Nat.le_of_ble_eq_true rfl) ?_ ?_ kk
  · rfl
  · exact fun k' i' h9 h => by
        unfold ct
        split <;> first | rfl | skip
        exact absurd ⟨rfl, by simpa [vK] using h9⟩ h
theorem p_X5_size {i idx : Nat} {w : Int} (hd : decode M.2.1 pc = .ok (.putfield idx, 3)) (hq : pc + 3 = q) (hf : Cond.fieldLink M.1.cls idx (TX5 1).1 (TX5 1).2.1 (TX5 1).2.2.1 ∈ uw) (hv : gv γ 8 0) (kk : RW γ M d k n Qr Qx c1 n1 q L st (sMsz σ w) xs) : RW γ M d k n Qr Qx c1 n1 pc L (.int (zI w) :: .ref (ga γ 8 0) :: st) σ xs := by
  refine r_put (j := 1) (N := 15) (ty0 := tyX5) (ty := .int) hd hq hf uin_X5 tyX5_ok nmX5 rfl (by decide) rfl (by decide +kernel) (vp_nar_int _) rfl hv rfl (Nat.le_of_ble_eq_true rfl) ?_ ?_ kk
  · rfl
  · exact fun k' i' h9 h => by
        unfold ct
        split <;> first | rfl | skip
        exact absurd ⟨rfl, by simpa [vK] using h9⟩ h
theorem p_X5_pieceMany {i idx : Nat} {w : Int} (hd : decode M.2.1 pc = .ok (.putfield idx, 3)) (hq : pc + 3 = q) (hf : Cond.fieldLink M.1.cls idx (TX5 3).1 (TX5 3).2.1 (TX5 3).2.2.1 ∈ uw) (hv : gv γ 8 0) (kk : RW γ M d k n Qr Qx c1 n1 q L st (sMpm σ w) xs) : RW γ M d k n Qr Qx c1 n1 pc L (.int (zI w) :: .ref (ga γ 8 0) :: st) σ xs := by
  refine r_put (j := 3) (N := 15) (ty0 := tyX5) (ty := .int) hd hq hf uin_X5 tyX5_ok nmX5 rfl (by decide) rfl (by decide +kernel) (vp_nar_int _) rfl hv rfl (Nat.le_of_ble_eq_true rfl) ?_ ?_ kk
  · rfl
  · exact fun k' i' h9 h => by
        unfold ct
        split <;> first | rfl | skip
        exact absurd ⟨rfl, by simpa [vK] using h9⟩ h
theorem p_X5_port {i idx : Nat} {w : Int} (hd : decode M.2.1 pc = .ok (.putfield idx, 3)) (hq : pc + 3 = q) (hf : Cond.fieldLink M.1.cls idx (TX5 11).1 (TX5 11).2.1 (TX5 11).2.2.1 ∈ uw) (hv : gv γ 8 0) (kk : RW γ M d k n Qr Qx c1 n1 q L st (sMpt σ w) xs) : RW γ M d k n Qr Qx c1 n1 pc L (.int (zI w) :: .ref (ga γ 8 0) :: st) σ xs := by
  refine r_put (j := 11) (N := 15) (ty0 := tyX5) (ty := .int) hd hq hf uin_X5 tyX5_ok nmX5 rfl (by decide) rfl (by decide +kernel) (vp_nar_int _) rfl hv rfl (Nat.le_of_ble_eq_true rfl) ?_ ?_ kk
  · rfl
  · exact fun k' i' h9 h => by
        unfold ct
        split <;> first | rfl | skip
        exact absurd ⟨rfl, by simpa [vK] using h9⟩ h
theorem p_X5_refused {i idx : Nat} {w : Int} (hd : decode M.2.1 pc = .ok (.putfield idx, 3)) (hq : pc + 3 = q) (hf : Cond.fieldLink M.1.cls idx (TX5 12).1 (TX5 12).2.1 (TX5 12).2.2.1 ∈ uw) (hv : gv γ 8 0) (kk : RW γ M d k n Qr Qx c1 n1 q L st (sMrf σ w) xs) : RW γ M d k n Qr Qx c1 n1 pc L (.int (zI w) :: .ref (ga γ 8 0) :: st) σ xs := by
  refine r_put (j := 12) (N := 15) (ty0 := tyX5) (ty := .int) hd hq hf uin_X5 tyX5_ok nmX5 rfl (by decide) rfl (by decide +kernel) (vp_nar_int _) rfl hv rfl (Nat.le_of_ble_eq_true rfl) ?_ ?_ kk
  · rfl
  · exact fun k' i' h9 h => by
        unfold ct
        split <;> first | rfl | skip
        exact absurd ⟨rfl, by simpa [vK] using h9⟩ h
theorem p_X5_place {i idx : Nat} {w : Int} (hd : decode M.2.1 pc = .ok (.putfield idx, 3)) (hq : pc + 3 = q) (hf : Cond.fieldLink M.1.cls idx (TX5 13).1 (TX5 13).2.1 (TX5 13).2.2.1 ∈ uw) (hv : gv γ 8 0) (kk : RW γ M d k n Qr Qx c1 n1 q L st (sMpl σ w) xs) : RW γ M d k n Qr Qx c1 n1 pc L (.int (zI w) :: .ref (ga γ 8 0) :: st) σ xs := by
  refine r_put (j := 13) (N := 15) (ty0 := tyX5) (ty := .int) hd hq hf uin_X5 tyX5_ok nmX5 rfl (by decide) rfl (by decide +kernel) (vp_nar_int _) rfl hv rfl (Nat.le_of_ble_eq_true rfl) ?_ ?_ kk
  · rfl
  · exact fun k' i' h9 h => by
        unfold ct
        split <;> first | rfl | skip
        exact absurd ⟨rfl, by simpa [vK] using h9⟩ h
theorem p_X5_code {i idx : Nat} {w : Int} (hd : decode M.2.1 pc = .ok (.putfield idx, 3)) (hq : pc + 3 = q) (hf : Cond.fieldLink M.1.cls idx (TX5 14).1 (TX5 14).2.1 (TX5 14).2.2.1 ∈ uw) (hv : gv γ 8 0) (kk : RW γ M d k n Qr Qx c1 n1 q L st (sMcd σ w) xs) : RW γ M d k n Qr Qx c1 n1 pc L (.int (zI w) :: .ref (ga γ 8 0) :: st) σ xs := by
  refine r_put (j := 14) (N := 15) (ty0 := tyX5) (ty := .int) hd hq hf uin_X5 tyX5_ok nmX5 rfl (by decide) rfl (by decide +kernel) (vp_nar_int _) rfl hv rfl (Nat.le_of_ble_eq_true rfl) ?_ ?_ kk
  · rfl
  · exact fun k' i' h9 h => by
        unfold ct
        split <;> first | rfl | skip
        exact absurd ⟨rfl, by simpa [vK] using h9⟩ h
theorem l_bg {i : Nat} {z : Int} (hd : decode M.2.1 pc = .ok (.iaload, 1)) (hq : pc + 1 = q) (hv : gv γ 3 i) (hz : 0 ≤ z ∧ z < 9) (kk : RW γ M d k n Qr Qx c1 n1 q L (.int (zI (bg σ i z.toNat)) :: st) σ xs) : RW γ M d k n Qr Qx c1 n1 pc L (.int (zI z) :: .ref (ga γ 3 i) :: st) σ xs := r_iald (kd := 3) (N := 9) (f := fun j => zI (bg σ i j)) rfl hd hq hv (by omega) kk
theorem s_bg {i : Nat} {z w : Int} (hd : decode M.2.1 pc = .ok (.iastore, 1)) (hq : pc + 1 = q) (hv : gv γ 3 i) (hz : 0 ≤ z ∧ z < 9) (kk : RW γ M d k n Qr Qx c1 n1 q L st (sBg σ (u2 (bg σ) i z.toNat w)) xs) : RW γ M d k n Qr Qx c1 n1 pc L (.int (zI w) :: .int (zI z) :: .ref (ga γ 3 i) :: st) σ xs := by
  refine r_iast (kd := 3) (N := 9) (f := fun j => zI (bg σ i j)) (g := fun j => zI (u1 (bg σ i) z.toNat w j)) rfl (by simp [ct, bg, sBg, u2, u1_s]; try rfl) (fun q => ?_) ?_ hd hq hv (by omega) kk
  · by_cases hq : q = z.toNat
    · simp [u1, hq]
    · simp [u1, hq]
  · exact fun k' i' _ h => by
        unfold ct
        split <;> first | rfl | skip
        have hne : i' ≠ i := fun z => h ⟨rfl, z⟩
        simp [bg, en, sBg, u2, u1, hne]
theorem l_en {i : Nat} {z : Int} (hd : decode M.2.1 pc = .ok (.iaload, 1)) (hq : pc + 1 = q) (hv : gv γ 4 i) (hz : 0 ≤ z ∧ z < 9) (kk : RW γ M d k n Qr Qx c1 n1 q L (.int (zI (en σ i z.toNat)) :: st) σ xs) : RW γ M d k n Qr Qx c1 n1 pc L (.int (zI z) :: .ref (ga γ 4 i) :: st) σ xs := r_iald (kd := 4) (N := 9) (f := fun j => zI (en σ i j)) rfl hd hq hv (by omega) kk
theorem s_en {i : Nat} {z w : Int} (hd : decode M.2.1 pc = .ok (.iastore, 1)) (hq : pc + 1 = q) (hv : gv γ 4 i) (hz : 0 ≤ z ∧ z < 9) (kk : RW γ M d k n Qr Qx c1 n1 q L st (sEn σ (u2 (en σ) i z.toNat w)) xs) : RW γ M d k n Qr Qx c1 n1 pc L (.int (zI w) :: .int (zI z) :: .ref (ga γ 4 i) :: st) σ xs := by
  refine r_iast (kd := 4) (N := 9) (f := fun j => zI (en σ i j)) (g := fun j => zI (u1 (en σ i) z.toNat w j)) rfl (by simp [ct, en, sEn, u2, u1_s]; try rfl) (fun q => ?_) ?_ hd hq hv (by omega) kk
  · by_cases hq : q = z.toNat
    · simp [u1, hq]
    · simp [u1, hq]
  · exact fun k' i' _ h => by
        unfold ct
        split <;> first | rfl | skip
        have hne : i' ≠ i := fun z => h ⟨rfl, z⟩
        simp [bg, en, sEn, u2, u1, hne]
theorem l_mtx {i : Nat} {z : Int} (hd : decode M.2.1 pc = .ok (.iaload, 1)) (hq : pc + 1 = q) (hv : gv γ 9 0) (hz : 0 ≤ z ∧ z < 60) (kk : RW γ M d k n Qr Qx c1 n1 q L (.int (zI (mtx σ z.toNat)) :: st) σ xs) : RW γ M d k n Qr Qx c1 n1 pc L (.int (zI z) :: .ref (ga γ 9 0) :: st) σ xs := r_iald (kd := 9) (N := 60) (f := fun j => zI (mtx σ j)) rfl hd hq hv (by omega) kk
theorem s_mtx {i : Nat} {z w : Int} (hd : decode M.2.1 pc = .ok (.iastore, 1)) (hq : pc + 1 = q) (hv : gv γ 9 0) (hz : 0 ≤ z ∧ z < 60) (kk : RW γ M d k n Qr Qx c1 n1 q L st (sMtx σ (u1 (mtx σ) z.toNat w)) xs) : RW γ M d k n Qr Qx c1 n1 pc L (.int (zI w) :: .int (zI z) :: .ref (ga γ 9 0) :: st) σ xs := by
  refine r_iast (kd := 9) (N := 60) (f := fun j => zI (mtx σ j)) (g := fun j => zI (u1 (mtx σ) z.toNat w j)) rfl rfl (fun q => ?_) ?_ hd hq hv (by omega) kk
  · by_cases hq : q = z.toNat
    · simp [u1, hq]
    · simp [u1, hq]
  · exact fun k' i' h9 h => by
        unfold ct
        split <;> first | rfl | skip
        exact absurd ⟨rfl, by simpa [vK] using h9⟩ h
theorem l_mpc {i : Nat} {z : Int} (hd : decode M.2.1 pc = .ok (.iaload, 1)) (hq : pc + 1 = q) (hv : gv γ 10 0) (hz : 0 ≤ z ∧ z < 60) (kk : RW γ M d k n Qr Qx c1 n1 q L (.int (zI (mpc σ z.toNat)) :: st) σ xs) : RW γ M d k n Qr Qx c1 n1 pc L (.int (zI z) :: .ref (ga γ 10 0) :: st) σ xs := r_iald (kd := 10) (N := 60) (f := fun j => zI (mpc σ j)) rfl hd hq hv (by omega) kk
theorem s_mpc {i : Nat} {z w : Int} (hd : decode M.2.1 pc = .ok (.iastore, 1)) (hq : pc + 1 = q) (hv : gv γ 10 0) (hz : 0 ≤ z ∧ z < 60) (kk : RW γ M d k n Qr Qx c1 n1 q L st (sMpc σ (u1 (mpc σ) z.toNat w)) xs) : RW γ M d k n Qr Qx c1 n1 pc L (.int (zI w) :: .int (zI z) :: .ref (ga γ 10 0) :: st) σ xs := by
  refine r_iast (kd := 10) (N := 60) (f := fun j => zI (mpc σ j)) (g := fun j => zI (u1 (mpc σ) z.toNat w j)) rfl rfl (fun q => ?_) ?_ hd hq hv (by omega) kk
  · by_cases hq : q = z.toNat
    · simp [u1, hq]
    · simp [u1, hq]
  · exact fun k' i' h9 h => by
        unfold ct
        split <;> first | rfl | skip
        exact absurd ⟨rfl, by simpa [vK] using h9⟩ h
theorem l_msg {i : Nat} {z : Int} (hd : decode M.2.1 pc = .ok (.iaload, 1)) (hq : pc + 1 = q) (hv : gv γ 11 0) (hz : 0 ≤ z ∧ z < 240) (kk : RW γ M d k n Qr Qx c1 n1 q L (.int (zI (msg σ z.toNat)) :: st) σ xs) : RW γ M d k n Qr Qx c1 n1 pc L (.int (zI z) :: .ref (ga γ 11 0) :: st) σ xs := r_iald (kd := 11) (N := 240) (f := fun j => zI (msg σ j)) rfl hd hq hv (by omega) kk
theorem s_msg {i : Nat} {z w : Int} (hd : decode M.2.1 pc = .ok (.iastore, 1)) (hq : pc + 1 = q) (hv : gv γ 11 0) (hz : 0 ≤ z ∧ z < 240) (kk : RW γ M d k n Qr Qx c1 n1 q L st (sMsg σ (u1 (msg σ) z.toNat w)) xs) : RW γ M d k n Qr Qx c1 n1 pc L (.int (zI w) :: .int (zI z) :: .ref (ga γ 11 0) :: st) σ xs := by
  refine r_iast (kd := 11) (N := 240) (f := fun j => zI (msg σ j)) (g := fun j => zI (u1 (msg σ) z.toNat w j)) rfl rfl (fun q => ?_) ?_ hd hq hv (by omega) kk
  · by_cases hq : q = z.toNat
    · simp [u1, hq]
    · simp [u1, hq]
  · exact fun k' i' h9 h => by
        unfold ct
        split <;> first | rfl | skip
        exact absurd ⟨rfl, by simpa [vK] using h9⟩ h
theorem l_mlo {i : Nat} {z : Int} (hd : decode M.2.1 pc = .ok (.iaload, 1)) (hq : pc + 1 = q) (hv : gv γ 12 0) (hz : 0 ≤ z ∧ z < 4) (kk : RW γ M d k n Qr Qx c1 n1 q L (.int (zI (mlo σ z.toNat)) :: st) σ xs) : RW γ M d k n Qr Qx c1 n1 pc L (.int (zI z) :: .ref (ga γ 12 0) :: st) σ xs := r_iald (kd := 12) (N := 4) (f := fun j => zI (mlo σ j)) rfl hd hq hv (by omega) kk
theorem s_mlo {i : Nat} {z w : Int} (hd : decode M.2.1 pc = .ok (.iastore, 1)) (hq : pc + 1 = q) (hv : gv γ 12 0) (hz : 0 ≤ z ∧ z < 4) (kk : RW γ M d k n Qr Qx c1 n1 q L st (sMlo σ (u1 (mlo σ) z.toNat w)) xs) : RW γ M d k n Qr Qx c1 n1 pc L (.int (zI w) :: .int (zI z) :: .ref (ga γ 12 0) :: st) σ xs := by
  refine r_iast (kd := 12) (N := 4) (f := fun j => zI (mlo σ j)) (g := fun j => zI (u1 (mlo σ) z.toNat w j)) rfl rfl (fun q => ?_) ?_ hd hq hv (by omega) kk
  · by_cases hq : q = z.toNat
    · simp [u1, hq]
    · simp [u1, hq]
  · exact fun k' i' h9 h => by
        unfold ct
        split <;> first | rfl | skip
        exact absurd ⟨rfl, by simpa [vK] using h9⟩ h
theorem l_mfr {i : Nat} {z : Int} (hd : decode M.2.1 pc = .ok (.iaload, 1)) (hq : pc + 1 = q) (hv : gv γ 13 0) (hz : 0 ≤ z ∧ z < 36) (kk : RW γ M d k n Qr Qx c1 n1 q L (.int (zI (mfr σ z.toNat)) :: st) σ xs) : RW γ M d k n Qr Qx c1 n1 pc L (.int (zI z) :: .ref (ga γ 13 0) :: st) σ xs := r_iald (kd := 13) (N := 36) (f := fun j => zI (mfr σ j)) rfl hd hq hv (by omega) kk
theorem s_mfr {i : Nat} {z w : Int} (hd : decode M.2.1 pc = .ok (.iastore, 1)) (hq : pc + 1 = q) (hv : gv γ 13 0) (hz : 0 ≤ z ∧ z < 36) (kk : RW γ M d k n Qr Qx c1 n1 q L st (sMfr σ (u1 (mfr σ) z.toNat w)) xs) : RW γ M d k n Qr Qx c1 n1 pc L (.int (zI w) :: .int (zI z) :: .ref (ga γ 13 0) :: st) σ xs := by
  refine r_iast (kd := 13) (N := 36) (f := fun j => zI (mfr σ j)) (g := fun j => zI (u1 (mfr σ) z.toNat w j)) rfl rfl (fun q => ?_) ?_ hd hq hv (by omega) kk
  · by_cases hq : q = z.toNat
    · simp [u1, hq]
    · simp [u1, hq]
  · exact fun k' i' h9 h => by
        unfold ct
        split <;> first | rfl | skip
        exact absurd ⟨rfl, by simpa [vK] using h9⟩ h
theorem l_mto {i : Nat} {z : Int} (hd : decode M.2.1 pc = .ok (.iaload, 1)) (hq : pc + 1 = q) (hv : gv γ 14 0) (hz : 0 ≤ z ∧ z < 36) (kk : RW γ M d k n Qr Qx c1 n1 q L (.int (zI (mto σ z.toNat)) :: st) σ xs) : RW γ M d k n Qr Qx c1 n1 pc L (.int (zI z) :: .ref (ga γ 14 0) :: st) σ xs := r_iald (kd := 14) (N := 36) (f := fun j => zI (mto σ j)) rfl hd hq hv (by omega) kk
theorem s_mto {i : Nat} {z w : Int} (hd : decode M.2.1 pc = .ok (.iastore, 1)) (hq : pc + 1 = q) (hv : gv γ 14 0) (hz : 0 ≤ z ∧ z < 36) (kk : RW γ M d k n Qr Qx c1 n1 q L st (sMto σ (u1 (mto σ) z.toNat w)) xs) : RW γ M d k n Qr Qx c1 n1 pc L (.int (zI w) :: .int (zI z) :: .ref (ga γ 14 0) :: st) σ xs := by
  refine r_iast (kd := 14) (N := 36) (f := fun j => zI (mto σ j)) (g := fun j => zI (u1 (mto σ) z.toNat w j)) rfl rfl (fun q => ?_) ?_ hd hq hv (by omega) kk
  · by_cases hq : q = z.toNat
    · simp [u1, hq]
    · simp [u1, hq]
  · exact fun k' i' h9 h => by
        unfold ct
        split <;> first | rfl | skip
        exact absurd ⟨rfl, by simpa [vK] using h9⟩ h
theorem l_mpo {i : Nat} {z : Int} (hd : decode M.2.1 pc = .ok (.iaload, 1)) (hq : pc + 1 = q) (hv : gv γ 15 0) (hz : 0 ≤ z ∧ z < 4) (kk : RW γ M d k n Qr Qx c1 n1 q L (.int (zI (mpo σ z.toNat)) :: st) σ xs) : RW γ M d k n Qr Qx c1 n1 pc L (.int (zI z) :: .ref (ga γ 15 0) :: st) σ xs := r_iald (kd := 15) (N := 4) (f := fun j => zI (mpo σ j)) rfl hd hq hv (by omega) kk
theorem s_mpo {i : Nat} {z w : Int} (hd : decode M.2.1 pc = .ok (.iastore, 1)) (hq : pc + 1 = q) (hv : gv γ 15 0) (hz : 0 ≤ z ∧ z < 4) (kk : RW γ M d k n Qr Qx c1 n1 q L st (sMpo σ (u1 (mpo σ) z.toNat w)) xs) : RW γ M d k n Qr Qx c1 n1 pc L (.int (zI w) :: .int (zI z) :: .ref (ga γ 15 0) :: st) σ xs := by
  refine r_iast (kd := 15) (N := 4) (f := fun j => zI (mpo σ j)) (g := fun j => zI (u1 (mpo σ) z.toNat w j)) rfl rfl (fun q => ?_) ?_ hd hq hv (by omega) kk
  · by_cases hq : q = z.toNat
    · simp [u1, hq]
    · simp [u1, hq]
  · exact fun k' i' h9 h => by
        unfold ct
        split <;> first | rfl | skip
        exact absurd ⟨rfl, by simpa [vK] using h9⟩ h
theorem l_mbe {i : Nat} {z : Int} (hd : decode M.2.1 pc = .ok (.iaload, 1)) (hq : pc + 1 = q) (hv : gv γ 16 0) (hz : 0 ≤ z ∧ z < 9) (kk : RW γ M d k n Qr Qx c1 n1 q L (.int (zI (mbe σ z.toNat)) :: st) σ xs) : RW γ M d k n Qr Qx c1 n1 pc L (.int (zI z) :: .ref (ga γ 16 0) :: st) σ xs := r_iald (kd := 16) (N := 9) (f := fun j => zI (mbe σ j)) rfl hd hq hv (by omega) kk
theorem s_mbe {i : Nat} {z w : Int} (hd : decode M.2.1 pc = .ok (.iastore, 1)) (hq : pc + 1 = q) (hv : gv γ 16 0) (hz : 0 ≤ z ∧ z < 9) (kk : RW γ M d k n Qr Qx c1 n1 q L st (sMbe σ (u1 (mbe σ) z.toNat w)) xs) : RW γ M d k n Qr Qx c1 n1 pc L (.int (zI w) :: .int (zI z) :: .ref (ga γ 16 0) :: st) σ xs := by
  refine r_iast (kd := 16) (N := 9) (f := fun j => zI (mbe σ j)) (g := fun j => zI (u1 (mbe σ) z.toNat w j)) rfl rfl (fun q => ?_) ?_ hd hq hv (by omega) kk
  · by_cases hq : q = z.toNat
    · simp [u1, hq]
    · simp [u1, hq]
  · exact fun k' i' h9 h => by
        unfold ct
        split <;> first | rfl | skip
        exact absurd ⟨rfl, by simpa [vK] using h9⟩ h
theorem l_men {i : Nat} {z : Int} (hd : decode M.2.1 pc = .ok (.iaload, 1)) (hq : pc + 1 = q) (hv : gv γ 17 0) (hz : 0 ≤ z ∧ z < 9) (kk : RW γ M d k n Qr Qx c1 n1 q L (.int (zI (men σ z.toNat)) :: st) σ xs) : RW γ M d k n Qr Qx c1 n1 pc L (.int (zI z) :: .ref (ga γ 17 0) :: st) σ xs := r_iald (kd := 17) (N := 9) (f := fun j => zI (men σ j)) rfl hd hq hv (by omega) kk
theorem s_men {i : Nat} {z w : Int} (hd : decode M.2.1 pc = .ok (.iastore, 1)) (hq : pc + 1 = q) (hv : gv γ 17 0) (hz : 0 ≤ z ∧ z < 9) (kk : RW γ M d k n Qr Qx c1 n1 q L st (sMen σ (u1 (men σ) z.toNat w)) xs) : RW γ M d k n Qr Qx c1 n1 pc L (.int (zI w) :: .int (zI z) :: .ref (ga γ 17 0) :: st) σ xs := by
  refine r_iast (kd := 17) (N := 9) (f := fun j => zI (men σ j)) (g := fun j => zI (u1 (men σ) z.toNat w j)) rfl rfl (fun q => ?_) ?_ hd hq hv (by omega) kk
  · by_cases hq : q = z.toNat
    · simp [u1, hq]
    · simp [u1, hq]
  · exact fun k' i' h9 h => by
        unfold ct
        split <;> first | rfl | skip
        exact absurd ⟨rfl, by simpa [vK] using h9⟩ h
end HEAP
