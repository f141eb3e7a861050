/-! CELLS BESIDE THE WORLD: rows that make them, read them, write them -/
theorem Gok.cons {γ : Gm} {σ : St} {xs : va_W} {H : Heap} {e : va_E} (hG : Gok γ xs) (hC : Cl γ σ xs H) (hB : gB γ ≤ H.size) : Gok γ ((H.size, e) :: xs) := by
  obtain ⟨h1, h2, h3, h4, h5, h6⟩ := hG
  refine ⟨h1, h2, h3, ⟨fun i j p q hp hq he => ?_, fun k q hq => ?_⟩, fun k i hv q hq => ?_, h6⟩
  · cases i with
    | zero =>
      cases j with
      | zero => rfl
      | succ j =>
        cases hp
        exact absurd he (Nat.ne_of_gt (hC.2 j q hq).lt)
    | succ i =>
      cases j with
      | zero =>
        cases hq
        exact absurd he (Nat.ne_of_lt (hC.2 i p hp).lt)
      | succ j => rw [h4.1 i j p q hp hq he]
  · cases k with
    | zero => cases hq; exact hB
    | succ k => exact h4.2 k q hq
  · rcases List.mem_cons.mp hq with rfl | hq
    · exact Nat.ne_of_gt (hC.1 k i hv).lt
    · exact h5 k i hv q hq
theorem Cl.cons {γ : Gm} {σ : St} {xs : va_W} {H H1 : Heap} {e : va_E} (hC : Cl γ σ xs H) (o1 : ∀ q, q < H.size → H1[q]? = H[q]?) (h1 : va_at (gD γ) vwCl (H.size, e) H1) : Cl γ σ ((H.size, e) :: xs) H1 := by
  refine ⟨(hC.kept o1).1, fun k q hq => ?_⟩
  cases k with
  | zero => cases hq; exact h1
  | succ k => exact (hC.kept o1).2 k q hq
theorem Cl.xset {γ : Gm} {σ : St} {xs : va_W} {H H1 : Heap} {ix a : Nat} {e e' : va_E} (hC : Cl γ σ xs H) (hG : Gok γ xs) (hx : xs[ix]? = some (a, e)) (h1 : va_at (gD γ) vwCl (a, e') H1) (o1 : ∀ q, q ≠ a → H1[q]? = H[q]?) : Cl γ σ (xs.set ix (a, e')) H1 := by
  refine ⟨fun k i hv => (hC.1 k i hv).kept (o1 _ (fun z => hG.2.2.2.2.1 k i hv (a, e) (List.mem_of_getElem? hx) z.symm)), fun k q hq => ?_⟩
  by_cases hk : k = ix
  · subst hk
    have hl := (List.getElem?_eq_some_iff.mp hx).1
    rw [List.getElem?_set_self hl] at hq
    cases hq
    exact h1
  · rw [List.getElem?_set_ne (fun z => hk z.symm)] at hq
    exact (hC.2 k q hq).kept (o1 _ (fun z => hk (hG.2.2.2.1.1 k ix q (a, e) hq hx z)))
theorem Gok.xset {γ : Gm} {xs : va_W} {ix a : Nat} {e e' : va_E} (hG : Gok γ xs) (hx : xs[ix]? = some (a, e)) : Gok γ (xs.set ix (a, e')) := by
  obtain ⟨h1, h2, h3, h4, h5, h6⟩ := hG
  have hl := (List.getElem?_eq_some_iff.mp hx).1
  have key : ∀ (k : Nat) (q : Nat × va_E), (xs.set ix (a, e'))[k]? = some q → ∃ q' : Nat × va_E, xs[k]? = some q' ∧ q'.1 = q.1 := by
    intro k q hq
    by_cases hk : k = ix
    · subst hk
      rw [List.getElem?_set_self hl] at hq
      cases hq
      exact ⟨_, hx, rfl⟩
    · rw [List.getElem?_set_ne (fun z => hk z.symm)] at hq
      exact ⟨q, hq, rfl⟩
  refine ⟨h1, h2, h3, ⟨fun i j p q hp hq he => ?_, fun k q hq => ?_⟩, fun k i hv q hq => ?_, h6⟩
  · obtain ⟨p', a1, a2⟩ := key i p hp
    obtain ⟨q', b1, b2⟩ := key j q hq
    exact h4.1 i j p' q' a1 b1 (by rw [a2, b2]; exact he)
  · obtain ⟨q', b1, b2⟩ := key k q hq
    rw [← b2]
    exact h4.2 k q' b1
  · obtain ⟨j, hj⟩ := List.getElem?_of_mem hq
    obtain ⟨q', b1, b2⟩ := key j q hj
    rw [← b2]
    exact h5 k i hv q' (List.mem_of_getElem? b1)
theorem va_S.zcons {A : Nat → Prop} {H0 H H1 : Heap} {locs : List Loc} (h : va_S A H0 H locs) (z1 : H1.size = H.size + 1) (o1 : ∀ q, q < H.size → H1[q]? = H[q]?) : va_S A H0 H1 locs :=
  ⟨Nat.le_trans h.1 (by omega), fun x a1 a2 => (o1 x (Nat.lt_of_lt_of_le a1 h.1)).trans (h.2.1 x a1 a2), h.2.2⟩
theorem Gok.tail {γ : Gm} {e : Nat × va_E} {xs : va_W} (hG : Gok γ (e :: xs)) : Gok γ xs :=
  ⟨hG.1, hG.2.1, hG.2.2.1, ⟨fun i j p q hp hq he => Nat.succ.inj (hG.2.2.2.1.1 (i + 1) (j + 1) p q hp hq he), fun k q hq => hG.2.2.2.1.2 (k + 1) q hq⟩, fun k i hv q hq => hG.2.2.2.2.1 k i hv q (List.mem_cons_of_mem _ hq), hG.2.2.2.2.2⟩
theorem Cl.tail {γ : Gm} {σ : St} {e : Nat × va_E} {xs : va_W} {H : Heap} (hC : Cl γ σ (e :: xs) H) : Cl γ σ xs H := ⟨hC.1, fun k q hq => hC.2 (k + 1) q hq⟩
/-- an array of ints at a, whatever else the heap holds -/
def Rd (γ : Gm) (σ : St) (xs : va_W) (a N : Nat) (f : Nat → Int) : Prop := ∀ H, Cl γ σ xs H → va_at (gD γ) vwCl (a, .inl (gc γ 1, (N, .inl (fun j => zI (f j))))) H
theorem Rd.mem {γ : Gm} {σ : St} {xs : va_W} {a N : Nat} {f : Nat → Int} (h : (a, .inl (gc γ 1, (N, .inl (fun j => zI (f j))))) ∈ xs) : Rd γ σ xs a N f := fun H hC => by
  obtain ⟨k, hk⟩ := List.getElem?_of_mem h
  exact hC.2 k _ hk
theorem Rd.sg (γ : Gm) (σ : St) (xs : va_W) (hv : gv γ 11 0) : Rd γ σ xs (ga γ 11 0) 240 (msg σ) := fun H hC => hC.1 11 0 hv
section XS
variable {γ : Gm} {M : Md} {d k n : Nat} {Qr : Option Value → St → va_W → Prop} {Qx : String → St → va_W → Prop} {c1 n1 pc q : Nat} {L : List (Option Value)} {st : List Value} {σ : St} {xs : va_W}
/-- what lies beside is forgotten -/
theorem RW.dropx {e : Nat × va_E} (kk : RW γ M d k n Qr Qx c1 n1 pc L st σ xs) : RW γ M d k n Qr Qx c1 n1 pc L st σ (e :: xs) := by
  intro p e s m args below meth c H locs ls C hS hC hG hl
  exact kk p e s m args below meth c H locs ls C hS hC.tail hG.tail hl
theorem r_newA {ty : FieldType} {atype : ArrayType} {t0 N : Nat} {z : Int} {x : vp_A} (hty : newarray.typeOf atype = ty) (ht : (tysG γ)[t0]? = some (gc γ t0, ty)) (hRA : ∀ (U : State) (cA : ClassId), va_RA U cA ty = (U.vm.findClass ("[" ++ ty.toString) = some cA)) (hx : ∀ cA : ClassId, vp_cell cA x = arrV cA N (fun _ => defaultValue ty)) (hd : decode M.2.1 pc = .ok (.newarray atype, 2)) (hq : pc + 2 = q) (hz : z = (N : Int)) (hN : N ≤ 1000) (hb8 : componentBytes ty ≤ 8) (hw : Cond.arrayClass ty ∈ uw) (hk : c1 + 1 ≤ k) (hn : n1 + N ≤ n)
    (kk : ∀ a, RW γ M d k n Qr Qx (c1 + 1) (n1 + N) q L (.ref a :: st) σ ((a, .inl (gc γ t0, x)) :: xs)) : RW γ M d k n Qr Qx c1 n1 pc L (.int (zI z) :: st) σ xs := by
  subst hq hty hz
  intro p e s m args below meth c H locs ls C hS hC hG hl
  have hK := C.2.2.2.2.2.2.2.1.2 t0 _ ht
  refine va_newaK (atype := atype) C.1 C.2.1 (C.2.2.2.2.2.1 _ hw) rfl hd rfl ?_ (by rw [zI_clamp (by omega)]; exact Int.toNat_natCast N) ?_ hk hn rfl fun H1 cA e1 z1 o1 hAr hNm => ?_
  · rw [zI_0, zI_lt (by omega) (by omega)]
    omega
  · have : N * componentBytes (newarray.typeOf atype) ≤ 1000 * 8 := Nat.mul_le_mul hN hb8
    omega
  · have hf := hK.2
    rw [hRA] at hf
    have hc : cA = gc γ t0 := Option.some.inj (hNm.symm.trans hf)
    subst hc
    exact kk H.size p e s m args below meth c H1 locs ls C (hS.zcons z1 o1) (hC.cons o1 (by show H1[H.size]? = some (vp_cell _ _); rw [hx]; exact e1)) (hG.cons hC (Nat.le_trans C.2.2.2.2.2.2.2.2.2.1 hS.1)) hl
theorem r_newI {N : Nat} {z : Int} (hd : decode M.2.1 pc = .ok (.newarray .int, 2)) (hq : pc + 2 = q) (hz : z = (N : Int)) (hN : N ≤ 1000) (hw : Cond.arrayClass .int ∈ uw) (hk : c1 + 1 ≤ k) (hn : n1 + N ≤ n)
    (kk : ∀ a, RW γ M d k n Qr Qx (c1 + 1) (n1 + N) q L (.ref a :: st) σ ((a, .inl (gc γ 1, (N, .inl (fun _ => zI 0)))) :: xs)) : RW γ M d k n Qr Qx c1 n1 pc L (.int (zI z) :: st) σ xs :=
  r_newA (t0 := 1) (ty := .int) rfl rfl (fun _ _ => rfl) (fun _ => rfl) hd hq hz hN (by decide) hw hk hn kk
theorem r_newC {N : Nat} {z : Int} (hd : decode M.2.1 pc = .ok (.newarray .char, 2)) (hq : pc + 2 = q) (hz : z = (N : Int)) (hN : N ≤ 1000) (hw : Cond.arrayClass .char ∈ uw) (hk : c1 + 1 ≤ k) (hn : n1 + N ≤ n)
    (kk : ∀ a, RW γ M d k n Qr Qx (c1 + 1) (n1 + N) q L (.ref a :: st) σ ((a, .inl (gc γ 0, (N, .inl (fun _ => zI 0)))) :: xs)) : RW γ M d k n Qr Qx c1 n1 pc L (.int (zI z) :: st) σ xs :=
  r_newA (t0 := 0) (ty := .char) rfl rfl (fun _ _ => rfl) (fun _ => rfl) hd hq hz hN (by decide) hw hk hn kk
theorem r_newL {N : Nat} {z : Int} (hd : decode M.2.1 pc = .ok (.newarray .long, 2)) (hq : pc + 2 = q) (hz : z = (N : Int)) (hN : N ≤ 1000) (hw : Cond.arrayClass .long ∈ uw) (hk : c1 + 1 ≤ k) (hn : n1 + N ≤ n)
    (kk : ∀ a, RW γ M d k n Qr Qx (c1 + 1) (n1 + N) q L (.ref a :: st) σ ((a, .inl (gc γ 2, (N, .inr (.inl (fun _ => zL 0))))) :: xs)) : RW γ M d k n Qr Qx c1 n1 pc L (.int (zI z) :: st) σ xs :=
  r_newA (t0 := 2) (ty := .long) rfl rfl (fun _ _ => rfl) (fun _ => rfl) hd hq hz hN (by decide) hw hk hn kk
theorem r_rd {a N : Nat} {f : Nat → Int} {z : Int} (hR : Rd γ σ xs a N f) (hd : decode M.2.1 pc = .ok (.iaload, 1)) (hq : pc + 1 = q) (hz : 0 ≤ z ∧ z < (N : Int) ∧ z ≤ 2147483647) (kk : RW γ M d k n Qr Qx c1 n1 q L (.int (zI (f z.toNat)) :: st) σ xs) : RW γ M d k n Qr Qx c1 n1 pc L (.int (zI z) :: .ref a :: st) σ xs := by
  subst hq
  intro p e s m args below meth c H locs ls C0 hS hC hG hl
  have hP : va_P (gD γ) vwCl [(a, .inl (gc γ 1, (N, .inl (fun j => zI (f j)))))] H := fun k x hx => by
    have hk : k = 0 := by
      have := (List.getElem?_eq_some_iff.mp hx).1
      simp at this
      exact this
    subst hk
    cases hx
    exact hR H hC
  refine va_iald C0.1 C0.2.1 C0.2.2.2.2.2.2.2.1 hP 0 1 rfl rfl (zI_in hz.1 hz.2.1 hz.2.2) hd ?_
  rw [zI_clamp ⟨hz.1, hz.2.2⟩]
  exact kk p e s m args below meth c H locs ls C0 hS hC hG hl
theorem r_xist {ix a N : Nat} {f : Nat → Int} {z w : Int} (hx : xs[ix]? = some (a, .inl (gc γ 1, (N, .inl (fun j => zI (f j)))))) (hd : decode M.2.1 pc = .ok (.iastore, 1)) (hq : pc + 1 = q) (hz : 0 ≤ z ∧ z < (N : Int) ∧ z ≤ 2147483647) (kk : RW γ M d k n Qr Qx c1 n1 q L st σ (xs.set ix (a, .inl (gc γ 1, (N, .inl (fun j => zI (u1 f z.toNat w j))))))) : RW γ M d k n Qr Qx c1 n1 pc L (.int (zI w) :: .int (zI z) :: .ref a :: st) σ xs := by
  subst hq
  intro p e s m args below meth c H locs ls C0 hS hC hG hl
  refine z_iast C0.1 C0.2.1 (hC.2 ix _ hx) (C0.2.2.2.2.2.2.2.1.2 1 _ rfl).1 (zI_in hz.1 hz.2.1 hz.2.2) (g := fun j => zI (u1 f z.toNat w j)) (fun q => ?_) hd (fun H1 w' a1 z1 o1 => ?_)
  · rw [zI_clamp ⟨hz.1, hz.2.2⟩]
    unfold u1
    split <;> rfl
  · exact kk p e s m args below meth c H1 _ ls C0 (hS.zput z1 o1 (hG.2.2.2.1.2 ix _ hx)) (hC.xset hG hx a1 o1) (hG.xset hx) hl
end XS
