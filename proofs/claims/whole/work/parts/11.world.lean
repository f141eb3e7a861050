/-! THE WORLD: typed state, cells, contracts -/
-- the class: text sizes, text signs, begins, ends, ports, held, refused, refusalCount, refusedPlace
abbrev SX : Type := (Nat → Int) × (Nat → Nat → Int) × (Nat → Nat → Int) × (Nat → Nat → Int) × (Nat → Int) × (Nat → Bool) × Int × Int × Int
-- the model: text, size, pieces, pieceMany, signs, long_, from, to, ports, begin, end, port, refused, place, code
abbrev SY : Type := (Nat → Int) × Int × (Nat → Int) × Int × (Nat → Int) × (Nat → Int) × (Nat → Int) × (Nat → Int) × (Nat → Int) × (Nat → Int) × (Nat → Int) × Int × Int × Int × Int
abbrev St : Type := SX × SY × Int
def cnt (σ : St) : Nat → Int := σ.1.1
def sg (σ : St) : Nat → Nat → Int := σ.1.2.1
def bg (σ : St) : Nat → Nat → Int := σ.1.2.2.1
def en (σ : St) : Nat → Nat → Int := σ.1.2.2.2.1
def pt (σ : St) : Nat → Int := σ.1.2.2.2.2.1
def hld (σ : St) : Nat → Bool := σ.1.2.2.2.2.2.1
def rf (σ : St) : Int := σ.1.2.2.2.2.2.2.1
def rc (σ : St) : Int := σ.1.2.2.2.2.2.2.2.1
def rp (σ : St) : Int := σ.1.2.2.2.2.2.2.2.2
def mtx (σ : St) : Nat → Int := σ.2.1.1
def msz (σ : St) : Int := σ.2.1.2.1
def mpc (σ : St) : Nat → Int := σ.2.1.2.2.1
def mpm (σ : St) : Int := σ.2.1.2.2.2.1
def msg (σ : St) : Nat → Int := σ.2.1.2.2.2.2.1
def mlo (σ : St) : Nat → Int := σ.2.1.2.2.2.2.2.1
def mfr (σ : St) : Nat → Int := σ.2.1.2.2.2.2.2.2.1
def mto (σ : St) : Nat → Int := σ.2.1.2.2.2.2.2.2.2.1
def mpo (σ : St) : Nat → Int := σ.2.1.2.2.2.2.2.2.2.2.1
def mbe (σ : St) : Nat → Int := σ.2.1.2.2.2.2.2.2.2.2.2.1
def men (σ : St) : Nat → Int := σ.2.1.2.2.2.2.2.2.2.2.2.2.1
def mpt (σ : St) : Int := σ.2.1.2.2.2.2.2.2.2.2.2.2.2.1
def mrf (σ : St) : Int := σ.2.1.2.2.2.2.2.2.2.2.2.2.2.2.1
def mpl (σ : St) : Int := σ.2.1.2.2.2.2.2.2.2.2.2.2.2.2.2.1
def mcd (σ : St) : Int := σ.2.1.2.2.2.2.2.2.2.2.2.2.2.2.2.2
def ov (σ : St) : Int := σ.2.2
def mk (c : Nat → Int) (g : Nat → Nat → Int) (b e : Nat → Nat → Int) (p : Nat → Int) (h : Nat → Bool) (r q w : Int) (y : SY) (o : Int) : St := ((c, g, b, e, p, h, r, q, w), y, o)
def sCnt (σ : St) (v : Nat → Int) : St := ((v, σ.1.2), σ.2)
def sSg (σ : St) (v : Nat → Nat → Int) : St := ((cnt σ, v, σ.1.2.2), σ.2)
def sBg (σ : St) (v : Nat → Nat → Int) : St := ((cnt σ, sg σ, v, σ.1.2.2.2), σ.2)
def sEn (σ : St) (v : Nat → Nat → Int) : St := ((cnt σ, sg σ, bg σ, v, σ.1.2.2.2.2), σ.2)
def sPt (σ : St) (v : Nat → Int) : St := ((cnt σ, sg σ, bg σ, en σ, v, σ.1.2.2.2.2.2), σ.2)
def sHd (σ : St) (v : Nat → Bool) : St := ((cnt σ, sg σ, bg σ, en σ, pt σ, v, σ.1.2.2.2.2.2.2), σ.2)
def sRf (σ : St) (v : Int) : St := ((cnt σ, sg σ, bg σ, en σ, pt σ, hld σ, v, rc σ, rp σ), σ.2)
def sRc (σ : St) (v : Int) : St := ((cnt σ, sg σ, bg σ, en σ, pt σ, hld σ, rf σ, v, rp σ), σ.2)
def sRp (σ : St) (v : Int) : St := ((cnt σ, sg σ, bg σ, en σ, pt σ, hld σ, rf σ, rc σ, v), σ.2)
def sMtx (σ : St) (v : Nat → Int) : St := (σ.1, (v, σ.2.1.2), σ.2.2)
def sMsz (σ : St) (v : Int) : St := (σ.1, (mtx σ, v, σ.2.1.2.2), σ.2.2)
def sMpc (σ : St) (v : Nat → Int) : St := (σ.1, (mtx σ, msz σ, v, σ.2.1.2.2.2), σ.2.2)
def sMpm (σ : St) (v : Int) : St := (σ.1, (mtx σ, msz σ, mpc σ, v, σ.2.1.2.2.2.2), σ.2.2)
def sMsg (σ : St) (v : Nat → Int) : St := (σ.1, (mtx σ, msz σ, mpc σ, mpm σ, v, σ.2.1.2.2.2.2.2), σ.2.2)
def sMlo (σ : St) (v : Nat → Int) : St := (σ.1, (mtx σ, msz σ, mpc σ, mpm σ, msg σ, v, σ.2.1.2.2.2.2.2.2), σ.2.2)
def sMfr (σ : St) (v : Nat → Int) : St := (σ.1, (mtx σ, msz σ, mpc σ, mpm σ, msg σ, mlo σ, v, σ.2.1.2.2.2.2.2.2.2), σ.2.2)
def sMto (σ : St) (v : Nat → Int) : St := (σ.1, (mtx σ, msz σ, mpc σ, mpm σ, msg σ, mlo σ, mfr σ, v, σ.2.1.2.2.2.2.2.2.2.2), σ.2.2)
def sMpo (σ : St) (v : Nat → Int) : St := (σ.1, (mtx σ, msz σ, mpc σ, mpm σ, msg σ, mlo σ, mfr σ, mto σ, v, σ.2.1.2.2.2.2.2.2.2.2.2), σ.2.2)
def sMbe (σ : St) (v : Nat → Int) : St := (σ.1, (mtx σ, msz σ, mpc σ, mpm σ, msg σ, mlo σ, mfr σ, mto σ, mpo σ, v, σ.2.1.2.2.2.2.2.2.2.2.2.2), σ.2.2)
def sMen (σ : St) (v : Nat → Int) : St := (σ.1, (mtx σ, msz σ, mpc σ, mpm σ, msg σ, mlo σ, mfr σ, mto σ, mpo σ, mbe σ, v, σ.2.1.2.2.2.2.2.2.2.2.2.2.2), σ.2.2)
def sMpt (σ : St) (v : Int) : St := (σ.1, (mtx σ, msz σ, mpc σ, mpm σ, msg σ, mlo σ, mfr σ, mto σ, mpo σ, mbe σ, men σ, v, mrf σ, mpl σ, mcd σ), σ.2.2)
def sMrf (σ : St) (v : Int) : St := (σ.1, (mtx σ, msz σ, mpc σ, mpm σ, msg σ, mlo σ, mfr σ, mto σ, mpo σ, mbe σ, men σ, mpt σ, v, mpl σ, mcd σ), σ.2.2)
def sMpl (σ : St) (v : Int) : St := (σ.1, (mtx σ, msz σ, mpc σ, mpm σ, msg σ, mlo σ, mfr σ, mto σ, mpo σ, mbe σ, men σ, mpt σ, mrf σ, v, mcd σ), σ.2.2)
def sMcd (σ : St) (v : Int) : St := (σ.1, (mtx σ, msz σ, mpc σ, mpm σ, msg σ, mlo σ, mfr σ, mto σ, mpo σ, mbe σ, men σ, mpt σ, mrf σ, mpl σ, v), σ.2.2)
def sOv (σ : St) (v : Int) : St := (σ.1, σ.2.1, v)
/-- a row of ints with one place changed -/
def u1 {α : Type} (f : Nat → α) (k : Nat) (v : α) : Nat → α := fun j => if j = k then v else f j
theorem u1_s {α : Type} (f : Nat → α) (k : Nat) (v : α) : u1 f k v k = v := if_pos rfl
theorem u1_n {α : Type} (f : Nat → α) {k j : Nat} (v : α) (h : j ≠ k) : u1 f k v j = f j := if_neg h
def u2 {α : Type} (f : Nat → Nat → α) (i k : Nat) (v : α) : Nat → Nat → α := u1 f i (u1 (f i) k v)
-- the frame of reference: launch, base, classes, array classes, addresses, which cells live, the addresses of texts and of their rows
abbrev Gm : Type := Launch × Nat × va_G × (Nat → ClassId) × (Nat → Nat → Nat) × (Nat → Nat → Prop) × (Nat → Nat) × (Nat → Nat)
def gl (γ : Gm) : Launch := γ.1
def gB (γ : Gm) : Nat := γ.2.1
def gD (γ : Gm) : va_G := γ.2.2.1
def gc (γ : Gm) : Nat → ClassId := γ.2.2.2.1
def ga (γ : Gm) : Nat → Nat → Nat := γ.2.2.2.2.1
def gv (γ : Gm) : Nat → Nat → Prop := γ.2.2.2.2.2.1
def gK (γ : Gm) : Nat → Nat := γ.2.2.2.2.2.2.1
def gV (γ : Gm) : Nat → Nat := γ.2.2.2.2.2.2.2
def fr (γ : Gm) : Nat → Prop := fun q => gB γ ≤ q
abbrev ct (γ : Gm) (σ : St) (k i : Nat) : va_E := match k with
  | 0 => .inr (2, [.ref (ga γ 1 i), .int (zI (cnt σ i))])
  | 1 => .inl (gc γ 0, (128, .inl (fun j => zI (sg σ i j % 65536))))
  | 2 => .inr (0, [.ref (ga γ 0 i), .ref (ga γ 3 i), .ref (ga γ 4 i), .int (zI (pt σ i)), .int (zI (bI (hld σ i)))])
  | 3 => .inl (gc γ 1, (9, .inl (fun j => zI (bg σ i j))))
  | 4 => .inl (gc γ 1, (9, .inl (fun j => zI (en σ i j))))
  | 5 => .inr (1, [.ref (ga γ 2 4), .ref (ga γ 0 4), .int (zI (rf σ))])
  | 6 => .inr (3, [.ref (ga γ 0 5), .ref (ga γ 7 0), .ref (ga γ 5 0), .ref (ga γ 0 6), .int (zI (rc σ)), .int (zI (rp σ))])
  | 7 => .inl (gc γ 3, (4, .inr (.inr (.inr (.inr (fun j => some (ga γ 2 j)))))))
  | 8 => .inr (4, [.ref (ga γ 9 0), .int (zI (msz σ)), .ref (ga γ 10 0), .int (zI (mpm σ)), .ref (ga γ 11 0), .ref (ga γ 12 0), .ref (ga γ 13 0), .ref (ga γ 14 0), .ref (ga γ 15 0), .ref (ga γ 16 0), .ref (ga γ 17 0), .int (zI (mpt σ)), .int (zI (mrf σ)), .int (zI (mpl σ)), .int (zI (mcd σ))])
  | 9 => .inl (gc γ 1, (60, .inl (fun j => zI (mtx σ j))))
  | 10 => .inl (gc γ 1, (60, .inl (fun j => zI (mpc σ j))))
  | 11 => .inl (gc γ 1, (240, .inl (fun j => zI (msg σ j))))
  | 12 => .inl (gc γ 1, (4, .inl (fun j => zI (mlo σ j))))
  | 13 => .inl (gc γ 1, (36, .inl (fun j => zI (mfr σ j))))
  | 14 => .inl (gc γ 1, (36, .inl (fun j => zI (mto σ j))))
  | 15 => .inl (gc γ 1, (4, .inl (fun j => zI (mpo σ j))))
  | 16 => .inl (gc γ 1, (9, .inl (fun j => zI (mbe σ j))))
  | 17 => .inl (gc γ 1, (9, .inl (fun j => zI (men σ j))))
  | 18 => .inl (gc γ 2, (1, .inr (.inl (fun _ => zL (ov σ)))))
  | _ => .inl (gc γ 2, (0, .inr (.inl (fun _ => 0))))
/-- which cells there are in all: vK k i -/
def vK (k i : Nat) : Bool := match k with
  | 0 => decide (i < 7)
  | 1 => decide (i < 7)
  | 2 => decide (i < 5)
  | 3 => decide (i < 5)
  | 4 => decide (i < 5)
  | _ => decide (k < 19) && decide (i = 0)
def tysG (γ : Gm) : List (ClassId × FieldType) := [(gc γ 0, .char), (gc γ 1, .int), (gc γ 2, .long), (gc γ 3, .object "Linkloom$Address")]
def Cl (γ : Gm) (σ : St) (xs : va_W) (H : Heap) : Prop := (∀ k i, gv γ k i → va_at (gD γ) vwCl (ga γ k i, ct γ σ k i) H) ∧ va_P (gD γ) vwCl xs H
def Gok (γ : Gm) (xs : va_W) : Prop := (gl γ).stackTraces = false ∧ (∀ k i k' i', gv γ k i → gv γ k' i' → ga γ k i = ga γ k' i' → k = k' ∧ i = i') ∧ (∀ k i, gv γ k i → gB γ ≤ ga γ k i) ∧ va_D (fr γ) xs ∧ (∀ k i, gv γ k i → ∀ q, q ∈ xs → q.1 ≠ ga γ k i) ∧ ∀ k i, gv γ k i → vK k i = true
