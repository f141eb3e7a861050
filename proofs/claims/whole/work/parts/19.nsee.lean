/-! throw new NoSuchElementException(".."): its constructor's link stands at another place than the library's row has it -/
section NSEE
variable {γ : Gm} {M : Md} {d k n : Nat} {Qr : Option Value → St → va_W → Prop} {Qx : String → St → va_W → Prop} {c1 n1 pc q : Nat} {L : List (Option Value)} {st : List Value} {σ : St} {xs : va_W}
theorem r_throwN {ik is i : Nat} {tx : String} (d0 : decode M.2.1 pc = .ok (.new ik, 3)) (d3 : decode M.2.1 (pc + 3) = .ok (.dup, 1)) (d4 : decode M.2.1 (pc + 4) = .ok (.ldc is, 2)) (d6 : decode M.2.1 (pc + 6) = .ok (.invokespecial 89, 3)) (d9 : decode M.2.1 (pc + 9) = .ok (.athrow, 1)) (hM : M.1.cls = RX4)
    (hm : (M.1.cls, is, i, tx) ∈ stab) (hd6 : 6 ≤ d) (hk : c1 + 1 ≤ k) (hn : n1 + 6 ≤ n) (hroom : (st.map fun v => v.category).sum ≤ 8) (hQ : Qx "java/util/NoSuchElementException" σ xs) : RW γ M d k n Qr Qx c1 n1 pc L st σ xs := by
  sorry
end NSEE
