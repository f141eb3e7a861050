/-! THE LAW'S HELPERS -/
def SokH (My : Md) (hh : List (Nat × Nat × Nat × Nat)) (a : Nat) : Prop := Cond.static My.1 ∈ uw ∧ Cond.initialized My.1.cls ∈ uw ∧ Cond.codeWith My.1 My.2.1 My.2.2.1 My.2.2.2 hh ∈ uw ∧ My.1.cls ≠ "java/lang/invoke/MethodHandle" ∧ My.1.cls ≠ "java/lang/invoke/VarHandle" ∧ (parseMethodDescriptor My.1.desc).map (fun d => d.parameters.length) = some a
theorem cl_13 : Cond.classLink RL 13 "java/lang/IllegalArgumentException" ∈ uw := uw_at 510 (by decide +kernel)
theorem cl_15 : Cond.classLink RL 15 "java/lang/IllegalStateException" ∈ uw := uw_at 511 (by decide +kernel)
theorem cl_25 : Cond.classLink RL 25 "java/lang/IndexOutOfBoundsException" ∈ uw := uw_at 622 (by decide +kernel)
theorem cl_31 : Cond.classLink RL 31 "java/util/NoSuchElementException" ∈ uw := uw_at 678 (by decide +kernel)
theorem cl_88 : Cond.classLink RL 88 "java/lang/UnsupportedOperationException" ∈ uw := uw_at 854 (by decide +kernel)
abbrev hh_type : List (Nat × Nat × Nat × Nat) := [(0, 9, 12, 13), (0, 9, 15, 15)]
theorem vL_type : SokH mL_type hh_type 3 := ⟨uw_at 508 (by decide +kernel), uw_at 40 (by decide +kernel), uw_at 509 (by decide +kernel), by decide +kernel, by decide +kernel, by decide +kernel⟩
theorem kL_94 : Cond.methodLink RL 94 yL_type ∈ uw := uw_at 507 (by decide +kernel)
abbrev hh_escape : List (Nat × Nat × Nat × Nat) := [(0, 10, 13, 13), (0, 10, 17, 15)]
theorem vL_escape : SokH mL_escape hh_escape 4 := ⟨uw_at 609 (by decide +kernel), uw_at 40 (by decide +kernel), uw_at 610 (by decide +kernel), by decide +kernel, by decide +kernel, by decide +kernel⟩
theorem kL_103 : Cond.methodLink RL 103 yL_escape ∈ uw := uw_at 608 (by decide +kernel)
abbrev hh_word : List (Nat × Nat × Nat × Nat) := [(0, 9, 12, 25), (0, 9, 15, 15)]
theorem vL_word : SokH mL_word hh_word 3 := ⟨uw_at 620 (by decide +kernel), uw_at 40 (by decide +kernel), uw_at 621 (by decide +kernel), by decide +kernel, by decide +kernel, by decide +kernel⟩
theorem kL_107 : Cond.methodLink RL 107 yL_word ∈ uw := uw_at 619 (by decide +kernel)
abbrev hh_drop : List (Nat × Nat × Nat × Nat) := [(0, 8, 11, 31)]
theorem vL_drop : SokH mL_drop hh_drop 2 := ⟨uw_at 676 (by decide +kernel), uw_at 40 (by decide +kernel), uw_at 677 (by decide +kernel), by decide +kernel, by decide +kernel, by decide +kernel⟩
theorem kL_111 : Cond.methodLink RL 111 yL_drop ∈ uw := uw_at 675 (by decide +kernel)
abbrev hh_signAt : List (Nat × Nat × Nat × Nat) := [(0, 9, 12, 25)]
theorem vL_signAt : SokH mL_signAt hh_signAt 3 := ⟨uw_at 700 (by decide +kernel), uw_at 40 (by decide +kernel), uw_at 701 (by decide +kernel), by decide +kernel, by decide +kernel, by decide +kernel⟩
theorem kL_123 : Cond.methodLink RL 123 yL_signAt ∈ uw := uw_at 699 (by decide +kernel)
abbrev hh_parse : List (Nat × Nat × Nat × Nat) := [(0, 9, 12, 25), (0, 9, 15, 15)]
theorem vL_parse : SokH mL_parse hh_parse 3 := ⟨uw_at 708 (by decide +kernel), uw_at 40 (by decide +kernel), uw_at 709 (by decide +kernel), by decide +kernel, by decide +kernel, by decide +kernel⟩
theorem kL_126 : Cond.methodLink RL 126 yL_parse ∈ uw := uw_at 707 (by decide +kernel)
abbrev hh_refusedAt : List (Nat × Nat × Nat × Nat) := [(0, 8, 11, 31)]
theorem vL_refusedAt : SokH mL_refusedAt hh_refusedAt 2 := ⟨uw_at 733 (by decide +kernel), uw_at 40 (by decide +kernel), uw_at 734 (by decide +kernel), by decide +kernel, by decide +kernel, by decide +kernel⟩
theorem kL_133 : Cond.methodLink RL 133 yL_refusedAt ∈ uw := uw_at 732 (by decide +kernel)
abbrev hh_isTold : List (Nat × Nat × Nat × Nat) := [(0, 15, 18, 31)]
theorem vL_isTold : SokH mL_isTold hh_isTold 2 := ⟨uw_at 745 (by decide +kernel), uw_at 40 (by decide +kernel), uw_at 746 (by decide +kernel), by decide +kernel, by decide +kernel, by decide +kernel⟩
theorem kL_136 : Cond.methodLink RL 136 yL_isTold ∈ uw := uw_at 744 (by decide +kernel)
abbrev hh_isThere : List (Nat × Nat × Nat × Nat) := [(0, 16, 19, 25)]
theorem vL_isThere : SokH mL_isThere hh_isThere 3 := ⟨uw_at 752 (by decide +kernel), uw_at 40 (by decide +kernel), uw_at 753 (by decide +kernel), by decide +kernel, by decide +kernel, by decide +kernel⟩
theorem kL_139 : Cond.methodLink RL 139 yL_isThere ∈ uw := uw_at 751 (by decide +kernel)
abbrev hh_isAbsolute : List (Nat × Nat × Nat × Nat) := [(0, 16, 19, 25), (0, 16, 22, 31)]
theorem vL_isAbsolute : SokH mL_isAbsolute hh_isAbsolute 3 := ⟨uw_at 759 (by decide +kernel), uw_at 40 (by decide +kernel), uw_at 760 (by decide +kernel), by decide +kernel, by decide +kernel, by decide +kernel⟩
theorem kL_142 : Cond.methodLink RL 142 yL_isAbsolute ∈ uw := uw_at 758 (by decide +kernel)
abbrev hh_isOpaque : List (Nat × Nat × Nat × Nat) := [(0, 16, 19, 25), (0, 16, 22, 31)]
theorem vL_isOpaque : SokH mL_isOpaque hh_isOpaque 3 := ⟨uw_at 774 (by decide +kernel), uw_at 40 (by decide +kernel), uw_at 775 (by decide +kernel), by decide +kernel, by decide +kernel, by decide +kernel⟩
theorem kL_145 : Cond.methodLink RL 145 yL_isOpaque ∈ uw := uw_at 773 (by decide +kernel)
abbrev hh_port : List (Nat × Nat × Nat × Nat) := [(0, 9, 12, 25), (0, 9, 15, 31)]
theorem vL_port : SokH mL_port hh_port 3 := ⟨uw_at 781 (by decide +kernel), uw_at 40 (by decide +kernel), uw_at 782 (by decide +kernel), by decide +kernel, by decide +kernel, by decide +kernel⟩
theorem kL_148 : Cond.methodLink RL 148 yL_port ∈ uw := uw_at 780 (by decide +kernel)
abbrev hh_size : List (Nat × Nat × Nat × Nat) := [(0, 10, 13, 25), (0, 10, 17, 13), (0, 10, 21, 31)]
theorem vL_size : SokH mL_size hh_size 4 := ⟨uw_at 788 (by decide +kernel), uw_at 40 (by decide +kernel), uw_at 789 (by decide +kernel), by decide +kernel, by decide +kernel, by decide +kernel⟩
theorem kL_151 : Cond.methodLink RL 151 yL_size ∈ uw := uw_at 787 (by decide +kernel)
abbrev hh_partSign : List (Nat × Nat × Nat × Nat) := [(0, 12, 15, 25), (0, 12, 19, 13), (0, 12, 23, 31)]
theorem vL_partSign : SokH mL_partSign hh_partSign 5 := ⟨uw_at 801 (by decide +kernel), uw_at 40 (by decide +kernel), uw_at 802 (by decide +kernel), by decide +kernel, by decide +kernel, by decide +kernel⟩
theorem kL_155 : Cond.methodLink RL 155 yL_partSign ∈ uw := uw_at 800 (by decide +kernel)
abbrev hh_begin : List (Nat × Nat × Nat × Nat) := [(0, 10, 13, 25), (0, 10, 17, 13), (0, 10, 21, 31)]
theorem vL_begin : SokH mL_begin hh_begin 4 := ⟨uw_at 814 (by decide +kernel), uw_at 40 (by decide +kernel), uw_at 815 (by decide +kernel), by decide +kernel, by decide +kernel, by decide +kernel⟩
theorem kL_159 : Cond.methodLink RL 159 yL_begin ∈ uw := uw_at 813 (by decide +kernel)
abbrev hh_append : List (Nat × Nat × Nat × Nat) := [(0, 10, 13, 25), (0, 10, 17, 13), (0, 10, 21, 31), (0, 10, 25, 15)]
theorem vL_append : SokH mL_append hh_append 4 := ⟨uw_at 822 (by decide +kernel), uw_at 40 (by decide +kernel), uw_at 823 (by decide +kernel), by decide +kernel, by decide +kernel, by decide +kernel⟩
theorem kL_162 : Cond.methodLink RL 162 yL_append ∈ uw := uw_at 821 (by decide +kernel)
abbrev hh_copy : List (Nat × Nat × Nat × Nat) := [(0, 10, 13, 25)]
theorem vL_copy : SokH mL_copy hh_copy 4 := ⟨uw_at 830 (by decide +kernel), uw_at 40 (by decide +kernel), uw_at 831 (by decide +kernel), by decide +kernel, by decide +kernel, by decide +kernel⟩
theorem kL_165 : Cond.methodLink RL 165 yL_copy ∈ uw := uw_at 829 (by decide +kernel)
abbrev hh_alike : List (Nat × Nat × Nat × Nat) := [(0, 10, 13, 25), (0, 10, 17, 31)]
theorem vL_alike : SokH mL_alike hh_alike 4 := ⟨uw_at 837 (by decide +kernel), uw_at 40 (by decide +kernel), uw_at 838 (by decide +kernel), by decide +kernel, by decide +kernel, by decide +kernel⟩
theorem kL_169 : Cond.methodLink RL 169 yL_alike ∈ uw := uw_at 836 (by decide +kernel)
abbrev hh_together : List (Nat × Nat × Nat × Nat) := [(0, 16, 19, 25), (0, 16, 22, 31)]
theorem vL_together : SokH mL_together hh_together 3 := ⟨uw_at 844 (by decide +kernel), uw_at 40 (by decide +kernel), uw_at 845 (by decide +kernel), by decide +kernel, by decide +kernel, by decide +kernel⟩
theorem kL_172 : Cond.methodLink RL 172 yL_together ∈ uw := uw_at 843 (by decide +kernel)
abbrev hh_mix : List (Nat × Nat × Nat × Nat) := [(0, 12, 15, 25), (0, 12, 19, 31), (0, 12, 23, 13), (0, 12, 27, 88), (0, 12, 31, 15)]
theorem vL_mix : SokH mL_mix hh_mix 5 := ⟨uw_at 852 (by decide +kernel), uw_at 40 (by decide +kernel), uw_at 853 (by decide +kernel), by decide +kernel, by decide +kernel, by decide +kernel⟩
theorem kL_175 : Cond.methodLink RL 175 yL_mix ∈ uw := uw_at 851 (by decide +kernel)
section HELP
variable {γ : Gm} {M : Md} {hh : List (Nat × Nat × Nat × Nat)} {d k n : Nat} {Qr : Option Value → St → va_W → Prop} {Qx : String → St → va_W → Prop} {c1 n1 pc q : Nat} {L : List (Option Value)} {st : List Value} {σ σ1 : St} {xs xs1 : va_W}
theorem hO_0 {My : Md} {dy ky ny idx : Nat} {w : Value} (hd : decode M.2.1 pc = .ok (.invokevirtual idx, 3)) (hq : pc + 3 = q) (hlink : Cond.methodLink M.1.cls idx My.1 ∈ uw) (hV : Vok My 0) (hv : gv γ 6 0) (hr1 : RX4 = My.1.cls) (hE : Ev γ My dy ky ny [.ref (ga γ 6 0)] σ xs (rtn (some w) σ1 xs1) nX) (hR : dy + 1 ≤ d ∧ 8 + (My.2.2.1 + 11) + 30 * dy ≤ 30 * d) (hk : c1 + ky ≤ k ∧ n1 + ny ≤ n) (hroom : (st.map fun v => v.category).sum ≤ 8) (kk : GW γ M (rmL d k n) (ZH hh) (HQ γ Qr Qx k n) (c1 + ky) (n1 + ny) q L (w :: st) σ1 xs1) : GW γ M (rmL d k n) (ZH hh) (HQ γ Qr Qx k n) c1 n1 pc L (.ref (ga γ 6 0) :: st) σ xs :=
  h_okv (kd := 6) (i := 0) (ci := 3) (As := []) hd hq hlink hV hv rfl rfl hr1 hE rfl hR hk hroom kk
theorem hT_0 {My : Md} {dy ky ny idx hp : Nat} {E : String} (hT : Tk M hh pc E hp) (hd : decode M.2.1 pc = .ok (.invokevirtual idx, 3)) (hq : pc + 3 = q) (hlink : Cond.methodLink M.1.cls idx My.1 ∈ uw) (hV : Vok My 0) (hv : gv γ 6 0) (hr1 : RX4 = My.1.cls) (hE : Ev γ My dy ky ny [.ref (ga γ 6 0)] σ xs nR (thr E σ1 xs1)) (hR : dy + 1 ≤ d ∧ 8 + (My.2.2.1 + 11) + 30 * dy ≤ 30 * d) (hk : c1 + ky ≤ k ∧ n1 + ny ≤ n) (hroom : (st.map fun v => v.category).sum ≤ 8) (kk : ∀ q9 : Addr, GW γ M (rmL d k n) (ZH hh) (HQ γ Qr Qx k n) (c1 + ky) (n1 + ny) hp L [.ref q9] σ1 xs1) : GW γ M (rmL d k n) (ZH hh) (HQ γ Qr Qx k n) c1 n1 pc L (.ref (ga γ 6 0) :: st) σ xs :=
  h_tryv (kd := 6) (i := 0) (ci := 3) (As := []) hT hd hq hlink hV hv rfl rfl hr1 hE rfl hR hk hroom kk
theorem hO_1 {My : Md} {dy ky ny idx : Nat} {a0 : Value} {w : Value} (hd : decode M.2.1 pc = .ok (.invokevirtual idx, 3)) (hq : pc + 3 = q) (hlink : Cond.methodLink M.1.cls idx My.1 ∈ uw) (hV : Vok My 1) (hv : gv γ 6 0) (hr1 : RX4 = My.1.cls) (hE : Ev γ My dy ky ny [.ref (ga γ 6 0), a0] σ xs (rtn (some w) σ1 xs1) nX) (hR : dy + 1 ≤ d ∧ 8 + (My.2.2.1 + 11) + 30 * dy ≤ 30 * d) (hk : c1 + ky ≤ k ∧ n1 + ny ≤ n) (hroom : (st.map fun v => v.category).sum ≤ 8) (kk : GW γ M (rmL d k n) (ZH hh) (HQ γ Qr Qx k n) (c1 + ky) (n1 + ny) q L (w :: st) σ1 xs1) : GW γ M (rmL d k n) (ZH hh) (HQ γ Qr Qx k n) c1 n1 pc L (a0 :: .ref (ga γ 6 0) :: st) σ xs :=
  h_okv (kd := 6) (i := 0) (ci := 3) (As := [a0]) hd hq hlink hV hv rfl rfl hr1 hE rfl hR hk hroom kk
theorem hT_1 {My : Md} {dy ky ny idx hp : Nat} {a0 : Value} {E : String} (hT : Tk M hh pc E hp) (hd : decode M.2.1 pc = .ok (.invokevirtual idx, 3)) (hq : pc + 3 = q) (hlink : Cond.methodLink M.1.cls idx My.1 ∈ uw) (hV : Vok My 1) (hv : gv γ 6 0) (hr1 : RX4 = My.1.cls) (hE : Ev γ My dy ky ny [.ref (ga γ 6 0), a0] σ xs nR (thr E σ1 xs1)) (hR : dy + 1 ≤ d ∧ 8 + (My.2.2.1 + 11) + 30 * dy ≤ 30 * d) (hk : c1 + ky ≤ k ∧ n1 + ny ≤ n) (hroom : (st.map fun v => v.category).sum ≤ 8) (kk : ∀ q9 : Addr, GW γ M (rmL d k n) (ZH hh) (HQ γ Qr Qx k n) (c1 + ky) (n1 + ny) hp L [.ref q9] σ1 xs1) : GW γ M (rmL d k n) (ZH hh) (HQ γ Qr Qx k n) c1 n1 pc L (a0 :: .ref (ga γ 6 0) :: st) σ xs :=
  h_tryv (kd := 6) (i := 0) (ci := 3) (As := [a0]) hT hd hq hlink hV hv rfl rfl hr1 hE rfl hR hk hroom kk
theorem hO_2 {My : Md} {dy ky ny idx : Nat} {a0 : Value} {a1 : Value} {w : Value} (hd : decode M.2.1 pc = .ok (.invokevirtual idx, 3)) (hq : pc + 3 = q) (hlink : Cond.methodLink M.1.cls idx My.1 ∈ uw) (hV : Vok My 2) (hv : gv γ 6 0) (hr1 : RX4 = My.1.cls) (hE : Ev γ My dy ky ny [.ref (ga γ 6 0), a0, a1] σ xs (rtn (some w) σ1 xs1) nX) (hR : dy + 1 ≤ d ∧ 8 + (My.2.2.1 + 11) + 30 * dy ≤ 30 * d) (hk : c1 + ky ≤ k ∧ n1 + ny ≤ n) (hroom : (st.map fun v => v.category).sum ≤ 8) (kk : GW γ M (rmL d k n) (ZH hh) (HQ γ Qr Qx k n) (c1 + ky) (n1 + ny) q L (w :: st) σ1 xs1) : GW γ M (rmL d k n) (ZH hh) (HQ γ Qr Qx k n) c1 n1 pc L (a1 :: a0 :: .ref (ga γ 6 0) :: st) σ xs :=
  h_okv (kd := 6) (i := 0) (ci := 3) (As := [a0, a1]) hd hq hlink hV hv rfl rfl hr1 hE rfl hR hk hroom kk
theorem hT_2 {My : Md} {dy ky ny idx hp : Nat} {a0 : Value} {a1 : Value} {E : String} (hT : Tk M hh pc E hp) (hd : decode M.2.1 pc = .ok (.invokevirtual idx, 3)) (hq : pc + 3 = q) (hlink : Cond.methodLink M.1.cls idx My.1 ∈ uw) (hV : Vok My 2) (hv : gv γ 6 0) (hr1 : RX4 = My.1.cls) (hE : Ev γ My dy ky ny [.ref (ga γ 6 0), a0, a1] σ xs nR (thr E σ1 xs1)) (hR : dy + 1 ≤ d ∧ 8 + (My.2.2.1 + 11) + 30 * dy ≤ 30 * d) (hk : c1 + ky ≤ k ∧ n1 + ny ≤ n) (hroom : (st.map fun v => v.category).sum ≤ 8) (kk : ∀ q9 : Addr, GW γ M (rmL d k n) (ZH hh) (HQ γ Qr Qx k n) (c1 + ky) (n1 + ny) hp L [.ref q9] σ1 xs1) : GW γ M (rmL d k n) (ZH hh) (HQ γ Qr Qx k n) c1 n1 pc L (a1 :: a0 :: .ref (ga γ 6 0) :: st) σ xs :=
  h_tryv (kd := 6) (i := 0) (ci := 3) (As := [a0, a1]) hT hd hq hlink hV hv rfl rfl hr1 hE rfl hR hk hroom kk
theorem hO_3 {My : Md} {dy ky ny idx : Nat} {a0 : Value} {a1 : Value} {a2 : Value} {w : Value} (hd : decode M.2.1 pc = .ok (.invokevirtual idx, 3)) (hq : pc + 3 = q) (hlink : Cond.methodLink M.1.cls idx My.1 ∈ uw) (hV : Vok My 3) (hv : gv γ 6 0) (hr1 : RX4 = My.1.cls) (hE : Ev γ My dy ky ny [.ref (ga γ 6 0), a0, a1, a2] σ xs (rtn (some w) σ1 xs1) nX) (hR : dy + 1 ≤ d ∧ 8 + (My.2.2.1 + 11) + 30 * dy ≤ 30 * d) (hk : c1 + ky ≤ k ∧ n1 + ny ≤ n) (hroom : (st.map fun v => v.category).sum ≤ 8) (kk : GW γ M (rmL d k n) (ZH hh) (HQ γ Qr Qx k n) (c1 + ky) (n1 + ny) q L (w :: st) σ1 xs1) : GW γ M (rmL d k n) (ZH hh) (HQ γ Qr Qx k n) c1 n1 pc L (a2 :: a1 :: a0 :: .ref (ga γ 6 0) :: st) σ xs :=
  h_okv (kd := 6) (i := 0) (ci := 3) (As := [a0, a1, a2]) hd hq hlink hV hv rfl rfl hr1 hE rfl hR hk hroom kk
theorem hT_3 {My : Md} {dy ky ny idx hp : Nat} {a0 : Value} {a1 : Value} {a2 : Value} {E : String} (hT : Tk M hh pc E hp) (hd : decode M.2.1 pc = .ok (.invokevirtual idx, 3)) (hq : pc + 3 = q) (hlink : Cond.methodLink M.1.cls idx My.1 ∈ uw) (hV : Vok My 3) (hv : gv γ 6 0) (hr1 : RX4 = My.1.cls) (hE : Ev γ My dy ky ny [.ref (ga γ 6 0), a0, a1, a2] σ xs nR (thr E σ1 xs1)) (hR : dy + 1 ≤ d ∧ 8 + (My.2.2.1 + 11) + 30 * dy ≤ 30 * d) (hk : c1 + ky ≤ k ∧ n1 + ny ≤ n) (hroom : (st.map fun v => v.category).sum ≤ 8) (kk : ∀ q9 : Addr, GW γ M (rmL d k n) (ZH hh) (HQ γ Qr Qx k n) (c1 + ky) (n1 + ny) hp L [.ref q9] σ1 xs1) : GW γ M (rmL d k n) (ZH hh) (HQ γ Qr Qx k n) c1 n1 pc L (a2 :: a1 :: a0 :: .ref (ga γ 6 0) :: st) σ xs :=
  h_tryv (kd := 6) (i := 0) (ci := 3) (As := [a0, a1, a2]) hT hd hq hlink hV hv rfl rfl hr1 hE rfl hR hk hroom kk
set_option maxRecDepth 100000 in
set_option maxHeartbeats 4000000 in
theorem hl_type (hG : Full γ) {a : Int} {ky ny : Nat} {v : Int} (hv : -2147483648 ≤ v ∧ v ≤ 2147483647) (hE : Ev γ mX4_type 7 ky ny [.ref (ga γ 6 0), .int (zI a)] σ xs (rtn (some (.int (zI v))) σ1 xs) nX) : EvH γ mL_type hh_type 8 ky ny [.ref (ga γ 6 0), .int (zI a), .ref (ga γ 18 0)] σ xs (rtn (some (.int (zI 0))) (sOv σ1 v) xs) nX := by
  refine EvH.of 1 [some (.ref (ga γ 6 0)), some (.int (zI a)), some (.ref (ga γ 18 0)), none] rfl pn_L_type rfl (Nat.le_of_ble_eq_true rfl) ?_
  refine h_aload_n (q := 1) dL_type_0 rfl rfl ?_
  refine h_iconst (q := 2) dL_type_1 rfl ?_
  refine h_aload_n (q := 3) dL_type_2 rfl rfl ?_
  refine h_iload_n (q := 4) dL_type_3 rfl rfl ?_
  refine hO_1 (My := mX4_type) (q := 7) dL_type_4 rfl kL_7 vX4_type (hG _ _ rfl) rfl hE ⟨by decide, by decide⟩ ⟨by omega, by omega⟩ (Nat.le_of_ble_eq_true rfl) ?_
  rw [Nat.zero_add, Nat.zero_add]
  refine h_i2l (q := 8) dL_type_7 rfl hv ?_
  refine h_lastO (q := 9) dL_type_8 rfl (hG _ _ rfl) ?_
  refine h_goto (q := 18) dL_type_9 (by decide) ?_
  refine h_iconst (q := 19) dL_type_18 rfl ?_
  refine h_reti dL_type_19 rfl (Nat.le_refl _) (Nat.le_refl _) ?_
  exact ⟨rfl, rfl, rfl⟩
theorem tk_type_A : Tk mL_type hh_type 4 "java/lang/IllegalArgumentException" 12 := by
  refine ⟨by decide, [], ⟨0, 9, 12, 13⟩, [⟨0, 9, 15, 15⟩], rfl, ?_, by decide, by decide, cl_13, rfl⟩
  exact fun z hz => by cases hz
set_option maxRecDepth 100000 in
set_option maxHeartbeats 4000000 in
theorem hl_type_A (hG : Full γ) {a : Int} (hE : Ev γ mX4_type 7 1 6 [.ref (ga γ 6 0), .int (zI a)] σ xs nR (thr "java/lang/IllegalArgumentException" σ1 xs)) : EvH γ mL_type hh_type 8 1 6 [.ref (ga γ 6 0), .int (zI a), .ref (ga γ 18 0)] σ xs (rtn (some (.int (zI 1))) σ1 xs) nX := by
  refine EvH.of 1 [some (.ref (ga γ 6 0)), some (.int (zI a)), some (.ref (ga γ 18 0)), none] rfl pn_L_type rfl (Nat.le_of_ble_eq_true rfl) ?_
  refine h_aload_n (q := 1) dL_type_0 rfl rfl ?_
  refine h_iconst (q := 2) dL_type_1 rfl ?_
  refine h_aload_n (q := 3) dL_type_2 rfl rfl ?_
  refine h_iload_n (q := 4) dL_type_3 rfl rfl ?_
  refine hT_1 (My := mX4_type) (q := 7) (hp := 12) tk_type_A dL_type_4 rfl kL_7 vX4_type (hG _ _ rfl) rfl hE ⟨by decide, by decide⟩ ⟨by decide, by decide⟩ (Nat.le_of_ble_eq_true rfl) (fun q9 => ?_)
  refine h_astore_n (q := 13) dL_type_12 rfl (by decide) (Lst.setL rfl rfl) ?_
  refine h_iconst (q := 14) dL_type_13 rfl ?_
  refine h_reti dL_type_14 rfl (by decide) (by decide) ?_
  exact ⟨rfl, rfl, rfl⟩
theorem tk_type_S : Tk mL_type hh_type 4 "java/lang/IllegalStateException" 15 := by
  refine ⟨by decide, [⟨0, 9, 12, 13⟩], ⟨0, 9, 15, 15⟩, [], rfl, ?_, by decide, by decide, cl_15, rfl⟩
  exact fun z hz => by
    simp only [List.mem_cons, List.not_mem_nil, or_false] at hz
    rcases hz with rfl
    · exact ⟨by decide, "java/lang/IllegalArgumentException", by decide, by decide, cl_13⟩
set_option maxRecDepth 100000 in
set_option maxHeartbeats 4000000 in
theorem hl_type_S (hG : Full γ) {a : Int} (hE : Ev γ mX4_type 7 1 6 [.ref (ga γ 6 0), .int (zI a)] σ xs nR (thr "java/lang/IllegalStateException" σ1 xs)) : EvH γ mL_type hh_type 8 1 6 [.ref (ga γ 6 0), .int (zI a), .ref (ga γ 18 0)] σ xs (rtn (some (.int (zI 2))) σ1 xs) nX := by
  refine EvH.of 1 [some (.ref (ga γ 6 0)), some (.int (zI a)), some (.ref (ga γ 18 0)), none] rfl pn_L_type rfl (Nat.le_of_ble_eq_true rfl) ?_
  refine h_aload_n (q := 1) dL_type_0 rfl rfl ?_
  refine h_iconst (q := 2) dL_type_1 rfl ?_
  refine h_aload_n (q := 3) dL_type_2 rfl rfl ?_
  refine h_iload_n (q := 4) dL_type_3 rfl rfl ?_
  refine hT_1 (My := mX4_type) (q := 7) (hp := 15) tk_type_S dL_type_4 rfl kL_7 vX4_type (hG _ _ rfl) rfl hE ⟨by decide, by decide⟩ ⟨by decide, by decide⟩ (Nat.le_of_ble_eq_true rfl) (fun q9 => ?_)
  refine h_astore_n (q := 16) dL_type_15 rfl (by decide) (Lst.setL rfl rfl) ?_
  refine h_iconst (q := 17) dL_type_16 rfl ?_
  refine h_reti dL_type_17 rfl (by decide) (by decide) ?_
  exact ⟨rfl, rfl, rfl⟩
set_option maxRecDepth 100000 in
set_option maxHeartbeats 4000000 in
theorem hl_escape (hG : Full γ) {a : Int} {b : Bool} {ky ny : Nat} {v : Int} (hv : -2147483648 ≤ v ∧ v ≤ 2147483647) (hE : Ev γ mX4_escape 7 ky ny [.ref (ga γ 6 0), .int (zI a), .int (zI (bI b))] σ xs (rtn (some (.int (zI v))) σ1 xs) nX) : EvH γ mL_escape hh_escape 8 ky ny [.ref (ga γ 6 0), .int (zI a), .int (zI (bI b)), .ref (ga γ 18 0)] σ xs (rtn (some (.int (zI 0))) (sOv σ1 v) xs) nX := by
  refine EvH.of 1 [some (.ref (ga γ 6 0)), some (.int (zI a)), some (.int (zI (bI b))), some (.ref (ga γ 18 0)), none] rfl pn_L_escape rfl (Nat.le_of_ble_eq_true rfl) ?_
  refine h_aload_n (q := 1) dL_escape_0 rfl rfl ?_
  refine h_iconst (q := 2) dL_escape_1 rfl ?_
  refine h_aload_n (q := 3) dL_escape_2 rfl rfl ?_
  refine h_iload_n (q := 4) dL_escape_3 rfl rfl ?_
  refine h_iload_n (q := 5) dL_escape_4 rfl rfl ?_
  refine hO_2 (My := mX4_escape) (q := 8) dL_escape_5 rfl kL_17 vX4_escape (hG _ _ rfl) rfl hE ⟨by decide, by decide⟩ ⟨by omega, by omega⟩ (Nat.le_of_ble_eq_true rfl) ?_
  rw [Nat.zero_add, Nat.zero_add]
  refine h_i2l (q := 9) dL_escape_8 rfl hv ?_
  refine h_lastO (q := 10) dL_escape_9 rfl (hG _ _ rfl) ?_
  refine h_goto (q := 21) dL_escape_10 (by decide) ?_
  refine h_iconst (q := 22) dL_escape_21 rfl ?_
  refine h_reti dL_escape_22 rfl (Nat.le_refl _) (Nat.le_refl _) ?_
  exact ⟨rfl, rfl, rfl⟩
theorem tk_escape_A : Tk mL_escape hh_escape 5 "java/lang/IllegalArgumentException" 13 := by
  refine ⟨by decide, [], ⟨0, 10, 13, 13⟩, [⟨0, 10, 17, 15⟩], rfl, ?_, by decide, by decide, cl_13, rfl⟩
  exact fun z hz => by cases hz
set_option maxRecDepth 100000 in
set_option maxHeartbeats 4000000 in
theorem hl_escape_A (hG : Full γ) {a : Int} {b : Bool} (hE : Ev γ mX4_escape 7 1 6 [.ref (ga γ 6 0), .int (zI a), .int (zI (bI b))] σ xs nR (thr "java/lang/IllegalArgumentException" σ1 xs)) : EvH γ mL_escape hh_escape 8 1 6 [.ref (ga γ 6 0), .int (zI a), .int (zI (bI b)), .ref (ga γ 18 0)] σ xs (rtn (some (.int (zI 1))) σ1 xs) nX := by
  refine EvH.of 1 [some (.ref (ga γ 6 0)), some (.int (zI a)), some (.int (zI (bI b))), some (.ref (ga γ 18 0)), none] rfl pn_L_escape rfl (Nat.le_of_ble_eq_true rfl) ?_
  refine h_aload_n (q := 1) dL_escape_0 rfl rfl ?_
  refine h_iconst (q := 2) dL_escape_1 rfl ?_
  refine h_aload_n (q := 3) dL_escape_2 rfl rfl ?_
  refine h_iload_n (q := 4) dL_escape_3 rfl rfl ?_
  refine h_iload_n (q := 5) dL_escape_4 rfl rfl ?_
  refine hT_2 (My := mX4_escape) (q := 8) (hp := 13) tk_escape_A dL_escape_5 rfl kL_17 vX4_escape (hG _ _ rfl) rfl hE ⟨by decide, by decide⟩ ⟨by decide, by decide⟩ (Nat.le_of_ble_eq_true rfl) (fun q9 => ?_)
  refine h_astore (q := 15) dL_escape_13 rfl (by decide) (Lst.setL rfl rfl) ?_
  refine h_iconst (q := 16) dL_escape_15 rfl ?_
  refine h_reti dL_escape_16 rfl (by decide) (by decide) ?_
  exact ⟨rfl, rfl, rfl⟩
theorem tk_escape_S : Tk mL_escape hh_escape 5 "java/lang/IllegalStateException" 17 := by
  refine ⟨by decide, [⟨0, 10, 13, 13⟩], ⟨0, 10, 17, 15⟩, [], rfl, ?_, by decide, by decide, cl_15, rfl⟩
  exact fun z hz => by
    simp only [List.mem_cons, List.not_mem_nil, or_false] at hz
    rcases hz with rfl
    · exact ⟨by decide, "java/lang/IllegalArgumentException", by decide, by decide, cl_13⟩
set_option maxRecDepth 100000 in
set_option maxHeartbeats 4000000 in
theorem hl_escape_S (hG : Full γ) {a : Int} {b : Bool} (hE : Ev γ mX4_escape 7 1 6 [.ref (ga γ 6 0), .int (zI a), .int (zI (bI b))] σ xs nR (thr "java/lang/IllegalStateException" σ1 xs)) : EvH γ mL_escape hh_escape 8 1 6 [.ref (ga γ 6 0), .int (zI a), .int (zI (bI b)), .ref (ga γ 18 0)] σ xs (rtn (some (.int (zI 2))) σ1 xs) nX := by
  refine EvH.of 1 [some (.ref (ga γ 6 0)), some (.int (zI a)), some (.int (zI (bI b))), some (.ref (ga γ 18 0)), none] rfl pn_L_escape rfl (Nat.le_of_ble_eq_true rfl) ?_
  refine h_aload_n (q := 1) dL_escape_0 rfl rfl ?_
  refine h_iconst (q := 2) dL_escape_1 rfl ?_
  refine h_aload_n (q := 3) dL_escape_2 rfl rfl ?_
  refine h_iload_n (q := 4) dL_escape_3 rfl rfl ?_
  refine h_iload_n (q := 5) dL_escape_4 rfl rfl ?_
  refine hT_2 (My := mX4_escape) (q := 8) (hp := 17) tk_escape_S dL_escape_5 rfl kL_17 vX4_escape (hG _ _ rfl) rfl hE ⟨by decide, by decide⟩ ⟨by decide, by decide⟩ (Nat.le_of_ble_eq_true rfl) (fun q9 => ?_)
  refine h_astore (q := 19) dL_escape_17 rfl (by decide) (Lst.setL rfl rfl) ?_
  refine h_iconst (q := 20) dL_escape_19 rfl ?_
  refine h_reti dL_escape_20 rfl (by decide) (by decide) ?_
  exact ⟨rfl, rfl, rfl⟩
set_option maxRecDepth 100000 in
set_option maxHeartbeats 4000000 in
theorem hl_word (hG : Full γ) {a : Int} {ky ny : Nat} {v : Int} (hv : -2147483648 ≤ v ∧ v ≤ 2147483647) (hE : Ev γ mX4_word 7 ky ny [.ref (ga γ 6 0), .int (zI a)] σ xs (rtn (some (.int (zI v))) σ1 xs) nX) : EvH γ mL_word hh_word 8 ky ny [.ref (ga γ 6 0), .int (zI a), .ref (ga γ 18 0)] σ xs (rtn (some (.int (zI 0))) (sOv σ1 v) xs) nX := by
  refine EvH.of 1 [some (.ref (ga γ 6 0)), some (.int (zI a)), some (.ref (ga γ 18 0)), none] rfl pn_L_word rfl (Nat.le_of_ble_eq_true rfl) ?_
  refine h_aload_n (q := 1) dL_word_0 rfl rfl ?_
  refine h_iconst (q := 2) dL_word_1 rfl ?_
  refine h_aload_n (q := 3) dL_word_2 rfl rfl ?_
  refine h_iload_n (q := 4) dL_word_3 rfl rfl ?_
  refine hO_1 (My := mX4_word) (q := 7) dL_word_4 rfl kL_21 vX4_word (hG _ _ rfl) rfl hE ⟨by decide, by decide⟩ ⟨by omega, by omega⟩ (Nat.le_of_ble_eq_true rfl) ?_
  rw [Nat.zero_add, Nat.zero_add]
  refine h_i2l (q := 8) dL_word_7 rfl hv ?_
  refine h_lastO (q := 9) dL_word_8 rfl (hG _ _ rfl) ?_
  refine h_goto (q := 18) dL_word_9 (by decide) ?_
  refine h_iconst (q := 19) dL_word_18 rfl ?_
  refine h_reti dL_word_19 rfl (Nat.le_refl _) (Nat.le_refl _) ?_
  exact ⟨rfl, rfl, rfl⟩
theorem tk_word_I : Tk mL_word hh_word 4 "java/lang/IndexOutOfBoundsException" 12 := by
  refine ⟨by decide, [], ⟨0, 9, 12, 25⟩, [⟨0, 9, 15, 15⟩], rfl, ?_, by decide, by decide, cl_25, rfl⟩
  exact fun z hz => by cases hz
set_option maxRecDepth 100000 in
set_option maxHeartbeats 4000000 in
theorem hl_word_I (hG : Full γ) {a : Int} (hE : Ev γ mX4_word 7 1 6 [.ref (ga γ 6 0), .int (zI a)] σ xs nR (thr "java/lang/IndexOutOfBoundsException" σ1 xs)) : EvH γ mL_word hh_word 8 1 6 [.ref (ga γ 6 0), .int (zI a), .ref (ga γ 18 0)] σ xs (rtn (some (.int (zI 1))) σ1 xs) nX := by
  refine EvH.of 1 [some (.ref (ga γ 6 0)), some (.int (zI a)), some (.ref (ga γ 18 0)), none] rfl pn_L_word rfl (Nat.le_of_ble_eq_true rfl) ?_
  refine h_aload_n (q := 1) dL_word_0 rfl rfl ?_
  refine h_iconst (q := 2) dL_word_1 rfl ?_
  refine h_aload_n (q := 3) dL_word_2 rfl rfl ?_
  refine h_iload_n (q := 4) dL_word_3 rfl rfl ?_
  refine hT_1 (My := mX4_word) (q := 7) (hp := 12) tk_word_I dL_word_4 rfl kL_21 vX4_word (hG _ _ rfl) rfl hE ⟨by decide, by decide⟩ ⟨by decide, by decide⟩ (Nat.le_of_ble_eq_true rfl) (fun q9 => ?_)
  refine h_astore_n (q := 13) dL_word_12 rfl (by decide) (Lst.setL rfl rfl) ?_
  refine h_iconst (q := 14) dL_word_13 rfl ?_
  refine h_reti dL_word_14 rfl (by decide) (by decide) ?_
  exact ⟨rfl, rfl, rfl⟩
theorem tk_word_S : Tk mL_word hh_word 4 "java/lang/IllegalStateException" 15 := by
  refine ⟨by decide, [⟨0, 9, 12, 25⟩], ⟨0, 9, 15, 15⟩, [], rfl, ?_, by decide, by decide, cl_15, rfl⟩
  exact fun z hz => by
    simp only [List.mem_cons, List.not_mem_nil, or_false] at hz
    rcases hz with rfl
    · exact ⟨by decide, "java/lang/IndexOutOfBoundsException", by decide, by decide, cl_25⟩
set_option maxRecDepth 100000 in
set_option maxHeartbeats 4000000 in
theorem hl_word_S (hG : Full γ) {a : Int} (hE : Ev γ mX4_word 7 1 6 [.ref (ga γ 6 0), .int (zI a)] σ xs nR (thr "java/lang/IllegalStateException" σ1 xs)) : EvH γ mL_word hh_word 8 1 6 [.ref (ga γ 6 0), .int (zI a), .ref (ga γ 18 0)] σ xs (rtn (some (.int (zI 2))) σ1 xs) nX := by
  refine EvH.of 1 [some (.ref (ga γ 6 0)), some (.int (zI a)), some (.ref (ga γ 18 0)), none] rfl pn_L_word rfl (Nat.le_of_ble_eq_true rfl) ?_
  refine h_aload_n (q := 1) dL_word_0 rfl rfl ?_
  refine h_iconst (q := 2) dL_word_1 rfl ?_
  refine h_aload_n (q := 3) dL_word_2 rfl rfl ?_
  refine h_iload_n (q := 4) dL_word_3 rfl rfl ?_
  refine hT_1 (My := mX4_word) (q := 7) (hp := 15) tk_word_S dL_word_4 rfl kL_21 vX4_word (hG _ _ rfl) rfl hE ⟨by decide, by decide⟩ ⟨by decide, by decide⟩ (Nat.le_of_ble_eq_true rfl) (fun q9 => ?_)
  refine h_astore_n (q := 16) dL_word_15 rfl (by decide) (Lst.setL rfl rfl) ?_
  refine h_iconst (q := 17) dL_word_16 rfl ?_
  refine h_reti dL_word_17 rfl (by decide) (by decide) ?_
  exact ⟨rfl, rfl, rfl⟩
set_option maxRecDepth 100000 in
set_option maxHeartbeats 4000000 in
theorem hl_drop (hG : Full γ) {ky ny : Nat} {v : Int} (hv : -2147483648 ≤ v ∧ v ≤ 2147483647) (hE : Ev γ mX4_drop 7 ky ny [.ref (ga γ 6 0)] σ xs (rtn (some (.int (zI v))) σ1 xs) nX) : EvH γ mL_drop hh_drop 8 ky ny [.ref (ga γ 6 0), .ref (ga γ 18 0)] σ xs (rtn (some (.int (zI 0))) (sOv σ1 v) xs) nX := by
  refine EvH.of 1 [some (.ref (ga γ 6 0)), some (.ref (ga γ 18 0)), none] rfl pn_L_drop rfl (Nat.le_of_ble_eq_true rfl) ?_
  refine h_aload_n (q := 1) dL_drop_0 rfl rfl ?_
  refine h_iconst (q := 2) dL_drop_1 rfl ?_
  refine h_aload_n (q := 3) dL_drop_2 rfl rfl ?_
  refine hO_0 (My := mX4_drop) (q := 6) dL_drop_3 rfl kL_27 vX4_drop (hG _ _ rfl) rfl hE ⟨by decide, by decide⟩ ⟨by omega, by omega⟩ (Nat.le_of_ble_eq_true rfl) ?_
  rw [Nat.zero_add, Nat.zero_add]
  refine h_i2l (q := 7) dL_drop_6 rfl hv ?_
  refine h_lastO (q := 8) dL_drop_7 rfl (hG _ _ rfl) ?_
  refine h_goto (q := 14) dL_drop_8 (by decide) ?_
  refine h_iconst (q := 15) dL_drop_14 rfl ?_
  refine h_reti dL_drop_15 rfl (Nat.le_refl _) (Nat.le_refl _) ?_
  exact ⟨rfl, rfl, rfl⟩
theorem tk_drop_N : Tk mL_drop hh_drop 3 "java/util/NoSuchElementException" 11 := by
  refine ⟨by decide, [], ⟨0, 8, 11, 31⟩, [], rfl, ?_, by decide, by decide, cl_31, rfl⟩
  exact fun z hz => by cases hz
set_option maxRecDepth 100000 in
set_option maxHeartbeats 4000000 in
theorem hl_drop_N (hG : Full γ) (hE : Ev γ mX4_drop 7 1 6 [.ref (ga γ 6 0)] σ xs nR (thr "java/util/NoSuchElementException" σ1 xs)) : EvH γ mL_drop hh_drop 8 1 6 [.ref (ga γ 6 0), .ref (ga γ 18 0)] σ xs (rtn (some (.int (zI 1))) σ1 xs) nX := by
  refine EvH.of 1 [some (.ref (ga γ 6 0)), some (.ref (ga γ 18 0)), none] rfl pn_L_drop rfl (Nat.le_of_ble_eq_true rfl) ?_
  refine h_aload_n (q := 1) dL_drop_0 rfl rfl ?_
  refine h_iconst (q := 2) dL_drop_1 rfl ?_
  refine h_aload_n (q := 3) dL_drop_2 rfl rfl ?_
  refine hT_0 (My := mX4_drop) (q := 6) (hp := 11) tk_drop_N dL_drop_3 rfl kL_27 vX4_drop (hG _ _ rfl) rfl hE ⟨by decide, by decide⟩ ⟨by decide, by decide⟩ (Nat.le_of_ble_eq_true rfl) (fun q9 => ?_)
  refine h_astore_n (q := 12) dL_drop_11 rfl (by decide) (Lst.setL rfl rfl) ?_
  refine h_iconst (q := 13) dL_drop_12 rfl ?_
  refine h_reti dL_drop_13 rfl (by decide) (by decide) ?_
  exact ⟨rfl, rfl, rfl⟩
set_option maxRecDepth 100000 in
set_option maxHeartbeats 4000000 in
theorem hl_signAt (hG : Full γ) {a : Int} {ky ny : Nat} {v : Int} (hv : -2147483648 ≤ v ∧ v ≤ 2147483647) (hE : Ev γ mX4_signAt 7 ky ny [.ref (ga γ 6 0), .int (zI a)] σ xs (rtn (some (.int (zI v))) σ1 xs) nX) : EvH γ mL_signAt hh_signAt 8 ky ny [.ref (ga γ 6 0), .int (zI a), .ref (ga γ 18 0)] σ xs (rtn (some (.int (zI 0))) (sOv σ1 v) xs) nX := by
  refine EvH.of 1 [some (.ref (ga γ 6 0)), some (.int (zI a)), some (.ref (ga γ 18 0)), none] rfl pn_L_signAt rfl (Nat.le_of_ble_eq_true rfl) ?_
  refine h_aload_n (q := 1) dL_signAt_0 rfl rfl ?_
  refine h_iconst (q := 2) dL_signAt_1 rfl ?_
  refine h_aload_n (q := 3) dL_signAt_2 rfl rfl ?_
  refine h_iload_n (q := 4) dL_signAt_3 rfl rfl ?_
  refine hO_1 (My := mX4_signAt) (q := 7) dL_signAt_4 rfl kL_33 vX4_signAt (hG _ _ rfl) rfl hE ⟨by decide, by decide⟩ ⟨by omega, by omega⟩ (Nat.le_of_ble_eq_true rfl) ?_
  rw [Nat.zero_add, Nat.zero_add]
  refine h_i2l (q := 8) dL_signAt_7 rfl hv ?_
  refine h_lastO (q := 9) dL_signAt_8 rfl (hG _ _ rfl) ?_
  refine h_goto (q := 15) dL_signAt_9 (by decide) ?_
  refine h_iconst (q := 16) dL_signAt_15 rfl ?_
  refine h_reti dL_signAt_16 rfl (Nat.le_refl _) (Nat.le_refl _) ?_
  exact ⟨rfl, rfl, rfl⟩
theorem tk_signAt_I : Tk mL_signAt hh_signAt 4 "java/lang/IndexOutOfBoundsException" 12 := by
  refine ⟨by decide, [], ⟨0, 9, 12, 25⟩, [], rfl, ?_, by decide, by decide, cl_25, rfl⟩
  exact fun z hz => by cases hz
set_option maxRecDepth 100000 in
set_option maxHeartbeats 4000000 in
theorem hl_signAt_I (hG : Full γ) {a : Int} (hE : Ev γ mX4_signAt 7 1 6 [.ref (ga γ 6 0), .int (zI a)] σ xs nR (thr "java/lang/IndexOutOfBoundsException" σ1 xs)) : EvH γ mL_signAt hh_signAt 8 1 6 [.ref (ga γ 6 0), .int (zI a), .ref (ga γ 18 0)] σ xs (rtn (some (.int (zI 1))) σ1 xs) nX := by
  refine EvH.of 1 [some (.ref (ga γ 6 0)), some (.int (zI a)), some (.ref (ga γ 18 0)), none] rfl pn_L_signAt rfl (Nat.le_of_ble_eq_true rfl) ?_
  refine h_aload_n (q := 1) dL_signAt_0 rfl rfl ?_
  refine h_iconst (q := 2) dL_signAt_1 rfl ?_
  refine h_aload_n (q := 3) dL_signAt_2 rfl rfl ?_
  refine h_iload_n (q := 4) dL_signAt_3 rfl rfl ?_
  refine hT_1 (My := mX4_signAt) (q := 7) (hp := 12) tk_signAt_I dL_signAt_4 rfl kL_33 vX4_signAt (hG _ _ rfl) rfl hE ⟨by decide, by decide⟩ ⟨by decide, by decide⟩ (Nat.le_of_ble_eq_true rfl) (fun q9 => ?_)
  refine h_astore_n (q := 13) dL_signAt_12 rfl (by decide) (Lst.setL rfl rfl) ?_
  refine h_iconst (q := 14) dL_signAt_13 rfl ?_
  refine h_reti dL_signAt_14 rfl (by decide) (by decide) ?_
  exact ⟨rfl, rfl, rfl⟩
set_option maxRecDepth 100000 in
set_option maxHeartbeats 4000000 in
theorem hl_parse (hG : Full γ) {a : Int} {ky ny : Nat} {v : Int} (hv : -2147483648 ≤ v ∧ v ≤ 2147483647) (hE : Ev γ mX4_parse 9 ky ny [.ref (ga γ 6 0), .int (zI a)] σ xs (rtn (some (.int (zI v))) σ1 xs) nX) : EvH γ mL_parse hh_parse 10 ky ny [.ref (ga γ 6 0), .int (zI a), .ref (ga γ 18 0)] σ xs (rtn (some (.int (zI 0))) (sOv σ1 v) xs) nX := by
  refine EvH.of 1 [some (.ref (ga γ 6 0)), some (.int (zI a)), some (.ref (ga γ 18 0)), none] rfl pn_L_parse rfl (Nat.le_of_ble_eq_true rfl) ?_
  refine h_aload_n (q := 1) dL_parse_0 rfl rfl ?_
  refine h_iconst (q := 2) dL_parse_1 rfl ?_
  refine h_aload_n (q := 3) dL_parse_2 rfl rfl ?_
  refine h_iload_n (q := 4) dL_parse_3 rfl rfl ?_
  refine hO_1 (My := mX4_parse) (q := 7) dL_parse_4 rfl kL_37 vX4_parse (hG _ _ rfl) rfl hE ⟨by decide, by decide⟩ ⟨by omega, by omega⟩ (Nat.le_of_ble_eq_true rfl) ?_
  rw [Nat.zero_add, Nat.zero_add]
  refine h_i2l (q := 8) dL_parse_7 rfl hv ?_
  refine h_lastO (q := 9) dL_parse_8 rfl (hG _ _ rfl) ?_
  refine h_goto (q := 18) dL_parse_9 (by decide) ?_
  refine h_iconst (q := 19) dL_parse_18 rfl ?_
  refine h_reti dL_parse_19 rfl (Nat.le_refl _) (Nat.le_refl _) ?_
  exact ⟨rfl, rfl, rfl⟩
theorem tk_parse_I : Tk mL_parse hh_parse 4 "java/lang/IndexOutOfBoundsException" 12 := by
  refine ⟨by decide, [], ⟨0, 9, 12, 25⟩, [⟨0, 9, 15, 15⟩], rfl, ?_, by decide, by decide, cl_25, rfl⟩
  exact fun z hz => by cases hz
set_option maxRecDepth 100000 in
set_option maxHeartbeats 4000000 in
theorem hl_parse_I (hG : Full γ) {a : Int} (hE : Ev γ mX4_parse 9 1 6 [.ref (ga γ 6 0), .int (zI a)] σ xs nR (thr "java/lang/IndexOutOfBoundsException" σ1 xs)) : EvH γ mL_parse hh_parse 10 1 6 [.ref (ga γ 6 0), .int (zI a), .ref (ga γ 18 0)] σ xs (rtn (some (.int (zI 1))) σ1 xs) nX := by
  refine EvH.of 1 [some (.ref (ga γ 6 0)), some (.int (zI a)), some (.ref (ga γ 18 0)), none] rfl pn_L_parse rfl (Nat.le_of_ble_eq_true rfl) ?_
  refine h_aload_n (q := 1) dL_parse_0 rfl rfl ?_
  refine h_iconst (q := 2) dL_parse_1 rfl ?_
  refine h_aload_n (q := 3) dL_parse_2 rfl rfl ?_
  refine h_iload_n (q := 4) dL_parse_3 rfl rfl ?_
  refine hT_1 (My := mX4_parse) (q := 7) (hp := 12) tk_parse_I dL_parse_4 rfl kL_37 vX4_parse (hG _ _ rfl) rfl hE ⟨by decide, by decide⟩ ⟨by decide, by decide⟩ (Nat.le_of_ble_eq_true rfl) (fun q9 => ?_)
  refine h_astore_n (q := 13) dL_parse_12 rfl (by decide) (Lst.setL rfl rfl) ?_
  refine h_iconst (q := 14) dL_parse_13 rfl ?_
  refine h_reti dL_parse_14 rfl (by decide) (by decide) ?_
  exact ⟨rfl, rfl, rfl⟩
theorem tk_parse_S : Tk mL_parse hh_parse 4 "java/lang/IllegalStateException" 15 := by
  refine ⟨by decide, [⟨0, 9, 12, 25⟩], ⟨0, 9, 15, 15⟩, [], rfl, ?_, by decide, by decide, cl_15, rfl⟩
  exact fun z hz => by
    simp only [List.mem_cons, List.not_mem_nil, or_false] at hz
    rcases hz with rfl
    · exact ⟨by decide, "java/lang/IndexOutOfBoundsException", by decide, by decide, cl_25⟩
set_option maxRecDepth 100000 in
set_option maxHeartbeats 4000000 in
theorem hl_parse_S (hG : Full γ) {a : Int} (hE : Ev γ mX4_parse 9 1 6 [.ref (ga γ 6 0), .int (zI a)] σ xs nR (thr "java/lang/IllegalStateException" σ1 xs)) : EvH γ mL_parse hh_parse 10 1 6 [.ref (ga γ 6 0), .int (zI a), .ref (ga γ 18 0)] σ xs (rtn (some (.int (zI 2))) σ1 xs) nX := by
  refine EvH.of 1 [some (.ref (ga γ 6 0)), some (.int (zI a)), some (.ref (ga γ 18 0)), none] rfl pn_L_parse rfl (Nat.le_of_ble_eq_true rfl) ?_
  refine h_aload_n (q := 1) dL_parse_0 rfl rfl ?_
  refine h_iconst (q := 2) dL_parse_1 rfl ?_
  refine h_aload_n (q := 3) dL_parse_2 rfl rfl ?_
  refine h_iload_n (q := 4) dL_parse_3 rfl rfl ?_
  refine hT_1 (My := mX4_parse) (q := 7) (hp := 15) tk_parse_S dL_parse_4 rfl kL_37 vX4_parse (hG _ _ rfl) rfl hE ⟨by decide, by decide⟩ ⟨by decide, by decide⟩ (Nat.le_of_ble_eq_true rfl) (fun q9 => ?_)
  refine h_astore_n (q := 16) dL_parse_15 rfl (by decide) (Lst.setL rfl rfl) ?_
  refine h_iconst (q := 17) dL_parse_16 rfl ?_
  refine h_reti dL_parse_17 rfl (by decide) (by decide) ?_
  exact ⟨rfl, rfl, rfl⟩
set_option maxRecDepth 100000 in
set_option maxHeartbeats 4000000 in
theorem hl_refusedAt (hG : Full γ) {ky ny : Nat} {v : Int} (hv : -2147483648 ≤ v ∧ v ≤ 2147483647) (hE : Ev γ mX4_refusedAt 7 ky ny [.ref (ga γ 6 0)] σ xs (rtn (some (.int (zI v))) σ1 xs) nX) : EvH γ mL_refusedAt hh_refusedAt 8 ky ny [.ref (ga γ 6 0), .ref (ga γ 18 0)] σ xs (rtn (some (.int (zI 0))) (sOv σ1 v) xs) nX := by
  refine EvH.of 1 [some (.ref (ga γ 6 0)), some (.ref (ga γ 18 0)), none] rfl pn_L_refusedAt rfl (Nat.le_of_ble_eq_true rfl) ?_
  refine h_aload_n (q := 1) dL_refusedAt_0 rfl rfl ?_
  refine h_iconst (q := 2) dL_refusedAt_1 rfl ?_
  refine h_aload_n (q := 3) dL_refusedAt_2 rfl rfl ?_
  refine hO_0 (My := mX4_refusedAt) (q := 6) dL_refusedAt_3 rfl kL_40 vX4_refusedAt (hG _ _ rfl) rfl hE ⟨by decide, by decide⟩ ⟨by omega, by omega⟩ (Nat.le_of_ble_eq_true rfl) ?_
  rw [Nat.zero_add, Nat.zero_add]
  refine h_i2l (q := 7) dL_refusedAt_6 rfl hv ?_
  refine h_lastO (q := 8) dL_refusedAt_7 rfl (hG _ _ rfl) ?_
  refine h_goto (q := 14) dL_refusedAt_8 (by decide) ?_
  refine h_iconst (q := 15) dL_refusedAt_14 rfl ?_
  refine h_reti dL_refusedAt_15 rfl (Nat.le_refl _) (Nat.le_refl _) ?_
  exact ⟨rfl, rfl, rfl⟩
theorem tk_refusedAt_N : Tk mL_refusedAt hh_refusedAt 3 "java/util/NoSuchElementException" 11 := by
  refine ⟨by decide, [], ⟨0, 8, 11, 31⟩, [], rfl, ?_, by decide, by decide, cl_31, rfl⟩
  exact fun z hz => by cases hz
set_option maxRecDepth 100000 in
set_option maxHeartbeats 4000000 in
theorem hl_refusedAt_N (hG : Full γ) (hE : Ev γ mX4_refusedAt 7 1 6 [.ref (ga γ 6 0)] σ xs nR (thr "java/util/NoSuchElementException" σ1 xs)) : EvH γ mL_refusedAt hh_refusedAt 8 1 6 [.ref (ga γ 6 0), .ref (ga γ 18 0)] σ xs (rtn (some (.int (zI 1))) σ1 xs) nX := by
  refine EvH.of 1 [some (.ref (ga γ 6 0)), some (.ref (ga γ 18 0)), none] rfl pn_L_refusedAt rfl (Nat.le_of_ble_eq_true rfl) ?_
  refine h_aload_n (q := 1) dL_refusedAt_0 rfl rfl ?_
  refine h_iconst (q := 2) dL_refusedAt_1 rfl ?_
  refine h_aload_n (q := 3) dL_refusedAt_2 rfl rfl ?_
  refine hT_0 (My := mX4_refusedAt) (q := 6) (hp := 11) tk_refusedAt_N dL_refusedAt_3 rfl kL_40 vX4_refusedAt (hG _ _ rfl) rfl hE ⟨by decide, by decide⟩ ⟨by decide, by decide⟩ (Nat.le_of_ble_eq_true rfl) (fun q9 => ?_)
  refine h_astore_n (q := 12) dL_refusedAt_11 rfl (by decide) (Lst.setL rfl rfl) ?_
  refine h_iconst (q := 13) dL_refusedAt_12 rfl ?_
  refine h_reti dL_refusedAt_13 rfl (by decide) (by decide) ?_
  exact ⟨rfl, rfl, rfl⟩
set_option maxRecDepth 100000 in
set_option maxHeartbeats 4000000 in
theorem hl_isTold (hG : Full γ) {ky ny : Nat} {v : Bool} (hE : Ev γ mX4_isTold 7 ky ny [.ref (ga γ 6 0)] σ xs (rtn (some (.int (zI (bI v)))) σ1 xs) nX) : EvH γ mL_isTold hh_isTold 8 ky ny [.ref (ga γ 6 0), .ref (ga γ 18 0)] σ xs (rtn (some (.int (zI 0))) (sOv σ1 (bI v)) xs) nX := by
  refine EvH.of 1 [some (.ref (ga γ 6 0)), some (.ref (ga γ 18 0)), none] rfl pn_L_isTold rfl (Nat.le_of_ble_eq_true rfl) ?_
  refine h_aload_n (q := 1) dL_isTold_0 rfl rfl ?_
  refine h_iconst (q := 2) dL_isTold_1 rfl ?_
  refine h_aload_n (q := 3) dL_isTold_2 rfl rfl ?_
  refine hO_0 (My := mX4_isTold) (q := 6) dL_isTold_3 rfl kL_43 vX4_isTold (hG _ _ rfl) rfl hE ⟨by decide, by decide⟩ ⟨by omega, by omega⟩ (Nat.le_of_ble_eq_true rfl) ?_
  rw [Nat.zero_add, Nat.zero_add]
  refine h_ifB_eq (q := 9) (tgt := 13) dL_isTold_6 rfl (by decide) (fun h => ?_) (fun h => ?_)
  · refine h_lconst (z := 0) (q := 14) dL_isTold_13 rfl (by decide +kernel) ?_
    refine h_lastO (q := 15) dL_isTold_14 rfl (hG _ _ rfl) ?_
    refine h_goto (q := 21) dL_isTold_15 (by decide) ?_
    refine h_iconst (q := 22) dL_isTold_21 rfl ?_
    refine h_reti dL_isTold_22 rfl (Nat.le_refl _) (Nat.le_refl _) ?_
    exact ⟨rfl, by subst h; rfl, rfl⟩
  · refine h_lconst (z := 1) (q := 10) dL_isTold_9 rfl (by decide +kernel) ?_
    refine h_goto (q := 14) dL_isTold_10 (by decide) ?_
    refine h_lastO (q := 15) dL_isTold_14 rfl (hG _ _ rfl) ?_
    refine h_goto (q := 21) dL_isTold_15 (by decide) ?_
    refine h_iconst (q := 22) dL_isTold_21 rfl ?_
    refine h_reti dL_isTold_22 rfl (Nat.le_refl _) (Nat.le_refl _) ?_
    exact ⟨rfl, by subst h; rfl, rfl⟩
theorem tk_isTold_N : Tk mL_isTold hh_isTold 3 "java/util/NoSuchElementException" 18 := by
  refine ⟨by decide, [], ⟨0, 15, 18, 31⟩, [], rfl, ?_, by decide, by decide, cl_31, rfl⟩
  exact fun z hz => by cases hz
set_option maxRecDepth 100000 in
set_option maxHeartbeats 4000000 in
theorem hl_isTold_N (hG : Full γ) (hE : Ev γ mX4_isTold 7 1 6 [.ref (ga γ 6 0)] σ xs nR (thr "java/util/NoSuchElementException" σ1 xs)) : EvH γ mL_isTold hh_isTold 8 1 6 [.ref (ga γ 6 0), .ref (ga γ 18 0)] σ xs (rtn (some (.int (zI 1))) σ1 xs) nX := by
  refine EvH.of 1 [some (.ref (ga γ 6 0)), some (.ref (ga γ 18 0)), none] rfl pn_L_isTold rfl (Nat.le_of_ble_eq_true rfl) ?_
  refine h_aload_n (q := 1) dL_isTold_0 rfl rfl ?_
  refine h_iconst (q := 2) dL_isTold_1 rfl ?_
  refine h_aload_n (q := 3) dL_isTold_2 rfl rfl ?_
  refine hT_0 (My := mX4_isTold) (q := 6) (hp := 18) tk_isTold_N dL_isTold_3 rfl kL_43 vX4_isTold (hG _ _ rfl) rfl hE ⟨by decide, by decide⟩ ⟨by decide, by decide⟩ (Nat.le_of_ble_eq_true rfl) (fun q9 => ?_)
  refine h_astore_n (q := 19) dL_isTold_18 rfl (by decide) (Lst.setL rfl rfl) ?_
  refine h_iconst (q := 20) dL_isTold_19 rfl ?_
  refine h_reti dL_isTold_20 rfl (by decide) (by decide) ?_
  exact ⟨rfl, rfl, rfl⟩
set_option maxRecDepth 100000 in
set_option maxHeartbeats 4000000 in
theorem hl_isThere (hG : Full γ) {a : Int} {ky ny : Nat} {v : Bool} (hE : Ev γ mX4_isThere 7 ky ny [.ref (ga γ 6 0), .int (zI a)] σ xs (rtn (some (.int (zI (bI v)))) σ1 xs) nX) : EvH γ mL_isThere hh_isThere 8 ky ny [.ref (ga γ 6 0), .int (zI a), .ref (ga γ 18 0)] σ xs (rtn (some (.int (zI 0))) (sOv σ1 (bI v)) xs) nX := by
  refine EvH.of 1 [some (.ref (ga γ 6 0)), some (.int (zI a)), some (.ref (ga γ 18 0)), none] rfl pn_L_isThere rfl (Nat.le_of_ble_eq_true rfl) ?_
  refine h_aload_n (q := 1) dL_isThere_0 rfl rfl ?_
  refine h_iconst (q := 2) dL_isThere_1 rfl ?_
  refine h_aload_n (q := 3) dL_isThere_2 rfl rfl ?_
  refine h_iload_n (q := 4) dL_isThere_3 rfl rfl ?_
  refine hO_1 (My := mX4_isThere) (q := 7) dL_isThere_4 rfl kL_47 vX4_isThere (hG _ _ rfl) rfl hE ⟨by decide, by decide⟩ ⟨by omega, by omega⟩ (Nat.le_of_ble_eq_true rfl) ?_
  rw [Nat.zero_add, Nat.zero_add]
  refine h_ifB_eq (q := 10) (tgt := 14) dL_isThere_7 rfl (by decide) (fun h => ?_) (fun h => ?_)
  · refine h_lconst (z := 0) (q := 15) dL_isThere_14 rfl (by decide +kernel) ?_
    refine h_lastO (q := 16) dL_isThere_15 rfl (hG _ _ rfl) ?_
    refine h_goto (q := 22) dL_isThere_16 (by decide) ?_
    refine h_iconst (q := 23) dL_isThere_22 rfl ?_
    refine h_reti dL_isThere_23 rfl (Nat.le_refl _) (Nat.le_refl _) ?_
    exact ⟨rfl, by subst h; rfl, rfl⟩
  · refine h_lconst (z := 1) (q := 11) dL_isThere_10 rfl (by decide +kernel) ?_
    refine h_goto (q := 15) dL_isThere_11 (by decide) ?_
    refine h_lastO (q := 16) dL_isThere_15 rfl (hG _ _ rfl) ?_
    refine h_goto (q := 22) dL_isThere_16 (by decide) ?_
    refine h_iconst (q := 23) dL_isThere_22 rfl ?_
    refine h_reti dL_isThere_23 rfl (Nat.le_refl _) (Nat.le_refl _) ?_
    exact ⟨rfl, by subst h; rfl, rfl⟩
theorem tk_isThere_I : Tk mL_isThere hh_isThere 4 "java/lang/IndexOutOfBoundsException" 19 := by
  refine ⟨by decide, [], ⟨0, 16, 19, 25⟩, [], rfl, ?_, by decide, by decide, cl_25, rfl⟩
  exact fun z hz => by cases hz
set_option maxRecDepth 100000 in
set_option maxHeartbeats 4000000 in
theorem hl_isThere_I (hG : Full γ) {a : Int} (hE : Ev γ mX4_isThere 7 1 6 [.ref (ga γ 6 0), .int (zI a)] σ xs nR (thr "java/lang/IndexOutOfBoundsException" σ1 xs)) : EvH γ mL_isThere hh_isThere 8 1 6 [.ref (ga γ 6 0), .int (zI a), .ref (ga γ 18 0)] σ xs (rtn (some (.int (zI 1))) σ1 xs) nX := by
  refine EvH.of 1 [some (.ref (ga γ 6 0)), some (.int (zI a)), some (.ref (ga γ 18 0)), none] rfl pn_L_isThere rfl (Nat.le_of_ble_eq_true rfl) ?_
  refine h_aload_n (q := 1) dL_isThere_0 rfl rfl ?_
  refine h_iconst (q := 2) dL_isThere_1 rfl ?_
  refine h_aload_n (q := 3) dL_isThere_2 rfl rfl ?_
  refine h_iload_n (q := 4) dL_isThere_3 rfl rfl ?_
  refine hT_1 (My := mX4_isThere) (q := 7) (hp := 19) tk_isThere_I dL_isThere_4 rfl kL_47 vX4_isThere (hG _ _ rfl) rfl hE ⟨by decide, by decide⟩ ⟨by decide, by decide⟩ (Nat.le_of_ble_eq_true rfl) (fun q9 => ?_)
  refine h_astore_n (q := 20) dL_isThere_19 rfl (by decide) (Lst.setL rfl rfl) ?_
  refine h_iconst (q := 21) dL_isThere_20 rfl ?_
  refine h_reti dL_isThere_21 rfl (by decide) (by decide) ?_
  exact ⟨rfl, rfl, rfl⟩
set_option maxRecDepth 100000 in
set_option maxHeartbeats 4000000 in
theorem hl_isAbsolute (hG : Full γ) {a : Int} {ky ny : Nat} {v : Bool} (hE : Ev γ mX4_isAbsolute 8 ky ny [.ref (ga γ 6 0), .int (zI a)] σ xs (rtn (some (.int (zI (bI v)))) σ1 xs) nX) : EvH γ mL_isAbsolute hh_isAbsolute 9 ky ny [.ref (ga γ 6 0), .int (zI a), .ref (ga γ 18 0)] σ xs (rtn (some (.int (zI 0))) (sOv σ1 (bI v)) xs) nX := by
  refine EvH.of 1 [some (.ref (ga γ 6 0)), some (.int (zI a)), some (.ref (ga γ 18 0)), none] rfl pn_L_isAbsolute rfl (Nat.le_of_ble_eq_true rfl) ?_
  refine h_aload_n (q := 1) dL_isAbsolute_0 rfl rfl ?_
  refine h_iconst (q := 2) dL_isAbsolute_1 rfl ?_
  refine h_aload_n (q := 3) dL_isAbsolute_2 rfl rfl ?_
  refine h_iload_n (q := 4) dL_isAbsolute_3 rfl rfl ?_
  refine hO_1 (My := mX4_isAbsolute) (q := 7) dL_isAbsolute_4 rfl kL_51 vX4_isAbsolute (hG _ _ rfl) rfl hE ⟨by decide, by decide⟩ ⟨by omega, by omega⟩ (Nat.le_of_ble_eq_true rfl) ?_
  rw [Nat.zero_add, Nat.zero_add]
  refine h_ifB_eq (q := 10) (tgt := 14) dL_isAbsolute_7 rfl (by decide) (fun h => ?_) (fun h => ?_)
  · refine h_lconst (z := 0) (q := 15) dL_isAbsolute_14 rfl (by decide +kernel) ?_
    refine h_lastO (q := 16) dL_isAbsolute_15 rfl (hG _ _ rfl) ?_
    refine h_goto (q := 25) dL_isAbsolute_16 (by decide) ?_
    refine h_iconst (q := 26) dL_isAbsolute_25 rfl ?_
    refine h_reti dL_isAbsolute_26 rfl (Nat.le_refl _) (Nat.le_refl _) ?_
    exact ⟨rfl, by subst h; rfl, rfl⟩
  · refine h_lconst (z := 1) (q := 11) dL_isAbsolute_10 rfl (by decide +kernel) ?_
    refine h_goto (q := 15) dL_isAbsolute_11 (by decide) ?_
    refine h_lastO (q := 16) dL_isAbsolute_15 rfl (hG _ _ rfl) ?_
    refine h_goto (q := 25) dL_isAbsolute_16 (by decide) ?_
    refine h_iconst (q := 26) dL_isAbsolute_25 rfl ?_
    refine h_reti dL_isAbsolute_26 rfl (Nat.le_refl _) (Nat.le_refl _) ?_
    exact ⟨rfl, by subst h; rfl, rfl⟩
theorem tk_isAbsolute_I : Tk mL_isAbsolute hh_isAbsolute 4 "java/lang/IndexOutOfBoundsException" 19 := by
  refine ⟨by decide, [], ⟨0, 16, 19, 25⟩, [⟨0, 16, 22, 31⟩], rfl, ?_, by decide, by decide, cl_25, rfl⟩
  exact fun z hz => by cases hz
set_option maxRecDepth 100000 in
set_option maxHeartbeats 4000000 in
theorem hl_isAbsolute_I (hG : Full γ) {a : Int} (hE : Ev γ mX4_isAbsolute 8 1 6 [.ref (ga γ 6 0), .int (zI a)] σ xs nR (thr "java/lang/IndexOutOfBoundsException" σ1 xs)) : EvH γ mL_isAbsolute hh_isAbsolute 9 1 6 [.ref (ga γ 6 0), .int (zI a), .ref (ga γ 18 0)] σ xs (rtn (some (.int (zI 1))) σ1 xs) nX := by
  refine EvH.of 1 [some (.ref (ga γ 6 0)), some (.int (zI a)), some (.ref (ga γ 18 0)), none] rfl pn_L_isAbsolute rfl (Nat.le_of_ble_eq_true rfl) ?_
  refine h_aload_n (q := 1) dL_isAbsolute_0 rfl rfl ?_
  refine h_iconst (q := 2) dL_isAbsolute_1 rfl ?_
  refine h_aload_n (q := 3) dL_isAbsolute_2 rfl rfl ?_
  refine h_iload_n (q := 4) dL_isAbsolute_3 rfl rfl ?_
  refine hT_1 (My := mX4_isAbsolute) (q := 7) (hp := 19) tk_isAbsolute_I dL_isAbsolute_4 rfl kL_51 vX4_isAbsolute (hG _ _ rfl) rfl hE ⟨by decide, by decide⟩ ⟨by decide, by decide⟩ (Nat.le_of_ble_eq_true rfl) (fun q9 => ?_)
  refine h_astore_n (q := 20) dL_isAbsolute_19 rfl (by decide) (Lst.setL rfl rfl) ?_
  refine h_iconst (q := 21) dL_isAbsolute_20 rfl ?_
  refine h_reti dL_isAbsolute_21 rfl (by decide) (by decide) ?_
  exact ⟨rfl, rfl, rfl⟩
theorem tk_isAbsolute_N : Tk mL_isAbsolute hh_isAbsolute 4 "java/util/NoSuchElementException" 22 := by
  refine ⟨by decide, [⟨0, 16, 19, 25⟩], ⟨0, 16, 22, 31⟩, [], rfl, ?_, by decide, by decide, cl_31, rfl⟩
  exact fun z hz => by
    simp only [List.mem_cons, List.not_mem_nil, or_false] at hz
    rcases hz with rfl
    · exact ⟨by decide, "java/lang/IndexOutOfBoundsException", by decide, by decide, cl_25⟩
set_option maxRecDepth 100000 in
set_option maxHeartbeats 4000000 in
theorem hl_isAbsolute_N (hG : Full γ) {a : Int} (hE : Ev γ mX4_isAbsolute 8 1 6 [.ref (ga γ 6 0), .int (zI a)] σ xs nR (thr "java/util/NoSuchElementException" σ1 xs)) : EvH γ mL_isAbsolute hh_isAbsolute 9 1 6 [.ref (ga γ 6 0), .int (zI a), .ref (ga γ 18 0)] σ xs (rtn (some (.int (zI 2))) σ1 xs) nX := by
  refine EvH.of 1 [some (.ref (ga γ 6 0)), some (.int (zI a)), some (.ref (ga γ 18 0)), none] rfl pn_L_isAbsolute rfl (Nat.le_of_ble_eq_true rfl) ?_
  refine h_aload_n (q := 1) dL_isAbsolute_0 rfl rfl ?_
  refine h_iconst (q := 2) dL_isAbsolute_1 rfl ?_
  refine h_aload_n (q := 3) dL_isAbsolute_2 rfl rfl ?_
  refine h_iload_n (q := 4) dL_isAbsolute_3 rfl rfl ?_
  refine hT_1 (My := mX4_isAbsolute) (q := 7) (hp := 22) tk_isAbsolute_N dL_isAbsolute_4 rfl kL_51 vX4_isAbsolute (hG _ _ rfl) rfl hE ⟨by decide, by decide⟩ ⟨by decide, by decide⟩ (Nat.le_of_ble_eq_true rfl) (fun q9 => ?_)
  refine h_astore_n (q := 23) dL_isAbsolute_22 rfl (by decide) (Lst.setL rfl rfl) ?_
  refine h_iconst (q := 24) dL_isAbsolute_23 rfl ?_
  refine h_reti dL_isAbsolute_24 rfl (by decide) (by decide) ?_
  exact ⟨rfl, rfl, rfl⟩
set_option maxRecDepth 100000 in
set_option maxHeartbeats 4000000 in
theorem hl_isOpaque (hG : Full γ) {a : Int} {ky ny : Nat} {v : Bool} (hE : Ev γ mX4_isOpaque 8 ky ny [.ref (ga γ 6 0), .int (zI a)] σ xs (rtn (some (.int (zI (bI v)))) σ1 xs) nX) : EvH γ mL_isOpaque hh_isOpaque 9 ky ny [.ref (ga γ 6 0), .int (zI a), .ref (ga γ 18 0)] σ xs (rtn (some (.int (zI 0))) (sOv σ1 (bI v)) xs) nX := by
  refine EvH.of 1 [some (.ref (ga γ 6 0)), some (.int (zI a)), some (.ref (ga γ 18 0)), none] rfl pn_L_isOpaque rfl (Nat.le_of_ble_eq_true rfl) ?_
  refine h_aload_n (q := 1) dL_isOpaque_0 rfl rfl ?_
  refine h_iconst (q := 2) dL_isOpaque_1 rfl ?_
  refine h_aload_n (q := 3) dL_isOpaque_2 rfl rfl ?_
  refine h_iload_n (q := 4) dL_isOpaque_3 rfl rfl ?_
  refine hO_1 (My := mX4_isOpaque) (q := 7) dL_isOpaque_4 rfl kL_54 vX4_isOpaque (hG _ _ rfl) rfl hE ⟨by decide, by decide⟩ ⟨by omega, by omega⟩ (Nat.le_of_ble_eq_true rfl) ?_
  rw [Nat.zero_add, Nat.zero_add]
  refine h_ifB_eq (q := 10) (tgt := 14) dL_isOpaque_7 rfl (by decide) (fun h => ?_) (fun h => ?_)
  · refine h_lconst (z := 0) (q := 15) dL_isOpaque_14 rfl (by decide +kernel) ?_
    refine h_lastO (q := 16) dL_isOpaque_15 rfl (hG _ _ rfl) ?_
    refine h_goto (q := 25) dL_isOpaque_16 (by decide) ?_
    refine h_iconst (q := 26) dL_isOpaque_25 rfl ?_
    refine h_reti dL_isOpaque_26 rfl (Nat.le_refl _) (Nat.le_refl _) ?_
    exact ⟨rfl, by subst h; rfl, rfl⟩
  · refine h_lconst (z := 1) (q := 11) dL_isOpaque_10 rfl (by decide +kernel) ?_
    refine h_goto (q := 15) dL_isOpaque_11 (by decide) ?_
    refine h_lastO (q := 16) dL_isOpaque_15 rfl (hG _ _ rfl) ?_
    refine h_goto (q := 25) dL_isOpaque_16 (by decide) ?_
    refine h_iconst (q := 26) dL_isOpaque_25 rfl ?_
    refine h_reti dL_isOpaque_26 rfl (Nat.le_refl _) (Nat.le_refl _) ?_
    exact ⟨rfl, by subst h; rfl, rfl⟩
theorem tk_isOpaque_I : Tk mL_isOpaque hh_isOpaque 4 "java/lang/IndexOutOfBoundsException" 19 := by
  refine ⟨by decide, [], ⟨0, 16, 19, 25⟩, [⟨0, 16, 22, 31⟩], rfl, ?_, by decide, by decide, cl_25, rfl⟩
  exact fun z hz => by cases hz
set_option maxRecDepth 100000 in
set_option maxHeartbeats 4000000 in
theorem hl_isOpaque_I (hG : Full γ) {a : Int} (hE : Ev γ mX4_isOpaque 8 1 6 [.ref (ga γ 6 0), .int (zI a)] σ xs nR (thr "java/lang/IndexOutOfBoundsException" σ1 xs)) : EvH γ mL_isOpaque hh_isOpaque 9 1 6 [.ref (ga γ 6 0), .int (zI a), .ref (ga γ 18 0)] σ xs (rtn (some (.int (zI 1))) σ1 xs) nX := by
  refine EvH.of 1 [some (.ref (ga γ 6 0)), some (.int (zI a)), some (.ref (ga γ 18 0)), none] rfl pn_L_isOpaque rfl (Nat.le_of_ble_eq_true rfl) ?_
  refine h_aload_n (q := 1) dL_isOpaque_0 rfl rfl ?_
  refine h_iconst (q := 2) dL_isOpaque_1 rfl ?_
  refine h_aload_n (q := 3) dL_isOpaque_2 rfl rfl ?_
  refine h_iload_n (q := 4) dL_isOpaque_3 rfl rfl ?_
  refine hT_1 (My := mX4_isOpaque) (q := 7) (hp := 19) tk_isOpaque_I dL_isOpaque_4 rfl kL_54 vX4_isOpaque (hG _ _ rfl) rfl hE ⟨by decide, by decide⟩ ⟨by decide, by decide⟩ (Nat.le_of_ble_eq_true rfl) (fun q9 => ?_)
  refine h_astore_n (q := 20) dL_isOpaque_19 rfl (by decide) (Lst.setL rfl rfl) ?_
  refine h_iconst (q := 21) dL_isOpaque_20 rfl ?_
  refine h_reti dL_isOpaque_21 rfl (by decide) (by decide) ?_
  exact ⟨rfl, rfl, rfl⟩
theorem tk_isOpaque_N : Tk mL_isOpaque hh_isOpaque 4 "java/util/NoSuchElementException" 22 := by
  refine ⟨by decide, [⟨0, 16, 19, 25⟩], ⟨0, 16, 22, 31⟩, [], rfl, ?_, by decide, by decide, cl_31, rfl⟩
  exact fun z hz => by
    simp only [List.mem_cons, List.not_mem_nil, or_false] at hz
    rcases hz with rfl
    · exact ⟨by decide, "java/lang/IndexOutOfBoundsException", by decide, by decide, cl_25⟩
set_option maxRecDepth 100000 in
set_option maxHeartbeats 4000000 in
theorem hl_isOpaque_N (hG : Full γ) {a : Int} (hE : Ev γ mX4_isOpaque 8 1 6 [.ref (ga γ 6 0), .int (zI a)] σ xs nR (thr "java/util/NoSuchElementException" σ1 xs)) : EvH γ mL_isOpaque hh_isOpaque 9 1 6 [.ref (ga γ 6 0), .int (zI a), .ref (ga γ 18 0)] σ xs (rtn (some (.int (zI 2))) σ1 xs) nX := by
  refine EvH.of 1 [some (.ref (ga γ 6 0)), some (.int (zI a)), some (.ref (ga γ 18 0)), none] rfl pn_L_isOpaque rfl (Nat.le_of_ble_eq_true rfl) ?_
  refine h_aload_n (q := 1) dL_isOpaque_0 rfl rfl ?_
  refine h_iconst (q := 2) dL_isOpaque_1 rfl ?_
  refine h_aload_n (q := 3) dL_isOpaque_2 rfl rfl ?_
  refine h_iload_n (q := 4) dL_isOpaque_3 rfl rfl ?_
  refine hT_1 (My := mX4_isOpaque) (q := 7) (hp := 22) tk_isOpaque_N dL_isOpaque_4 rfl kL_54 vX4_isOpaque (hG _ _ rfl) rfl hE ⟨by decide, by decide⟩ ⟨by decide, by decide⟩ (Nat.le_of_ble_eq_true rfl) (fun q9 => ?_)
  refine h_astore_n (q := 23) dL_isOpaque_22 rfl (by decide) (Lst.setL rfl rfl) ?_
  refine h_iconst (q := 24) dL_isOpaque_23 rfl ?_
  refine h_reti dL_isOpaque_24 rfl (by decide) (by decide) ?_
  exact ⟨rfl, rfl, rfl⟩
set_option maxRecDepth 100000 in
set_option maxHeartbeats 4000000 in
theorem hl_port (hG : Full γ) {a : Int} {ky ny : Nat} {v : Int} (hv : -2147483648 ≤ v ∧ v ≤ 2147483647) (hE : Ev γ mX4_port 8 ky ny [.ref (ga γ 6 0), .int (zI a)] σ xs (rtn (some (.int (zI v))) σ1 xs) nX) : EvH γ mL_port hh_port 9 ky ny [.ref (ga γ 6 0), .int (zI a), .ref (ga γ 18 0)] σ xs (rtn (some (.int (zI 0))) (sOv σ1 v) xs) nX := by
  refine EvH.of 1 [some (.ref (ga γ 6 0)), some (.int (zI a)), some (.ref (ga γ 18 0)), none] rfl pn_L_port rfl (Nat.le_of_ble_eq_true rfl) ?_
  refine h_aload_n (q := 1) dL_port_0 rfl rfl ?_
  refine h_iconst (q := 2) dL_port_1 rfl ?_
  refine h_aload_n (q := 3) dL_port_2 rfl rfl ?_
  refine h_iload_n (q := 4) dL_port_3 rfl rfl ?_
  refine hO_1 (My := mX4_port) (q := 7) dL_port_4 rfl kL_57 vX4_port (hG _ _ rfl) rfl hE ⟨by decide, by decide⟩ ⟨by omega, by omega⟩ (Nat.le_of_ble_eq_true rfl) ?_
  rw [Nat.zero_add, Nat.zero_add]
  refine h_i2l (q := 8) dL_port_7 rfl hv ?_
  refine h_lastO (q := 9) dL_port_8 rfl (hG _ _ rfl) ?_
  refine h_goto (q := 18) dL_port_9 (by decide) ?_
  refine h_iconst (q := 19) dL_port_18 rfl ?_
  refine h_reti dL_port_19 rfl (Nat.le_refl _) (Nat.le_refl _) ?_
  exact ⟨rfl, rfl, rfl⟩
theorem tk_port_I : Tk mL_port hh_port 4 "java/lang/IndexOutOfBoundsException" 12 := by
  refine ⟨by decide, [], ⟨0, 9, 12, 25⟩, [⟨0, 9, 15, 31⟩], rfl, ?_, by decide, by decide, cl_25, rfl⟩
  exact fun z hz => by cases hz
set_option maxRecDepth 100000 in
set_option maxHeartbeats 4000000 in
theorem hl_port_I (hG : Full γ) {a : Int} (hE : Ev γ mX4_port 8 1 6 [.ref (ga γ 6 0), .int (zI a)] σ xs nR (thr "java/lang/IndexOutOfBoundsException" σ1 xs)) : EvH γ mL_port hh_port 9 1 6 [.ref (ga γ 6 0), .int (zI a), .ref (ga γ 18 0)] σ xs (rtn (some (.int (zI 1))) σ1 xs) nX := by
  refine EvH.of 1 [some (.ref (ga γ 6 0)), some (.int (zI a)), some (.ref (ga γ 18 0)), none] rfl pn_L_port rfl (Nat.le_of_ble_eq_true rfl) ?_
  refine h_aload_n (q := 1) dL_port_0 rfl rfl ?_
  refine h_iconst (q := 2) dL_port_1 rfl ?_
  refine h_aload_n (q := 3) dL_port_2 rfl rfl ?_
  refine h_iload_n (q := 4) dL_port_3 rfl rfl ?_
  refine hT_1 (My := mX4_port) (q := 7) (hp := 12) tk_port_I dL_port_4 rfl kL_57 vX4_port (hG _ _ rfl) rfl hE ⟨by decide, by decide⟩ ⟨by decide, by decide⟩ (Nat.le_of_ble_eq_true rfl) (fun q9 => ?_)
  refine h_astore_n (q := 13) dL_port_12 rfl (by decide) (Lst.setL rfl rfl) ?_
  refine h_iconst (q := 14) dL_port_13 rfl ?_
  refine h_reti dL_port_14 rfl (by decide) (by decide) ?_
  exact ⟨rfl, rfl, rfl⟩
theorem tk_port_N : Tk mL_port hh_port 4 "java/util/NoSuchElementException" 15 := by
  refine ⟨by decide, [⟨0, 9, 12, 25⟩], ⟨0, 9, 15, 31⟩, [], rfl, ?_, by decide, by decide, cl_31, rfl⟩
  exact fun z hz => by
    simp only [List.mem_cons, List.not_mem_nil, or_false] at hz
    rcases hz with rfl
    · exact ⟨by decide, "java/lang/IndexOutOfBoundsException", by decide, by decide, cl_25⟩
set_option maxRecDepth 100000 in
set_option maxHeartbeats 4000000 in
theorem hl_port_N (hG : Full γ) {a : Int} (hE : Ev γ mX4_port 8 1 6 [.ref (ga γ 6 0), .int (zI a)] σ xs nR (thr "java/util/NoSuchElementException" σ1 xs)) : EvH γ mL_port hh_port 9 1 6 [.ref (ga γ 6 0), .int (zI a), .ref (ga γ 18 0)] σ xs (rtn (some (.int (zI 2))) σ1 xs) nX := by
  refine EvH.of 1 [some (.ref (ga γ 6 0)), some (.int (zI a)), some (.ref (ga γ 18 0)), none] rfl pn_L_port rfl (Nat.le_of_ble_eq_true rfl) ?_
  refine h_aload_n (q := 1) dL_port_0 rfl rfl ?_
  refine h_iconst (q := 2) dL_port_1 rfl ?_
  refine h_aload_n (q := 3) dL_port_2 rfl rfl ?_
  refine h_iload_n (q := 4) dL_port_3 rfl rfl ?_
  refine hT_1 (My := mX4_port) (q := 7) (hp := 15) tk_port_N dL_port_4 rfl kL_57 vX4_port (hG _ _ rfl) rfl hE ⟨by decide, by decide⟩ ⟨by decide, by decide⟩ (Nat.le_of_ble_eq_true rfl) (fun q9 => ?_)
  refine h_astore_n (q := 16) dL_port_15 rfl (by decide) (Lst.setL rfl rfl) ?_
  refine h_iconst (q := 17) dL_port_16 rfl ?_
  refine h_reti dL_port_17 rfl (by decide) (by decide) ?_
  exact ⟨rfl, rfl, rfl⟩
set_option maxRecDepth 100000 in
set_option maxHeartbeats 4000000 in
theorem hl_size (hG : Full γ) {a : Int} {b : Int} {ky ny : Nat} {v : Int} (hv : -2147483648 ≤ v ∧ v ≤ 2147483647) (hE : Ev γ mX4_size 7 ky ny [.ref (ga γ 6 0), .int (zI a), .int (zI b)] σ xs (rtn (some (.int (zI v))) σ1 xs) nX) : EvH γ mL_size hh_size 8 ky ny [.ref (ga γ 6 0), .int (zI a), .int (zI b), .ref (ga γ 18 0)] σ xs (rtn (some (.int (zI 0))) (sOv σ1 v) xs) nX := by
  refine EvH.of 1 [some (.ref (ga γ 6 0)), some (.int (zI a)), some (.int (zI b)), some (.ref (ga γ 18 0)), none] rfl pn_L_size rfl (Nat.le_of_ble_eq_true rfl) ?_
  refine h_aload_n (q := 1) dL_size_0 rfl rfl ?_
  refine h_iconst (q := 2) dL_size_1 rfl ?_
  refine h_aload_n (q := 3) dL_size_2 rfl rfl ?_
  refine h_iload_n (q := 4) dL_size_3 rfl rfl ?_
  refine h_iload_n (q := 5) dL_size_4 rfl rfl ?_
  refine hO_2 (My := mX4_size) (q := 8) dL_size_5 rfl kL_60 vX4_size (hG _ _ rfl) rfl hE ⟨by decide, by decide⟩ ⟨by omega, by omega⟩ (Nat.le_of_ble_eq_true rfl) ?_
  rw [Nat.zero_add, Nat.zero_add]
  refine h_i2l (q := 9) dL_size_8 rfl hv ?_
  refine h_lastO (q := 10) dL_size_9 rfl (hG _ _ rfl) ?_
  refine h_goto (q := 25) dL_size_10 (by decide) ?_
  refine h_iconst (q := 26) dL_size_25 rfl ?_
  refine h_reti dL_size_26 rfl (Nat.le_refl _) (Nat.le_refl _) ?_
  exact ⟨rfl, rfl, rfl⟩
theorem tk_size_I : Tk mL_size hh_size 5 "java/lang/IndexOutOfBoundsException" 13 := by
  refine ⟨by decide, [], ⟨0, 10, 13, 25⟩, [⟨0, 10, 17, 13⟩, ⟨0, 10, 21, 31⟩], rfl, ?_, by decide, by decide, cl_25, rfl⟩
  exact fun z hz => by cases hz
set_option maxRecDepth 100000 in
set_option maxHeartbeats 4000000 in
theorem hl_size_I (hG : Full γ) {a : Int} {b : Int} (hE : Ev γ mX4_size 7 1 6 [.ref (ga γ 6 0), .int (zI a), .int (zI b)] σ xs nR (thr "java/lang/IndexOutOfBoundsException" σ1 xs)) : EvH γ mL_size hh_size 8 1 6 [.ref (ga γ 6 0), .int (zI a), .int (zI b), .ref (ga γ 18 0)] σ xs (rtn (some (.int (zI 1))) σ1 xs) nX := by
  refine EvH.of 1 [some (.ref (ga γ 6 0)), some (.int (zI a)), some (.int (zI b)), some (.ref (ga γ 18 0)), none] rfl pn_L_size rfl (Nat.le_of_ble_eq_true rfl) ?_
  refine h_aload_n (q := 1) dL_size_0 rfl rfl ?_
  refine h_iconst (q := 2) dL_size_1 rfl ?_
  refine h_aload_n (q := 3) dL_size_2 rfl rfl ?_
  refine h_iload_n (q := 4) dL_size_3 rfl rfl ?_
  refine h_iload_n (q := 5) dL_size_4 rfl rfl ?_
  refine hT_2 (My := mX4_size) (q := 8) (hp := 13) tk_size_I dL_size_5 rfl kL_60 vX4_size (hG _ _ rfl) rfl hE ⟨by decide, by decide⟩ ⟨by decide, by decide⟩ (Nat.le_of_ble_eq_true rfl) (fun q9 => ?_)
  refine h_astore (q := 15) dL_size_13 rfl (by decide) (Lst.setL rfl rfl) ?_
  refine h_iconst (q := 16) dL_size_15 rfl ?_
  refine h_reti dL_size_16 rfl (by decide) (by decide) ?_
  exact ⟨rfl, rfl, rfl⟩
theorem tk_size_A : Tk mL_size hh_size 5 "java/lang/IllegalArgumentException" 17 := by
  refine ⟨by decide, [⟨0, 10, 13, 25⟩], ⟨0, 10, 17, 13⟩, [⟨0, 10, 21, 31⟩], rfl, ?_, by decide, by decide, cl_13, rfl⟩
  exact fun z hz => by
    simp only [List.mem_cons, List.not_mem_nil, or_false] at hz
    rcases hz with rfl
    · exact ⟨by decide, "java/lang/IndexOutOfBoundsException", by decide, by decide, cl_25⟩
set_option maxRecDepth 100000 in
set_option maxHeartbeats 4000000 in
theorem hl_size_A (hG : Full γ) {a : Int} {b : Int} (hE : Ev γ mX4_size 7 1 6 [.ref (ga γ 6 0), .int (zI a), .int (zI b)] σ xs nR (thr "java/lang/IllegalArgumentException" σ1 xs)) : EvH γ mL_size hh_size 8 1 6 [.ref (ga γ 6 0), .int (zI a), .int (zI b), .ref (ga γ 18 0)] σ xs (rtn (some (.int (zI 2))) σ1 xs) nX := by
  refine EvH.of 1 [some (.ref (ga γ 6 0)), some (.int (zI a)), some (.int (zI b)), some (.ref (ga γ 18 0)), none] rfl pn_L_size rfl (Nat.le_of_ble_eq_true rfl) ?_
  refine h_aload_n (q := 1) dL_size_0 rfl rfl ?_
  refine h_iconst (q := 2) dL_size_1 rfl ?_
  refine h_aload_n (q := 3) dL_size_2 rfl rfl ?_
  refine h_iload_n (q := 4) dL_size_3 rfl rfl ?_
  refine h_iload_n (q := 5) dL_size_4 rfl rfl ?_
  refine hT_2 (My := mX4_size) (q := 8) (hp := 17) tk_size_A dL_size_5 rfl kL_60 vX4_size (hG _ _ rfl) rfl hE ⟨by decide, by decide⟩ ⟨by decide, by decide⟩ (Nat.le_of_ble_eq_true rfl) (fun q9 => ?_)
  refine h_astore (q := 19) dL_size_17 rfl (by decide) (Lst.setL rfl rfl) ?_
  refine h_iconst (q := 20) dL_size_19 rfl ?_
  refine h_reti dL_size_20 rfl (by decide) (by decide) ?_
  exact ⟨rfl, rfl, rfl⟩
theorem tk_size_N : Tk mL_size hh_size 5 "java/util/NoSuchElementException" 21 := by
  refine ⟨by decide, [⟨0, 10, 13, 25⟩, ⟨0, 10, 17, 13⟩], ⟨0, 10, 21, 31⟩, [], rfl, ?_, by decide, by decide, cl_31, rfl⟩
  exact fun z hz => by
    simp only [List.mem_cons, List.not_mem_nil, or_false] at hz
    rcases hz with rfl | rfl
    · exact ⟨by decide, "java/lang/IndexOutOfBoundsException", by decide, by decide, cl_25⟩
    · exact ⟨by decide, "java/lang/IllegalArgumentException", by decide, by decide, cl_13⟩
set_option maxRecDepth 100000 in
set_option maxHeartbeats 4000000 in
theorem hl_size_N (hG : Full γ) {a : Int} {b : Int} (hE : Ev γ mX4_size 7 1 6 [.ref (ga γ 6 0), .int (zI a), .int (zI b)] σ xs nR (thr "java/util/NoSuchElementException" σ1 xs)) : EvH γ mL_size hh_size 8 1 6 [.ref (ga γ 6 0), .int (zI a), .int (zI b), .ref (ga γ 18 0)] σ xs (rtn (some (.int (zI 3))) σ1 xs) nX := by
  refine EvH.of 1 [some (.ref (ga γ 6 0)), some (.int (zI a)), some (.int (zI b)), some (.ref (ga γ 18 0)), none] rfl pn_L_size rfl (Nat.le_of_ble_eq_true rfl) ?_
  refine h_aload_n (q := 1) dL_size_0 rfl rfl ?_
  refine h_iconst (q := 2) dL_size_1 rfl ?_
  refine h_aload_n (q := 3) dL_size_2 rfl rfl ?_
  refine h_iload_n (q := 4) dL_size_3 rfl rfl ?_
  refine h_iload_n (q := 5) dL_size_4 rfl rfl ?_
  refine hT_2 (My := mX4_size) (q := 8) (hp := 21) tk_size_N dL_size_5 rfl kL_60 vX4_size (hG _ _ rfl) rfl hE ⟨by decide, by decide⟩ ⟨by decide, by decide⟩ (Nat.le_of_ble_eq_true rfl) (fun q9 => ?_)
  refine h_astore (q := 23) dL_size_21 rfl (by decide) (Lst.setL rfl rfl) ?_
  refine h_iconst (q := 24) dL_size_23 rfl ?_
  refine h_reti dL_size_24 rfl (by decide) (by decide) ?_
  exact ⟨rfl, rfl, rfl⟩
set_option maxRecDepth 100000 in
set_option maxHeartbeats 4000000 in
theorem hl_partSign (hG : Full γ) {a : Int} {b : Int} {c : Int} {ky ny : Nat} {v : Int} (hv : -2147483648 ≤ v ∧ v ≤ 2147483647) (hE : Ev γ mX4_partSign 7 ky ny [.ref (ga γ 6 0), .int (zI a), .int (zI b), .int (zI c)] σ xs (rtn (some (.int (zI v))) σ1 xs) nX) : EvH γ mL_partSign hh_partSign 8 ky ny [.ref (ga γ 6 0), .int (zI a), .int (zI b), .int (zI c), .ref (ga γ 18 0)] σ xs (rtn (some (.int (zI 0))) (sOv σ1 v) xs) nX := by
  refine EvH.of 1 [some (.ref (ga γ 6 0)), some (.int (zI a)), some (.int (zI b)), some (.int (zI c)), some (.ref (ga γ 18 0)), none] rfl pn_L_partSign rfl (Nat.le_of_ble_eq_true rfl) ?_
  refine h_aload (q := 2) dL_partSign_0 rfl rfl ?_
  refine h_iconst (q := 3) dL_partSign_2 rfl ?_
  refine h_aload_n (q := 4) dL_partSign_3 rfl rfl ?_
  refine h_iload_n (q := 5) dL_partSign_4 rfl rfl ?_
  refine h_iload_n (q := 6) dL_partSign_5 rfl rfl ?_
  refine h_iload_n (q := 7) dL_partSign_6 rfl rfl ?_
  refine hO_3 (My := mX4_partSign) (q := 10) dL_partSign_7 rfl kL_64 vX4_partSign (hG _ _ rfl) rfl hE ⟨by decide, by decide⟩ ⟨by omega, by omega⟩ (Nat.le_of_ble_eq_true rfl) ?_
  rw [Nat.zero_add, Nat.zero_add]
  refine h_i2l (q := 11) dL_partSign_10 rfl hv ?_
  refine h_lastO (q := 12) dL_partSign_11 rfl (hG _ _ rfl) ?_
  refine h_goto (q := 27) dL_partSign_12 (by decide) ?_
  refine h_iconst (q := 28) dL_partSign_27 rfl ?_
  refine h_reti dL_partSign_28 rfl (Nat.le_refl _) (Nat.le_refl _) ?_
  exact ⟨rfl, rfl, rfl⟩
theorem tk_partSign_I : Tk mL_partSign hh_partSign 7 "java/lang/IndexOutOfBoundsException" 15 := by
  refine ⟨by decide, [], ⟨0, 12, 15, 25⟩, [⟨0, 12, 19, 13⟩, ⟨0, 12, 23, 31⟩], rfl, ?_, by decide, by decide, cl_25, rfl⟩
  exact fun z hz => by cases hz
set_option maxRecDepth 100000 in
set_option maxHeartbeats 4000000 in
theorem hl_partSign_I (hG : Full γ) {a : Int} {b : Int} {c : Int} (hE : Ev γ mX4_partSign 7 1 6 [.ref (ga γ 6 0), .int (zI a), .int (zI b), .int (zI c)] σ xs nR (thr "java/lang/IndexOutOfBoundsException" σ1 xs)) : EvH γ mL_partSign hh_partSign 8 1 6 [.ref (ga γ 6 0), .int (zI a), .int (zI b), .int (zI c), .ref (ga γ 18 0)] σ xs (rtn (some (.int (zI 1))) σ1 xs) nX := by
  refine EvH.of 1 [some (.ref (ga γ 6 0)), some (.int (zI a)), some (.int (zI b)), some (.int (zI c)), some (.ref (ga γ 18 0)), none] rfl pn_L_partSign rfl (Nat.le_of_ble_eq_true rfl) ?_
  refine h_aload (q := 2) dL_partSign_0 rfl rfl ?_
  refine h_iconst (q := 3) dL_partSign_2 rfl ?_
  refine h_aload_n (q := 4) dL_partSign_3 rfl rfl ?_
  refine h_iload_n (q := 5) dL_partSign_4 rfl rfl ?_
  refine h_iload_n (q := 6) dL_partSign_5 rfl rfl ?_
  refine h_iload_n (q := 7) dL_partSign_6 rfl rfl ?_
  refine hT_3 (My := mX4_partSign) (q := 10) (hp := 15) tk_partSign_I dL_partSign_7 rfl kL_64 vX4_partSign (hG _ _ rfl) rfl hE ⟨by decide, by decide⟩ ⟨by decide, by decide⟩ (Nat.le_of_ble_eq_true rfl) (fun q9 => ?_)
  refine h_astore (q := 17) dL_partSign_15 rfl (by decide) (Lst.setL rfl rfl) ?_
  refine h_iconst (q := 18) dL_partSign_17 rfl ?_
  refine h_reti dL_partSign_18 rfl (by decide) (by decide) ?_
  exact ⟨rfl, rfl, rfl⟩
theorem tk_partSign_A : Tk mL_partSign hh_partSign 7 "java/lang/IllegalArgumentException" 19 := by
  refine ⟨by decide, [⟨0, 12, 15, 25⟩], ⟨0, 12, 19, 13⟩, [⟨0, 12, 23, 31⟩], rfl, ?_, by decide, by decide, cl_13, rfl⟩
  exact fun z hz => by
    simp only [List.mem_cons, List.not_mem_nil, or_false] at hz
    rcases hz with rfl
    · exact ⟨by decide, "java/lang/IndexOutOfBoundsException", by decide, by decide, cl_25⟩
set_option maxRecDepth 100000 in
set_option maxHeartbeats 4000000 in
theorem hl_partSign_A (hG : Full γ) {a : Int} {b : Int} {c : Int} (hE : Ev γ mX4_partSign 7 1 6 [.ref (ga γ 6 0), .int (zI a), .int (zI b), .int (zI c)] σ xs nR (thr "java/lang/IllegalArgumentException" σ1 xs)) : EvH γ mL_partSign hh_partSign 8 1 6 [.ref (ga γ 6 0), .int (zI a), .int (zI b), .int (zI c), .ref (ga γ 18 0)] σ xs (rtn (some (.int (zI 2))) σ1 xs) nX := by
  refine EvH.of 1 [some (.ref (ga γ 6 0)), some (.int (zI a)), some (.int (zI b)), some (.int (zI c)), some (.ref (ga γ 18 0)), none] rfl pn_L_partSign rfl (Nat.le_of_ble_eq_true rfl) ?_
  refine h_aload (q := 2) dL_partSign_0 rfl rfl ?_
  refine h_iconst (q := 3) dL_partSign_2 rfl ?_
  refine h_aload_n (q := 4) dL_partSign_3 rfl rfl ?_
  refine h_iload_n (q := 5) dL_partSign_4 rfl rfl ?_
  refine h_iload_n (q := 6) dL_partSign_5 rfl rfl ?_
  refine h_iload_n (q := 7) dL_partSign_6 rfl rfl ?_
  refine hT_3 (My := mX4_partSign) (q := 10) (hp := 19) tk_partSign_A dL_partSign_7 rfl kL_64 vX4_partSign (hG _ _ rfl) rfl hE ⟨by decide, by decide⟩ ⟨by decide, by decide⟩ (Nat.le_of_ble_eq_true rfl) (fun q9 => ?_)
  refine h_astore (q := 21) dL_partSign_19 rfl (by decide) (Lst.setL rfl rfl) ?_
  refine h_iconst (q := 22) dL_partSign_21 rfl ?_
  refine h_reti dL_partSign_22 rfl (by decide) (by decide) ?_
  exact ⟨rfl, rfl, rfl⟩
theorem tk_partSign_N : Tk mL_partSign hh_partSign 7 "java/util/NoSuchElementException" 23 := by
  refine ⟨by decide, [⟨0, 12, 15, 25⟩, ⟨0, 12, 19, 13⟩], ⟨0, 12, 23, 31⟩, [], rfl, ?_, by decide, by decide, cl_31, rfl⟩
  exact fun z hz => by
    simp only [List.mem_cons, List.not_mem_nil, or_false] at hz
    rcases hz with rfl | rfl
    · exact ⟨by decide, "java/lang/IndexOutOfBoundsException", by decide, by decide, cl_25⟩
    · exact ⟨by decide, "java/lang/IllegalArgumentException", by decide, by decide, cl_13⟩
set_option maxRecDepth 100000 in
set_option maxHeartbeats 4000000 in
theorem hl_partSign_N (hG : Full γ) {a : Int} {b : Int} {c : Int} (hE : Ev γ mX4_partSign 7 1 6 [.ref (ga γ 6 0), .int (zI a), .int (zI b), .int (zI c)] σ xs nR (thr "java/util/NoSuchElementException" σ1 xs)) : EvH γ mL_partSign hh_partSign 8 1 6 [.ref (ga γ 6 0), .int (zI a), .int (zI b), .int (zI c), .ref (ga γ 18 0)] σ xs (rtn (some (.int (zI 3))) σ1 xs) nX := by
  refine EvH.of 1 [some (.ref (ga γ 6 0)), some (.int (zI a)), some (.int (zI b)), some (.int (zI c)), some (.ref (ga γ 18 0)), none] rfl pn_L_partSign rfl (Nat.le_of_ble_eq_true rfl) ?_
  refine h_aload (q := 2) dL_partSign_0 rfl rfl ?_
  refine h_iconst (q := 3) dL_partSign_2 rfl ?_
  refine h_aload_n (q := 4) dL_partSign_3 rfl rfl ?_
  refine h_iload_n (q := 5) dL_partSign_4 rfl rfl ?_
  refine h_iload_n (q := 6) dL_partSign_5 rfl rfl ?_
  refine h_iload_n (q := 7) dL_partSign_6 rfl rfl ?_
  refine hT_3 (My := mX4_partSign) (q := 10) (hp := 23) tk_partSign_N dL_partSign_7 rfl kL_64 vX4_partSign (hG _ _ rfl) rfl hE ⟨by decide, by decide⟩ ⟨by decide, by decide⟩ (Nat.le_of_ble_eq_true rfl) (fun q9 => ?_)
  refine h_astore (q := 25) dL_partSign_23 rfl (by decide) (Lst.setL rfl rfl) ?_
  refine h_iconst (q := 26) dL_partSign_25 rfl ?_
  refine h_reti dL_partSign_26 rfl (by decide) (by decide) ?_
  exact ⟨rfl, rfl, rfl⟩
set_option maxRecDepth 100000 in
set_option maxHeartbeats 4000000 in
theorem hl_begin (hG : Full γ) {a : Int} {b : Int} {ky ny : Nat} {v : Int} (hv : -2147483648 ≤ v ∧ v ≤ 2147483647) (hE : Ev γ mX4_begin 7 ky ny [.ref (ga γ 6 0), .int (zI a), .int (zI b)] σ xs (rtn (some (.int (zI v))) σ1 xs) nX) : EvH γ mL_begin hh_begin 8 ky ny [.ref (ga γ 6 0), .int (zI a), .int (zI b), .ref (ga γ 18 0)] σ xs (rtn (some (.int (zI 0))) (sOv σ1 v) xs) nX := by
  refine EvH.of 1 [some (.ref (ga γ 6 0)), some (.int (zI a)), some (.int (zI b)), some (.ref (ga γ 18 0)), none] rfl pn_L_begin rfl (Nat.le_of_ble_eq_true rfl) ?_
  refine h_aload_n (q := 1) dL_begin_0 rfl rfl ?_
  refine h_iconst (q := 2) dL_begin_1 rfl ?_
  refine h_aload_n (q := 3) dL_begin_2 rfl rfl ?_
  refine h_iload_n (q := 4) dL_begin_3 rfl rfl ?_
  refine h_iload_n (q := 5) dL_begin_4 rfl rfl ?_
  refine hO_2 (My := mX4_begin) (q := 8) dL_begin_5 rfl kL_68 vX4_begin (hG _ _ rfl) rfl hE ⟨by decide, by decide⟩ ⟨by omega, by omega⟩ (Nat.le_of_ble_eq_true rfl) ?_
  rw [Nat.zero_add, Nat.zero_add]
  refine h_i2l (q := 9) dL_begin_8 rfl hv ?_
  refine h_lastO (q := 10) dL_begin_9 rfl (hG _ _ rfl) ?_
  refine h_goto (q := 25) dL_begin_10 (by decide) ?_
  refine h_iconst (q := 26) dL_begin_25 rfl ?_
  refine h_reti dL_begin_26 rfl (Nat.le_refl _) (Nat.le_refl _) ?_
  exact ⟨rfl, rfl, rfl⟩
theorem tk_begin_I : Tk mL_begin hh_begin 5 "java/lang/IndexOutOfBoundsException" 13 := by
  refine ⟨by decide, [], ⟨0, 10, 13, 25⟩, [⟨0, 10, 17, 13⟩, ⟨0, 10, 21, 31⟩], rfl, ?_, by decide, by decide, cl_25, rfl⟩
  exact fun z hz => by cases hz
set_option maxRecDepth 100000 in
set_option maxHeartbeats 4000000 in
theorem hl_begin_I (hG : Full γ) {a : Int} {b : Int} (hE : Ev γ mX4_begin 7 1 6 [.ref (ga γ 6 0), .int (zI a), .int (zI b)] σ xs nR (thr "java/lang/IndexOutOfBoundsException" σ1 xs)) : EvH γ mL_begin hh_begin 8 1 6 [.ref (ga γ 6 0), .int (zI a), .int (zI b), .ref (ga γ 18 0)] σ xs (rtn (some (.int (zI 1))) σ1 xs) nX := by
  refine EvH.of 1 [some (.ref (ga γ 6 0)), some (.int (zI a)), some (.int (zI b)), some (.ref (ga γ 18 0)), none] rfl pn_L_begin rfl (Nat.le_of_ble_eq_true rfl) ?_
  refine h_aload_n (q := 1) dL_begin_0 rfl rfl ?_
  refine h_iconst (q := 2) dL_begin_1 rfl ?_
  refine h_aload_n (q := 3) dL_begin_2 rfl rfl ?_
  refine h_iload_n (q := 4) dL_begin_3 rfl rfl ?_
  refine h_iload_n (q := 5) dL_begin_4 rfl rfl ?_
  refine hT_2 (My := mX4_begin) (q := 8) (hp := 13) tk_begin_I dL_begin_5 rfl kL_68 vX4_begin (hG _ _ rfl) rfl hE ⟨by decide, by decide⟩ ⟨by decide, by decide⟩ (Nat.le_of_ble_eq_true rfl) (fun q9 => ?_)
  refine h_astore (q := 15) dL_begin_13 rfl (by decide) (Lst.setL rfl rfl) ?_
  refine h_iconst (q := 16) dL_begin_15 rfl ?_
  refine h_reti dL_begin_16 rfl (by decide) (by decide) ?_
  exact ⟨rfl, rfl, rfl⟩
theorem tk_begin_A : Tk mL_begin hh_begin 5 "java/lang/IllegalArgumentException" 17 := by
  refine ⟨by decide, [⟨0, 10, 13, 25⟩], ⟨0, 10, 17, 13⟩, [⟨0, 10, 21, 31⟩], rfl, ?_, by decide, by decide, cl_13, rfl⟩
  exact fun z hz => by
    simp only [List.mem_cons, List.not_mem_nil, or_false] at hz
    rcases hz with rfl
    · exact ⟨by decide, "java/lang/IndexOutOfBoundsException", by decide, by decide, cl_25⟩
set_option maxRecDepth 100000 in
set_option maxHeartbeats 4000000 in
theorem hl_begin_A (hG : Full γ) {a : Int} {b : Int} (hE : Ev γ mX4_begin 7 1 6 [.ref (ga γ 6 0), .int (zI a), .int (zI b)] σ xs nR (thr "java/lang/IllegalArgumentException" σ1 xs)) : EvH γ mL_begin hh_begin 8 1 6 [.ref (ga γ 6 0), .int (zI a), .int (zI b), .ref (ga γ 18 0)] σ xs (rtn (some (.int (zI 2))) σ1 xs) nX := by
  refine EvH.of 1 [some (.ref (ga γ 6 0)), some (.int (zI a)), some (.int (zI b)), some (.ref (ga γ 18 0)), none] rfl pn_L_begin rfl (Nat.le_of_ble_eq_true rfl) ?_
  refine h_aload_n (q := 1) dL_begin_0 rfl rfl ?_
  refine h_iconst (q := 2) dL_begin_1 rfl ?_
  refine h_aload_n (q := 3) dL_begin_2 rfl rfl ?_
  refine h_iload_n (q := 4) dL_begin_3 rfl rfl ?_
  refine h_iload_n (q := 5) dL_begin_4 rfl rfl ?_
  refine hT_2 (My := mX4_begin) (q := 8) (hp := 17) tk_begin_A dL_begin_5 rfl kL_68 vX4_begin (hG _ _ rfl) rfl hE ⟨by decide, by decide⟩ ⟨by decide, by decide⟩ (Nat.le_of_ble_eq_true rfl) (fun q9 => ?_)
  refine h_astore (q := 19) dL_begin_17 rfl (by decide) (Lst.setL rfl rfl) ?_
  refine h_iconst (q := 20) dL_begin_19 rfl ?_
  refine h_reti dL_begin_20 rfl (by decide) (by decide) ?_
  exact ⟨rfl, rfl, rfl⟩
theorem tk_begin_N : Tk mL_begin hh_begin 5 "java/util/NoSuchElementException" 21 := by
  refine ⟨by decide, [⟨0, 10, 13, 25⟩, ⟨0, 10, 17, 13⟩], ⟨0, 10, 21, 31⟩, [], rfl, ?_, by decide, by decide, cl_31, rfl⟩
  exact fun z hz => by
    simp only [List.mem_cons, List.not_mem_nil, or_false] at hz
    rcases hz with rfl | rfl
    · exact ⟨by decide, "java/lang/IndexOutOfBoundsException", by decide, by decide, cl_25⟩
    · exact ⟨by decide, "java/lang/IllegalArgumentException", by decide, by decide, cl_13⟩
set_option maxRecDepth 100000 in
set_option maxHeartbeats 4000000 in
theorem hl_begin_N (hG : Full γ) {a : Int} {b : Int} (hE : Ev γ mX4_begin 7 1 6 [.ref (ga γ 6 0), .int (zI a), .int (zI b)] σ xs nR (thr "java/util/NoSuchElementException" σ1 xs)) : EvH γ mL_begin hh_begin 8 1 6 [.ref (ga γ 6 0), .int (zI a), .int (zI b), .ref (ga γ 18 0)] σ xs (rtn (some (.int (zI 3))) σ1 xs) nX := by
  refine EvH.of 1 [some (.ref (ga γ 6 0)), some (.int (zI a)), some (.int (zI b)), some (.ref (ga γ 18 0)), none] rfl pn_L_begin rfl (Nat.le_of_ble_eq_true rfl) ?_
  refine h_aload_n (q := 1) dL_begin_0 rfl rfl ?_
  refine h_iconst (q := 2) dL_begin_1 rfl ?_
  refine h_aload_n (q := 3) dL_begin_2 rfl rfl ?_
  refine h_iload_n (q := 4) dL_begin_3 rfl rfl ?_
  refine h_iload_n (q := 5) dL_begin_4 rfl rfl ?_
  refine hT_2 (My := mX4_begin) (q := 8) (hp := 21) tk_begin_N dL_begin_5 rfl kL_68 vX4_begin (hG _ _ rfl) rfl hE ⟨by decide, by decide⟩ ⟨by decide, by decide⟩ (Nat.le_of_ble_eq_true rfl) (fun q9 => ?_)
  refine h_astore (q := 23) dL_begin_21 rfl (by decide) (Lst.setL rfl rfl) ?_
  refine h_iconst (q := 24) dL_begin_23 rfl ?_
  refine h_reti dL_begin_24 rfl (by decide) (by decide) ?_
  exact ⟨rfl, rfl, rfl⟩
set_option maxRecDepth 100000 in
set_option maxHeartbeats 4000000 in
theorem hl_append (hG : Full γ) {a : Int} {b : Int} {ky ny : Nat} {v : Int} (hv : -2147483648 ≤ v ∧ v ≤ 2147483647) (hE : Ev γ mX4_append 7 ky ny [.ref (ga γ 6 0), .int (zI a), .int (zI b)] σ xs (rtn (some (.int (zI v))) σ1 xs) nX) : EvH γ mL_append hh_append 8 ky ny [.ref (ga γ 6 0), .int (zI a), .int (zI b), .ref (ga γ 18 0)] σ xs (rtn (some (.int (zI 0))) (sOv σ1 v) xs) nX := by
  refine EvH.of 1 [some (.ref (ga γ 6 0)), some (.int (zI a)), some (.int (zI b)), some (.ref (ga γ 18 0)), none] rfl pn_L_append rfl (Nat.le_of_ble_eq_true rfl) ?_
  refine h_aload_n (q := 1) dL_append_0 rfl rfl ?_
  refine h_iconst (q := 2) dL_append_1 rfl ?_
  refine h_aload_n (q := 3) dL_append_2 rfl rfl ?_
  refine h_iload_n (q := 4) dL_append_3 rfl rfl ?_
  refine h_iload_n (q := 5) dL_append_4 rfl rfl ?_
  refine hO_2 (My := mX4_append) (q := 8) dL_append_5 rfl kL_71 vX4_append (hG _ _ rfl) rfl hE ⟨by decide, by decide⟩ ⟨by omega, by omega⟩ (Nat.le_of_ble_eq_true rfl) ?_
  rw [Nat.zero_add, Nat.zero_add]
  refine h_i2l (q := 9) dL_append_8 rfl hv ?_
  refine h_lastO (q := 10) dL_append_9 rfl (hG _ _ rfl) ?_
  refine h_goto (q := 29) dL_append_10 (by decide) ?_
  refine h_iconst (q := 30) dL_append_29 rfl ?_
  refine h_reti dL_append_30 rfl (Nat.le_refl _) (Nat.le_refl _) ?_
  exact ⟨rfl, rfl, rfl⟩
theorem tk_append_I : Tk mL_append hh_append 5 "java/lang/IndexOutOfBoundsException" 13 := by
  refine ⟨by decide, [], ⟨0, 10, 13, 25⟩, [⟨0, 10, 17, 13⟩, ⟨0, 10, 21, 31⟩, ⟨0, 10, 25, 15⟩], rfl, ?_, by decide, by decide, cl_25, rfl⟩
  exact fun z hz => by cases hz
set_option maxRecDepth 100000 in
set_option maxHeartbeats 4000000 in
theorem hl_append_I (hG : Full γ) {a : Int} {b : Int} (hE : Ev γ mX4_append 7 1 6 [.ref (ga γ 6 0), .int (zI a), .int (zI b)] σ xs nR (thr "java/lang/IndexOutOfBoundsException" σ1 xs)) : EvH γ mL_append hh_append 8 1 6 [.ref (ga γ 6 0), .int (zI a), .int (zI b), .ref (ga γ 18 0)] σ xs (rtn (some (.int (zI 1))) σ1 xs) nX := by
  refine EvH.of 1 [some (.ref (ga γ 6 0)), some (.int (zI a)), some (.int (zI b)), some (.ref (ga γ 18 0)), none] rfl pn_L_append rfl (Nat.le_of_ble_eq_true rfl) ?_
  refine h_aload_n (q := 1) dL_append_0 rfl rfl ?_
  refine h_iconst (q := 2) dL_append_1 rfl ?_
  refine h_aload_n (q := 3) dL_append_2 rfl rfl ?_
  refine h_iload_n (q := 4) dL_append_3 rfl rfl ?_
  refine h_iload_n (q := 5) dL_append_4 rfl rfl ?_
  refine hT_2 (My := mX4_append) (q := 8) (hp := 13) tk_append_I dL_append_5 rfl kL_71 vX4_append (hG _ _ rfl) rfl hE ⟨by decide, by decide⟩ ⟨by decide, by decide⟩ (Nat.le_of_ble_eq_true rfl) (fun q9 => ?_)
  refine h_astore (q := 15) dL_append_13 rfl (by decide) (Lst.setL rfl rfl) ?_
  refine h_iconst (q := 16) dL_append_15 rfl ?_
  refine h_reti dL_append_16 rfl (by decide) (by decide) ?_
  exact ⟨rfl, rfl, rfl⟩
theorem tk_append_A : Tk mL_append hh_append 5 "java/lang/IllegalArgumentException" 17 := by
  refine ⟨by decide, [⟨0, 10, 13, 25⟩], ⟨0, 10, 17, 13⟩, [⟨0, 10, 21, 31⟩, ⟨0, 10, 25, 15⟩], rfl, ?_, by decide, by decide, cl_13, rfl⟩
  exact fun z hz => by
    simp only [List.mem_cons, List.not_mem_nil, or_false] at hz
    rcases hz with rfl
    · exact ⟨by decide, "java/lang/IndexOutOfBoundsException", by decide, by decide, cl_25⟩
set_option maxRecDepth 100000 in
set_option maxHeartbeats 4000000 in
theorem hl_append_A (hG : Full γ) {a : Int} {b : Int} (hE : Ev γ mX4_append 7 1 6 [.ref (ga γ 6 0), .int (zI a), .int (zI b)] σ xs nR (thr "java/lang/IllegalArgumentException" σ1 xs)) : EvH γ mL_append hh_append 8 1 6 [.ref (ga γ 6 0), .int (zI a), .int (zI b), .ref (ga γ 18 0)] σ xs (rtn (some (.int (zI 2))) σ1 xs) nX := by
  refine EvH.of 1 [some (.ref (ga γ 6 0)), some (.int (zI a)), some (.int (zI b)), some (.ref (ga γ 18 0)), none] rfl pn_L_append rfl (Nat.le_of_ble_eq_true rfl) ?_
  refine h_aload_n (q := 1) dL_append_0 rfl rfl ?_
  refine h_iconst (q := 2) dL_append_1 rfl ?_
  refine h_aload_n (q := 3) dL_append_2 rfl rfl ?_
  refine h_iload_n (q := 4) dL_append_3 rfl rfl ?_
  refine h_iload_n (q := 5) dL_append_4 rfl rfl ?_
  refine hT_2 (My := mX4_append) (q := 8) (hp := 17) tk_append_A dL_append_5 rfl kL_71 vX4_append (hG _ _ rfl) rfl hE ⟨by decide, by decide⟩ ⟨by decide, by decide⟩ (Nat.le_of_ble_eq_true rfl) (fun q9 => ?_)
  refine h_astore (q := 19) dL_append_17 rfl (by decide) (Lst.setL rfl rfl) ?_
  refine h_iconst (q := 20) dL_append_19 rfl ?_
  refine h_reti dL_append_20 rfl (by decide) (by decide) ?_
  exact ⟨rfl, rfl, rfl⟩
theorem tk_append_N : Tk mL_append hh_append 5 "java/util/NoSuchElementException" 21 := by
  refine ⟨by decide, [⟨0, 10, 13, 25⟩, ⟨0, 10, 17, 13⟩], ⟨0, 10, 21, 31⟩, [⟨0, 10, 25, 15⟩], rfl, ?_, by decide, by decide, cl_31, rfl⟩
  exact fun z hz => by
    simp only [List.mem_cons, List.not_mem_nil, or_false] at hz
    rcases hz with rfl | rfl
    · exact ⟨by decide, "java/lang/IndexOutOfBoundsException", by decide, by decide, cl_25⟩
    · exact ⟨by decide, "java/lang/IllegalArgumentException", by decide, by decide, cl_13⟩
set_option maxRecDepth 100000 in
set_option maxHeartbeats 4000000 in
theorem hl_append_N (hG : Full γ) {a : Int} {b : Int} (hE : Ev γ mX4_append 7 1 6 [.ref (ga γ 6 0), .int (zI a), .int (zI b)] σ xs nR (thr "java/util/NoSuchElementException" σ1 xs)) : EvH γ mL_append hh_append 8 1 6 [.ref (ga γ 6 0), .int (zI a), .int (zI b), .ref (ga γ 18 0)] σ xs (rtn (some (.int (zI 3))) σ1 xs) nX := by
  refine EvH.of 1 [some (.ref (ga γ 6 0)), some (.int (zI a)), some (.int (zI b)), some (.ref (ga γ 18 0)), none] rfl pn_L_append rfl (Nat.le_of_ble_eq_true rfl) ?_
  refine h_aload_n (q := 1) dL_append_0 rfl rfl ?_
  refine h_iconst (q := 2) dL_append_1 rfl ?_
  refine h_aload_n (q := 3) dL_append_2 rfl rfl ?_
  refine h_iload_n (q := 4) dL_append_3 rfl rfl ?_
  refine h_iload_n (q := 5) dL_append_4 rfl rfl ?_
  refine hT_2 (My := mX4_append) (q := 8) (hp := 21) tk_append_N dL_append_5 rfl kL_71 vX4_append (hG _ _ rfl) rfl hE ⟨by decide, by decide⟩ ⟨by decide, by decide⟩ (Nat.le_of_ble_eq_true rfl) (fun q9 => ?_)
  refine h_astore (q := 23) dL_append_21 rfl (by decide) (Lst.setL rfl rfl) ?_
  refine h_iconst (q := 24) dL_append_23 rfl ?_
  refine h_reti dL_append_24 rfl (by decide) (by decide) ?_
  exact ⟨rfl, rfl, rfl⟩
theorem tk_append_S : Tk mL_append hh_append 5 "java/lang/IllegalStateException" 25 := by
  refine ⟨by decide, [⟨0, 10, 13, 25⟩, ⟨0, 10, 17, 13⟩, ⟨0, 10, 21, 31⟩], ⟨0, 10, 25, 15⟩, [], rfl, ?_, by decide, by decide, cl_15, rfl⟩
  exact fun z hz => by
    simp only [List.mem_cons, List.not_mem_nil, or_false] at hz
    rcases hz with rfl | rfl | rfl
    · exact ⟨by decide, "java/lang/IndexOutOfBoundsException", by decide, by decide, cl_25⟩
    · exact ⟨by decide, "java/lang/IllegalArgumentException", by decide, by decide, cl_13⟩
    · exact ⟨by decide, "java/util/NoSuchElementException", by decide, by decide, cl_31⟩
set_option maxRecDepth 100000 in
set_option maxHeartbeats 4000000 in
theorem hl_append_S (hG : Full γ) {a : Int} {b : Int} (hE : Ev γ mX4_append 7 1 6 [.ref (ga γ 6 0), .int (zI a), .int (zI b)] σ xs nR (thr "java/lang/IllegalStateException" σ1 xs)) : EvH γ mL_append hh_append 8 1 6 [.ref (ga γ 6 0), .int (zI a), .int (zI b), .ref (ga γ 18 0)] σ xs (rtn (some (.int (zI 4))) σ1 xs) nX := by
  refine EvH.of 1 [some (.ref (ga γ 6 0)), some (.int (zI a)), some (.int (zI b)), some (.ref (ga γ 18 0)), none] rfl pn_L_append rfl (Nat.le_of_ble_eq_true rfl) ?_
  refine h_aload_n (q := 1) dL_append_0 rfl rfl ?_
  refine h_iconst (q := 2) dL_append_1 rfl ?_
  refine h_aload_n (q := 3) dL_append_2 rfl rfl ?_
  refine h_iload_n (q := 4) dL_append_3 rfl rfl ?_
  refine h_iload_n (q := 5) dL_append_4 rfl rfl ?_
  refine hT_2 (My := mX4_append) (q := 8) (hp := 25) tk_append_S dL_append_5 rfl kL_71 vX4_append (hG _ _ rfl) rfl hE ⟨by decide, by decide⟩ ⟨by decide, by decide⟩ (Nat.le_of_ble_eq_true rfl) (fun q9 => ?_)
  refine h_astore (q := 27) dL_append_25 rfl (by decide) (Lst.setL rfl rfl) ?_
  refine h_iconst (q := 28) dL_append_27 rfl ?_
  refine h_reti dL_append_28 rfl (by decide) (by decide) ?_
  exact ⟨rfl, rfl, rfl⟩
set_option maxRecDepth 100000 in
set_option maxHeartbeats 4000000 in
theorem hl_copy (hG : Full γ) {a : Int} {b : Int} {ky ny : Nat} {v : Int} (hv : -2147483648 ≤ v ∧ v ≤ 2147483647) (hE : Ev γ mX4_copy 8 ky ny [.ref (ga γ 6 0), .int (zI a), .int (zI b)] σ xs (rtn (some (.int (zI v))) σ1 xs) nX) : EvH γ mL_copy hh_copy 9 ky ny [.ref (ga γ 6 0), .int (zI a), .int (zI b), .ref (ga γ 18 0)] σ xs (rtn (some (.int (zI 0))) (sOv σ1 v) xs) nX := by
  refine EvH.of 1 [some (.ref (ga γ 6 0)), some (.int (zI a)), some (.int (zI b)), some (.ref (ga γ 18 0)), none] rfl pn_L_copy rfl (Nat.le_of_ble_eq_true rfl) ?_
  refine h_aload_n (q := 1) dL_copy_0 rfl rfl ?_
  refine h_iconst (q := 2) dL_copy_1 rfl ?_
  refine h_aload_n (q := 3) dL_copy_2 rfl rfl ?_
  refine h_iload_n (q := 4) dL_copy_3 rfl rfl ?_
  refine h_iload_n (q := 5) dL_copy_4 rfl rfl ?_
  refine hO_2 (My := mX4_copy) (q := 8) dL_copy_5 rfl kL_74 vX4_copy (hG _ _ rfl) rfl hE ⟨by decide, by decide⟩ ⟨by omega, by omega⟩ (Nat.le_of_ble_eq_true rfl) ?_
  rw [Nat.zero_add, Nat.zero_add]
  refine h_i2l (q := 9) dL_copy_8 rfl hv ?_
  refine h_lastO (q := 10) dL_copy_9 rfl (hG _ _ rfl) ?_
  refine h_goto (q := 17) dL_copy_10 (by decide) ?_
  refine h_iconst (q := 18) dL_copy_17 rfl ?_
  refine h_reti dL_copy_18 rfl (Nat.le_refl _) (Nat.le_refl _) ?_
  exact ⟨rfl, rfl, rfl⟩
theorem tk_copy_I : Tk mL_copy hh_copy 5 "java/lang/IndexOutOfBoundsException" 13 := by
  refine ⟨by decide, [], ⟨0, 10, 13, 25⟩, [], rfl, ?_, by decide, by decide, cl_25, rfl⟩
  exact fun z hz => by cases hz
set_option maxRecDepth 100000 in
set_option maxHeartbeats 4000000 in
theorem hl_copy_I (hG : Full γ) {a : Int} {b : Int} (hE : Ev γ mX4_copy 8 1 6 [.ref (ga γ 6 0), .int (zI a), .int (zI b)] σ xs nR (thr "java/lang/IndexOutOfBoundsException" σ1 xs)) : EvH γ mL_copy hh_copy 9 1 6 [.ref (ga γ 6 0), .int (zI a), .int (zI b), .ref (ga γ 18 0)] σ xs (rtn (some (.int (zI 1))) σ1 xs) nX := by
  refine EvH.of 1 [some (.ref (ga γ 6 0)), some (.int (zI a)), some (.int (zI b)), some (.ref (ga γ 18 0)), none] rfl pn_L_copy rfl (Nat.le_of_ble_eq_true rfl) ?_
  refine h_aload_n (q := 1) dL_copy_0 rfl rfl ?_
  refine h_iconst (q := 2) dL_copy_1 rfl ?_
  refine h_aload_n (q := 3) dL_copy_2 rfl rfl ?_
  refine h_iload_n (q := 4) dL_copy_3 rfl rfl ?_
  refine h_iload_n (q := 5) dL_copy_4 rfl rfl ?_
  refine hT_2 (My := mX4_copy) (q := 8) (hp := 13) tk_copy_I dL_copy_5 rfl kL_74 vX4_copy (hG _ _ rfl) rfl hE ⟨by decide, by decide⟩ ⟨by decide, by decide⟩ (Nat.le_of_ble_eq_true rfl) (fun q9 => ?_)
  refine h_astore (q := 15) dL_copy_13 rfl (by decide) (Lst.setL rfl rfl) ?_
  refine h_iconst (q := 16) dL_copy_15 rfl ?_
  refine h_reti dL_copy_16 rfl (by decide) (by decide) ?_
  exact ⟨rfl, rfl, rfl⟩
set_option maxRecDepth 100000 in
set_option maxHeartbeats 4000000 in
theorem hl_alike (hG : Full γ) {a : Int} {b : Int} {ky ny : Nat} {v : Int} (hv : -2147483648 ≤ v ∧ v ≤ 2147483647) (hE : Ev γ mX4_alike 7 ky ny [.ref (ga γ 6 0), .int (zI a), .int (zI b)] σ xs (rtn (some (.int (zI v))) σ1 xs) nX) : EvH γ mL_alike hh_alike 8 ky ny [.ref (ga γ 6 0), .int (zI a), .int (zI b), .ref (ga γ 18 0)] σ xs (rtn (some (.int (zI 0))) (sOv σ1 v) xs) nX := by
  refine EvH.of 1 [some (.ref (ga γ 6 0)), some (.int (zI a)), some (.int (zI b)), some (.ref (ga γ 18 0)), none] rfl pn_L_alike rfl (Nat.le_of_ble_eq_true rfl) ?_
  refine h_aload_n (q := 1) dL_alike_0 rfl rfl ?_
  refine h_iconst (q := 2) dL_alike_1 rfl ?_
  refine h_aload_n (q := 3) dL_alike_2 rfl rfl ?_
  refine h_iload_n (q := 4) dL_alike_3 rfl rfl ?_
  refine h_iload_n (q := 5) dL_alike_4 rfl rfl ?_
  refine hO_2 (My := mX4_alike) (q := 8) dL_alike_5 rfl kL_78 vX4_alike (hG _ _ rfl) rfl hE ⟨by decide, by decide⟩ ⟨by omega, by omega⟩ (Nat.le_of_ble_eq_true rfl) ?_
  rw [Nat.zero_add, Nat.zero_add]
  refine h_i2l (q := 9) dL_alike_8 rfl hv ?_
  refine h_lastO (q := 10) dL_alike_9 rfl (hG _ _ rfl) ?_
  refine h_goto (q := 21) dL_alike_10 (by decide) ?_
  refine h_iconst (q := 22) dL_alike_21 rfl ?_
  refine h_reti dL_alike_22 rfl (Nat.le_refl _) (Nat.le_refl _) ?_
  exact ⟨rfl, rfl, rfl⟩
theorem tk_alike_I : Tk mL_alike hh_alike 5 "java/lang/IndexOutOfBoundsException" 13 := by
  refine ⟨by decide, [], ⟨0, 10, 13, 25⟩, [⟨0, 10, 17, 31⟩], rfl, ?_, by decide, by decide, cl_25, rfl⟩
  exact fun z hz => by cases hz
set_option maxRecDepth 100000 in
set_option maxHeartbeats 4000000 in
theorem hl_alike_I (hG : Full γ) {a : Int} {b : Int} (hE : Ev γ mX4_alike 7 1 6 [.ref (ga γ 6 0), .int (zI a), .int (zI b)] σ xs nR (thr "java/lang/IndexOutOfBoundsException" σ1 xs)) : EvH γ mL_alike hh_alike 8 1 6 [.ref (ga γ 6 0), .int (zI a), .int (zI b), .ref (ga γ 18 0)] σ xs (rtn (some (.int (zI 1))) σ1 xs) nX := by
  refine EvH.of 1 [some (.ref (ga γ 6 0)), some (.int (zI a)), some (.int (zI b)), some (.ref (ga γ 18 0)), none] rfl pn_L_alike rfl (Nat.le_of_ble_eq_true rfl) ?_
  refine h_aload_n (q := 1) dL_alike_0 rfl rfl ?_
  refine h_iconst (q := 2) dL_alike_1 rfl ?_
  refine h_aload_n (q := 3) dL_alike_2 rfl rfl ?_
  refine h_iload_n (q := 4) dL_alike_3 rfl rfl ?_
  refine h_iload_n (q := 5) dL_alike_4 rfl rfl ?_
  refine hT_2 (My := mX4_alike) (q := 8) (hp := 13) tk_alike_I dL_alike_5 rfl kL_78 vX4_alike (hG _ _ rfl) rfl hE ⟨by decide, by decide⟩ ⟨by decide, by decide⟩ (Nat.le_of_ble_eq_true rfl) (fun q9 => ?_)
  refine h_astore (q := 15) dL_alike_13 rfl (by decide) (Lst.setL rfl rfl) ?_
  refine h_iconst (q := 16) dL_alike_15 rfl ?_
  refine h_reti dL_alike_16 rfl (by decide) (by decide) ?_
  exact ⟨rfl, rfl, rfl⟩
theorem tk_alike_N : Tk mL_alike hh_alike 5 "java/util/NoSuchElementException" 17 := by
  refine ⟨by decide, [⟨0, 10, 13, 25⟩], ⟨0, 10, 17, 31⟩, [], rfl, ?_, by decide, by decide, cl_31, rfl⟩
  exact fun z hz => by
    simp only [List.mem_cons, List.not_mem_nil, or_false] at hz
    rcases hz with rfl
    · exact ⟨by decide, "java/lang/IndexOutOfBoundsException", by decide, by decide, cl_25⟩
set_option maxRecDepth 100000 in
set_option maxHeartbeats 4000000 in
theorem hl_alike_N (hG : Full γ) {a : Int} {b : Int} (hE : Ev γ mX4_alike 7 1 6 [.ref (ga γ 6 0), .int (zI a), .int (zI b)] σ xs nR (thr "java/util/NoSuchElementException" σ1 xs)) : EvH γ mL_alike hh_alike 8 1 6 [.ref (ga γ 6 0), .int (zI a), .int (zI b), .ref (ga γ 18 0)] σ xs (rtn (some (.int (zI 2))) σ1 xs) nX := by
  refine EvH.of 1 [some (.ref (ga γ 6 0)), some (.int (zI a)), some (.int (zI b)), some (.ref (ga γ 18 0)), none] rfl pn_L_alike rfl (Nat.le_of_ble_eq_true rfl) ?_
  refine h_aload_n (q := 1) dL_alike_0 rfl rfl ?_
  refine h_iconst (q := 2) dL_alike_1 rfl ?_
  refine h_aload_n (q := 3) dL_alike_2 rfl rfl ?_
  refine h_iload_n (q := 4) dL_alike_3 rfl rfl ?_
  refine h_iload_n (q := 5) dL_alike_4 rfl rfl ?_
  refine hT_2 (My := mX4_alike) (q := 8) (hp := 17) tk_alike_N dL_alike_5 rfl kL_78 vX4_alike (hG _ _ rfl) rfl hE ⟨by decide, by decide⟩ ⟨by decide, by decide⟩ (Nat.le_of_ble_eq_true rfl) (fun q9 => ?_)
  refine h_astore (q := 19) dL_alike_17 rfl (by decide) (Lst.setL rfl rfl) ?_
  refine h_iconst (q := 20) dL_alike_19 rfl ?_
  refine h_reti dL_alike_20 rfl (by decide) (by decide) ?_
  exact ⟨rfl, rfl, rfl⟩
set_option maxRecDepth 100000 in
set_option maxHeartbeats 4000000 in
theorem hl_together (hG : Full γ) {a : Int} {ky ny : Nat} {v : Bool} (hE : Ev γ mX4_together 8 ky ny [.ref (ga γ 6 0), .int (zI a)] σ xs (rtn (some (.int (zI (bI v)))) σ1 xs) nX) : EvH γ mL_together hh_together 9 ky ny [.ref (ga γ 6 0), .int (zI a), .ref (ga γ 18 0)] σ xs (rtn (some (.int (zI 0))) (sOv σ1 (bI v)) xs) nX := by
  refine EvH.of 1 [some (.ref (ga γ 6 0)), some (.int (zI a)), some (.ref (ga γ 18 0)), none] rfl pn_L_together rfl (Nat.le_of_ble_eq_true rfl) ?_
  refine h_aload_n (q := 1) dL_together_0 rfl rfl ?_
  refine h_iconst (q := 2) dL_together_1 rfl ?_
  refine h_aload_n (q := 3) dL_together_2 rfl rfl ?_
  refine h_iload_n (q := 4) dL_together_3 rfl rfl ?_
  refine hO_1 (My := mX4_together) (q := 7) dL_together_4 rfl kL_81 vX4_together (hG _ _ rfl) rfl hE ⟨by decide, by decide⟩ ⟨by omega, by omega⟩ (Nat.le_of_ble_eq_true rfl) ?_
  rw [Nat.zero_add, Nat.zero_add]
  refine h_ifB_eq (q := 10) (tgt := 14) dL_together_7 rfl (by decide) (fun h => ?_) (fun h => ?_)
  · refine h_lconst (z := 0) (q := 15) dL_together_14 rfl (by decide +kernel) ?_
    refine h_lastO (q := 16) dL_together_15 rfl (hG _ _ rfl) ?_
    refine h_goto (q := 25) dL_together_16 (by decide) ?_
    refine h_iconst (q := 26) dL_together_25 rfl ?_
    refine h_reti dL_together_26 rfl (Nat.le_refl _) (Nat.le_refl _) ?_
    exact ⟨rfl, by subst h; rfl, rfl⟩
  · refine h_lconst (z := 1) (q := 11) dL_together_10 rfl (by decide +kernel) ?_
    refine h_goto (q := 15) dL_together_11 (by decide) ?_
    refine h_lastO (q := 16) dL_together_15 rfl (hG _ _ rfl) ?_
    refine h_goto (q := 25) dL_together_16 (by decide) ?_
    refine h_iconst (q := 26) dL_together_25 rfl ?_
    refine h_reti dL_together_26 rfl (Nat.le_refl _) (Nat.le_refl _) ?_
    exact ⟨rfl, by subst h; rfl, rfl⟩
theorem tk_together_I : Tk mL_together hh_together 4 "java/lang/IndexOutOfBoundsException" 19 := by
  refine ⟨by decide, [], ⟨0, 16, 19, 25⟩, [⟨0, 16, 22, 31⟩], rfl, ?_, by decide, by decide, cl_25, rfl⟩
  exact fun z hz => by cases hz
set_option maxRecDepth 100000 in
set_option maxHeartbeats 4000000 in
theorem hl_together_I (hG : Full γ) {a : Int} (hE : Ev γ mX4_together 8 1 6 [.ref (ga γ 6 0), .int (zI a)] σ xs nR (thr "java/lang/IndexOutOfBoundsException" σ1 xs)) : EvH γ mL_together hh_together 9 1 6 [.ref (ga γ 6 0), .int (zI a), .ref (ga γ 18 0)] σ xs (rtn (some (.int (zI 1))) σ1 xs) nX := by
  refine EvH.of 1 [some (.ref (ga γ 6 0)), some (.int (zI a)), some (.ref (ga γ 18 0)), none] rfl pn_L_together rfl (Nat.le_of_ble_eq_true rfl) ?_
  refine h_aload_n (q := 1) dL_together_0 rfl rfl ?_
  refine h_iconst (q := 2) dL_together_1 rfl ?_
  refine h_aload_n (q := 3) dL_together_2 rfl rfl ?_
  refine h_iload_n (q := 4) dL_together_3 rfl rfl ?_
  refine hT_1 (My := mX4_together) (q := 7) (hp := 19) tk_together_I dL_together_4 rfl kL_81 vX4_together (hG _ _ rfl) rfl hE ⟨by decide, by decide⟩ ⟨by decide, by decide⟩ (Nat.le_of_ble_eq_true rfl) (fun q9 => ?_)
  refine h_astore_n (q := 20) dL_together_19 rfl (by decide) (Lst.setL rfl rfl) ?_
  refine h_iconst (q := 21) dL_together_20 rfl ?_
  refine h_reti dL_together_21 rfl (by decide) (by decide) ?_
  exact ⟨rfl, rfl, rfl⟩
theorem tk_together_N : Tk mL_together hh_together 4 "java/util/NoSuchElementException" 22 := by
  refine ⟨by decide, [⟨0, 16, 19, 25⟩], ⟨0, 16, 22, 31⟩, [], rfl, ?_, by decide, by decide, cl_31, rfl⟩
  exact fun z hz => by
    simp only [List.mem_cons, List.not_mem_nil, or_false] at hz
    rcases hz with rfl
    · exact ⟨by decide, "java/lang/IndexOutOfBoundsException", by decide, by decide, cl_25⟩
set_option maxRecDepth 100000 in
set_option maxHeartbeats 4000000 in
theorem hl_together_N (hG : Full γ) {a : Int} (hE : Ev γ mX4_together 8 1 6 [.ref (ga γ 6 0), .int (zI a)] σ xs nR (thr "java/util/NoSuchElementException" σ1 xs)) : EvH γ mL_together hh_together 9 1 6 [.ref (ga γ 6 0), .int (zI a), .ref (ga γ 18 0)] σ xs (rtn (some (.int (zI 2))) σ1 xs) nX := by
  refine EvH.of 1 [some (.ref (ga γ 6 0)), some (.int (zI a)), some (.ref (ga γ 18 0)), none] rfl pn_L_together rfl (Nat.le_of_ble_eq_true rfl) ?_
  refine h_aload_n (q := 1) dL_together_0 rfl rfl ?_
  refine h_iconst (q := 2) dL_together_1 rfl ?_
  refine h_aload_n (q := 3) dL_together_2 rfl rfl ?_
  refine h_iload_n (q := 4) dL_together_3 rfl rfl ?_
  refine hT_1 (My := mX4_together) (q := 7) (hp := 22) tk_together_N dL_together_4 rfl kL_81 vX4_together (hG _ _ rfl) rfl hE ⟨by decide, by decide⟩ ⟨by decide, by decide⟩ (Nat.le_of_ble_eq_true rfl) (fun q9 => ?_)
  refine h_astore_n (q := 23) dL_together_22 rfl (by decide) (Lst.setL rfl rfl) ?_
  refine h_iconst (q := 24) dL_together_23 rfl ?_
  refine h_reti dL_together_24 rfl (by decide) (by decide) ?_
  exact ⟨rfl, rfl, rfl⟩
set_option maxRecDepth 100000 in
set_option maxHeartbeats 4000000 in
theorem hl_mix (hG : Full γ) {a : Int} {b : Int} {c : Int} {ky ny : Nat} {v : Int} (hv : -2147483648 ≤ v ∧ v ≤ 2147483647) (hE : Ev γ mX4_mix 8 ky ny [.ref (ga γ 6 0), .int (zI a), .int (zI b), .int (zI c)] σ xs (rtn (some (.int (zI v))) σ1 xs) nX) : EvH γ mL_mix hh_mix 9 ky ny [.ref (ga γ 6 0), .int (zI a), .int (zI b), .int (zI c), .ref (ga γ 18 0)] σ xs (rtn (some (.int (zI 0))) (sOv σ1 v) xs) nX := by
  refine EvH.of 1 [some (.ref (ga γ 6 0)), some (.int (zI a)), some (.int (zI b)), some (.int (zI c)), some (.ref (ga γ 18 0)), none] rfl pn_L_mix rfl (Nat.le_of_ble_eq_true rfl) ?_
  refine h_aload (q := 2) dL_mix_0 rfl rfl ?_
  refine h_iconst (q := 3) dL_mix_2 rfl ?_
  refine h_aload_n (q := 4) dL_mix_3 rfl rfl ?_
  refine h_iload_n (q := 5) dL_mix_4 rfl rfl ?_
  refine h_iload_n (q := 6) dL_mix_5 rfl rfl ?_
  refine h_iload_n (q := 7) dL_mix_6 rfl rfl ?_
  refine hO_3 (My := mX4_mix) (q := 10) dL_mix_7 rfl kL_84 vX4_mix (hG _ _ rfl) rfl hE ⟨by decide, by decide⟩ ⟨by omega, by omega⟩ (Nat.le_of_ble_eq_true rfl) ?_
  rw [Nat.zero_add, Nat.zero_add]
  refine h_i2l (q := 11) dL_mix_10 rfl hv ?_
  refine h_lastO (q := 12) dL_mix_11 rfl (hG _ _ rfl) ?_
  refine h_goto (q := 35) dL_mix_12 (by decide) ?_
  refine h_iconst (q := 36) dL_mix_35 rfl ?_
  refine h_reti dL_mix_36 rfl (Nat.le_refl _) (Nat.le_refl _) ?_
  exact ⟨rfl, rfl, rfl⟩
theorem tk_mix_I : Tk mL_mix hh_mix 7 "java/lang/IndexOutOfBoundsException" 15 := by
  refine ⟨by decide, [], ⟨0, 12, 15, 25⟩, [⟨0, 12, 19, 31⟩, ⟨0, 12, 23, 13⟩, ⟨0, 12, 27, 88⟩, ⟨0, 12, 31, 15⟩], rfl, ?_, by decide, by decide, cl_25, rfl⟩
  exact fun z hz => by cases hz
set_option maxRecDepth 100000 in
set_option maxHeartbeats 4000000 in
theorem hl_mix_I (hG : Full γ) {a : Int} {b : Int} {c : Int} (hE : Ev γ mX4_mix 8 1 6 [.ref (ga γ 6 0), .int (zI a), .int (zI b), .int (zI c)] σ xs nR (thr "java/lang/IndexOutOfBoundsException" σ1 xs)) : EvH γ mL_mix hh_mix 9 1 6 [.ref (ga γ 6 0), .int (zI a), .int (zI b), .int (zI c), .ref (ga γ 18 0)] σ xs (rtn (some (.int (zI 1))) σ1 xs) nX := by
  refine EvH.of 1 [some (.ref (ga γ 6 0)), some (.int (zI a)), some (.int (zI b)), some (.int (zI c)), some (.ref (ga γ 18 0)), none] rfl pn_L_mix rfl (Nat.le_of_ble_eq_true rfl) ?_
  refine h_aload (q := 2) dL_mix_0 rfl rfl ?_
  refine h_iconst (q := 3) dL_mix_2 rfl ?_
  refine h_aload_n (q := 4) dL_mix_3 rfl rfl ?_
  refine h_iload_n (q := 5) dL_mix_4 rfl rfl ?_
  refine h_iload_n (q := 6) dL_mix_5 rfl rfl ?_
  refine h_iload_n (q := 7) dL_mix_6 rfl rfl ?_
  refine hT_3 (My := mX4_mix) (q := 10) (hp := 15) tk_mix_I dL_mix_7 rfl kL_84 vX4_mix (hG _ _ rfl) rfl hE ⟨by decide, by decide⟩ ⟨by decide, by decide⟩ (Nat.le_of_ble_eq_true rfl) (fun q9 => ?_)
  refine h_astore (q := 17) dL_mix_15 rfl (by decide) (Lst.setL rfl rfl) ?_
  refine h_iconst (q := 18) dL_mix_17 rfl ?_
  refine h_reti dL_mix_18 rfl (by decide) (by decide) ?_
  exact ⟨rfl, rfl, rfl⟩
theorem tk_mix_N : Tk mL_mix hh_mix 7 "java/util/NoSuchElementException" 19 := by
  refine ⟨by decide, [⟨0, 12, 15, 25⟩], ⟨0, 12, 19, 31⟩, [⟨0, 12, 23, 13⟩, ⟨0, 12, 27, 88⟩, ⟨0, 12, 31, 15⟩], rfl, ?_, by decide, by decide, cl_31, rfl⟩
  exact fun z hz => by
    simp only [List.mem_cons, List.not_mem_nil, or_false] at hz
    rcases hz with rfl
    · exact ⟨by decide, "java/lang/IndexOutOfBoundsException", by decide, by decide, cl_25⟩
set_option maxRecDepth 100000 in
set_option maxHeartbeats 4000000 in
theorem hl_mix_N (hG : Full γ) {a : Int} {b : Int} {c : Int} (hE : Ev γ mX4_mix 8 1 6 [.ref (ga γ 6 0), .int (zI a), .int (zI b), .int (zI c)] σ xs nR (thr "java/util/NoSuchElementException" σ1 xs)) : EvH γ mL_mix hh_mix 9 1 6 [.ref (ga γ 6 0), .int (zI a), .int (zI b), .int (zI c), .ref (ga γ 18 0)] σ xs (rtn (some (.int (zI 2))) σ1 xs) nX := by
  refine EvH.of 1 [some (.ref (ga γ 6 0)), some (.int (zI a)), some (.int (zI b)), some (.int (zI c)), some (.ref (ga γ 18 0)), none] rfl pn_L_mix rfl (Nat.le_of_ble_eq_true rfl) ?_
  refine h_aload (q := 2) dL_mix_0 rfl rfl ?_
  refine h_iconst (q := 3) dL_mix_2 rfl ?_
  refine h_aload_n (q := 4) dL_mix_3 rfl rfl ?_
  refine h_iload_n (q := 5) dL_mix_4 rfl rfl ?_
  refine h_iload_n (q := 6) dL_mix_5 rfl rfl ?_
  refine h_iload_n (q := 7) dL_mix_6 rfl rfl ?_
  refine hT_3 (My := mX4_mix) (q := 10) (hp := 19) tk_mix_N dL_mix_7 rfl kL_84 vX4_mix (hG _ _ rfl) rfl hE ⟨by decide, by decide⟩ ⟨by decide, by decide⟩ (Nat.le_of_ble_eq_true rfl) (fun q9 => ?_)
  refine h_astore (q := 21) dL_mix_19 rfl (by decide) (Lst.setL rfl rfl) ?_
  refine h_iconst (q := 22) dL_mix_21 rfl ?_
  refine h_reti dL_mix_22 rfl (by decide) (by decide) ?_
  exact ⟨rfl, rfl, rfl⟩
theorem tk_mix_A : Tk mL_mix hh_mix 7 "java/lang/IllegalArgumentException" 23 := by
  refine ⟨by decide, [⟨0, 12, 15, 25⟩, ⟨0, 12, 19, 31⟩], ⟨0, 12, 23, 13⟩, [⟨0, 12, 27, 88⟩, ⟨0, 12, 31, 15⟩], rfl, ?_, by decide, by decide, cl_13, rfl⟩
  exact fun z hz => by
    simp only [List.mem_cons, List.not_mem_nil, or_false] at hz
    rcases hz with rfl | rfl
    · exact ⟨by decide, "java/lang/IndexOutOfBoundsException", by decide, by decide, cl_25⟩
    · exact ⟨by decide, "java/util/NoSuchElementException", by decide, by decide, cl_31⟩
set_option maxRecDepth 100000 in
set_option maxHeartbeats 4000000 in
theorem hl_mix_A (hG : Full γ) {a : Int} {b : Int} {c : Int} (hE : Ev γ mX4_mix 8 1 6 [.ref (ga γ 6 0), .int (zI a), .int (zI b), .int (zI c)] σ xs nR (thr "java/lang/IllegalArgumentException" σ1 xs)) : EvH γ mL_mix hh_mix 9 1 6 [.ref (ga γ 6 0), .int (zI a), .int (zI b), .int (zI c), .ref (ga γ 18 0)] σ xs (rtn (some (.int (zI 3))) σ1 xs) nX := by
  refine EvH.of 1 [some (.ref (ga γ 6 0)), some (.int (zI a)), some (.int (zI b)), some (.int (zI c)), some (.ref (ga γ 18 0)), none] rfl pn_L_mix rfl (Nat.le_of_ble_eq_true rfl) ?_
  refine h_aload (q := 2) dL_mix_0 rfl rfl ?_
  refine h_iconst (q := 3) dL_mix_2 rfl ?_
  refine h_aload_n (q := 4) dL_mix_3 rfl rfl ?_
  refine h_iload_n (q := 5) dL_mix_4 rfl rfl ?_
  refine h_iload_n (q := 6) dL_mix_5 rfl rfl ?_
  refine h_iload_n (q := 7) dL_mix_6 rfl rfl ?_
  refine hT_3 (My := mX4_mix) (q := 10) (hp := 23) tk_mix_A dL_mix_7 rfl kL_84 vX4_mix (hG _ _ rfl) rfl hE ⟨by decide, by decide⟩ ⟨by decide, by decide⟩ (Nat.le_of_ble_eq_true rfl) (fun q9 => ?_)
  refine h_astore (q := 25) dL_mix_23 rfl (by decide) (Lst.setL rfl rfl) ?_
  refine h_iconst (q := 26) dL_mix_25 rfl ?_
  refine h_reti dL_mix_26 rfl (by decide) (by decide) ?_
  exact ⟨rfl, rfl, rfl⟩
theorem tk_mix_U : Tk mL_mix hh_mix 7 "java/lang/UnsupportedOperationException" 27 := by
  refine ⟨by decide, [⟨0, 12, 15, 25⟩, ⟨0, 12, 19, 31⟩, ⟨0, 12, 23, 13⟩], ⟨0, 12, 27, 88⟩, [⟨0, 12, 31, 15⟩], rfl, ?_, by decide, by decide, cl_88, rfl⟩
  exact fun z hz => by
    simp only [List.mem_cons, List.not_mem_nil, or_false] at hz
    rcases hz with rfl | rfl | rfl
    · exact ⟨by decide, "java/lang/IndexOutOfBoundsException", by decide, by decide, cl_25⟩
    · exact ⟨by decide, "java/util/NoSuchElementException", by decide, by decide, cl_31⟩
    · exact ⟨by decide, "java/lang/IllegalArgumentException", by decide, by decide, cl_13⟩
set_option maxRecDepth 100000 in
set_option maxHeartbeats 4000000 in
theorem hl_mix_U (hG : Full γ) {a : Int} {b : Int} {c : Int} (hE : Ev γ mX4_mix 8 1 6 [.ref (ga γ 6 0), .int (zI a), .int (zI b), .int (zI c)] σ xs nR (thr "java/lang/UnsupportedOperationException" σ1 xs)) : EvH γ mL_mix hh_mix 9 1 6 [.ref (ga γ 6 0), .int (zI a), .int (zI b), .int (zI c), .ref (ga γ 18 0)] σ xs (rtn (some (.int (zI 4))) σ1 xs) nX := by
  refine EvH.of 1 [some (.ref (ga γ 6 0)), some (.int (zI a)), some (.int (zI b)), some (.int (zI c)), some (.ref (ga γ 18 0)), none] rfl pn_L_mix rfl (Nat.le_of_ble_eq_true rfl) ?_
  refine h_aload (q := 2) dL_mix_0 rfl rfl ?_
  refine h_iconst (q := 3) dL_mix_2 rfl ?_
  refine h_aload_n (q := 4) dL_mix_3 rfl rfl ?_
  refine h_iload_n (q := 5) dL_mix_4 rfl rfl ?_
  refine h_iload_n (q := 6) dL_mix_5 rfl rfl ?_
  refine h_iload_n (q := 7) dL_mix_6 rfl rfl ?_
  refine hT_3 (My := mX4_mix) (q := 10) (hp := 27) tk_mix_U dL_mix_7 rfl kL_84 vX4_mix (hG _ _ rfl) rfl hE ⟨by decide, by decide⟩ ⟨by decide, by decide⟩ (Nat.le_of_ble_eq_true rfl) (fun q9 => ?_)
  refine h_astore (q := 29) dL_mix_27 rfl (by decide) (Lst.setL rfl rfl) ?_
  refine h_iconst (q := 30) dL_mix_29 rfl ?_
  refine h_reti dL_mix_30 rfl (by decide) (by decide) ?_
  exact ⟨rfl, rfl, rfl⟩
theorem tk_mix_S : Tk mL_mix hh_mix 7 "java/lang/IllegalStateException" 31 := by
  refine ⟨by decide, [⟨0, 12, 15, 25⟩, ⟨0, 12, 19, 31⟩, ⟨0, 12, 23, 13⟩, ⟨0, 12, 27, 88⟩], ⟨0, 12, 31, 15⟩, [], rfl, ?_, by decide, by decide, cl_15, rfl⟩
  exact fun z hz => by
    simp only [List.mem_cons, List.not_mem_nil, or_false] at hz
    rcases hz with rfl | rfl | rfl | rfl
    · exact ⟨by decide, "java/lang/IndexOutOfBoundsException", by decide, by decide, cl_25⟩
    · exact ⟨by decide, "java/util/NoSuchElementException", by decide, by decide, cl_31⟩
    · exact ⟨by decide, "java/lang/IllegalArgumentException", by decide, by decide, cl_13⟩
    · exact ⟨by decide, "java/lang/UnsupportedOperationException", by decide, by decide, cl_88⟩
set_option maxRecDepth 100000 in
set_option maxHeartbeats 4000000 in
theorem hl_mix_S (hG : Full γ) {a : Int} {b : Int} {c : Int} (hE : Ev γ mX4_mix 8 1 6 [.ref (ga γ 6 0), .int (zI a), .int (zI b), .int (zI c)] σ xs nR (thr "java/lang/IllegalStateException" σ1 xs)) : EvH γ mL_mix hh_mix 9 1 6 [.ref (ga γ 6 0), .int (zI a), .int (zI b), .int (zI c), .ref (ga γ 18 0)] σ xs (rtn (some (.int (zI 5))) σ1 xs) nX := by
  refine EvH.of 1 [some (.ref (ga γ 6 0)), some (.int (zI a)), some (.int (zI b)), some (.int (zI c)), some (.ref (ga γ 18 0)), none] rfl pn_L_mix rfl (Nat.le_of_ble_eq_true rfl) ?_
  refine h_aload (q := 2) dL_mix_0 rfl rfl ?_
  refine h_iconst (q := 3) dL_mix_2 rfl ?_
  refine h_aload_n (q := 4) dL_mix_3 rfl rfl ?_
  refine h_iload_n (q := 5) dL_mix_4 rfl rfl ?_
  refine h_iload_n (q := 6) dL_mix_5 rfl rfl ?_
  refine h_iload_n (q := 7) dL_mix_6 rfl rfl ?_
  refine hT_3 (My := mX4_mix) (q := 10) (hp := 31) tk_mix_S dL_mix_7 rfl kL_84 vX4_mix (hG _ _ rfl) rfl hE ⟨by decide, by decide⟩ ⟨by decide, by decide⟩ (Nat.le_of_ble_eq_true rfl) (fun q9 => ?_)
  refine h_astore (q := 33) dL_mix_31 rfl (by decide) (Lst.setL rfl rfl) ?_
  refine h_iconst (q := 34) dL_mix_33 rfl ?_
  refine h_reti dL_mix_34 rfl (by decide) (by decide) ?_
  exact ⟨rfl, rfl, rfl⟩
end HELP
