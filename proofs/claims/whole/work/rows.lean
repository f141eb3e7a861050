section
-- ===== PART A: goes FIRST, ahead of the names: the tables' words, and 'selects' of the private methods out of them =====
/-- a private method of a class that the tables say can be made, by its rows of tables_1 -/
def lw_okq (q : MethodName × Nat) : Prop := (q.1.cls ≠ "java/lang/invoke/MethodHandle" ∧ q.1.cls ≠ "java/lang/invoke/VarHandle") ∧ Cond.instantiable q.1.cls q.2 ∈ tables_1 ∧ Cond.privateMethod q.1 ∈ tables_1 ∧ Cond.instanceMethod q.1 ∈ tables_1
theorem lw_p0 : lw_okq (⟨"Linkloom", "isSameAnew", "(LLinkloom$Address;)Z"⟩, 6) := ⟨⟨by decide +kernel, by decide +kernel⟩, List.mem_of_getElem? (i := 22) (by decide +kernel), List.mem_of_getElem? (i := 147) (by decide +kernel), List.mem_of_getElem? (i := 148) (by decide +kernel)⟩
theorem lw_p1 : lw_okq (⟨"Linkloom$Cutter", "cutScheme", "(I)V"⟩, 3) := ⟨⟨by decide +kernel, by decide +kernel⟩, List.mem_of_getElem? (i := 44) (by decide +kernel), List.mem_of_getElem? (i := 282) (by decide +kernel), List.mem_of_getElem? (i := 283) (by decide +kernel)⟩
theorem lw_p2 : lw_okq (⟨"Linkloom$Cutter", "refuse", "(I)V"⟩, 3) := ⟨⟨by decide +kernel, by decide +kernel⟩, List.mem_of_getElem? (i := 44) (by decide +kernel), List.mem_of_getElem? (i := 297) (by decide +kernel), List.mem_of_getElem? (i := 298) (by decide +kernel)⟩
theorem lw_p3 : lw_okq (⟨"Linkloom$Cutter", "cutOpaque", "(I)I"⟩, 3) := ⟨⟨by decide +kernel, by decide +kernel⟩, List.mem_of_getElem? (i := 44) (by decide +kernel), List.mem_of_getElem? (i := 302) (by decide +kernel), List.mem_of_getElem? (i := 303) (by decide +kernel)⟩
theorem lw_p4 : lw_okq (⟨"Linkloom$Cutter", "cutPart", "(IILjava/lang/String;)I"⟩, 3) := ⟨⟨by decide +kernel, by decide +kernel⟩, List.mem_of_getElem? (i := 44) (by decide +kernel), List.mem_of_getElem? (i := 307) (by decide +kernel), List.mem_of_getElem? (i := 308) (by decide +kernel)⟩
theorem lw_p5 : lw_okq (⟨"Linkloom$Cutter", "cutAuthority", "(I)I"⟩, 3) := ⟨⟨by decide +kernel, by decide +kernel⟩, List.mem_of_getElem? (i := 44) (by decide +kernel), List.mem_of_getElem? (i := 313) (by decide +kernel), List.mem_of_getElem? (i := 314) (by decide +kernel)⟩
theorem lw_p6 : lw_okq (⟨"Linkloom$Cutter", "cutPathAndQuery", "(II)I"⟩, 3) := ⟨⟨by decide +kernel, by decide +kernel⟩, List.mem_of_getElem? (i := 44) (by decide +kernel), List.mem_of_getElem? (i := 321) (by decide +kernel), List.mem_of_getElem? (i := 322) (by decide +kernel)⟩
theorem lw_p7 : lw_okq (⟨"Linkloom$Cutter", "cutFragment", "(I)V"⟩, 3) := ⟨⟨by decide +kernel, by decide +kernel⟩, List.mem_of_getElem? (i := 44) (by decide +kernel), List.mem_of_getElem? (i := 326) (by decide +kernel), List.mem_of_getElem? (i := 327) (by decide +kernel)⟩
theorem lw_p8 : lw_okq (⟨"Linkloom$Cutter", "cutServer", "(II)V"⟩, 3) := ⟨⟨by decide +kernel, by decide +kernel⟩, List.mem_of_getElem? (i := 44) (by decide +kernel), List.mem_of_getElem? (i := 336) (by decide +kernel), List.mem_of_getElem? (i := 337) (by decide +kernel)⟩
theorem lw_p9 : lw_okq (⟨"Linkloom$Address", "isPartAlike", "(LLinkloom$Address;I)Z"⟩, 5) := ⟨⟨by decide +kernel, by decide +kernel⟩, List.mem_of_getElem? (i := 50) (by decide +kernel), List.mem_of_getElem? (i := 377) (by decide +kernel), List.mem_of_getElem? (i := 378) (by decide +kernel)⟩
theorem lw_p10 : lw_okq (⟨"Linkloom", "isThreeParts", "(LLinkloom$Address;)Z"⟩, 6) := ⟨⟨by decide +kernel, by decide +kernel⟩, List.mem_of_getElem? (i := 22) (by decide +kernel), List.mem_of_getElem? (i := 394) (by decide +kernel), List.mem_of_getElem? (i := 395) (by decide +kernel)⟩
theorem lw_p11 : lw_okq (⟨"Linkloom", "weavePart", "(Ljava/lang/String;LLinkloom$Address;ILjava/lang/String;)V"⟩, 6) := ⟨⟨by decide +kernel, by decide +kernel⟩, List.mem_of_getElem? (i := 22) (by decide +kernel), List.mem_of_getElem? (i := 400) (by decide +kernel), List.mem_of_getElem? (i := 401) (by decide +kernel)⟩
theorem lw_p12 : lw_okq (⟨"Linkloom", "isWovenAgain", "(LLinkloom$Address;)Z"⟩, 6) := ⟨⟨by decide +kernel, by decide +kernel⟩, List.mem_of_getElem? (i := 22) (by decide +kernel), List.mem_of_getElem? (i := 436) (by decide +kernel), List.mem_of_getElem? (i := 437) (by decide +kernel)⟩
theorem lw_p13 : lw_okq (⟨"Linkloom", "weave", "(LLinkloom$Address;LLinkloom$Address;I)V"⟩, 6) := ⟨⟨by decide +kernel, by decide +kernel⟩, List.mem_of_getElem? (i := 22) (by decide +kernel), List.mem_of_getElem? (i := 440) (by decide +kernel), List.mem_of_getElem? (i := 441) (by decide +kernel)⟩
theorem lw_p14 : lw_okq (⟨"java/lang/Throwable", "fillInStackTrace", "(I)Ljava/lang/Throwable;"⟩, 6) := ⟨⟨by decide +kernel, by decide +kernel⟩, List.mem_of_getElem? (i := 519) (by decide +kernel), List.mem_of_getElem? (i := 517) (by decide +kernel), List.mem_of_getElem? (i := 518) (by decide +kernel)⟩
theorem lw_p15 : lw_okq (⟨"Linkloom", "checkRoom", "(I)V"⟩, 6) := ⟨⟨by decide +kernel, by decide +kernel⟩, List.mem_of_getElem? (i := 22) (by decide +kernel), List.mem_of_getElem? (i := 548) (by decide +kernel), List.mem_of_getElem? (i := 549) (by decide +kernel)⟩
def lw_privs_1 : List (MethodName × Nat) := [(⟨"Linkloom", "isSameAnew", "(LLinkloom$Address;)Z"⟩, 6), (⟨"Linkloom$Cutter", "cutScheme", "(I)V"⟩, 3), (⟨"Linkloom$Cutter", "refuse", "(I)V"⟩, 3), (⟨"Linkloom$Cutter", "cutOpaque", "(I)I"⟩, 3), (⟨"Linkloom$Cutter", "cutPart", "(IILjava/lang/String;)I"⟩, 3), (⟨"Linkloom$Cutter", "cutAuthority", "(I)I"⟩, 3), (⟨"Linkloom$Cutter", "cutPathAndQuery", "(II)I"⟩, 3), (⟨"Linkloom$Cutter", "cutFragment", "(I)V"⟩, 3), (⟨"Linkloom$Cutter", "cutServer", "(II)V"⟩, 3), (⟨"Linkloom$Address", "isPartAlike", "(LLinkloom$Address;I)Z"⟩, 5), (⟨"Linkloom", "isThreeParts", "(LLinkloom$Address;)Z"⟩, 6), (⟨"Linkloom", "weavePart", "(Ljava/lang/String;LLinkloom$Address;ILjava/lang/String;)V"⟩, 6), (⟨"Linkloom", "isWovenAgain", "(LLinkloom$Address;)Z"⟩, 6), (⟨"Linkloom", "weave", "(LLinkloom$Address;LLinkloom$Address;I)V"⟩, 6), (⟨"java/lang/Throwable", "fillInStackTrace", "(I)Ljava/lang/Throwable;"⟩, 6), (⟨"Linkloom", "checkRoom", "(I)V"⟩, 6)]
theorem lw_r1 : ∀ q ∈ lw_privs_1, lw_okq q := List.forall_mem_cons.mpr ⟨lw_p0, List.forall_mem_cons.mpr ⟨lw_p1, List.forall_mem_cons.mpr ⟨lw_p2, List.forall_mem_cons.mpr ⟨lw_p3, List.forall_mem_cons.mpr ⟨lw_p4, List.forall_mem_cons.mpr ⟨lw_p5, List.forall_mem_cons.mpr ⟨lw_p6, List.forall_mem_cons.mpr ⟨lw_p7, List.forall_mem_cons.mpr ⟨lw_p8, List.forall_mem_cons.mpr ⟨lw_p9, List.forall_mem_cons.mpr ⟨lw_p10, List.forall_mem_cons.mpr ⟨lw_p11, List.forall_mem_cons.mpr ⟨lw_p12, List.forall_mem_cons.mpr ⟨lw_p13, List.forall_mem_cons.mpr ⟨lw_p14, List.forall_mem_cons.mpr ⟨lw_p15, fun _ h => absurd h List.not_mem_nil⟩⟩⟩⟩⟩⟩⟩⟩⟩⟩⟩⟩⟩⟩⟩⟩
theorem lw_p16 : lw_okq (⟨"Linkloom", "slotAt", "(I)LLinkloom$Address;"⟩, 6) := ⟨⟨by decide +kernel, by decide +kernel⟩, List.mem_of_getElem? (i := 22) (by decide +kernel), List.mem_of_getElem? (i := 675) (by decide +kernel), List.mem_of_getElem? (i := 676) (by decide +kernel)⟩
theorem lw_p17 : lw_okq (⟨"Linkloom", "checkRefused", "()V"⟩, 6) := ⟨⟨by decide +kernel, by decide +kernel⟩, List.mem_of_getElem? (i := 22) (by decide +kernel), List.mem_of_getElem? (i := 700) (by decide +kernel), List.mem_of_getElem? (i := 701) (by decide +kernel)⟩
theorem lw_p18 : lw_okq (⟨"Linkloom", "addressAt", "(I)LLinkloom$Address;"⟩, 6) := ⟨⟨by decide +kernel, by decide +kernel⟩, List.mem_of_getElem? (i := 22) (by decide +kernel), List.mem_of_getElem? (i := 726) (by decide +kernel), List.mem_of_getElem? (i := 727) (by decide +kernel)⟩
theorem lw_p19 : lw_okq (⟨"LinkloomModel", "fails", "(I)Z"⟩, 15) := ⟨⟨by decide +kernel, by decide +kernel⟩, List.mem_of_getElem? (i := 838) (by decide +kernel), List.mem_of_getElem? (i := 904) (by decide +kernel), List.mem_of_getElem? (i := 905) (by decide +kernel)⟩
theorem lw_p20 : lw_okq (⟨"LinkloomModel", "put", "([III)V"⟩, 15) := ⟨⟨by decide +kernel, by decide +kernel⟩, List.mem_of_getElem? (i := 838) (by decide +kernel), List.mem_of_getElem? (i := 908) (by decide +kernel), List.mem_of_getElem? (i := 909) (by decide +kernel)⟩
theorem lw_p21 : lw_okq (⟨"LinkloomModel", "slashes", "()I"⟩, 15) := ⟨⟨by decide +kernel, by decide +kernel⟩, List.mem_of_getElem? (i := 838) (by decide +kernel), List.mem_of_getElem? (i := 946) (by decide +kernel), List.mem_of_getElem? (i := 947) (by decide +kernel)⟩
theorem lw_p22 : lw_okq (⟨"LinkloomModel", "rest", "()I"⟩, 15) := ⟨⟨by decide +kernel, by decide +kernel⟩, List.mem_of_getElem? (i := 838) (by decide +kernel), List.mem_of_getElem? (i := 950) (by decide +kernel), List.mem_of_getElem? (i := 951) (by decide +kernel)⟩
theorem lw_p23 : lw_okq (⟨"LinkloomModel", "next", "(ILjava/lang/String;)I"⟩, 15) := ⟨⟨by decide +kernel, by decide +kernel⟩, List.mem_of_getElem? (i := 838) (by decide +kernel), List.mem_of_getElem? (i := 955) (by decide +kernel), List.mem_of_getElem? (i := 956) (by decide +kernel)⟩
theorem lw_p24 : lw_okq (⟨"LinkloomModel", "isAt", "(II)Z"⟩, 15) := ⟨⟨by decide +kernel, by decide +kernel⟩, List.mem_of_getElem? (i := 838) (by decide +kernel), List.mem_of_getElem? (i := 960) (by decide +kernel), List.mem_of_getElem? (i := 961) (by decide +kernel)⟩
theorem lw_p25 : lw_okq (⟨"LinkloomModel", "bad", "(II)I"⟩, 15) := ⟨⟨by decide +kernel, by decide +kernel⟩, List.mem_of_getElem? (i := 838) (by decide +kernel), List.mem_of_getElem? (i := 965) (by decide +kernel), List.mem_of_getElem? (i := 966) (by decide +kernel)⟩
theorem lw_p26 : lw_okq (⟨"LinkloomModel", "parts", "()I"⟩, 15) := ⟨⟨by decide +kernel, by decide +kernel⟩, List.mem_of_getElem? (i := 838) (by decide +kernel), List.mem_of_getElem? (i := 975) (by decide +kernel), List.mem_of_getElem? (i := 976) (by decide +kernel)⟩
theorem lw_p27 : lw_okq (⟨"LinkloomModel", "cut", "(CII)V"⟩, 15) := ⟨⟨by decide +kernel, by decide +kernel⟩, List.mem_of_getElem? (i := 838) (by decide +kernel), List.mem_of_getElem? (i := 985) (by decide +kernel), List.mem_of_getElem? (i := 986) (by decide +kernel)⟩
theorem lw_p28 : lw_okq (⟨"LinkloomModel", "authority", "(II)V"⟩, 15) := ⟨⟨by decide +kernel, by decide +kernel⟩, List.mem_of_getElem? (i := 838) (by decide +kernel), List.mem_of_getElem? (i := 994) (by decide +kernel), List.mem_of_getElem? (i := 995) (by decide +kernel)⟩
theorem lw_p29 : lw_okq (⟨"LinkloomModel", "isNumbers", "(II)Z"⟩, 15) := ⟨⟨by decide +kernel, by decide +kernel⟩, List.mem_of_getElem? (i := 838) (by decide +kernel), List.mem_of_getElem? (i := 998) (by decide +kernel), List.mem_of_getElem? (i := 999) (by decide +kernel)⟩
theorem lw_p30 : lw_okq (⟨"LinkloomModel", "isLabels", "(II)Z"⟩, 15) := ⟨⟨by decide +kernel, by decide +kernel⟩, List.mem_of_getElem? (i := 838) (by decide +kernel), List.mem_of_getElem? (i := 1002) (by decide +kernel), List.mem_of_getElem? (i := 1003) (by decide +kernel)⟩
theorem lw_p31 : lw_okq (⟨"LinkloomModel", "noSlot", "(I)I"⟩, 15) := ⟨⟨by decide +kernel, by decide +kernel⟩, List.mem_of_getElem? (i := 838) (by decide +kernel), List.mem_of_getElem? (i := 1030) (by decide +kernel), List.mem_of_getElem? (i := 1031) (by decide +kernel)⟩
def lw_privs_2 : List (MethodName × Nat) := [(⟨"Linkloom", "slotAt", "(I)LLinkloom$Address;"⟩, 6), (⟨"Linkloom", "checkRefused", "()V"⟩, 6), (⟨"Linkloom", "addressAt", "(I)LLinkloom$Address;"⟩, 6), (⟨"LinkloomModel", "fails", "(I)Z"⟩, 15), (⟨"LinkloomModel", "put", "([III)V"⟩, 15), (⟨"LinkloomModel", "slashes", "()I"⟩, 15), (⟨"LinkloomModel", "rest", "()I"⟩, 15), (⟨"LinkloomModel", "next", "(ILjava/lang/String;)I"⟩, 15), (⟨"LinkloomModel", "isAt", "(II)Z"⟩, 15), (⟨"LinkloomModel", "bad", "(II)I"⟩, 15), (⟨"LinkloomModel", "parts", "()I"⟩, 15), (⟨"LinkloomModel", "cut", "(CII)V"⟩, 15), (⟨"LinkloomModel", "authority", "(II)V"⟩, 15), (⟨"LinkloomModel", "isNumbers", "(II)Z"⟩, 15), (⟨"LinkloomModel", "isLabels", "(II)Z"⟩, 15), (⟨"LinkloomModel", "noSlot", "(I)I"⟩, 15)]
theorem lw_r2 : ∀ q ∈ lw_privs_2, lw_okq q := List.forall_mem_cons.mpr ⟨lw_p16, List.forall_mem_cons.mpr ⟨lw_p17, List.forall_mem_cons.mpr ⟨lw_p18, List.forall_mem_cons.mpr ⟨lw_p19, List.forall_mem_cons.mpr ⟨lw_p20, List.forall_mem_cons.mpr ⟨lw_p21, List.forall_mem_cons.mpr ⟨lw_p22, List.forall_mem_cons.mpr ⟨lw_p23, List.forall_mem_cons.mpr ⟨lw_p24, List.forall_mem_cons.mpr ⟨lw_p25, List.forall_mem_cons.mpr ⟨lw_p26, List.forall_mem_cons.mpr ⟨lw_p27, List.forall_mem_cons.mpr ⟨lw_p28, List.forall_mem_cons.mpr ⟨lw_p29, List.forall_mem_cons.mpr ⟨lw_p30, List.forall_mem_cons.mpr ⟨lw_p31, fun _ h => absurd h List.not_mem_nil⟩⟩⟩⟩⟩⟩⟩⟩⟩⟩⟩⟩⟩⟩⟩⟩
theorem lw_p32 : lw_okq (⟨"LinkloomModel", "has", "(IC)Z"⟩, 15) := ⟨⟨by decide +kernel, by decide +kernel⟩, List.mem_of_getElem? (i := 838) (by decide +kernel), List.mem_of_getElem? (i := 1034) (by decide +kernel), List.mem_of_getElem? (i := 1035) (by decide +kernel)⟩
theorem lw_p33 : lw_okq (⟨"LinkloomModel", "noPart", "(IC)I"⟩, 15) := ⟨⟨by decide +kernel, by decide +kernel⟩, List.mem_of_getElem? (i := 838) (by decide +kernel), List.mem_of_getElem? (i := 1050) (by decide +kernel), List.mem_of_getElem? (i := 1051) (by decide +kernel)⟩
theorem lw_p34 : lw_okq (⟨"LinkloomModel", "many", "(II)I"⟩, 15) := ⟨⟨by decide +kernel, by decide +kernel⟩, List.mem_of_getElem? (i := 838) (by decide +kernel), List.mem_of_getElem? (i := 1054) (by decide +kernel), List.mem_of_getElem? (i := 1055) (by decide +kernel)⟩
theorem lw_p35 : lw_okq (⟨"LinkloomModel", "add", "(IC)V"⟩, 15) := ⟨⟨by decide +kernel, by decide +kernel⟩, List.mem_of_getElem? (i := 838) (by decide +kernel), List.mem_of_getElem? (i := 1070) (by decide +kernel), List.mem_of_getElem? (i := 1071) (by decide +kernel)⟩
theorem lw_p36 : lw_okq (⟨"LinkloomModel", "isAlike", "(III)Z"⟩, 15) := ⟨⟨by decide +kernel, by decide +kernel⟩, List.mem_of_getElem? (i := 838) (by decide +kernel), List.mem_of_getElem? (i := 1082) (by decide +kernel), List.mem_of_getElem? (i := 1083) (by decide +kernel)⟩
theorem lw_p37 : lw_okq (⟨"LinkloomModel", "all", "(IIC)V"⟩, 15) := ⟨⟨by decide +kernel, by decide +kernel⟩, List.mem_of_getElem? (i := 838) (by decide +kernel), List.mem_of_getElem? (i := 1090) (by decide +kernel), List.mem_of_getElem? (i := 1091) (by decide +kernel)⟩
theorem lw_p38 : lw_okq (⟨"LinkloomModel", "sign", "(C)V"⟩, 15) := ⟨⟨by decide +kernel, by decide +kernel⟩, List.mem_of_getElem? (i := 838) (by decide +kernel), List.mem_of_getElem? (i := 1094) (by decide +kernel), List.mem_of_getElem? (i := 1095) (by decide +kernel)⟩
theorem lw_p39 : lw_okq (⟨"LinkloomModel", "taken", "(IC)I"⟩, 15) := ⟨⟨by decide +kernel, by decide +kernel⟩, List.mem_of_getElem? (i := 838) (by decide +kernel), List.mem_of_getElem? (i := 1103) (by decide +kernel), List.mem_of_getElem? (i := 1104) (by decide +kernel)⟩
def lw_privs_3 : List (MethodName × Nat) := [(⟨"LinkloomModel", "has", "(IC)Z"⟩, 15), (⟨"LinkloomModel", "noPart", "(IC)I"⟩, 15), (⟨"LinkloomModel", "many", "(II)I"⟩, 15), (⟨"LinkloomModel", "add", "(IC)V"⟩, 15), (⟨"LinkloomModel", "isAlike", "(III)Z"⟩, 15), (⟨"LinkloomModel", "all", "(IIC)V"⟩, 15), (⟨"LinkloomModel", "sign", "(C)V"⟩, 15), (⟨"LinkloomModel", "taken", "(IC)I"⟩, 15)]
theorem lw_r3 : ∀ q ∈ lw_privs_3, lw_okq q := List.forall_mem_cons.mpr ⟨lw_p32, List.forall_mem_cons.mpr ⟨lw_p33, List.forall_mem_cons.mpr ⟨lw_p34, List.forall_mem_cons.mpr ⟨lw_p35, List.forall_mem_cons.mpr ⟨lw_p36, List.forall_mem_cons.mpr ⟨lw_p37, List.forall_mem_cons.mpr ⟨lw_p38, List.forall_mem_cons.mpr ⟨lw_p39, fun _ h => absurd h List.not_mem_nil⟩⟩⟩⟩⟩⟩⟩⟩
def lw_privs : List (MethodName × Nat) := lw_privs_1 ++ (lw_privs_2 ++ (lw_privs_3))
def lw_tbl : List Cond := k2_sels lw_privs ++ tables_1
theorem lw_privs_ok : ∀ q ∈ lw_privs, lw_okq q := by
  show ∀ q ∈ lw_privs_1 ++ (lw_privs_2 ++ (lw_privs_3)), lw_okq q
  exact List.forall_mem_append.mpr ⟨lw_r1, List.forall_mem_append.mpr ⟨lw_r2, lw_r3⟩⟩

/-! ===== BEGIN words of one list among another's, by their places ===== -/
theorem goodIn_r {big : List Cond} (ws : List Cond) (ps : List Nat) (hp : ws = ps.filterMap (fun i => big[i]?)) (h : ws.all goodWord = true) : GoodIn big ws := by
  intro w hw
  have h1 := List.all_eq_true.mp h w hw
  rw [hp] at hw
  obtain ⟨i, -, hi⟩ := List.mem_filterMap.mp hw
  have hm : w ∈ big := by first | exact List.mem_of_getElem? hi | exact List.getElem?_mem hi
  exact ⟨hm, good_of_word h1⟩
theorem goodIn_app {big a b : List Cond} (ha : GoodIn big a) (hb : GoodIn big b) : GoodIn big (a ++ b) := fun w h => (List.mem_append.mp h).elim (ha w) (hb w)
theorem goodIn_ca {big a b : List Cond} {c : Cond} (ha : GoodIn big (c :: a)) (hb : GoodIn big b) : GoodIn big (c :: (a ++ b)) := fun w h => (List.mem_cons.mp h).elim (fun e => ha w (List.mem_cons.mpr (Or.inl e))) (fun h => (List.mem_append.mp h).elim (fun h => ha w (List.mem_cons.mpr (Or.inr h))) (hb w))
theorem goodIn_sub {big ws : List Cond} (hm : ∀ w ∈ ws, w ∈ big) (h : ws.all goodWord = true) : GoodIn big ws := fun w hw => ⟨hm w hw, good_of_word (List.all_eq_true.mp h w hw)⟩
/-! ===== END ===== -/

/-! ===== BEGIN exceptions that leave a method, and their catching by the caller (launches without stack traces) ===== -/
section VXA
/-! The laws vx_back, vx_callV, vx_callS, vx_callSW, vx_throw0, vx_throwS follow proofs of the library, with one case more: JvmDerived/Free/Laws.lean (Back.of_free), Shelf42/LK1.lean (callV, callS), Shelf/KitTraced.lean (throwNew0V, throwNewS). -/
/-- where a method has thrown q: the class by its name, the cell, what was written, the world -/
def vx_T (XC : String → State → State → Prop) (st : State) (q : Addr) (t : State) (mc ms : Nat) (free : Addr → Prop) : Prop :=
  ∃ (E : String) (ce : Cell) (L : List Loc), XC E st t ∧ t.heap[q]? = some ce ∧ ce.vm = .none ∧ st.vm.findClass E = some ce.cls ∧ st.WarmedH t.vm ∧ st.sameButNew ({ t with vm := st.vm } : State) L mc ms ∧ ∀ z ∈ L, free z.base
def vx_Q (Qc : Array Value → State → Outcome → State → Prop) (XC : String → State → State → Prop) (mc ms : Nat) (free : Addr → Prop) : Array Value → State → Outcome → State → Prop := fun a st o t =>
  (Qc a st o t ∧ ∃ L, FrameEnd st o t L mc ms ∧ ∀ q ∈ L, free q.base) ∨ ∃ q, o = .threw q ∧ vx_T XC st q t mc ms free
/-- a callee that returns or throws -/
def vx_Met (l : Launch) (y : MethodName) (ws : List Cond) (rm : Room) (Pc : Array Value → State → Prop) (Qc : Array Value → State → Outcome → State → Prop) (XC : String → State → State → Prop) (mc ms : Nat) (free : Addr → Prop) : Prop :=
  MetFree l y (headSpec ws rm) Pc (fun _ _ _ _ _ => True) (vx_Q Qc XC mc ms free)
def vx_Post (XC : String → State → State → Prop) (mc ms : Nat) (free : Addr → Prop) : Pt → Array Value → Addr → Pt → Prop := fun A a q B =>
  ∃ (g : JFrame) (mk : MethodId) (t : State) (L : List Loc) (E : String) (ce : Cell), B.U.heap = t.heap ∧ B.U.vm = t.vm ∧ XC E (A.U.calling g mk a) t ∧ t.heap[q]? = some ce ∧ ce.vm = .none ∧ A.U.vm.findClass E = some ce.cls ∧ B.locs = A.locs ++ L ∧ (∀ z ∈ L, free z.base) ∧ B.cells = A.cells + mc ∧ B.slots = A.slots + ms
def vx_Back (l : Launch) (R : Room) (p : Program) (e : Env) (below : List Frame) (s : State) (sargs : Array Value) (y : MethodName) (len W9 : Nat)
    (Pre : Pt → Array Value → Prop) (Post : Pt → Array Value → Option Value → Pt → Prop) (PostX : Pt → Array Value → Addr → Pt → Prop) : Prop :=
  ∀ (m : MethodId) (meth : Method) (c : Code) (A : Pt) (g : JFrame) (ig : Instr) (mk : MethodId) (a : Array Value),
    Stand p l e R s m sargs below meth c A.U A.locs A.cells A.slots → g.method = m → g.locals.size = c.maxLocals → decode c.code g.pc = .ok (ig, len) →
    2 * g.monitorRoom + (g.stack.map fun v => v.category).sum ≤ W9 → A.U.methodNamed? y = some mk → Pre A a →
    (∃ (v : Option Value) (B : Pt), Stand p l e R s m sargs below meth c B.U B.locs B.cells B.slots ∧ Post A a v B ∧
      Steps p.tables e below (doInvoke e (A.U.setTop g) [] mk a).1 (B.U.setTop { g with pc := g.pc + len, stack := v.toList ++ g.stack })) ∨
    (∃ (q : Addr) (B : Pt), Stand p l e R s m sargs below meth c B.U B.locs B.cells B.slots ∧ PostX A a q B ∧
      Steps p.tables e below (doInvoke e (A.U.setTop g) [] mk a).1 ((B.U.setTop g).pushFrame (.throwing q)))
section Payer
variable {l : Launch} {R : Room} {p : Program} {e : Env} {below : List Frame} {s : State} {sargs : Array Value} {y : MethodName} {len W9 : Nat}
theorem vx_back {ws : List Cond} {rm : Room} {Pc : Array Value → State → Prop} {Qc : Array Value → State → Outcome → State → Prop} {XC : String → State → State → Prop} {mc ms : Nat} {free : Addr → Prop} {bytes : ByteArray} {maxL : Nat} {ret : Option FieldType}
    (hM : vx_Met l y ws rm Pc Qc XC mc ms free) (hblind : FrameBlind Pc) (hrc : rm.cells = mc) (hrs : rm.slots = ms)
    (hframes : rm.frames + 1 ≤ R.frames) (hlocals : W9 + (maxL + 11) + rm.locals ≤ R.locals)
    (hws : ∀ w ∈ ws, ∀ a' U, s.WarmedH U.vm → w.before a' U = true) (hcode : Cond.code y bytes maxL ret ∈ ws) (hinit : ∀ a' U, s.WarmedH U.vm → (Cond.initialized y.cls).before a' U = true) :
    vx_Back l R p e below s sargs y len W9 (PreOf R mc ms Pc) (PostOf Qc mc ms free) (vx_Post XC mc ms free) := by
  intro m meth c A g ig mk a X hg hsize hdg hW hn hp
  have h1 : (headSpec ws rm).pre.before a A.U = true := atoms_intro fun w hw => hws w hw _ _ X.warmed
  have h2 : (Cond.code y bytes maxL ret).before a A.U = true := hws _ hcode _ _ X.warmed
  have h3 : (Cond.initialized y.cls).before a A.U = true := hinit _ _ X.warmed
  have h4 : A.cells + (headSpec ws rm).room.cells ≤ R.cells := by rw [show (headSpec ws rm).room.cells = mc from hrc]; exact hp.1
  have h5 : A.slots + (headSpec ws rm).room.slots ≤ R.slots := by rw [show (headSpec ws rm).room.slots = ms from hrs]; exact hp.2.1
  have hPc : Pc a (A.U.calling g mk a) := hblind _ _ _ _ hp.2.2
  obtain ⟨U, Ls, c0, s0⟩ := A
  dsimp only [Pt.U, Pt.locs, Pt.cells, Pt.slots] at h1 h2 h3 h4 h5 X hn hPc ⊢
  obtain ⟨methY, cY, hmY, hcY, -, hlY, -, -, -, -⟩ := Cond.code_spec hn h2
  obtain ⟨kY, hkY, -⟩ := className_of_methodNamed hn
  have hinitY : kY.init = .initialized := Cond.initialized_spec (findClass_of_methodNamed hn) hkY h3
  have h : At U g.method c below := by rw [hg]; exact X.here
  have hlocals9 : W9 + (maxL + 11) + (headSpec ws rm).room.locals ≤ R.locals := hlocals
  have happ : (headSpec ws rm).appliesLoose y e.platform (U.calling g mk a) = true :=
    Spec.appliesLoose_calling (g := g) h hdg hn hkY hinitY
      (X.room_calling (g := g) (R' := (headSpec ws rm).room) hsize hmY hcY hframes (by rw [hlY]; omega) h4 h5) h1
  obtain ⟨mid, hmid⟩ := h.above
  have hfr : (U.setTop g).frames = (.java g :: mid) ++ below := by rw [State.frames_setTop' g h.top, hmid]; rfl
  obtain ⟨o, s₂, hsteps, -, hend, hq⟩ := Steps.callFree hM p X.admits X.cas X.clock (acts := []) hfr happ hPc trivial
  have hq' : vx_Q Qc XC mc ms free a (U.calling g mk a) o s₂ := hq
  rw [State.frames_setTop' g h.top] at hend
  obtain ⟨g₀, hg0⟩ := Option.isSome_iff_exists.mp h.top
  obtain ⟨r, hr⟩ := State.topJava?_eq_some.mp hg0
  have hr' : (({ U with heap := s₂.heap, slotsUsed := s₂.slotsUsed } : State).setVm s₂.vm).frames = .java g₀ :: r := hr
  rcases hq' with ⟨hqc, L, hfe, hL⟩ | ⟨q, rfl, E, ce, L, hx, hce, hcv, hcl, hW₂, hsm, hL⟩
  · obtain ⟨⟨v, rfl⟩, hW₂, e2, q2, q3, q4, q5, q6⟩ := id hfe
    have e3 : s₂ = ({ (U.calling g mk a).setFrames s₂.frames with heap := s₂.heap, slotsUsed := s₂.slotsUsed } : State).setVm s₂.vm := by
      have : s₂ = ({ s₂ with vm := (U.calling g mk a).vm } : State).setVm s₂.vm := rfl
      rw [e2] at this
      exact this
    obtain ⟨c₂, i₂, len₂, hc₂, hd₂, hf₂⟩ := hend
    have hW' : U.WarmedH s₂.vm := hW₂
    have hcc : c₂ = c := by
      have h1 : s₂.code? g.method = U.code? g.method := by
        rw [State.code?_eq, State.code?_eq, hW'.alike.method?]
      exact Option.some.inj (hc₂.symm.trans (h1.trans h.code))
    subst hcc
    have hlen : len₂ = len := by rw [hdg] at hd₂; cases hd₂; rfl
    subst hlen
    have hs₂ : s₂ = (({ U with heap := s₂.heap, slotsUsed := s₂.slotsUsed } : State).setVm s₂.vm).setTop { g with pc := g.pc + len₂, stack := v.toList ++ g.stack } := by
      refine e3.trans ?_
      rw [hf₂, State.calling_eq h.top, State.setFrames_setFrames, State.setTop_of_frames _ hr', hr]
      rfl
    have hsame : U.sameButNew ({ U with heap := s₂.heap, slotsUsed := s₂.slotsUsed } : State) L mc ms := by
      refine ⟨?_, q2, q3, q4, q5, q6⟩
      obtain ⟨t, ht, -⟩ := State.frames_cons hr
      show ({ U with heap := s₂.heap, slotsUsed := s₂.slotsUsed } : State) = { U.setFrames U.frames with heap := s₂.heap, slotsUsed := s₂.slotsUsed }
      rw [State.setFrames_self ht]
    subst hg
    refine Or.inl ⟨v, ⟨(({ U with heap := s₂.heap, slotsUsed := s₂.slotsUsed } : State).setVm s₂.vm), Ls ++ L, c0 + mc, s0 + ms⟩,
      ⟨X.admits, X.cas, X.clock, X.frames, X.room, X.hears, X.method, X.code, (X.here.setHeapUsed s₂.heap s₂.slotsUsed).setVm hW'.alike, X.tail, State.WarmedH.trans X.warmed hW', X.limits, X.bytes, X.same.trans (hsame.setVm s.vm)⟩,
      ⟨g, mk, s₂, L, rfl, rfl, hqc, rfl, hL, rfl, rfl⟩, ?_⟩
    show Steps p.tables e below _ ((({ U with heap := s₂.heap, slotsUsed := s₂.slotsUsed } : State).setVm s₂.vm).setTop { g with pc := g.pc + len₂, stack := v.toList ++ g.stack })
    rw [← hs₂]
    exact hsteps
  · obtain ⟨e2, q2, q3, q4, q5, q6⟩ := id hsm
    have e3 : s₂ = ({ (U.calling g mk a).setFrames s₂.frames with heap := s₂.heap, slotsUsed := s₂.slotsUsed } : State).setVm s₂.vm := by
      have : s₂ = ({ s₂ with vm := (U.calling g mk a).vm } : State).setVm s₂.vm := rfl
      rw [e2] at this
      exact this
    have hf₂ : s₂.frames = .throwing q :: .java g :: U.frames.tail := hend
    have hW' : U.WarmedH s₂.vm := hW₂
    have hs₂ : s₂ = ((({ U with heap := s₂.heap, slotsUsed := s₂.slotsUsed } : State).setVm s₂.vm).setTop g).pushFrame (.throwing q) := by
      refine e3.trans ?_
      rw [hf₂, State.calling_eq h.top, State.setFrames_setFrames, State.pushFrame, State.frames_setTop _ hr', State.setTop_of_frames _ hr', State.setFrames_setFrames, hr]
      rfl
    have hsame : U.sameButNew ({ U with heap := s₂.heap, slotsUsed := s₂.slotsUsed } : State) L mc ms := by
      refine ⟨?_, q2, q3, q4, q5, q6⟩
      obtain ⟨t, ht, -⟩ := State.frames_cons hr
      show ({ U with heap := s₂.heap, slotsUsed := s₂.slotsUsed } : State) = { U.setFrames U.frames with heap := s₂.heap, slotsUsed := s₂.slotsUsed }
      rw [State.setFrames_self ht]
    subst hg
    refine Or.inr ⟨q, ⟨(({ U with heap := s₂.heap, slotsUsed := s₂.slotsUsed } : State).setVm s₂.vm), Ls ++ L, c0 + mc, s0 + ms⟩,
      ⟨X.admits, X.cas, X.clock, X.frames, X.room, X.hears, X.method, X.code, (X.here.setHeapUsed s₂.heap s₂.slotsUsed).setVm hW'.alike, X.tail, State.WarmedH.trans X.warmed hW', X.limits, X.bytes, X.same.trans (hsame.setVm s.vm)⟩,
      ⟨g, mk, s₂, L, E, ce, rfl, rfl, hx, hce, hcv, hcl, rfl, hL, rfl, rfl⟩, ?_⟩
    show Steps p.tables e below _ (((({ U with heap := s₂.heap, slotsUsed := s₂.slotsUsed } : State).setVm s₂.vm).setTop g).pushFrame (.throwing q))
    rw [← hs₂]
    exact hsteps
end Payer
section Calls
variable {p : Program} {l : Launch} {e : Env} {R : Room} {s : State} {m : MethodId} {args : Array Value} {below : List Frame} {meth : Method} {c : Code} {T : State} {locs : List Loc} {cells slots : Nat}
theorem vx_callV (X : Stand p l e R s m args below meth c T locs cells slots) (hexec : p.tables.exec = Jvm.exec) {own C : String} {index : Nat} {y : MethodName} {bytes : ByteArray} {maxL : Nat} {ret : Option FieldType}
    (hown : s.vm.findClass own = some m.cls) (hlink : (Cond.methodLink own index y).before args s = true) (hinst : (Cond.instanceMethod y).before args s = true) (hsel : (Cond.selects C y y).before args s = true)
    (hcode : (Cond.code y bytes maxL ret).before args s = true) (hy : y.cls ≠ "java/lang/invoke/MethodHandle" ∧ y.cls ≠ "java/lang/invoke/VarHandle")
    {W9 : Nat} {Pre : Pt → Array Value → Prop} {Post : Pt → Array Value → Option Value → Pt → Prop} {PostX : Pt → Array Value → Addr → Pt → Prop} (hK : vx_Back l R p e below s args y 3 W9 Pre Post PostX)
    {b : Addr} {cellB : Cell} (hcell : T.heap[b]? = some cellB) (hobj : cellB.vm.isStatics = false) (hcls : s.vm.findClass C = some cellB.cls)
    {g : JFrame} (hg : g.method = m) (hsize : g.locals.size = c.maxLocals) {argsL rest : List Value} (hlen : ∀ sig, parseMethodDescriptor y.desc = some sig → argsL.length = sig.parameters.length)
    (hstack : g.stack = argsL.reverse ++ .ref b :: rest) (hW : 2 * g.monitorRoom + (rest.map fun v => v.category).sum ≤ W9) (hdg : decode c.code g.pc = .ok (.invokevirtual index, 3))
    (hpre : ∀ vm₁, s.WarmedH vm₁ → Pre ⟨T.setVm vm₁, locs, cells, slots⟩ (Value.ref b :: argsL).toArray) :
    (∃ (v : Option Value) (vm₁ : Vm) (B : Pt), s.WarmedH vm₁ ∧ Stand p l e R s m args below meth c B.U B.locs B.cells B.slots ∧ Post ⟨T.setVm vm₁, locs, cells, slots⟩ (Value.ref b :: argsL).toArray v B ∧
      ∀ target, Steps p.tables e below (B.U.setTop { g with pc := g.pc + 3, stack := v.toList ++ rest }) target → Steps p.tables e below (T.setTop g) target) ∨
    (∃ (q : Addr) (vm₁ : Vm) (B : Pt), s.WarmedH vm₁ ∧ Stand p l e R s m args below meth c B.U B.locs B.cells B.slots ∧ PostX ⟨T.setVm vm₁, locs, cells, slots⟩ (Value.ref b :: argsL).toArray q B ∧
      Steps p.tables e below (T.setTop g) ((B.U.setTop { g with stack := rest }).pushFrame (.throwing q))) := by
  obtain ⟨mk, methM, hnamed, hmethM, hstM, habM⟩ := Cond.instanceMethod_spec hinst
  obtain ⟨methM', cM, hmethM', -, -, -, -, -, -, hsigM⟩ := Cond.code_spec hnamed hcode
  cases hmethM.symm.trans hmethM'
  obtain ⟨c2, r2, m2, q1, q2, q3, q4, kP, hkP, hkPi⟩ := Cond.selects_spec hsel
  cases hcls.symm.trans q1
  cases (State.methodFound?_of_named hnamed hy).symm.trans q2
  cases hnamed.symm.trans q3
  have hselP : selectMethod e.platform s.vm cellB.cls mk = .method mk := by rw [Launch.admits_selectMethod X.admits]; exact q4
  obtain ⟨vm₁, X₁, hstep₁⟩ := X.invokevirtual hexec hown hlink hnamed hmethM hstM hkP hkPi hy (a := b) (cell := cellB) hcell
    (fun z h => by rw [h] at hobj; cases hobj) hselP hmethM habM hkP hkPi (g := g) hg (argsL := argsL) (rest := rest) (hlen _ hsigM) hstack hdg
  rcases hK m meth c ⟨T.setVm vm₁, locs, cells, slots⟩ { g with stack := rest } (.invokevirtual index) mk (Value.ref b :: argsL).toArray X₁ hg hsize hdg hW (X₁.named hnamed) (hpre vm₁ X₁.warmed) with ⟨v, B, X', hpost, hsteps⟩ | ⟨q, B, X', hpost, hsteps⟩
  · exact Or.inl ⟨v, vm₁, B, X₁.warmed, X', hpost, fun target h => hstep₁ _ fun acts => by rw [doInvoke_state]; exact hsteps.trans h⟩
  · exact Or.inr ⟨q, vm₁, B, X₁.warmed, X', hpost, hstep₁ _ fun acts => by rw [doInvoke_state]; exact hsteps⟩
theorem vx_callS (X : Stand p l e R s m args below meth c T locs cells slots) (hexec : p.tables.exec = Jvm.exec) {own : String} {index : Nat} {y : MethodName} {bytes : ByteArray} {maxL : Nat} {ret : Option FieldType}
    (hown : s.vm.findClass own = some m.cls) (hlink : (Cond.methodLink own index y).before args s = true) (hstat : (Cond.static y).before args s = true) (hinit : (Cond.initialized y.cls).before args s = true)
    (hcode : (Cond.code y bytes maxL ret).before args s = true) (hy : y.cls ≠ "java/lang/invoke/MethodHandle" ∧ y.cls ≠ "java/lang/invoke/VarHandle")
    {W9 : Nat} {Pre : Pt → Array Value → Prop} {Post : Pt → Array Value → Option Value → Pt → Prop} {PostX : Pt → Array Value → Addr → Pt → Prop} (hK : vx_Back l R p e below s args y 3 W9 Pre Post PostX)
    {g : JFrame} (hg : g.method = m) (hsize : g.locals.size = c.maxLocals) {argsL rest : List Value} (hlen : ∀ sig, parseMethodDescriptor y.desc = some sig → argsL.length = sig.parameters.length)
    (hstack : g.stack = argsL.reverse ++ rest) (hW : 2 * g.monitorRoom + (rest.map fun v => v.category).sum ≤ W9) (hdg : decode c.code g.pc = .ok (.invokestatic index, 3))
    (hpre : ∀ vm₁, s.WarmedH vm₁ → Pre ⟨T.setVm vm₁, locs, cells, slots⟩ argsL.toArray) :
    (∃ (v : Option Value) (vm₁ : Vm) (B : Pt), s.WarmedH vm₁ ∧ Stand p l e R s m args below meth c B.U B.locs B.cells B.slots ∧ Post ⟨T.setVm vm₁, locs, cells, slots⟩ argsL.toArray v B ∧
      ∀ target, Steps p.tables e below (B.U.setTop { g with pc := g.pc + 3, stack := v.toList ++ rest }) target → Steps p.tables e below (T.setTop g) target) ∨
    (∃ (q : Addr) (vm₁ : Vm) (B : Pt), s.WarmedH vm₁ ∧ Stand p l e R s m args below meth c B.U B.locs B.cells B.slots ∧ PostX ⟨T.setVm vm₁, locs, cells, slots⟩ argsL.toArray q B ∧
      Steps p.tables e below (T.setTop g) ((B.U.setTop { g with stack := rest }).pushFrame (.throwing q))) := by
  obtain ⟨mk, hnamed⟩ := Cond.code_named hcode
  obtain ⟨methM, cM, hmethM, -, -, -, -, -, -, hsigM⟩ := Cond.code_spec hnamed hcode
  have hstatic : methM.isStatic = true := Cond.static_spec hnamed hmethM hstat
  obtain ⟨kP, hkP, -⟩ := className_of_methodNamed hnamed
  have hinitP : kP.init = .initialized := Cond.initialized_spec (findClass_of_methodNamed hnamed) hkP hinit
  obtain ⟨vm₁, X₁, hstep₁⟩ := X.invokestatic hexec hown hlink hnamed hmethM hstatic hkP hinitP hy (g := g) hg (argsL := argsL) (rest := rest) (hlen _ hsigM) hstack hdg
  rcases hK m meth c ⟨T.setVm vm₁, locs, cells, slots⟩ { g with stack := rest } (.invokestatic index) mk argsL.toArray X₁ hg hsize hdg hW (X₁.named hnamed) (hpre vm₁ X₁.warmed) with ⟨v, B, X', hpost, hsteps⟩ | ⟨q, B, X', hpost, hsteps⟩
  · exact Or.inl ⟨v, vm₁, B, X₁.warmed, X', hpost, fun target h => hstep₁ _ fun acts => by rw [doInvoke_state]; exact hsteps.trans h⟩
  · exact Or.inr ⟨q, vm₁, B, X₁.warmed, X', hpost, hstep₁ _ fun acts => by rw [doInvoke_state]; exact hsteps⟩
end Calls
theorem vx_cls {s : State} {T : State} {vm₁ : Vm} {E : String} {k : ClassId} (hW : s.WarmedH vm₁) (h : (T.setVm vm₁).vm.findClass E = some k) : s.vm.findClass E = some k := by
  have h1 : vm₁.findClass E = some k := h
  rw [hW.alike.findClass] at h1
  exact h1
/-- the method's frame g, with q thrown over it -/
def vx_W (p : Program) (l : Launch) (e : Env) (R : Room) (s : State) (m : MethodId) (args : Array Value) (below : List Frame) (meth : Method) (c : Code) (H : Heap) (locs : List Loc) (cells slots : Nat) (Q : State → Prop) (g : JFrame) (q : Addr) : Prop :=
  ∀ T : State, T.heap = H → Stand p l e R s m args below meth c T locs cells slots → ∃ t, Steps p.tables e below ((T.setTop g).pushFrame (.throwing q)) t ∧ Q t
def vx_Run (p : Program) (l : Launch) (e : Env) (R : Room) (s : State) (m : MethodId) (args : Array Value) (below : List Frame) (meth : Method) (c : Code) (H : Heap) (locs : List Loc) (cells slots mc ms : Nat) (g : JFrame) (rest : List Value) (Qa : State → Outcome → State → Prop) (XC : String → State → State → Prop) (free : Addr → Prop) : Prop :=
  ∀ T : State, T.heap = H → Stand p l e R s m args below meth c T locs cells slots →
    (∃ (v : Option Value) (st₀ t T' : State) (L : List Loc), st₀.heap = H ∧ Stand p l e R s m args below meth c T' (locs ++ L) (cells + mc) (slots + ms) ∧ (∀ q ∈ L, free q.base) ∧ T'.heap = t.heap ∧ T'.vm = t.vm ∧ Qa st₀ (.returned v) t ∧
      Goes p e below T g T' { g with pc := g.pc + 3, stack := v.toList ++ rest }) ∨
    (∃ (q : Addr) (st₀ t T' : State) (L : List Loc) (E : String) (ce : Cell), st₀.heap = H ∧ Stand p l e R s m args below meth c T' (locs ++ L) (cells + mc) (slots + ms) ∧ (∀ z ∈ L, free z.base) ∧ T'.heap = t.heap ∧ T'.vm = t.vm ∧ XC E st₀ t ∧ t.heap[q]? = some ce ∧ ce.vm = .none ∧ s.vm.findClass E = some ce.cls ∧
      Steps p.tables e below (T.setTop g) ((T'.setTop { g with stack := rest }).pushFrame (.throwing q)))
def vx_X {S : Type} (px : S → Prop) (B : String → S → State → Prop) (A : Nat → Prop) : String → State → State → Prop := fun E st t => ∃ u : S, px u ∧ B E u t ∧ va_F A st t
section Runs
variable {p : Program} {l : Launch} {e : Env} {R : Room} {s : State} {m : MethodId} {args : Array Value} {below : List Frame} {meth : Method} {c : Code} {H : Heap} {locs : List Loc} {cells slots : Nat}
variable {y : MethodName} {bytes cc : ByteArray} {maxL nL mc ms n index : Nat} {ret : Option FieldType} {ws : List Cond} {rm : Room} {Pc : Array Value → State → Prop} {Qc : Array Value → State → Outcome → State → Prop} {XC : String → State → State → Prop} {free : Addr → Prop} {Ts : List Cond} {own C : String} {b : Addr} {As rest : List Value} {g : JFrame}
theorem vx_callBack (cb : CallB R s args own index y bytes maxL ret ws rm mc ms n) (hM : vx_Met l y ws rm Pc Qc XC mc ms free) (hbl : FrameBlind Pc) : vx_Back l R p e below s args y 3 8 (PreOf R mc ms Pc) (PostOf Qc mc ms free) (vx_Post XC mc ms free) := by
  obtain ⟨hrc, hrs, hfr, hlo, hws, hcw, -, hini, -⟩ := cb
  exact vx_back (bytes := bytes) (maxL := maxL) (ret := ret) hM hbl hrc hrs hfr hlo hws hcw (fun a' U hW => word_at hW (Or.inl (by first | rfl | simp [Cond.onTables, Cond.keeps, Cond.steady])) hini)
theorem vx_runV (S : CallFix p m c cc nL s args Ts own) (hM : vx_Met l y ws rm Pc Qc XC mc ms free) (cw : CallW R s args own C index y bytes maxL ret ws rm mc ms n) (hp : PreV s H C b Pc As)
    (hg : g.method = m) (hn : As.length = n) (hsize : g.locals.size = nL) (hstack : g.stack = As.reverse ++ .ref b :: rest) (hW : 2 * g.monitorRoom + (rest.map fun v => v.category).sum ≤ 8) (hdg : decode cc g.pc = .ok (.invokevirtual index, 3)) (hf : cells + mc ≤ R.cells ∧ slots + ms ≤ R.slots) :
    vx_Run p l e R s m args below meth c H locs cells slots mc ms g rest (Qc (Value.ref b :: As).toArray) XC free := by
  have hK : vx_Back l R p e below s args y 3 8 (PreOf R mc ms Pc) (PostOf Qc mc ms free) (vx_Post XC mc ms free) := vx_callBack cw.1 hM hp.1
  obtain ⟨⟨-, -, -, -, -, -, hcode, -, hy, hlen, hl⟩, hin, hse⟩ := cw
  obtain ⟨hx, hb, hml, ho, -⟩ := S
  obtain ⟨-, ⟨cellB, hcB, hoB, hclB⟩, hPc⟩ := hp
  intro T hT X
  rcases vx_callV X hx (C := C) (bytes := bytes) (maxL := maxL) (ret := ret) ho hl hin hse hcode hy hK (by rw [hT]; exact hcB) hoB hclB hg (hsize.trans hml.symm) (argsL := As) (rest := rest) (fun sig h => hn.trans (hlen sig h)) hstack hW (by rw [hb]; exact hdg)
    (fun vm₁ hW₁ => ⟨hf.1, hf.2, hPc (T.setVm vm₁) hT hW₁⟩) with ⟨v, vm₁, ⟨U', l2, c2, s2⟩, hW₁, X', ⟨g', mk, t, L, e1, e2, hq, h1, hL, h2, h3⟩, st⟩ | ⟨q, vm₁, ⟨U', l2, c2, s2⟩, hW₁, X', ⟨g', mk, t, L, E, ce, e1, e2, hq, hce, hcv, hcl, h1, hL, h2, h3⟩, st⟩
  · dsimp only [Pt.U, Pt.locs, Pt.cells, Pt.slots] at X' e1 e2 h1 h2 h3 st
    subst h1; subst h2; subst h3
    exact Or.inl ⟨v, (T.setVm vm₁).calling g' mk (Value.ref b :: As).toArray, t, U', L, hT, X', hL, e1, e2, hq, st⟩
  · dsimp only [Pt.U, Pt.locs, Pt.cells, Pt.slots] at X' e1 e2 h1 h2 h3 st hcl
    subst h1; subst h2; subst h3
    exact Or.inr ⟨q, (T.setVm vm₁).calling g' mk (Value.ref b :: As).toArray, t, U', L, E, ce, hT, X', hL, e1, e2, hq, hce, hcv, vx_cls hW₁ hcl, st⟩
theorem vx_runS (S : CallFix p m c cc nL s args Ts own) (hM : vx_Met l y ws rm Pc Qc XC mc ms free) (cw : CallB R s args own index y bytes maxL ret ws rm mc ms n ∧ (Cond.static y).before args s = true) (hp : PreS s H Pc As)
    (hg : g.method = m) (hn : As.length = n) (hsize : g.locals.size = nL) (hstack : g.stack = As.reverse ++ rest) (hW : 2 * g.monitorRoom + (rest.map fun v => v.category).sum ≤ 8) (hdg : decode cc g.pc = .ok (.invokestatic index, 3)) (hf : cells + mc ≤ R.cells ∧ slots + ms ≤ R.slots) :
    vx_Run p l e R s m args below meth c H locs cells slots mc ms g rest (Qc As.toArray) XC free := by
  have hK : vx_Back l R p e below s args y 3 8 (PreOf R mc ms Pc) (PostOf Qc mc ms free) (vx_Post XC mc ms free) := vx_callBack cw.1 hM hp.1
  obtain ⟨⟨-, -, -, -, -, -, hcode, hini, hy, hlen, hl⟩, hstt⟩ := cw
  obtain ⟨hx, hb, hml, ho, -⟩ := S
  intro T hT X
  rcases vx_callS X hx (bytes := bytes) (maxL := maxL) (ret := ret) ho hl hstt hini hcode hy hK hg (hsize.trans hml.symm) (argsL := As) (rest := rest) (fun sig h => hn.trans (hlen sig h)) hstack hW (by rw [hb]; exact hdg)
    (fun vm₁ hW₁ => ⟨hf.1, hf.2, hp.2 (T.setVm vm₁) hT hW₁⟩) with ⟨v, vm₁, ⟨U', l2, c2, s2⟩, hW₁, X', ⟨g', mk, t, L, e1, e2, hq, h1, hL, h2, h3⟩, st⟩ | ⟨q, vm₁, ⟨U', l2, c2, s2⟩, hW₁, X', ⟨g', mk, t, L, E, ce, e1, e2, hq, hce, hcv, hcl, h1, hL, h2, h3⟩, st⟩
  · dsimp only [Pt.U, Pt.locs, Pt.cells, Pt.slots] at X' e1 e2 h1 h2 h3 st
    subst h1; subst h2; subst h3
    exact Or.inl ⟨v, (T.setVm vm₁).calling g' mk As.toArray, t, U', L, hT, X', hL, e1, e2, hq, st⟩
  · dsimp only [Pt.U, Pt.locs, Pt.cells, Pt.slots] at X' e1 e2 h1 h2 h3 st hcl
    subst h1; subst h2; subst h3
    exact Or.inr ⟨q, (T.setVm vm₁).calling g' mk As.toArray, t, U', L, E, ce, hT, X', hL, e1, e2, hq, hce, hcv, vx_cls hW₁ hcl, st⟩
end Runs
section Rows
variable {p : Program} {l : Launch} {e : Env} {R : Room} {s : State} {m : MethodId} {args : Array Value} {below : List Frame} {meth : Method} {c : Code} {H : Heap} {locs : List Loc} {cells slots : Nat} {Q : State → Prop}
variable {mc ms : Nat} {free : Addr → Prop} {A0 A1 : Nat → Prop} {H0 : Heap} {a : Array Value} {pc : Nat} {ls : Array Slot} {st0 rest : List Value}
theorem vx_keep {st₀ t T' : State} {L : List Loc} (h0 : st₀.heap = H) (e1 : T'.heap = t.heap) (hS : va_S A0 H0 H locs) (hA : ∀ q, q < H.size → A1 q → A0 q) (hf : ∀ q, free q → A0 q) (hL : ∀ q ∈ L, free q.base) (hF : va_F A1 st₀ t) :
    H.size ≤ T'.heap.size ∧ (∀ q : Nat, q < H.size → ¬ A1 q → T'.heap[q]? = H[q]?) ∧ va_S A0 H0 T'.heap (locs ++ L) := by
  obtain ⟨hz, hk⟩ := hF
  rw [h0] at hz hk
  exact ⟨by rw [e1]; exact hz, fun q h1 h2 => by rw [e1]; exact hk q h1 h2,
    ⟨Nat.le_trans hS.1 (by rw [e1]; exact hz), fun q h1 h2 => by rw [e1, hk q (Nat.lt_of_lt_of_le h1 hS.1) (fun z => h2 (hA q (Nat.lt_of_lt_of_le h1 hS.1) z))]; exact hS.2.1 q h1 h2, fun q hq => by
      rcases List.mem_append.mp hq with h | h
      · exact hS.2.2 q h
      · exact hf _ (hL q h)⟩⟩
theorem vx_calli {S SX : Type} {post : Int32 → S → Prop} {px : SX → Prop} {B : S → State → Prop} {BX : String → SX → State → Prop} {AX : Nat → Prop} (hr : vx_Run p l e R s m args below meth c H locs cells slots mc ms (F0 m pc ls st0) rest (va_Qi post B A1 a) (vx_X px BX AX) free) (hS : va_S A0 H0 H locs) (hA : ∀ q, q < H.size → A1 q → A0 q) (hf : ∀ q, free q → A0 q) (hAX : ∀ q, q < H.size → AX q → A0 q)
    (kx : ∀ (E : String) (ce : Cell) (q9 : Addr) (u : SX) (t : State) (H1 : Heap) (locs1 : List Loc), t.heap = H1 → s.vm.Alike t.vm → px u → BX E u t → H.size ≤ H1.size → (∀ q : Nat, q < H.size → ¬ AX q → H1[q]? = H[q]?) → va_S A0 H0 H1 locs1 → H1[q9]? = some ce → ce.vm = .none → s.vm.findClass E = some ce.cls → vx_W p l e R s m args below meth c H1 locs1 (cells + mc) (slots + ms) Q (F0 m pc ls rest) q9)
    (kk : ∀ (r : Int32) (u : S) (t : State) (H1 : Heap) (locs1 : List Loc), t.heap = H1 → s.vm.Alike t.vm → post r u → B u t → H.size ≤ H1.size → (∀ q : Nat, q < H.size → ¬ A1 q → H1[q]? = H[q]?) → va_S A0 H0 H1 locs1 → W p l e R s m args below meth c H1 locs1 (cells + mc) (slots + ms) Q (F0 m (pc + 3) ls (.int r :: rest))) : W p l e R s m args below meth c H locs cells slots Q (F0 m pc ls st0) := by
  intro T hT X
  rcases hr T hT X with ⟨v, st₀, t, T', L, h0, X', hL, e1, e2, ⟨⟨r, u, hv, hp, hb⟩, hF⟩, st⟩ | ⟨q, st₀, t, T', L, E, ce, h0, X', hL, e1, e2, ⟨u, hp, hb, hF⟩, hce, hcv, hcl, st⟩
  · cases hv
    obtain ⟨k1, k2, k3⟩ := vx_keep h0 e1 hS hA hf hL hF
    obtain ⟨t2, a1, b1⟩ := kk r u t T'.heap (locs ++ L) e1.symm (by rw [← e2]; exact X'.warmed.alike) hp hb k1 k2 k3 T' rfl X'
    exact ⟨t2, st t2 a1, b1⟩
  · obtain ⟨k1, k2, k3⟩ := vx_keep h0 e1 hS hAX hf hL hF
    obtain ⟨t2, a1, b1⟩ := kx E ce q u t T'.heap (locs ++ L) e1.symm (by rw [← e2]; exact X'.warmed.alike) hp hb k1 k2 k3 (by rw [e1]; exact hce) hcv hcl T' rfl X'
    exact ⟨t2, st.trans a1, b1⟩
theorem vx_calll {S SX : Type} {post : Int64 → S → Prop} {px : SX → Prop} {B : S → State → Prop} {BX : String → SX → State → Prop} {AX : Nat → Prop} (hr : vx_Run p l e R s m args below meth c H locs cells slots mc ms (F0 m pc ls st0) rest (va_Ql post B A1 a) (vx_X px BX AX) free) (hS : va_S A0 H0 H locs) (hA : ∀ q, q < H.size → A1 q → A0 q) (hf : ∀ q, free q → A0 q) (hAX : ∀ q, q < H.size → AX q → A0 q)
    (kx : ∀ (E : String) (ce : Cell) (q9 : Addr) (u : SX) (t : State) (H1 : Heap) (locs1 : List Loc), t.heap = H1 → s.vm.Alike t.vm → px u → BX E u t → H.size ≤ H1.size → (∀ q : Nat, q < H.size → ¬ AX q → H1[q]? = H[q]?) → va_S A0 H0 H1 locs1 → H1[q9]? = some ce → ce.vm = .none → s.vm.findClass E = some ce.cls → vx_W p l e R s m args below meth c H1 locs1 (cells + mc) (slots + ms) Q (F0 m pc ls rest) q9)
    (kk : ∀ (r : Int64) (u : S) (t : State) (H1 : Heap) (locs1 : List Loc), t.heap = H1 → s.vm.Alike t.vm → post r u → B u t → H.size ≤ H1.size → (∀ q : Nat, q < H.size → ¬ A1 q → H1[q]? = H[q]?) → va_S A0 H0 H1 locs1 → W p l e R s m args below meth c H1 locs1 (cells + mc) (slots + ms) Q (F0 m (pc + 3) ls (.long r :: rest))) : W p l e R s m args below meth c H locs cells slots Q (F0 m pc ls st0) := by
  intro T hT X
  rcases hr T hT X with ⟨v, st₀, t, T', L, h0, X', hL, e1, e2, ⟨⟨r, u, hv, hp, hb⟩, hF⟩, st⟩ | ⟨q, st₀, t, T', L, E, ce, h0, X', hL, e1, e2, ⟨u, hp, hb, hF⟩, hce, hcv, hcl, st⟩
  · cases hv
    obtain ⟨k1, k2, k3⟩ := vx_keep h0 e1 hS hA hf hL hF
    obtain ⟨t2, a1, b1⟩ := kk r u t T'.heap (locs ++ L) e1.symm (by rw [← e2]; exact X'.warmed.alike) hp hb k1 k2 k3 T' rfl X'
    exact ⟨t2, st t2 a1, b1⟩
  · obtain ⟨k1, k2, k3⟩ := vx_keep h0 e1 hS hAX hf hL hF
    obtain ⟨t2, a1, b1⟩ := kx E ce q u t T'.heap (locs ++ L) e1.symm (by rw [← e2]; exact X'.warmed.alike) hp hb k1 k2 k3 (by rw [e1]; exact hce) hcv hcl T' rfl X'
    exact ⟨t2, st.trans a1, b1⟩
theorem vx_callf {S SX : Type} {post : UInt32 → S → Prop} {px : SX → Prop} {B : S → State → Prop} {BX : String → SX → State → Prop} {AX : Nat → Prop} (hr : vx_Run p l e R s m args below meth c H locs cells slots mc ms (F0 m pc ls st0) rest (va_Qf post B A1 a) (vx_X px BX AX) free) (hS : va_S A0 H0 H locs) (hA : ∀ q, q < H.size → A1 q → A0 q) (hf : ∀ q, free q → A0 q) (hAX : ∀ q, q < H.size → AX q → A0 q)
    (kx : ∀ (E : String) (ce : Cell) (q9 : Addr) (u : SX) (t : State) (H1 : Heap) (locs1 : List Loc), t.heap = H1 → s.vm.Alike t.vm → px u → BX E u t → H.size ≤ H1.size → (∀ q : Nat, q < H.size → ¬ AX q → H1[q]? = H[q]?) → va_S A0 H0 H1 locs1 → H1[q9]? = some ce → ce.vm = .none → s.vm.findClass E = some ce.cls → vx_W p l e R s m args below meth c H1 locs1 (cells + mc) (slots + ms) Q (F0 m pc ls rest) q9)
    (kk : ∀ (r : UInt32) (u : S) (t : State) (H1 : Heap) (locs1 : List Loc), t.heap = H1 → s.vm.Alike t.vm → post r u → B u t → H.size ≤ H1.size → (∀ q : Nat, q < H.size → ¬ A1 q → H1[q]? = H[q]?) → va_S A0 H0 H1 locs1 → W p l e R s m args below meth c H1 locs1 (cells + mc) (slots + ms) Q (F0 m (pc + 3) ls (.float r :: rest))) : W p l e R s m args below meth c H locs cells slots Q (F0 m pc ls st0) := by
  intro T hT X
  rcases hr T hT X with ⟨v, st₀, t, T', L, h0, X', hL, e1, e2, ⟨⟨r, u, hv, hp, hb⟩, hF⟩, st⟩ | ⟨q, st₀, t, T', L, E, ce, h0, X', hL, e1, e2, ⟨u, hp, hb, hF⟩, hce, hcv, hcl, st⟩
  · cases hv
    obtain ⟨k1, k2, k3⟩ := vx_keep h0 e1 hS hA hf hL hF
    obtain ⟨t2, a1, b1⟩ := kk r u t T'.heap (locs ++ L) e1.symm (by rw [← e2]; exact X'.warmed.alike) hp hb k1 k2 k3 T' rfl X'
    exact ⟨t2, st t2 a1, b1⟩
  · obtain ⟨k1, k2, k3⟩ := vx_keep h0 e1 hS hAX hf hL hF
    obtain ⟨t2, a1, b1⟩ := kx E ce q u t T'.heap (locs ++ L) e1.symm (by rw [← e2]; exact X'.warmed.alike) hp hb k1 k2 k3 (by rw [e1]; exact hce) hcv hcl T' rfl X'
    exact ⟨t2, st.trans a1, b1⟩
theorem vx_calld {S SX : Type} {post : UInt64 → S → Prop} {px : SX → Prop} {B : S → State → Prop} {BX : String → SX → State → Prop} {AX : Nat → Prop} (hr : vx_Run p l e R s m args below meth c H locs cells slots mc ms (F0 m pc ls st0) rest (va_Qd post B A1 a) (vx_X px BX AX) free) (hS : va_S A0 H0 H locs) (hA : ∀ q, q < H.size → A1 q → A0 q) (hf : ∀ q, free q → A0 q) (hAX : ∀ q, q < H.size → AX q → A0 q)
    (kx : ∀ (E : String) (ce : Cell) (q9 : Addr) (u : SX) (t : State) (H1 : Heap) (locs1 : List Loc), t.heap = H1 → s.vm.Alike t.vm → px u → BX E u t → H.size ≤ H1.size → (∀ q : Nat, q < H.size → ¬ AX q → H1[q]? = H[q]?) → va_S A0 H0 H1 locs1 → H1[q9]? = some ce → ce.vm = .none → s.vm.findClass E = some ce.cls → vx_W p l e R s m args below meth c H1 locs1 (cells + mc) (slots + ms) Q (F0 m pc ls rest) q9)
    (kk : ∀ (r : UInt64) (u : S) (t : State) (H1 : Heap) (locs1 : List Loc), t.heap = H1 → s.vm.Alike t.vm → post r u → B u t → H.size ≤ H1.size → (∀ q : Nat, q < H.size → ¬ A1 q → H1[q]? = H[q]?) → va_S A0 H0 H1 locs1 → W p l e R s m args below meth c H1 locs1 (cells + mc) (slots + ms) Q (F0 m (pc + 3) ls (.double r :: rest))) : W p l e R s m args below meth c H locs cells slots Q (F0 m pc ls st0) := by
  intro T hT X
  rcases hr T hT X with ⟨v, st₀, t, T', L, h0, X', hL, e1, e2, ⟨⟨r, u, hv, hp, hb⟩, hF⟩, st⟩ | ⟨q, st₀, t, T', L, E, ce, h0, X', hL, e1, e2, ⟨u, hp, hb, hF⟩, hce, hcv, hcl, st⟩
  · cases hv
    obtain ⟨k1, k2, k3⟩ := vx_keep h0 e1 hS hA hf hL hF
    obtain ⟨t2, a1, b1⟩ := kk r u t T'.heap (locs ++ L) e1.symm (by rw [← e2]; exact X'.warmed.alike) hp hb k1 k2 k3 T' rfl X'
    exact ⟨t2, st t2 a1, b1⟩
  · obtain ⟨k1, k2, k3⟩ := vx_keep h0 e1 hS hAX hf hL hF
    obtain ⟨t2, a1, b1⟩ := kx E ce q u t T'.heap (locs ++ L) e1.symm (by rw [← e2]; exact X'.warmed.alike) hp hb k1 k2 k3 (by rw [e1]; exact hce) hcv hcl T' rfl X'
    exact ⟨t2, st.trans a1, b1⟩
theorem vx_callv {S SX : Type} {post : S → Prop} {px : SX → Prop} {B : S → State → Prop} {BX : String → SX → State → Prop} {AX : Nat → Prop} (hr : vx_Run p l e R s m args below meth c H locs cells slots mc ms (F0 m pc ls st0) rest (va_Qv post B A1 a) (vx_X px BX AX) free) (hS : va_S A0 H0 H locs) (hA : ∀ q, q < H.size → A1 q → A0 q) (hf : ∀ q, free q → A0 q) (hAX : ∀ q, q < H.size → AX q → A0 q)
    (kx : ∀ (E : String) (ce : Cell) (q9 : Addr) (u : SX) (t : State) (H1 : Heap) (locs1 : List Loc), t.heap = H1 → s.vm.Alike t.vm → px u → BX E u t → H.size ≤ H1.size → (∀ q : Nat, q < H.size → ¬ AX q → H1[q]? = H[q]?) → va_S A0 H0 H1 locs1 → H1[q9]? = some ce → ce.vm = .none → s.vm.findClass E = some ce.cls → vx_W p l e R s m args below meth c H1 locs1 (cells + mc) (slots + ms) Q (F0 m pc ls rest) q9)
    (kk : ∀ (u : S) (t : State) (H1 : Heap) (locs1 : List Loc), t.heap = H1 → s.vm.Alike t.vm → post u → B u t → H.size ≤ H1.size → (∀ q : Nat, q < H.size → ¬ A1 q → H1[q]? = H[q]?) → va_S A0 H0 H1 locs1 → W p l e R s m args below meth c H1 locs1 (cells + mc) (slots + ms) Q (F0 m (pc + 3) ls (rest))) : W p l e R s m args below meth c H locs cells slots Q (F0 m pc ls st0) := by
  intro T hT X
  rcases hr T hT X with ⟨v, st₀, t, T', L, h0, X', hL, e1, e2, ⟨⟨u, hv, hp, hb⟩, hF⟩, st⟩ | ⟨q, st₀, t, T', L, E, ce, h0, X', hL, e1, e2, ⟨u, hp, hb, hF⟩, hce, hcv, hcl, st⟩
  · cases hv
    obtain ⟨k1, k2, k3⟩ := vx_keep h0 e1 hS hA hf hL hF
    obtain ⟨t2, a1, b1⟩ := kk u t T'.heap (locs ++ L) e1.symm (by rw [← e2]; exact X'.warmed.alike) hp hb k1 k2 k3 T' rfl X'
    exact ⟨t2, st t2 a1, b1⟩
  · obtain ⟨k1, k2, k3⟩ := vx_keep h0 e1 hS hAX hf hL hF
    obtain ⟨t2, a1, b1⟩ := kx E ce q u t T'.heap (locs ++ L) e1.symm (by rw [← e2]; exact X'.warmed.alike) hp hb k1 k2 k3 (by rw [e1]; exact hce) hcv hcl T' rfl X'
    exact ⟨t2, st.trans a1, b1⟩
/-- caught by the row x of this method's table; the rows ahead don't take it -/
theorem vx_catch {own name : String} {E : String} {ce : Cell} {q : Addr} (hown : s.vm.findClass own = some m.cls) (pre : List ExceptionTableEntry) (x : ExceptionTableEntry) (suf : List ExceptionTableEntry) (hsplit : c.exceptionTable.toList = pre ++ x :: suf)
    (hpass : ∀ z ∈ pre, covers z pc = false ∨ (z.catchType ≠ 0 ∧ ∃ nm : String, (Cond.classLink own z.catchType nm).before args s = true ∧ va_Nc E nm s)) (hx : covers x pc = true) (h0 : x.catchType ≠ 0)
    (hlink : (Cond.classLink own x.catchType name).before args s = true) (hcast : (Cond.castable E name).before args s = true) (hcell : H[q]? = some ce) (hv : ce.vm = .none) (hcl : s.vm.findClass E = some ce.cls)
    (kk : W p l e R s m args below meth c H locs cells slots Q (F0 m x.handlerPc ls [.ref q])) : vx_W p l e R s m args below meth c H locs cells slots Q (F0 m pc ls rest) q := by
  intro T hT X
  have hpl : e.platform.magicAccessors = ({} : Platform).magicAccessors := by rw [X.admits.platform]
  obtain ⟨c3, c4, hc3, hc4, hasg⟩ := Cond.castable_spec hcast
  cases Option.some.inj (hc3.symm.trans hcl)
  obtain ⟨c5, hc5, hcl5⟩ := Cond.classLink_spec hown hlink e.platform hpl
  cases Option.some.inj (hc4.symm.trans hc5)
  obtain ⟨vm', X', st⟩ := X.thenCaughtThrough q (g := F0 m pc ls rest) rfl (Steps.refl _) (by rw [hT]; exact hcell) (by rw [hv]; rfl) (by obtain ⟨k9, h9, -⟩ := Vm.findClass_spec hcl; exact ⟨k9, h9⟩) pre x suf hsplit
    (fun z hz => by
      rcases hpass z hz with h | ⟨hz0, nm, hl1, hn1⟩
      · exact Or.inl h
      · obtain ⟨c6, hc6, hcl6⟩ := Cond.classLink_spec hown hl1 e.platform hpl
        obtain ⟨a8, b8, h1, h2, h3⟩ := hn1
        cases Option.some.inj (h1.symm.trans hcl)
        cases Option.some.inj (h2.symm.trans hc6)
        exact Or.inr ⟨hz0, _, hcl6, h3⟩) hx (Or.inr ⟨h0, c4, hcl5, hasg⟩)
  obtain ⟨t, a1, b1⟩ := kk (T.setVm vm') hT X'
  exact ⟨t, st.trans a1, b1⟩
end Rows
section Ends
variable {p : Program} {l : Launch} {e : Env} {R : Room} {s : State} {m : MethodId} {args : Array Value} {below : List Frame} {meth : Method} {c : Code} {H : Heap} {locs : List Loc} {cells slots : Nat} {Q : State → Prop}
variable {mc ms : Nat} {free : Addr → Prop} {A0 A1 : Nat → Prop} {H0 : Heap} {a : Array Value} {ls : Array Slot} {st0 rest : List Value}
variable {Qc : Array Value → State → Outcome → State → Prop} {XC : String → State → State → Prop}
/-- what a body that may throw owes at its end -/
def vx_MQ (below : List Frame) (Qc : Array Value → State → Outcome → State → Prop) (XC : String → State → State → Prop) (a : Array Value) (s : State) (mc ms : Nat) (free : Addr → Prop) : State → Prop := fun t =>
  ∃ o, t.status = .running ∧ Ended t below o ∧ vx_Q Qc XC mc ms free a s o t
theorem vx_ret {g : JFrame} {mc ms : Nat} (k : W p l e R s m args below meth c H locs cells slots (MQ below Qc args s mc ms free) g) : W p l e R s m args below meth c H locs cells slots (vx_MQ below Qc XC args s mc ms free) g := by
  intro T hT X
  obtain ⟨t, a1, o, b1, b2, b3, b4⟩ := k T hT X
  exact ⟨t, a1, o, b1, b2, Or.inl ⟨b3, b4⟩⟩
/-- not caught here: it goes on to the caller -/
theorem vx_widen {g : JFrame} {q : Addr} {k n : Nat} (h1 : cells ≤ k) (h2 : slots ≤ n) (kk : vx_W p l e R s m args below meth c H locs k n Q g q) : vx_W p l e R s m args below meth c H locs cells slots Q g q := fun T hT X => kk T hT (stand_widen X h1 h2)
theorem vx_out {pc : Nat} {E : String} {ce : Cell} {q : Addr} {mc ms : Nat} (hout : ∀ x ∈ c.exceptionTable.toList, covers x pc = false) (hlocks : meth.locks = false) (hcell : H[q]? = some ce) (hv : ce.vm = .none) (hcl : s.vm.findClass E = some ce.cls)
    (hx : ∀ t : State, t.heap = H → s.vm.Alike t.vm → XC E s t) (hf : ∀ z ∈ locs, free z.base) (hc : cells ≤ mc) (hs : slots ≤ ms) :
    vx_W p l e R s m args below meth c H locs cells slots (vx_MQ below Qc XC args s mc ms free) (F0 m pc ls rest) q := by
  intro T hT X
  obtain ⟨st1, hrun, hend, hW, hsm⟩ := X.leaveThrown q (g := F0 m pc ls rest) rfl rfl rfl hout hlocks
  have hcell9 : (T.setFrames (.throwing q :: below)).heap[q]? = some ce := by
    show T.heap[q]? = some ce
    rw [hT]; exact hcell
  exact ⟨_, st1, .threw q, hrun, hend, Or.inr ⟨q, rfl, E, ce, locs, hx _ hT hW.alike, hcell9, hv, hcl, hW, hsm.mono hc hs, hf⟩⟩
theorem vx_frame {U : State} {k n : Nat} (h : s.sameButNew ({ U with vm := s.vm } : State) locs k n) : s.heap.size ≤ U.heap.size ∧ ∀ q : Nat, q < s.heap.size → (∀ z ∈ locs, z.base ≠ q) → U.heap[q]? = s.heap[q]? := by
  obtain ⟨-, h2, -, -, -, h6⟩ := h
  refine ⟨h2, fun q hq hz => ?_⟩
  obtain ⟨c9, e1, e2, e3, e4⟩ := h6 q _ (Array.getElem?_eq_getElem hq)
  have hs : c9.slots = (s.heap[q]).slots := Array.ext_getElem? fun i => e4 i fun hm => hz _ hm rfl
  have h9 : c9 = s.heap[q] := by
    rw [hs] at e2
    exact e2
  have e5 : U.heap[q]? = some c9 := e1
  rw [e5, h9, Array.getElem?_eq_getElem hq]
/-- the words of a throw but the four that speak of the heap -/
def vx_no (w : Cond) : Bool := decide (w ≠ .isRef (.static Bundle.tN "UNASSIGNED_STACK" Bundle.steD)) && decide (w ≠ .isRef (.static Bundle.tN "SUPPRESSED_SENTINEL" Bundle.listD)) && decide (w ≠ .laysStatic Bundle.tN "UNASSIGNED_STACK" Bundle.steD) && decide (w ≠ .laysStatic Bundle.tN "SUPPRESSED_SENTINEL" Bundle.listD)
def vx_at0 (own : String) (ic : Nat) (X : String) (names : List String) : List Cond := (Bundle.ownAtoms0 own ic X names).filter vx_no
def vx_atS (own : String) (ic : Nat) (X : String) (names : List String) : List Cond := (Bundle.ownAtoms own ic X names).filter vx_no
/-- a word that the tables alone decide, or a good one -/
def vx_ot (w : Cond) : Bool := w.onTables || goodWord w
theorem vx_ot_at {args a' : Array Value} {s U : State} {w : Cond} (hW : s.WarmedH U.vm) (hvm : s.vm = U.vm) (hg : vx_ot w = true) (h : w.before args s = true) : w.before a' U = true := by
  simp only [vx_ot, Bool.or_eq_true] at hg
  rcases hg with hg | hg
  · exact va_tabs hg hvm h
  · exact word_at hW (good_of_word hg) h
/-- a list's words: the good ones out of the method's own list, the others by premises of their own -/
theorem vx_hat {args : Array Value} {s : State} {L B : List Cond} (h1 : ∀ w ∈ L.filter goodWord, w.before args s = true) (h2 : ∀ w ∈ L.filter (fun w => !goodWord w), w ∈ B) (h3 : ∀ w ∈ B, w.before args s = true) : ∀ w ∈ L, w.before args s = true := by
  intro w hw
  by_cases g : goodWord w = true
  · exact h1 w (List.mem_filter.mpr ⟨hw, g⟩)
  · refine h3 w (h2 w (List.mem_filter.mpr ⟨hw, ?_⟩))
    show (!goodWord w) = true
    cases hgw : goodWord w
    · rfl
    · exact absurd hgw g
theorem vx_c {args : Array Value} {s : State} {w : Cond} {B : List Cond} (h : w.before args s = true) (t : ∀ w ∈ B, w.before args s = true) : ∀ w' ∈ w :: B, w'.before args s = true := fun w' h' => (List.mem_cons.mp h').elim (fun e => by rw [e]; exact h) (t w')
theorem vx_n {args : Array Value} {s : State} : ∀ w ∈ ([] : List Cond), w.before args s = true := fun _ h => nomatch h
theorem vx_own {args : Array Value} {s : State} {L : List Cond} (h1 : ∀ w ∈ L.filter vx_no, w.before args s = true)
    (hU : (Cond.isRef (.static Bundle.tN "UNASSIGNED_STACK" Bundle.steD)).before args s = true) (hN : (Cond.isRef (.static Bundle.tN "SUPPRESSED_SENTINEL" Bundle.listD)).before args s = true)
    (lU : (Cond.laysStatic Bundle.tN "UNASSIGNED_STACK" Bundle.steD).before args s = true) (lN : (Cond.laysStatic Bundle.tN "SUPPRESSED_SENTINEL" Bundle.listD).before args s = true) : ∀ w ∈ L, w.before args s = true := by
  intro w hw
  by_cases e1 : w = .isRef (.static Bundle.tN "UNASSIGNED_STACK" Bundle.steD)
  · rw [e1]; exact hU
  · by_cases e2 : w = .isRef (.static Bundle.tN "SUPPRESSED_SENTINEL" Bundle.listD)
    · rw [e2]; exact hN
    · by_cases e3 : w = .laysStatic Bundle.tN "UNASSIGNED_STACK" Bundle.steD
      · rw [e3]; exact lU
      · by_cases e4 : w = .laysStatic Bundle.tN "SUPPRESSED_SENTINEL" Bundle.listD
        · rw [e4]; exact lN
        · exact h1 w (List.mem_filter.mpr ⟨hw, by unfold vx_no; rw [decide_eq_true e1, decide_eq_true e2, decide_eq_true e3, decide_eq_true e4]; rfl⟩)
/-- where a static field lies, its class's statics cell in H -/
def vx_L (C n d : String) (A : Nat → Prop) (U : State) (H : Heap) : Prop := ∃ (c : ClassId) (k : Class) (i : Nat) (f : Field) (a : Nat) (cell : Cell), U.vm.findClass C = some c ∧ U.fieldFound? C n d = some (c, k, i, f) ∧ f.isStatic = true ∧ k.statics = some a ∧ H[a]? = some cell ∧ cell.vm.isStatics = true ∧ cell.cls = c ∧ f.slot < cell.slots.size ∧ k.staticTypes[f.slot]? = some f.type ∧ ¬ A a
theorem vx_L.moved {C n d : String} {A : Nat → Prop} {u U : State} {H : Heap} (hvm : u.vm.Alike U.vm) (h : vx_L C n d A u H) : vx_L C n d A U H := by
  obtain ⟨c, k, i, f, a, cell, h1, h2, h3, h4, h5, h6, h7, h8, h9, h10⟩ := h
  obtain ⟨k', hi', he⟩ := State.fieldFound?_setVm hvm h2
  exact ⟨c, k', i, f, a, cell, by rw [hvm.findClass]; exact h1, hi', h3, by rw [he]; exact h4, h5, h6, h7, h8, by rw [he]; exact h9, h10⟩
theorem vx_L.kept {C n d : String} {A : Nat → Prop} {U : State} {H H1 : Heap} (h : vx_L C n d A U H) (hq : ∀ a : Nat, a < H.size → ¬ A a → H1[a]? = H[a]?) : vx_L C n d A U H1 := by
  obtain ⟨c, k, i, f, a, cell, h1, h2, h3, h4, h5, h6, h7, h8, h9, h10⟩ := h
  exact ⟨c, k, i, f, a, cell, h1, h2, h3, h4, by rw [hq a (Array.getElem?_eq_some_iff.mp h5).1 h10]; exact h5, h6, h7, h8, h9, h10⟩
theorem vx_L.narrow {C n d : String} {A B : Nat → Prop} {U : State} {H : Heap} (h : vx_L C n d A U H) (hAB : ∀ q, B q → A q) : vx_L C n d B U H := by
  obtain ⟨c, k, i, f, a, cell, h1, h2, h3, h4, h5, h6, h7, h8, h9, h10⟩ := h
  exact ⟨c, k, i, f, a, cell, h1, h2, h3, h4, h5, h6, h7, h8, h9, fun z => h10 (hAB _ z)⟩
theorem vx_L.word {C n d : String} {A : Nat → Prop} {s : State} {args : Array Value} (h : vx_L C n d A s s.heap) : (Cond.laysStatic C n d).before args s = true := by
  obtain ⟨c, k, i, f, a, cell, h1, h2, h3, h4, h5, h6, h7, h8, h9, -⟩ := h
  show (Cond.laysStatic C n d).holds args s none s [] = true
  exact Cond.laysStatic_of h1 h2 h3 h4 h5 h6 h7 h8 h9
/-- .. and what it holds: null or some reference -/
def vx_Zq (C n d : String) (A : Nat → Prop) (U : State) (H : Heap) : Prop := va_Zq C n d A U H ∧ vx_L C n d A U H
theorem vx_Zq.moved {C n d : String} {A : Nat → Prop} {u U : State} {H : Heap} (hvm : u.vm.Alike U.vm) (h : vx_Zq C n d A u H) : vx_Zq C n d A U H := ⟨va_Zq.moved hvm h.1, vx_L.moved hvm h.2⟩
theorem vx_Zq.kept {C n d : String} {A : Nat → Prop} {U : State} {H H1 : Heap} (h : vx_Zq C n d A U H) (hq : ∀ a : Nat, a < H.size → ¬ A a → H1[a]? = H[a]?) : vx_Zq C n d A U H1 := ⟨va_Zq.kept h.1 hq, vx_L.kept h.2 hq⟩
theorem vx_Zq.narrow {C n d : String} {A B : Nat → Prop} {U : State} {H : Heap} (h : vx_Zq C n d A U H) (hAB : ∀ q, B q → A q) : vx_Zq C n d B U H := ⟨va_Zq.narrow h.1 hAB, vx_L.narrow h.2 hAB⟩
theorem vx_Zqof {args : Array Value} {s : State} {C n d : String} {A : Nat → Prop} (hl : (Cond.laysStatic C n d).before args s = true) (hini : (Cond.initialized C).before args s = true) (h : (Cond.isRef (.static C n d)).before args s = true) (hA : ∀ a : Nat, a < s.heap.size → ¬ A a) : vx_Zq C n d A s s.heap := by
  refine ⟨va_Zqof hl hini h hA, ?_⟩
  obtain ⟨c, k, i, f, a, cell, h1, h2, h3, h4, h5, h6, h7, h8, h9⟩ := Cond.laysStatic_spec hl
  exact ⟨c, k, i, f, a, cell, h1, h2, h3, h4, h5, h6, h7, h8, h9, hA a (Array.getElem?_eq_some_iff.mp h5).1⟩
theorem vx_isRef {C n d : String} {v : Value} {A : Nat → Prop} {s : State} {args : Array Value} (h : va_Z C n d v A s s.heap) (hv : v.isRef = true) : (Cond.isRef (.static C n d)).before args s = true := by
  obtain ⟨cf, kf, fi, f, a, cell, h1, h2, h3, h4, h5, h6, h7, -⟩ := h
  have he : (Term.static C n d).eval args s none [] s = some v := by
    simp [Term.eval, State.fieldNamed?, h1, h2, h4, h5, h6, h7]
  simp only [Cond.before, Cond.holds, Cond.value, he]
  cases v <;> simp_all [Value.isRef]
theorem vx_isRefq {C n d : String} {A : Nat → Prop} {s : State} {args : Array Value} (h : va_Zq C n d A s s.heap) : (Cond.isRef (.static C n d)).before args s = true := by
  rcases h with h | ⟨t, h⟩
  · exact vx_isRef h rfl
  · exact vx_isRef h rfl
/-- the same frame, seen from here: as if the method were called anew in this heap -/
theorem vx_rebase {T : State} (X : Stand p l e R s m args below meth c T locs cells slots) {R' : Room} (hf : R'.frames ≤ R.frames) (hl : R'.locals ≤ R.locals) (hc : cells + R'.cells ≤ R.cells) (hs : slots + R'.slots ≤ R.slots) :
    Stand p l e R' ((T.setVm s.vm).setFrames (.invoking m args :: below)) m args below meth c T [] 0 0 := by
  have htop : (T.setVm s.vm).topJava?.isSome := X.here.top
  have hF : ((T.setVm s.vm).setFrames (.invoking m args :: below)).frames = .invoking m args :: below := State.frames_setFrames _ (State.cur_lt_of_top htop)
  obtain ⟨g₀, hg0⟩ := Option.isSome_iff_exists.mp htop
  obtain ⟨r, hr⟩ := State.topJava?_eq_some.mp hg0
  have hl9 : e.platform.stackLimits (T.setVm s.vm).me = e.platform.stackLimits s.me := X.limits
  have hb9 : (T.setVm s.vm).me.stackBytes = s.me.stackBytes := X.bytes
  refine ⟨X.admits, X.cas, X.clock, hF, ?_, X.hears, X.method, X.code, X.here, X.tail, X.warmed, ?_, ?_, ?_⟩
  · have h := X.room
    have hU : ((T.setVm s.vm).setFrames (.invoking m args :: below)).localsInUse = s.localsInUse := by
      rw [State.localsInUse_invoking hF (meth := meth) (c := c) X.method X.code, State.localsInUse_invoking X.frames X.method X.code]
    simp only [State.hasRoom, Bool.and_eq_true, decide_eq_true_eq] at h ⊢
    obtain ⟨⟨⟨⟨h1, h2, h3, h4, h5, h6⟩, h7⟩, h8⟩, h9⟩ := h
    rw [X.frames, List.length_cons] at h2 h3
    have q1 := X.heapSize
    have q2 := X.used
    simp only [hF, hU, List.length_cons, State.stackLimits_setFrames, State.stackBytes_setFrames, hl9, hb9]
    refine ⟨⟨⟨⟨by omega, by omega, by omega, by omega, by omega, h6⟩, ?_⟩, ?_⟩, X.book⟩
    · show T.heap.size + R'.cells ≤ e.platform.maxCells
      omega
    · show T.slotsUsed + R'.slots ≤ e.platform.maxSlots
      omega
  · rw [State.stackLimits_setFrames]; rfl
  · rw [State.stackBytes_setFrames]; rfl
  · refine ⟨?_, Nat.le_refl _, Nat.le_refl _, ?_, ?_, fun a c9 h9 => ⟨c9, h9, rfl, rfl, fun _ _ => rfl⟩⟩
    · obtain ⟨t, ht, -⟩ := State.frames_cons hr
      show T.setVm s.vm = { ((T.setVm s.vm).setFrames (.invoking m args :: below)).setFrames (T.setVm s.vm).frames with heap := T.heap, slotsUsed := T.slotsUsed }
      rw [State.setFrames_setFrames, State.setFrames_self ht]
      rfl
    · show T.slotsUsed = T.slotsUsed + ((T.heap.toList.drop T.heap.size).map (·.slots.size)).sum
      rw [List.drop_eq_nil_of_le (Nat.le_of_eq Array.length_toList)]
      rfl
    · show ((T.heap.toList.drop T.heap.size).map (·.slots.size)).sum ≤ 0
      rw [List.drop_eq_nil_of_le (Nat.le_of_eq Array.length_toList)]
      exact Nat.le_refl _
/-- 'throw new E()': new; dup; invokespecial; athrow -/
theorem vx_throw0 {cc : ByteArray} {pc : Nat} (hexec : p.tables.exec = Jvm.exec) (hb : c.code = cc) (hl : l.stackTraces = false) {own cls : String} {names : List String} {ik ic mc ms : Nat} {A : Nat → Prop}
    (hown : s.vm.findClass own = some m.cls) (hcls : Bundle.fit cls = true) (hnames : ∀ n ∈ names, Bundle.fit n = true)
    (hk : (Cond.classLink own ik cls).before args s = true) (hini : (Cond.initialized cls).before args s = true) (hat : ∀ w ∈ vx_at0 own ic cls names, w.before args s = true)
    (hgood : ∀ w ∈ Cond.classLink own ik cls :: Cond.initialized cls :: vx_at0 own ic cls names, vx_ot w = true)
    (hU : vx_Zq Bundle.tN "UNASSIGNED_STACK" Bundle.steD A s s.heap) (hN : vx_Zq Bundle.tN "SUPPRESSED_SENTINEL" Bundle.listD A s s.heap) (hS : va_S A s.heap H locs) (hsize : ls.size = c.maxLocals)
    (d0 : decode cc pc = .ok (.new ik, 3)) (d3 : decode cc (pc + 3) = .ok (.dup, 1)) (d4 : decode cc (pc + 4) = .ok (.invokespecial ic, 3)) (d7 : decode cc (pc + 7) = .ok (.athrow, 1))
    (hout : ∀ x ∈ c.exceptionTable.toList, covers x (pc + 7) = false)
    (hRframes : names.length + 3 < R.frames) (hRlocals : (rest.map fun v => v.category).sum + (13 * (names.length + 1) + 42) ≤ R.locals) (hRcells : cells + 1 ≤ R.cells) (hRslots : slots + 6 ≤ R.slots) (hlocks : meth.locks = false)
    (hx : ∀ t : State, s.vm.Alike t.vm → H.size ≤ t.heap.size → (∀ q : Nat, q < H.size → t.heap[q]? = H[q]?) → XC cls s t)
    (hf : ∀ z ∈ locs, free z.base) (hc : cells + 1 ≤ mc) (hs : slots + 6 ≤ ms) :
    W p l e R s m args below meth c H locs cells slots (vx_MQ below Qc XC args s mc ms free) (F0 m pc ls rest) := by
  intro T hT X
  have htr : e.platform.stackTraces = false := (show e.platform.stackTraces = l.stackTraces by rw [X.admits.platform]).trans hl
  have Y := vx_rebase X (R' := { frames := R.frames, locals := R.locals, cells := 1, slots := 6 }) (Nat.le_refl _) (Nat.le_refl _) hRcells hRslots
  obtain ⟨s', hA⟩ : ∃ z, z = (T.setVm s.vm).setFrames (.invoking m args :: below) := ⟨_, rfl⟩
  rw [← hA] at Y
  have hvm : s'.vm = s.vm := by rw [hA]; rfl
  have hhp : s'.heap = H := by rw [hA]; exact hT
  have hW0 : s.WarmedH s'.vm := by rw [hvm]; exact State.WarmedH.refl s
  have hat' : ∀ w ∈ vx_at0 own ic cls names, w.before args s' = true := fun w hw => vx_ot_at hW0 hvm.symm (hgood w (List.mem_cons_of_mem _ (List.mem_cons_of_mem _ hw))) (hat w hw)
  have hk' : (Cond.classLink own ik cls).before args s' = true := vx_ot_at hW0 hvm.symm (hgood _ List.mem_cons_self) hk
  have hini' : (Cond.initialized cls).before args s' = true := vx_ot_at hW0 hvm.symm (hgood _ (List.mem_cons_of_mem _ List.mem_cons_self)) hini
  have hU' : vx_Zq Bundle.tN "UNASSIGNED_STACK" Bundle.steD A s' s'.heap := by rw [hhp]; exact vx_Zq.moved hW0.alike (hU.kept hS.2.1)
  have hN' : vx_Zq Bundle.tN "SUPPRESSED_SENTINEL" Bundle.listD A s' s'.heap := by rw [hhp]; exact vx_Zq.moved hW0.alike (hN.kept hS.2.1)
  have h : ∀ w ∈ Bundle.ownAtoms0 own ic cls names, w.before args s' = true := vx_own hat' (vx_isRefq hU'.1) (vx_isRefq hN'.1) hU'.2.word hN'.2.word
  have hown' : s'.vm.findClass own = some m.cls := by rw [hvm]; exact hown
  have hins : (Cond.instantiable cls 6).before args s' = true := h _ (by simp [Bundle.ownAtoms0])
  obtain ⟨vm₁, cX, kX, hfX, hkX, -, -, X₁, st1⟩ := Y.newCold hexec (own := own) (C := cls) (index := ik) (n := 6) hown' hk' hins hini'
    (g := F0 m pc ls rest) rfl (by rw [hb]; exact d0) (Nat.le_refl _) (Nat.le_refl _)
  generalize hT1 : (T.setVm vm₁).pushCell { cls := cX, slots := kX.instanceTypes.map defaultValue, vm := .none } = T1 at X₁ st1
  have hcat : (Value.ref T.heap.size).category = 1 := rfl
  have hcellA : T1.heap[T.heap.size]? = some (freshCell cX kX) := by rw [← hT1]; exact State.heap_pushCell_size _ _
  have d3' : decode c.code (pc + 3) = .ok (.dup, 1) := by rw [hb]; exact d3
  obtain ⟨U, hsteps, hrun, hend, hW, hsame, ce, hce, hO⟩ := X₁.ctorThrow0 hexec htr (own := own) (cls := cls) (names := names) (ic := ic) hown' hcls hnames h (fun x hx => nomatch hx) hfX hkX hcellA (by rw [hhp, hT]; exact Nat.le_refl _)
    (g := { method := m, pc := pc + 4, locals := ls, stack := .ref T.heap.size :: .ref T.heap.size :: rest, locked := none }) rfl hsize rfl rfl (rest := rest) rfl
    (by rw [hb]; exact d4) (by rw [hb]; exact d7) hout hRframes (by simp only [List.map_cons, List.sum_cons, hcat]; omega) hlocks
  obtain ⟨f1, f2⟩ := vx_frame hsame
  rw [hhp] at f1 f2
  have hWs : s.WarmedH U.vm := State.WarmedH.trans hW0 hW
  have hcl : s.vm.findClass cls = some ce.cls := by
    have h9 := hO.cls
    rw [hvm] at h9
    exact h9
  have hall : s.sameButNew ({ U with vm := s.vm } : State) locs mc ms := by
    subst hA
    obtain ⟨e1, e2⟩ := hsame
    rw [State.setFrames_setFrames] at e1
    have h2 : (T.setVm s.vm).sameButNew ({ U with vm := s.vm } : State) [] (0 + 1) (0 + 6) := ⟨e1, e2⟩
    have h3 := X.same.trans h2
    rw [List.append_nil] at h3
    exact h3.mono hc hs
  refine ⟨U, ?_, .threw T.heap.size, hrun, hend, Or.inr ⟨T.heap.size, rfl, cls, ce, locs, hx U hWs.alike f1 (fun q hq => f2 q hq (fun z hz => nomatch hz)), hce, hO.vm, hcl, hWs, hall, hf⟩⟩
  refine st1 _ ?_
  show Steps p.tables e below (T1.setTop { method := m, pc := pc + 3, locals := ls, stack := .ref T.heap.size :: rest, locked := none }) _
  jvm_step X₁.here [X₁.here.top, hexec, d3', Value.category]
  exact hsteps
/-- 'throw new E("text")': new; dup; ldc; invokespecial; athrow -/
theorem vx_throwS {cc : ByteArray} {pc : Nat} (hexec : p.tables.exec = Jvm.exec) (hb : c.code = cc) (hl : l.stackTraces = false) {own cls text : String} {names : List String} {ik is ic mc ms sa : Nat} {A : Nat → Prop}
    (hown : s.vm.findClass own = some m.cls) (hcls : Bundle.fit cls = true) (hnames : ∀ n ∈ names, Bundle.fit n = true)
    (hk : (Cond.classLink own ik cls).before args s = true) (hini : (Cond.initialized cls).before args s = true) (hstr : vk_R own is text sa s) (hat : ∀ w ∈ vx_atS own ic cls names, w.before args s = true)
    (hgood : ∀ w ∈ Cond.classLink own ik cls :: Cond.initialized cls :: vx_atS own ic cls names, vx_ot w = true)
    (hU : vx_Zq Bundle.tN "UNASSIGNED_STACK" Bundle.steD A s s.heap) (hN : vx_Zq Bundle.tN "SUPPRESSED_SENTINEL" Bundle.listD A s s.heap) (hS : va_S A s.heap H locs) (hsize : ls.size = c.maxLocals)
    (d0 : decode cc pc = .ok (.new ik, 3)) (d3 : decode cc (pc + 3) = .ok (.dup, 1)) (d4 : decode cc (pc + 4) = .ok (.ldc is, 2)) (d6 : decode cc (pc + 6) = .ok (.invokespecial ic, 3)) (d9 : decode cc (pc + 9) = .ok (.athrow, 1))
    (hout : ∀ x ∈ c.exceptionTable.toList, covers x (pc + 9) = false)
    (hRframes : names.length + 3 < R.frames) (hRlocals : (rest.map fun v => v.category).sum + (13 * (names.length + 1) + 43) ≤ R.locals) (hRcells : cells + 1 ≤ R.cells) (hRslots : slots + 6 ≤ R.slots) (hlocks : meth.locks = false)
    (hx : ∀ t : State, s.vm.Alike t.vm → H.size ≤ t.heap.size → (∀ q : Nat, q < H.size → t.heap[q]? = H[q]?) → XC cls s t)
    (hf : ∀ z ∈ locs, free z.base) (hc : cells + 1 ≤ mc) (hs : slots + 6 ≤ ms) :
    W p l e R s m args below meth c H locs cells slots (vx_MQ below Qc XC args s mc ms free) (F0 m pc ls rest) := by
  intro T hT X
  have htr : e.platform.stackTraces = false := (show e.platform.stackTraces = l.stackTraces by rw [X.admits.platform]).trans hl
  have Y := vx_rebase X (R' := { frames := R.frames, locals := R.locals, cells := 1, slots := 6 }) (Nat.le_refl _) (Nat.le_refl _) hRcells hRslots
  obtain ⟨s', hA⟩ : ∃ z, z = (T.setVm s.vm).setFrames (.invoking m args :: below) := ⟨_, rfl⟩
  rw [← hA] at Y
  have hvm : s'.vm = s.vm := by rw [hA]; rfl
  have hhp : s'.heap = H := by rw [hA]; exact hT
  have hW0 : s.WarmedH s'.vm := by rw [hvm]; exact State.WarmedH.refl s
  have hat' : ∀ w ∈ vx_atS own ic cls names, w.before args s' = true := fun w hw => vx_ot_at hW0 hvm.symm (hgood w (List.mem_cons_of_mem _ (List.mem_cons_of_mem _ hw))) (hat w hw)
  have hk' : (Cond.classLink own ik cls).before args s' = true := vx_ot_at hW0 hvm.symm (hgood _ List.mem_cons_self) hk
  have hini' : (Cond.initialized cls).before args s' = true := vx_ot_at hW0 hvm.symm (hgood _ (List.mem_cons_of_mem _ List.mem_cons_self)) hini
  have hU' : vx_Zq Bundle.tN "UNASSIGNED_STACK" Bundle.steD A s' s'.heap := by rw [hhp]; exact vx_Zq.moved hW0.alike (hU.kept hS.2.1)
  have hN' : vx_Zq Bundle.tN "SUPPRESSED_SENTINEL" Bundle.listD A s' s'.heap := by rw [hhp]; exact vx_Zq.moved hW0.alike (hN.kept hS.2.1)
  have h : ∀ w ∈ Bundle.ownAtoms own ic cls names, w.before args s' = true := vx_own hat' (vx_isRefq hU'.1) (vx_isRefq hN'.1) hU'.2.word hN'.2.word
  have hown' : s'.vm.findClass own = some m.cls := by rw [hvm]; exact hown
  have hins : (Cond.instantiable cls 6).before args s' = true := h _ (by simp [Bundle.ownAtoms])
  obtain ⟨vm₁, cX, kX, hfX, hkX, -, -, X₁, st1⟩ := Y.newCold hexec (own := own) (C := cls) (index := ik) (n := 6) hown' hk' hins hini'
    (g := F0 m pc ls rest) rfl (by rw [hb]; exact d0) (Nat.le_refl _) (Nat.le_refl _)
  generalize hT1 : (T.setVm vm₁).pushCell { cls := cX, slots := kX.instanceTypes.map defaultValue, vm := .none } = T1 at X₁ st1
  have hcat : (Value.ref T.heap.size).category = 1 := rfl
  have hcellA : T1.heap[T.heap.size]? = some (freshCell cX kX) := by rw [← hT1]; exact State.heap_pushCell_size _ _
  have d3' : decode c.code (pc + 3) = .ok (.dup, 1) := by rw [hb]; exact d3
  have d4' : decode c.code (pc + 4) = .ok (.ldc is, 2) := by rw [hb]; exact d4
  have hstr' : vk_R own is text sa s' := vk_R.warm hW0 hstr
  obtain ⟨U, hsteps, hrun, hend, hW, hsame, ce, hce, hO⟩ := X₁.ctorThrowS hexec htr (own := own) (cls := cls) (names := names) (ic := ic) hown' hcls hnames h (fun x hx => nomatch hx) hfX hkX hcellA (by rw [hhp, hT]; exact Nat.le_refl _) (msg := .ref sa) rfl
    (g := { method := m, pc := pc + 6, locals := ls, stack := .ref sa :: .ref T.heap.size :: .ref T.heap.size :: rest, locked := none }) rfl hsize rfl rfl (rest := rest) rfl
    (by rw [hb]; exact d6) (by rw [hb]; exact d9) hout hRframes (by simp only [List.map_cons, List.sum_cons, hcat]; omega) hlocks
  obtain ⟨f1, f2⟩ := vx_frame hsame
  rw [hhp] at f1 f2
  have hWs : s.WarmedH U.vm := State.WarmedH.trans hW0 hW
  have hcl : s.vm.findClass cls = some ce.cls := by
    have h9 := hO.cls
    rw [hvm] at h9
    exact h9
  have hall : s.sameButNew ({ U with vm := s.vm } : State) locs mc ms := by
    subst hA
    obtain ⟨e1, e2⟩ := hsame
    rw [State.setFrames_setFrames] at e1
    have h2 : (T.setVm s.vm).sameButNew ({ U with vm := s.vm } : State) [] (0 + 1) (0 + 6) := ⟨e1, e2⟩
    have h3 := X.same.trans h2
    rw [List.append_nil] at h3
    exact h3.mono hc hs
  refine ⟨U, ?_, .threw T.heap.size, hrun, hend, Or.inr ⟨T.heap.size, rfl, cls, ce, locs, hx U hWs.alike f1 (fun q hq => f2 q hq (fun z hz => nomatch hz)), hce, hO.vm, hcl, hWs, hall, hf⟩⟩
  refine st1 _ ?_
  show Steps p.tables e below (T1.setTop { method := m, pc := pc + 3, locals := ls, stack := .ref T.heap.size :: rest, locked := none }) _
  jvm_step X₁.here [X₁.here.top, hexec, d3', Value.category]
  exact X₁.ldcString hexec (own := own) (text := text) (index := is) (a := sa) hown' hstr'.1 hstr'.2
    (g := { method := m, pc := pc + 4, locals := ls, stack := .ref T.heap.size :: .ref T.heap.size :: rest, locked := none }) rfl d4' _ hsteps
/-- 'throw new E("text")', the text by a wide index -/
theorem vx_throwSW {cc : ByteArray} {pc : Nat} (hexec : p.tables.exec = Jvm.exec) (hb : c.code = cc) (hl : l.stackTraces = false) {own cls text : String} {names : List String} {ik is ic mc ms sa : Nat} {A : Nat → Prop}
    (hown : s.vm.findClass own = some m.cls) (hcls : Bundle.fit cls = true) (hnames : ∀ n ∈ names, Bundle.fit n = true)
    (hk : (Cond.classLink own ik cls).before args s = true) (hini : (Cond.initialized cls).before args s = true) (hstr : vk_R own is text sa s) (hat : ∀ w ∈ vx_atS own ic cls names, w.before args s = true)
    (hgood : ∀ w ∈ Cond.classLink own ik cls :: Cond.initialized cls :: vx_atS own ic cls names, vx_ot w = true)
    (hU : vx_Zq Bundle.tN "UNASSIGNED_STACK" Bundle.steD A s s.heap) (hN : vx_Zq Bundle.tN "SUPPRESSED_SENTINEL" Bundle.listD A s s.heap) (hS : va_S A s.heap H locs) (hsize : ls.size = c.maxLocals)
    (d0 : decode cc pc = .ok (.new ik, 3)) (d3 : decode cc (pc + 3) = .ok (.dup, 1)) (d4 : decode cc (pc + 4) = .ok (.ldc_w is, 3)) (d7 : decode cc (pc + 7) = .ok (.invokespecial ic, 3)) (d10 : decode cc (pc + 10) = .ok (.athrow, 1))
    (hout : ∀ x ∈ c.exceptionTable.toList, covers x (pc + 10) = false)
    (hRframes : names.length + 3 < R.frames) (hRlocals : (rest.map fun v => v.category).sum + (13 * (names.length + 1) + 43) ≤ R.locals) (hRcells : cells + 1 ≤ R.cells) (hRslots : slots + 6 ≤ R.slots) (hlocks : meth.locks = false)
    (hx : ∀ t : State, s.vm.Alike t.vm → H.size ≤ t.heap.size → (∀ q : Nat, q < H.size → t.heap[q]? = H[q]?) → XC cls s t)
    (hf : ∀ z ∈ locs, free z.base) (hc : cells + 1 ≤ mc) (hs : slots + 6 ≤ ms) :
    W p l e R s m args below meth c H locs cells slots (vx_MQ below Qc XC args s mc ms free) (F0 m pc ls rest) := by
  intro T hT X
  have htr : e.platform.stackTraces = false := (show e.platform.stackTraces = l.stackTraces by rw [X.admits.platform]).trans hl
  have Y := vx_rebase X (R' := { frames := R.frames, locals := R.locals, cells := 1, slots := 6 }) (Nat.le_refl _) (Nat.le_refl _) hRcells hRslots
  obtain ⟨s', hA⟩ : ∃ z, z = (T.setVm s.vm).setFrames (.invoking m args :: below) := ⟨_, rfl⟩
  rw [← hA] at Y
  have hvm : s'.vm = s.vm := by rw [hA]; rfl
  have hhp : s'.heap = H := by rw [hA]; exact hT
  have hW0 : s.WarmedH s'.vm := by rw [hvm]; exact State.WarmedH.refl s
  have hat' : ∀ w ∈ vx_atS own ic cls names, w.before args s' = true := fun w hw => vx_ot_at hW0 hvm.symm (hgood w (List.mem_cons_of_mem _ (List.mem_cons_of_mem _ hw))) (hat w hw)
  have hk' : (Cond.classLink own ik cls).before args s' = true := vx_ot_at hW0 hvm.symm (hgood _ List.mem_cons_self) hk
  have hini' : (Cond.initialized cls).before args s' = true := vx_ot_at hW0 hvm.symm (hgood _ (List.mem_cons_of_mem _ List.mem_cons_self)) hini
  have hU' : vx_Zq Bundle.tN "UNASSIGNED_STACK" Bundle.steD A s' s'.heap := by rw [hhp]; exact vx_Zq.moved hW0.alike (hU.kept hS.2.1)
  have hN' : vx_Zq Bundle.tN "SUPPRESSED_SENTINEL" Bundle.listD A s' s'.heap := by rw [hhp]; exact vx_Zq.moved hW0.alike (hN.kept hS.2.1)
  have h : ∀ w ∈ Bundle.ownAtoms own ic cls names, w.before args s' = true := vx_own hat' (vx_isRefq hU'.1) (vx_isRefq hN'.1) hU'.2.word hN'.2.word
  have hown' : s'.vm.findClass own = some m.cls := by rw [hvm]; exact hown
  have hins : (Cond.instantiable cls 6).before args s' = true := h _ (by simp [Bundle.ownAtoms])
  obtain ⟨vm₁, cX, kX, hfX, hkX, -, -, X₁, st1⟩ := Y.newCold hexec (own := own) (C := cls) (index := ik) (n := 6) hown' hk' hins hini'
    (g := F0 m pc ls rest) rfl (by rw [hb]; exact d0) (Nat.le_refl _) (Nat.le_refl _)
  generalize hT1 : (T.setVm vm₁).pushCell { cls := cX, slots := kX.instanceTypes.map defaultValue, vm := .none } = T1 at X₁ st1
  have hcat : (Value.ref T.heap.size).category = 1 := rfl
  have hcellA : T1.heap[T.heap.size]? = some (freshCell cX kX) := by rw [← hT1]; exact State.heap_pushCell_size _ _
  have d3' : decode c.code (pc + 3) = .ok (.dup, 1) := by rw [hb]; exact d3
  have d4' : decode c.code (pc + 4) = .ok (.ldc_w is, 3) := by rw [hb]; exact d4
  have hstr' : vk_R own is text sa s' := vk_R.warm hW0 hstr
  obtain ⟨U, hsteps, hrun, hend, hW, hsame, ce, hce, hO⟩ := X₁.ctorThrowS hexec htr (own := own) (cls := cls) (names := names) (ic := ic) hown' hcls hnames h (fun x hx => nomatch hx) hfX hkX hcellA (by rw [hhp, hT]; exact Nat.le_refl _) (msg := .ref sa) rfl
    (g := { method := m, pc := pc + 7, locals := ls, stack := .ref sa :: .ref T.heap.size :: .ref T.heap.size :: rest, locked := none }) rfl hsize rfl rfl (rest := rest) rfl
    (by rw [hb]; exact d7) (by rw [hb]; exact d10) hout hRframes (by simp only [List.map_cons, List.sum_cons, hcat]; omega) hlocks
  obtain ⟨f1, f2⟩ := vx_frame hsame
  rw [hhp] at f1 f2
  have hWs : s.WarmedH U.vm := State.WarmedH.trans hW0 hW
  have hcl : s.vm.findClass cls = some ce.cls := by
    have h9 := hO.cls
    rw [hvm] at h9
    exact h9
  have hall : s.sameButNew ({ U with vm := s.vm } : State) locs mc ms := by
    subst hA
    obtain ⟨e1, e2⟩ := hsame
    rw [State.setFrames_setFrames] at e1
    have h2 : (T.setVm s.vm).sameButNew ({ U with vm := s.vm } : State) [] (0 + 1) (0 + 6) := ⟨e1, e2⟩
    have h3 := X.same.trans h2
    rw [List.append_nil] at h3
    exact h3.mono hc hs
  refine ⟨U, ?_, .threw T.heap.size, hrun, hend, Or.inr ⟨T.heap.size, rfl, cls, ce, locs, hx U hWs.alike f1 (fun q hq => f2 q hq (fun z hz => nomatch hz)), hce, hO.vm, hcl, hWs, hall, hf⟩⟩
  refine st1 _ ?_
  show Steps p.tables e below (T1.setTop { method := m, pc := pc + 3, locals := ls, stack := .ref T.heap.size :: rest, locked := none }) _
  jvm_step X₁.here [X₁.here.top, hexec, d3', Value.category]
  exact X₁.ldcStringW hexec (own := own) (text := text) (index := is) (a := sa) hown' hstr'.1 hstr'.2
    (g := { method := m, pc := pc + 4, locals := ls, stack := .ref T.heap.size :: .ref T.heap.size :: rest, locked := none }) rfl d4' _ hsteps
end Ends
section Bodies
variable {l : Launch}
theorem vx_ofW {y : MethodName} {ws ws' : List Cond} {rm : Room} {Pc : Array Value → State → Prop} {Qc : Array Value → State → Outcome → State → Prop} {XC : String → State → State → Prop} {mc ms : Nat} {free : Addr → Prop} {cc : ByteArray} {maxL : Nat} {ret : Option FieldType}
    (hy : plainName y.cls = true) (hw : ws = Cond.code y cc maxL ret :: ws')
    (body : ∀ p e s m args below meth c s₁, BodyLoose p l y (headSpec ws rm) cc maxL ret e s m args below meth c s₁ → c.maxLocals = maxL → (∀ x ∈ c.exceptionTable.toList, False) → Pc args s →
      W p l e (headSpec ws rm).room s m args below meth c s.heap [] 0 0 (vx_MQ below Qc XC args s mc ms free) (entryFrame m args maxL)) : vx_Met l y ws rm Pc Qc XC mc ms free := by
  refine MetFree.of_bodyS (code := cc) (maxLocals := maxL) (ret := ret) hy ?_ ?_
  · intro args s m h hn
    obtain ⟨meth, c, h1, h2, h3, h4, h5, h6, -, -⟩ := Cond.code_spec hn (atoms_spec (ws := ws) h _ (by rw [hw]; exact List.mem_cons_self))
    exact ⟨meth, c, h1, h2, h3, h4, h5, h6⟩
  · intro p e s m args below meth c s₁ B hml hP _
    have hh0 : s₁.heap = s.heap := by rw [B.state]; rfl
    have ht : ∀ x ∈ c.exceptionTable.toList, False := by
      obtain ⟨meth9, c9, h1, h2, -, -, -, -, h7, -⟩ := Cond.code_spec B.named (atoms_spec (ws := ws) B.pre _ (by rw [hw]; exact List.mem_cons_self))
      cases Option.some.inj (h1.symm.trans B.method)
      cases Option.some.inj (h2.symm.trans (Stand.of_body B).code)
      intro x hx
      rw [Array.isEmpty_iff.mp h7] at hx
      cases hx
    obtain ⟨t, a1, o, b1, b2, b3⟩ := body p e s m args below meth c s₁ B hml ht hP s₁ hh0 (Stand.of_body B)
    exact ⟨t, o, a1, b1, b2, b3⟩
/-- the table of a body with handlers -/
theorem vx_table {p : Program} {x y : MethodName} {S : Spec} {cc bytes : ByteArray} {maxL maxL' : Nat} {ret ret' : Option FieldType} {e : Env} {s s₁ : State} {m : MethodId} {args : Array Value} {below : List Frame} {meth : Method} {c : Code} {hh : List (Nat × Nat × Nat × Nat)}
    (B : BodyLoose p l y S cc maxL ret e s m args below meth c s₁) (h : (Cond.codeWith y bytes maxL' ret' hh).before args s = true) : c.exceptionTable.toList = tableOf hh := by
  obtain ⟨m9, meth9, c9, hn9, h1, h2, -, -, h6, -⟩ := Cond.codeWith_spec h
  cases Option.some.inj (hn9.symm.trans B.named)
  cases Option.some.inj (h1.symm.trans B.method)
  cases Option.some.inj (h2.symm.trans (Stand.of_body B).code)
  rw [← h6, table_eq]
end Bodies
end VXA
/-! ===== END ===== -/
/-! ===== BEGIN a static call of a method with an exception table ===== -/
section VXS
variable {p : Program} {l : Launch} {e : Env} {R : Room} {s : State} {m : MethodId} {args : Array Value} {below : List Frame} {meth : Method} {c : Code} {T : State} {H : Heap} {locs : List Loc} {cells slots : Nat}
abbrev vx_CSW (R : Room) (s : State) (args : Array Value) (own : String) (index : Nat) (y : MethodName) (bytes : ByteArray) (maxL : Nat) (ret : Option FieldType) (hh : List (Nat × Nat × Nat × Nat)) (ws : List Cond) (rm : Room) (mc ms n : Nat) : Prop :=
  (rm.cells = mc ∧ rm.slots = ms ∧ rm.frames + 1 ≤ R.frames ∧ 8 + (maxL + 11) + rm.locals ≤ R.locals ∧ (∀ w ∈ ws, ∀ (a' : Array Value) (U : State), s.WarmedH U.vm → w.before a' U = true) ∧ Cond.codeWith y bytes maxL ret hh ∈ ws) ∧
  (Cond.codeWith y bytes maxL ret hh).before args s = true ∧ (Cond.initialized y.cls).before args s = true ∧ (y.cls ≠ "java/lang/invoke/MethodHandle" ∧ y.cls ≠ "java/lang/invoke/VarHandle") ∧
  (∀ sig, parseMethodDescriptor y.desc = some sig → n = sig.parameters.length) ∧ (Cond.methodLink own index y).before args s = true ∧ (Cond.static y).before args s = true
theorem vx_cwSW {own : String} {index maxL mc ms : Nat} {y : MethodName} {bytes : ByteArray} {ret : Option FieldType} {hh : List (Nat × Nat × Nat × Nat)} {Ts ws ws' : List Cond} {rm : Room} (n : Nat) (ht : ∀ w ∈ Ts, w.before args s = true) (hT : GoodIn Ts (va_wsS own index y ws)) (hw : ws = Cond.codeWith y bytes maxL ret hh :: ws') (hrc : rm.cells = mc) (hrs : rm.slots = ms)
    (hd : y.cls ≠ "java/lang/invoke/MethodHandle" ∧ y.cls ≠ "java/lang/invoke/VarHandle" ∧ (parseMethodDescriptor y.desc).map (fun d => d.parameters.length) = some n) (hR : rm.frames + 1 ≤ R.frames ∧ 8 + (maxL + 11) + rm.locals ≤ R.locals) :
    vx_CSW R s args own index y bytes maxL ret hh ws rm mc ms n := by
  have ok : ∀ w ∈ va_wsS own index y ws, w.before args s = true := fun w h => ht w (hT w h).1
  have hG : GoodIn Ts ws := fun w h => hT w (by unfold va_wsS; exact List.mem_append_right _ h)
  have hc : Cond.codeWith y bytes maxL ret hh ∈ ws := by rw [hw]; exact List.mem_cons_self
  refine ⟨⟨hrc, hrs, hR.1, hR.2, pay_in ht hG, hc⟩, ht _ (hG _ hc).1, ok _ (by simp [va_wsS]), ⟨hd.1, hd.2.1⟩, fun sig h => ?_, ok _ (by simp [va_wsS]), ok _ (by simp [va_wsS])⟩
  have h2 := hd.2.2
  rw [h] at h2
  exact (Option.some.inj h2).symm
theorem vx_callSW (X : Stand p l e R s m args below meth c T locs cells slots) (hexec : p.tables.exec = Jvm.exec) {own : String} {index : Nat} {y : MethodName} {bytes : ByteArray} {maxL : Nat} {ret : Option FieldType} {hh : List (Nat × Nat × Nat × Nat)}
    (hown : s.vm.findClass own = some m.cls) (hlink : (Cond.methodLink own index y).before args s = true) (hstat : (Cond.static y).before args s = true) (hinit : (Cond.initialized y.cls).before args s = true)
    (hcode : (Cond.codeWith y bytes maxL ret hh).before args s = true) (hy : y.cls ≠ "java/lang/invoke/MethodHandle" ∧ y.cls ≠ "java/lang/invoke/VarHandle")
    {W9 : Nat} {Pre : Pt → Array Value → Prop} {Post : Pt → Array Value → Option Value → Pt → Prop} (hK : Back l R p e below s args y 3 W9 Pre Post)
    {g : JFrame} (hg : g.method = m) (hsize : g.locals.size = c.maxLocals) {argsL rest : List Value} (hlen : ∀ sig, parseMethodDescriptor y.desc = some sig → argsL.length = sig.parameters.length)
    (hstack : g.stack = argsL.reverse ++ rest) (hW : 2 * g.monitorRoom + (rest.map fun v => v.category).sum ≤ W9) (hdg : decode c.code g.pc = .ok (.invokestatic index, 3))
    (hpre : ∀ vm₁, s.WarmedH vm₁ → Pre ⟨T.setVm vm₁, locs, cells, slots⟩ argsL.toArray) :
    ∃ (v : Option Value) (vm₁ : Vm) (B : Pt), s.WarmedH vm₁ ∧ Stand p l e R s m args below meth c B.U B.locs B.cells B.slots ∧ Post ⟨T.setVm vm₁, locs, cells, slots⟩ argsL.toArray v B ∧
      ∀ target, Steps p.tables e below (B.U.setTop { g with pc := g.pc + 3, stack := v.toList ++ rest }) target → Steps p.tables e below (T.setTop g) target := by
  obtain ⟨mk, methM, cM, hnamed, hmethM, -, -, -, -, -, -, hsigM⟩ := Cond.codeWith_spec hcode
  have hstatic : methM.isStatic = true := Cond.static_spec hnamed hmethM hstat
  obtain ⟨kP, hkP, -⟩ := className_of_methodNamed hnamed
  have hinitP : kP.init = .initialized := Cond.initialized_spec (findClass_of_methodNamed hnamed) hkP hinit
  obtain ⟨vm₁, X₁, hstep₁⟩ := X.invokestatic hexec hown hlink hnamed hmethM hstatic hkP hinitP hy (g := g) hg (argsL := argsL) (rest := rest) (hlen _ hsigM) hstack hdg
  obtain ⟨v, B, X', hpost, hsteps⟩ := hK m meth c ⟨T.setVm vm₁, locs, cells, slots⟩ { g with stack := rest } (.invokestatic index) mk argsL.toArray X₁ hg hsize hdg hW (X₁.named hnamed) (hpre vm₁ X₁.warmed)
  exact ⟨v, vm₁, B, X₁.warmed, X', hpost, fun target h => hstep₁ _ fun acts => by rw [doInvoke_state]; exact hsteps.trans h⟩
theorem vx_runSW {y : MethodName} {bytes cc : ByteArray} {maxL nL mc ms n index : Nat} {ret : Option FieldType} {hh : List (Nat × Nat × Nat × Nat)} {ws : List Cond} {rm : Room} {Pc : Array Value → State → Prop} {Qc : Array Value → State → Outcome → State → Prop} {free : Addr → Prop} {Ts : List Cond} {own : String} {As rest : List Value} {g : JFrame}
    (S : CallFix p m c cc nL s args Ts own) (hM : Met l y ws rm Pc Qc mc ms free) (cw : vx_CSW R s args own index y bytes maxL ret hh ws rm mc ms n) (hp : PreS s H Pc As)
    (hg : g.method = m) (hn : As.length = n) (hsize : g.locals.size = nL) (hstack : g.stack = As.reverse ++ rest) (hW : 2 * g.monitorRoom + (rest.map fun v => v.category).sum ≤ 8) (hdg : decode cc g.pc = .ok (.invokestatic index, 3)) (hf : cells + mc ≤ R.cells ∧ slots + ms ≤ R.slots) :
    va_Run p l e R s m args below meth c H locs cells slots mc ms g rest (Qc As.toArray) (free) := by
  obtain ⟨⟨hrc, hrs, hfr, hlo, hws, hcw⟩, hcode, hini, hy, hlen, hl, hstt⟩ := cw
  have hK : Back l R p e below s args y 3 8 (PreOf R mc ms Pc) (PostOf Qc mc ms free) := va_backW (hh := hh) (bytes := bytes) (maxL := maxL) (ret := ret) hM hp.1 hrc hrs hfr hlo hws hcw (fun a' U hW => word_at hW (Or.inl (by first | rfl | simp [Cond.onTables, Cond.keeps, Cond.steady])) hini)
  obtain ⟨hx, hb, hml, ho, -⟩ := S
  intro T hT X
  obtain ⟨v, vm₁, ⟨U', l2, c2, s2⟩, hW₁, X', ⟨g', mk, t, L, e1, e2, hq, h1, hL, h2, h3⟩, st⟩ := vx_callSW X hx (hh := hh) (bytes := bytes) (maxL := maxL) (ret := ret) ho hl hstt hini hcode hy hK hg (hsize.trans hml.symm) (argsL := As) (rest := rest) (fun sig h => hn.trans (hlen sig h)) hstack hW (by rw [hb]; exact hdg)
    (fun vm₁ hW₁ => ⟨hf.1, hf.2, hp.2 (T.setVm vm₁) hT hW₁⟩)
  dsimp only [Pt.U, Pt.locs, Pt.cells, Pt.slots] at X' e1 e2 h1 h2 h3 st
  subst h1; subst h2; subst h3
  exact ⟨v, (T.setVm vm₁).calling g' mk As.toArray, t, U', L, hT, X', hL, e1, e2, hq, st⟩
/-- not caught here, past rows that name other classes: it goes on to the caller -/
theorem vx_outP {p : Program} {l : Launch} {e : Env} {R : Room} {s : State} {m : MethodId} {args : Array Value} {below : List Frame} {meth : Method} {c : Code} {H : Heap} {locs : List Loc} {cells slots : Nat} {free : Addr → Prop} {ls : Array Slot} {rest : List Value} {Qc : Array Value → State → Outcome → State → Prop} {XC : String → State → State → Prop}
    {pc : Nat} {own E : String} {ce : Cell} {q : Addr} {mc ms : Nat} (hown : s.vm.findClass own = some m.cls) (hlocks : meth.locks = false)
    (hpass : ∀ z ∈ c.exceptionTable.toList, covers z pc = false ∨ (z.catchType ≠ 0 ∧ ∃ nm : String, (Cond.classLink own z.catchType nm).before args s = true ∧ va_Nc E nm s)) (hcell : H[q]? = some ce) (hv : ce.vm = .none) (hcl : s.vm.findClass E = some ce.cls)
    (hx : ∀ t : State, t.heap = H → s.vm.Alike t.vm → XC E s t) (hf : ∀ z ∈ locs, free z.base) (hc : cells ≤ mc) (hs : slots ≤ ms) :
    vx_W p l e R s m args below meth c H locs cells slots (vx_MQ below Qc XC args s mc ms free) (F0 m pc ls rest) q := by
  intro T hT X
  have hpl : e.platform.magicAccessors = ({} : Platform).magicAccessors := by rw [X.admits.platform]
  obtain ⟨vm', hW', X', st⟩ := X.outThrough hlocks q (g := F0 m pc ls rest) rfl rfl rfl (cell := ce) (by rw [hT]; exact hcell) (by rw [hv]; rfl)
    (by obtain ⟨k9, h9, -⟩ := Vm.findClass_spec hcl; exact ⟨k9, h9⟩) (fun z hz => by
      rcases hpass z hz with h | ⟨hz0, nm, hl1, hn1⟩
      · exact Or.inl h
      · obtain ⟨c6, hc6, hcl6⟩ := Cond.classLink_spec hown hl1 e.platform hpl
        obtain ⟨a8, b8, h1, h2, h3⟩ := hn1
        cases Option.some.inj (h1.symm.trans hcl)
        cases Option.some.inj (h2.symm.trans hc6)
        exact Or.inr ⟨hz0, _, hcl6, h3⟩)
  obtain ⟨g₀, hfr⟩ := X'.frames_eq
  have hcell9 : ((T.setVm vm').setFrames (.throwing q :: below)).heap[q]? = some ce := by
    show T.heap[q]? = some ce
    rw [hT]; exact hcell
  have hend : Ended ((T.setVm vm').setFrames (.throwing q :: below)) below (.threw q) := State.frames_setFrames _ (State.cur_lt_of_frames hfr)
  refine ⟨(T.setVm vm').setFrames (.throwing q :: below), ?_, .threw q, X'.here.running, hend, Or.inr ⟨q, rfl, E, ce, locs, hx _ hT (X'.ends _).1.alike, hcell9, hv, hcl, (X'.ends _).1, (X'.ends _).2.mono hc hs, hf⟩⟩
  rw [X.pushThrowing_eq]
  exact st
/-- a thing of a world lies in the heap -/
theorem vx_lt {D : va_G} {cl : List vw_C} {ws : va_W} {H1 : Heap} (h : va_P D cl ws H1) {k : Nat} {q : Nat × va_E} (hk : ws[k]? = some q) : q.1 < H1.size := (h k q hk).lt
end VXS
/-! ===== END ===== -/
/-! ===== BEGIN methods with a table of their own: called by a name, returning or throwing ===== -/
section VXH
/-! vx_backW, vx_callVX, vx_callSX, vx_callVW, vx_runVW, vx_runVX, vx_runSX, vx_ofWH follow the same proofs as their sisters above (Free/Laws.lean, Shelf42/LK1.lean); vx_outP calls Shelf42/NT130.lean (outThrough). -/
section
variable {l : Launch} {R : Room} {p : Program} {e : Env} {below : List Frame} {s : State} {sargs : Array Value} {y : MethodName} {len W9 : Nat}
theorem vx_backW {ws : List Cond} {rm : Room} {Pc : Array Value → State → Prop} {Qc : Array Value → State → Outcome → State → Prop} {XC : String → State → State → Prop} {mc ms : Nat} {free : Addr → Prop} {bytes : ByteArray} {maxL : Nat} {ret : Option FieldType} {hh : List (Nat × Nat × Nat × Nat)}
    (hM : vx_Met l y ws rm Pc Qc XC mc ms free) (hblind : FrameBlind Pc) (hrc : rm.cells = mc) (hrs : rm.slots = ms)
    (hframes : rm.frames + 1 ≤ R.frames) (hlocals : W9 + (maxL + 11) + rm.locals ≤ R.locals)
    (hws : ∀ w ∈ ws, ∀ a' U, s.WarmedH U.vm → w.before a' U = true) (hcode : Cond.codeWith y bytes maxL ret hh ∈ ws) (hinit : ∀ a' U, s.WarmedH U.vm → (Cond.initialized y.cls).before a' U = true) :
    vx_Back l R p e below s sargs y len W9 (PreOf R mc ms Pc) (PostOf Qc mc ms free) (vx_Post XC mc ms free) := by
  intro m meth c A g ig mk a X hg hsize hdg hW hn hp
  have h1 : (headSpec ws rm).pre.before a A.U = true := atoms_intro fun w hw => hws w hw _ _ X.warmed
  have h2 : (Cond.codeWith y bytes maxL ret hh).before a A.U = true := hws _ hcode _ _ X.warmed
  have h3 : (Cond.initialized y.cls).before a A.U = true := hinit _ _ X.warmed
  have h4 : A.cells + (headSpec ws rm).room.cells ≤ R.cells := by rw [show (headSpec ws rm).room.cells = mc from hrc]; exact hp.1
  have h5 : A.slots + (headSpec ws rm).room.slots ≤ R.slots := by rw [show (headSpec ws rm).room.slots = ms from hrs]; exact hp.2.1
  have hPc : Pc a (A.U.calling g mk a) := hblind _ _ _ _ hp.2.2
  obtain ⟨U, Ls, c0, s0⟩ := A
  dsimp only [Pt.U, Pt.locs, Pt.cells, Pt.slots] at h1 h2 h3 h4 h5 X hn hPc ⊢
  obtain ⟨m9, methY, cY, hn9, hmY, hcY, -, hlY, -⟩ := Cond.codeWith_spec h2
  cases Option.some.inj (hn9.symm.trans hn)
  obtain ⟨kY, hkY, -⟩ := className_of_methodNamed hn
  have hinitY : kY.init = .initialized := Cond.initialized_spec (findClass_of_methodNamed hn) hkY h3
  have h : At U g.method c below := by rw [hg]; exact X.here
  have hlocals9 : W9 + (maxL + 11) + (headSpec ws rm).room.locals ≤ R.locals := hlocals
  have happ : (headSpec ws rm).appliesLoose y e.platform (U.calling g mk a) = true :=
    Spec.appliesLoose_calling (g := g) h hdg hn hkY hinitY
      (X.room_calling (g := g) (R' := (headSpec ws rm).room) hsize hmY hcY hframes (by rw [hlY]; omega) h4 h5) h1
  obtain ⟨mid, hmid⟩ := h.above
  have hfr : (U.setTop g).frames = (.java g :: mid) ++ below := by rw [State.frames_setTop' g h.top, hmid]; rfl
  obtain ⟨o, s₂, hsteps, -, hend, hq⟩ := Steps.callFree hM p X.admits X.cas X.clock (acts := []) hfr happ hPc trivial
  have hq' : vx_Q Qc XC mc ms free a (U.calling g mk a) o s₂ := hq
  rw [State.frames_setTop' g h.top] at hend
  obtain ⟨g₀, hg0⟩ := Option.isSome_iff_exists.mp h.top
  obtain ⟨r, hr⟩ := State.topJava?_eq_some.mp hg0
  have hr' : (({ U with heap := s₂.heap, slotsUsed := s₂.slotsUsed } : State).setVm s₂.vm).frames = .java g₀ :: r := hr
  rcases hq' with ⟨hqc, L, hfe, hL⟩ | ⟨q, rfl, E, ce, L, hx, hce, hcv, hcl, hW₂, hsm, hL⟩
  · obtain ⟨⟨v, rfl⟩, hW₂, e2, q2, q3, q4, q5, q6⟩ := id hfe
    have e3 : s₂ = ({ (U.calling g mk a).setFrames s₂.frames with heap := s₂.heap, slotsUsed := s₂.slotsUsed } : State).setVm s₂.vm := by
      have : s₂ = ({ s₂ with vm := (U.calling g mk a).vm } : State).setVm s₂.vm := rfl
      rw [e2] at this
      exact this
    obtain ⟨c₂, i₂, len₂, hc₂, hd₂, hf₂⟩ := hend
    have hW' : U.WarmedH s₂.vm := hW₂
    have hcc : c₂ = c := by
      have h1 : s₂.code? g.method = U.code? g.method := by
        rw [State.code?_eq, State.code?_eq, hW'.alike.method?]
      exact Option.some.inj (hc₂.symm.trans (h1.trans h.code))
    subst hcc
    have hlen : len₂ = len := by rw [hdg] at hd₂; cases hd₂; rfl
    subst hlen
    have hs₂ : s₂ = (({ U with heap := s₂.heap, slotsUsed := s₂.slotsUsed } : State).setVm s₂.vm).setTop { g with pc := g.pc + len₂, stack := v.toList ++ g.stack } := by
      refine e3.trans ?_
      rw [hf₂, State.calling_eq h.top, State.setFrames_setFrames, State.setTop_of_frames _ hr', hr]
      rfl
    have hsame : U.sameButNew ({ U with heap := s₂.heap, slotsUsed := s₂.slotsUsed } : State) L mc ms := by
      refine ⟨?_, q2, q3, q4, q5, q6⟩
      obtain ⟨t, ht, -⟩ := State.frames_cons hr
      show ({ U with heap := s₂.heap, slotsUsed := s₂.slotsUsed } : State) = { U.setFrames U.frames with heap := s₂.heap, slotsUsed := s₂.slotsUsed }
      rw [State.setFrames_self ht]
    subst hg
    refine Or.inl ⟨v, ⟨(({ U with heap := s₂.heap, slotsUsed := s₂.slotsUsed } : State).setVm s₂.vm), Ls ++ L, c0 + mc, s0 + ms⟩,
      ⟨X.admits, X.cas, X.clock, X.frames, X.room, X.hears, X.method, X.code, (X.here.setHeapUsed s₂.heap s₂.slotsUsed).setVm hW'.alike, X.tail, State.WarmedH.trans X.warmed hW', X.limits, X.bytes, X.same.trans (hsame.setVm s.vm)⟩,
      ⟨g, mk, s₂, L, rfl, rfl, hqc, rfl, hL, rfl, rfl⟩, ?_⟩
    show Steps p.tables e below _ ((({ U with heap := s₂.heap, slotsUsed := s₂.slotsUsed } : State).setVm s₂.vm).setTop { g with pc := g.pc + len₂, stack := v.toList ++ g.stack })
    rw [← hs₂]
    exact hsteps
  · obtain ⟨e2, q2, q3, q4, q5, q6⟩ := id hsm
    have e3 : s₂ = ({ (U.calling g mk a).setFrames s₂.frames with heap := s₂.heap, slotsUsed := s₂.slotsUsed } : State).setVm s₂.vm := by
      have : s₂ = ({ s₂ with vm := (U.calling g mk a).vm } : State).setVm s₂.vm := rfl
      rw [e2] at this
      exact this
    have hf₂ : s₂.frames = .throwing q :: .java g :: U.frames.tail := hend
    have hW' : U.WarmedH s₂.vm := hW₂
    have hs₂ : s₂ = ((({ U with heap := s₂.heap, slotsUsed := s₂.slotsUsed } : State).setVm s₂.vm).setTop g).pushFrame (.throwing q) := by
      refine e3.trans ?_
      rw [hf₂, State.calling_eq h.top, State.setFrames_setFrames, State.pushFrame, State.frames_setTop _ hr', State.setTop_of_frames _ hr', State.setFrames_setFrames, hr]
      rfl
    have hsame : U.sameButNew ({ U with heap := s₂.heap, slotsUsed := s₂.slotsUsed } : State) L mc ms := by
      refine ⟨?_, q2, q3, q4, q5, q6⟩
      obtain ⟨t, ht, -⟩ := State.frames_cons hr
      show ({ U with heap := s₂.heap, slotsUsed := s₂.slotsUsed } : State) = { U.setFrames U.frames with heap := s₂.heap, slotsUsed := s₂.slotsUsed }
      rw [State.setFrames_self ht]
    subst hg
    refine Or.inr ⟨q, ⟨(({ U with heap := s₂.heap, slotsUsed := s₂.slotsUsed } : State).setVm s₂.vm), Ls ++ L, c0 + mc, s0 + ms⟩,
      ⟨X.admits, X.cas, X.clock, X.frames, X.room, X.hears, X.method, X.code, (X.here.setHeapUsed s₂.heap s₂.slotsUsed).setVm hW'.alike, X.tail, State.WarmedH.trans X.warmed hW', X.limits, X.bytes, X.same.trans (hsame.setVm s.vm)⟩,
      ⟨g, mk, s₂, L, E, ce, rfl, rfl, hx, hce, hcv, hcl, rfl, hL, rfl, rfl⟩, ?_⟩
    show Steps p.tables e below _ (((({ U with heap := s₂.heap, slotsUsed := s₂.slotsUsed } : State).setVm s₂.vm).setTop g).pushFrame (.throwing q))
    rw [← hs₂]
    exact hsteps
end
variable {p : Program} {l : Launch} {e : Env} {R : Room} {s : State} {m : MethodId} {args : Array Value} {below : List Frame} {meth : Method} {c : Code} {T : State} {H : Heap} {locs : List Loc} {cells slots : Nat}
theorem vx_callVX (X : Stand p l e R s m args below meth c T locs cells slots) (hexec : p.tables.exec = Jvm.exec) {own C : String} {index : Nat} {y : MethodName} {bytes : ByteArray} {maxL : Nat} {ret : Option FieldType} {hh : List (Nat × Nat × Nat × Nat)}
    (hown : s.vm.findClass own = some m.cls) (hlink : (Cond.methodLink own index y).before args s = true) (hinst : (Cond.instanceMethod y).before args s = true) (hsel : (Cond.selects C y y).before args s = true)
    (hcode : (Cond.codeWith y bytes maxL ret hh).before args s = true) (hy : y.cls ≠ "java/lang/invoke/MethodHandle" ∧ y.cls ≠ "java/lang/invoke/VarHandle")
    {W9 : Nat} {Pre : Pt → Array Value → Prop} {Post : Pt → Array Value → Option Value → Pt → Prop} {PostX : Pt → Array Value → Addr → Pt → Prop} (hK : vx_Back l R p e below s args y 3 W9 Pre Post PostX)
    {b : Addr} {cellB : Cell} (hcell : T.heap[b]? = some cellB) (hobj : cellB.vm.isStatics = false) (hcls : s.vm.findClass C = some cellB.cls)
    {g : JFrame} (hg : g.method = m) (hsize : g.locals.size = c.maxLocals) {argsL rest : List Value} (hlen : ∀ sig, parseMethodDescriptor y.desc = some sig → argsL.length = sig.parameters.length)
    (hstack : g.stack = argsL.reverse ++ .ref b :: rest) (hW : 2 * g.monitorRoom + (rest.map fun v => v.category).sum ≤ W9) (hdg : decode c.code g.pc = .ok (.invokevirtual index, 3))
    (hpre : ∀ vm₁, s.WarmedH vm₁ → Pre ⟨T.setVm vm₁, locs, cells, slots⟩ (Value.ref b :: argsL).toArray) :
    (∃ (v : Option Value) (vm₁ : Vm) (B : Pt), s.WarmedH vm₁ ∧ Stand p l e R s m args below meth c B.U B.locs B.cells B.slots ∧ Post ⟨T.setVm vm₁, locs, cells, slots⟩ (Value.ref b :: argsL).toArray v B ∧
      ∀ target, Steps p.tables e below (B.U.setTop { g with pc := g.pc + 3, stack := v.toList ++ rest }) target → Steps p.tables e below (T.setTop g) target) ∨
    (∃ (q : Addr) (vm₁ : Vm) (B : Pt), s.WarmedH vm₁ ∧ Stand p l e R s m args below meth c B.U B.locs B.cells B.slots ∧ PostX ⟨T.setVm vm₁, locs, cells, slots⟩ (Value.ref b :: argsL).toArray q B ∧
      Steps p.tables e below (T.setTop g) ((B.U.setTop { g with stack := rest }).pushFrame (.throwing q))) := by
  obtain ⟨mk, methM, hnamed, hmethM, hstM, habM⟩ := Cond.instanceMethod_spec hinst
  obtain ⟨m8, methM', cM, hn8, hmethM', -, -, -, -, -, -, hsigM⟩ := Cond.codeWith_spec hcode
  cases Option.some.inj (hn8.symm.trans hnamed)
  cases hmethM.symm.trans hmethM'
  obtain ⟨c2, r2, m2, q1, q2, q3, q4, kP, hkP, hkPi⟩ := Cond.selects_spec hsel
  cases hcls.symm.trans q1
  cases (State.methodFound?_of_named hnamed hy).symm.trans q2
  cases hnamed.symm.trans q3
  have hselP : selectMethod e.platform s.vm cellB.cls mk = .method mk := by rw [Launch.admits_selectMethod X.admits]; exact q4
  obtain ⟨vm₁, X₁, hstep₁⟩ := X.invokevirtual hexec hown hlink hnamed hmethM hstM hkP hkPi hy (a := b) (cell := cellB) hcell
    (fun z h => by rw [h] at hobj; cases hobj) hselP hmethM habM hkP hkPi (g := g) hg (argsL := argsL) (rest := rest) (hlen _ hsigM) hstack hdg
  rcases hK m meth c ⟨T.setVm vm₁, locs, cells, slots⟩ { g with stack := rest } (.invokevirtual index) mk (Value.ref b :: argsL).toArray X₁ hg hsize hdg hW (X₁.named hnamed) (hpre vm₁ X₁.warmed) with ⟨v, B, X', hpost, hsteps⟩ | ⟨q, B, X', hpost, hsteps⟩
  · exact Or.inl ⟨v, vm₁, B, X₁.warmed, X', hpost, fun target h => hstep₁ _ fun acts => by rw [doInvoke_state]; exact hsteps.trans h⟩
  · exact Or.inr ⟨q, vm₁, B, X₁.warmed, X', hpost, hstep₁ _ fun acts => by rw [doInvoke_state]; exact hsteps⟩
theorem vx_callSX (X : Stand p l e R s m args below meth c T locs cells slots) (hexec : p.tables.exec = Jvm.exec) {own : String} {index : Nat} {y : MethodName} {bytes : ByteArray} {maxL : Nat} {ret : Option FieldType} {hh : List (Nat × Nat × Nat × Nat)}
    (hown : s.vm.findClass own = some m.cls) (hlink : (Cond.methodLink own index y).before args s = true) (hstat : (Cond.static y).before args s = true) (hinit : (Cond.initialized y.cls).before args s = true)
    (hcode : (Cond.codeWith y bytes maxL ret hh).before args s = true) (hy : y.cls ≠ "java/lang/invoke/MethodHandle" ∧ y.cls ≠ "java/lang/invoke/VarHandle")
    {W9 : Nat} {Pre : Pt → Array Value → Prop} {Post : Pt → Array Value → Option Value → Pt → Prop} {PostX : Pt → Array Value → Addr → Pt → Prop} (hK : vx_Back l R p e below s args y 3 W9 Pre Post PostX)
    {g : JFrame} (hg : g.method = m) (hsize : g.locals.size = c.maxLocals) {argsL rest : List Value} (hlen : ∀ sig, parseMethodDescriptor y.desc = some sig → argsL.length = sig.parameters.length)
    (hstack : g.stack = argsL.reverse ++ rest) (hW : 2 * g.monitorRoom + (rest.map fun v => v.category).sum ≤ W9) (hdg : decode c.code g.pc = .ok (.invokestatic index, 3))
    (hpre : ∀ vm₁, s.WarmedH vm₁ → Pre ⟨T.setVm vm₁, locs, cells, slots⟩ argsL.toArray) :
    (∃ (v : Option Value) (vm₁ : Vm) (B : Pt), s.WarmedH vm₁ ∧ Stand p l e R s m args below meth c B.U B.locs B.cells B.slots ∧ Post ⟨T.setVm vm₁, locs, cells, slots⟩ argsL.toArray v B ∧
      ∀ target, Steps p.tables e below (B.U.setTop { g with pc := g.pc + 3, stack := v.toList ++ rest }) target → Steps p.tables e below (T.setTop g) target) ∨
    (∃ (q : Addr) (vm₁ : Vm) (B : Pt), s.WarmedH vm₁ ∧ Stand p l e R s m args below meth c B.U B.locs B.cells B.slots ∧ PostX ⟨T.setVm vm₁, locs, cells, slots⟩ argsL.toArray q B ∧
      Steps p.tables e below (T.setTop g) ((B.U.setTop { g with stack := rest }).pushFrame (.throwing q))) := by
  obtain ⟨mk, methM, cM, hnamed, hmethM, -, -, -, -, -, -, hsigM⟩ := Cond.codeWith_spec hcode
  have hstatic : methM.isStatic = true := Cond.static_spec hnamed hmethM hstat
  obtain ⟨kP, hkP, -⟩ := className_of_methodNamed hnamed
  have hinitP : kP.init = .initialized := Cond.initialized_spec (findClass_of_methodNamed hnamed) hkP hinit
  obtain ⟨vm₁, X₁, hstep₁⟩ := X.invokestatic hexec hown hlink hnamed hmethM hstatic hkP hinitP hy (g := g) hg (argsL := argsL) (rest := rest) (hlen _ hsigM) hstack hdg
  rcases hK m meth c ⟨T.setVm vm₁, locs, cells, slots⟩ { g with stack := rest } (.invokestatic index) mk argsL.toArray X₁ hg hsize hdg hW (X₁.named hnamed) (hpre vm₁ X₁.warmed) with ⟨v, B, X', hpost, hsteps⟩ | ⟨q, B, X', hpost, hsteps⟩
  · exact Or.inl ⟨v, vm₁, B, X₁.warmed, X', hpost, fun target h => hstep₁ _ fun acts => by rw [doInvoke_state]; exact hsteps.trans h⟩
  · exact Or.inr ⟨q, vm₁, B, X₁.warmed, X', hpost, hstep₁ _ fun acts => by rw [doInvoke_state]; exact hsteps⟩
theorem vx_callVW (X : Stand p l e R s m args below meth c T locs cells slots) (hexec : p.tables.exec = Jvm.exec) {own C : String} {index : Nat} {y : MethodName} {bytes : ByteArray} {maxL : Nat} {ret : Option FieldType} {hh : List (Nat × Nat × Nat × Nat)}
    (hown : s.vm.findClass own = some m.cls) (hlink : (Cond.methodLink own index y).before args s = true) (hinst : (Cond.instanceMethod y).before args s = true) (hsel : (Cond.selects C y y).before args s = true)
    (hcode : (Cond.codeWith y bytes maxL ret hh).before args s = true) (hy : y.cls ≠ "java/lang/invoke/MethodHandle" ∧ y.cls ≠ "java/lang/invoke/VarHandle")
    {W9 : Nat} {Pre : Pt → Array Value → Prop} {Post : Pt → Array Value → Option Value → Pt → Prop} (hK : Back l R p e below s args y 3 W9 Pre Post)
    {b : Addr} {cellB : Cell} (hcell : T.heap[b]? = some cellB) (hobj : cellB.vm.isStatics = false) (hcls : s.vm.findClass C = some cellB.cls)
    {g : JFrame} (hg : g.method = m) (hsize : g.locals.size = c.maxLocals) {argsL rest : List Value} (hlen : ∀ sig, parseMethodDescriptor y.desc = some sig → argsL.length = sig.parameters.length)
    (hstack : g.stack = argsL.reverse ++ .ref b :: rest) (hW : 2 * g.monitorRoom + (rest.map fun v => v.category).sum ≤ W9) (hdg : decode c.code g.pc = .ok (.invokevirtual index, 3))
    (hpre : ∀ vm₁, s.WarmedH vm₁ → Pre ⟨T.setVm vm₁, locs, cells, slots⟩ (Value.ref b :: argsL).toArray) :
    ∃ (v : Option Value) (vm₁ : Vm) (B : Pt), s.WarmedH vm₁ ∧ Stand p l e R s m args below meth c B.U B.locs B.cells B.slots ∧ Post ⟨T.setVm vm₁, locs, cells, slots⟩ (Value.ref b :: argsL).toArray v B ∧
      ∀ target, Steps p.tables e below (B.U.setTop { g with pc := g.pc + 3, stack := v.toList ++ rest }) target → Steps p.tables e below (T.setTop g) target := by
  obtain ⟨mk, methM, hnamed, hmethM, hstM, habM⟩ := Cond.instanceMethod_spec hinst
  obtain ⟨m8, methM', cM, hn8, hmethM', -, -, -, -, -, -, hsigM⟩ := Cond.codeWith_spec hcode
  cases Option.some.inj (hn8.symm.trans hnamed)
  cases hmethM.symm.trans hmethM'
  obtain ⟨c2, r2, m2, q1, q2, q3, q4, kP, hkP, hkPi⟩ := Cond.selects_spec hsel
  cases hcls.symm.trans q1
  cases (State.methodFound?_of_named hnamed hy).symm.trans q2
  cases hnamed.symm.trans q3
  have hselP : selectMethod e.platform s.vm cellB.cls mk = .method mk := by rw [Launch.admits_selectMethod X.admits]; exact q4
  obtain ⟨vm₁, X₁, hstep₁⟩ := X.invokevirtual hexec hown hlink hnamed hmethM hstM hkP hkPi hy (a := b) (cell := cellB) hcell
    (fun z h => by rw [h] at hobj; cases hobj) hselP hmethM habM hkP hkPi (g := g) hg (argsL := argsL) (rest := rest) (hlen _ hsigM) hstack hdg
  obtain ⟨v, B, X', hpost, hsteps⟩ := hK m meth c ⟨T.setVm vm₁, locs, cells, slots⟩ { g with stack := rest } (.invokevirtual index) mk (Value.ref b :: argsL).toArray X₁ hg hsize hdg hW (X₁.named hnamed) (hpre vm₁ X₁.warmed)
  exact ⟨v, vm₁, B, X₁.warmed, X', hpost, fun target h => hstep₁ _ fun acts => by rw [doInvoke_state]; exact hsteps.trans h⟩
abbrev vx_CVW (R : Room) (s : State) (args : Array Value) (own C : String) (index : Nat) (y : MethodName) (bytes : ByteArray) (maxL : Nat) (ret : Option FieldType) (hh : List (Nat × Nat × Nat × Nat)) (ws : List Cond) (rm : Room) (mc ms n : Nat) : Prop :=
  (rm.cells = mc ∧ rm.slots = ms ∧ rm.frames + 1 ≤ R.frames ∧ 8 + (maxL + 11) + rm.locals ≤ R.locals ∧ (∀ w ∈ ws, ∀ (a' : Array Value) (U : State), s.WarmedH U.vm → w.before a' U = true) ∧ Cond.codeWith y bytes maxL ret hh ∈ ws) ∧
  (Cond.codeWith y bytes maxL ret hh).before args s = true ∧ (Cond.initialized y.cls).before args s = true ∧ (y.cls ≠ "java/lang/invoke/MethodHandle" ∧ y.cls ≠ "java/lang/invoke/VarHandle") ∧
  (∀ sig, parseMethodDescriptor y.desc = some sig → n = sig.parameters.length) ∧ (Cond.methodLink own index y).before args s = true ∧ (Cond.instanceMethod y).before args s = true ∧ (Cond.selects C y y).before args s = true
theorem vx_cwVW {own C : String} {index maxL mc ms : Nat} {y : MethodName} {bytes : ByteArray} {ret : Option FieldType} {hh : List (Nat × Nat × Nat × Nat)} {Ts ws ws' : List Cond} {rm : Room} (n : Nat) (ht : ∀ w ∈ Ts, w.before args s = true) (hT : GoodIn Ts (wsV own index C y ws)) (hw : ws = Cond.codeWith y bytes maxL ret hh :: ws') (hrc : rm.cells = mc) (hrs : rm.slots = ms)
    (hd : y.cls = C ∧ y.cls ≠ "java/lang/invoke/MethodHandle" ∧ y.cls ≠ "java/lang/invoke/VarHandle" ∧ (parseMethodDescriptor y.desc).map (fun d => d.parameters.length) = some n) (hR : rm.frames + 1 ≤ R.frames ∧ 8 + (maxL + 11) + rm.locals ≤ R.locals) :
    vx_CVW R s args own C index y bytes maxL ret hh ws rm mc ms n := by
  obtain ⟨hC, hd⟩ := hd
  subst hC
  have ok : ∀ w ∈ wsV own index y.cls y ws, w.before args s = true := fun w h => ht w (hT w h).1
  have hG : GoodIn Ts ws := fun w h => hT w (by unfold wsV; exact List.mem_append_right _ h)
  have hc : Cond.codeWith y bytes maxL ret hh ∈ ws := by rw [hw]; exact List.mem_cons_self
  refine ⟨⟨hrc, hrs, hR.1, hR.2, pay_in ht hG, hc⟩, ht _ (hG _ hc).1, ok _ (by simp [wsV]), ⟨hd.1, hd.2.1⟩, fun sig h => ?_, ok _ (by simp [wsV]), ok _ (by simp [wsV]), ok _ (by simp [wsV])⟩
  have h2 := hd.2.2
  rw [h] at h2
  exact (Option.some.inj h2).symm
theorem vx_runVW {y : MethodName} {bytes cc : ByteArray} {maxL nL mc ms n index : Nat} {ret : Option FieldType} {hh : List (Nat × Nat × Nat × Nat)} {ws : List Cond} {rm : Room} {Pc : Array Value → State → Prop} {Qc : Array Value → State → Outcome → State → Prop} {free : Addr → Prop} {Ts : List Cond} {own C : String} {b : Addr} {As rest : List Value} {g : JFrame}
    (S : CallFix p m c cc nL s args Ts own) (hM : Met l y ws rm Pc Qc mc ms free) (cw : vx_CVW R s args own C index y bytes maxL ret hh ws rm mc ms n) (hp : PreV s H C b Pc As)
    (hg : g.method = m) (hn : As.length = n) (hsize : g.locals.size = nL) (hstack : g.stack = As.reverse ++ .ref b :: rest) (hW : 2 * g.monitorRoom + (rest.map fun v => v.category).sum ≤ 8) (hdg : decode cc g.pc = .ok (.invokevirtual index, 3)) (hf : cells + mc ≤ R.cells ∧ slots + ms ≤ R.slots) :
    va_Run p l e R s m args below meth c H locs cells slots mc ms g rest (Qc (Value.ref b :: As).toArray) free := by
  obtain ⟨⟨hrc, hrs, hfr, hlo, hws, hcw⟩, hcode, hini, hy, hlen, hl, hin, hse⟩ := cw
  have hK : Back l R p e below s args y 3 8 (PreOf R mc ms Pc) (PostOf Qc mc ms free) := va_backW (hh := hh) (bytes := bytes) (maxL := maxL) (ret := ret) hM hp.1 hrc hrs hfr hlo hws hcw (fun a' U hW => word_at hW (Or.inl (by first | rfl | simp [Cond.onTables, Cond.keeps, Cond.steady])) hini)
  obtain ⟨hx, hb, hml, ho, -⟩ := S
  obtain ⟨-, ⟨cellB, hcB, hoB, hclB⟩, hPc⟩ := hp
  intro T hT X
  obtain ⟨v, vm₁, ⟨U', l2, c2, s2⟩, hW₁, X', ⟨g', mk, t, L, e1, e2, hq, h1, hL, h2, h3⟩, st⟩ := vx_callVW X hx (C := C) (hh := hh) (bytes := bytes) (maxL := maxL) (ret := ret) ho hl hin hse hcode hy hK (by rw [hT]; exact hcB) hoB hclB hg (hsize.trans hml.symm) (argsL := As) (rest := rest) (fun sig h => hn.trans (hlen sig h)) hstack hW (by rw [hb]; exact hdg)
    (fun vm₁ hW₁ => ⟨hf.1, hf.2, hPc (T.setVm vm₁) hT hW₁⟩)
  dsimp only [Pt.U, Pt.locs, Pt.cells, Pt.slots] at X' e1 e2 h1 h2 h3 st
  subst h1; subst h2; subst h3
  exact ⟨v, (T.setVm vm₁).calling g' mk (Value.ref b :: As).toArray, t, U', L, hT, X', hL, e1, e2, hq, st⟩
section
variable {y : MethodName} {bytes cc : ByteArray} {maxL nL mc ms n index : Nat} {ret : Option FieldType} {ws : List Cond} {rm : Room} {Pc : Array Value → State → Prop} {Qc : Array Value → State → Outcome → State → Prop} {XC : String → State → State → Prop} {free : Addr → Prop} {Ts : List Cond} {own C : String} {b : Addr} {As rest : List Value} {g : JFrame}
theorem vx_runVX {hh : List (Nat × Nat × Nat × Nat)} (S : CallFix p m c cc nL s args Ts own) (hM : vx_Met l y ws rm Pc Qc XC mc ms free) (cw : vx_CVW R s args own C index y bytes maxL ret hh ws rm mc ms n) (hp : PreV s H C b Pc As)
    (hg : g.method = m) (hn : As.length = n) (hsize : g.locals.size = nL) (hstack : g.stack = As.reverse ++ .ref b :: rest) (hW : 2 * g.monitorRoom + (rest.map fun v => v.category).sum ≤ 8) (hdg : decode cc g.pc = .ok (.invokevirtual index, 3)) (hf : cells + mc ≤ R.cells ∧ slots + ms ≤ R.slots) :
    vx_Run p l e R s m args below meth c H locs cells slots mc ms g rest (Qc (Value.ref b :: As).toArray) XC free := by
  obtain ⟨⟨hrc, hrs, hfr, hlo, hws, hcw⟩, hcode, hini, hy, hlen, hl, hin, hse⟩ := cw
  have hK : vx_Back l R p e below s args y 3 8 (PreOf R mc ms Pc) (PostOf Qc mc ms free) (vx_Post XC mc ms free) := vx_backW (hh := hh) (bytes := bytes) (maxL := maxL) (ret := ret) hM hp.1 hrc hrs hfr hlo hws hcw (fun a' U hW => word_at hW (Or.inl (by first | rfl | simp [Cond.onTables, Cond.keeps, Cond.steady])) hini)
  obtain ⟨hx, hb, hml, ho, -⟩ := S
  obtain ⟨-, ⟨cellB, hcB, hoB, hclB⟩, hPc⟩ := hp
  intro T hT X
  rcases vx_callVX X hx (C := C) (hh := hh) (bytes := bytes) (maxL := maxL) (ret := ret) ho hl hin hse hcode hy hK (by rw [hT]; exact hcB) hoB hclB hg (hsize.trans hml.symm) (argsL := As) (rest := rest) (fun sig h => hn.trans (hlen sig h)) hstack hW (by rw [hb]; exact hdg)
    (fun vm₁ hW₁ => ⟨hf.1, hf.2, hPc (T.setVm vm₁) hT hW₁⟩) with ⟨v, vm₁, ⟨U', l2, c2, s2⟩, hW₁, X', ⟨g', mk, t, L, e1, e2, hq, h1, hL, h2, h3⟩, st⟩ | ⟨q, vm₁, ⟨U', l2, c2, s2⟩, hW₁, X', ⟨g', mk, t, L, E, ce, e1, e2, hq, hce, hcv, hcl, h1, hL, h2, h3⟩, st⟩
  · dsimp only [Pt.U, Pt.locs, Pt.cells, Pt.slots] at X' e1 e2 h1 h2 h3 st
    subst h1; subst h2; subst h3
    exact Or.inl ⟨v, (T.setVm vm₁).calling g' mk (Value.ref b :: As).toArray, t, U', L, hT, X', hL, e1, e2, hq, st⟩
  · dsimp only [Pt.U, Pt.locs, Pt.cells, Pt.slots] at X' e1 e2 h1 h2 h3 st hcl
    subst h1; subst h2; subst h3
    exact Or.inr ⟨q, (T.setVm vm₁).calling g' mk (Value.ref b :: As).toArray, t, U', L, E, ce, hT, X', hL, e1, e2, hq, hce, hcv, vx_cls hW₁ hcl, st⟩
theorem vx_runSX {hh : List (Nat × Nat × Nat × Nat)} (S : CallFix p m c cc nL s args Ts own) (hM : vx_Met l y ws rm Pc Qc XC mc ms free) (cw : vx_CSW R s args own index y bytes maxL ret hh ws rm mc ms n) (hp : PreS s H Pc As)
    (hg : g.method = m) (hn : As.length = n) (hsize : g.locals.size = nL) (hstack : g.stack = As.reverse ++ rest) (hW : 2 * g.monitorRoom + (rest.map fun v => v.category).sum ≤ 8) (hdg : decode cc g.pc = .ok (.invokestatic index, 3)) (hf : cells + mc ≤ R.cells ∧ slots + ms ≤ R.slots) :
    vx_Run p l e R s m args below meth c H locs cells slots mc ms g rest (Qc As.toArray) XC free := by
  obtain ⟨⟨hrc, hrs, hfr, hlo, hws, hcw⟩, hcode, hini, hy, hlen, hl, hstt⟩ := cw
  have hK : vx_Back l R p e below s args y 3 8 (PreOf R mc ms Pc) (PostOf Qc mc ms free) (vx_Post XC mc ms free) := vx_backW (hh := hh) (bytes := bytes) (maxL := maxL) (ret := ret) hM hp.1 hrc hrs hfr hlo hws hcw (fun a' U hW => word_at hW (Or.inl (by first | rfl | simp [Cond.onTables, Cond.keeps, Cond.steady])) hini)
  obtain ⟨hx, hb, hml, ho, -⟩ := S
  intro T hT X
  rcases vx_callSX X hx (hh := hh) (bytes := bytes) (maxL := maxL) (ret := ret) ho hl hstt hini hcode hy hK hg (hsize.trans hml.symm) (argsL := As) (rest := rest) (fun sig h => hn.trans (hlen sig h)) hstack hW (by rw [hb]; exact hdg)
    (fun vm₁ hW₁ => ⟨hf.1, hf.2, hp.2 (T.setVm vm₁) hT hW₁⟩) with ⟨v, vm₁, ⟨U', l2, c2, s2⟩, hW₁, X', ⟨g', mk, t, L, e1, e2, hq, h1, hL, h2, h3⟩, st⟩ | ⟨q, vm₁, ⟨U', l2, c2, s2⟩, hW₁, X', ⟨g', mk, t, L, E, ce, e1, e2, hq, hce, hcv, hcl, h1, hL, h2, h3⟩, st⟩
  · dsimp only [Pt.U, Pt.locs, Pt.cells, Pt.slots] at X' e1 e2 h1 h2 h3 st
    subst h1; subst h2; subst h3
    exact Or.inl ⟨v, (T.setVm vm₁).calling g' mk As.toArray, t, U', L, hT, X', hL, e1, e2, hq, st⟩
  · dsimp only [Pt.U, Pt.locs, Pt.cells, Pt.slots] at X' e1 e2 h1 h2 h3 st hcl
    subst h1; subst h2; subst h3
    exact Or.inr ⟨q, (T.setVm vm₁).calling g' mk As.toArray, t, U', L, E, ce, hT, X', hL, e1, e2, hq, hce, hcv, vx_cls hW₁ hcl, st⟩
end
end VXH
theorem vx_ofWH {l : Launch} {y : MethodName} {ws ws' : List Cond} {rm : Room} {Pc : Array Value → State → Prop} {Qc : Array Value → State → Outcome → State → Prop} {XC : String → State → State → Prop} {mc ms : Nat} {free : Addr → Prop} {cc : ByteArray} {maxL : Nat} {ret : Option FieldType} {hh : List (Nat × Nat × Nat × Nat)}
    (hy : plainName y.cls = true) (hw : ws = Cond.codeWith y cc maxL ret hh :: ws')
    (body : ∀ p e s m args below meth c s₁, BodyLoose p l y (headSpec ws rm) cc maxL ret e s m args below meth c s₁ → c.maxLocals = maxL → Pc args s →
      W p l e (headSpec ws rm).room s m args below meth c s.heap [] 0 0 (vx_MQ below Qc XC args s mc ms free) (entryFrame m args maxL)) : vx_Met l y ws rm Pc Qc XC mc ms free := by
  refine MetFree.of_bodyS (code := cc) (maxLocals := maxL) (ret := ret) hy ?_ ?_
  · intro args s m h hn
    obtain ⟨m9, meth, c, hn9, h1, h2, h3, h4, -, h5, h6, -⟩ := Cond.codeWith_spec (atoms_spec (ws := ws) h _ (by rw [hw]; exact List.mem_cons_self))
    cases hn.symm.trans hn9
    exact ⟨meth, c, h1, h2, h3, h4, h5, h6⟩
  · intro p e s m args below meth c s₁ B hml hP _
    have hh0 : s₁.heap = s.heap := by rw [B.state]; rfl
    obtain ⟨t, a1, o, b1, b2, b3⟩ := body p e s m args below meth c s₁ B hml hP s₁ hh0 (Stand.of_body B)
    exact ⟨t, o, a1, b1, b2, b3⟩
/-! ===== END ===== -/
end
section
def RX0 : String := "Linkloom$Address"
def TX0 : u_T := fun k => match k with
  | 0 => ("Linkloom$Address", "whole", "LLinkloom$Text;", true)
  | 1 => ("Linkloom$Address", "begins", "[I", true)
  | 2 => ("Linkloom$Address", "ends", "[I", true)
  | 3 => ("Linkloom$Address", "portNumber", "I", false)
  | _ => ("Linkloom$Address", "isHeld", "Z", false)
def tyX0 : Nat → FieldType := fun k => match k with
  | 0 => .object "Linkloom$Text"
  | 1 => .array .int
  | 2 => .array .int
  | 3 => .int
  | _ => .boolean
theorem nmX0 : ∀ a, a < 5 → ∀ b, b < 5 → a ≠ b → (TX0 a).2.1 ≠ (TX0 b).2.1 := by decide +kernel
theorem tyX0_ok : ∀ k, k < 5 → parseFieldDescriptor (TX0 k).2.2.1 = some (tyX0 k) := by decide +kernel
abbrev cX0_init : ByteArray := prog_2_method_1_code
def yX0_init : MethodName := ⟨RX0, "<init>", "()V"⟩
abbrev cX0_whole : ByteArray := prog_2_method_2_code
def yX0_whole : MethodName := ⟨RX0, "whole", "()LLinkloom$Text;"⟩
abbrev cX0_isHeld : ByteArray := prog_2_method_3_code
def yX0_isHeld : MethodName := ⟨RX0, "isHeld", "()Z"⟩
abbrev cX0_portNumber : ByteArray := prog_2_method_4_code
def yX0_portNumber : MethodName := ⟨RX0, "portNumber", "()I"⟩
abbrev cX0_beginOf : ByteArray := prog_2_method_5_code
def yX0_beginOf : MethodName := ⟨RX0, "beginOf", "(I)I"⟩
abbrev cX0_endOf : ByteArray := prog_2_method_6_code
def yX0_endOf : MethodName := ⟨RX0, "endOf", "(I)I"⟩
abbrev cX0_has : ByteArray := prog_2_method_7_code
def yX0_has : MethodName := ⟨RX0, "has", "(I)Z"⟩
abbrev cX0_sizeOf : ByteArray := prog_2_method_8_code
def yX0_sizeOf : MethodName := ⟨RX0, "sizeOf", "(I)I"⟩
abbrev cX0_signOf : ByteArray := prog_2_method_9_code
def yX0_signOf : MethodName := ⟨RX0, "signOf", "(II)C"⟩
abbrev cX0_putPart : ByteArray := prog_2_method_10_code
def yX0_putPart : MethodName := ⟨RX0, "putPart", "(ILLinkloom$Text;)V"⟩
abbrev cX0_isWhole : ByteArray := prog_2_method_11_code
def yX0_isWhole : MethodName := ⟨RX0, "isWhole", "(LLinkloom$Text;)Z"⟩
abbrev cX0_isSkippingSlashes : ByteArray := prog_2_method_12_code
def yX0_isSkippingSlashes : MethodName := ⟨RX0, "isSkippingSlashes", "()Z"⟩
abbrev cX0_isWholeWithoutSlashes : ByteArray := prog_2_method_13_code
def yX0_isWholeWithoutSlashes : MethodName := ⟨RX0, "isWholeWithoutSlashes", "(LLinkloom$Text;)Z"⟩
abbrev cX0_partsAlike : ByteArray := prog_2_method_14_code
def yX0_partsAlike : MethodName := ⟨RX0, "partsAlike", "(LLinkloom$Address;)I"⟩
abbrev cX0_isPartAlike : ByteArray := prog_2_method_15_code
def yX0_isPartAlike : MethodName := ⟨RX0, "isPartAlike", "(LLinkloom$Address;I)Z"⟩
abbrev cX0_sumBehind : ByteArray := prog_2_method_16_code
def yX0_sumBehind : MethodName := ⟨RX0, "sumBehind", "(J)J"⟩
abbrev cX0_takeOver : ByteArray := prog_2_method_17_code
def yX0_takeOver : MethodName := ⟨RX0, "takeOver", "(LLinkloom$Address;)V"⟩
abbrev cX0_mark : ByteArray := prog_2_method_18_code
def yX0_mark : MethodName := ⟨RX0, "mark", "(III)V"⟩
abbrev cX0_forget : ByteArray := prog_2_method_19_code
def yX0_forget : MethodName := ⟨RX0, "forget", "()V"⟩
abbrev cX0_setPort : ByteArray := prog_2_method_20_code
def yX0_setPort : MethodName := ⟨RX0, "setPort", "(I)V"⟩
abbrev cX0_setHeld : ByteArray := prog_2_method_21_code
def yX0_setHeld : MethodName := ⟨RX0, "setHeld", "(Z)V"⟩
def RX1 : String := "Linkloom$Cutter"
def TX1 : u_T := fun k => match k with
  | 0 => ("Linkloom$Cutter", "address", "LLinkloom$Address;", true)
  | 1 => ("Linkloom$Cutter", "text", "LLinkloom$Text;", true)
  | _ => ("Linkloom$Cutter", "refused", "I", false)
def tyX1 : Nat → FieldType := fun k => match k with
  | 0 => .object "Linkloom$Address"
  | 1 => .object "Linkloom$Text"
  | _ => .int
theorem nmX1 : ∀ a, a < 3 → ∀ b, b < 3 → a ≠ b → (TX1 a).2.1 ≠ (TX1 b).2.1 := by decide +kernel
theorem tyX1_ok : ∀ k, k < 3 → parseFieldDescriptor (TX1 k).2.2.1 = some (tyX1 k) := by decide +kernel
abbrev cX1_init : ByteArray := prog_3_method_1_code
def yX1_init : MethodName := ⟨RX1, "<init>", "()V"⟩
abbrev cX1_address : ByteArray := prog_3_method_2_code
def yX1_address : MethodName := ⟨RX1, "address", "()LLinkloom$Address;"⟩
abbrev cX1_cut : ByteArray := prog_3_method_3_code
def yX1_cut : MethodName := ⟨RX1, "cut", "(LLinkloom$Text;)I"⟩
abbrev cX1_refuse : ByteArray := prog_3_method_4_code
def yX1_refuse : MethodName := ⟨RX1, "refuse", "(I)V"⟩
abbrev cX1_cutScheme : ByteArray := prog_3_method_5_code
def yX1_cutScheme : MethodName := ⟨RX1, "cutScheme", "(I)V"⟩
abbrev cX1_cutOpaque : ByteArray := prog_3_method_6_code
def yX1_cutOpaque : MethodName := ⟨RX1, "cutOpaque", "(I)I"⟩
abbrev cX1_cutAuthority : ByteArray := prog_3_method_7_code
def yX1_cutAuthority : MethodName := ⟨RX1, "cutAuthority", "(I)I"⟩
abbrev cX1_cutPathAndQuery : ByteArray := prog_3_method_8_code
def yX1_cutPathAndQuery : MethodName := ⟨RX1, "cutPathAndQuery", "(II)I"⟩
abbrev cX1_cutFragment : ByteArray := prog_3_method_9_code
def yX1_cutFragment : MethodName := ⟨RX1, "cutFragment", "(I)V"⟩
abbrev cX1_cutServer : ByteArray := prog_3_method_10_code
def yX1_cutServer : MethodName := ⟨RX1, "cutServer", "(II)V"⟩
abbrev cX1_cutPart : ByteArray := prog_3_method_11_code
def yX1_cutPart : MethodName := ⟨RX1, "cutPart", "(IILjava/lang/String;)I"⟩
def RX2 : String := "Linkloom$Grammar"
def TX2 : u_T := fun k => match k with
  | _ => ("", "", "", false)
def tyX2 : Nat → FieldType := fun k => match k with
  | _ => .int
theorem nmX2 : ∀ a, a < 0 → ∀ b, b < 0 → a ≠ b → (TX2 a).2.1 ≠ (TX2 b).2.1 := by decide +kernel
theorem tyX2_ok : ∀ k, k < 0 → parseFieldDescriptor (TX2 k).2.2.1 = some (tyX2 k) := by decide +kernel
abbrev cX2_isLetter : ByteArray := prog_4_method_2_code
def yX2_isLetter : MethodName := ⟨RX2, "isLetter", "(C)Z"⟩
abbrev cX2_isDigit : ByteArray := prog_4_method_3_code
def yX2_isDigit : MethodName := ⟨RX2, "isDigit", "(C)Z"⟩
abbrev cX2_isSlashed : ByteArray := prog_4_method_4_code
def yX2_isSlashed : MethodName := ⟨RX2, "isSlashed", "(LLinkloom$Text;I)Z"⟩
abbrev cX2_schemeColon : ByteArray := prog_4_method_5_code
def yX2_schemeColon : MethodName := ⟨RX2, "schemeColon", "(LLinkloom$Text;)I"⟩
abbrev cX2_wrongInScheme : ByteArray := prog_4_method_6_code
def yX2_wrongInScheme : MethodName := ⟨RX2, "wrongInScheme", "(LLinkloom$Text;I)I"⟩
abbrev cX2_isAuthorityBad : ByteArray := prog_4_method_7_code
def yX2_isAuthorityBad : MethodName := ⟨RX2, "isAuthorityBad", "(LLinkloom$Text;)Z"⟩
abbrev cX2_isName : ByteArray := prog_4_method_8_code
def yX2_isName : MethodName := ⟨RX2, "isName", "(LLinkloom$Text;II)Z"⟩
abbrev cX2_isLabel : ByteArray := prog_4_method_9_code
def yX2_isLabel : MethodName := ⟨RX2, "isLabel", "(LLinkloom$Text;II)Z"⟩
abbrev cX2_isFourNumbers : ByteArray := prog_4_method_10_code
def yX2_isFourNumbers : MethodName := ⟨RX2, "isFourNumbers", "(LLinkloom$Text;II)Z"⟩
abbrev cX2_isPort : ByteArray := prog_4_method_11_code
def yX2_isPort : MethodName := ⟨RX2, "isPort", "(LLinkloom$Text;II)Z"⟩
abbrev cX2_numberIn : ByteArray := prog_4_method_12_code
def yX2_numberIn : MethodName := ⟨RX2, "numberIn", "(LLinkloom$Text;III)I"⟩
def RX3 : String := "Linkloom$Text"
def TX3 : u_T := fun k => match k with
  | 0 => ("Linkloom$Text", "signs", "[C", true)
  | _ => ("Linkloom$Text", "count", "I", false)
def tyX3 : Nat → FieldType := fun k => match k with
  | 0 => .array .char
  | _ => .int
theorem nmX3 : ∀ a, a < 2 → ∀ b, b < 2 → a ≠ b → (TX3 a).2.1 ≠ (TX3 b).2.1 := by decide +kernel
theorem tyX3_ok : ∀ k, k < 2 → parseFieldDescriptor (TX3 k).2.2.1 = some (tyX3 k) := by decide +kernel
abbrev cX3_init : ByteArray := prog_5_method_1_code
def yX3_init : MethodName := ⟨RX3, "<init>", "()V"⟩
abbrev cX3_count : ByteArray := prog_5_method_2_code
def yX3_count : MethodName := ⟨RX3, "count", "()I"⟩
abbrev cX3_at : ByteArray := prog_5_method_3_code
def yX3_at : MethodName := ⟨RX3, "at", "(I)C"⟩
abbrev cX3_put : ByteArray := prog_5_method_4_code
def yX3_put : MethodName := ⟨RX3, "put", "(C)V"⟩
abbrev cX3_putAll : ByteArray := prog_5_method_5_code
def yX3_putAll : MethodName := ⟨RX3, "putAll", "(Ljava/lang/String;)V"⟩
abbrev cX3_putRange : ByteArray := prog_5_method_6_code
def yX3_putRange : MethodName := ⟨RX3, "putRange", "(LLinkloom$Text;II)V"⟩
abbrev cX3_shorten : ByteArray := prog_5_method_7_code
def yX3_shorten : MethodName := ⟨RX3, "shorten", "(I)V"⟩
abbrev cX3_takeOver : ByteArray := prog_5_method_8_code
def yX3_takeOver : MethodName := ⟨RX3, "takeOver", "(LLinkloom$Text;)V"⟩
abbrev cX3_next : ByteArray := prog_5_method_9_code
def yX3_next : MethodName := ⟨RX3, "next", "(Ljava/lang/String;II)I"⟩
abbrev cX3_isRange : ByteArray := prog_5_method_10_code
def yX3_isRange : MethodName := ⟨RX3, "isRange", "(IILLinkloom$Text;I)Z"⟩
def RX4 : String := "Linkloom"
def TX4 : u_T := fun k => match k with
  | 0 => ("Linkloom", "text", "LLinkloom$Text;", true)
  | 1 => ("Linkloom", "slots", "[LLinkloom$Address;", true)
  | 2 => ("Linkloom", "cutter", "LLinkloom$Cutter;", true)
  | 3 => ("Linkloom", "loom", "LLinkloom$Text;", true)
  | 4 => ("Linkloom", "refusalCount", "I", false)
  | _ => ("Linkloom", "refusedPlace", "I", false)
def tyX4 : Nat → FieldType := fun k => match k with
  | 0 => .object "Linkloom$Text"
  | 1 => .array (.object "Linkloom$Address")
  | 2 => .object "Linkloom$Cutter"
  | 3 => .object "Linkloom$Text"
  | 4 => .int
  | _ => .int
theorem nmX4 : ∀ a, a < 6 → ∀ b, b < 6 → a ≠ b → (TX4 a).2.1 ≠ (TX4 b).2.1 := by decide +kernel
theorem tyX4_ok : ∀ k, k < 6 → parseFieldDescriptor (TX4 k).2.2.1 = some (tyX4 k) := by decide +kernel
abbrev cX4_init : ByteArray := prog_1_method_1_code
def yX4_init : MethodName := ⟨RX4, "<init>", "()V"⟩
abbrev cX4_type : ByteArray := prog_1_method_2_code
def yX4_type : MethodName := ⟨RX4, "type", "(C)I"⟩
abbrev cX4_escape : ByteArray := prog_1_method_3_code
def yX4_escape : MethodName := ⟨RX4, "escape", "(IZ)I"⟩
abbrev cX4_word : ByteArray := prog_1_method_4_code
def yX4_word : MethodName := ⟨RX4, "word", "(I)I"⟩
abbrev cX4_drop : ByteArray := prog_1_method_5_code
def yX4_drop : MethodName := ⟨RX4, "drop", "()I"⟩
abbrev cX4_wipe : ByteArray := prog_1_method_6_code
def yX4_wipe : MethodName := ⟨RX4, "wipe", "()I"⟩
abbrev cX4_length : ByteArray := prog_1_method_7_code
def yX4_length : MethodName := ⟨RX4, "length", "()I"⟩
abbrev cX4_signAt : ByteArray := prog_1_method_8_code
def yX4_signAt : MethodName := ⟨RX4, "signAt", "(I)C"⟩
abbrev cX4_parse : ByteArray := prog_1_method_9_code
def yX4_parse : MethodName := ⟨RX4, "parse", "(I)I"⟩
abbrev cX4_refusals : ByteArray := prog_1_method_10_code
def yX4_refusals : MethodName := ⟨RX4, "refusals", "()I"⟩
abbrev cX4_refusedAt : ByteArray := prog_1_method_11_code
def yX4_refusedAt : MethodName := ⟨RX4, "refusedAt", "()I"⟩
abbrev cX4_isTold : ByteArray := prog_1_method_12_code
def yX4_isTold : MethodName := ⟨RX4, "isTold", "()Z"⟩
abbrev cX4_isThere : ByteArray := prog_1_method_13_code
def yX4_isThere : MethodName := ⟨RX4, "isThere", "(I)Z"⟩
abbrev cX4_isAbsolute : ByteArray := prog_1_method_14_code
def yX4_isAbsolute : MethodName := ⟨RX4, "isAbsolute", "(I)Z"⟩
abbrev cX4_isOpaque : ByteArray := prog_1_method_15_code
def yX4_isOpaque : MethodName := ⟨RX4, "isOpaque", "(I)Z"⟩
abbrev cX4_port : ByteArray := prog_1_method_16_code
def yX4_port : MethodName := ⟨RX4, "port", "(I)I"⟩
abbrev cX4_size : ByteArray := prog_1_method_17_code
def yX4_size : MethodName := ⟨RX4, "size", "(IC)I"⟩
abbrev cX4_partSign : ByteArray := prog_1_method_18_code
def yX4_partSign : MethodName := ⟨RX4, "partSign", "(ICI)C"⟩
abbrev cX4_begin : ByteArray := prog_1_method_19_code
def yX4_begin : MethodName := ⟨RX4, "begin", "(IC)I"⟩
abbrev cX4_append : ByteArray := prog_1_method_20_code
def yX4_append : MethodName := ⟨RX4, "append", "(IC)I"⟩
abbrev cX4_copy : ByteArray := prog_1_method_21_code
def yX4_copy : MethodName := ⟨RX4, "copy", "(II)I"⟩
abbrev cX4_alike : ByteArray := prog_1_method_22_code
def yX4_alike : MethodName := ⟨RX4, "alike", "(II)I"⟩
abbrev cX4_together : ByteArray := prog_1_method_23_code
def yX4_together : MethodName := ⟨RX4, "together", "(I)Z"⟩
abbrev cX4_mix : ByteArray := prog_1_method_24_code
def yX4_mix : MethodName := ⟨RX4, "mix", "(IIC)I"⟩
abbrev cX4_isTrue : ByteArray := prog_1_method_25_code
def yX4_isTrue : MethodName := ⟨RX4, "isTrue", "()Z"⟩
abbrev cX4_checksum : ByteArray := prog_1_method_26_code
def yX4_checksum : MethodName := ⟨RX4, "checksum", "()J"⟩
abbrev cX4_checkRoom : ByteArray := prog_1_method_27_code
def yX4_checkRoom : MethodName := ⟨RX4, "checkRoom", "(I)V"⟩
abbrev cX4_checkRefused : ByteArray := prog_1_method_28_code
def yX4_checkRefused : MethodName := ⟨RX4, "checkRefused", "()V"⟩
abbrev cX4_slotAt : ByteArray := prog_1_method_29_code
def yX4_slotAt : MethodName := ⟨RX4, "slotAt", "(I)LLinkloom$Address;"⟩
abbrev cX4_checkHeld : ByteArray := prog_1_method_30_code
def yX4_checkHeld : MethodName := ⟨RX4, "checkHeld", "(LLinkloom$Address;)V"⟩
abbrev cX4_addressAt : ByteArray := prog_1_method_31_code
def yX4_addressAt : MethodName := ⟨RX4, "addressAt", "(I)LLinkloom$Address;"⟩
abbrev cX4_partOf : ByteArray := prog_1_method_32_code
def yX4_partOf : MethodName := ⟨RX4, "partOf", "(C)I"⟩
abbrev cX4_weave : ByteArray := prog_1_method_33_code
def yX4_weave : MethodName := ⟨RX4, "weave", "(LLinkloom$Address;LLinkloom$Address;I)V"⟩
abbrev cX4_weavePart : ByteArray := prog_1_method_34_code
def yX4_weavePart : MethodName := ⟨RX4, "weavePart", "(Ljava/lang/String;LLinkloom$Address;ILjava/lang/String;)V"⟩
abbrev cX4_isSameAnew : ByteArray := prog_1_method_35_code
def yX4_isSameAnew : MethodName := ⟨RX4, "isSameAnew", "(LLinkloom$Address;)Z"⟩
abbrev cX4_isThreeParts : ByteArray := prog_1_method_36_code
def yX4_isThreeParts : MethodName := ⟨RX4, "isThreeParts", "(LLinkloom$Address;)Z"⟩
abbrev cX4_isWovenAgain : ByteArray := prog_1_method_37_code
def yX4_isWovenAgain : MethodName := ⟨RX4, "isWovenAgain", "(LLinkloom$Address;)Z"⟩
abbrev cX4_wordAt : ByteArray := prog_1_method_38_code
def yX4_wordAt : MethodName := ⟨RX4, "wordAt", "(I)Ljava/lang/String;"⟩
def RX5 : String := "LinkloomModel"
def TX5 : u_T := fun k => match k with
  | 0 => ("LinkloomModel", "text", "[I", true)
  | 1 => ("LinkloomModel", "size", "I", false)
  | 2 => ("LinkloomModel", "pieces", "[I", true)
  | 3 => ("LinkloomModel", "pieceMany", "I", false)
  | 4 => ("LinkloomModel", "signs", "[I", true)
  | 5 => ("LinkloomModel", "long_", "[I", true)
  | 6 => ("LinkloomModel", "from", "[I", true)
  | 7 => ("LinkloomModel", "to", "[I", true)
  | 8 => ("LinkloomModel", "ports", "[I", true)
  | 9 => ("LinkloomModel", "begin", "[I", true)
  | 10 => ("LinkloomModel", "end", "[I", true)
  | 11 => ("LinkloomModel", "port", "I", false)
  | 12 => ("LinkloomModel", "refused", "I", false)
  | 13 => ("LinkloomModel", "place", "I", false)
  | _ => ("LinkloomModel", "code", "I", false)
def tyX5 : Nat → FieldType := fun k => match k with
  | 0 => .array .int
  | 1 => .int
  | 2 => .array .int
  | 3 => .int
  | 4 => .array .int
  | 5 => .array .int
  | 6 => .array .int
  | 7 => .array .int
  | 8 => .array .int
  | 9 => .array .int
  | 10 => .array .int
  | 11 => .int
  | 12 => .int
  | 13 => .int
  | _ => .int
theorem nmX5 : ∀ a, a < 15 → ∀ b, b < 15 → a ≠ b → (TX5 a).2.1 ≠ (TX5 b).2.1 := by decide +kernel
theorem tyX5_ok : ∀ k, k < 15 → parseFieldDescriptor (TX5 k).2.2.1 = some (tyX5 k) := by decide +kernel
abbrev cX5_init : ByteArray := prog_7_method_1_code
def yX5_init : MethodName := ⟨RX5, "<init>", "()V"⟩
abbrev cX5_thrown : ByteArray := prog_7_method_2_code
def yX5_thrown : MethodName := ⟨RX5, "thrown", "()I"⟩
abbrev cX5_fails : ByteArray := prog_7_method_3_code
def yX5_fails : MethodName := ⟨RX5, "fails", "(I)Z"⟩
abbrev cX5_in : ByteArray := prog_7_method_4_code
def yX5_in : MethodName := ⟨RX5, "in", "(III)Z"⟩
abbrev cX5_isSlot : ByteArray := prog_7_method_5_code
def yX5_isSlot : MethodName := ⟨RX5, "isSlot", "(I)Z"⟩
abbrev cX5_partOf : ByteArray := prog_7_method_6_code
def yX5_partOf : MethodName := ⟨RX5, "partOf", "(C)I"⟩
abbrev cX5_isLetter : ByteArray := prog_7_method_7_code
def yX5_isLetter : MethodName := ⟨RX5, "isLetter", "(I)Z"⟩
abbrev cX5_isDigit : ByteArray := prog_7_method_8_code
def yX5_isDigit : MethodName := ⟨RX5, "isDigit", "(I)Z"⟩
abbrev cX5_isBad : ByteArray := prog_7_method_9_code
def yX5_isBad : MethodName := ⟨RX5, "isBad", "(I)Z"⟩
abbrev cX5_canType : ByteArray := prog_7_method_10_code
def yX5_canType : MethodName := ⟨RX5, "canType", "(I)Z"⟩
abbrev cX5_put : ByteArray := prog_7_method_11_code
def yX5_put : MethodName := ⟨RX5, "put", "([III)V"⟩
abbrev cX5_type : ByteArray := prog_7_method_12_code
def yX5_type : MethodName := ⟨RX5, "type", "(C)I"⟩
abbrev cX5_digit : ByteArray := prog_7_method_13_code
def yX5_digit : MethodName := ⟨RX5, "digit", "(IZ)I"⟩
abbrev cX5_escape : ByteArray := prog_7_method_14_code
def yX5_escape : MethodName := ⟨RX5, "escape", "(IZ)I"⟩
abbrev cX5_word : ByteArray := prog_7_method_15_code
def yX5_word : MethodName := ⟨RX5, "word", "(I)I"⟩
abbrev cX5_drop : ByteArray := prog_7_method_16_code
def yX5_drop : MethodName := ⟨RX5, "drop", "()I"⟩
abbrev cX5_wipe : ByteArray := prog_7_method_17_code
def yX5_wipe : MethodName := ⟨RX5, "wipe", "()I"⟩
abbrev cX5_length : ByteArray := prog_7_method_18_code
def yX5_length : MethodName := ⟨RX5, "length", "()I"⟩
abbrev cX5_signAt : ByteArray := prog_7_method_19_code
def yX5_signAt : MethodName := ⟨RX5, "signAt", "(I)C"⟩
abbrev cX5_next : ByteArray := prog_7_method_20_code
def yX5_next : MethodName := ⟨RX5, "next", "(ILjava/lang/String;)I"⟩
abbrev cX5_rest : ByteArray := prog_7_method_21_code
def yX5_rest : MethodName := ⟨RX5, "rest", "()I"⟩
abbrev cX5_isAt : ByteArray := prog_7_method_22_code
def yX5_isAt : MethodName := ⟨RX5, "isAt", "(II)Z"⟩
abbrev cX5_bad : ByteArray := prog_7_method_23_code
def yX5_bad : MethodName := ⟨RX5, "bad", "(II)I"⟩
abbrev cX5_slashes : ByteArray := prog_7_method_24_code
def yX5_slashes : MethodName := ⟨RX5, "slashes", "()I"⟩
abbrev cX5_cut : ByteArray := prog_7_method_25_code
def yX5_cut : MethodName := ⟨RX5, "cut", "(CII)V"⟩
abbrev cX5_parts : ByteArray := prog_7_method_26_code
def yX5_parts : MethodName := ⟨RX5, "parts", "()I"⟩
abbrev cX5_authority : ByteArray := prog_7_method_27_code
def yX5_authority : MethodName := ⟨RX5, "authority", "(II)V"⟩
abbrev cX5_isNumbers : ByteArray := prog_7_method_28_code
def yX5_isNumbers : MethodName := ⟨RX5, "isNumbers", "(II)Z"⟩
abbrev cX5_isLabels : ByteArray := prog_7_method_29_code
def yX5_isLabels : MethodName := ⟨RX5, "isLabels", "(II)Z"⟩
abbrev cX5_noSlot : ByteArray := prog_7_method_30_code
def yX5_noSlot : MethodName := ⟨RX5, "noSlot", "(I)I"⟩
abbrev cX5_parse : ByteArray := prog_7_method_31_code
def yX5_parse : MethodName := ⟨RX5, "parse", "(I)I"⟩
abbrev cX5_refusals : ByteArray := prog_7_method_32_code
def yX5_refusals : MethodName := ⟨RX5, "refusals", "()I"⟩
abbrev cX5_refusedAt : ByteArray := prog_7_method_33_code
def yX5_refusedAt : MethodName := ⟨RX5, "refusedAt", "()I"⟩
abbrev cX5_isTold : ByteArray := prog_7_method_34_code
def yX5_isTold : MethodName := ⟨RX5, "isTold", "()Z"⟩
abbrev cX5_isThere : ByteArray := prog_7_method_35_code
def yX5_isThere : MethodName := ⟨RX5, "isThere", "(I)Z"⟩
abbrev cX5_has : ByteArray := prog_7_method_36_code
def yX5_has : MethodName := ⟨RX5, "has", "(IC)Z"⟩
abbrev cX5_many : ByteArray := prog_7_method_37_code
def yX5_many : MethodName := ⟨RX5, "many", "(II)I"⟩
abbrev cX5_isAbsolute : ByteArray := prog_7_method_38_code
def yX5_isAbsolute : MethodName := ⟨RX5, "isAbsolute", "(I)Z"⟩
abbrev cX5_isOpaque : ByteArray := prog_7_method_39_code
def yX5_isOpaque : MethodName := ⟨RX5, "isOpaque", "(I)Z"⟩
abbrev cX5_port : ByteArray := prog_7_method_40_code
def yX5_port : MethodName := ⟨RX5, "port", "(I)I"⟩
abbrev cX5_noPart : ByteArray := prog_7_method_41_code
def yX5_noPart : MethodName := ⟨RX5, "noPart", "(IC)I"⟩
abbrev cX5_size : ByteArray := prog_7_method_42_code
def yX5_size : MethodName := ⟨RX5, "size", "(IC)I"⟩
abbrev cX5_partSign : ByteArray := prog_7_method_43_code
def yX5_partSign : MethodName := ⟨RX5, "partSign", "(ICI)C"⟩
abbrev cX5_begin : ByteArray := prog_7_method_44_code
def yX5_begin : MethodName := ⟨RX5, "begin", "(IC)I"⟩
abbrev cX5_append : ByteArray := prog_7_method_45_code
def yX5_append : MethodName := ⟨RX5, "append", "(IC)I"⟩
abbrev cX5_add : ByteArray := prog_7_method_46_code
def yX5_add : MethodName := ⟨RX5, "add", "(IC)V"⟩
abbrev cX5_copy : ByteArray := prog_7_method_47_code
def yX5_copy : MethodName := ⟨RX5, "copy", "(II)I"⟩
abbrev cX5_isAlike : ByteArray := prog_7_method_48_code
def yX5_isAlike : MethodName := ⟨RX5, "isAlike", "(III)Z"⟩
abbrev cX5_alike : ByteArray := prog_7_method_49_code
def yX5_alike : MethodName := ⟨RX5, "alike", "(II)I"⟩
abbrev cX5_sign : ByteArray := prog_7_method_50_code
def yX5_sign : MethodName := ⟨RX5, "sign", "(C)V"⟩
abbrev cX5_all : ByteArray := prog_7_method_51_code
def yX5_all : MethodName := ⟨RX5, "all", "(IIC)V"⟩
abbrev cX5_together : ByteArray := prog_7_method_52_code
def yX5_together : MethodName := ⟨RX5, "together", "(I)Z"⟩
abbrev cX5_taken : ByteArray := prog_7_method_53_code
def yX5_taken : MethodName := ⟨RX5, "taken", "(IC)I"⟩
abbrev cX5_mix : ByteArray := prog_7_method_54_code
def yX5_mix : MethodName := ⟨RX5, "mix", "(IIC)I"⟩
abbrev cX5_isTrue : ByteArray := prog_7_method_55_code
def yX5_isTrue : MethodName := ⟨RX5, "isTrue", "()Z"⟩
abbrev cX5_checksum : ByteArray := prog_7_method_56_code
def yX5_checksum : MethodName := ⟨RX5, "checksum", "()J"⟩
def RJx145de : String := "java/io/Serializable"
def TJx145de : u_T := fun k => match k with
  | _ => ("", "", "", false)
def tyJx145de : Nat → FieldType := fun k => match k with
  | _ => .int
theorem nmJx145de : ∀ a, a < 0 → ∀ b, b < 0 → a ≠ b → (TJx145de a).2.1 ≠ (TJx145de b).2.1 := by decide +kernel
theorem tyJx145de_ok : ∀ k, k < 0 → parseFieldDescriptor (TJx145de k).2.2.1 = some (tyJx145de k) := by decide +kernel
def RJx9f9b0 : String := "java/lang/CharSequence"
def TJx9f9b0 : u_T := fun k => match k with
  | _ => ("", "", "", false)
def tyJx9f9b0 : Nat → FieldType := fun k => match k with
  | _ => .int
theorem nmJx9f9b0 : ∀ a, a < 0 → ∀ b, b < 0 → a ≠ b → (TJx9f9b0 a).2.1 ≠ (TJx9f9b0 b).2.1 := by decide +kernel
theorem tyJx9f9b0_ok : ∀ k, k < 0 → parseFieldDescriptor (TJx9f9b0 k).2.2.1 = some (tyJx9f9b0 k) := by decide +kernel
def RJ11 : String := "java/lang/Character"
def TJ11 : u_T := fun k => match k with
  | _ => ("", "", "", false)
def tyJ11 : Nat → FieldType := fun k => match k with
  | _ => .int
theorem nmJ11 : ∀ a, a < 0 → ∀ b, b < 0 → a ≠ b → (TJ11 a).2.1 ≠ (TJ11 b).2.1 := by decide +kernel
theorem tyJ11_ok : ∀ k, k < 0 → parseFieldDescriptor (TJ11 k).2.2.1 = some (tyJ11 k) := by decide +kernel
abbrev cJ11_isValidCodePoint_9a6ad : ByteArray := prog_10_method_11_code
def yJ11_isValidCodePoint_9a6ad : MethodName := ⟨RJ11, "isValidCodePoint", "(I)Z"⟩
abbrev cJ11_highSurrogate_5068e : ByteArray := prog_10_method_28_code
def yJ11_highSurrogate_5068e : MethodName := ⟨RJ11, "highSurrogate", "(I)C"⟩
abbrev cJ11_lowSurrogate_5068e : ByteArray := prog_10_method_29_code
def yJ11_lowSurrogate_5068e : MethodName := ⟨RJ11, "lowSurrogate", "(I)C"⟩
def RJxb160c : String := "java/lang/Comparable"
def TJxb160c : u_T := fun k => match k with
  | _ => ("", "", "", false)
def tyJxb160c : Nat → FieldType := fun k => match k with
  | _ => .int
theorem nmJxb160c : ∀ a, a < 0 → ∀ b, b < 0 → a ≠ b → (TJxb160c a).2.1 ≠ (TJxb160c b).2.1 := by decide +kernel
theorem tyJxb160c_ok : ∀ k, k < 0 → parseFieldDescriptor (TJxb160c k).2.2.1 = some (tyJxb160c k) := by decide +kernel
def RJ9 : String := "java/lang/Math"
def TJ9 : u_T := fun k => match k with
  | _ => ("", "", "", false)
def tyJ9 : Nat → FieldType := fun k => match k with
  | _ => .int
theorem nmJ9 : ∀ a, a < 0 → ∀ b, b < 0 → a ≠ b → (TJ9 a).2.1 ≠ (TJ9 b).2.1 := by decide +kernel
theorem tyJ9_ok : ∀ k, k < 0 → parseFieldDescriptor (TJ9 k).2.2.1 = some (tyJ9 k) := by decide +kernel
abbrev cJ9_max_7cf53 : ByteArray := prog_16_method_65_code
def yJ9_max_7cf53 : MethodName := ⟨RJ9, "max", "(II)I"⟩
abbrev cJ9_min_7cf53 : ByteArray := prog_16_method_69_code
def yJ9_min_7cf53 : MethodName := ⟨RJ9, "min", "(II)I"⟩
def RJ0 : String := "java/lang/String"
def TJ0 : u_T := fun k => match k with
  | _ => ("", "", "", false)
def tyJ0 : Nat → FieldType := fun k => match k with
  | _ => .int
theorem nmJ0 : ∀ a, a < 0 → ∀ b, b < 0 → a ≠ b → (TJ0 a).2.1 ≠ (TJ0 b).2.1 := by decide +kernel
theorem tyJ0_ok : ∀ k, k < 0 → parseFieldDescriptor (TJ0 k).2.2.1 = some (tyJ0 k) := by decide +kernel
abbrev cJ0_length_8abf5 : ByteArray := prog_18_method_54_code
def yJ0_length_8abf5 : MethodName := ⟨RJ0, "length", "()I"⟩
abbrev cJ0_charAt_5068e : ByteArray := prog_18_method_56_code
def yJ0_charAt_5068e : MethodName := ⟨RJ0, "charAt", "(I)C"⟩
abbrev cJ0_indexOf_0f7a4 : ByteArray := prog_18_method_79_code
def yJ0_indexOf_0f7a4 : MethodName := ⟨RJ0, "indexOf", "(I)I"⟩
abbrev cJ0_indexOf_7cf53 : ByteArray := prog_18_method_80_code
def yJ0_indexOf_7cf53 : MethodName := ⟨RJ0, "indexOf", "(II)I"⟩
abbrev cJ0_coder_7d493 : ByteArray := prog_18_method_152_code
def yJ0_coder_7d493 : MethodName := ⟨RJ0, "coder", "()B"⟩
abbrev cJ0_isLatin1_aae02 : ByteArray := prog_18_method_154_code
def yJ0_isLatin1_aae02 : MethodName := ⟨RJ0, "isLatin1", "()Z"⟩
abbrev cJ0_checkIndex_df160 : ByteArray := prog_18_method_155_code
def yJ0_checkIndex_df160 : MethodName := ⟨RJ0, "checkIndex", "(II)V"⟩
abbrev cJ0_checkBoundsBeginEnd_23922 : ByteArray := prog_18_method_158_code
def yJ0_checkBoundsBeginEnd_23922 : MethodName := ⟨RJ0, "checkBoundsBeginEnd", "(III)V"⟩
def RJ1 : String := "java/lang/StringLatin1"
def TJ1 : u_T := fun k => match k with
  | _ => ("", "", "", false)
def tyJ1 : Nat → FieldType := fun k => match k with
  | _ => .int
theorem nmJ1 : ∀ a, a < 0 → ∀ b, b < 0 → a ≠ b → (TJ1 a).2.1 ≠ (TJ1 b).2.1 := by decide +kernel
theorem tyJ1_ok : ∀ k, k < 0 → parseFieldDescriptor (TJ1 k).2.2.1 = some (tyJ1 k) := by decide +kernel
abbrev cJ1_charAt_3b067 : ByteArray := prog_19_method_2_code
def yJ1_charAt_3b067 : MethodName := ⟨RJ1, "charAt", "([BI)C"⟩
abbrev cJ1_canEncode_9a6ad : ByteArray := prog_19_method_4_code
def yJ1_canEncode_9a6ad : MethodName := ⟨RJ1, "canEncode", "(I)Z"⟩
abbrev cJ1_indexOf_4cfef : ByteArray := prog_19_method_22_code
def yJ1_indexOf_4cfef : MethodName := ⟨RJ1, "indexOf", "([BIII)I"⟩
abbrev cJ1_indexOfChar_4cfef : ByteArray := prog_19_method_23_code
def yJ1_indexOfChar_4cfef : MethodName := ⟨RJ1, "indexOfChar", "([BIII)I"⟩
def RJ2 : String := "java/lang/StringUTF16"
def TJ2 : u_T := fun k => match k with
  | _ => ("", "", "", false)
def tyJ2 : Nat → FieldType := fun k => match k with
  | _ => .int
theorem nmJ2 : ∀ a, a < 0 → ∀ b, b < 0 → a ≠ b → (TJ2 a).2.1 ≠ (TJ2 b).2.1 := by decide +kernel
theorem tyJ2_ok : ∀ k, k < 0 → parseFieldDescriptor (TJ2 k).2.2.1 = some (tyJ2 k) := by decide +kernel
abbrev cJ2_getChar_3b067 : ByteArray := prog_20_method_5_code
def yJ2_getChar_3b067 : MethodName := ⟨RJ2, "getChar", "([BI)C"⟩
abbrev cJ2_length_9d52b : ByteArray := prog_20_method_6_code
def yJ2_length_9d52b : MethodName := ⟨RJ2, "length", "([B)I"⟩
abbrev cJ2_indexOf_4cfef : ByteArray := prog_20_method_40_code
def yJ2_indexOf_4cfef : MethodName := ⟨RJ2, "indexOf", "([BIII)I"⟩
abbrev cJ2_indexOfChar_4cfef : ByteArray := prog_20_method_47_code
def yJ2_indexOfChar_4cfef : MethodName := ⟨RJ2, "indexOfChar", "([BIII)I"⟩
abbrev cJ2_indexOfCharUnsafe_4cfef : ByteArray := prog_20_method_48_code
def yJ2_indexOfCharUnsafe_4cfef : MethodName := ⟨RJ2, "indexOfCharUnsafe", "([BIII)I"⟩
abbrev cJ2_indexOfSupplementary_4cfef : ByteArray := prog_20_method_49_code
def yJ2_indexOfSupplementary_4cfef : MethodName := ⟨RJ2, "indexOfSupplementary", "([BIII)I"⟩
abbrev cJ2_charAt_3b067 : ByteArray := prog_20_method_83_code
def yJ2_charAt_3b067 : MethodName := ⟨RJ2, "charAt", "([BI)C"⟩
abbrev cJ2_checkIndex_2214a : ByteArray := prog_20_method_91_code
def yJ2_checkIndex_2214a : MethodName := ⟨RJ2, "checkIndex", "(I[B)V"⟩
abbrev cJ2_checkBoundsBeginEnd_d044e : ByteArray := prog_20_method_93_code
def yJ2_checkBoundsBeginEnd_d044e : MethodName := ⟨RJ2, "checkBoundsBeginEnd", "(II[B)V"⟩
def RJxfd54e : String := "java/lang/constant/Constable"
def TJxfd54e : u_T := fun k => match k with
  | _ => ("", "", "", false)
def tyJxfd54e : Nat → FieldType := fun k => match k with
  | _ => .int
theorem nmJxfd54e : ∀ a, a < 0 → ∀ b, b < 0 → a ≠ b → (TJxfd54e a).2.1 ≠ (TJxfd54e b).2.1 := by decide +kernel
theorem tyJxfd54e_ok : ∀ k, k < 0 → parseFieldDescriptor (TJxfd54e k).2.2.1 = some (tyJxfd54e k) := by decide +kernel
def RJx3cf43 : String := "java/lang/constant/ConstantDesc"
def TJx3cf43 : u_T := fun k => match k with
  | _ => ("", "", "", false)
def tyJx3cf43 : Nat → FieldType := fun k => match k with
  | _ => .int
theorem nmJx3cf43 : ∀ a, a < 0 → ∀ b, b < 0 → a ≠ b → (TJx3cf43 a).2.1 ≠ (TJx3cf43 b).2.1 := by decide +kernel
theorem tyJx3cf43_ok : ∀ k, k < 0 → parseFieldDescriptor (TJx3cf43 k).2.2.1 = some (tyJx3cf43 k) := by decide +kernel
def RJ3 : String := "jdk/internal/util/Preconditions"
def TJ3 : u_T := fun k => match k with
  | _ => ("", "", "", false)
def tyJ3 : Nat → FieldType := fun k => match k with
  | _ => .int
theorem nmJ3 : ∀ a, a < 0 → ∀ b, b < 0 → a ≠ b → (TJ3 a).2.1 ≠ (TJ3 b).2.1 := by decide +kernel
theorem tyJ3_ok : ∀ k, k < 0 → parseFieldDescriptor (TJ3 k).2.2.1 = some (tyJ3 k) := by decide +kernel
abbrev cJ3_checkIndex_8e157 : ByteArray := prog_26_method_11_code
def yJ3_checkIndex_8e157 : MethodName := ⟨RJ3, "checkIndex", "(IILjava/util/function/BiFunction;)I"⟩
abbrev cJ3_checkFromToIndex_8c36e : ByteArray := prog_26_method_12_code
def yJ3_checkFromToIndex_8c36e : MethodName := ⟨RJ3, "checkFromToIndex", "(IIILjava/util/function/BiFunction;)I"⟩
def RL : String := "LinkloomLaw"
abbrev cL_type : ByteArray := method_3_code
def yL_type : MethodName := ⟨RL, "type", "(LLinkloom;C[J)I"⟩
abbrev cL_escape : ByteArray := method_4_code
def yL_escape : MethodName := ⟨RL, "escape", "(LLinkloom;IZ[J)I"⟩
abbrev cL_word : ByteArray := method_5_code
def yL_word : MethodName := ⟨RL, "word", "(LLinkloom;I[J)I"⟩
abbrev cL_drop : ByteArray := method_6_code
def yL_drop : MethodName := ⟨RL, "drop", "(LLinkloom;[J)I"⟩
abbrev cL_signAt : ByteArray := method_7_code
def yL_signAt : MethodName := ⟨RL, "signAt", "(LLinkloom;I[J)I"⟩
abbrev cL_parse : ByteArray := method_8_code
def yL_parse : MethodName := ⟨RL, "parse", "(LLinkloom;I[J)I"⟩
abbrev cL_refusedAt : ByteArray := method_9_code
def yL_refusedAt : MethodName := ⟨RL, "refusedAt", "(LLinkloom;[J)I"⟩
abbrev cL_isTold : ByteArray := method_10_code
def yL_isTold : MethodName := ⟨RL, "isTold", "(LLinkloom;[J)I"⟩
abbrev cL_isThere : ByteArray := method_11_code
def yL_isThere : MethodName := ⟨RL, "isThere", "(LLinkloom;I[J)I"⟩
abbrev cL_isAbsolute : ByteArray := method_12_code
def yL_isAbsolute : MethodName := ⟨RL, "isAbsolute", "(LLinkloom;I[J)I"⟩
abbrev cL_isOpaque : ByteArray := method_13_code
def yL_isOpaque : MethodName := ⟨RL, "isOpaque", "(LLinkloom;I[J)I"⟩
abbrev cL_port : ByteArray := method_14_code
def yL_port : MethodName := ⟨RL, "port", "(LLinkloom;I[J)I"⟩
abbrev cL_size : ByteArray := method_15_code
def yL_size : MethodName := ⟨RL, "size", "(LLinkloom;IC[J)I"⟩
abbrev cL_partSign : ByteArray := method_16_code
def yL_partSign : MethodName := ⟨RL, "partSign", "(LLinkloom;ICI[J)I"⟩
abbrev cL_begin : ByteArray := method_17_code
def yL_begin : MethodName := ⟨RL, "begin", "(LLinkloom;IC[J)I"⟩
abbrev cL_append : ByteArray := method_18_code
def yL_append : MethodName := ⟨RL, "append", "(LLinkloom;IC[J)I"⟩
abbrev cL_copy : ByteArray := method_19_code
def yL_copy : MethodName := ⟨RL, "copy", "(LLinkloom;II[J)I"⟩
abbrev cL_alike : ByteArray := method_20_code
def yL_alike : MethodName := ⟨RL, "alike", "(LLinkloom;II[J)I"⟩
abbrev cL_together : ByteArray := method_21_code
def yL_together : MethodName := ⟨RL, "together", "(LLinkloom;I[J)I"⟩
abbrev cL_mix : ByteArray := method_22_code
def yL_mix : MethodName := ⟨RL, "mix", "(LLinkloom;IIC[J)I"⟩
abbrev cL_law : ByteArray := code
def yL_law : MethodName := ⟨RL, "law", "([I)Z"⟩
abbrev vwCl : List vw_C := [(RX0, TX0, 5), (RX1, TX1, 3), (RX3, TX3, 2), (RX4, TX4, 6), (RX5, TX5, 15)]
end
section
theorem dX0_init_0 : decode cX0_init 0 = .ok (.aload_n 0, 1) := by decide +kernel
theorem dX0_init_1 : decode cX0_init 1 = .ok (.invokespecial 3, 3) := by decide +kernel
theorem dX0_init_4 : decode cX0_init 4 = .ok (.aload_n 0, 1) := by decide +kernel
theorem dX0_init_5 : decode cX0_init 5 = .ok (.new 9, 3) := by decide +kernel
theorem dX0_init_8 : decode cX0_init 8 = .ok (.dup, 1) := by decide +kernel
theorem dX0_init_9 : decode cX0_init 9 = .ok (.invokespecial 11, 3) := by decide +kernel
theorem dX0_init_12 : decode cX0_init 12 = .ok (.putfield 12, 3) := by decide +kernel
theorem dX0_init_15 : decode cX0_init 15 = .ok (.aload_n 0, 1) := by decide +kernel
theorem dX0_init_16 : decode cX0_init 16 = .ok (.bipush 9, 2) := by decide +kernel
theorem dX0_init_18 : decode cX0_init 18 = .ok (.newarray .int, 2) := by decide +kernel
theorem dX0_init_20 : decode cX0_init 20 = .ok (.putfield 18, 3) := by decide +kernel
theorem dX0_init_23 : decode cX0_init 23 = .ok (.aload_n 0, 1) := by decide +kernel
theorem dX0_init_24 : decode cX0_init 24 = .ok (.bipush 9, 2) := by decide +kernel
theorem dX0_init_26 : decode cX0_init 26 = .ok (.newarray .int, 2) := by decide +kernel
theorem dX0_init_28 : decode cX0_init 28 = .ok (.putfield 22, 3) := by decide +kernel
theorem dX0_init_31 : decode cX0_init 31 = .ok (.aload_n 0, 1) := by decide +kernel
theorem dX0_init_32 : decode cX0_init 32 = .ok (.invokevirtual 25, 3) := by decide +kernel
theorem dX0_init_35 : decode cX0_init 35 = .ok (.return_, 1) := by decide +kernel
theorem dX0_whole_0 : decode cX0_whole 0 = .ok (.aload_n 0, 1) := by decide +kernel
theorem dX0_whole_1 : decode cX0_whole 1 = .ok (.getfield 12, 3) := by decide +kernel
theorem dX0_whole_4 : decode cX0_whole 4 = .ok (.areturn, 1) := by decide +kernel
theorem dX0_isHeld_0 : decode cX0_isHeld 0 = .ok (.aload_n 0, 1) := by decide +kernel
theorem dX0_isHeld_1 : decode cX0_isHeld 1 = .ok (.getfield 28, 3) := by decide +kernel
theorem dX0_isHeld_4 : decode cX0_isHeld 4 = .ok (.ireturn, 1) := by decide +kernel
theorem dX0_portNumber_0 : decode cX0_portNumber 0 = .ok (.aload_n 0, 1) := by decide +kernel
theorem dX0_portNumber_1 : decode cX0_portNumber 1 = .ok (.getfield 32, 3) := by decide +kernel
theorem dX0_portNumber_4 : decode cX0_portNumber 4 = .ok (.ireturn, 1) := by decide +kernel
theorem dX0_beginOf_0 : decode cX0_beginOf 0 = .ok (.iload_n 1, 1) := by decide +kernel
theorem dX0_beginOf_1 : decode cX0_beginOf 1 = .ok (.ifCond .lt 21, 3) := by decide +kernel
theorem dX0_beginOf_4 : decode cX0_beginOf 4 = .ok (.iload_n 1, 1) := by decide +kernel
theorem dX0_beginOf_5 : decode cX0_beginOf 5 = .ok (.aload_n 0, 1) := by decide +kernel
theorem dX0_beginOf_6 : decode cX0_beginOf 6 = .ok (.getfield 18, 3) := by decide +kernel
theorem dX0_beginOf_9 : decode cX0_beginOf 9 = .ok (.arraylength, 1) := by decide +kernel
theorem dX0_beginOf_10 : decode cX0_beginOf 10 = .ok (.if_icmp .ge 12, 3) := by decide +kernel
theorem dX0_beginOf_13 : decode cX0_beginOf 13 = .ok (.aload_n 0, 1) := by decide +kernel
theorem dX0_beginOf_14 : decode cX0_beginOf 14 = .ok (.getfield 18, 3) := by decide +kernel
theorem dX0_beginOf_17 : decode cX0_beginOf 17 = .ok (.iload_n 1, 1) := by decide +kernel
theorem dX0_beginOf_18 : decode cX0_beginOf 18 = .ok (.iaload, 1) := by decide +kernel
theorem dX0_beginOf_19 : decode cX0_beginOf 19 = .ok (.goto 4, 3) := by decide +kernel
theorem dX0_beginOf_22 : decode cX0_beginOf 22 = .ok (.iconst (-1), 1) := by decide +kernel
theorem dX0_beginOf_23 : decode cX0_beginOf 23 = .ok (.ireturn, 1) := by decide +kernel
theorem dX0_endOf_0 : decode cX0_endOf 0 = .ok (.iload_n 1, 1) := by decide +kernel
theorem dX0_endOf_1 : decode cX0_endOf 1 = .ok (.ifCond .lt 21, 3) := by decide +kernel
theorem dX0_endOf_4 : decode cX0_endOf 4 = .ok (.iload_n 1, 1) := by decide +kernel
theorem dX0_endOf_5 : decode cX0_endOf 5 = .ok (.aload_n 0, 1) := by decide +kernel
theorem dX0_endOf_6 : decode cX0_endOf 6 = .ok (.getfield 22, 3) := by decide +kernel
theorem dX0_endOf_9 : decode cX0_endOf 9 = .ok (.arraylength, 1) := by decide +kernel
theorem dX0_endOf_10 : decode cX0_endOf 10 = .ok (.if_icmp .ge 12, 3) := by decide +kernel
theorem dX0_endOf_13 : decode cX0_endOf 13 = .ok (.aload_n 0, 1) := by decide +kernel
theorem dX0_endOf_14 : decode cX0_endOf 14 = .ok (.getfield 22, 3) := by decide +kernel
theorem dX0_endOf_17 : decode cX0_endOf 17 = .ok (.iload_n 1, 1) := by decide +kernel
theorem dX0_endOf_18 : decode cX0_endOf 18 = .ok (.iaload, 1) := by decide +kernel
theorem dX0_endOf_19 : decode cX0_endOf 19 = .ok (.goto 4, 3) := by decide +kernel
theorem dX0_endOf_22 : decode cX0_endOf 22 = .ok (.iconst (-1), 1) := by decide +kernel
theorem dX0_endOf_23 : decode cX0_endOf 23 = .ok (.ireturn, 1) := by decide +kernel
theorem dX0_has_0 : decode cX0_has 0 = .ok (.aload_n 0, 1) := by decide +kernel
theorem dX0_has_1 : decode cX0_has 1 = .ok (.iload_n 1, 1) := by decide +kernel
theorem dX0_has_2 : decode cX0_has 2 = .ok (.invokevirtual 36, 3) := by decide +kernel
theorem dX0_has_5 : decode cX0_has 5 = .ok (.iconst (-1), 1) := by decide +kernel
theorem dX0_has_6 : decode cX0_has 6 = .ok (.if_icmp .eq 7, 3) := by decide +kernel
theorem dX0_has_9 : decode cX0_has 9 = .ok (.iconst 1, 1) := by decide +kernel
theorem dX0_has_10 : decode cX0_has 10 = .ok (.goto 4, 3) := by decide +kernel
theorem dX0_has_13 : decode cX0_has 13 = .ok (.iconst 0, 1) := by decide +kernel
theorem dX0_has_14 : decode cX0_has 14 = .ok (.ireturn, 1) := by decide +kernel
theorem dX0_sizeOf_0 : decode cX0_sizeOf 0 = .ok (.aload_n 0, 1) := by decide +kernel
theorem dX0_sizeOf_1 : decode cX0_sizeOf 1 = .ok (.iload_n 1, 1) := by decide +kernel
theorem dX0_sizeOf_2 : decode cX0_sizeOf 2 = .ok (.invokevirtual 40, 3) := by decide +kernel
theorem dX0_sizeOf_5 : decode cX0_sizeOf 5 = .ok (.ifCond .eq 17, 3) := by decide +kernel
theorem dX0_sizeOf_8 : decode cX0_sizeOf 8 = .ok (.aload_n 0, 1) := by decide +kernel
theorem dX0_sizeOf_9 : decode cX0_sizeOf 9 = .ok (.iload_n 1, 1) := by decide +kernel
theorem dX0_sizeOf_10 : decode cX0_sizeOf 10 = .ok (.invokevirtual 44, 3) := by decide +kernel
theorem dX0_sizeOf_13 : decode cX0_sizeOf 13 = .ok (.aload_n 0, 1) := by decide +kernel
theorem dX0_sizeOf_14 : decode cX0_sizeOf 14 = .ok (.iload_n 1, 1) := by decide +kernel
theorem dX0_sizeOf_15 : decode cX0_sizeOf 15 = .ok (.invokevirtual 36, 3) := by decide +kernel
theorem dX0_sizeOf_18 : decode cX0_sizeOf 18 = .ok (.isub, 1) := by decide +kernel
theorem dX0_sizeOf_19 : decode cX0_sizeOf 19 = .ok (.goto 4, 3) := by decide +kernel
theorem dX0_sizeOf_22 : decode cX0_sizeOf 22 = .ok (.iconst (-1), 1) := by decide +kernel
theorem dX0_sizeOf_23 : decode cX0_sizeOf 23 = .ok (.ireturn, 1) := by decide +kernel
theorem dX0_signOf_0 : decode cX0_signOf 0 = .ok (.aload_n 0, 1) := by decide +kernel
theorem dX0_signOf_1 : decode cX0_signOf 1 = .ok (.getfield 12, 3) := by decide +kernel
theorem dX0_signOf_4 : decode cX0_signOf 4 = .ok (.aload_n 0, 1) := by decide +kernel
theorem dX0_signOf_5 : decode cX0_signOf 5 = .ok (.iload_n 1, 1) := by decide +kernel
theorem dX0_signOf_6 : decode cX0_signOf 6 = .ok (.invokevirtual 36, 3) := by decide +kernel
theorem dX0_signOf_9 : decode cX0_signOf 9 = .ok (.iload_n 2, 1) := by decide +kernel
theorem dX0_signOf_10 : decode cX0_signOf 10 = .ok (.iadd, 1) := by decide +kernel
theorem dX0_signOf_11 : decode cX0_signOf 11 = .ok (.invokevirtual 47, 3) := by decide +kernel
theorem dX0_signOf_14 : decode cX0_signOf 14 = .ok (.ireturn, 1) := by decide +kernel
theorem dX0_putPart_0 : decode cX0_putPart 0 = .ok (.aload_n 2, 1) := by decide +kernel
theorem dX0_putPart_1 : decode cX0_putPart 1 = .ok (.aload_n 0, 1) := by decide +kernel
theorem dX0_putPart_2 : decode cX0_putPart 2 = .ok (.getfield 12, 3) := by decide +kernel
theorem dX0_putPart_5 : decode cX0_putPart 5 = .ok (.aload_n 0, 1) := by decide +kernel
theorem dX0_putPart_6 : decode cX0_putPart 6 = .ok (.iload_n 1, 1) := by decide +kernel
theorem dX0_putPart_7 : decode cX0_putPart 7 = .ok (.invokevirtual 36, 3) := by decide +kernel
theorem dX0_putPart_10 : decode cX0_putPart 10 = .ok (.aload_n 0, 1) := by decide +kernel
theorem dX0_putPart_11 : decode cX0_putPart 11 = .ok (.iload_n 1, 1) := by decide +kernel
theorem dX0_putPart_12 : decode cX0_putPart 12 = .ok (.invokevirtual 44, 3) := by decide +kernel
theorem dX0_putPart_15 : decode cX0_putPart 15 = .ok (.invokevirtual 51, 3) := by decide +kernel
theorem dX0_putPart_18 : decode cX0_putPart 18 = .ok (.return_, 1) := by decide +kernel
theorem dX0_isWhole_0 : decode cX0_isWhole 0 = .ok (.aload_n 0, 1) := by decide +kernel
theorem dX0_isWhole_1 : decode cX0_isWhole 1 = .ok (.getfield 12, 3) := by decide +kernel
theorem dX0_isWhole_4 : decode cX0_isWhole 4 = .ok (.invokevirtual 55, 3) := by decide +kernel
theorem dX0_isWhole_7 : decode cX0_isWhole 7 = .ok (.aload_n 1, 1) := by decide +kernel
theorem dX0_isWhole_8 : decode cX0_isWhole 8 = .ok (.invokevirtual 55, 3) := by decide +kernel
theorem dX0_isWhole_11 : decode cX0_isWhole 11 = .ok (.if_icmp .ne 27, 3) := by decide +kernel
theorem dX0_isWhole_14 : decode cX0_isWhole 14 = .ok (.aload_n 0, 1) := by decide +kernel
theorem dX0_isWhole_15 : decode cX0_isWhole 15 = .ok (.getfield 12, 3) := by decide +kernel
theorem dX0_isWhole_18 : decode cX0_isWhole 18 = .ok (.iconst 0, 1) := by decide +kernel
theorem dX0_isWhole_19 : decode cX0_isWhole 19 = .ok (.aload_n 0, 1) := by decide +kernel
theorem dX0_isWhole_20 : decode cX0_isWhole 20 = .ok (.getfield 12, 3) := by decide +kernel
theorem dX0_isWhole_23 : decode cX0_isWhole 23 = .ok (.invokevirtual 55, 3) := by decide +kernel
theorem dX0_isWhole_26 : decode cX0_isWhole 26 = .ok (.aload_n 1, 1) := by decide +kernel
theorem dX0_isWhole_27 : decode cX0_isWhole 27 = .ok (.iconst 0, 1) := by decide +kernel
theorem dX0_isWhole_28 : decode cX0_isWhole 28 = .ok (.invokevirtual 59, 3) := by decide +kernel
theorem dX0_isWhole_31 : decode cX0_isWhole 31 = .ok (.ifCond .eq 7, 3) := by decide +kernel
theorem dX0_isWhole_34 : decode cX0_isWhole 34 = .ok (.iconst 1, 1) := by decide +kernel
theorem dX0_isWhole_35 : decode cX0_isWhole 35 = .ok (.goto 4, 3) := by decide +kernel
theorem dX0_isWhole_38 : decode cX0_isWhole 38 = .ok (.iconst 0, 1) := by decide +kernel
theorem dX0_isWhole_39 : decode cX0_isWhole 39 = .ok (.ireturn, 1) := by decide +kernel
theorem dX0_isSkippingSlashes_0 : decode cX0_isSkippingSlashes 0 = .ok (.aload_n 0, 1) := by decide +kernel
theorem dX0_isSkippingSlashes_1 : decode cX0_isSkippingSlashes 1 = .ok (.iconst 5, 1) := by decide +kernel
theorem dX0_isSkippingSlashes_2 : decode cX0_isSkippingSlashes 2 = .ok (.invokevirtual 40, 3) := by decide +kernel
theorem dX0_isSkippingSlashes_5 : decode cX0_isSkippingSlashes 5 = .ok (.ifCond .eq 30, 3) := by decide +kernel
theorem dX0_isSkippingSlashes_8 : decode cX0_isSkippingSlashes 8 = .ok (.aload_n 0, 1) := by decide +kernel
theorem dX0_isSkippingSlashes_9 : decode cX0_isSkippingSlashes 9 = .ok (.iconst 2, 1) := by decide +kernel
theorem dX0_isSkippingSlashes_10 : decode cX0_isSkippingSlashes 10 = .ok (.invokevirtual 40, 3) := by decide +kernel
theorem dX0_isSkippingSlashes_13 : decode cX0_isSkippingSlashes 13 = .ok (.ifCond .ne 22, 3) := by decide +kernel
theorem dX0_isSkippingSlashes_16 : decode cX0_isSkippingSlashes 16 = .ok (.aload_n 0, 1) := by decide +kernel
theorem dX0_isSkippingSlashes_17 : decode cX0_isSkippingSlashes 17 = .ok (.getfield 12, 3) := by decide +kernel
theorem dX0_isSkippingSlashes_20 : decode cX0_isSkippingSlashes 20 = .ok (.aload_n 0, 1) := by decide +kernel
theorem dX0_isSkippingSlashes_21 : decode cX0_isSkippingSlashes 21 = .ok (.iconst 1, 1) := by decide +kernel
theorem dX0_isSkippingSlashes_22 : decode cX0_isSkippingSlashes 22 = .ok (.invokevirtual 36, 3) := by decide +kernel
theorem dX0_isSkippingSlashes_25 : decode cX0_isSkippingSlashes 25 = .ok (.invokestatic 63, 3) := by decide +kernel
theorem dX0_isSkippingSlashes_28 : decode cX0_isSkippingSlashes 28 = .ok (.ifCond .eq 7, 3) := by decide +kernel
theorem dX0_isSkippingSlashes_31 : decode cX0_isSkippingSlashes 31 = .ok (.iconst 1, 1) := by decide +kernel
theorem dX0_isSkippingSlashes_32 : decode cX0_isSkippingSlashes 32 = .ok (.goto 4, 3) := by decide +kernel
theorem dX0_isSkippingSlashes_35 : decode cX0_isSkippingSlashes 35 = .ok (.iconst 0, 1) := by decide +kernel
theorem dX0_isSkippingSlashes_36 : decode cX0_isSkippingSlashes 36 = .ok (.ireturn, 1) := by decide +kernel
theorem dX0_isWholeWithoutSlashes_0 : decode cX0_isWholeWithoutSlashes 0 = .ok (.aload_n 0, 1) := by decide +kernel
theorem dX0_isWholeWithoutSlashes_1 : decode cX0_isWholeWithoutSlashes 1 = .ok (.iconst 1, 1) := by decide +kernel
theorem dX0_isWholeWithoutSlashes_2 : decode cX0_isWholeWithoutSlashes 2 = .ok (.invokevirtual 36, 3) := by decide +kernel
theorem dX0_isWholeWithoutSlashes_5 : decode cX0_isWholeWithoutSlashes 5 = .ok (.istore_n 2, 1) := by decide +kernel
theorem dX0_isWholeWithoutSlashes_6 : decode cX0_isWholeWithoutSlashes 6 = .ok (.aload_n 0, 1) := by decide +kernel
theorem dX0_isWholeWithoutSlashes_7 : decode cX0_isWholeWithoutSlashes 7 = .ok (.getfield 12, 3) := by decide +kernel
theorem dX0_isWholeWithoutSlashes_10 : decode cX0_isWholeWithoutSlashes 10 = .ok (.invokevirtual 55, 3) := by decide +kernel
theorem dX0_isWholeWithoutSlashes_13 : decode cX0_isWholeWithoutSlashes 13 = .ok (.aload_n 1, 1) := by decide +kernel
theorem dX0_isWholeWithoutSlashes_14 : decode cX0_isWholeWithoutSlashes 14 = .ok (.invokevirtual 55, 3) := by decide +kernel
theorem dX0_isWholeWithoutSlashes_17 : decode cX0_isWholeWithoutSlashes 17 = .ok (.iconst 2, 1) := by decide +kernel
theorem dX0_isWholeWithoutSlashes_18 : decode cX0_isWholeWithoutSlashes 18 = .ok (.iadd, 1) := by decide +kernel
theorem dX0_isWholeWithoutSlashes_19 : decode cX0_isWholeWithoutSlashes 19 = .ok (.if_icmp .ne 43, 3) := by decide +kernel
theorem dX0_isWholeWithoutSlashes_22 : decode cX0_isWholeWithoutSlashes 22 = .ok (.aload_n 0, 1) := by decide +kernel
theorem dX0_isWholeWithoutSlashes_23 : decode cX0_isWholeWithoutSlashes 23 = .ok (.getfield 12, 3) := by decide +kernel
theorem dX0_isWholeWithoutSlashes_26 : decode cX0_isWholeWithoutSlashes 26 = .ok (.iconst 0, 1) := by decide +kernel
theorem dX0_isWholeWithoutSlashes_27 : decode cX0_isWholeWithoutSlashes 27 = .ok (.iload_n 2, 1) := by decide +kernel
theorem dX0_isWholeWithoutSlashes_28 : decode cX0_isWholeWithoutSlashes 28 = .ok (.aload_n 1, 1) := by decide +kernel
theorem dX0_isWholeWithoutSlashes_29 : decode cX0_isWholeWithoutSlashes 29 = .ok (.iconst 0, 1) := by decide +kernel
theorem dX0_isWholeWithoutSlashes_30 : decode cX0_isWholeWithoutSlashes 30 = .ok (.invokevirtual 59, 3) := by decide +kernel
theorem dX0_isWholeWithoutSlashes_33 : decode cX0_isWholeWithoutSlashes 33 = .ok (.ifCond .eq 29, 3) := by decide +kernel
theorem dX0_isWholeWithoutSlashes_36 : decode cX0_isWholeWithoutSlashes 36 = .ok (.aload_n 0, 1) := by decide +kernel
theorem dX0_isWholeWithoutSlashes_37 : decode cX0_isWholeWithoutSlashes 37 = .ok (.getfield 12, 3) := by decide +kernel
theorem dX0_isWholeWithoutSlashes_40 : decode cX0_isWholeWithoutSlashes 40 = .ok (.iload_n 2, 1) := by decide +kernel
theorem dX0_isWholeWithoutSlashes_41 : decode cX0_isWholeWithoutSlashes 41 = .ok (.iconst 2, 1) := by decide +kernel
theorem dX0_isWholeWithoutSlashes_42 : decode cX0_isWholeWithoutSlashes 42 = .ok (.iadd, 1) := by decide +kernel
theorem dX0_isWholeWithoutSlashes_43 : decode cX0_isWholeWithoutSlashes 43 = .ok (.aload_n 0, 1) := by decide +kernel
theorem dX0_isWholeWithoutSlashes_44 : decode cX0_isWholeWithoutSlashes 44 = .ok (.getfield 12, 3) := by decide +kernel
theorem dX0_isWholeWithoutSlashes_47 : decode cX0_isWholeWithoutSlashes 47 = .ok (.invokevirtual 55, 3) := by decide +kernel
theorem dX0_isWholeWithoutSlashes_50 : decode cX0_isWholeWithoutSlashes 50 = .ok (.aload_n 1, 1) := by decide +kernel
theorem dX0_isWholeWithoutSlashes_51 : decode cX0_isWholeWithoutSlashes 51 = .ok (.iload_n 2, 1) := by decide +kernel
theorem dX0_isWholeWithoutSlashes_52 : decode cX0_isWholeWithoutSlashes 52 = .ok (.invokevirtual 59, 3) := by decide +kernel
theorem dX0_isWholeWithoutSlashes_55 : decode cX0_isWholeWithoutSlashes 55 = .ok (.ifCond .eq 7, 3) := by decide +kernel
theorem dX0_isWholeWithoutSlashes_58 : decode cX0_isWholeWithoutSlashes 58 = .ok (.iconst 1, 1) := by decide +kernel
theorem dX0_isWholeWithoutSlashes_59 : decode cX0_isWholeWithoutSlashes 59 = .ok (.goto 4, 3) := by decide +kernel
theorem dX0_isWholeWithoutSlashes_62 : decode cX0_isWholeWithoutSlashes 62 = .ok (.iconst 0, 1) := by decide +kernel
theorem dX0_isWholeWithoutSlashes_63 : decode cX0_isWholeWithoutSlashes 63 = .ok (.ireturn, 1) := by decide +kernel
theorem dX0_partsAlike_0 : decode cX0_partsAlike 0 = .ok (.iconst 0, 1) := by decide +kernel
theorem dX0_partsAlike_1 : decode cX0_partsAlike 1 = .ok (.istore_n 2, 1) := by decide +kernel
theorem dX0_partsAlike_2 : decode cX0_partsAlike 2 = .ok (.iconst 0, 1) := by decide +kernel
theorem dX0_partsAlike_3 : decode cX0_partsAlike 3 = .ok (.istore_n 3, 1) := by decide +kernel
theorem dX0_partsAlike_4 : decode cX0_partsAlike 4 = .ok (.iload_n 3, 1) := by decide +kernel
theorem dX0_partsAlike_5 : decode cX0_partsAlike 5 = .ok (.bipush 9, 2) := by decide +kernel
theorem dX0_partsAlike_7 : decode cX0_partsAlike 7 = .ok (.if_icmp .ge 21, 3) := by decide +kernel
theorem dX0_partsAlike_10 : decode cX0_partsAlike 10 = .ok (.aload_n 0, 1) := by decide +kernel
theorem dX0_partsAlike_11 : decode cX0_partsAlike 11 = .ok (.aload_n 1, 1) := by decide +kernel
theorem dX0_partsAlike_12 : decode cX0_partsAlike 12 = .ok (.iload_n 3, 1) := by decide +kernel
theorem dX0_partsAlike_13 : decode cX0_partsAlike 13 = .ok (.invokevirtual 69, 3) := by decide +kernel
theorem dX0_partsAlike_16 : decode cX0_partsAlike 16 = .ok (.ifCond .eq 6, 3) := by decide +kernel
theorem dX0_partsAlike_19 : decode cX0_partsAlike 19 = .ok (.iinc 2 1, 3) := by decide +kernel
theorem dX0_partsAlike_22 : decode cX0_partsAlike 22 = .ok (.iinc 3 1, 3) := by decide +kernel
theorem dX0_partsAlike_25 : decode cX0_partsAlike 25 = .ok (.goto (-21), 3) := by decide +kernel
theorem dX0_partsAlike_28 : decode cX0_partsAlike 28 = .ok (.iload_n 2, 1) := by decide +kernel
theorem dX0_partsAlike_29 : decode cX0_partsAlike 29 = .ok (.ireturn, 1) := by decide +kernel
theorem dX0_isPartAlike_0 : decode cX0_isPartAlike 0 = .ok (.aload_n 0, 1) := by decide +kernel
theorem dX0_isPartAlike_1 : decode cX0_isPartAlike 1 = .ok (.iload_n 2, 1) := by decide +kernel
theorem dX0_isPartAlike_2 : decode cX0_isPartAlike 2 = .ok (.invokevirtual 73, 3) := by decide +kernel
theorem dX0_isPartAlike_5 : decode cX0_isPartAlike 5 = .ok (.aload_n 1, 1) := by decide +kernel
theorem dX0_isPartAlike_6 : decode cX0_isPartAlike 6 = .ok (.iload_n 2, 1) := by decide +kernel
theorem dX0_isPartAlike_7 : decode cX0_isPartAlike 7 = .ok (.invokevirtual 73, 3) := by decide +kernel
theorem dX0_isPartAlike_10 : decode cX0_isPartAlike 10 = .ok (.if_icmp .ne 36, 3) := by decide +kernel
theorem dX0_isPartAlike_13 : decode cX0_isPartAlike 13 = .ok (.aload_n 0, 1) := by decide +kernel
theorem dX0_isPartAlike_14 : decode cX0_isPartAlike 14 = .ok (.getfield 12, 3) := by decide +kernel
theorem dX0_isPartAlike_17 : decode cX0_isPartAlike 17 = .ok (.aload_n 0, 1) := by decide +kernel
theorem dX0_isPartAlike_18 : decode cX0_isPartAlike 18 = .ok (.iload_n 2, 1) := by decide +kernel
theorem dX0_isPartAlike_19 : decode cX0_isPartAlike 19 = .ok (.invokevirtual 36, 3) := by decide +kernel
theorem dX0_isPartAlike_22 : decode cX0_isPartAlike 22 = .ok (.aload_n 0, 1) := by decide +kernel
theorem dX0_isPartAlike_23 : decode cX0_isPartAlike 23 = .ok (.iload_n 2, 1) := by decide +kernel
theorem dX0_isPartAlike_24 : decode cX0_isPartAlike 24 = .ok (.invokevirtual 44, 3) := by decide +kernel
theorem dX0_isPartAlike_27 : decode cX0_isPartAlike 27 = .ok (.aload_n 1, 1) := by decide +kernel
theorem dX0_isPartAlike_28 : decode cX0_isPartAlike 28 = .ok (.getfield 12, 3) := by decide +kernel
theorem dX0_isPartAlike_31 : decode cX0_isPartAlike 31 = .ok (.aload_n 1, 1) := by decide +kernel
theorem dX0_isPartAlike_32 : decode cX0_isPartAlike 32 = .ok (.iload_n 2, 1) := by decide +kernel
theorem dX0_isPartAlike_33 : decode cX0_isPartAlike 33 = .ok (.invokevirtual 36, 3) := by decide +kernel
theorem dX0_isPartAlike_36 : decode cX0_isPartAlike 36 = .ok (.invokevirtual 59, 3) := by decide +kernel
theorem dX0_isPartAlike_39 : decode cX0_isPartAlike 39 = .ok (.ifCond .eq 7, 3) := by decide +kernel
theorem dX0_isPartAlike_42 : decode cX0_isPartAlike 42 = .ok (.iconst 1, 1) := by decide +kernel
theorem dX0_isPartAlike_43 : decode cX0_isPartAlike 43 = .ok (.goto 4, 3) := by decide +kernel
theorem dX0_isPartAlike_46 : decode cX0_isPartAlike 46 = .ok (.iconst 0, 1) := by decide +kernel
theorem dX0_isPartAlike_47 : decode cX0_isPartAlike 47 = .ok (.ireturn, 1) := by decide +kernel
theorem dX0_sumBehind_0 : decode cX0_sumBehind 0 = .ok (.aload_n 0, 1) := by decide +kernel
theorem dX0_sumBehind_1 : decode cX0_sumBehind 1 = .ok (.getfield 28, 3) := by decide +kernel
theorem dX0_sumBehind_4 : decode cX0_sumBehind 4 = .ok (.ifCond .ne 9, 3) := by decide +kernel
theorem dX0_sumBehind_7 : decode cX0_sumBehind 7 = .ok (.ldc2_w 76, 3) := by decide +kernel
theorem dX0_sumBehind_10 : decode cX0_sumBehind 10 = .ok (.lload_n 1, 1) := by decide +kernel
theorem dX0_sumBehind_11 : decode cX0_sumBehind 11 = .ok (.lmul, 1) := by decide +kernel
theorem dX0_sumBehind_12 : decode cX0_sumBehind 12 = .ok (.lreturn, 1) := by decide +kernel
theorem dX0_sumBehind_13 : decode cX0_sumBehind 13 = .ok (.lload_n 1, 1) := by decide +kernel
theorem dX0_sumBehind_14 : decode cX0_sumBehind 14 = .ok (.lstore_n 3, 1) := by decide +kernel
theorem dX0_sumBehind_15 : decode cX0_sumBehind 15 = .ok (.iconst 0, 1) := by decide +kernel
theorem dX0_sumBehind_16 : decode cX0_sumBehind 16 = .ok (.istore 5, 2) := by decide +kernel
theorem dX0_sumBehind_18 : decode cX0_sumBehind 18 = .ok (.iload 5, 2) := by decide +kernel
theorem dX0_sumBehind_20 : decode cX0_sumBehind 20 = .ok (.bipush 9, 2) := by decide +kernel
theorem dX0_sumBehind_22 : decode cX0_sumBehind 22 = .ok (.if_icmp .ge 23, 3) := by decide +kernel
theorem dX0_sumBehind_25 : decode cX0_sumBehind 25 = .ok (.ldc2_w 76, 3) := by decide +kernel
theorem dX0_sumBehind_28 : decode cX0_sumBehind 28 = .ok (.lload_n 3, 1) := by decide +kernel
theorem dX0_sumBehind_29 : decode cX0_sumBehind 29 = .ok (.lmul, 1) := by decide +kernel
theorem dX0_sumBehind_30 : decode cX0_sumBehind 30 = .ok (.aload_n 0, 1) := by decide +kernel
theorem dX0_sumBehind_31 : decode cX0_sumBehind 31 = .ok (.iload 5, 2) := by decide +kernel
theorem dX0_sumBehind_33 : decode cX0_sumBehind 33 = .ok (.invokevirtual 73, 3) := by decide +kernel
theorem dX0_sumBehind_36 : decode cX0_sumBehind 36 = .ok (.i2l, 1) := by decide +kernel
theorem dX0_sumBehind_37 : decode cX0_sumBehind 37 = .ok (.ladd, 1) := by decide +kernel
theorem dX0_sumBehind_38 : decode cX0_sumBehind 38 = .ok (.lstore_n 3, 1) := by decide +kernel
theorem dX0_sumBehind_39 : decode cX0_sumBehind 39 = .ok (.iinc 5 1, 3) := by decide +kernel
theorem dX0_sumBehind_42 : decode cX0_sumBehind 42 = .ok (.goto (-24), 3) := by decide +kernel
theorem dX0_sumBehind_45 : decode cX0_sumBehind 45 = .ok (.ldc2_w 76, 3) := by decide +kernel
theorem dX0_sumBehind_48 : decode cX0_sumBehind 48 = .ok (.lload_n 3, 1) := by decide +kernel
theorem dX0_sumBehind_49 : decode cX0_sumBehind 49 = .ok (.lmul, 1) := by decide +kernel
theorem dX0_sumBehind_50 : decode cX0_sumBehind 50 = .ok (.aload_n 0, 1) := by decide +kernel
theorem dX0_sumBehind_51 : decode cX0_sumBehind 51 = .ok (.getfield 32, 3) := by decide +kernel
theorem dX0_sumBehind_54 : decode cX0_sumBehind 54 = .ok (.i2l, 1) := by decide +kernel
theorem dX0_sumBehind_55 : decode cX0_sumBehind 55 = .ok (.ladd, 1) := by decide +kernel
theorem dX0_sumBehind_56 : decode cX0_sumBehind 56 = .ok (.lreturn, 1) := by decide +kernel
theorem dX0_takeOver_0 : decode cX0_takeOver 0 = .ok (.aload_n 0, 1) := by decide +kernel
theorem dX0_takeOver_1 : decode cX0_takeOver 1 = .ok (.getfield 12, 3) := by decide +kernel
theorem dX0_takeOver_4 : decode cX0_takeOver 4 = .ok (.aload_n 1, 1) := by decide +kernel
theorem dX0_takeOver_5 : decode cX0_takeOver 5 = .ok (.getfield 12, 3) := by decide +kernel
theorem dX0_takeOver_8 : decode cX0_takeOver 8 = .ok (.invokevirtual 78, 3) := by decide +kernel
theorem dX0_takeOver_11 : decode cX0_takeOver 11 = .ok (.iconst 0, 1) := by decide +kernel
theorem dX0_takeOver_12 : decode cX0_takeOver 12 = .ok (.istore_n 2, 1) := by decide +kernel
theorem dX0_takeOver_13 : decode cX0_takeOver 13 = .ok (.iload_n 2, 1) := by decide +kernel
theorem dX0_takeOver_14 : decode cX0_takeOver 14 = .ok (.bipush 9, 2) := by decide +kernel
theorem dX0_takeOver_16 : decode cX0_takeOver 16 = .ok (.if_icmp .ge 24, 3) := by decide +kernel
theorem dX0_takeOver_19 : decode cX0_takeOver 19 = .ok (.aload_n 0, 1) := by decide +kernel
theorem dX0_takeOver_20 : decode cX0_takeOver 20 = .ok (.iload_n 2, 1) := by decide +kernel
theorem dX0_takeOver_21 : decode cX0_takeOver 21 = .ok (.aload_n 1, 1) := by decide +kernel
theorem dX0_takeOver_22 : decode cX0_takeOver 22 = .ok (.iload_n 2, 1) := by decide +kernel
theorem dX0_takeOver_23 : decode cX0_takeOver 23 = .ok (.invokevirtual 36, 3) := by decide +kernel
theorem dX0_takeOver_26 : decode cX0_takeOver 26 = .ok (.aload_n 1, 1) := by decide +kernel
theorem dX0_takeOver_27 : decode cX0_takeOver 27 = .ok (.iload_n 2, 1) := by decide +kernel
theorem dX0_takeOver_28 : decode cX0_takeOver 28 = .ok (.invokevirtual 44, 3) := by decide +kernel
theorem dX0_takeOver_31 : decode cX0_takeOver 31 = .ok (.invokevirtual 82, 3) := by decide +kernel
theorem dX0_takeOver_34 : decode cX0_takeOver 34 = .ok (.iinc 2 1, 3) := by decide +kernel
theorem dX0_takeOver_37 : decode cX0_takeOver 37 = .ok (.goto (-24), 3) := by decide +kernel
theorem dX0_takeOver_40 : decode cX0_takeOver 40 = .ok (.aload_n 0, 1) := by decide +kernel
theorem dX0_takeOver_41 : decode cX0_takeOver 41 = .ok (.aload_n 1, 1) := by decide +kernel
theorem dX0_takeOver_42 : decode cX0_takeOver 42 = .ok (.getfield 32, 3) := by decide +kernel
theorem dX0_takeOver_45 : decode cX0_takeOver 45 = .ok (.putfield 32, 3) := by decide +kernel
theorem dX0_takeOver_48 : decode cX0_takeOver 48 = .ok (.aload_n 0, 1) := by decide +kernel
theorem dX0_takeOver_49 : decode cX0_takeOver 49 = .ok (.aload_n 1, 1) := by decide +kernel
theorem dX0_takeOver_50 : decode cX0_takeOver 50 = .ok (.getfield 28, 3) := by decide +kernel
theorem dX0_takeOver_53 : decode cX0_takeOver 53 = .ok (.putfield 28, 3) := by decide +kernel
theorem dX0_takeOver_56 : decode cX0_takeOver 56 = .ok (.return_, 1) := by decide +kernel
theorem dX0_mark_0 : decode cX0_mark 0 = .ok (.iload_n 1, 1) := by decide +kernel
theorem dX0_mark_1 : decode cX0_mark 1 = .ok (.ifCond .lt 35, 3) := by decide +kernel
theorem dX0_mark_4 : decode cX0_mark 4 = .ok (.iload_n 1, 1) := by decide +kernel
theorem dX0_mark_5 : decode cX0_mark 5 = .ok (.aload_n 0, 1) := by decide +kernel
theorem dX0_mark_6 : decode cX0_mark 6 = .ok (.getfield 18, 3) := by decide +kernel
theorem dX0_mark_9 : decode cX0_mark 9 = .ok (.arraylength, 1) := by decide +kernel
theorem dX0_mark_10 : decode cX0_mark 10 = .ok (.if_icmp .ge 26, 3) := by decide +kernel
theorem dX0_mark_13 : decode cX0_mark 13 = .ok (.iload_n 1, 1) := by decide +kernel
theorem dX0_mark_14 : decode cX0_mark 14 = .ok (.aload_n 0, 1) := by decide +kernel
theorem dX0_mark_15 : decode cX0_mark 15 = .ok (.getfield 22, 3) := by decide +kernel
theorem dX0_mark_18 : decode cX0_mark 18 = .ok (.arraylength, 1) := by decide +kernel
theorem dX0_mark_19 : decode cX0_mark 19 = .ok (.if_icmp .ge 17, 3) := by decide +kernel
theorem dX0_mark_22 : decode cX0_mark 22 = .ok (.aload_n 0, 1) := by decide +kernel
theorem dX0_mark_23 : decode cX0_mark 23 = .ok (.getfield 18, 3) := by decide +kernel
theorem dX0_mark_26 : decode cX0_mark 26 = .ok (.iload_n 1, 1) := by decide +kernel
theorem dX0_mark_27 : decode cX0_mark 27 = .ok (.iload_n 2, 1) := by decide +kernel
theorem dX0_mark_28 : decode cX0_mark 28 = .ok (.iastore, 1) := by decide +kernel
theorem dX0_mark_29 : decode cX0_mark 29 = .ok (.aload_n 0, 1) := by decide +kernel
theorem dX0_mark_30 : decode cX0_mark 30 = .ok (.getfield 22, 3) := by decide +kernel
theorem dX0_mark_33 : decode cX0_mark 33 = .ok (.iload_n 1, 1) := by decide +kernel
theorem dX0_mark_34 : decode cX0_mark 34 = .ok (.iload_n 3, 1) := by decide +kernel
theorem dX0_mark_35 : decode cX0_mark 35 = .ok (.iastore, 1) := by decide +kernel
theorem dX0_mark_36 : decode cX0_mark 36 = .ok (.return_, 1) := by decide +kernel
theorem dX0_forget_0 : decode cX0_forget 0 = .ok (.iconst 0, 1) := by decide +kernel
theorem dX0_forget_1 : decode cX0_forget 1 = .ok (.istore_n 1, 1) := by decide +kernel
theorem dX0_forget_2 : decode cX0_forget 2 = .ok (.iload_n 1, 1) := by decide +kernel
theorem dX0_forget_3 : decode cX0_forget 3 = .ok (.bipush 9, 2) := by decide +kernel
theorem dX0_forget_5 : decode cX0_forget 5 = .ok (.if_icmp .ge 16, 3) := by decide +kernel
theorem dX0_forget_8 : decode cX0_forget 8 = .ok (.aload_n 0, 1) := by decide +kernel
theorem dX0_forget_9 : decode cX0_forget 9 = .ok (.iload_n 1, 1) := by decide +kernel
theorem dX0_forget_10 : decode cX0_forget 10 = .ok (.iconst (-1), 1) := by decide +kernel
theorem dX0_forget_11 : decode cX0_forget 11 = .ok (.iconst (-1), 1) := by decide +kernel
theorem dX0_forget_12 : decode cX0_forget 12 = .ok (.invokevirtual 82, 3) := by decide +kernel
theorem dX0_forget_15 : decode cX0_forget 15 = .ok (.iinc 1 1, 3) := by decide +kernel
theorem dX0_forget_18 : decode cX0_forget 18 = .ok (.goto (-16), 3) := by decide +kernel
theorem dX0_forget_21 : decode cX0_forget 21 = .ok (.aload_n 0, 1) := by decide +kernel
theorem dX0_forget_22 : decode cX0_forget 22 = .ok (.iconst (-1), 1) := by decide +kernel
theorem dX0_forget_23 : decode cX0_forget 23 = .ok (.putfield 32, 3) := by decide +kernel
theorem dX0_forget_26 : decode cX0_forget 26 = .ok (.aload_n 0, 1) := by decide +kernel
theorem dX0_forget_27 : decode cX0_forget 27 = .ok (.iconst 0, 1) := by decide +kernel
theorem dX0_forget_28 : decode cX0_forget 28 = .ok (.putfield 28, 3) := by decide +kernel
theorem dX0_forget_31 : decode cX0_forget 31 = .ok (.return_, 1) := by decide +kernel
theorem dX0_setPort_0 : decode cX0_setPort 0 = .ok (.aload_n 0, 1) := by decide +kernel
theorem dX0_setPort_1 : decode cX0_setPort 1 = .ok (.iload_n 1, 1) := by decide +kernel
theorem dX0_setPort_2 : decode cX0_setPort 2 = .ok (.putfield 32, 3) := by decide +kernel
theorem dX0_setPort_5 : decode cX0_setPort 5 = .ok (.return_, 1) := by decide +kernel
theorem dX0_setHeld_0 : decode cX0_setHeld 0 = .ok (.aload_n 0, 1) := by decide +kernel
theorem dX0_setHeld_1 : decode cX0_setHeld 1 = .ok (.iload_n 1, 1) := by decide +kernel
theorem dX0_setHeld_2 : decode cX0_setHeld 2 = .ok (.putfield 28, 3) := by decide +kernel
theorem dX0_setHeld_5 : decode cX0_setHeld 5 = .ok (.return_, 1) := by decide +kernel
theorem dX1_init_0 : decode cX1_init 0 = .ok (.aload_n 0, 1) := by decide +kernel
theorem dX1_init_1 : decode cX1_init 1 = .ok (.invokespecial 3, 3) := by decide +kernel
theorem dX1_init_4 : decode cX1_init 4 = .ok (.aload_n 0, 1) := by decide +kernel
theorem dX1_init_5 : decode cX1_init 5 = .ok (.new 9, 3) := by decide +kernel
theorem dX1_init_8 : decode cX1_init 8 = .ok (.dup, 1) := by decide +kernel
theorem dX1_init_9 : decode cX1_init 9 = .ok (.invokespecial 11, 3) := by decide +kernel
theorem dX1_init_12 : decode cX1_init 12 = .ok (.putfield 12, 3) := by decide +kernel
theorem dX1_init_15 : decode cX1_init 15 = .ok (.aload_n 0, 1) := by decide +kernel
theorem dX1_init_16 : decode cX1_init 16 = .ok (.aload_n 0, 1) := by decide +kernel
theorem dX1_init_17 : decode cX1_init 17 = .ok (.getfield 12, 3) := by decide +kernel
theorem dX1_init_20 : decode cX1_init 20 = .ok (.invokevirtual 18, 3) := by decide +kernel
theorem dX1_init_23 : decode cX1_init 23 = .ok (.putfield 22, 3) := by decide +kernel
theorem dX1_init_26 : decode cX1_init 26 = .ok (.return_, 1) := by decide +kernel
theorem dX1_address_0 : decode cX1_address 0 = .ok (.aload_n 0, 1) := by decide +kernel
theorem dX1_address_1 : decode cX1_address 1 = .ok (.getfield 12, 3) := by decide +kernel
theorem dX1_address_4 : decode cX1_address 4 = .ok (.areturn, 1) := by decide +kernel
theorem dX1_cut_0 : decode cX1_cut 0 = .ok (.aload_n 0, 1) := by decide +kernel
theorem dX1_cut_1 : decode cX1_cut 1 = .ok (.iconst (-1), 1) := by decide +kernel
theorem dX1_cut_2 : decode cX1_cut 2 = .ok (.putfield 26, 3) := by decide +kernel
theorem dX1_cut_5 : decode cX1_cut 5 = .ok (.aload_n 0, 1) := by decide +kernel
theorem dX1_cut_6 : decode cX1_cut 6 = .ok (.getfield 12, 3) := by decide +kernel
theorem dX1_cut_9 : decode cX1_cut 9 = .ok (.invokevirtual 30, 3) := by decide +kernel
theorem dX1_cut_12 : decode cX1_cut 12 = .ok (.aload_n 0, 1) := by decide +kernel
theorem dX1_cut_13 : decode cX1_cut 13 = .ok (.getfield 22, 3) := by decide +kernel
theorem dX1_cut_16 : decode cX1_cut 16 = .ok (.aload_n 1, 1) := by decide +kernel
theorem dX1_cut_17 : decode cX1_cut 17 = .ok (.invokevirtual 33, 3) := by decide +kernel
theorem dX1_cut_20 : decode cX1_cut 20 = .ok (.aload_n 0, 1) := by decide +kernel
theorem dX1_cut_21 : decode cX1_cut 21 = .ok (.getfield 12, 3) := by decide +kernel
theorem dX1_cut_24 : decode cX1_cut 24 = .ok (.bipush 8, 2) := by decide +kernel
theorem dX1_cut_26 : decode cX1_cut 26 = .ok (.iconst 0, 1) := by decide +kernel
theorem dX1_cut_27 : decode cX1_cut 27 = .ok (.aload_n 0, 1) := by decide +kernel
theorem dX1_cut_28 : decode cX1_cut 28 = .ok (.getfield 22, 3) := by decide +kernel
theorem dX1_cut_31 : decode cX1_cut 31 = .ok (.invokevirtual 39, 3) := by decide +kernel
theorem dX1_cut_34 : decode cX1_cut 34 = .ok (.invokevirtual 43, 3) := by decide +kernel
theorem dX1_cut_37 : decode cX1_cut 37 = .ok (.aload_n 0, 1) := by decide +kernel
theorem dX1_cut_38 : decode cX1_cut 38 = .ok (.getfield 22, 3) := by decide +kernel
theorem dX1_cut_41 : decode cX1_cut 41 = .ok (.invokestatic 47, 3) := by decide +kernel
theorem dX1_cut_44 : decode cX1_cut 44 = .ok (.istore_n 2, 1) := by decide +kernel
theorem dX1_cut_45 : decode cX1_cut 45 = .ok (.iload_n 2, 1) := by decide +kernel
theorem dX1_cut_46 : decode cX1_cut 46 = .ok (.iconst 1, 1) := by decide +kernel
theorem dX1_cut_47 : decode cX1_cut 47 = .ok (.iadd, 1) := by decide +kernel
theorem dX1_cut_48 : decode cX1_cut 48 = .ok (.istore_n 3, 1) := by decide +kernel
theorem dX1_cut_49 : decode cX1_cut 49 = .ok (.aload_n 0, 1) := by decide +kernel
theorem dX1_cut_50 : decode cX1_cut 50 = .ok (.iload_n 2, 1) := by decide +kernel
theorem dX1_cut_51 : decode cX1_cut 51 = .ok (.invokevirtual 53, 3) := by decide +kernel
theorem dX1_cut_54 : decode cX1_cut 54 = .ok (.iload_n 2, 1) := by decide +kernel
theorem dX1_cut_55 : decode cX1_cut 55 = .ok (.iconst (-1), 1) := by decide +kernel
theorem dX1_cut_56 : decode cX1_cut 56 = .ok (.if_icmp .eq 20, 3) := by decide +kernel
theorem dX1_cut_59 : decode cX1_cut 59 = .ok (.aload_n 0, 1) := by decide +kernel
theorem dX1_cut_60 : decode cX1_cut 60 = .ok (.getfield 22, 3) := by decide +kernel
theorem dX1_cut_63 : decode cX1_cut 63 = .ok (.iload_n 3, 1) := by decide +kernel
theorem dX1_cut_64 : decode cX1_cut 64 = .ok (.invokevirtual 57, 3) := by decide +kernel
theorem dX1_cut_67 : decode cX1_cut 67 = .ok (.bipush 47, 2) := by decide +kernel
theorem dX1_cut_69 : decode cX1_cut 69 = .ok (.if_icmp .eq 7, 3) := by decide +kernel
theorem dX1_cut_72 : decode cX1_cut 72 = .ok (.iconst 1, 1) := by decide +kernel
theorem dX1_cut_73 : decode cX1_cut 73 = .ok (.goto 4, 3) := by decide +kernel
theorem dX1_cut_76 : decode cX1_cut 76 = .ok (.iconst 0, 1) := by decide +kernel
theorem dX1_cut_77 : decode cX1_cut 77 = .ok (.istore 4, 2) := by decide +kernel
theorem dX1_cut_79 : decode cX1_cut 79 = .ok (.aload_n 0, 1) := by decide +kernel
theorem dX1_cut_80 : decode cX1_cut 80 = .ok (.iload 4, 2) := by decide +kernel
theorem dX1_cut_82 : decode cX1_cut 82 = .ok (.ifCond .eq 11, 3) := by decide +kernel
theorem dX1_cut_85 : decode cX1_cut 85 = .ok (.aload_n 0, 1) := by decide +kernel
theorem dX1_cut_86 : decode cX1_cut 86 = .ok (.iload_n 3, 1) := by decide +kernel
theorem dX1_cut_87 : decode cX1_cut 87 = .ok (.invokevirtual 61, 3) := by decide +kernel
theorem dX1_cut_90 : decode cX1_cut 90 = .ok (.goto 13, 3) := by decide +kernel
theorem dX1_cut_93 : decode cX1_cut 93 = .ok (.aload_n 0, 1) := by decide +kernel
theorem dX1_cut_94 : decode cX1_cut 94 = .ok (.iload_n 3, 1) := by decide +kernel
theorem dX1_cut_95 : decode cX1_cut 95 = .ok (.aload_n 0, 1) := by decide +kernel
theorem dX1_cut_96 : decode cX1_cut 96 = .ok (.iload_n 3, 1) := by decide +kernel
theorem dX1_cut_97 : decode cX1_cut 97 = .ok (.invokevirtual 65, 3) := by decide +kernel
theorem dX1_cut_100 : decode cX1_cut 100 = .ok (.invokevirtual 68, 3) := by decide +kernel
theorem dX1_cut_103 : decode cX1_cut 103 = .ok (.invokevirtual 72, 3) := by decide +kernel
theorem dX1_cut_106 : decode cX1_cut 106 = .ok (.aload_n 0, 1) := by decide +kernel
theorem dX1_cut_107 : decode cX1_cut 107 = .ok (.getfield 12, 3) := by decide +kernel
theorem dX1_cut_110 : decode cX1_cut 110 = .ok (.iconst 2, 1) := by decide +kernel
theorem dX1_cut_111 : decode cX1_cut 111 = .ok (.invokevirtual 75, 3) := by decide +kernel
theorem dX1_cut_114 : decode cX1_cut 114 = .ok (.ifCond .eq 23, 3) := by decide +kernel
theorem dX1_cut_117 : decode cX1_cut 117 = .ok (.aload_n 0, 1) := by decide +kernel
theorem dX1_cut_118 : decode cX1_cut 118 = .ok (.aload_n 0, 1) := by decide +kernel
theorem dX1_cut_119 : decode cX1_cut 119 = .ok (.getfield 12, 3) := by decide +kernel
theorem dX1_cut_122 : decode cX1_cut 122 = .ok (.iconst 2, 1) := by decide +kernel
theorem dX1_cut_123 : decode cX1_cut 123 = .ok (.invokevirtual 79, 3) := by decide +kernel
theorem dX1_cut_126 : decode cX1_cut 126 = .ok (.aload_n 0, 1) := by decide +kernel
theorem dX1_cut_127 : decode cX1_cut 127 = .ok (.getfield 12, 3) := by decide +kernel
theorem dX1_cut_130 : decode cX1_cut 130 = .ok (.iconst 2, 1) := by decide +kernel
theorem dX1_cut_131 : decode cX1_cut 131 = .ok (.invokevirtual 82, 3) := by decide +kernel
theorem dX1_cut_134 : decode cX1_cut 134 = .ok (.invokevirtual 85, 3) := by decide +kernel
theorem dX1_cut_137 : decode cX1_cut 137 = .ok (.aload_n 0, 1) := by decide +kernel
theorem dX1_cut_138 : decode cX1_cut 138 = .ok (.getfield 12, 3) := by decide +kernel
theorem dX1_cut_141 : decode cX1_cut 141 = .ok (.aload_n 0, 1) := by decide +kernel
theorem dX1_cut_142 : decode cX1_cut 142 = .ok (.getfield 26, 3) := by decide +kernel
theorem dX1_cut_145 : decode cX1_cut 145 = .ok (.iconst (-1), 1) := by decide +kernel
theorem dX1_cut_146 : decode cX1_cut 146 = .ok (.if_icmp .ne 7, 3) := by decide +kernel
theorem dX1_cut_149 : decode cX1_cut 149 = .ok (.iconst 1, 1) := by decide +kernel
theorem dX1_cut_150 : decode cX1_cut 150 = .ok (.goto 4, 3) := by decide +kernel
theorem dX1_cut_153 : decode cX1_cut 153 = .ok (.iconst 0, 1) := by decide +kernel
theorem dX1_cut_154 : decode cX1_cut 154 = .ok (.invokevirtual 89, 3) := by decide +kernel
theorem dX1_cut_157 : decode cX1_cut 157 = .ok (.aload_n 0, 1) := by decide +kernel
theorem dX1_cut_158 : decode cX1_cut 158 = .ok (.getfield 26, 3) := by decide +kernel
theorem dX1_cut_161 : decode cX1_cut 161 = .ok (.ireturn, 1) := by decide +kernel
theorem dX1_refuse_0 : decode cX1_refuse 0 = .ok (.aload_n 0, 1) := by decide +kernel
theorem dX1_refuse_1 : decode cX1_refuse 1 = .ok (.getfield 26, 3) := by decide +kernel
theorem dX1_refuse_4 : decode cX1_refuse 4 = .ok (.iconst (-1), 1) := by decide +kernel
theorem dX1_refuse_5 : decode cX1_refuse 5 = .ok (.if_icmp .ne 8, 3) := by decide +kernel
theorem dX1_refuse_8 : decode cX1_refuse 8 = .ok (.aload_n 0, 1) := by decide +kernel
theorem dX1_refuse_9 : decode cX1_refuse 9 = .ok (.iload_n 1, 1) := by decide +kernel
theorem dX1_refuse_10 : decode cX1_refuse 10 = .ok (.putfield 26, 3) := by decide +kernel
theorem dX1_refuse_13 : decode cX1_refuse 13 = .ok (.return_, 1) := by decide +kernel
theorem dX1_cutScheme_0 : decode cX1_cutScheme 0 = .ok (.iload_n 1, 1) := by decide +kernel
theorem dX1_cutScheme_1 : decode cX1_cutScheme 1 = .ok (.iconst (-1), 1) := by decide +kernel
theorem dX1_cutScheme_2 : decode cX1_cutScheme 2 = .ok (.if_icmp .eq 32, 3) := by decide +kernel
theorem dX1_cutScheme_5 : decode cX1_cutScheme 5 = .ok (.aload_n 0, 1) := by decide +kernel
theorem dX1_cutScheme_6 : decode cX1_cutScheme 6 = .ok (.getfield 22, 3) := by decide +kernel
theorem dX1_cutScheme_9 : decode cX1_cutScheme 9 = .ok (.iload_n 1, 1) := by decide +kernel
theorem dX1_cutScheme_10 : decode cX1_cutScheme 10 = .ok (.invokestatic 93, 3) := by decide +kernel
theorem dX1_cutScheme_13 : decode cX1_cutScheme 13 = .ok (.istore_n 2, 1) := by decide +kernel
theorem dX1_cutScheme_14 : decode cX1_cutScheme 14 = .ok (.iload_n 2, 1) := by decide +kernel
theorem dX1_cutScheme_15 : decode cX1_cutScheme 15 = .ok (.iconst (-1), 1) := by decide +kernel
theorem dX1_cutScheme_16 : decode cX1_cutScheme 16 = .ok (.if_icmp .eq 8, 3) := by decide +kernel
theorem dX1_cutScheme_19 : decode cX1_cutScheme 19 = .ok (.aload_n 0, 1) := by decide +kernel
theorem dX1_cutScheme_20 : decode cX1_cutScheme 20 = .ok (.iload_n 2, 1) := by decide +kernel
theorem dX1_cutScheme_21 : decode cX1_cutScheme 21 = .ok (.invokevirtual 97, 3) := by decide +kernel
theorem dX1_cutScheme_24 : decode cX1_cutScheme 24 = .ok (.aload_n 0, 1) := by decide +kernel
theorem dX1_cutScheme_25 : decode cX1_cutScheme 25 = .ok (.getfield 12, 3) := by decide +kernel
theorem dX1_cutScheme_28 : decode cX1_cutScheme 28 = .ok (.iconst 0, 1) := by decide +kernel
theorem dX1_cutScheme_29 : decode cX1_cutScheme 29 = .ok (.iconst 0, 1) := by decide +kernel
theorem dX1_cutScheme_30 : decode cX1_cutScheme 30 = .ok (.iload_n 1, 1) := by decide +kernel
theorem dX1_cutScheme_31 : decode cX1_cutScheme 31 = .ok (.invokevirtual 43, 3) := by decide +kernel
theorem dX1_cutScheme_34 : decode cX1_cutScheme 34 = .ok (.return_, 1) := by decide +kernel
theorem dX1_cutOpaque_0 : decode cX1_cutOpaque 0 = .ok (.aload_n 0, 1) := by decide +kernel
theorem dX1_cutOpaque_1 : decode cX1_cutOpaque 1 = .ok (.iconst 1, 1) := by decide +kernel
theorem dX1_cutOpaque_2 : decode cX1_cutOpaque 2 = .ok (.iload_n 1, 1) := by decide +kernel
theorem dX1_cutOpaque_3 : decode cX1_cutOpaque 3 = .ok (.ldc 100, 2) := by decide +kernel
theorem dX1_cutOpaque_5 : decode cX1_cutOpaque 5 = .ok (.invokevirtual 102, 3) := by decide +kernel
theorem dX1_cutOpaque_8 : decode cX1_cutOpaque 8 = .ok (.istore_n 2, 1) := by decide +kernel
theorem dX1_cutOpaque_9 : decode cX1_cutOpaque 9 = .ok (.iload_n 2, 1) := by decide +kernel
theorem dX1_cutOpaque_10 : decode cX1_cutOpaque 10 = .ok (.iload_n 1, 1) := by decide +kernel
theorem dX1_cutOpaque_11 : decode cX1_cutOpaque 11 = .ok (.if_icmp .ne 8, 3) := by decide +kernel
theorem dX1_cutOpaque_14 : decode cX1_cutOpaque 14 = .ok (.aload_n 0, 1) := by decide +kernel
theorem dX1_cutOpaque_15 : decode cX1_cutOpaque 15 = .ok (.iload_n 1, 1) := by decide +kernel
theorem dX1_cutOpaque_16 : decode cX1_cutOpaque 16 = .ok (.invokevirtual 97, 3) := by decide +kernel
theorem dX1_cutOpaque_19 : decode cX1_cutOpaque 19 = .ok (.iload_n 2, 1) := by decide +kernel
theorem dX1_cutOpaque_20 : decode cX1_cutOpaque 20 = .ok (.ireturn, 1) := by decide +kernel
theorem dX1_cutAuthority_0 : decode cX1_cutAuthority 0 = .ok (.aload_n 0, 1) := by decide +kernel
theorem dX1_cutAuthority_1 : decode cX1_cutAuthority 1 = .ok (.getfield 22, 3) := by decide +kernel
theorem dX1_cutAuthority_4 : decode cX1_cutAuthority 4 = .ok (.iload_n 1, 1) := by decide +kernel
theorem dX1_cutAuthority_5 : decode cX1_cutAuthority 5 = .ok (.invokestatic 106, 3) := by decide +kernel
theorem dX1_cutAuthority_8 : decode cX1_cutAuthority 8 = .ok (.ifCond .ne 5, 3) := by decide +kernel
theorem dX1_cutAuthority_11 : decode cX1_cutAuthority 11 = .ok (.iload_n 1, 1) := by decide +kernel
theorem dX1_cutAuthority_12 : decode cX1_cutAuthority 12 = .ok (.ireturn, 1) := by decide +kernel
theorem dX1_cutAuthority_13 : decode cX1_cutAuthority 13 = .ok (.iload_n 1, 1) := by decide +kernel
theorem dX1_cutAuthority_14 : decode cX1_cutAuthority 14 = .ok (.iconst 2, 1) := by decide +kernel
theorem dX1_cutAuthority_15 : decode cX1_cutAuthority 15 = .ok (.iadd, 1) := by decide +kernel
theorem dX1_cutAuthority_16 : decode cX1_cutAuthority 16 = .ok (.istore_n 2, 1) := by decide +kernel
theorem dX1_cutAuthority_17 : decode cX1_cutAuthority 17 = .ok (.aload_n 0, 1) := by decide +kernel
theorem dX1_cutAuthority_18 : decode cX1_cutAuthority 18 = .ok (.getfield 22, 3) := by decide +kernel
theorem dX1_cutAuthority_21 : decode cX1_cutAuthority 21 = .ok (.ldc 110, 2) := by decide +kernel
theorem dX1_cutAuthority_23 : decode cX1_cutAuthority 23 = .ok (.iload_n 2, 1) := by decide +kernel
theorem dX1_cutAuthority_24 : decode cX1_cutAuthority 24 = .ok (.aload_n 0, 1) := by decide +kernel
theorem dX1_cutAuthority_25 : decode cX1_cutAuthority 25 = .ok (.getfield 22, 3) := by decide +kernel
theorem dX1_cutAuthority_28 : decode cX1_cutAuthority 28 = .ok (.invokevirtual 39, 3) := by decide +kernel
theorem dX1_cutAuthority_31 : decode cX1_cutAuthority 31 = .ok (.invokevirtual 112, 3) := by decide +kernel
theorem dX1_cutAuthority_34 : decode cX1_cutAuthority 34 = .ok (.istore_n 3, 1) := by decide +kernel
theorem dX1_cutAuthority_35 : decode cX1_cutAuthority 35 = .ok (.iload_n 3, 1) := by decide +kernel
theorem dX1_cutAuthority_36 : decode cX1_cutAuthority 36 = .ok (.iload_n 2, 1) := by decide +kernel
theorem dX1_cutAuthority_37 : decode cX1_cutAuthority 37 = .ok (.if_icmp .le 16, 3) := by decide +kernel
theorem dX1_cutAuthority_40 : decode cX1_cutAuthority 40 = .ok (.aload_n 0, 1) := by decide +kernel
theorem dX1_cutAuthority_41 : decode cX1_cutAuthority 41 = .ok (.getfield 12, 3) := by decide +kernel
theorem dX1_cutAuthority_44 : decode cX1_cutAuthority 44 = .ok (.iconst 2, 1) := by decide +kernel
theorem dX1_cutAuthority_45 : decode cX1_cutAuthority 45 = .ok (.iload_n 2, 1) := by decide +kernel
theorem dX1_cutAuthority_46 : decode cX1_cutAuthority 46 = .ok (.iload_n 3, 1) := by decide +kernel
theorem dX1_cutAuthority_47 : decode cX1_cutAuthority 47 = .ok (.invokevirtual 43, 3) := by decide +kernel
theorem dX1_cutAuthority_50 : decode cX1_cutAuthority 50 = .ok (.goto 19, 3) := by decide +kernel
theorem dX1_cutAuthority_53 : decode cX1_cutAuthority 53 = .ok (.iload_n 3, 1) := by decide +kernel
theorem dX1_cutAuthority_54 : decode cX1_cutAuthority 54 = .ok (.aload_n 0, 1) := by decide +kernel
theorem dX1_cutAuthority_55 : decode cX1_cutAuthority 55 = .ok (.getfield 22, 3) := by decide +kernel
theorem dX1_cutAuthority_58 : decode cX1_cutAuthority 58 = .ok (.invokevirtual 39, 3) := by decide +kernel
theorem dX1_cutAuthority_61 : decode cX1_cutAuthority 61 = .ok (.if_icmp .ne 8, 3) := by decide +kernel
theorem dX1_cutAuthority_64 : decode cX1_cutAuthority 64 = .ok (.aload_n 0, 1) := by decide +kernel
theorem dX1_cutAuthority_65 : decode cX1_cutAuthority 65 = .ok (.iload_n 3, 1) := by decide +kernel
theorem dX1_cutAuthority_66 : decode cX1_cutAuthority 66 = .ok (.invokevirtual 97, 3) := by decide +kernel
theorem dX1_cutAuthority_69 : decode cX1_cutAuthority 69 = .ok (.iload_n 3, 1) := by decide +kernel
theorem dX1_cutAuthority_70 : decode cX1_cutAuthority 70 = .ok (.ireturn, 1) := by decide +kernel
theorem dX1_cutPathAndQuery_0 : decode cX1_cutPathAndQuery 0 = .ok (.aload_n 0, 1) := by decide +kernel
theorem dX1_cutPathAndQuery_1 : decode cX1_cutPathAndQuery 1 = .ok (.iconst 5, 1) := by decide +kernel
theorem dX1_cutPathAndQuery_2 : decode cX1_cutPathAndQuery 2 = .ok (.iload_n 2, 1) := by decide +kernel
theorem dX1_cutPathAndQuery_3 : decode cX1_cutPathAndQuery 3 = .ok (.ldc 116, 2) := by decide +kernel
theorem dX1_cutPathAndQuery_5 : decode cX1_cutPathAndQuery 5 = .ok (.invokevirtual 102, 3) := by decide +kernel
theorem dX1_cutPathAndQuery_8 : decode cX1_cutPathAndQuery 8 = .ok (.istore_n 3, 1) := by decide +kernel
theorem dX1_cutPathAndQuery_9 : decode cX1_cutPathAndQuery 9 = .ok (.aload_n 0, 1) := by decide +kernel
theorem dX1_cutPathAndQuery_10 : decode cX1_cutPathAndQuery 10 = .ok (.getfield 22, 3) := by decide +kernel
theorem dX1_cutPathAndQuery_13 : decode cX1_cutPathAndQuery 13 = .ok (.iload_n 3, 1) := by decide +kernel
theorem dX1_cutPathAndQuery_14 : decode cX1_cutPathAndQuery 14 = .ok (.invokevirtual 57, 3) := by decide +kernel
theorem dX1_cutPathAndQuery_17 : decode cX1_cutPathAndQuery 17 = .ok (.bipush 63, 2) := by decide +kernel
theorem dX1_cutPathAndQuery_19 : decode cX1_cutPathAndQuery 19 = .ok (.if_icmp .ne 15, 3) := by decide +kernel
theorem dX1_cutPathAndQuery_22 : decode cX1_cutPathAndQuery 22 = .ok (.aload_n 0, 1) := by decide +kernel
theorem dX1_cutPathAndQuery_23 : decode cX1_cutPathAndQuery 23 = .ok (.bipush 6, 2) := by decide +kernel
theorem dX1_cutPathAndQuery_25 : decode cX1_cutPathAndQuery 25 = .ok (.iload_n 3, 1) := by decide +kernel
theorem dX1_cutPathAndQuery_26 : decode cX1_cutPathAndQuery 26 = .ok (.iconst 1, 1) := by decide +kernel
theorem dX1_cutPathAndQuery_27 : decode cX1_cutPathAndQuery 27 = .ok (.iadd, 1) := by decide +kernel
theorem dX1_cutPathAndQuery_28 : decode cX1_cutPathAndQuery 28 = .ok (.ldc 100, 2) := by decide +kernel
theorem dX1_cutPathAndQuery_30 : decode cX1_cutPathAndQuery 30 = .ok (.invokevirtual 102, 3) := by decide +kernel
theorem dX1_cutPathAndQuery_33 : decode cX1_cutPathAndQuery 33 = .ok (.istore_n 3, 1) := by decide +kernel
theorem dX1_cutPathAndQuery_34 : decode cX1_cutPathAndQuery 34 = .ok (.aload_n 0, 1) := by decide +kernel
theorem dX1_cutPathAndQuery_35 : decode cX1_cutPathAndQuery 35 = .ok (.getfield 12, 3) := by decide +kernel
theorem dX1_cutPathAndQuery_38 : decode cX1_cutPathAndQuery 38 = .ok (.iconst 1, 1) := by decide +kernel
theorem dX1_cutPathAndQuery_39 : decode cX1_cutPathAndQuery 39 = .ok (.iload_n 1, 1) := by decide +kernel
theorem dX1_cutPathAndQuery_40 : decode cX1_cutPathAndQuery 40 = .ok (.iload_n 3, 1) := by decide +kernel
theorem dX1_cutPathAndQuery_41 : decode cX1_cutPathAndQuery 41 = .ok (.invokevirtual 43, 3) := by decide +kernel
theorem dX1_cutPathAndQuery_44 : decode cX1_cutPathAndQuery 44 = .ok (.iload_n 3, 1) := by decide +kernel
theorem dX1_cutPathAndQuery_45 : decode cX1_cutPathAndQuery 45 = .ok (.ireturn, 1) := by decide +kernel
theorem dX1_cutFragment_0 : decode cX1_cutFragment 0 = .ok (.aload_n 0, 1) := by decide +kernel
theorem dX1_cutFragment_1 : decode cX1_cutFragment 1 = .ok (.getfield 22, 3) := by decide +kernel
theorem dX1_cutFragment_4 : decode cX1_cutFragment 4 = .ok (.iload_n 1, 1) := by decide +kernel
theorem dX1_cutFragment_5 : decode cX1_cutFragment 5 = .ok (.invokevirtual 57, 3) := by decide +kernel
theorem dX1_cutFragment_8 : decode cX1_cutFragment 8 = .ok (.bipush 35, 2) := by decide +kernel
theorem dX1_cutFragment_10 : decode cX1_cutFragment 10 = .ok (.if_icmp .ne 31, 3) := by decide +kernel
theorem dX1_cutFragment_13 : decode cX1_cutFragment 13 = .ok (.aload_n 0, 1) := by decide +kernel
theorem dX1_cutFragment_14 : decode cX1_cutFragment 14 = .ok (.bipush 7, 2) := by decide +kernel
theorem dX1_cutFragment_16 : decode cX1_cutFragment 16 = .ok (.iload_n 1, 1) := by decide +kernel
theorem dX1_cutFragment_17 : decode cX1_cutFragment 17 = .ok (.iconst 1, 1) := by decide +kernel
theorem dX1_cutFragment_18 : decode cX1_cutFragment 18 = .ok (.iadd, 1) := by decide +kernel
theorem dX1_cutFragment_19 : decode cX1_cutFragment 19 = .ok (.ldc 100, 2) := by decide +kernel
theorem dX1_cutFragment_21 : decode cX1_cutFragment 21 = .ok (.invokevirtual 102, 3) := by decide +kernel
theorem dX1_cutFragment_24 : decode cX1_cutFragment 24 = .ok (.istore_n 2, 1) := by decide +kernel
theorem dX1_cutFragment_25 : decode cX1_cutFragment 25 = .ok (.iload_n 2, 1) := by decide +kernel
theorem dX1_cutFragment_26 : decode cX1_cutFragment 26 = .ok (.aload_n 0, 1) := by decide +kernel
theorem dX1_cutFragment_27 : decode cX1_cutFragment 27 = .ok (.getfield 22, 3) := by decide +kernel
theorem dX1_cutFragment_30 : decode cX1_cutFragment 30 = .ok (.invokevirtual 39, 3) := by decide +kernel
theorem dX1_cutFragment_33 : decode cX1_cutFragment 33 = .ok (.if_icmp .ge 8, 3) := by decide +kernel
theorem dX1_cutFragment_36 : decode cX1_cutFragment 36 = .ok (.aload_n 0, 1) := by decide +kernel
theorem dX1_cutFragment_37 : decode cX1_cutFragment 37 = .ok (.iload_n 2, 1) := by decide +kernel
theorem dX1_cutFragment_38 : decode cX1_cutFragment 38 = .ok (.invokevirtual 97, 3) := by decide +kernel
theorem dX1_cutFragment_41 : decode cX1_cutFragment 41 = .ok (.return_, 1) := by decide +kernel
theorem dX1_cutServer_0 : decode cX1_cutServer 0 = .ok (.aload_n 0, 1) := by decide +kernel
theorem dX1_cutServer_1 : decode cX1_cutServer 1 = .ok (.getfield 22, 3) := by decide +kernel
theorem dX1_cutServer_4 : decode cX1_cutServer 4 = .ok (.ldc 118, 2) := by decide +kernel
theorem dX1_cutServer_6 : decode cX1_cutServer 6 = .ok (.iload_n 1, 1) := by decide +kernel
theorem dX1_cutServer_7 : decode cX1_cutServer 7 = .ok (.iload_n 2, 1) := by decide +kernel
theorem dX1_cutServer_8 : decode cX1_cutServer 8 = .ok (.invokevirtual 112, 3) := by decide +kernel
theorem dX1_cutServer_11 : decode cX1_cutServer 11 = .ok (.istore_n 3, 1) := by decide +kernel
theorem dX1_cutServer_12 : decode cX1_cutServer 12 = .ok (.iload_n 3, 1) := by decide +kernel
theorem dX1_cutServer_13 : decode cX1_cutServer 13 = .ok (.iload_n 2, 1) := by decide +kernel
theorem dX1_cutServer_14 : decode cX1_cutServer 14 = .ok (.if_icmp .ge 9, 3) := by decide +kernel
theorem dX1_cutServer_17 : decode cX1_cutServer 17 = .ok (.iload_n 3, 1) := by decide +kernel
theorem dX1_cutServer_18 : decode cX1_cutServer 18 = .ok (.iconst 1, 1) := by decide +kernel
theorem dX1_cutServer_19 : decode cX1_cutServer 19 = .ok (.iadd, 1) := by decide +kernel
theorem dX1_cutServer_20 : decode cX1_cutServer 20 = .ok (.goto 4, 3) := by decide +kernel
theorem dX1_cutServer_23 : decode cX1_cutServer 23 = .ok (.iload_n 1, 1) := by decide +kernel
theorem dX1_cutServer_24 : decode cX1_cutServer 24 = .ok (.istore 4, 2) := by decide +kernel
theorem dX1_cutServer_26 : decode cX1_cutServer 26 = .ok (.aload_n 0, 1) := by decide +kernel
theorem dX1_cutServer_27 : decode cX1_cutServer 27 = .ok (.getfield 22, 3) := by decide +kernel
theorem dX1_cutServer_30 : decode cX1_cutServer 30 = .ok (.ldc 120, 2) := by decide +kernel
theorem dX1_cutServer_32 : decode cX1_cutServer 32 = .ok (.iload 4, 2) := by decide +kernel
theorem dX1_cutServer_34 : decode cX1_cutServer 34 = .ok (.iload_n 2, 1) := by decide +kernel
theorem dX1_cutServer_35 : decode cX1_cutServer 35 = .ok (.invokevirtual 112, 3) := by decide +kernel
theorem dX1_cutServer_38 : decode cX1_cutServer 38 = .ok (.istore 5, 2) := by decide +kernel
theorem dX1_cutServer_40 : decode cX1_cutServer 40 = .ok (.aload_n 0, 1) := by decide +kernel
theorem dX1_cutServer_41 : decode cX1_cutServer 41 = .ok (.getfield 22, 3) := by decide +kernel
theorem dX1_cutServer_44 : decode cX1_cutServer 44 = .ok (.iload 4, 2) := by decide +kernel
theorem dX1_cutServer_46 : decode cX1_cutServer 46 = .ok (.iload 5, 2) := by decide +kernel
theorem dX1_cutServer_48 : decode cX1_cutServer 48 = .ok (.invokestatic 122, 3) := by decide +kernel
theorem dX1_cutServer_51 : decode cX1_cutServer 51 = .ok (.ifCond .ne 17, 3) := by decide +kernel
theorem dX1_cutServer_54 : decode cX1_cutServer 54 = .ok (.aload_n 0, 1) := by decide +kernel
theorem dX1_cutServer_55 : decode cX1_cutServer 55 = .ok (.getfield 22, 3) := by decide +kernel
theorem dX1_cutServer_58 : decode cX1_cutServer 58 = .ok (.iload 4, 2) := by decide +kernel
theorem dX1_cutServer_60 : decode cX1_cutServer 60 = .ok (.iload 5, 2) := by decide +kernel
theorem dX1_cutServer_62 : decode cX1_cutServer 62 = .ok (.invokestatic 126, 3) := by decide +kernel
theorem dX1_cutServer_65 : decode cX1_cutServer 65 = .ok (.ifCond .eq 7, 3) := by decide +kernel
theorem dX1_cutServer_68 : decode cX1_cutServer 68 = .ok (.iconst 1, 1) := by decide +kernel
theorem dX1_cutServer_69 : decode cX1_cutServer 69 = .ok (.goto 4, 3) := by decide +kernel
theorem dX1_cutServer_72 : decode cX1_cutServer 72 = .ok (.iconst 0, 1) := by decide +kernel
theorem dX1_cutServer_73 : decode cX1_cutServer 73 = .ok (.istore 6, 2) := by decide +kernel
theorem dX1_cutServer_75 : decode cX1_cutServer 75 = .ok (.iload 6, 2) := by decide +kernel
theorem dX1_cutServer_77 : decode cX1_cutServer 77 = .ok (.ifCond .eq 66, 3) := by decide +kernel
theorem dX1_cutServer_80 : decode cX1_cutServer 80 = .ok (.aload_n 0, 1) := by decide +kernel
theorem dX1_cutServer_81 : decode cX1_cutServer 81 = .ok (.getfield 22, 3) := by decide +kernel
theorem dX1_cutServer_84 : decode cX1_cutServer 84 = .ok (.iload 5, 2) := by decide +kernel
theorem dX1_cutServer_86 : decode cX1_cutServer 86 = .ok (.iconst 1, 1) := by decide +kernel
theorem dX1_cutServer_87 : decode cX1_cutServer 87 = .ok (.iadd, 1) := by decide +kernel
theorem dX1_cutServer_88 : decode cX1_cutServer 88 = .ok (.iload_n 2, 1) := by decide +kernel
theorem dX1_cutServer_89 : decode cX1_cutServer 89 = .ok (.invokestatic 129, 3) := by decide +kernel
theorem dX1_cutServer_92 : decode cX1_cutServer 92 = .ok (.ifCond .eq 51, 3) := by decide +kernel
theorem dX1_cutServer_95 : decode cX1_cutServer 95 = .ok (.iload_n 3, 1) := by decide +kernel
theorem dX1_cutServer_96 : decode cX1_cutServer 96 = .ok (.iload_n 2, 1) := by decide +kernel
theorem dX1_cutServer_97 : decode cX1_cutServer 97 = .ok (.if_icmp .ge 13, 3) := by decide +kernel
theorem dX1_cutServer_100 : decode cX1_cutServer 100 = .ok (.aload_n 0, 1) := by decide +kernel
theorem dX1_cutServer_101 : decode cX1_cutServer 101 = .ok (.getfield 12, 3) := by decide +kernel
theorem dX1_cutServer_104 : decode cX1_cutServer 104 = .ok (.iconst 3, 1) := by decide +kernel
theorem dX1_cutServer_105 : decode cX1_cutServer 105 = .ok (.iload_n 1, 1) := by decide +kernel
theorem dX1_cutServer_106 : decode cX1_cutServer 106 = .ok (.iload_n 3, 1) := by decide +kernel
theorem dX1_cutServer_107 : decode cX1_cutServer 107 = .ok (.invokevirtual 43, 3) := by decide +kernel
theorem dX1_cutServer_110 : decode cX1_cutServer 110 = .ok (.aload_n 0, 1) := by decide +kernel
theorem dX1_cutServer_111 : decode cX1_cutServer 111 = .ok (.getfield 12, 3) := by decide +kernel
theorem dX1_cutServer_114 : decode cX1_cutServer 114 = .ok (.iconst 4, 1) := by decide +kernel
theorem dX1_cutServer_115 : decode cX1_cutServer 115 = .ok (.iload 4, 2) := by decide +kernel
theorem dX1_cutServer_117 : decode cX1_cutServer 117 = .ok (.iload 5, 2) := by decide +kernel
theorem dX1_cutServer_119 : decode cX1_cutServer 119 = .ok (.invokevirtual 43, 3) := by decide +kernel
theorem dX1_cutServer_122 : decode cX1_cutServer 122 = .ok (.aload_n 0, 1) := by decide +kernel
theorem dX1_cutServer_123 : decode cX1_cutServer 123 = .ok (.getfield 12, 3) := by decide +kernel
theorem dX1_cutServer_126 : decode cX1_cutServer 126 = .ok (.aload_n 0, 1) := by decide +kernel
theorem dX1_cutServer_127 : decode cX1_cutServer 127 = .ok (.getfield 22, 3) := by decide +kernel
theorem dX1_cutServer_130 : decode cX1_cutServer 130 = .ok (.iload 5, 2) := by decide +kernel
theorem dX1_cutServer_132 : decode cX1_cutServer 132 = .ok (.iconst 1, 1) := by decide +kernel
theorem dX1_cutServer_133 : decode cX1_cutServer 133 = .ok (.iadd, 1) := by decide +kernel
theorem dX1_cutServer_134 : decode cX1_cutServer 134 = .ok (.iload_n 2, 1) := by decide +kernel
theorem dX1_cutServer_135 : decode cX1_cutServer 135 = .ok (.ldc 132, 2) := by decide +kernel
theorem dX1_cutServer_137 : decode cX1_cutServer 137 = .ok (.invokestatic 133, 3) := by decide +kernel
theorem dX1_cutServer_140 : decode cX1_cutServer 140 = .ok (.invokevirtual 137, 3) := by decide +kernel
theorem dX1_cutServer_143 : decode cX1_cutServer 143 = .ok (.return_, 1) := by decide +kernel
theorem dX1_cutPart_0 : decode cX1_cutPart 0 = .ok (.aload_n 0, 1) := by decide +kernel
theorem dX1_cutPart_1 : decode cX1_cutPart 1 = .ok (.getfield 22, 3) := by decide +kernel
theorem dX1_cutPart_4 : decode cX1_cutPart 4 = .ok (.aload_n 3, 1) := by decide +kernel
theorem dX1_cutPart_5 : decode cX1_cutPart 5 = .ok (.iload_n 2, 1) := by decide +kernel
theorem dX1_cutPart_6 : decode cX1_cutPart 6 = .ok (.aload_n 0, 1) := by decide +kernel
theorem dX1_cutPart_7 : decode cX1_cutPart 7 = .ok (.getfield 22, 3) := by decide +kernel
theorem dX1_cutPart_10 : decode cX1_cutPart 10 = .ok (.invokevirtual 39, 3) := by decide +kernel
theorem dX1_cutPart_13 : decode cX1_cutPart 13 = .ok (.invokevirtual 112, 3) := by decide +kernel
theorem dX1_cutPart_16 : decode cX1_cutPart 16 = .ok (.istore 4, 2) := by decide +kernel
theorem dX1_cutPart_18 : decode cX1_cutPart 18 = .ok (.aload_n 0, 1) := by decide +kernel
theorem dX1_cutPart_19 : decode cX1_cutPart 19 = .ok (.getfield 22, 3) := by decide +kernel
theorem dX1_cutPart_22 : decode cX1_cutPart 22 = .ok (.ldc 140, 2) := by decide +kernel
theorem dX1_cutPart_24 : decode cX1_cutPart 24 = .ok (.iload_n 2, 1) := by decide +kernel
theorem dX1_cutPart_25 : decode cX1_cutPart 25 = .ok (.iload 4, 2) := by decide +kernel
theorem dX1_cutPart_27 : decode cX1_cutPart 27 = .ok (.invokevirtual 112, 3) := by decide +kernel
theorem dX1_cutPart_30 : decode cX1_cutPart 30 = .ok (.istore 5, 2) := by decide +kernel
theorem dX1_cutPart_32 : decode cX1_cutPart 32 = .ok (.iload 5, 2) := by decide +kernel
theorem dX1_cutPart_34 : decode cX1_cutPart 34 = .ok (.iload 4, 2) := by decide +kernel
theorem dX1_cutPart_36 : decode cX1_cutPart 36 = .ok (.if_icmp .ge 9, 3) := by decide +kernel
theorem dX1_cutPart_39 : decode cX1_cutPart 39 = .ok (.aload_n 0, 1) := by decide +kernel
theorem dX1_cutPart_40 : decode cX1_cutPart 40 = .ok (.iload 5, 2) := by decide +kernel
theorem dX1_cutPart_42 : decode cX1_cutPart 42 = .ok (.invokevirtual 97, 3) := by decide +kernel
theorem dX1_cutPart_45 : decode cX1_cutPart 45 = .ok (.aload_n 0, 1) := by decide +kernel
theorem dX1_cutPart_46 : decode cX1_cutPart 46 = .ok (.getfield 12, 3) := by decide +kernel
theorem dX1_cutPart_49 : decode cX1_cutPart 49 = .ok (.iload_n 1, 1) := by decide +kernel
theorem dX1_cutPart_50 : decode cX1_cutPart 50 = .ok (.iload_n 2, 1) := by decide +kernel
theorem dX1_cutPart_51 : decode cX1_cutPart 51 = .ok (.iload 4, 2) := by decide +kernel
theorem dX1_cutPart_53 : decode cX1_cutPart 53 = .ok (.invokevirtual 43, 3) := by decide +kernel
theorem dX1_cutPart_56 : decode cX1_cutPart 56 = .ok (.iload 4, 2) := by decide +kernel
theorem dX1_cutPart_58 : decode cX1_cutPart 58 = .ok (.ireturn, 1) := by decide +kernel
theorem dX2_isLetter_0 : decode cX2_isLetter 0 = .ok (.iload_n 0, 1) := by decide +kernel
theorem dX2_isLetter_1 : decode cX2_isLetter 1 = .ok (.bipush 97, 2) := by decide +kernel
theorem dX2_isLetter_3 : decode cX2_isLetter 3 = .ok (.if_icmp .lt 9, 3) := by decide +kernel
theorem dX2_isLetter_6 : decode cX2_isLetter 6 = .ok (.iload_n 0, 1) := by decide +kernel
theorem dX2_isLetter_7 : decode cX2_isLetter 7 = .ok (.bipush 122, 2) := by decide +kernel
theorem dX2_isLetter_9 : decode cX2_isLetter 9 = .ok (.if_icmp .le 15, 3) := by decide +kernel
theorem dX2_isLetter_12 : decode cX2_isLetter 12 = .ok (.iload_n 0, 1) := by decide +kernel
theorem dX2_isLetter_13 : decode cX2_isLetter 13 = .ok (.bipush 65, 2) := by decide +kernel
theorem dX2_isLetter_15 : decode cX2_isLetter 15 = .ok (.if_icmp .lt 13, 3) := by decide +kernel
theorem dX2_isLetter_18 : decode cX2_isLetter 18 = .ok (.iload_n 0, 1) := by decide +kernel
theorem dX2_isLetter_19 : decode cX2_isLetter 19 = .ok (.bipush 90, 2) := by decide +kernel
theorem dX2_isLetter_21 : decode cX2_isLetter 21 = .ok (.if_icmp .gt 7, 3) := by decide +kernel
theorem dX2_isLetter_24 : decode cX2_isLetter 24 = .ok (.iconst 1, 1) := by decide +kernel
theorem dX2_isLetter_25 : decode cX2_isLetter 25 = .ok (.goto 4, 3) := by decide +kernel
theorem dX2_isLetter_28 : decode cX2_isLetter 28 = .ok (.iconst 0, 1) := by decide +kernel
theorem dX2_isLetter_29 : decode cX2_isLetter 29 = .ok (.ireturn, 1) := by decide +kernel
theorem dX2_isDigit_0 : decode cX2_isDigit 0 = .ok (.iload_n 0, 1) := by decide +kernel
theorem dX2_isDigit_1 : decode cX2_isDigit 1 = .ok (.bipush 48, 2) := by decide +kernel
theorem dX2_isDigit_3 : decode cX2_isDigit 3 = .ok (.if_icmp .lt 13, 3) := by decide +kernel
theorem dX2_isDigit_6 : decode cX2_isDigit 6 = .ok (.iload_n 0, 1) := by decide +kernel
theorem dX2_isDigit_7 : decode cX2_isDigit 7 = .ok (.bipush 57, 2) := by decide +kernel
theorem dX2_isDigit_9 : decode cX2_isDigit 9 = .ok (.if_icmp .gt 7, 3) := by decide +kernel
theorem dX2_isDigit_12 : decode cX2_isDigit 12 = .ok (.iconst 1, 1) := by decide +kernel
theorem dX2_isDigit_13 : decode cX2_isDigit 13 = .ok (.goto 4, 3) := by decide +kernel
theorem dX2_isDigit_16 : decode cX2_isDigit 16 = .ok (.iconst 0, 1) := by decide +kernel
theorem dX2_isDigit_17 : decode cX2_isDigit 17 = .ok (.ireturn, 1) := by decide +kernel
theorem dX2_isSlashed_0 : decode cX2_isSlashed 0 = .ok (.aload_n 0, 1) := by decide +kernel
theorem dX2_isSlashed_1 : decode cX2_isSlashed 1 = .ok (.iload_n 1, 1) := by decide +kernel
theorem dX2_isSlashed_2 : decode cX2_isSlashed 2 = .ok (.invokevirtual 9, 3) := by decide +kernel
theorem dX2_isSlashed_5 : decode cX2_isSlashed 5 = .ok (.bipush 47, 2) := by decide +kernel
theorem dX2_isSlashed_7 : decode cX2_isSlashed 7 = .ok (.if_icmp .ne 19, 3) := by decide +kernel
theorem dX2_isSlashed_10 : decode cX2_isSlashed 10 = .ok (.aload_n 0, 1) := by decide +kernel
theorem dX2_isSlashed_11 : decode cX2_isSlashed 11 = .ok (.iload_n 1, 1) := by decide +kernel
theorem dX2_isSlashed_12 : decode cX2_isSlashed 12 = .ok (.iconst 1, 1) := by decide +kernel
theorem dX2_isSlashed_13 : decode cX2_isSlashed 13 = .ok (.iadd, 1) := by decide +kernel
theorem dX2_isSlashed_14 : decode cX2_isSlashed 14 = .ok (.invokevirtual 9, 3) := by decide +kernel
theorem dX2_isSlashed_17 : decode cX2_isSlashed 17 = .ok (.bipush 47, 2) := by decide +kernel
theorem dX2_isSlashed_19 : decode cX2_isSlashed 19 = .ok (.if_icmp .ne 7, 3) := by decide +kernel
theorem dX2_isSlashed_22 : decode cX2_isSlashed 22 = .ok (.iconst 1, 1) := by decide +kernel
theorem dX2_isSlashed_23 : decode cX2_isSlashed 23 = .ok (.goto 4, 3) := by decide +kernel
theorem dX2_isSlashed_26 : decode cX2_isSlashed 26 = .ok (.iconst 0, 1) := by decide +kernel
theorem dX2_isSlashed_27 : decode cX2_isSlashed 27 = .ok (.ireturn, 1) := by decide +kernel
theorem dX2_schemeColon_0 : decode cX2_schemeColon 0 = .ok (.aload_n 0, 1) := by decide +kernel
theorem dX2_schemeColon_1 : decode cX2_schemeColon 1 = .ok (.ldc 15, 2) := by decide +kernel
theorem dX2_schemeColon_3 : decode cX2_schemeColon 3 = .ok (.iconst 0, 1) := by decide +kernel
theorem dX2_schemeColon_4 : decode cX2_schemeColon 4 = .ok (.aload_n 0, 1) := by decide +kernel
theorem dX2_schemeColon_5 : decode cX2_schemeColon 5 = .ok (.invokevirtual 17, 3) := by decide +kernel
theorem dX2_schemeColon_8 : decode cX2_schemeColon 8 = .ok (.invokevirtual 21, 3) := by decide +kernel
theorem dX2_schemeColon_11 : decode cX2_schemeColon 11 = .ok (.istore_n 1, 1) := by decide +kernel
theorem dX2_schemeColon_12 : decode cX2_schemeColon 12 = .ok (.aload_n 0, 1) := by decide +kernel
theorem dX2_schemeColon_13 : decode cX2_schemeColon 13 = .ok (.iload_n 1, 1) := by decide +kernel
theorem dX2_schemeColon_14 : decode cX2_schemeColon 14 = .ok (.invokevirtual 9, 3) := by decide +kernel
theorem dX2_schemeColon_17 : decode cX2_schemeColon 17 = .ok (.bipush 58, 2) := by decide +kernel
theorem dX2_schemeColon_19 : decode cX2_schemeColon 19 = .ok (.if_icmp .ne 7, 3) := by decide +kernel
theorem dX2_schemeColon_22 : decode cX2_schemeColon 22 = .ok (.iload_n 1, 1) := by decide +kernel
theorem dX2_schemeColon_23 : decode cX2_schemeColon 23 = .ok (.goto 4, 3) := by decide +kernel
theorem dX2_schemeColon_26 : decode cX2_schemeColon 26 = .ok (.iconst (-1), 1) := by decide +kernel
theorem dX2_schemeColon_27 : decode cX2_schemeColon 27 = .ok (.ireturn, 1) := by decide +kernel
theorem dX2_wrongInScheme_0 : decode cX2_wrongInScheme 0 = .ok (.iload_n 1, 1) := by decide +kernel
theorem dX2_wrongInScheme_1 : decode cX2_wrongInScheme 1 = .ok (.ifCond .eq 14, 3) := by decide +kernel
theorem dX2_wrongInScheme_4 : decode cX2_wrongInScheme 4 = .ok (.aload_n 0, 1) := by decide +kernel
theorem dX2_wrongInScheme_5 : decode cX2_wrongInScheme 5 = .ok (.iconst 0, 1) := by decide +kernel
theorem dX2_wrongInScheme_6 : decode cX2_wrongInScheme 6 = .ok (.invokevirtual 9, 3) := by decide +kernel
theorem dX2_wrongInScheme_9 : decode cX2_wrongInScheme 9 = .ok (.invokestatic 25, 3) := by decide +kernel
theorem dX2_wrongInScheme_12 : decode cX2_wrongInScheme 12 = .ok (.ifCond .ne 5, 3) := by decide +kernel
theorem dX2_wrongInScheme_15 : decode cX2_wrongInScheme 15 = .ok (.iconst 0, 1) := by decide +kernel
theorem dX2_wrongInScheme_16 : decode cX2_wrongInScheme 16 = .ok (.ireturn, 1) := by decide +kernel
theorem dX2_wrongInScheme_17 : decode cX2_wrongInScheme 17 = .ok (.iconst 1, 1) := by decide +kernel
theorem dX2_wrongInScheme_18 : decode cX2_wrongInScheme 18 = .ok (.istore_n 2, 1) := by decide +kernel
theorem dX2_wrongInScheme_19 : decode cX2_wrongInScheme 19 = .ok (.iload_n 2, 1) := by decide +kernel
theorem dX2_wrongInScheme_20 : decode cX2_wrongInScheme 20 = .ok (.iload_n 1, 1) := by decide +kernel
theorem dX2_wrongInScheme_21 : decode cX2_wrongInScheme 21 = .ok (.if_icmp .ge 40, 3) := by decide +kernel
theorem dX2_wrongInScheme_24 : decode cX2_wrongInScheme 24 = .ok (.aload_n 0, 1) := by decide +kernel
theorem dX2_wrongInScheme_25 : decode cX2_wrongInScheme 25 = .ok (.iload_n 2, 1) := by decide +kernel
theorem dX2_wrongInScheme_26 : decode cX2_wrongInScheme 26 = .ok (.invokevirtual 9, 3) := by decide +kernel
theorem dX2_wrongInScheme_29 : decode cX2_wrongInScheme 29 = .ok (.istore_n 3, 1) := by decide +kernel
theorem dX2_wrongInScheme_30 : decode cX2_wrongInScheme 30 = .ok (.iload_n 3, 1) := by decide +kernel
theorem dX2_wrongInScheme_31 : decode cX2_wrongInScheme 31 = .ok (.invokestatic 25, 3) := by decide +kernel
theorem dX2_wrongInScheme_34 : decode cX2_wrongInScheme 34 = .ok (.ifCond .ne 21, 3) := by decide +kernel
theorem dX2_wrongInScheme_37 : decode cX2_wrongInScheme 37 = .ok (.iload_n 3, 1) := by decide +kernel
theorem dX2_wrongInScheme_38 : decode cX2_wrongInScheme 38 = .ok (.invokestatic 31, 3) := by decide +kernel
theorem dX2_wrongInScheme_41 : decode cX2_wrongInScheme 41 = .ok (.ifCond .ne 14, 3) := by decide +kernel
theorem dX2_wrongInScheme_44 : decode cX2_wrongInScheme 44 = .ok (.ldc 34, 2) := by decide +kernel
theorem dX2_wrongInScheme_46 : decode cX2_wrongInScheme 46 = .ok (.iload_n 3, 1) := by decide +kernel
theorem dX2_wrongInScheme_47 : decode cX2_wrongInScheme 47 = .ok (.invokevirtual 36, 3) := by decide +kernel
theorem dX2_wrongInScheme_50 : decode cX2_wrongInScheme 50 = .ok (.ifCond .ge 5, 3) := by decide +kernel
theorem dX2_wrongInScheme_53 : decode cX2_wrongInScheme 53 = .ok (.iload_n 2, 1) := by decide +kernel
theorem dX2_wrongInScheme_54 : decode cX2_wrongInScheme 54 = .ok (.ireturn, 1) := by decide +kernel
theorem dX2_wrongInScheme_55 : decode cX2_wrongInScheme 55 = .ok (.iinc 2 1, 3) := by decide +kernel
theorem dX2_wrongInScheme_58 : decode cX2_wrongInScheme 58 = .ok (.goto (-39), 3) := by decide +kernel
theorem dX2_wrongInScheme_61 : decode cX2_wrongInScheme 61 = .ok (.iconst (-1), 1) := by decide +kernel
theorem dX2_wrongInScheme_62 : decode cX2_wrongInScheme 62 = .ok (.ireturn, 1) := by decide +kernel
theorem dX2_isAuthorityBad_0 : decode cX2_isAuthorityBad 0 = .ok (.aload_n 0, 1) := by decide +kernel
theorem dX2_isAuthorityBad_1 : decode cX2_isAuthorityBad 1 = .ok (.invokestatic 42, 3) := by decide +kernel
theorem dX2_isAuthorityBad_4 : decode cX2_isAuthorityBad 4 = .ok (.iconst 1, 1) := by decide +kernel
theorem dX2_isAuthorityBad_5 : decode cX2_isAuthorityBad 5 = .ok (.iadd, 1) := by decide +kernel
theorem dX2_isAuthorityBad_6 : decode cX2_isAuthorityBad 6 = .ok (.istore_n 1, 1) := by decide +kernel
theorem dX2_isAuthorityBad_7 : decode cX2_isAuthorityBad 7 = .ok (.aload_n 0, 1) := by decide +kernel
theorem dX2_isAuthorityBad_8 : decode cX2_isAuthorityBad 8 = .ok (.iload_n 1, 1) := by decide +kernel
theorem dX2_isAuthorityBad_9 : decode cX2_isAuthorityBad 9 = .ok (.invokestatic 46, 3) := by decide +kernel
theorem dX2_isAuthorityBad_12 : decode cX2_isAuthorityBad 12 = .ok (.ifCond .ne 5, 3) := by decide +kernel
theorem dX2_isAuthorityBad_15 : decode cX2_isAuthorityBad 15 = .ok (.iconst 0, 1) := by decide +kernel
theorem dX2_isAuthorityBad_16 : decode cX2_isAuthorityBad 16 = .ok (.ireturn, 1) := by decide +kernel
theorem dX2_isAuthorityBad_17 : decode cX2_isAuthorityBad 17 = .ok (.iload_n 1, 1) := by decide +kernel
theorem dX2_isAuthorityBad_18 : decode cX2_isAuthorityBad 18 = .ok (.iconst 2, 1) := by decide +kernel
theorem dX2_isAuthorityBad_19 : decode cX2_isAuthorityBad 19 = .ok (.iadd, 1) := by decide +kernel
theorem dX2_isAuthorityBad_20 : decode cX2_isAuthorityBad 20 = .ok (.istore_n 2, 1) := by decide +kernel
theorem dX2_isAuthorityBad_21 : decode cX2_isAuthorityBad 21 = .ok (.aload_n 0, 1) := by decide +kernel
theorem dX2_isAuthorityBad_22 : decode cX2_isAuthorityBad 22 = .ok (.ldc 50, 2) := by decide +kernel
theorem dX2_isAuthorityBad_24 : decode cX2_isAuthorityBad 24 = .ok (.iload_n 2, 1) := by decide +kernel
theorem dX2_isAuthorityBad_25 : decode cX2_isAuthorityBad 25 = .ok (.aload_n 0, 1) := by decide +kernel
theorem dX2_isAuthorityBad_26 : decode cX2_isAuthorityBad 26 = .ok (.invokevirtual 17, 3) := by decide +kernel
theorem dX2_isAuthorityBad_29 : decode cX2_isAuthorityBad 29 = .ok (.invokevirtual 21, 3) := by decide +kernel
theorem dX2_isAuthorityBad_32 : decode cX2_isAuthorityBad 32 = .ok (.istore_n 3, 1) := by decide +kernel
theorem dX2_isAuthorityBad_33 : decode cX2_isAuthorityBad 33 = .ok (.aload_n 0, 1) := by decide +kernel
theorem dX2_isAuthorityBad_34 : decode cX2_isAuthorityBad 34 = .ok (.ldc 52, 2) := by decide +kernel
theorem dX2_isAuthorityBad_36 : decode cX2_isAuthorityBad 36 = .ok (.iload_n 2, 1) := by decide +kernel
theorem dX2_isAuthorityBad_37 : decode cX2_isAuthorityBad 37 = .ok (.iload_n 3, 1) := by decide +kernel
theorem dX2_isAuthorityBad_38 : decode cX2_isAuthorityBad 38 = .ok (.invokevirtual 21, 3) := by decide +kernel
theorem dX2_isAuthorityBad_41 : decode cX2_isAuthorityBad 41 = .ok (.iload_n 3, 1) := by decide +kernel
theorem dX2_isAuthorityBad_42 : decode cX2_isAuthorityBad 42 = .ok (.if_icmp .ge 7, 3) := by decide +kernel
theorem dX2_isAuthorityBad_45 : decode cX2_isAuthorityBad 45 = .ok (.iconst 1, 1) := by decide +kernel
theorem dX2_isAuthorityBad_46 : decode cX2_isAuthorityBad 46 = .ok (.goto 4, 3) := by decide +kernel
theorem dX2_isAuthorityBad_49 : decode cX2_isAuthorityBad 49 = .ok (.iconst 0, 1) := by decide +kernel
theorem dX2_isAuthorityBad_50 : decode cX2_isAuthorityBad 50 = .ok (.ireturn, 1) := by decide +kernel
theorem dX2_isName_0 : decode cX2_isName 0 = .ok (.iload_n 2, 1) := by decide +kernel
theorem dX2_isName_1 : decode cX2_isName 1 = .ok (.iload_n 1, 1) := by decide +kernel
theorem dX2_isName_2 : decode cX2_isName 2 = .ok (.if_icmp .le 21, 3) := by decide +kernel
theorem dX2_isName_5 : decode cX2_isName 5 = .ok (.aload_n 0, 1) := by decide +kernel
theorem dX2_isName_6 : decode cX2_isName 6 = .ok (.iload_n 2, 1) := by decide +kernel
theorem dX2_isName_7 : decode cX2_isName 7 = .ok (.iconst 1, 1) := by decide +kernel
theorem dX2_isName_8 : decode cX2_isName 8 = .ok (.isub, 1) := by decide +kernel
theorem dX2_isName_9 : decode cX2_isName 9 = .ok (.invokevirtual 9, 3) := by decide +kernel
theorem dX2_isName_12 : decode cX2_isName 12 = .ok (.bipush 46, 2) := by decide +kernel
theorem dX2_isName_14 : decode cX2_isName 14 = .ok (.if_icmp .ne 9, 3) := by decide +kernel
theorem dX2_isName_17 : decode cX2_isName 17 = .ok (.iload_n 2, 1) := by decide +kernel
theorem dX2_isName_18 : decode cX2_isName 18 = .ok (.iconst 1, 1) := by decide +kernel
theorem dX2_isName_19 : decode cX2_isName 19 = .ok (.isub, 1) := by decide +kernel
theorem dX2_isName_20 : decode cX2_isName 20 = .ok (.goto 4, 3) := by decide +kernel
theorem dX2_isName_23 : decode cX2_isName 23 = .ok (.iload_n 2, 1) := by decide +kernel
theorem dX2_isName_24 : decode cX2_isName 24 = .ok (.istore_n 3, 1) := by decide +kernel
theorem dX2_isName_25 : decode cX2_isName 25 = .ok (.iload_n 1, 1) := by decide +kernel
theorem dX2_isName_26 : decode cX2_isName 26 = .ok (.istore 4, 2) := by decide +kernel
theorem dX2_isName_28 : decode cX2_isName 28 = .ok (.iload_n 1, 1) := by decide +kernel
theorem dX2_isName_29 : decode cX2_isName 29 = .ok (.istore 5, 2) := by decide +kernel
theorem dX2_isName_31 : decode cX2_isName 31 = .ok (.iload_n 1, 1) := by decide +kernel
theorem dX2_isName_32 : decode cX2_isName 32 = .ok (.istore 6, 2) := by decide +kernel
theorem dX2_isName_34 : decode cX2_isName 34 = .ok (.iload 6, 2) := by decide +kernel
theorem dX2_isName_36 : decode cX2_isName 36 = .ok (.iload_n 3, 1) := by decide +kernel
theorem dX2_isName_37 : decode cX2_isName 37 = .ok (.if_icmp .gt 49, 3) := by decide +kernel
theorem dX2_isName_40 : decode cX2_isName 40 = .ok (.iload 6, 2) := by decide +kernel
theorem dX2_isName_42 : decode cX2_isName 42 = .ok (.iload_n 3, 1) := by decide +kernel
theorem dX2_isName_43 : decode cX2_isName 43 = .ok (.if_icmp .eq 14, 3) := by decide +kernel
theorem dX2_isName_46 : decode cX2_isName 46 = .ok (.aload_n 0, 1) := by decide +kernel
theorem dX2_isName_47 : decode cX2_isName 47 = .ok (.iload 6, 2) := by decide +kernel
theorem dX2_isName_49 : decode cX2_isName 49 = .ok (.invokevirtual 9, 3) := by decide +kernel
theorem dX2_isName_52 : decode cX2_isName 52 = .ok (.bipush 46, 2) := by decide +kernel
theorem dX2_isName_54 : decode cX2_isName 54 = .ok (.if_icmp .ne 26, 3) := by decide +kernel
theorem dX2_isName_57 : decode cX2_isName 57 = .ok (.aload_n 0, 1) := by decide +kernel
theorem dX2_isName_58 : decode cX2_isName 58 = .ok (.iload 4, 2) := by decide +kernel
theorem dX2_isName_60 : decode cX2_isName 60 = .ok (.iload 6, 2) := by decide +kernel
theorem dX2_isName_62 : decode cX2_isName 62 = .ok (.invokestatic 54, 3) := by decide +kernel
theorem dX2_isName_65 : decode cX2_isName 65 = .ok (.ifCond .ne 5, 3) := by decide +kernel
theorem dX2_isName_68 : decode cX2_isName 68 = .ok (.iconst 0, 1) := by decide +kernel
theorem dX2_isName_69 : decode cX2_isName 69 = .ok (.ireturn, 1) := by decide +kernel
theorem dX2_isName_70 : decode cX2_isName 70 = .ok (.iload 4, 2) := by decide +kernel
theorem dX2_isName_72 : decode cX2_isName 72 = .ok (.istore 5, 2) := by decide +kernel
theorem dX2_isName_74 : decode cX2_isName 74 = .ok (.iload 6, 2) := by decide +kernel
theorem dX2_isName_76 : decode cX2_isName 76 = .ok (.iconst 1, 1) := by decide +kernel
theorem dX2_isName_77 : decode cX2_isName 77 = .ok (.iadd, 1) := by decide +kernel
theorem dX2_isName_78 : decode cX2_isName 78 = .ok (.istore 4, 2) := by decide +kernel
theorem dX2_isName_80 : decode cX2_isName 80 = .ok (.iinc 6 1, 3) := by decide +kernel
theorem dX2_isName_83 : decode cX2_isName 83 = .ok (.goto (-49), 3) := by decide +kernel
theorem dX2_isName_86 : decode cX2_isName 86 = .ok (.iload 5, 2) := by decide +kernel
theorem dX2_isName_88 : decode cX2_isName 88 = .ok (.iload_n 1, 1) := by decide +kernel
theorem dX2_isName_89 : decode cX2_isName 89 = .ok (.if_icmp .eq 15, 3) := by decide +kernel
theorem dX2_isName_92 : decode cX2_isName 92 = .ok (.aload_n 0, 1) := by decide +kernel
theorem dX2_isName_93 : decode cX2_isName 93 = .ok (.iload 5, 2) := by decide +kernel
theorem dX2_isName_95 : decode cX2_isName 95 = .ok (.invokevirtual 9, 3) := by decide +kernel
theorem dX2_isName_98 : decode cX2_isName 98 = .ok (.invokestatic 25, 3) := by decide +kernel
theorem dX2_isName_101 : decode cX2_isName 101 = .ok (.ifCond .eq 7, 3) := by decide +kernel
theorem dX2_isName_104 : decode cX2_isName 104 = .ok (.iconst 1, 1) := by decide +kernel
theorem dX2_isName_105 : decode cX2_isName 105 = .ok (.goto 4, 3) := by decide +kernel
theorem dX2_isName_108 : decode cX2_isName 108 = .ok (.iconst 0, 1) := by decide +kernel
theorem dX2_isName_109 : decode cX2_isName 109 = .ok (.ireturn, 1) := by decide +kernel
theorem dX2_isLabel_0 : decode cX2_isLabel 0 = .ok (.iload_n 1, 1) := by decide +kernel
theorem dX2_isLabel_1 : decode cX2_isLabel 1 = .ok (.iload_n 2, 1) := by decide +kernel
theorem dX2_isLabel_2 : decode cX2_isLabel 2 = .ok (.if_icmp .ge 25, 3) := by decide +kernel
theorem dX2_isLabel_5 : decode cX2_isLabel 5 = .ok (.aload_n 0, 1) := by decide +kernel
theorem dX2_isLabel_6 : decode cX2_isLabel 6 = .ok (.iload_n 1, 1) := by decide +kernel
theorem dX2_isLabel_7 : decode cX2_isLabel 7 = .ok (.invokevirtual 9, 3) := by decide +kernel
theorem dX2_isLabel_10 : decode cX2_isLabel 10 = .ok (.bipush 45, 2) := by decide +kernel
theorem dX2_isLabel_12 : decode cX2_isLabel 12 = .ok (.if_icmp .eq 15, 3) := by decide +kernel
theorem dX2_isLabel_15 : decode cX2_isLabel 15 = .ok (.aload_n 0, 1) := by decide +kernel
theorem dX2_isLabel_16 : decode cX2_isLabel 16 = .ok (.iload_n 2, 1) := by decide +kernel
theorem dX2_isLabel_17 : decode cX2_isLabel 17 = .ok (.iconst 1, 1) := by decide +kernel
theorem dX2_isLabel_18 : decode cX2_isLabel 18 = .ok (.isub, 1) := by decide +kernel
theorem dX2_isLabel_19 : decode cX2_isLabel 19 = .ok (.invokevirtual 9, 3) := by decide +kernel
theorem dX2_isLabel_22 : decode cX2_isLabel 22 = .ok (.bipush 45, 2) := by decide +kernel
theorem dX2_isLabel_24 : decode cX2_isLabel 24 = .ok (.if_icmp .ne 5, 3) := by decide +kernel
theorem dX2_isLabel_27 : decode cX2_isLabel 27 = .ok (.iconst 0, 1) := by decide +kernel
theorem dX2_isLabel_28 : decode cX2_isLabel 28 = .ok (.ireturn, 1) := by decide +kernel
theorem dX2_isLabel_29 : decode cX2_isLabel 29 = .ok (.iload_n 1, 1) := by decide +kernel
theorem dX2_isLabel_30 : decode cX2_isLabel 30 = .ok (.istore_n 3, 1) := by decide +kernel
theorem dX2_isLabel_31 : decode cX2_isLabel 31 = .ok (.iload_n 3, 1) := by decide +kernel
theorem dX2_isLabel_32 : decode cX2_isLabel 32 = .ok (.iload_n 2, 1) := by decide +kernel
theorem dX2_isLabel_33 : decode cX2_isLabel 33 = .ok (.if_icmp .ge 41, 3) := by decide +kernel
theorem dX2_isLabel_36 : decode cX2_isLabel 36 = .ok (.aload_n 0, 1) := by decide +kernel
theorem dX2_isLabel_37 : decode cX2_isLabel 37 = .ok (.iload_n 3, 1) := by decide +kernel
theorem dX2_isLabel_38 : decode cX2_isLabel 38 = .ok (.invokevirtual 9, 3) := by decide +kernel
theorem dX2_isLabel_41 : decode cX2_isLabel 41 = .ok (.istore 4, 2) := by decide +kernel
theorem dX2_isLabel_43 : decode cX2_isLabel 43 = .ok (.iload 4, 2) := by decide +kernel
theorem dX2_isLabel_45 : decode cX2_isLabel 45 = .ok (.invokestatic 25, 3) := by decide +kernel
theorem dX2_isLabel_48 : decode cX2_isLabel 48 = .ok (.ifCond .ne 20, 3) := by decide +kernel
theorem dX2_isLabel_51 : decode cX2_isLabel 51 = .ok (.iload 4, 2) := by decide +kernel
theorem dX2_isLabel_53 : decode cX2_isLabel 53 = .ok (.invokestatic 31, 3) := by decide +kernel
theorem dX2_isLabel_56 : decode cX2_isLabel 56 = .ok (.ifCond .ne 12, 3) := by decide +kernel
theorem dX2_isLabel_59 : decode cX2_isLabel 59 = .ok (.iload 4, 2) := by decide +kernel
theorem dX2_isLabel_61 : decode cX2_isLabel 61 = .ok (.bipush 45, 2) := by decide +kernel
theorem dX2_isLabel_63 : decode cX2_isLabel 63 = .ok (.if_icmp .eq 5, 3) := by decide +kernel
theorem dX2_isLabel_66 : decode cX2_isLabel 66 = .ok (.iconst 0, 1) := by decide +kernel
theorem dX2_isLabel_67 : decode cX2_isLabel 67 = .ok (.ireturn, 1) := by decide +kernel
theorem dX2_isLabel_68 : decode cX2_isLabel 68 = .ok (.iinc 3 1, 3) := by decide +kernel
theorem dX2_isLabel_71 : decode cX2_isLabel 71 = .ok (.goto (-40), 3) := by decide +kernel
theorem dX2_isLabel_74 : decode cX2_isLabel 74 = .ok (.iconst 1, 1) := by decide +kernel
theorem dX2_isLabel_75 : decode cX2_isLabel 75 = .ok (.ireturn, 1) := by decide +kernel
theorem dX2_isFourNumbers_0 : decode cX2_isFourNumbers 0 = .ok (.iload_n 1, 1) := by decide +kernel
theorem dX2_isFourNumbers_1 : decode cX2_isFourNumbers 1 = .ok (.istore_n 3, 1) := by decide +kernel
theorem dX2_isFourNumbers_2 : decode cX2_isFourNumbers 2 = .ok (.iconst 0, 1) := by decide +kernel
theorem dX2_isFourNumbers_3 : decode cX2_isFourNumbers 3 = .ok (.istore 4, 2) := by decide +kernel
theorem dX2_isFourNumbers_5 : decode cX2_isFourNumbers 5 = .ok (.iload_n 1, 1) := by decide +kernel
theorem dX2_isFourNumbers_6 : decode cX2_isFourNumbers 6 = .ok (.istore 5, 2) := by decide +kernel
theorem dX2_isFourNumbers_8 : decode cX2_isFourNumbers 8 = .ok (.iload 5, 2) := by decide +kernel
theorem dX2_isFourNumbers_10 : decode cX2_isFourNumbers 10 = .ok (.iload_n 2, 1) := by decide +kernel
theorem dX2_isFourNumbers_11 : decode cX2_isFourNumbers 11 = .ok (.if_icmp .gt 50, 3) := by decide +kernel
theorem dX2_isFourNumbers_14 : decode cX2_isFourNumbers 14 = .ok (.iload 5, 2) := by decide +kernel
theorem dX2_isFourNumbers_16 : decode cX2_isFourNumbers 16 = .ok (.iload_n 2, 1) := by decide +kernel
theorem dX2_isFourNumbers_17 : decode cX2_isFourNumbers 17 = .ok (.if_icmp .eq 14, 3) := by decide +kernel
theorem dX2_isFourNumbers_20 : decode cX2_isFourNumbers 20 = .ok (.aload_n 0, 1) := by decide +kernel
theorem dX2_isFourNumbers_21 : decode cX2_isFourNumbers 21 = .ok (.iload 5, 2) := by decide +kernel
theorem dX2_isFourNumbers_23 : decode cX2_isFourNumbers 23 = .ok (.invokevirtual 9, 3) := by decide +kernel
theorem dX2_isFourNumbers_26 : decode cX2_isFourNumbers 26 = .ok (.bipush 46, 2) := by decide +kernel
theorem dX2_isFourNumbers_28 : decode cX2_isFourNumbers 28 = .ok (.if_icmp .ne 27, 3) := by decide +kernel
theorem dX2_isFourNumbers_31 : decode cX2_isFourNumbers 31 = .ok (.aload_n 0, 1) := by decide +kernel
theorem dX2_isFourNumbers_32 : decode cX2_isFourNumbers 32 = .ok (.iload_n 3, 1) := by decide +kernel
theorem dX2_isFourNumbers_33 : decode cX2_isFourNumbers 33 = .ok (.iload 5, 2) := by decide +kernel
theorem dX2_isFourNumbers_35 : decode cX2_isFourNumbers 35 = .ok (.sipush 255, 3) := by decide +kernel
theorem dX2_isFourNumbers_38 : decode cX2_isFourNumbers 38 = .ok (.invokestatic 58, 3) := by decide +kernel
theorem dX2_isFourNumbers_41 : decode cX2_isFourNumbers 41 = .ok (.iconst 1, 1) := by decide +kernel
theorem dX2_isFourNumbers_42 : decode cX2_isFourNumbers 42 = .ok (.if_icmp .ge 5, 3) := by decide +kernel
theorem dX2_isFourNumbers_45 : decode cX2_isFourNumbers 45 = .ok (.iconst 0, 1) := by decide +kernel
theorem dX2_isFourNumbers_46 : decode cX2_isFourNumbers 46 = .ok (.ireturn, 1) := by decide +kernel
theorem dX2_isFourNumbers_47 : decode cX2_isFourNumbers 47 = .ok (.iinc 4 1, 3) := by decide +kernel
theorem dX2_isFourNumbers_50 : decode cX2_isFourNumbers 50 = .ok (.iload 5, 2) := by decide +kernel
theorem dX2_isFourNumbers_52 : decode cX2_isFourNumbers 52 = .ok (.iconst 1, 1) := by decide +kernel
theorem dX2_isFourNumbers_53 : decode cX2_isFourNumbers 53 = .ok (.iadd, 1) := by decide +kernel
theorem dX2_isFourNumbers_54 : decode cX2_isFourNumbers 54 = .ok (.istore_n 3, 1) := by decide +kernel
theorem dX2_isFourNumbers_55 : decode cX2_isFourNumbers 55 = .ok (.iinc 5 1, 3) := by decide +kernel
theorem dX2_isFourNumbers_58 : decode cX2_isFourNumbers 58 = .ok (.goto (-50), 3) := by decide +kernel
theorem dX2_isFourNumbers_61 : decode cX2_isFourNumbers 61 = .ok (.iload 4, 2) := by decide +kernel
theorem dX2_isFourNumbers_63 : decode cX2_isFourNumbers 63 = .ok (.iconst 4, 1) := by decide +kernel
theorem dX2_isFourNumbers_64 : decode cX2_isFourNumbers 64 = .ok (.if_icmp .ne 7, 3) := by decide +kernel
theorem dX2_isFourNumbers_67 : decode cX2_isFourNumbers 67 = .ok (.iconst 1, 1) := by decide +kernel
theorem dX2_isFourNumbers_68 : decode cX2_isFourNumbers 68 = .ok (.goto 4, 3) := by decide +kernel
theorem dX2_isFourNumbers_71 : decode cX2_isFourNumbers 71 = .ok (.iconst 0, 1) := by decide +kernel
theorem dX2_isFourNumbers_72 : decode cX2_isFourNumbers 72 = .ok (.ireturn, 1) := by decide +kernel
theorem dX2_isPort_0 : decode cX2_isPort 0 = .ok (.iload_n 1, 1) := by decide +kernel
theorem dX2_isPort_1 : decode cX2_isPort 1 = .ok (.iload_n 2, 1) := by decide +kernel
theorem dX2_isPort_2 : decode cX2_isPort 2 = .ok (.if_icmp .ge 15, 3) := by decide +kernel
theorem dX2_isPort_5 : decode cX2_isPort 5 = .ok (.aload_n 0, 1) := by decide +kernel
theorem dX2_isPort_6 : decode cX2_isPort 6 = .ok (.iload_n 1, 1) := by decide +kernel
theorem dX2_isPort_7 : decode cX2_isPort 7 = .ok (.iload_n 2, 1) := by decide +kernel
theorem dX2_isPort_8 : decode cX2_isPort 8 = .ok (.ldc 62, 2) := by decide +kernel
theorem dX2_isPort_10 : decode cX2_isPort 10 = .ok (.invokestatic 58, 3) := by decide +kernel
theorem dX2_isPort_13 : decode cX2_isPort 13 = .ok (.iconst (-1), 1) := by decide +kernel
theorem dX2_isPort_14 : decode cX2_isPort 14 = .ok (.if_icmp .eq 7, 3) := by decide +kernel
theorem dX2_isPort_17 : decode cX2_isPort 17 = .ok (.iconst 1, 1) := by decide +kernel
theorem dX2_isPort_18 : decode cX2_isPort 18 = .ok (.goto 4, 3) := by decide +kernel
theorem dX2_isPort_21 : decode cX2_isPort 21 = .ok (.iconst 0, 1) := by decide +kernel
theorem dX2_isPort_22 : decode cX2_isPort 22 = .ok (.ireturn, 1) := by decide +kernel
theorem dX2_numberIn_0 : decode cX2_numberIn 0 = .ok (.iload_n 1, 1) := by decide +kernel
theorem dX2_numberIn_1 : decode cX2_numberIn 1 = .ok (.iload_n 2, 1) := by decide +kernel
theorem dX2_numberIn_2 : decode cX2_numberIn 2 = .ok (.if_icmp .lt 5, 3) := by decide +kernel
theorem dX2_numberIn_5 : decode cX2_numberIn 5 = .ok (.iconst (-1), 1) := by decide +kernel
theorem dX2_numberIn_6 : decode cX2_numberIn 6 = .ok (.ireturn, 1) := by decide +kernel
theorem dX2_numberIn_7 : decode cX2_numberIn 7 = .ok (.lconst 0, 1) := by decide +kernel
theorem dX2_numberIn_8 : decode cX2_numberIn 8 = .ok (.lstore 4, 2) := by decide +kernel
theorem dX2_numberIn_10 : decode cX2_numberIn 10 = .ok (.iload_n 1, 1) := by decide +kernel
theorem dX2_numberIn_11 : decode cX2_numberIn 11 = .ok (.istore 6, 2) := by decide +kernel
theorem dX2_numberIn_13 : decode cX2_numberIn 13 = .ok (.iload 6, 2) := by decide +kernel
theorem dX2_numberIn_15 : decode cX2_numberIn 15 = .ok (.iload_n 2, 1) := by decide +kernel
theorem dX2_numberIn_16 : decode cX2_numberIn 16 = .ok (.if_icmp .ge 52, 3) := by decide +kernel
theorem dX2_numberIn_19 : decode cX2_numberIn 19 = .ok (.aload_n 0, 1) := by decide +kernel
theorem dX2_numberIn_20 : decode cX2_numberIn 20 = .ok (.iload 6, 2) := by decide +kernel
theorem dX2_numberIn_22 : decode cX2_numberIn 22 = .ok (.invokevirtual 9, 3) := by decide +kernel
theorem dX2_numberIn_25 : decode cX2_numberIn 25 = .ok (.istore 7, 2) := by decide +kernel
theorem dX2_numberIn_27 : decode cX2_numberIn 27 = .ok (.iload 7, 2) := by decide +kernel
theorem dX2_numberIn_29 : decode cX2_numberIn 29 = .ok (.invokestatic 31, 3) := by decide +kernel
theorem dX2_numberIn_32 : decode cX2_numberIn 32 = .ok (.ifCond .ne 5, 3) := by decide +kernel
theorem dX2_numberIn_35 : decode cX2_numberIn 35 = .ok (.iconst (-1), 1) := by decide +kernel
theorem dX2_numberIn_36 : decode cX2_numberIn 36 = .ok (.ireturn, 1) := by decide +kernel
theorem dX2_numberIn_37 : decode cX2_numberIn 37 = .ok (.ldc2_w 63, 3) := by decide +kernel
theorem dX2_numberIn_40 : decode cX2_numberIn 40 = .ok (.lload 4, 2) := by decide +kernel
theorem dX2_numberIn_42 : decode cX2_numberIn 42 = .ok (.lmul, 1) := by decide +kernel
theorem dX2_numberIn_43 : decode cX2_numberIn 43 = .ok (.iload 7, 2) := by decide +kernel
theorem dX2_numberIn_45 : decode cX2_numberIn 45 = .ok (.bipush 48, 2) := by decide +kernel
theorem dX2_numberIn_47 : decode cX2_numberIn 47 = .ok (.isub, 1) := by decide +kernel
theorem dX2_numberIn_48 : decode cX2_numberIn 48 = .ok (.i2l, 1) := by decide +kernel
theorem dX2_numberIn_49 : decode cX2_numberIn 49 = .ok (.ladd, 1) := by decide +kernel
theorem dX2_numberIn_50 : decode cX2_numberIn 50 = .ok (.lstore 4, 2) := by decide +kernel
theorem dX2_numberIn_52 : decode cX2_numberIn 52 = .ok (.lload 4, 2) := by decide +kernel
theorem dX2_numberIn_54 : decode cX2_numberIn 54 = .ok (.iload_n 3, 1) := by decide +kernel
theorem dX2_numberIn_55 : decode cX2_numberIn 55 = .ok (.i2l, 1) := by decide +kernel
theorem dX2_numberIn_56 : decode cX2_numberIn 56 = .ok (.lcmp, 1) := by decide +kernel
theorem dX2_numberIn_57 : decode cX2_numberIn 57 = .ok (.ifCond .le 5, 3) := by decide +kernel
theorem dX2_numberIn_60 : decode cX2_numberIn 60 = .ok (.iconst (-1), 1) := by decide +kernel
theorem dX2_numberIn_61 : decode cX2_numberIn 61 = .ok (.ireturn, 1) := by decide +kernel
theorem dX2_numberIn_62 : decode cX2_numberIn 62 = .ok (.iinc 6 1, 3) := by decide +kernel
theorem dX2_numberIn_65 : decode cX2_numberIn 65 = .ok (.goto (-52), 3) := by decide +kernel
theorem dX2_numberIn_68 : decode cX2_numberIn 68 = .ok (.lload 4, 2) := by decide +kernel
theorem dX2_numberIn_70 : decode cX2_numberIn 70 = .ok (.l2i, 1) := by decide +kernel
theorem dX2_numberIn_71 : decode cX2_numberIn 71 = .ok (.ireturn, 1) := by decide +kernel
theorem dX3_init_0 : decode cX3_init 0 = .ok (.aload_n 0, 1) := by decide +kernel
theorem dX3_init_1 : decode cX3_init 1 = .ok (.invokespecial 3, 3) := by decide +kernel
theorem dX3_init_4 : decode cX3_init 4 = .ok (.aload_n 0, 1) := by decide +kernel
theorem dX3_init_5 : decode cX3_init 5 = .ok (.sipush 128, 3) := by decide +kernel
theorem dX3_init_8 : decode cX3_init 8 = .ok (.newarray .char, 2) := by decide +kernel
theorem dX3_init_10 : decode cX3_init 10 = .ok (.putfield 9, 3) := by decide +kernel
theorem dX3_init_13 : decode cX3_init 13 = .ok (.return_, 1) := by decide +kernel
theorem dX3_count_0 : decode cX3_count 0 = .ok (.aload_n 0, 1) := by decide +kernel
theorem dX3_count_1 : decode cX3_count 1 = .ok (.getfield 15, 3) := by decide +kernel
theorem dX3_count_4 : decode cX3_count 4 = .ok (.ireturn, 1) := by decide +kernel
theorem dX3_at_0 : decode cX3_at 0 = .ok (.iload_n 1, 1) := by decide +kernel
theorem dX3_at_1 : decode cX3_at 1 = .ok (.ifCond .lt 29, 3) := by decide +kernel
theorem dX3_at_4 : decode cX3_at 4 = .ok (.iload_n 1, 1) := by decide +kernel
theorem dX3_at_5 : decode cX3_at 5 = .ok (.aload_n 0, 1) := by decide +kernel
theorem dX3_at_6 : decode cX3_at 6 = .ok (.getfield 15, 3) := by decide +kernel
theorem dX3_at_9 : decode cX3_at 9 = .ok (.if_icmp .ge 21, 3) := by decide +kernel
theorem dX3_at_12 : decode cX3_at 12 = .ok (.iload_n 1, 1) := by decide +kernel
theorem dX3_at_13 : decode cX3_at 13 = .ok (.aload_n 0, 1) := by decide +kernel
theorem dX3_at_14 : decode cX3_at 14 = .ok (.getfield 9, 3) := by decide +kernel
theorem dX3_at_17 : decode cX3_at 17 = .ok (.arraylength, 1) := by decide +kernel
theorem dX3_at_18 : decode cX3_at 18 = .ok (.if_icmp .ge 12, 3) := by decide +kernel
theorem dX3_at_21 : decode cX3_at 21 = .ok (.aload_n 0, 1) := by decide +kernel
theorem dX3_at_22 : decode cX3_at 22 = .ok (.getfield 9, 3) := by decide +kernel
theorem dX3_at_25 : decode cX3_at 25 = .ok (.iload_n 1, 1) := by decide +kernel
theorem dX3_at_26 : decode cX3_at 26 = .ok (.caload, 1) := by decide +kernel
theorem dX3_at_27 : decode cX3_at 27 = .ok (.goto 4, 3) := by decide +kernel
theorem dX3_at_30 : decode cX3_at 30 = .ok (.iconst 0, 1) := by decide +kernel
theorem dX3_at_31 : decode cX3_at 31 = .ok (.ireturn, 1) := by decide +kernel
theorem dX3_put_0 : decode cX3_put 0 = .ok (.aload_n 0, 1) := by decide +kernel
theorem dX3_put_1 : decode cX3_put 1 = .ok (.getfield 15, 3) := by decide +kernel
theorem dX3_put_4 : decode cX3_put 4 = .ok (.ifCond .lt 35, 3) := by decide +kernel
theorem dX3_put_7 : decode cX3_put 7 = .ok (.aload_n 0, 1) := by decide +kernel
theorem dX3_put_8 : decode cX3_put 8 = .ok (.getfield 15, 3) := by decide +kernel
theorem dX3_put_11 : decode cX3_put 11 = .ok (.aload_n 0, 1) := by decide +kernel
theorem dX3_put_12 : decode cX3_put 12 = .ok (.getfield 9, 3) := by decide +kernel
theorem dX3_put_15 : decode cX3_put 15 = .ok (.arraylength, 1) := by decide +kernel
theorem dX3_put_16 : decode cX3_put 16 = .ok (.if_icmp .ge 23, 3) := by decide +kernel
theorem dX3_put_19 : decode cX3_put 19 = .ok (.aload_n 0, 1) := by decide +kernel
theorem dX3_put_20 : decode cX3_put 20 = .ok (.getfield 9, 3) := by decide +kernel
theorem dX3_put_23 : decode cX3_put 23 = .ok (.aload_n 0, 1) := by decide +kernel
theorem dX3_put_24 : decode cX3_put 24 = .ok (.getfield 15, 3) := by decide +kernel
theorem dX3_put_27 : decode cX3_put 27 = .ok (.iload_n 1, 1) := by decide +kernel
theorem dX3_put_28 : decode cX3_put 28 = .ok (.castore, 1) := by decide +kernel
theorem dX3_put_29 : decode cX3_put 29 = .ok (.aload_n 0, 1) := by decide +kernel
theorem dX3_put_30 : decode cX3_put 30 = .ok (.dup, 1) := by decide +kernel
theorem dX3_put_31 : decode cX3_put 31 = .ok (.getfield 15, 3) := by decide +kernel
theorem dX3_put_34 : decode cX3_put 34 = .ok (.iconst 1, 1) := by decide +kernel
theorem dX3_put_35 : decode cX3_put 35 = .ok (.iadd, 1) := by decide +kernel
theorem dX3_put_36 : decode cX3_put 36 = .ok (.putfield 15, 3) := by decide +kernel
theorem dX3_put_39 : decode cX3_put 39 = .ok (.return_, 1) := by decide +kernel
theorem dX3_putAll_0 : decode cX3_putAll 0 = .ok (.iconst 0, 1) := by decide +kernel
theorem dX3_putAll_1 : decode cX3_putAll 1 = .ok (.istore_n 2, 1) := by decide +kernel
theorem dX3_putAll_2 : decode cX3_putAll 2 = .ok (.iload_n 2, 1) := by decide +kernel
theorem dX3_putAll_3 : decode cX3_putAll 3 = .ok (.aload_n 1, 1) := by decide +kernel
theorem dX3_putAll_4 : decode cX3_putAll 4 = .ok (.invokevirtual 19, 3) := by decide +kernel
theorem dX3_putAll_7 : decode cX3_putAll 7 = .ok (.if_icmp .ge 18, 3) := by decide +kernel
theorem dX3_putAll_10 : decode cX3_putAll 10 = .ok (.aload_n 0, 1) := by decide +kernel
theorem dX3_putAll_11 : decode cX3_putAll 11 = .ok (.aload_n 1, 1) := by decide +kernel
theorem dX3_putAll_12 : decode cX3_putAll 12 = .ok (.iload_n 2, 1) := by decide +kernel
theorem dX3_putAll_13 : decode cX3_putAll 13 = .ok (.invokevirtual 25, 3) := by decide +kernel
theorem dX3_putAll_16 : decode cX3_putAll 16 = .ok (.invokevirtual 29, 3) := by decide +kernel
theorem dX3_putAll_19 : decode cX3_putAll 19 = .ok (.iinc 2 1, 3) := by decide +kernel
theorem dX3_putAll_22 : decode cX3_putAll 22 = .ok (.goto (-20), 3) := by decide +kernel
theorem dX3_putAll_25 : decode cX3_putAll 25 = .ok (.return_, 1) := by decide +kernel
theorem dX3_putRange_0 : decode cX3_putRange 0 = .ok (.iload_n 2, 1) := by decide +kernel
theorem dX3_putRange_1 : decode cX3_putRange 1 = .ok (.istore 4, 2) := by decide +kernel
theorem dX3_putRange_3 : decode cX3_putRange 3 = .ok (.iload 4, 2) := by decide +kernel
theorem dX3_putRange_5 : decode cX3_putRange 5 = .ok (.iload_n 3, 1) := by decide +kernel
theorem dX3_putRange_6 : decode cX3_putRange 6 = .ok (.if_icmp .ge 19, 3) := by decide +kernel
theorem dX3_putRange_9 : decode cX3_putRange 9 = .ok (.aload_n 0, 1) := by decide +kernel
theorem dX3_putRange_10 : decode cX3_putRange 10 = .ok (.aload_n 1, 1) := by decide +kernel
theorem dX3_putRange_11 : decode cX3_putRange 11 = .ok (.iload 4, 2) := by decide +kernel
theorem dX3_putRange_13 : decode cX3_putRange 13 = .ok (.invokevirtual 33, 3) := by decide +kernel
theorem dX3_putRange_16 : decode cX3_putRange 16 = .ok (.invokevirtual 29, 3) := by decide +kernel
theorem dX3_putRange_19 : decode cX3_putRange 19 = .ok (.iinc 4 1, 3) := by decide +kernel
theorem dX3_putRange_22 : decode cX3_putRange 22 = .ok (.goto (-19), 3) := by decide +kernel
theorem dX3_putRange_25 : decode cX3_putRange 25 = .ok (.return_, 1) := by decide +kernel
theorem dX3_shorten_0 : decode cX3_shorten 0 = .ok (.iload_n 1, 1) := by decide +kernel
theorem dX3_shorten_1 : decode cX3_shorten 1 = .ok (.ifCond .lt 16, 3) := by decide +kernel
theorem dX3_shorten_4 : decode cX3_shorten 4 = .ok (.iload_n 1, 1) := by decide +kernel
theorem dX3_shorten_5 : decode cX3_shorten 5 = .ok (.aload_n 0, 1) := by decide +kernel
theorem dX3_shorten_6 : decode cX3_shorten 6 = .ok (.getfield 15, 3) := by decide +kernel
theorem dX3_shorten_9 : decode cX3_shorten 9 = .ok (.if_icmp .ge 8, 3) := by decide +kernel
theorem dX3_shorten_12 : decode cX3_shorten 12 = .ok (.aload_n 0, 1) := by decide +kernel
theorem dX3_shorten_13 : decode cX3_shorten 13 = .ok (.iload_n 1, 1) := by decide +kernel
theorem dX3_shorten_14 : decode cX3_shorten 14 = .ok (.putfield 15, 3) := by decide +kernel
theorem dX3_shorten_17 : decode cX3_shorten 17 = .ok (.return_, 1) := by decide +kernel
theorem dX3_takeOver_0 : decode cX3_takeOver 0 = .ok (.iconst 0, 1) := by decide +kernel
theorem dX3_takeOver_1 : decode cX3_takeOver 1 = .ok (.istore_n 2, 1) := by decide +kernel
theorem dX3_takeOver_2 : decode cX3_takeOver 2 = .ok (.iload_n 2, 1) := by decide +kernel
theorem dX3_takeOver_3 : decode cX3_takeOver 3 = .ok (.aload_n 1, 1) := by decide +kernel
theorem dX3_takeOver_4 : decode cX3_takeOver 4 = .ok (.getfield 15, 3) := by decide +kernel
theorem dX3_takeOver_7 : decode cX3_takeOver 7 = .ok (.if_icmp .ge 29, 3) := by decide +kernel
theorem dX3_takeOver_10 : decode cX3_takeOver 10 = .ok (.iload_n 2, 1) := by decide +kernel
theorem dX3_takeOver_11 : decode cX3_takeOver 11 = .ok (.aload_n 0, 1) := by decide +kernel
theorem dX3_takeOver_12 : decode cX3_takeOver 12 = .ok (.getfield 9, 3) := by decide +kernel
theorem dX3_takeOver_15 : decode cX3_takeOver 15 = .ok (.arraylength, 1) := by decide +kernel
theorem dX3_takeOver_16 : decode cX3_takeOver 16 = .ok (.if_icmp .ge 20, 3) := by decide +kernel
theorem dX3_takeOver_19 : decode cX3_takeOver 19 = .ok (.aload_n 0, 1) := by decide +kernel
theorem dX3_takeOver_20 : decode cX3_takeOver 20 = .ok (.getfield 9, 3) := by decide +kernel
theorem dX3_takeOver_23 : decode cX3_takeOver 23 = .ok (.iload_n 2, 1) := by decide +kernel
theorem dX3_takeOver_24 : decode cX3_takeOver 24 = .ok (.aload_n 1, 1) := by decide +kernel
theorem dX3_takeOver_25 : decode cX3_takeOver 25 = .ok (.iload_n 2, 1) := by decide +kernel
theorem dX3_takeOver_26 : decode cX3_takeOver 26 = .ok (.invokevirtual 33, 3) := by decide +kernel
theorem dX3_takeOver_29 : decode cX3_takeOver 29 = .ok (.castore, 1) := by decide +kernel
theorem dX3_takeOver_30 : decode cX3_takeOver 30 = .ok (.iinc 2 1, 3) := by decide +kernel
theorem dX3_takeOver_33 : decode cX3_takeOver 33 = .ok (.goto (-31), 3) := by decide +kernel
theorem dX3_takeOver_36 : decode cX3_takeOver 36 = .ok (.aload_n 0, 1) := by decide +kernel
theorem dX3_takeOver_37 : decode cX3_takeOver 37 = .ok (.aload_n 1, 1) := by decide +kernel
theorem dX3_takeOver_38 : decode cX3_takeOver 38 = .ok (.getfield 15, 3) := by decide +kernel
theorem dX3_takeOver_41 : decode cX3_takeOver 41 = .ok (.putfield 15, 3) := by decide +kernel
theorem dX3_takeOver_44 : decode cX3_takeOver 44 = .ok (.return_, 1) := by decide +kernel
theorem dX3_next_0 : decode cX3_next 0 = .ok (.iload_n 2, 1) := by decide +kernel
theorem dX3_next_1 : decode cX3_next 1 = .ok (.istore 4, 2) := by decide +kernel
theorem dX3_next_3 : decode cX3_next 3 = .ok (.iload 4, 2) := by decide +kernel
theorem dX3_next_5 : decode cX3_next 5 = .ok (.iload_n 3, 1) := by decide +kernel
theorem dX3_next_6 : decode cX3_next 6 = .ok (.if_icmp .ge 25, 3) := by decide +kernel
theorem dX3_next_9 : decode cX3_next 9 = .ok (.aload_n 1, 1) := by decide +kernel
theorem dX3_next_10 : decode cX3_next 10 = .ok (.aload_n 0, 1) := by decide +kernel
theorem dX3_next_11 : decode cX3_next 11 = .ok (.iload 4, 2) := by decide +kernel
theorem dX3_next_13 : decode cX3_next 13 = .ok (.invokevirtual 33, 3) := by decide +kernel
theorem dX3_next_16 : decode cX3_next 16 = .ok (.invokevirtual 36, 3) := by decide +kernel
theorem dX3_next_19 : decode cX3_next 19 = .ok (.ifCond .lt 6, 3) := by decide +kernel
theorem dX3_next_22 : decode cX3_next 22 = .ok (.iload 4, 2) := by decide +kernel
theorem dX3_next_24 : decode cX3_next 24 = .ok (.ireturn, 1) := by decide +kernel
theorem dX3_next_25 : decode cX3_next 25 = .ok (.iinc 4 1, 3) := by decide +kernel
theorem dX3_next_28 : decode cX3_next 28 = .ok (.goto (-25), 3) := by decide +kernel
theorem dX3_next_31 : decode cX3_next 31 = .ok (.iload_n 3, 1) := by decide +kernel
theorem dX3_next_32 : decode cX3_next 32 = .ok (.ireturn, 1) := by decide +kernel
theorem dX3_isRange_0 : decode cX3_isRange 0 = .ok (.iload_n 1, 1) := by decide +kernel
theorem dX3_isRange_1 : decode cX3_isRange 1 = .ok (.istore 5, 2) := by decide +kernel
theorem dX3_isRange_3 : decode cX3_isRange 3 = .ok (.iload 5, 2) := by decide +kernel
theorem dX3_isRange_5 : decode cX3_isRange 5 = .ok (.iload_n 2, 1) := by decide +kernel
theorem dX3_isRange_6 : decode cX3_isRange 6 = .ok (.if_icmp .ge 31, 3) := by decide +kernel
theorem dX3_isRange_9 : decode cX3_isRange 9 = .ok (.aload_n 0, 1) := by decide +kernel
theorem dX3_isRange_10 : decode cX3_isRange 10 = .ok (.iload 5, 2) := by decide +kernel
theorem dX3_isRange_12 : decode cX3_isRange 12 = .ok (.invokevirtual 33, 3) := by decide +kernel
theorem dX3_isRange_15 : decode cX3_isRange 15 = .ok (.aload_n 3, 1) := by decide +kernel
theorem dX3_isRange_16 : decode cX3_isRange 16 = .ok (.iload 4, 2) := by decide +kernel
theorem dX3_isRange_18 : decode cX3_isRange 18 = .ok (.iload 5, 2) := by decide +kernel
theorem dX3_isRange_20 : decode cX3_isRange 20 = .ok (.iadd, 1) := by decide +kernel
theorem dX3_isRange_21 : decode cX3_isRange 21 = .ok (.iload_n 1, 1) := by decide +kernel
theorem dX3_isRange_22 : decode cX3_isRange 22 = .ok (.isub, 1) := by decide +kernel
theorem dX3_isRange_23 : decode cX3_isRange 23 = .ok (.invokevirtual 33, 3) := by decide +kernel
theorem dX3_isRange_26 : decode cX3_isRange 26 = .ok (.if_icmp .eq 5, 3) := by decide +kernel
theorem dX3_isRange_29 : decode cX3_isRange 29 = .ok (.iconst 0, 1) := by decide +kernel
theorem dX3_isRange_30 : decode cX3_isRange 30 = .ok (.ireturn, 1) := by decide +kernel
theorem dX3_isRange_31 : decode cX3_isRange 31 = .ok (.iinc 5 1, 3) := by decide +kernel
theorem dX3_isRange_34 : decode cX3_isRange 34 = .ok (.goto (-31), 3) := by decide +kernel
theorem dX3_isRange_37 : decode cX3_isRange 37 = .ok (.iconst 1, 1) := by decide +kernel
theorem dX3_isRange_38 : decode cX3_isRange 38 = .ok (.ireturn, 1) := by decide +kernel
theorem dJ11_isValidCodePoint_9a6ad_0 : decode cJ11_isValidCodePoint_9a6ad 0 = .ok (.iload_n 0, 1) := by decide +kernel
theorem dJ11_isValidCodePoint_9a6ad_1 : decode cJ11_isValidCodePoint_9a6ad 1 = .ok (.bipush 16, 2) := by decide +kernel
theorem dJ11_isValidCodePoint_9a6ad_3 : decode cJ11_isValidCodePoint_9a6ad 3 = .ok (.iushr, 1) := by decide +kernel
theorem dJ11_isValidCodePoint_9a6ad_4 : decode cJ11_isValidCodePoint_9a6ad 4 = .ok (.istore_n 1, 1) := by decide +kernel
theorem dJ11_isValidCodePoint_9a6ad_5 : decode cJ11_isValidCodePoint_9a6ad 5 = .ok (.iload_n 1, 1) := by decide +kernel
theorem dJ11_isValidCodePoint_9a6ad_6 : decode cJ11_isValidCodePoint_9a6ad 6 = .ok (.bipush 17, 2) := by decide +kernel
theorem dJ11_isValidCodePoint_9a6ad_8 : decode cJ11_isValidCodePoint_9a6ad 8 = .ok (.if_icmp .ge 7, 3) := by decide +kernel
theorem dJ11_isValidCodePoint_9a6ad_11 : decode cJ11_isValidCodePoint_9a6ad 11 = .ok (.iconst 1, 1) := by decide +kernel
theorem dJ11_isValidCodePoint_9a6ad_12 : decode cJ11_isValidCodePoint_9a6ad 12 = .ok (.goto 4, 3) := by decide +kernel
theorem dJ11_isValidCodePoint_9a6ad_15 : decode cJ11_isValidCodePoint_9a6ad 15 = .ok (.iconst 0, 1) := by decide +kernel
theorem dJ11_isValidCodePoint_9a6ad_16 : decode cJ11_isValidCodePoint_9a6ad 16 = .ok (.ireturn, 1) := by decide +kernel
theorem dJ11_highSurrogate_5068e_0 : decode cJ11_highSurrogate_5068e 0 = .ok (.iload_n 0, 1) := by decide +kernel
theorem dJ11_highSurrogate_5068e_1 : decode cJ11_highSurrogate_5068e 1 = .ok (.bipush 10, 2) := by decide +kernel
theorem dJ11_highSurrogate_5068e_3 : decode cJ11_highSurrogate_5068e 3 = .ok (.iushr, 1) := by decide +kernel
theorem dJ11_highSurrogate_5068e_4 : decode cJ11_highSurrogate_5068e 4 = .ok (.ldc 110, 2) := by decide +kernel
theorem dJ11_highSurrogate_5068e_6 : decode cJ11_highSurrogate_5068e 6 = .ok (.iadd, 1) := by decide +kernel
theorem dJ11_highSurrogate_5068e_7 : decode cJ11_highSurrogate_5068e 7 = .ok (.i2c, 1) := by decide +kernel
theorem dJ11_highSurrogate_5068e_8 : decode cJ11_highSurrogate_5068e 8 = .ok (.ireturn, 1) := by decide +kernel
theorem dJ11_lowSurrogate_5068e_0 : decode cJ11_lowSurrogate_5068e 0 = .ok (.iload_n 0, 1) := by decide +kernel
theorem dJ11_lowSurrogate_5068e_1 : decode cJ11_lowSurrogate_5068e 1 = .ok (.sipush 1023, 3) := by decide +kernel
theorem dJ11_lowSurrogate_5068e_4 : decode cJ11_lowSurrogate_5068e 4 = .ok (.iand, 1) := by decide +kernel
theorem dJ11_lowSurrogate_5068e_5 : decode cJ11_lowSurrogate_5068e 5 = .ok (.ldc 76, 2) := by decide +kernel
theorem dJ11_lowSurrogate_5068e_7 : decode cJ11_lowSurrogate_5068e 7 = .ok (.iadd, 1) := by decide +kernel
theorem dJ11_lowSurrogate_5068e_8 : decode cJ11_lowSurrogate_5068e 8 = .ok (.i2c, 1) := by decide +kernel
theorem dJ11_lowSurrogate_5068e_9 : decode cJ11_lowSurrogate_5068e 9 = .ok (.ireturn, 1) := by decide +kernel
theorem dJ9_max_7cf53_0 : decode cJ9_max_7cf53 0 = .ok (.iload_n 0, 1) := by decide +kernel
theorem dJ9_max_7cf53_1 : decode cJ9_max_7cf53 1 = .ok (.iload_n 1, 1) := by decide +kernel
theorem dJ9_max_7cf53_2 : decode cJ9_max_7cf53 2 = .ok (.if_icmp .lt 7, 3) := by decide +kernel
theorem dJ9_max_7cf53_5 : decode cJ9_max_7cf53 5 = .ok (.iload_n 0, 1) := by decide +kernel
theorem dJ9_max_7cf53_6 : decode cJ9_max_7cf53 6 = .ok (.goto 4, 3) := by decide +kernel
theorem dJ9_max_7cf53_9 : decode cJ9_max_7cf53 9 = .ok (.iload_n 1, 1) := by decide +kernel
theorem dJ9_max_7cf53_10 : decode cJ9_max_7cf53 10 = .ok (.ireturn, 1) := by decide +kernel
theorem dJ9_min_7cf53_0 : decode cJ9_min_7cf53 0 = .ok (.iload_n 0, 1) := by decide +kernel
theorem dJ9_min_7cf53_1 : decode cJ9_min_7cf53 1 = .ok (.iload_n 1, 1) := by decide +kernel
theorem dJ9_min_7cf53_2 : decode cJ9_min_7cf53 2 = .ok (.if_icmp .gt 7, 3) := by decide +kernel
theorem dJ9_min_7cf53_5 : decode cJ9_min_7cf53 5 = .ok (.iload_n 0, 1) := by decide +kernel
theorem dJ9_min_7cf53_6 : decode cJ9_min_7cf53 6 = .ok (.goto 4, 3) := by decide +kernel
theorem dJ9_min_7cf53_9 : decode cJ9_min_7cf53 9 = .ok (.iload_n 1, 1) := by decide +kernel
theorem dJ9_min_7cf53_10 : decode cJ9_min_7cf53 10 = .ok (.ireturn, 1) := by decide +kernel
theorem dJ0_length_8abf5_0 : decode cJ0_length_8abf5 0 = .ok (.aload_n 0, 1) := by decide +kernel
theorem dJ0_length_8abf5_1 : decode cJ0_length_8abf5 1 = .ok (.getfield 9, 3) := by decide +kernel
theorem dJ0_length_8abf5_4 : decode cJ0_length_8abf5 4 = .ok (.arraylength, 1) := by decide +kernel
theorem dJ0_length_8abf5_5 : decode cJ0_length_8abf5 5 = .ok (.aload_n 0, 1) := by decide +kernel
theorem dJ0_length_8abf5_6 : decode cJ0_length_8abf5 6 = .ok (.invokevirtual 335, 3) := by decide +kernel
theorem dJ0_length_8abf5_9 : decode cJ0_length_8abf5 9 = .ok (.ishr, 1) := by decide +kernel
theorem dJ0_length_8abf5_10 : decode cJ0_length_8abf5 10 = .ok (.ireturn, 1) := by decide +kernel
theorem dJ0_charAt_5068e_0 : decode cJ0_charAt_5068e 0 = .ok (.aload_n 0, 1) := by decide +kernel
theorem dJ0_charAt_5068e_1 : decode cJ0_charAt_5068e 1 = .ok (.invokevirtual 492, 3) := by decide +kernel
theorem dJ0_charAt_5068e_4 : decode cJ0_charAt_5068e 4 = .ok (.ifCond .eq 12, 3) := by decide +kernel
theorem dJ0_charAt_5068e_7 : decode cJ0_charAt_5068e 7 = .ok (.aload_n 0, 1) := by decide +kernel
theorem dJ0_charAt_5068e_8 : decode cJ0_charAt_5068e 8 = .ok (.getfield 9, 3) := by decide +kernel
theorem dJ0_charAt_5068e_11 : decode cJ0_charAt_5068e 11 = .ok (.iload_n 1, 1) := by decide +kernel
theorem dJ0_charAt_5068e_12 : decode cJ0_charAt_5068e 12 = .ok (.invokestatic 495, 3) := by decide +kernel
theorem dJ0_charAt_5068e_15 : decode cJ0_charAt_5068e 15 = .ok (.ireturn, 1) := by decide +kernel
theorem dJ0_charAt_5068e_16 : decode cJ0_charAt_5068e 16 = .ok (.aload_n 0, 1) := by decide +kernel
theorem dJ0_charAt_5068e_17 : decode cJ0_charAt_5068e 17 = .ok (.getfield 9, 3) := by decide +kernel
theorem dJ0_charAt_5068e_20 : decode cJ0_charAt_5068e 20 = .ok (.iload_n 1, 1) := by decide +kernel
theorem dJ0_charAt_5068e_21 : decode cJ0_charAt_5068e 21 = .ok (.invokestatic 498, 3) := by decide +kernel
theorem dJ0_charAt_5068e_24 : decode cJ0_charAt_5068e 24 = .ok (.ireturn, 1) := by decide +kernel
theorem dJ0_indexOf_0f7a4_0 : decode cJ0_indexOf_0f7a4 0 = .ok (.aload_n 0, 1) := by decide +kernel
theorem dJ0_indexOf_0f7a4_1 : decode cJ0_indexOf_0f7a4 1 = .ok (.iload_n 1, 1) := by decide +kernel
theorem dJ0_indexOf_0f7a4_2 : decode cJ0_indexOf_0f7a4 2 = .ok (.iconst 0, 1) := by decide +kernel
theorem dJ0_indexOf_0f7a4_3 : decode cJ0_indexOf_0f7a4 3 = .ok (.invokevirtual 633, 3) := by decide +kernel
theorem dJ0_indexOf_0f7a4_6 : decode cJ0_indexOf_0f7a4 6 = .ok (.ireturn, 1) := by decide +kernel
theorem dJ0_indexOf_7cf53_0 : decode cJ0_indexOf_7cf53 0 = .ok (.aload_n 0, 1) := by decide +kernel
theorem dJ0_indexOf_7cf53_1 : decode cJ0_indexOf_7cf53 1 = .ok (.invokevirtual 492, 3) := by decide +kernel
theorem dJ0_indexOf_7cf53_4 : decode cJ0_indexOf_7cf53 4 = .ok (.ifCond .eq 19, 3) := by decide +kernel
theorem dJ0_indexOf_7cf53_7 : decode cJ0_indexOf_7cf53 7 = .ok (.aload_n 0, 1) := by decide +kernel
theorem dJ0_indexOf_7cf53_8 : decode cJ0_indexOf_7cf53 8 = .ok (.getfield 9, 3) := by decide +kernel
theorem dJ0_indexOf_7cf53_11 : decode cJ0_indexOf_7cf53 11 = .ok (.iload_n 1, 1) := by decide +kernel
theorem dJ0_indexOf_7cf53_12 : decode cJ0_indexOf_7cf53 12 = .ok (.iload_n 2, 1) := by decide +kernel
theorem dJ0_indexOf_7cf53_13 : decode cJ0_indexOf_7cf53 13 = .ok (.aload_n 0, 1) := by decide +kernel
theorem dJ0_indexOf_7cf53_14 : decode cJ0_indexOf_7cf53 14 = .ok (.invokevirtual 505, 3) := by decide +kernel
theorem dJ0_indexOf_7cf53_17 : decode cJ0_indexOf_7cf53 17 = .ok (.invokestatic 637, 3) := by decide +kernel
theorem dJ0_indexOf_7cf53_20 : decode cJ0_indexOf_7cf53 20 = .ok (.goto 16, 3) := by decide +kernel
theorem dJ0_indexOf_7cf53_23 : decode cJ0_indexOf_7cf53 23 = .ok (.aload_n 0, 1) := by decide +kernel
theorem dJ0_indexOf_7cf53_24 : decode cJ0_indexOf_7cf53 24 = .ok (.getfield 9, 3) := by decide +kernel
theorem dJ0_indexOf_7cf53_27 : decode cJ0_indexOf_7cf53 27 = .ok (.iload_n 1, 1) := by decide +kernel
theorem dJ0_indexOf_7cf53_28 : decode cJ0_indexOf_7cf53 28 = .ok (.iload_n 2, 1) := by decide +kernel
theorem dJ0_indexOf_7cf53_29 : decode cJ0_indexOf_7cf53 29 = .ok (.aload_n 0, 1) := by decide +kernel
theorem dJ0_indexOf_7cf53_30 : decode cJ0_indexOf_7cf53 30 = .ok (.invokevirtual 505, 3) := by decide +kernel
theorem dJ0_indexOf_7cf53_33 : decode cJ0_indexOf_7cf53 33 = .ok (.invokestatic 640, 3) := by decide +kernel
theorem dJ0_indexOf_7cf53_36 : decode cJ0_indexOf_7cf53 36 = .ok (.ireturn, 1) := by decide +kernel
theorem dJ0_coder_7d493_0 : decode cJ0_coder_7d493 0 = .ok (.getstatic 38, 3) := by decide +kernel
theorem dJ0_coder_7d493_3 : decode cJ0_coder_7d493 3 = .ok (.ifCond .eq 10, 3) := by decide +kernel
theorem dJ0_coder_7d493_6 : decode cJ0_coder_7d493 6 = .ok (.aload_n 0, 1) := by decide +kernel
theorem dJ0_coder_7d493_7 : decode cJ0_coder_7d493 7 = .ok (.getfield 15, 3) := by decide +kernel
theorem dJ0_coder_7d493_10 : decode cJ0_coder_7d493 10 = .ok (.goto 4, 3) := by decide +kernel
theorem dJ0_coder_7d493_13 : decode cJ0_coder_7d493 13 = .ok (.iconst 1, 1) := by decide +kernel
theorem dJ0_coder_7d493_14 : decode cJ0_coder_7d493 14 = .ok (.ireturn, 1) := by decide +kernel
theorem dJ0_isLatin1_aae02_0 : decode cJ0_isLatin1_aae02 0 = .ok (.getstatic 38, 3) := by decide +kernel
theorem dJ0_isLatin1_aae02_3 : decode cJ0_isLatin1_aae02 3 = .ok (.ifCond .eq 14, 3) := by decide +kernel
theorem dJ0_isLatin1_aae02_6 : decode cJ0_isLatin1_aae02 6 = .ok (.aload_n 0, 1) := by decide +kernel
theorem dJ0_isLatin1_aae02_7 : decode cJ0_isLatin1_aae02 7 = .ok (.getfield 15, 3) := by decide +kernel
theorem dJ0_isLatin1_aae02_10 : decode cJ0_isLatin1_aae02 10 = .ok (.ifCond .ne 7, 3) := by decide +kernel
theorem dJ0_isLatin1_aae02_13 : decode cJ0_isLatin1_aae02 13 = .ok (.iconst 1, 1) := by decide +kernel
theorem dJ0_isLatin1_aae02_14 : decode cJ0_isLatin1_aae02 14 = .ok (.goto 4, 3) := by decide +kernel
theorem dJ0_isLatin1_aae02_17 : decode cJ0_isLatin1_aae02 17 = .ok (.iconst 0, 1) := by decide +kernel
theorem dJ0_isLatin1_aae02_18 : decode cJ0_isLatin1_aae02 18 = .ok (.ireturn, 1) := by decide +kernel
theorem dJ0_checkIndex_df160_0 : decode cJ0_checkIndex_df160 0 = .ok (.iload_n 0, 1) := by decide +kernel
theorem dJ0_checkIndex_df160_1 : decode cJ0_checkIndex_df160 1 = .ok (.iload_n 1, 1) := by decide +kernel
theorem dJ0_checkIndex_df160_2 : decode cJ0_checkIndex_df160 2 = .ok (.getstatic 1053, 3) := by decide +kernel
theorem dJ0_checkIndex_df160_5 : decode cJ0_checkIndex_df160 5 = .ok (.invokestatic 1059, 3) := by decide +kernel
theorem dJ0_checkIndex_df160_8 : decode cJ0_checkIndex_df160 8 = .ok (.pop, 1) := by decide +kernel
theorem dJ0_checkIndex_df160_9 : decode cJ0_checkIndex_df160 9 = .ok (.return_, 1) := by decide +kernel
theorem dJ0_checkBoundsBeginEnd_23922_0 : decode cJ0_checkBoundsBeginEnd_23922 0 = .ok (.iload_n 0, 1) := by decide +kernel
theorem dJ0_checkBoundsBeginEnd_23922_1 : decode cJ0_checkBoundsBeginEnd_23922 1 = .ok (.iload_n 1, 1) := by decide +kernel
theorem dJ0_checkBoundsBeginEnd_23922_2 : decode cJ0_checkBoundsBeginEnd_23922 2 = .ok (.iload_n 2, 1) := by decide +kernel
theorem dJ0_checkBoundsBeginEnd_23922_3 : decode cJ0_checkBoundsBeginEnd_23922 3 = .ok (.getstatic 1053, 3) := by decide +kernel
theorem dJ0_checkBoundsBeginEnd_23922_6 : decode cJ0_checkBoundsBeginEnd_23922 6 = .ok (.invokestatic 1062, 3) := by decide +kernel
theorem dJ0_checkBoundsBeginEnd_23922_9 : decode cJ0_checkBoundsBeginEnd_23922 9 = .ok (.pop, 1) := by decide +kernel
theorem dJ0_checkBoundsBeginEnd_23922_10 : decode cJ0_checkBoundsBeginEnd_23922 10 = .ok (.return_, 1) := by decide +kernel
theorem dJ1_charAt_3b067_0 : decode cJ1_charAt_3b067 0 = .ok (.iload_n 1, 1) := by decide +kernel
theorem dJ1_charAt_3b067_1 : decode cJ1_charAt_3b067 1 = .ok (.aload_n 0, 1) := by decide +kernel
theorem dJ1_charAt_3b067_2 : decode cJ1_charAt_3b067 2 = .ok (.arraylength, 1) := by decide +kernel
theorem dJ1_charAt_3b067_3 : decode cJ1_charAt_3b067 3 = .ok (.invokestatic 9, 3) := by decide +kernel
theorem dJ1_charAt_3b067_6 : decode cJ1_charAt_3b067 6 = .ok (.aload_n 0, 1) := by decide +kernel
theorem dJ1_charAt_3b067_7 : decode cJ1_charAt_3b067 7 = .ok (.iload_n 1, 1) := by decide +kernel
theorem dJ1_charAt_3b067_8 : decode cJ1_charAt_3b067 8 = .ok (.baload, 1) := by decide +kernel
theorem dJ1_charAt_3b067_9 : decode cJ1_charAt_3b067 9 = .ok (.sipush 255, 3) := by decide +kernel
theorem dJ1_charAt_3b067_12 : decode cJ1_charAt_3b067 12 = .ok (.iand, 1) := by decide +kernel
theorem dJ1_charAt_3b067_13 : decode cJ1_charAt_3b067 13 = .ok (.i2c, 1) := by decide +kernel
theorem dJ1_charAt_3b067_14 : decode cJ1_charAt_3b067 14 = .ok (.ireturn, 1) := by decide +kernel
theorem dJ1_canEncode_9a6ad_0 : decode cJ1_canEncode_9a6ad 0 = .ok (.iload_n 0, 1) := by decide +kernel
theorem dJ1_canEncode_9a6ad_1 : decode cJ1_canEncode_9a6ad 1 = .ok (.ifCond .lt 14, 3) := by decide +kernel
theorem dJ1_canEncode_9a6ad_4 : decode cJ1_canEncode_9a6ad 4 = .ok (.iload_n 0, 1) := by decide +kernel
theorem dJ1_canEncode_9a6ad_5 : decode cJ1_canEncode_9a6ad 5 = .ok (.sipush 255, 3) := by decide +kernel
theorem dJ1_canEncode_9a6ad_8 : decode cJ1_canEncode_9a6ad 8 = .ok (.if_icmp .gt 7, 3) := by decide +kernel
theorem dJ1_canEncode_9a6ad_11 : decode cJ1_canEncode_9a6ad 11 = .ok (.iconst 1, 1) := by decide +kernel
theorem dJ1_canEncode_9a6ad_12 : decode cJ1_canEncode_9a6ad 12 = .ok (.goto 4, 3) := by decide +kernel
theorem dJ1_canEncode_9a6ad_15 : decode cJ1_canEncode_9a6ad 15 = .ok (.iconst 0, 1) := by decide +kernel
theorem dJ1_canEncode_9a6ad_16 : decode cJ1_canEncode_9a6ad 16 = .ok (.ireturn, 1) := by decide +kernel
theorem dJ1_indexOf_4cfef_0 : decode cJ1_indexOf_4cfef 0 = .ok (.iload_n 1, 1) := by decide +kernel
theorem dJ1_indexOf_4cfef_1 : decode cJ1_indexOf_4cfef 1 = .ok (.invokestatic 88, 3) := by decide +kernel
theorem dJ1_indexOf_4cfef_4 : decode cJ1_indexOf_4cfef 4 = .ok (.ifCond .ne 5, 3) := by decide +kernel
theorem dJ1_indexOf_4cfef_7 : decode cJ1_indexOf_4cfef 7 = .ok (.iconst (-1), 1) := by decide +kernel
theorem dJ1_indexOf_4cfef_8 : decode cJ1_indexOf_4cfef 8 = .ok (.ireturn, 1) := by decide +kernel
theorem dJ1_indexOf_4cfef_9 : decode cJ1_indexOf_4cfef 9 = .ok (.iload_n 2, 1) := by decide +kernel
theorem dJ1_indexOf_4cfef_10 : decode cJ1_indexOf_4cfef 10 = .ok (.iconst 0, 1) := by decide +kernel
theorem dJ1_indexOf_4cfef_11 : decode cJ1_indexOf_4cfef 11 = .ok (.invokestatic 92, 3) := by decide +kernel
theorem dJ1_indexOf_4cfef_14 : decode cJ1_indexOf_4cfef 14 = .ok (.istore_n 2, 1) := by decide +kernel
theorem dJ1_indexOf_4cfef_15 : decode cJ1_indexOf_4cfef 15 = .ok (.iload_n 3, 1) := by decide +kernel
theorem dJ1_indexOf_4cfef_16 : decode cJ1_indexOf_4cfef 16 = .ok (.aload_n 0, 1) := by decide +kernel
theorem dJ1_indexOf_4cfef_17 : decode cJ1_indexOf_4cfef 17 = .ok (.arraylength, 1) := by decide +kernel
theorem dJ1_indexOf_4cfef_18 : decode cJ1_indexOf_4cfef 18 = .ok (.invokestatic 38, 3) := by decide +kernel
theorem dJ1_indexOf_4cfef_21 : decode cJ1_indexOf_4cfef 21 = .ok (.istore_n 3, 1) := by decide +kernel
theorem dJ1_indexOf_4cfef_22 : decode cJ1_indexOf_4cfef 22 = .ok (.iload_n 2, 1) := by decide +kernel
theorem dJ1_indexOf_4cfef_23 : decode cJ1_indexOf_4cfef 23 = .ok (.iload_n 3, 1) := by decide +kernel
theorem dJ1_indexOf_4cfef_24 : decode cJ1_indexOf_4cfef 24 = .ok (.if_icmp .lt 5, 3) := by decide +kernel
theorem dJ1_indexOf_4cfef_27 : decode cJ1_indexOf_4cfef 27 = .ok (.iconst (-1), 1) := by decide +kernel
theorem dJ1_indexOf_4cfef_28 : decode cJ1_indexOf_4cfef 28 = .ok (.ireturn, 1) := by decide +kernel
theorem dJ1_indexOf_4cfef_29 : decode cJ1_indexOf_4cfef 29 = .ok (.aload_n 0, 1) := by decide +kernel
theorem dJ1_indexOf_4cfef_30 : decode cJ1_indexOf_4cfef 30 = .ok (.iload_n 1, 1) := by decide +kernel
theorem dJ1_indexOf_4cfef_31 : decode cJ1_indexOf_4cfef 31 = .ok (.iload_n 2, 1) := by decide +kernel
theorem dJ1_indexOf_4cfef_32 : decode cJ1_indexOf_4cfef 32 = .ok (.iload_n 3, 1) := by decide +kernel
theorem dJ1_indexOf_4cfef_33 : decode cJ1_indexOf_4cfef 33 = .ok (.invokestatic 95, 3) := by decide +kernel
theorem dJ1_indexOf_4cfef_36 : decode cJ1_indexOf_4cfef 36 = .ok (.ireturn, 1) := by decide +kernel
theorem dJ1_indexOfChar_4cfef_0 : decode cJ1_indexOfChar_4cfef 0 = .ok (.iload_n 1, 1) := by decide +kernel
theorem dJ1_indexOfChar_4cfef_1 : decode cJ1_indexOfChar_4cfef 1 = .ok (.i2b, 1) := by decide +kernel
theorem dJ1_indexOfChar_4cfef_2 : decode cJ1_indexOfChar_4cfef 2 = .ok (.istore 4, 2) := by decide +kernel
theorem dJ1_indexOfChar_4cfef_4 : decode cJ1_indexOfChar_4cfef 4 = .ok (.iload_n 2, 1) := by decide +kernel
theorem dJ1_indexOfChar_4cfef_5 : decode cJ1_indexOfChar_4cfef 5 = .ok (.istore 5, 2) := by decide +kernel
theorem dJ1_indexOfChar_4cfef_7 : decode cJ1_indexOfChar_4cfef 7 = .ok (.iload 5, 2) := by decide +kernel
theorem dJ1_indexOfChar_4cfef_9 : decode cJ1_indexOfChar_4cfef 9 = .ok (.iload_n 3, 1) := by decide +kernel
theorem dJ1_indexOfChar_4cfef_10 : decode cJ1_indexOfChar_4cfef 10 = .ok (.if_icmp .ge 21, 3) := by decide +kernel
theorem dJ1_indexOfChar_4cfef_13 : decode cJ1_indexOfChar_4cfef 13 = .ok (.aload_n 0, 1) := by decide +kernel
theorem dJ1_indexOfChar_4cfef_14 : decode cJ1_indexOfChar_4cfef 14 = .ok (.iload 5, 2) := by decide +kernel
theorem dJ1_indexOfChar_4cfef_16 : decode cJ1_indexOfChar_4cfef 16 = .ok (.baload, 1) := by decide +kernel
theorem dJ1_indexOfChar_4cfef_17 : decode cJ1_indexOfChar_4cfef 17 = .ok (.iload 4, 2) := by decide +kernel
theorem dJ1_indexOfChar_4cfef_19 : decode cJ1_indexOfChar_4cfef 19 = .ok (.if_icmp .ne 6, 3) := by decide +kernel
theorem dJ1_indexOfChar_4cfef_22 : decode cJ1_indexOfChar_4cfef 22 = .ok (.iload 5, 2) := by decide +kernel
theorem dJ1_indexOfChar_4cfef_24 : decode cJ1_indexOfChar_4cfef 24 = .ok (.ireturn, 1) := by decide +kernel
theorem dJ1_indexOfChar_4cfef_25 : decode cJ1_indexOfChar_4cfef 25 = .ok (.iinc 5 1, 3) := by decide +kernel
theorem dJ1_indexOfChar_4cfef_28 : decode cJ1_indexOfChar_4cfef 28 = .ok (.goto (-21), 3) := by decide +kernel
theorem dJ1_indexOfChar_4cfef_31 : decode cJ1_indexOfChar_4cfef 31 = .ok (.iconst (-1), 1) := by decide +kernel
theorem dJ1_indexOfChar_4cfef_32 : decode cJ1_indexOfChar_4cfef 32 = .ok (.ireturn, 1) := by decide +kernel
theorem dJ2_getChar_3b067_0 : decode cJ2_getChar_3b067 0 = .ok (.getstatic 44, 3) := by decide +kernel
theorem dJ2_getChar_3b067_3 : decode cJ2_getChar_3b067 3 = .ok (.ifCond .ne 25, 3) := by decide +kernel
theorem dJ2_getChar_3b067_6 : decode cJ2_getChar_3b067 6 = .ok (.iload_n 1, 1) := by decide +kernel
theorem dJ2_getChar_3b067_7 : decode cJ2_getChar_3b067 7 = .ok (.ifCond .lt 11, 3) := by decide +kernel
theorem dJ2_getChar_3b067_10 : decode cJ2_getChar_3b067 10 = .ok (.iload_n 1, 1) := by decide +kernel
theorem dJ2_getChar_3b067_11 : decode cJ2_getChar_3b067 11 = .ok (.aload_n 0, 1) := by decide +kernel
theorem dJ2_getChar_3b067_12 : decode cJ2_getChar_3b067 12 = .ok (.invokestatic 48, 3) := by decide +kernel
theorem dJ2_getChar_3b067_15 : decode cJ2_getChar_3b067 15 = .ok (.if_icmp .lt 13, 3) := by decide +kernel
theorem dJ2_getChar_3b067_18 : decode cJ2_getChar_3b067 18 = .ok (.new 52, 3) := by decide +kernel
theorem dJ2_getChar_3b067_21 : decode cJ2_getChar_3b067 21 = .ok (.dup, 1) := by decide +kernel
theorem dJ2_getChar_3b067_22 : decode cJ2_getChar_3b067 22 = .ok (.ldc 54, 2) := by decide +kernel
theorem dJ2_getChar_3b067_24 : decode cJ2_getChar_3b067 24 = .ok (.invokespecial 56, 3) := by decide +kernel
theorem dJ2_getChar_3b067_27 : decode cJ2_getChar_3b067 27 = .ok (.athrow, 1) := by decide +kernel
theorem dJ2_getChar_3b067_28 : decode cJ2_getChar_3b067 28 = .ok (.iload_n 1, 1) := by decide +kernel
theorem dJ2_getChar_3b067_29 : decode cJ2_getChar_3b067 29 = .ok (.iconst 1, 1) := by decide +kernel
theorem dJ2_getChar_3b067_30 : decode cJ2_getChar_3b067 30 = .ok (.ishl, 1) := by decide +kernel
theorem dJ2_getChar_3b067_31 : decode cJ2_getChar_3b067 31 = .ok (.istore_n 1, 1) := by decide +kernel
theorem dJ2_getChar_3b067_32 : decode cJ2_getChar_3b067 32 = .ok (.aload_n 0, 1) := by decide +kernel
theorem dJ2_getChar_3b067_33 : decode cJ2_getChar_3b067 33 = .ok (.iload_n 1, 1) := by decide +kernel
theorem dJ2_getChar_3b067_34 : decode cJ2_getChar_3b067 34 = .ok (.iinc 1 1, 3) := by decide +kernel
theorem dJ2_getChar_3b067_37 : decode cJ2_getChar_3b067 37 = .ok (.baload, 1) := by decide +kernel
theorem dJ2_getChar_3b067_38 : decode cJ2_getChar_3b067 38 = .ok (.sipush 255, 3) := by decide +kernel
theorem dJ2_getChar_3b067_41 : decode cJ2_getChar_3b067 41 = .ok (.iand, 1) := by decide +kernel
theorem dJ2_getChar_3b067_42 : decode cJ2_getChar_3b067 42 = .ok (.getstatic 59, 3) := by decide +kernel
theorem dJ2_getChar_3b067_45 : decode cJ2_getChar_3b067 45 = .ok (.ishl, 1) := by decide +kernel
theorem dJ2_getChar_3b067_46 : decode cJ2_getChar_3b067 46 = .ok (.aload_n 0, 1) := by decide +kernel
theorem dJ2_getChar_3b067_47 : decode cJ2_getChar_3b067 47 = .ok (.iload_n 1, 1) := by decide +kernel
theorem dJ2_getChar_3b067_48 : decode cJ2_getChar_3b067 48 = .ok (.baload, 1) := by decide +kernel
theorem dJ2_getChar_3b067_49 : decode cJ2_getChar_3b067 49 = .ok (.sipush 255, 3) := by decide +kernel
theorem dJ2_getChar_3b067_52 : decode cJ2_getChar_3b067 52 = .ok (.iand, 1) := by decide +kernel
theorem dJ2_getChar_3b067_53 : decode cJ2_getChar_3b067 53 = .ok (.getstatic 63, 3) := by decide +kernel
theorem dJ2_getChar_3b067_56 : decode cJ2_getChar_3b067 56 = .ok (.ishl, 1) := by decide +kernel
theorem dJ2_getChar_3b067_57 : decode cJ2_getChar_3b067 57 = .ok (.ior, 1) := by decide +kernel
theorem dJ2_getChar_3b067_58 : decode cJ2_getChar_3b067 58 = .ok (.i2c, 1) := by decide +kernel
theorem dJ2_getChar_3b067_59 : decode cJ2_getChar_3b067 59 = .ok (.ireturn, 1) := by decide +kernel
theorem dJ2_length_9d52b_0 : decode cJ2_length_9d52b 0 = .ok (.aload_n 0, 1) := by decide +kernel
theorem dJ2_length_9d52b_1 : decode cJ2_length_9d52b 1 = .ok (.arraylength, 1) := by decide +kernel
theorem dJ2_length_9d52b_2 : decode cJ2_length_9d52b 2 = .ok (.iconst 1, 1) := by decide +kernel
theorem dJ2_length_9d52b_3 : decode cJ2_length_9d52b 3 = .ok (.ishr, 1) := by decide +kernel
theorem dJ2_length_9d52b_4 : decode cJ2_length_9d52b 4 = .ok (.ireturn, 1) := by decide +kernel
theorem dJ2_indexOf_4cfef_0 : decode cJ2_indexOf_4cfef 0 = .ok (.iload_n 2, 1) := by decide +kernel
theorem dJ2_indexOf_4cfef_1 : decode cJ2_indexOf_4cfef 1 = .ok (.iconst 0, 1) := by decide +kernel
theorem dJ2_indexOf_4cfef_2 : decode cJ2_indexOf_4cfef 2 = .ok (.invokestatic 224, 3) := by decide +kernel
theorem dJ2_indexOf_4cfef_5 : decode cJ2_indexOf_4cfef 5 = .ok (.istore_n 2, 1) := by decide +kernel
theorem dJ2_indexOf_4cfef_6 : decode cJ2_indexOf_4cfef 6 = .ok (.iload_n 3, 1) := by decide +kernel
theorem dJ2_indexOf_4cfef_7 : decode cJ2_indexOf_4cfef 7 = .ok (.aload_n 0, 1) := by decide +kernel
theorem dJ2_indexOf_4cfef_8 : decode cJ2_indexOf_4cfef 8 = .ok (.arraylength, 1) := by decide +kernel
theorem dJ2_indexOf_4cfef_9 : decode cJ2_indexOf_4cfef 9 = .ok (.iconst 1, 1) := by decide +kernel
theorem dJ2_indexOf_4cfef_10 : decode cJ2_indexOf_4cfef 10 = .ok (.ishr, 1) := by decide +kernel
theorem dJ2_indexOf_4cfef_11 : decode cJ2_indexOf_4cfef 11 = .ok (.invokestatic 183, 3) := by decide +kernel
theorem dJ2_indexOf_4cfef_14 : decode cJ2_indexOf_4cfef 14 = .ok (.istore_n 3, 1) := by decide +kernel
theorem dJ2_indexOf_4cfef_15 : decode cJ2_indexOf_4cfef 15 = .ok (.iload_n 2, 1) := by decide +kernel
theorem dJ2_indexOf_4cfef_16 : decode cJ2_indexOf_4cfef 16 = .ok (.iload_n 3, 1) := by decide +kernel
theorem dJ2_indexOf_4cfef_17 : decode cJ2_indexOf_4cfef 17 = .ok (.if_icmp .lt 5, 3) := by decide +kernel
theorem dJ2_indexOf_4cfef_20 : decode cJ2_indexOf_4cfef 20 = .ok (.iconst (-1), 1) := by decide +kernel
theorem dJ2_indexOf_4cfef_21 : decode cJ2_indexOf_4cfef 21 = .ok (.ireturn, 1) := by decide +kernel
theorem dJ2_indexOf_4cfef_22 : decode cJ2_indexOf_4cfef 22 = .ok (.iload_n 1, 1) := by decide +kernel
theorem dJ2_indexOf_4cfef_23 : decode cJ2_indexOf_4cfef 23 = .ok (.ldc 227, 2) := by decide +kernel
theorem dJ2_indexOf_4cfef_25 : decode cJ2_indexOf_4cfef 25 = .ok (.if_icmp .ge 11, 3) := by decide +kernel
theorem dJ2_indexOf_4cfef_28 : decode cJ2_indexOf_4cfef 28 = .ok (.aload_n 0, 1) := by decide +kernel
theorem dJ2_indexOf_4cfef_29 : decode cJ2_indexOf_4cfef 29 = .ok (.iload_n 1, 1) := by decide +kernel
theorem dJ2_indexOf_4cfef_30 : decode cJ2_indexOf_4cfef 30 = .ok (.iload_n 2, 1) := by decide +kernel
theorem dJ2_indexOf_4cfef_31 : decode cJ2_indexOf_4cfef 31 = .ok (.iload_n 3, 1) := by decide +kernel
theorem dJ2_indexOf_4cfef_32 : decode cJ2_indexOf_4cfef 32 = .ok (.invokestatic 228, 3) := by decide +kernel
theorem dJ2_indexOf_4cfef_35 : decode cJ2_indexOf_4cfef 35 = .ok (.ireturn, 1) := by decide +kernel
theorem dJ2_indexOf_4cfef_36 : decode cJ2_indexOf_4cfef 36 = .ok (.aload_n 0, 1) := by decide +kernel
theorem dJ2_indexOf_4cfef_37 : decode cJ2_indexOf_4cfef 37 = .ok (.iload_n 1, 1) := by decide +kernel
theorem dJ2_indexOf_4cfef_38 : decode cJ2_indexOf_4cfef 38 = .ok (.iload_n 2, 1) := by decide +kernel
theorem dJ2_indexOf_4cfef_39 : decode cJ2_indexOf_4cfef 39 = .ok (.iload_n 3, 1) := by decide +kernel
theorem dJ2_indexOf_4cfef_40 : decode cJ2_indexOf_4cfef 40 = .ok (.invokestatic 232, 3) := by decide +kernel
theorem dJ2_indexOf_4cfef_43 : decode cJ2_indexOf_4cfef 43 = .ok (.ireturn, 1) := by decide +kernel
theorem dJ2_indexOfChar_4cfef_0 : decode cJ2_indexOfChar_4cfef 0 = .ok (.iload_n 2, 1) := by decide +kernel
theorem dJ2_indexOfChar_4cfef_1 : decode cJ2_indexOfChar_4cfef 1 = .ok (.iload_n 3, 1) := by decide +kernel
theorem dJ2_indexOfChar_4cfef_2 : decode cJ2_indexOfChar_4cfef 2 = .ok (.aload_n 0, 1) := by decide +kernel
theorem dJ2_indexOfChar_4cfef_3 : decode cJ2_indexOfChar_4cfef 3 = .ok (.invokestatic 96, 3) := by decide +kernel
theorem dJ2_indexOfChar_4cfef_6 : decode cJ2_indexOfChar_4cfef 6 = .ok (.aload_n 0, 1) := by decide +kernel
theorem dJ2_indexOfChar_4cfef_7 : decode cJ2_indexOfChar_4cfef 7 = .ok (.iload_n 1, 1) := by decide +kernel
theorem dJ2_indexOfChar_4cfef_8 : decode cJ2_indexOfChar_4cfef 8 = .ok (.iload_n 2, 1) := by decide +kernel
theorem dJ2_indexOfChar_4cfef_9 : decode cJ2_indexOfChar_4cfef 9 = .ok (.iload_n 3, 1) := by decide +kernel
theorem dJ2_indexOfChar_4cfef_10 : decode cJ2_indexOfChar_4cfef 10 = .ok (.invokestatic 244, 3) := by decide +kernel
theorem dJ2_indexOfChar_4cfef_13 : decode cJ2_indexOfChar_4cfef 13 = .ok (.ireturn, 1) := by decide +kernel
theorem dJ2_indexOfCharUnsafe_4cfef_0 : decode cJ2_indexOfCharUnsafe_4cfef 0 = .ok (.iload_n 2, 1) := by decide +kernel
theorem dJ2_indexOfCharUnsafe_4cfef_1 : decode cJ2_indexOfCharUnsafe_4cfef 1 = .ok (.istore 4, 2) := by decide +kernel
theorem dJ2_indexOfCharUnsafe_4cfef_3 : decode cJ2_indexOfCharUnsafe_4cfef 3 = .ok (.iload 4, 2) := by decide +kernel
theorem dJ2_indexOfCharUnsafe_4cfef_5 : decode cJ2_indexOfCharUnsafe_4cfef 5 = .ok (.iload_n 3, 1) := by decide +kernel
theorem dJ2_indexOfCharUnsafe_4cfef_6 : decode cJ2_indexOfCharUnsafe_4cfef 6 = .ok (.if_icmp .ge 22, 3) := by decide +kernel
theorem dJ2_indexOfCharUnsafe_4cfef_9 : decode cJ2_indexOfCharUnsafe_4cfef 9 = .ok (.aload_n 0, 1) := by decide +kernel
theorem dJ2_indexOfCharUnsafe_4cfef_10 : decode cJ2_indexOfCharUnsafe_4cfef 10 = .ok (.iload 4, 2) := by decide +kernel
theorem dJ2_indexOfCharUnsafe_4cfef_12 : decode cJ2_indexOfCharUnsafe_4cfef 12 = .ok (.invokestatic 71, 3) := by decide +kernel
theorem dJ2_indexOfCharUnsafe_4cfef_15 : decode cJ2_indexOfCharUnsafe_4cfef 15 = .ok (.iload_n 1, 1) := by decide +kernel
theorem dJ2_indexOfCharUnsafe_4cfef_16 : decode cJ2_indexOfCharUnsafe_4cfef 16 = .ok (.if_icmp .ne 6, 3) := by decide +kernel
theorem dJ2_indexOfCharUnsafe_4cfef_19 : decode cJ2_indexOfCharUnsafe_4cfef 19 = .ok (.iload 4, 2) := by decide +kernel
theorem dJ2_indexOfCharUnsafe_4cfef_21 : decode cJ2_indexOfCharUnsafe_4cfef 21 = .ok (.ireturn, 1) := by decide +kernel
theorem dJ2_indexOfCharUnsafe_4cfef_22 : decode cJ2_indexOfCharUnsafe_4cfef 22 = .ok (.iinc 4 1, 3) := by decide +kernel
theorem dJ2_indexOfCharUnsafe_4cfef_25 : decode cJ2_indexOfCharUnsafe_4cfef 25 = .ok (.goto (-22), 3) := by decide +kernel
theorem dJ2_indexOfCharUnsafe_4cfef_28 : decode cJ2_indexOfCharUnsafe_4cfef 28 = .ok (.iconst (-1), 1) := by decide +kernel
theorem dJ2_indexOfCharUnsafe_4cfef_29 : decode cJ2_indexOfCharUnsafe_4cfef 29 = .ok (.ireturn, 1) := by decide +kernel
theorem dJ2_indexOfSupplementary_4cfef_0 : decode cJ2_indexOfSupplementary_4cfef 0 = .ok (.iload_n 1, 1) := by decide +kernel
theorem dJ2_indexOfSupplementary_4cfef_1 : decode cJ2_indexOfSupplementary_4cfef 1 = .ok (.invokestatic 164, 3) := by decide +kernel
theorem dJ2_indexOfSupplementary_4cfef_4 : decode cJ2_indexOfSupplementary_4cfef 4 = .ok (.ifCond .eq 65, 3) := by decide +kernel
theorem dJ2_indexOfSupplementary_4cfef_7 : decode cJ2_indexOfSupplementary_4cfef 7 = .ok (.iload_n 1, 1) := by decide +kernel
theorem dJ2_indexOfSupplementary_4cfef_8 : decode cJ2_indexOfSupplementary_4cfef 8 = .ok (.invokestatic 157, 3) := by decide +kernel
theorem dJ2_indexOfSupplementary_4cfef_11 : decode cJ2_indexOfSupplementary_4cfef 11 = .ok (.istore 4, 2) := by decide +kernel
theorem dJ2_indexOfSupplementary_4cfef_13 : decode cJ2_indexOfSupplementary_4cfef 13 = .ok (.iload_n 1, 1) := by decide +kernel
theorem dJ2_indexOfSupplementary_4cfef_14 : decode cJ2_indexOfSupplementary_4cfef 14 = .ok (.invokestatic 161, 3) := by decide +kernel
theorem dJ2_indexOfSupplementary_4cfef_17 : decode cJ2_indexOfSupplementary_4cfef 17 = .ok (.istore 5, 2) := by decide +kernel
theorem dJ2_indexOfSupplementary_4cfef_19 : decode cJ2_indexOfSupplementary_4cfef 19 = .ok (.iload_n 2, 1) := by decide +kernel
theorem dJ2_indexOfSupplementary_4cfef_20 : decode cJ2_indexOfSupplementary_4cfef 20 = .ok (.iload_n 3, 1) := by decide +kernel
theorem dJ2_indexOfSupplementary_4cfef_21 : decode cJ2_indexOfSupplementary_4cfef 21 = .ok (.aload_n 0, 1) := by decide +kernel
theorem dJ2_indexOfSupplementary_4cfef_22 : decode cJ2_indexOfSupplementary_4cfef 22 = .ok (.invokestatic 96, 3) := by decide +kernel
theorem dJ2_indexOfSupplementary_4cfef_25 : decode cJ2_indexOfSupplementary_4cfef 25 = .ok (.iload_n 2, 1) := by decide +kernel
theorem dJ2_indexOfSupplementary_4cfef_26 : decode cJ2_indexOfSupplementary_4cfef 26 = .ok (.istore 6, 2) := by decide +kernel
theorem dJ2_indexOfSupplementary_4cfef_28 : decode cJ2_indexOfSupplementary_4cfef 28 = .ok (.iload 6, 2) := by decide +kernel
theorem dJ2_indexOfSupplementary_4cfef_30 : decode cJ2_indexOfSupplementary_4cfef 30 = .ok (.iload_n 3, 1) := by decide +kernel
theorem dJ2_indexOfSupplementary_4cfef_31 : decode cJ2_indexOfSupplementary_4cfef 31 = .ok (.iconst 1, 1) := by decide +kernel
theorem dJ2_indexOfSupplementary_4cfef_32 : decode cJ2_indexOfSupplementary_4cfef 32 = .ok (.isub, 1) := by decide +kernel
theorem dJ2_indexOfSupplementary_4cfef_33 : decode cJ2_indexOfSupplementary_4cfef 33 = .ok (.if_icmp .ge 36, 3) := by decide +kernel
theorem dJ2_indexOfSupplementary_4cfef_36 : decode cJ2_indexOfSupplementary_4cfef 36 = .ok (.aload_n 0, 1) := by decide +kernel
theorem dJ2_indexOfSupplementary_4cfef_37 : decode cJ2_indexOfSupplementary_4cfef 37 = .ok (.iload 6, 2) := by decide +kernel
theorem dJ2_indexOfSupplementary_4cfef_39 : decode cJ2_indexOfSupplementary_4cfef 39 = .ok (.invokestatic 71, 3) := by decide +kernel
theorem dJ2_indexOfSupplementary_4cfef_42 : decode cJ2_indexOfSupplementary_4cfef 42 = .ok (.iload 4, 2) := by decide +kernel
theorem dJ2_indexOfSupplementary_4cfef_44 : decode cJ2_indexOfSupplementary_4cfef 44 = .ok (.if_icmp .ne 19, 3) := by decide +kernel
theorem dJ2_indexOfSupplementary_4cfef_47 : decode cJ2_indexOfSupplementary_4cfef 47 = .ok (.aload_n 0, 1) := by decide +kernel
theorem dJ2_indexOfSupplementary_4cfef_48 : decode cJ2_indexOfSupplementary_4cfef 48 = .ok (.iload 6, 2) := by decide +kernel
theorem dJ2_indexOfSupplementary_4cfef_50 : decode cJ2_indexOfSupplementary_4cfef 50 = .ok (.iconst 1, 1) := by decide +kernel
theorem dJ2_indexOfSupplementary_4cfef_51 : decode cJ2_indexOfSupplementary_4cfef 51 = .ok (.iadd, 1) := by decide +kernel
theorem dJ2_indexOfSupplementary_4cfef_52 : decode cJ2_indexOfSupplementary_4cfef 52 = .ok (.invokestatic 71, 3) := by decide +kernel
theorem dJ2_indexOfSupplementary_4cfef_55 : decode cJ2_indexOfSupplementary_4cfef 55 = .ok (.iload 5, 2) := by decide +kernel
theorem dJ2_indexOfSupplementary_4cfef_57 : decode cJ2_indexOfSupplementary_4cfef 57 = .ok (.if_icmp .ne 6, 3) := by decide +kernel
theorem dJ2_indexOfSupplementary_4cfef_60 : decode cJ2_indexOfSupplementary_4cfef 60 = .ok (.iload 6, 2) := by decide +kernel
theorem dJ2_indexOfSupplementary_4cfef_62 : decode cJ2_indexOfSupplementary_4cfef 62 = .ok (.ireturn, 1) := by decide +kernel
theorem dJ2_indexOfSupplementary_4cfef_63 : decode cJ2_indexOfSupplementary_4cfef 63 = .ok (.iinc 6 1, 3) := by decide +kernel
theorem dJ2_indexOfSupplementary_4cfef_66 : decode cJ2_indexOfSupplementary_4cfef 66 = .ok (.goto (-38), 3) := by decide +kernel
theorem dJ2_indexOfSupplementary_4cfef_69 : decode cJ2_indexOfSupplementary_4cfef 69 = .ok (.iconst (-1), 1) := by decide +kernel
theorem dJ2_indexOfSupplementary_4cfef_70 : decode cJ2_indexOfSupplementary_4cfef 70 = .ok (.ireturn, 1) := by decide +kernel
theorem dJ2_charAt_3b067_0 : decode cJ2_charAt_3b067 0 = .ok (.iload_n 1, 1) := by decide +kernel
theorem dJ2_charAt_3b067_1 : decode cJ2_charAt_3b067 1 = .ok (.aload_n 0, 1) := by decide +kernel
theorem dJ2_charAt_3b067_2 : decode cJ2_charAt_3b067 2 = .ok (.invokestatic 67, 3) := by decide +kernel
theorem dJ2_charAt_3b067_5 : decode cJ2_charAt_3b067 5 = .ok (.aload_n 0, 1) := by decide +kernel
theorem dJ2_charAt_3b067_6 : decode cJ2_charAt_3b067 6 = .ok (.iload_n 1, 1) := by decide +kernel
theorem dJ2_charAt_3b067_7 : decode cJ2_charAt_3b067 7 = .ok (.invokestatic 71, 3) := by decide +kernel
theorem dJ2_charAt_3b067_10 : decode cJ2_charAt_3b067 10 = .ok (.ireturn, 1) := by decide +kernel
theorem dJ2_checkIndex_2214a_0 : decode cJ2_checkIndex_2214a 0 = .ok (.iload_n 0, 1) := by decide +kernel
theorem dJ2_checkIndex_2214a_1 : decode cJ2_checkIndex_2214a 1 = .ok (.aload_n 1, 1) := by decide +kernel
theorem dJ2_checkIndex_2214a_2 : decode cJ2_checkIndex_2214a 2 = .ok (.invokestatic 48, 3) := by decide +kernel
theorem dJ2_checkIndex_2214a_5 : decode cJ2_checkIndex_2214a 5 = .ok (.invokestatic 414, 3) := by decide +kernel
theorem dJ2_checkIndex_2214a_8 : decode cJ2_checkIndex_2214a 8 = .ok (.return_, 1) := by decide +kernel
theorem dJ2_checkBoundsBeginEnd_d044e_0 : decode cJ2_checkBoundsBeginEnd_d044e 0 = .ok (.iload_n 0, 1) := by decide +kernel
theorem dJ2_checkBoundsBeginEnd_d044e_1 : decode cJ2_checkBoundsBeginEnd_d044e 1 = .ok (.iload_n 1, 1) := by decide +kernel
theorem dJ2_checkBoundsBeginEnd_d044e_2 : decode cJ2_checkBoundsBeginEnd_d044e 2 = .ok (.aload_n 2, 1) := by decide +kernel
theorem dJ2_checkBoundsBeginEnd_d044e_3 : decode cJ2_checkBoundsBeginEnd_d044e 3 = .ok (.invokestatic 48, 3) := by decide +kernel
theorem dJ2_checkBoundsBeginEnd_d044e_6 : decode cJ2_checkBoundsBeginEnd_d044e 6 = .ok (.invokestatic 241, 3) := by decide +kernel
theorem dJ2_checkBoundsBeginEnd_d044e_9 : decode cJ2_checkBoundsBeginEnd_d044e 9 = .ok (.return_, 1) := by decide +kernel
theorem dJ3_checkIndex_8e157_0 : decode cJ3_checkIndex_8e157 0 = .ok (.iload_n 0, 1) := by decide +kernel
theorem dJ3_checkIndex_8e157_1 : decode cJ3_checkIndex_8e157 1 = .ok (.ifCond .lt 8, 3) := by decide +kernel
theorem dJ3_checkIndex_8e157_4 : decode cJ3_checkIndex_8e157 4 = .ok (.iload_n 0, 1) := by decide +kernel
theorem dJ3_checkIndex_8e157_5 : decode cJ3_checkIndex_8e157 5 = .ok (.iload_n 1, 1) := by decide +kernel
theorem dJ3_checkIndex_8e157_6 : decode cJ3_checkIndex_8e157 6 = .ok (.if_icmp .lt 10, 3) := by decide +kernel
theorem dJ3_checkIndex_8e157_9 : decode cJ3_checkIndex_8e157 9 = .ok (.aload_n 2, 1) := by decide +kernel
theorem dJ3_checkIndex_8e157_10 : decode cJ3_checkIndex_8e157 10 = .ok (.iload_n 0, 1) := by decide +kernel
theorem dJ3_checkIndex_8e157_11 : decode cJ3_checkIndex_8e157 11 = .ok (.iload_n 1, 1) := by decide +kernel
theorem dJ3_checkIndex_8e157_12 : decode cJ3_checkIndex_8e157 12 = .ok (.invokestatic 95, 3) := by decide +kernel
theorem dJ3_checkIndex_8e157_15 : decode cJ3_checkIndex_8e157 15 = .ok (.athrow, 1) := by decide +kernel
theorem dJ3_checkIndex_8e157_16 : decode cJ3_checkIndex_8e157 16 = .ok (.iload_n 0, 1) := by decide +kernel
theorem dJ3_checkIndex_8e157_17 : decode cJ3_checkIndex_8e157 17 = .ok (.ireturn, 1) := by decide +kernel
theorem dJ3_checkFromToIndex_8c36e_0 : decode cJ3_checkFromToIndex_8c36e 0 = .ok (.iload_n 0, 1) := by decide +kernel
theorem dJ3_checkFromToIndex_8c36e_1 : decode cJ3_checkFromToIndex_8c36e 1 = .ok (.ifCond .lt 13, 3) := by decide +kernel
theorem dJ3_checkFromToIndex_8c36e_4 : decode cJ3_checkFromToIndex_8c36e 4 = .ok (.iload_n 0, 1) := by decide +kernel
theorem dJ3_checkFromToIndex_8c36e_5 : decode cJ3_checkFromToIndex_8c36e 5 = .ok (.iload_n 1, 1) := by decide +kernel
theorem dJ3_checkFromToIndex_8c36e_6 : decode cJ3_checkFromToIndex_8c36e 6 = .ok (.if_icmp .gt 8, 3) := by decide +kernel
theorem dJ3_checkFromToIndex_8c36e_9 : decode cJ3_checkFromToIndex_8c36e 9 = .ok (.iload_n 1, 1) := by decide +kernel
theorem dJ3_checkFromToIndex_8c36e_10 : decode cJ3_checkFromToIndex_8c36e 10 = .ok (.iload_n 2, 1) := by decide +kernel
theorem dJ3_checkFromToIndex_8c36e_11 : decode cJ3_checkFromToIndex_8c36e 11 = .ok (.if_icmp .le 11, 3) := by decide +kernel
theorem dJ3_checkFromToIndex_8c36e_14 : decode cJ3_checkFromToIndex_8c36e 14 = .ok (.aload_n 3, 1) := by decide +kernel
theorem dJ3_checkFromToIndex_8c36e_15 : decode cJ3_checkFromToIndex_8c36e 15 = .ok (.iload_n 0, 1) := by decide +kernel
theorem dJ3_checkFromToIndex_8c36e_16 : decode cJ3_checkFromToIndex_8c36e 16 = .ok (.iload_n 1, 1) := by decide +kernel
theorem dJ3_checkFromToIndex_8c36e_17 : decode cJ3_checkFromToIndex_8c36e 17 = .ok (.iload_n 2, 1) := by decide +kernel
theorem dJ3_checkFromToIndex_8c36e_18 : decode cJ3_checkFromToIndex_8c36e 18 = .ok (.invokestatic 99, 3) := by decide +kernel
theorem dJ3_checkFromToIndex_8c36e_21 : decode cJ3_checkFromToIndex_8c36e 21 = .ok (.athrow, 1) := by decide +kernel
theorem dJ3_checkFromToIndex_8c36e_22 : decode cJ3_checkFromToIndex_8c36e 22 = .ok (.iload_n 0, 1) := by decide +kernel
theorem dJ3_checkFromToIndex_8c36e_23 : decode cJ3_checkFromToIndex_8c36e 23 = .ok (.ireturn, 1) := by decide +kernel
end
section
theorem dX4_init_0 : decode cX4_init 0 = .ok (.aload_n 0, 1) := by decide +kernel
theorem dX4_init_1 : decode cX4_init 1 = .ok (.invokespecial 1, 3) := by decide +kernel
theorem dX4_init_4 : decode cX4_init 4 = .ok (.aload_n 0, 1) := by decide +kernel
theorem dX4_init_5 : decode cX4_init 5 = .ok (.new 7, 3) := by decide +kernel
theorem dX4_init_8 : decode cX4_init 8 = .ok (.dup, 1) := by decide +kernel
theorem dX4_init_9 : decode cX4_init 9 = .ok (.invokespecial 9, 3) := by decide +kernel
theorem dX4_init_12 : decode cX4_init 12 = .ok (.putfield 10, 3) := by decide +kernel
theorem dX4_init_15 : decode cX4_init 15 = .ok (.aload_n 0, 1) := by decide +kernel
theorem dX4_init_16 : decode cX4_init 16 = .ok (.new 7, 3) := by decide +kernel
theorem dX4_init_19 : decode cX4_init 19 = .ok (.dup, 1) := by decide +kernel
theorem dX4_init_20 : decode cX4_init 20 = .ok (.invokespecial 9, 3) := by decide +kernel
theorem dX4_init_23 : decode cX4_init 23 = .ok (.putfield 16, 3) := by decide +kernel
theorem dX4_init_26 : decode cX4_init 26 = .ok (.aload_n 0, 1) := by decide +kernel
theorem dX4_init_27 : decode cX4_init 27 = .ok (.new 19, 3) := by decide +kernel
theorem dX4_init_30 : decode cX4_init 30 = .ok (.dup, 1) := by decide +kernel
theorem dX4_init_31 : decode cX4_init 31 = .ok (.invokespecial 21, 3) := by decide +kernel
theorem dX4_init_34 : decode cX4_init 34 = .ok (.putfield 22, 3) := by decide +kernel
theorem dX4_init_37 : decode cX4_init 37 = .ok (.aload_n 0, 1) := by decide +kernel
theorem dX4_init_38 : decode cX4_init 38 = .ok (.iconst 4, 1) := by decide +kernel
theorem dX4_init_39 : decode cX4_init 39 = .ok (.anewarray 26, 3) := by decide +kernel
theorem dX4_init_42 : decode cX4_init 42 = .ok (.putfield 28, 3) := by decide +kernel
theorem dX4_init_45 : decode cX4_init 45 = .ok (.iconst 0, 1) := by decide +kernel
theorem dX4_init_46 : decode cX4_init 46 = .ok (.istore_n 1, 1) := by decide +kernel
theorem dX4_init_47 : decode cX4_init 47 = .ok (.iload_n 1, 1) := by decide +kernel
theorem dX4_init_48 : decode cX4_init 48 = .ok (.aload_n 0, 1) := by decide +kernel
theorem dX4_init_49 : decode cX4_init 49 = .ok (.getfield 28, 3) := by decide +kernel
theorem dX4_init_52 : decode cX4_init 52 = .ok (.arraylength, 1) := by decide +kernel
theorem dX4_init_53 : decode cX4_init 53 = .ok (.if_icmp .ge 22, 3) := by decide +kernel
theorem dX4_init_56 : decode cX4_init 56 = .ok (.aload_n 0, 1) := by decide +kernel
theorem dX4_init_57 : decode cX4_init 57 = .ok (.getfield 28, 3) := by decide +kernel
theorem dX4_init_60 : decode cX4_init 60 = .ok (.iload_n 1, 1) := by decide +kernel
theorem dX4_init_61 : decode cX4_init 61 = .ok (.new 26, 3) := by decide +kernel
theorem dX4_init_64 : decode cX4_init 64 = .ok (.dup, 1) := by decide +kernel
theorem dX4_init_65 : decode cX4_init 65 = .ok (.invokespecial 32, 3) := by decide +kernel
theorem dX4_init_68 : decode cX4_init 68 = .ok (.aastore, 1) := by decide +kernel
theorem dX4_init_69 : decode cX4_init 69 = .ok (.iinc 1 1, 3) := by decide +kernel
theorem dX4_init_72 : decode cX4_init 72 = .ok (.goto (-25), 3) := by decide +kernel
theorem dX4_init_75 : decode cX4_init 75 = .ok (.return_, 1) := by decide +kernel
theorem dX4_type_0 : decode cX4_type 0 = .ok (.iload_n 1, 1) := by decide +kernel
theorem dX4_type_1 : decode cX4_type 1 = .ok (.bipush 33, 2) := by decide +kernel
theorem dX4_type_3 : decode cX4_type 3 = .ok (.if_icmp .lt 18, 3) := by decide +kernel
theorem dX4_type_6 : decode cX4_type 6 = .ok (.iload_n 1, 1) := by decide +kernel
theorem dX4_type_7 : decode cX4_type 7 = .ok (.bipush 126, 2) := by decide +kernel
theorem dX4_type_9 : decode cX4_type 9 = .ok (.if_icmp .gt 12, 3) := by decide +kernel
theorem dX4_type_12 : decode cX4_type 12 = .ok (.ldc 33, 2) := by decide +kernel
theorem dX4_type_14 : decode cX4_type 14 = .ok (.iload_n 1, 1) := by decide +kernel
theorem dX4_type_15 : decode cX4_type 15 = .ok (.invokevirtual 35, 3) := by decide +kernel
theorem dX4_type_18 : decode cX4_type 18 = .ok (.ifCond .lt 13, 3) := by decide +kernel
theorem dX4_type_21 : decode cX4_type 21 = .ok (.new 41, 3) := by decide +kernel
theorem dX4_type_24 : decode cX4_type 24 = .ok (.dup, 1) := by decide +kernel
theorem dX4_type_25 : decode cX4_type 25 = .ok (.ldc 43, 2) := by decide +kernel
theorem dX4_type_27 : decode cX4_type 27 = .ok (.invokespecial 45, 3) := by decide +kernel
theorem dX4_type_30 : decode cX4_type 30 = .ok (.athrow, 1) := by decide +kernel
theorem dX4_type_31 : decode cX4_type 31 = .ok (.aload_n 0, 1) := by decide +kernel
theorem dX4_type_32 : decode cX4_type 32 = .ok (.iconst 1, 1) := by decide +kernel
theorem dX4_type_33 : decode cX4_type 33 = .ok (.invokevirtual 48, 3) := by decide +kernel
theorem dX4_type_36 : decode cX4_type 36 = .ok (.aload_n 0, 1) := by decide +kernel
theorem dX4_type_37 : decode cX4_type 37 = .ok (.getfield 10, 3) := by decide +kernel
theorem dX4_type_40 : decode cX4_type 40 = .ok (.iload_n 1, 1) := by decide +kernel
theorem dX4_type_41 : decode cX4_type 41 = .ok (.invokevirtual 52, 3) := by decide +kernel
theorem dX4_type_44 : decode cX4_type 44 = .ok (.aload_n 0, 1) := by decide +kernel
theorem dX4_type_45 : decode cX4_type 45 = .ok (.getfield 10, 3) := by decide +kernel
theorem dX4_type_48 : decode cX4_type 48 = .ok (.invokevirtual 56, 3) := by decide +kernel
theorem dX4_type_51 : decode cX4_type 51 = .ok (.ireturn, 1) := by decide +kernel
theorem dX4_escape_0 : decode cX4_escape 0 = .ok (.iload_n 1, 1) := by decide +kernel
theorem dX4_escape_1 : decode cX4_escape 1 = .ok (.ifCond .lt 10, 3) := by decide +kernel
theorem dX4_escape_4 : decode cX4_escape 4 = .ok (.iload_n 1, 1) := by decide +kernel
theorem dX4_escape_5 : decode cX4_escape 5 = .ok (.sipush 255, 3) := by decide +kernel
theorem dX4_escape_8 : decode cX4_escape 8 = .ok (.if_icmp .le 13, 3) := by decide +kernel
theorem dX4_escape_11 : decode cX4_escape 11 = .ok (.new 41, 3) := by decide +kernel
theorem dX4_escape_14 : decode cX4_escape 14 = .ok (.dup, 1) := by decide +kernel
theorem dX4_escape_15 : decode cX4_escape 15 = .ok (.ldc 60, 2) := by decide +kernel
theorem dX4_escape_17 : decode cX4_escape 17 = .ok (.invokespecial 45, 3) := by decide +kernel
theorem dX4_escape_20 : decode cX4_escape 20 = .ok (.athrow, 1) := by decide +kernel
theorem dX4_escape_21 : decode cX4_escape 21 = .ok (.aload_n 0, 1) := by decide +kernel
theorem dX4_escape_22 : decode cX4_escape 22 = .ok (.iconst 3, 1) := by decide +kernel
theorem dX4_escape_23 : decode cX4_escape 23 = .ok (.invokevirtual 48, 3) := by decide +kernel
theorem dX4_escape_26 : decode cX4_escape 26 = .ok (.iload_n 2, 1) := by decide +kernel
theorem dX4_escape_27 : decode cX4_escape 27 = .ok (.ifCond .eq 8, 3) := by decide +kernel
theorem dX4_escape_30 : decode cX4_escape 30 = .ok (.ldc 62, 2) := by decide +kernel
theorem dX4_escape_32 : decode cX4_escape 32 = .ok (.goto 5, 3) := by decide +kernel
theorem dX4_escape_35 : decode cX4_escape 35 = .ok (.ldc 64, 2) := by decide +kernel
theorem dX4_escape_37 : decode cX4_escape 37 = .ok (.astore_n 3, 1) := by decide +kernel
theorem dX4_escape_38 : decode cX4_escape 38 = .ok (.aload_n 0, 1) := by decide +kernel
theorem dX4_escape_39 : decode cX4_escape 39 = .ok (.getfield 10, 3) := by decide +kernel
theorem dX4_escape_42 : decode cX4_escape 42 = .ok (.bipush 37, 2) := by decide +kernel
theorem dX4_escape_44 : decode cX4_escape 44 = .ok (.invokevirtual 52, 3) := by decide +kernel
theorem dX4_escape_47 : decode cX4_escape 47 = .ok (.aload_n 0, 1) := by decide +kernel
theorem dX4_escape_48 : decode cX4_escape 48 = .ok (.getfield 10, 3) := by decide +kernel
theorem dX4_escape_51 : decode cX4_escape 51 = .ok (.aload_n 3, 1) := by decide +kernel
theorem dX4_escape_52 : decode cX4_escape 52 = .ok (.iload_n 1, 1) := by decide +kernel
theorem dX4_escape_53 : decode cX4_escape 53 = .ok (.iconst 4, 1) := by decide +kernel
theorem dX4_escape_54 : decode cX4_escape 54 = .ok (.ishr, 1) := by decide +kernel
theorem dX4_escape_55 : decode cX4_escape 55 = .ok (.bipush 15, 2) := by decide +kernel
theorem dX4_escape_57 : decode cX4_escape 57 = .ok (.iand, 1) := by decide +kernel
theorem dX4_escape_58 : decode cX4_escape 58 = .ok (.invokevirtual 66, 3) := by decide +kernel
theorem dX4_escape_61 : decode cX4_escape 61 = .ok (.invokevirtual 52, 3) := by decide +kernel
theorem dX4_escape_64 : decode cX4_escape 64 = .ok (.aload_n 0, 1) := by decide +kernel
theorem dX4_escape_65 : decode cX4_escape 65 = .ok (.getfield 10, 3) := by decide +kernel
theorem dX4_escape_68 : decode cX4_escape 68 = .ok (.aload_n 3, 1) := by decide +kernel
theorem dX4_escape_69 : decode cX4_escape 69 = .ok (.iload_n 1, 1) := by decide +kernel
theorem dX4_escape_70 : decode cX4_escape 70 = .ok (.bipush 15, 2) := by decide +kernel
theorem dX4_escape_72 : decode cX4_escape 72 = .ok (.iand, 1) := by decide +kernel
theorem dX4_escape_73 : decode cX4_escape 73 = .ok (.invokevirtual 66, 3) := by decide +kernel
theorem dX4_escape_76 : decode cX4_escape 76 = .ok (.invokevirtual 52, 3) := by decide +kernel
theorem dX4_escape_79 : decode cX4_escape 79 = .ok (.aload_n 0, 1) := by decide +kernel
theorem dX4_escape_80 : decode cX4_escape 80 = .ok (.getfield 10, 3) := by decide +kernel
theorem dX4_escape_83 : decode cX4_escape 83 = .ok (.invokevirtual 56, 3) := by decide +kernel
theorem dX4_escape_86 : decode cX4_escape 86 = .ok (.ireturn, 1) := by decide +kernel
theorem dX4_word_0 : decode cX4_word 0 = .ok (.iload_n 1, 1) := by decide +kernel
theorem dX4_word_1 : decode cX4_word 1 = .ok (.ifCond .lt 9, 3) := by decide +kernel
theorem dX4_word_4 : decode cX4_word 4 = .ok (.iload_n 1, 1) := by decide +kernel
theorem dX4_word_5 : decode cX4_word 5 = .ok (.bipush 32, 2) := by decide +kernel
theorem dX4_word_7 : decode cX4_word 7 = .ok (.if_icmp .lt 13, 3) := by decide +kernel
theorem dX4_word_10 : decode cX4_word 10 = .ok (.new 70, 3) := by decide +kernel
theorem dX4_word_13 : decode cX4_word 13 = .ok (.dup, 1) := by decide +kernel
theorem dX4_word_14 : decode cX4_word 14 = .ok (.ldc 72, 2) := by decide +kernel
theorem dX4_word_16 : decode cX4_word 16 = .ok (.invokespecial 74, 3) := by decide +kernel
theorem dX4_word_19 : decode cX4_word 19 = .ok (.athrow, 1) := by decide +kernel
theorem dX4_word_20 : decode cX4_word 20 = .ok (.iload_n 1, 1) := by decide +kernel
theorem dX4_word_21 : decode cX4_word 21 = .ok (.invokestatic 75, 3) := by decide +kernel
theorem dX4_word_24 : decode cX4_word 24 = .ok (.astore_n 2, 1) := by decide +kernel
theorem dX4_word_25 : decode cX4_word 25 = .ok (.aload_n 0, 1) := by decide +kernel
theorem dX4_word_26 : decode cX4_word 26 = .ok (.aload_n 2, 1) := by decide +kernel
theorem dX4_word_27 : decode cX4_word 27 = .ok (.invokevirtual 79, 3) := by decide +kernel
theorem dX4_word_30 : decode cX4_word 30 = .ok (.invokevirtual 48, 3) := by decide +kernel
theorem dX4_word_33 : decode cX4_word 33 = .ok (.aload_n 0, 1) := by decide +kernel
theorem dX4_word_34 : decode cX4_word 34 = .ok (.getfield 10, 3) := by decide +kernel
theorem dX4_word_37 : decode cX4_word 37 = .ok (.aload_n 2, 1) := by decide +kernel
theorem dX4_word_38 : decode cX4_word 38 = .ok (.invokevirtual 82, 3) := by decide +kernel
theorem dX4_word_41 : decode cX4_word 41 = .ok (.aload_n 0, 1) := by decide +kernel
theorem dX4_word_42 : decode cX4_word 42 = .ok (.getfield 10, 3) := by decide +kernel
theorem dX4_word_45 : decode cX4_word 45 = .ok (.invokevirtual 56, 3) := by decide +kernel
theorem dX4_word_48 : decode cX4_word 48 = .ok (.ireturn, 1) := by decide +kernel
theorem dX4_drop_0 : decode cX4_drop 0 = .ok (.aload_n 0, 1) := by decide +kernel
theorem dX4_drop_1 : decode cX4_drop 1 = .ok (.getfield 10, 3) := by decide +kernel
theorem dX4_drop_4 : decode cX4_drop 4 = .ok (.invokevirtual 56, 3) := by decide +kernel
theorem dX4_drop_7 : decode cX4_drop 7 = .ok (.istore_n 1, 1) := by decide +kernel
theorem dX4_drop_8 : decode cX4_drop 8 = .ok (.iload_n 1, 1) := by decide +kernel
theorem dX4_drop_9 : decode cX4_drop 9 = .ok (.ifCond .ne 13, 3) := by decide +kernel
theorem dX4_drop_12 : decode cX4_drop 12 = .ok (.new 85, 3) := by decide +kernel
theorem dX4_drop_15 : decode cX4_drop 15 = .ok (.dup, 1) := by decide +kernel
theorem dX4_drop_16 : decode cX4_drop 16 = .ok (.ldc 87, 2) := by decide +kernel
theorem dX4_drop_18 : decode cX4_drop 18 = .ok (.invokespecial 89, 3) := by decide +kernel
theorem dX4_drop_21 : decode cX4_drop 21 = .ok (.athrow, 1) := by decide +kernel
theorem dX4_drop_22 : decode cX4_drop 22 = .ok (.aload_n 0, 1) := by decide +kernel
theorem dX4_drop_23 : decode cX4_drop 23 = .ok (.getfield 10, 3) := by decide +kernel
theorem dX4_drop_26 : decode cX4_drop 26 = .ok (.iload_n 1, 1) := by decide +kernel
theorem dX4_drop_27 : decode cX4_drop 27 = .ok (.iconst 3, 1) := by decide +kernel
theorem dX4_drop_28 : decode cX4_drop 28 = .ok (.isub, 1) := by decide +kernel
theorem dX4_drop_29 : decode cX4_drop 29 = .ok (.invokevirtual 90, 3) := by decide +kernel
theorem dX4_drop_32 : decode cX4_drop 32 = .ok (.bipush 37, 2) := by decide +kernel
theorem dX4_drop_34 : decode cX4_drop 34 = .ok (.if_icmp .ne 7, 3) := by decide +kernel
theorem dX4_drop_37 : decode cX4_drop 37 = .ok (.iconst 1, 1) := by decide +kernel
theorem dX4_drop_38 : decode cX4_drop 38 = .ok (.goto 4, 3) := by decide +kernel
theorem dX4_drop_41 : decode cX4_drop 41 = .ok (.iconst 0, 1) := by decide +kernel
theorem dX4_drop_42 : decode cX4_drop 42 = .ok (.istore_n 2, 1) := by decide +kernel
theorem dX4_drop_43 : decode cX4_drop 43 = .ok (.aload_n 0, 1) := by decide +kernel
theorem dX4_drop_44 : decode cX4_drop 44 = .ok (.getfield 10, 3) := by decide +kernel
theorem dX4_drop_47 : decode cX4_drop 47 = .ok (.iload_n 2, 1) := by decide +kernel
theorem dX4_drop_48 : decode cX4_drop 48 = .ok (.ifCond .eq 9, 3) := by decide +kernel
theorem dX4_drop_51 : decode cX4_drop 51 = .ok (.iload_n 1, 1) := by decide +kernel
theorem dX4_drop_52 : decode cX4_drop 52 = .ok (.iconst 3, 1) := by decide +kernel
theorem dX4_drop_53 : decode cX4_drop 53 = .ok (.isub, 1) := by decide +kernel
theorem dX4_drop_54 : decode cX4_drop 54 = .ok (.goto 6, 3) := by decide +kernel
theorem dX4_drop_57 : decode cX4_drop 57 = .ok (.iload_n 1, 1) := by decide +kernel
theorem dX4_drop_58 : decode cX4_drop 58 = .ok (.iconst 1, 1) := by decide +kernel
theorem dX4_drop_59 : decode cX4_drop 59 = .ok (.isub, 1) := by decide +kernel
theorem dX4_drop_60 : decode cX4_drop 60 = .ok (.invokevirtual 93, 3) := by decide +kernel
theorem dX4_drop_63 : decode cX4_drop 63 = .ok (.aload_n 0, 1) := by decide +kernel
theorem dX4_drop_64 : decode cX4_drop 64 = .ok (.getfield 10, 3) := by decide +kernel
theorem dX4_drop_67 : decode cX4_drop 67 = .ok (.invokevirtual 56, 3) := by decide +kernel
theorem dX4_drop_70 : decode cX4_drop 70 = .ok (.ireturn, 1) := by decide +kernel
theorem dX4_wipe_0 : decode cX4_wipe 0 = .ok (.aload_n 0, 1) := by decide +kernel
theorem dX4_wipe_1 : decode cX4_wipe 1 = .ok (.getfield 10, 3) := by decide +kernel
theorem dX4_wipe_4 : decode cX4_wipe 4 = .ok (.invokevirtual 56, 3) := by decide +kernel
theorem dX4_wipe_7 : decode cX4_wipe 7 = .ok (.istore_n 1, 1) := by decide +kernel
theorem dX4_wipe_8 : decode cX4_wipe 8 = .ok (.aload_n 0, 1) := by decide +kernel
theorem dX4_wipe_9 : decode cX4_wipe 9 = .ok (.getfield 10, 3) := by decide +kernel
theorem dX4_wipe_12 : decode cX4_wipe 12 = .ok (.iconst 0, 1) := by decide +kernel
theorem dX4_wipe_13 : decode cX4_wipe 13 = .ok (.invokevirtual 93, 3) := by decide +kernel
theorem dX4_wipe_16 : decode cX4_wipe 16 = .ok (.iload_n 1, 1) := by decide +kernel
theorem dX4_wipe_17 : decode cX4_wipe 17 = .ok (.ireturn, 1) := by decide +kernel
theorem dX4_length_0 : decode cX4_length 0 = .ok (.aload_n 0, 1) := by decide +kernel
theorem dX4_length_1 : decode cX4_length 1 = .ok (.getfield 10, 3) := by decide +kernel
theorem dX4_length_4 : decode cX4_length 4 = .ok (.invokevirtual 56, 3) := by decide +kernel
theorem dX4_length_7 : decode cX4_length 7 = .ok (.ireturn, 1) := by decide +kernel
theorem dX4_signAt_0 : decode cX4_signAt 0 = .ok (.iload_n 1, 1) := by decide +kernel
theorem dX4_signAt_1 : decode cX4_signAt 1 = .ok (.ifCond .lt 14, 3) := by decide +kernel
theorem dX4_signAt_4 : decode cX4_signAt 4 = .ok (.iload_n 1, 1) := by decide +kernel
theorem dX4_signAt_5 : decode cX4_signAt 5 = .ok (.aload_n 0, 1) := by decide +kernel
theorem dX4_signAt_6 : decode cX4_signAt 6 = .ok (.getfield 10, 3) := by decide +kernel
theorem dX4_signAt_9 : decode cX4_signAt 9 = .ok (.invokevirtual 56, 3) := by decide +kernel
theorem dX4_signAt_12 : decode cX4_signAt 12 = .ok (.if_icmp .lt 13, 3) := by decide +kernel
theorem dX4_signAt_15 : decode cX4_signAt 15 = .ok (.new 70, 3) := by decide +kernel
theorem dX4_signAt_18 : decode cX4_signAt 18 = .ok (.dup, 1) := by decide +kernel
theorem dX4_signAt_19 : decode cX4_signAt 19 = .ok (.ldc 96, 2) := by decide +kernel
theorem dX4_signAt_21 : decode cX4_signAt 21 = .ok (.invokespecial 74, 3) := by decide +kernel
theorem dX4_signAt_24 : decode cX4_signAt 24 = .ok (.athrow, 1) := by decide +kernel
theorem dX4_signAt_25 : decode cX4_signAt 25 = .ok (.aload_n 0, 1) := by decide +kernel
theorem dX4_signAt_26 : decode cX4_signAt 26 = .ok (.getfield 10, 3) := by decide +kernel
theorem dX4_signAt_29 : decode cX4_signAt 29 = .ok (.iload_n 1, 1) := by decide +kernel
theorem dX4_signAt_30 : decode cX4_signAt 30 = .ok (.invokevirtual 90, 3) := by decide +kernel
theorem dX4_signAt_33 : decode cX4_signAt 33 = .ok (.ireturn, 1) := by decide +kernel
theorem dX4_parse_0 : decode cX4_parse 0 = .ok (.aload_n 0, 1) := by decide +kernel
theorem dX4_parse_1 : decode cX4_parse 1 = .ok (.iload_n 1, 1) := by decide +kernel
theorem dX4_parse_2 : decode cX4_parse 2 = .ok (.invokevirtual 98, 3) := by decide +kernel
theorem dX4_parse_5 : decode cX4_parse 5 = .ok (.astore_n 2, 1) := by decide +kernel
theorem dX4_parse_6 : decode cX4_parse 6 = .ok (.aload_n 0, 1) := by decide +kernel
theorem dX4_parse_7 : decode cX4_parse 7 = .ok (.getfield 10, 3) := by decide +kernel
theorem dX4_parse_10 : decode cX4_parse 10 = .ok (.invokestatic 102, 3) := by decide +kernel
theorem dX4_parse_13 : decode cX4_parse 13 = .ok (.ifCond .eq 13, 3) := by decide +kernel
theorem dX4_parse_16 : decode cX4_parse 16 = .ok (.new 108, 3) := by decide +kernel
theorem dX4_parse_19 : decode cX4_parse 19 = .ok (.dup, 1) := by decide +kernel
theorem dX4_parse_20 : decode cX4_parse 20 = .ok (.ldc 110, 2) := by decide +kernel
theorem dX4_parse_22 : decode cX4_parse 22 = .ok (.invokespecial 112, 3) := by decide +kernel
theorem dX4_parse_25 : decode cX4_parse 25 = .ok (.athrow, 1) := by decide +kernel
theorem dX4_parse_26 : decode cX4_parse 26 = .ok (.aload_n 0, 1) := by decide +kernel
theorem dX4_parse_27 : decode cX4_parse 27 = .ok (.getfield 22, 3) := by decide +kernel
theorem dX4_parse_30 : decode cX4_parse 30 = .ok (.aload_n 0, 1) := by decide +kernel
theorem dX4_parse_31 : decode cX4_parse 31 = .ok (.getfield 10, 3) := by decide +kernel
theorem dX4_parse_34 : decode cX4_parse 34 = .ok (.invokevirtual 113, 3) := by decide +kernel
theorem dX4_parse_37 : decode cX4_parse 37 = .ok (.istore_n 3, 1) := by decide +kernel
theorem dX4_parse_38 : decode cX4_parse 38 = .ok (.iload_n 3, 1) := by decide +kernel
theorem dX4_parse_39 : decode cX4_parse 39 = .ok (.iconst (-1), 1) := by decide +kernel
theorem dX4_parse_40 : decode cX4_parse 40 = .ok (.if_icmp .ne 17, 3) := by decide +kernel
theorem dX4_parse_43 : decode cX4_parse 43 = .ok (.aload_n 2, 1) := by decide +kernel
theorem dX4_parse_44 : decode cX4_parse 44 = .ok (.aload_n 0, 1) := by decide +kernel
theorem dX4_parse_45 : decode cX4_parse 45 = .ok (.getfield 22, 3) := by decide +kernel
theorem dX4_parse_48 : decode cX4_parse 48 = .ok (.invokevirtual 117, 3) := by decide +kernel
theorem dX4_parse_51 : decode cX4_parse 51 = .ok (.invokevirtual 121, 3) := by decide +kernel
theorem dX4_parse_54 : decode cX4_parse 54 = .ok (.goto 18, 3) := by decide +kernel
theorem dX4_parse_57 : decode cX4_parse 57 = .ok (.aload_n 0, 1) := by decide +kernel
theorem dX4_parse_58 : decode cX4_parse 58 = .ok (.dup, 1) := by decide +kernel
theorem dX4_parse_59 : decode cX4_parse 59 = .ok (.getfield 125, 3) := by decide +kernel
theorem dX4_parse_62 : decode cX4_parse 62 = .ok (.iconst 1, 1) := by decide +kernel
theorem dX4_parse_63 : decode cX4_parse 63 = .ok (.iadd, 1) := by decide +kernel
theorem dX4_parse_64 : decode cX4_parse 64 = .ok (.putfield 125, 3) := by decide +kernel
theorem dX4_parse_67 : decode cX4_parse 67 = .ok (.aload_n 0, 1) := by decide +kernel
theorem dX4_parse_68 : decode cX4_parse 68 = .ok (.iload_n 3, 1) := by decide +kernel
theorem dX4_parse_69 : decode cX4_parse 69 = .ok (.putfield 129, 3) := by decide +kernel
theorem dX4_parse_72 : decode cX4_parse 72 = .ok (.iload_n 3, 1) := by decide +kernel
theorem dX4_parse_73 : decode cX4_parse 73 = .ok (.ireturn, 1) := by decide +kernel
theorem dX4_refusals_0 : decode cX4_refusals 0 = .ok (.aload_n 0, 1) := by decide +kernel
theorem dX4_refusals_1 : decode cX4_refusals 1 = .ok (.getfield 125, 3) := by decide +kernel
theorem dX4_refusals_4 : decode cX4_refusals 4 = .ok (.ireturn, 1) := by decide +kernel
theorem dX4_refusedAt_0 : decode cX4_refusedAt 0 = .ok (.aload_n 0, 1) := by decide +kernel
theorem dX4_refusedAt_1 : decode cX4_refusedAt 1 = .ok (.invokevirtual 132, 3) := by decide +kernel
theorem dX4_refusedAt_4 : decode cX4_refusedAt 4 = .ok (.aload_n 0, 1) := by decide +kernel
theorem dX4_refusedAt_5 : decode cX4_refusedAt 5 = .ok (.getfield 129, 3) := by decide +kernel
theorem dX4_refusedAt_8 : decode cX4_refusedAt 8 = .ok (.ireturn, 1) := by decide +kernel
theorem dX4_isTold_0 : decode cX4_isTold 0 = .ok (.aload_n 0, 1) := by decide +kernel
theorem dX4_isTold_1 : decode cX4_isTold 1 = .ok (.invokevirtual 132, 3) := by decide +kernel
theorem dX4_isTold_4 : decode cX4_isTold 4 = .ok (.iconst 1, 1) := by decide +kernel
theorem dX4_isTold_5 : decode cX4_isTold 5 = .ok (.ireturn, 1) := by decide +kernel
theorem dX4_isThere_0 : decode cX4_isThere 0 = .ok (.aload_n 0, 1) := by decide +kernel
theorem dX4_isThere_1 : decode cX4_isThere 1 = .ok (.iload_n 1, 1) := by decide +kernel
theorem dX4_isThere_2 : decode cX4_isThere 2 = .ok (.invokevirtual 98, 3) := by decide +kernel
theorem dX4_isThere_5 : decode cX4_isThere 5 = .ok (.invokevirtual 135, 3) := by decide +kernel
theorem dX4_isThere_8 : decode cX4_isThere 8 = .ok (.ireturn, 1) := by decide +kernel
theorem dX4_isAbsolute_0 : decode cX4_isAbsolute 0 = .ok (.aload_n 0, 1) := by decide +kernel
theorem dX4_isAbsolute_1 : decode cX4_isAbsolute 1 = .ok (.iload_n 1, 1) := by decide +kernel
theorem dX4_isAbsolute_2 : decode cX4_isAbsolute 2 = .ok (.invokevirtual 139, 3) := by decide +kernel
theorem dX4_isAbsolute_5 : decode cX4_isAbsolute 5 = .ok (.iconst 0, 1) := by decide +kernel
theorem dX4_isAbsolute_6 : decode cX4_isAbsolute 6 = .ok (.invokevirtual 142, 3) := by decide +kernel
theorem dX4_isAbsolute_9 : decode cX4_isAbsolute 9 = .ok (.ireturn, 1) := by decide +kernel
theorem dX4_isOpaque_0 : decode cX4_isOpaque 0 = .ok (.aload_n 0, 1) := by decide +kernel
theorem dX4_isOpaque_1 : decode cX4_isOpaque 1 = .ok (.iload_n 1, 1) := by decide +kernel
theorem dX4_isOpaque_2 : decode cX4_isOpaque 2 = .ok (.invokevirtual 139, 3) := by decide +kernel
theorem dX4_isOpaque_5 : decode cX4_isOpaque 5 = .ok (.iconst 5, 1) := by decide +kernel
theorem dX4_isOpaque_6 : decode cX4_isOpaque 6 = .ok (.invokevirtual 142, 3) := by decide +kernel
theorem dX4_isOpaque_9 : decode cX4_isOpaque 9 = .ok (.ifCond .ne 7, 3) := by decide +kernel
theorem dX4_isOpaque_12 : decode cX4_isOpaque 12 = .ok (.iconst 1, 1) := by decide +kernel
theorem dX4_isOpaque_13 : decode cX4_isOpaque 13 = .ok (.goto 4, 3) := by decide +kernel
theorem dX4_isOpaque_16 : decode cX4_isOpaque 16 = .ok (.iconst 0, 1) := by decide +kernel
theorem dX4_isOpaque_17 : decode cX4_isOpaque 17 = .ok (.ireturn, 1) := by decide +kernel
theorem dX4_port_0 : decode cX4_port 0 = .ok (.aload_n 0, 1) := by decide +kernel
theorem dX4_port_1 : decode cX4_port 1 = .ok (.iload_n 1, 1) := by decide +kernel
theorem dX4_port_2 : decode cX4_port 2 = .ok (.invokevirtual 139, 3) := by decide +kernel
theorem dX4_port_5 : decode cX4_port 5 = .ok (.invokevirtual 146, 3) := by decide +kernel
theorem dX4_port_8 : decode cX4_port 8 = .ok (.ireturn, 1) := by decide +kernel
theorem dX4_size_0 : decode cX4_size 0 = .ok (.aload_n 0, 1) := by decide +kernel
theorem dX4_size_1 : decode cX4_size 1 = .ok (.iload_n 1, 1) := by decide +kernel
theorem dX4_size_2 : decode cX4_size 2 = .ok (.invokevirtual 98, 3) := by decide +kernel
theorem dX4_size_5 : decode cX4_size 5 = .ok (.astore_n 3, 1) := by decide +kernel
theorem dX4_size_6 : decode cX4_size 6 = .ok (.iload_n 2, 1) := by decide +kernel
theorem dX4_size_7 : decode cX4_size 7 = .ok (.invokestatic 149, 3) := by decide +kernel
theorem dX4_size_10 : decode cX4_size 10 = .ok (.istore 4, 2) := by decide +kernel
theorem dX4_size_12 : decode cX4_size 12 = .ok (.aload_n 3, 1) := by decide +kernel
theorem dX4_size_13 : decode cX4_size 13 = .ok (.invokestatic 153, 3) := by decide +kernel
theorem dX4_size_16 : decode cX4_size 16 = .ok (.aload_n 3, 1) := by decide +kernel
theorem dX4_size_17 : decode cX4_size 17 = .ok (.iload 4, 2) := by decide +kernel
theorem dX4_size_19 : decode cX4_size 19 = .ok (.invokevirtual 156, 3) := by decide +kernel
theorem dX4_size_22 : decode cX4_size 22 = .ok (.ireturn, 1) := by decide +kernel
theorem dX4_partSign_0 : decode cX4_partSign 0 = .ok (.aload_n 0, 1) := by decide +kernel
theorem dX4_partSign_1 : decode cX4_partSign 1 = .ok (.iload_n 1, 1) := by decide +kernel
theorem dX4_partSign_2 : decode cX4_partSign 2 = .ok (.invokevirtual 98, 3) := by decide +kernel
theorem dX4_partSign_5 : decode cX4_partSign 5 = .ok (.astore 4, 2) := by decide +kernel
theorem dX4_partSign_7 : decode cX4_partSign 7 = .ok (.iload_n 2, 1) := by decide +kernel
theorem dX4_partSign_8 : decode cX4_partSign 8 = .ok (.invokestatic 149, 3) := by decide +kernel
theorem dX4_partSign_11 : decode cX4_partSign 11 = .ok (.istore 5, 2) := by decide +kernel
theorem dX4_partSign_13 : decode cX4_partSign 13 = .ok (.aload 4, 2) := by decide +kernel
theorem dX4_partSign_15 : decode cX4_partSign 15 = .ok (.invokestatic 153, 3) := by decide +kernel
theorem dX4_partSign_18 : decode cX4_partSign 18 = .ok (.iload_n 3, 1) := by decide +kernel
theorem dX4_partSign_19 : decode cX4_partSign 19 = .ok (.ifCond .lt 14, 3) := by decide +kernel
theorem dX4_partSign_22 : decode cX4_partSign 22 = .ok (.iload_n 3, 1) := by decide +kernel
theorem dX4_partSign_23 : decode cX4_partSign 23 = .ok (.aload 4, 2) := by decide +kernel
theorem dX4_partSign_25 : decode cX4_partSign 25 = .ok (.iload 5, 2) := by decide +kernel
theorem dX4_partSign_27 : decode cX4_partSign 27 = .ok (.invokevirtual 156, 3) := by decide +kernel
theorem dX4_partSign_30 : decode cX4_partSign 30 = .ok (.if_icmp .lt 13, 3) := by decide +kernel
theorem dX4_partSign_33 : decode cX4_partSign 33 = .ok (.new 85, 3) := by decide +kernel
theorem dX4_partSign_36 : decode cX4_partSign 36 = .ok (.dup, 1) := by decide +kernel
theorem dX4_partSign_37 : decode cX4_partSign 37 = .ok (.ldc 159, 2) := by decide +kernel
theorem dX4_partSign_39 : decode cX4_partSign 39 = .ok (.invokespecial 89, 3) := by decide +kernel
theorem dX4_partSign_42 : decode cX4_partSign 42 = .ok (.athrow, 1) := by decide +kernel
theorem dX4_partSign_43 : decode cX4_partSign 43 = .ok (.aload 4, 2) := by decide +kernel
theorem dX4_partSign_45 : decode cX4_partSign 45 = .ok (.iload 5, 2) := by decide +kernel
theorem dX4_partSign_47 : decode cX4_partSign 47 = .ok (.iload_n 3, 1) := by decide +kernel
theorem dX4_partSign_48 : decode cX4_partSign 48 = .ok (.invokevirtual 161, 3) := by decide +kernel
theorem dX4_partSign_51 : decode cX4_partSign 51 = .ok (.ireturn, 1) := by decide +kernel
theorem dX4_begin_0 : decode cX4_begin 0 = .ok (.aload_n 0, 1) := by decide +kernel
theorem dX4_begin_1 : decode cX4_begin 1 = .ok (.iload_n 1, 1) := by decide +kernel
theorem dX4_begin_2 : decode cX4_begin 2 = .ok (.invokevirtual 98, 3) := by decide +kernel
theorem dX4_begin_5 : decode cX4_begin 5 = .ok (.astore_n 3, 1) := by decide +kernel
theorem dX4_begin_6 : decode cX4_begin 6 = .ok (.iload_n 2, 1) := by decide +kernel
theorem dX4_begin_7 : decode cX4_begin 7 = .ok (.invokestatic 149, 3) := by decide +kernel
theorem dX4_begin_10 : decode cX4_begin 10 = .ok (.istore 4, 2) := by decide +kernel
theorem dX4_begin_12 : decode cX4_begin 12 = .ok (.aload_n 3, 1) := by decide +kernel
theorem dX4_begin_13 : decode cX4_begin 13 = .ok (.invokestatic 153, 3) := by decide +kernel
theorem dX4_begin_16 : decode cX4_begin 16 = .ok (.aload_n 3, 1) := by decide +kernel
theorem dX4_begin_17 : decode cX4_begin 17 = .ok (.iload 4, 2) := by decide +kernel
theorem dX4_begin_19 : decode cX4_begin 19 = .ok (.invokevirtual 165, 3) := by decide +kernel
theorem dX4_begin_22 : decode cX4_begin 22 = .ok (.ireturn, 1) := by decide +kernel
theorem dX4_append_0 : decode cX4_append 0 = .ok (.aload_n 0, 1) := by decide +kernel
theorem dX4_append_1 : decode cX4_append 1 = .ok (.iload_n 1, 1) := by decide +kernel
theorem dX4_append_2 : decode cX4_append 2 = .ok (.invokevirtual 98, 3) := by decide +kernel
theorem dX4_append_5 : decode cX4_append 5 = .ok (.astore_n 3, 1) := by decide +kernel
theorem dX4_append_6 : decode cX4_append 6 = .ok (.iload_n 2, 1) := by decide +kernel
theorem dX4_append_7 : decode cX4_append 7 = .ok (.invokestatic 149, 3) := by decide +kernel
theorem dX4_append_10 : decode cX4_append 10 = .ok (.istore 4, 2) := by decide +kernel
theorem dX4_append_12 : decode cX4_append 12 = .ok (.aload_n 3, 1) := by decide +kernel
theorem dX4_append_13 : decode cX4_append 13 = .ok (.invokestatic 153, 3) := by decide +kernel
theorem dX4_append_16 : decode cX4_append 16 = .ok (.aload_n 3, 1) := by decide +kernel
theorem dX4_append_17 : decode cX4_append 17 = .ok (.iload 4, 2) := by decide +kernel
theorem dX4_append_19 : decode cX4_append 19 = .ok (.invokevirtual 142, 3) := by decide +kernel
theorem dX4_append_22 : decode cX4_append 22 = .ok (.ifCond .ne 13, 3) := by decide +kernel
theorem dX4_append_25 : decode cX4_append 25 = .ok (.new 85, 3) := by decide +kernel
theorem dX4_append_28 : decode cX4_append 28 = .ok (.dup, 1) := by decide +kernel
theorem dX4_append_29 : decode cX4_append 29 = .ok (.ldc 168, 2) := by decide +kernel
theorem dX4_append_31 : decode cX4_append 31 = .ok (.invokespecial 89, 3) := by decide +kernel
theorem dX4_append_34 : decode cX4_append 34 = .ok (.athrow, 1) := by decide +kernel
theorem dX4_append_35 : decode cX4_append 35 = .ok (.aload_n 0, 1) := by decide +kernel
theorem dX4_append_36 : decode cX4_append 36 = .ok (.aload_n 3, 1) := by decide +kernel
theorem dX4_append_37 : decode cX4_append 37 = .ok (.iload 4, 2) := by decide +kernel
theorem dX4_append_39 : decode cX4_append 39 = .ok (.invokevirtual 156, 3) := by decide +kernel
theorem dX4_append_42 : decode cX4_append 42 = .ok (.invokevirtual 48, 3) := by decide +kernel
theorem dX4_append_45 : decode cX4_append 45 = .ok (.aload_n 3, 1) := by decide +kernel
theorem dX4_append_46 : decode cX4_append 46 = .ok (.iload 4, 2) := by decide +kernel
theorem dX4_append_48 : decode cX4_append 48 = .ok (.aload_n 0, 1) := by decide +kernel
theorem dX4_append_49 : decode cX4_append 49 = .ok (.getfield 10, 3) := by decide +kernel
theorem dX4_append_52 : decode cX4_append 52 = .ok (.invokevirtual 170, 3) := by decide +kernel
theorem dX4_append_55 : decode cX4_append 55 = .ok (.aload_n 0, 1) := by decide +kernel
theorem dX4_append_56 : decode cX4_append 56 = .ok (.getfield 10, 3) := by decide +kernel
theorem dX4_append_59 : decode cX4_append 59 = .ok (.invokevirtual 56, 3) := by decide +kernel
theorem dX4_append_62 : decode cX4_append 62 = .ok (.ireturn, 1) := by decide +kernel
theorem dX4_copy_0 : decode cX4_copy 0 = .ok (.aload_n 0, 1) := by decide +kernel
theorem dX4_copy_1 : decode cX4_copy 1 = .ok (.iload_n 1, 1) := by decide +kernel
theorem dX4_copy_2 : decode cX4_copy 2 = .ok (.invokevirtual 98, 3) := by decide +kernel
theorem dX4_copy_5 : decode cX4_copy 5 = .ok (.astore_n 3, 1) := by decide +kernel
theorem dX4_copy_6 : decode cX4_copy 6 = .ok (.aload_n 0, 1) := by decide +kernel
theorem dX4_copy_7 : decode cX4_copy 7 = .ok (.iload_n 2, 1) := by decide +kernel
theorem dX4_copy_8 : decode cX4_copy 8 = .ok (.invokevirtual 98, 3) := by decide +kernel
theorem dX4_copy_11 : decode cX4_copy 11 = .ok (.aload_n 3, 1) := by decide +kernel
theorem dX4_copy_12 : decode cX4_copy 12 = .ok (.invokevirtual 121, 3) := by decide +kernel
theorem dX4_copy_15 : decode cX4_copy 15 = .ok (.iconst 0, 1) := by decide +kernel
theorem dX4_copy_16 : decode cX4_copy 16 = .ok (.istore 4, 2) := by decide +kernel
theorem dX4_copy_18 : decode cX4_copy 18 = .ok (.aload_n 0, 1) := by decide +kernel
theorem dX4_copy_19 : decode cX4_copy 19 = .ok (.getfield 28, 3) := by decide +kernel
theorem dX4_copy_22 : decode cX4_copy 22 = .ok (.astore 5, 2) := by decide +kernel
theorem dX4_copy_24 : decode cX4_copy 24 = .ok (.aload 5, 2) := by decide +kernel
theorem dX4_copy_26 : decode cX4_copy 26 = .ok (.arraylength, 1) := by decide +kernel
theorem dX4_copy_27 : decode cX4_copy 27 = .ok (.istore 6, 2) := by decide +kernel
theorem dX4_copy_29 : decode cX4_copy 29 = .ok (.iconst 0, 1) := by decide +kernel
theorem dX4_copy_30 : decode cX4_copy 30 = .ok (.istore 7, 2) := by decide +kernel
theorem dX4_copy_32 : decode cX4_copy 32 = .ok (.iload 7, 2) := by decide +kernel
theorem dX4_copy_34 : decode cX4_copy 34 = .ok (.iload 6, 2) := by decide +kernel
theorem dX4_copy_36 : decode cX4_copy 36 = .ok (.if_icmp .ge 27, 3) := by decide +kernel
theorem dX4_copy_39 : decode cX4_copy 39 = .ok (.aload 5, 2) := by decide +kernel
theorem dX4_copy_41 : decode cX4_copy 41 = .ok (.iload 7, 2) := by decide +kernel
theorem dX4_copy_43 : decode cX4_copy 43 = .ok (.aaload, 1) := by decide +kernel
theorem dX4_copy_44 : decode cX4_copy 44 = .ok (.astore 8, 2) := by decide +kernel
theorem dX4_copy_46 : decode cX4_copy 46 = .ok (.aload 8, 2) := by decide +kernel
theorem dX4_copy_48 : decode cX4_copy 48 = .ok (.invokevirtual 135, 3) := by decide +kernel
theorem dX4_copy_51 : decode cX4_copy 51 = .ok (.ifCond .eq 6, 3) := by decide +kernel
theorem dX4_copy_54 : decode cX4_copy 54 = .ok (.iinc 4 1, 3) := by decide +kernel
theorem dX4_copy_57 : decode cX4_copy 57 = .ok (.iinc 7 1, 3) := by decide +kernel
theorem dX4_copy_60 : decode cX4_copy 60 = .ok (.goto (-28), 3) := by decide +kernel
theorem dX4_copy_63 : decode cX4_copy 63 = .ok (.iload 4, 2) := by decide +kernel
theorem dX4_copy_65 : decode cX4_copy 65 = .ok (.ireturn, 1) := by decide +kernel
theorem dX4_alike_0 : decode cX4_alike 0 = .ok (.aload_n 0, 1) := by decide +kernel
theorem dX4_alike_1 : decode cX4_alike 1 = .ok (.iload_n 1, 1) := by decide +kernel
theorem dX4_alike_2 : decode cX4_alike 2 = .ok (.invokevirtual 98, 3) := by decide +kernel
theorem dX4_alike_5 : decode cX4_alike 5 = .ok (.astore_n 3, 1) := by decide +kernel
theorem dX4_alike_6 : decode cX4_alike 6 = .ok (.aload_n 0, 1) := by decide +kernel
theorem dX4_alike_7 : decode cX4_alike 7 = .ok (.iload_n 2, 1) := by decide +kernel
theorem dX4_alike_8 : decode cX4_alike 8 = .ok (.invokevirtual 98, 3) := by decide +kernel
theorem dX4_alike_11 : decode cX4_alike 11 = .ok (.astore 4, 2) := by decide +kernel
theorem dX4_alike_13 : decode cX4_alike 13 = .ok (.aload_n 3, 1) := by decide +kernel
theorem dX4_alike_14 : decode cX4_alike 14 = .ok (.invokestatic 153, 3) := by decide +kernel
theorem dX4_alike_17 : decode cX4_alike 17 = .ok (.aload 4, 2) := by decide +kernel
theorem dX4_alike_19 : decode cX4_alike 19 = .ok (.invokestatic 153, 3) := by decide +kernel
theorem dX4_alike_22 : decode cX4_alike 22 = .ok (.aload_n 3, 1) := by decide +kernel
theorem dX4_alike_23 : decode cX4_alike 23 = .ok (.aload 4, 2) := by decide +kernel
theorem dX4_alike_25 : decode cX4_alike 25 = .ok (.invokevirtual 174, 3) := by decide +kernel
theorem dX4_alike_28 : decode cX4_alike 28 = .ok (.ireturn, 1) := by decide +kernel
theorem dX4_together_0 : decode cX4_together 0 = .ok (.aload_n 0, 1) := by decide +kernel
theorem dX4_together_1 : decode cX4_together 1 = .ok (.iload_n 1, 1) := by decide +kernel
theorem dX4_together_2 : decode cX4_together 2 = .ok (.invokevirtual 139, 3) := by decide +kernel
theorem dX4_together_5 : decode cX4_together 5 = .ok (.astore_n 2, 1) := by decide +kernel
theorem dX4_together_6 : decode cX4_together 6 = .ok (.aload_n 0, 1) := by decide +kernel
theorem dX4_together_7 : decode cX4_together 7 = .ok (.aload_n 2, 1) := by decide +kernel
theorem dX4_together_8 : decode cX4_together 8 = .ok (.aload_n 2, 1) := by decide +kernel
theorem dX4_together_9 : decode cX4_together 9 = .ok (.iconst (-1), 1) := by decide +kernel
theorem dX4_together_10 : decode cX4_together 10 = .ok (.invokevirtual 178, 3) := by decide +kernel
theorem dX4_together_13 : decode cX4_together 13 = .ok (.aload_n 0, 1) := by decide +kernel
theorem dX4_together_14 : decode cX4_together 14 = .ok (.getfield 10, 3) := by decide +kernel
theorem dX4_together_17 : decode cX4_together 17 = .ok (.aload_n 0, 1) := by decide +kernel
theorem dX4_together_18 : decode cX4_together 18 = .ok (.getfield 16, 3) := by decide +kernel
theorem dX4_together_21 : decode cX4_together 21 = .ok (.invokevirtual 182, 3) := by decide +kernel
theorem dX4_together_24 : decode cX4_together 24 = .ok (.aload_n 2, 1) := by decide +kernel
theorem dX4_together_25 : decode cX4_together 25 = .ok (.aload_n 0, 1) := by decide +kernel
theorem dX4_together_26 : decode cX4_together 26 = .ok (.getfield 10, 3) := by decide +kernel
theorem dX4_together_29 : decode cX4_together 29 = .ok (.invokevirtual 185, 3) := by decide +kernel
theorem dX4_together_32 : decode cX4_together 32 = .ok (.ireturn, 1) := by decide +kernel
theorem dX4_mix_0 : decode cX4_mix 0 = .ok (.aload_n 0, 1) := by decide +kernel
theorem dX4_mix_1 : decode cX4_mix 1 = .ok (.iload_n 1, 1) := by decide +kernel
theorem dX4_mix_2 : decode cX4_mix 2 = .ok (.invokevirtual 98, 3) := by decide +kernel
theorem dX4_mix_5 : decode cX4_mix 5 = .ok (.astore 4, 2) := by decide +kernel
theorem dX4_mix_7 : decode cX4_mix 7 = .ok (.aload_n 0, 1) := by decide +kernel
theorem dX4_mix_8 : decode cX4_mix 8 = .ok (.iload_n 2, 1) := by decide +kernel
theorem dX4_mix_9 : decode cX4_mix 9 = .ok (.invokevirtual 98, 3) := by decide +kernel
theorem dX4_mix_12 : decode cX4_mix 12 = .ok (.astore 5, 2) := by decide +kernel
theorem dX4_mix_14 : decode cX4_mix 14 = .ok (.aload 4, 2) := by decide +kernel
theorem dX4_mix_16 : decode cX4_mix 16 = .ok (.invokestatic 153, 3) := by decide +kernel
theorem dX4_mix_19 : decode cX4_mix 19 = .ok (.aload 5, 2) := by decide +kernel
theorem dX4_mix_21 : decode cX4_mix 21 = .ok (.invokestatic 153, 3) := by decide +kernel
theorem dX4_mix_24 : decode cX4_mix 24 = .ok (.ldc 188, 2) := by decide +kernel
theorem dX4_mix_26 : decode cX4_mix 26 = .ok (.iload_n 3, 1) := by decide +kernel
theorem dX4_mix_27 : decode cX4_mix 27 = .ok (.invokevirtual 35, 3) := by decide +kernel
theorem dX4_mix_30 : decode cX4_mix 30 = .ok (.ifCond .ge 13, 3) := by decide +kernel
theorem dX4_mix_33 : decode cX4_mix 33 = .ok (.new 41, 3) := by decide +kernel
theorem dX4_mix_36 : decode cX4_mix 36 = .ok (.dup, 1) := by decide +kernel
theorem dX4_mix_37 : decode cX4_mix 37 = .ok (.ldc 190, 2) := by decide +kernel
theorem dX4_mix_39 : decode cX4_mix 39 = .ok (.invokespecial 45, 3) := by decide +kernel
theorem dX4_mix_42 : decode cX4_mix 42 = .ok (.athrow, 1) := by decide +kernel
theorem dX4_mix_43 : decode cX4_mix 43 = .ok (.aload 4, 2) := by decide +kernel
theorem dX4_mix_45 : decode cX4_mix 45 = .ok (.iconst 5, 1) := by decide +kernel
theorem dX4_mix_46 : decode cX4_mix 46 = .ok (.invokevirtual 142, 3) := by decide +kernel
theorem dX4_mix_49 : decode cX4_mix 49 = .ok (.ifCond .eq 12, 3) := by decide +kernel
theorem dX4_mix_52 : decode cX4_mix 52 = .ok (.aload 5, 2) := by decide +kernel
theorem dX4_mix_54 : decode cX4_mix 54 = .ok (.iconst 5, 1) := by decide +kernel
theorem dX4_mix_55 : decode cX4_mix 55 = .ok (.invokevirtual 142, 3) := by decide +kernel
theorem dX4_mix_58 : decode cX4_mix 58 = .ok (.ifCond .ne 13, 3) := by decide +kernel
theorem dX4_mix_61 : decode cX4_mix 61 = .ok (.new 192, 3) := by decide +kernel
theorem dX4_mix_64 : decode cX4_mix 64 = .ok (.dup, 1) := by decide +kernel
theorem dX4_mix_65 : decode cX4_mix 65 = .ok (.ldc 194, 2) := by decide +kernel
theorem dX4_mix_67 : decode cX4_mix 67 = .ok (.invokespecial 196, 3) := by decide +kernel
theorem dX4_mix_70 : decode cX4_mix 70 = .ok (.athrow, 1) := by decide +kernel
theorem dX4_mix_71 : decode cX4_mix 71 = .ok (.aload_n 0, 1) := by decide +kernel
theorem dX4_mix_72 : decode cX4_mix 72 = .ok (.aload 4, 2) := by decide +kernel
theorem dX4_mix_74 : decode cX4_mix 74 = .ok (.aload 5, 2) := by decide +kernel
theorem dX4_mix_76 : decode cX4_mix 76 = .ok (.ldc 197, 2) := by decide +kernel
theorem dX4_mix_78 : decode cX4_mix 78 = .ok (.iload_n 3, 1) := by decide +kernel
theorem dX4_mix_79 : decode cX4_mix 79 = .ok (.invokevirtual 35, 3) := by decide +kernel
theorem dX4_mix_82 : decode cX4_mix 82 = .ok (.invokevirtual 178, 3) := by decide +kernel
theorem dX4_mix_85 : decode cX4_mix 85 = .ok (.aload_n 0, 1) := by decide +kernel
theorem dX4_mix_86 : decode cX4_mix 86 = .ok (.getfield 16, 3) := by decide +kernel
theorem dX4_mix_89 : decode cX4_mix 89 = .ok (.invokevirtual 56, 3) := by decide +kernel
theorem dX4_mix_92 : decode cX4_mix 92 = .ok (.bipush 60, 2) := by decide +kernel
theorem dX4_mix_94 : decode cX4_mix 94 = .ok (.if_icmp .le 13, 3) := by decide +kernel
theorem dX4_mix_97 : decode cX4_mix 97 = .ok (.new 108, 3) := by decide +kernel
theorem dX4_mix_100 : decode cX4_mix 100 = .ok (.dup, 1) := by decide +kernel
theorem dX4_mix_101 : decode cX4_mix 101 = .ok (.ldc 199, 2) := by decide +kernel
theorem dX4_mix_103 : decode cX4_mix 103 = .ok (.invokespecial 112, 3) := by decide +kernel
theorem dX4_mix_106 : decode cX4_mix 106 = .ok (.athrow, 1) := by decide +kernel
theorem dX4_mix_107 : decode cX4_mix 107 = .ok (.aload_n 0, 1) := by decide +kernel
theorem dX4_mix_108 : decode cX4_mix 108 = .ok (.getfield 10, 3) := by decide +kernel
theorem dX4_mix_111 : decode cX4_mix 111 = .ok (.aload_n 0, 1) := by decide +kernel
theorem dX4_mix_112 : decode cX4_mix 112 = .ok (.getfield 16, 3) := by decide +kernel
theorem dX4_mix_115 : decode cX4_mix 115 = .ok (.invokevirtual 182, 3) := by decide +kernel
theorem dX4_mix_118 : decode cX4_mix 118 = .ok (.aload_n 0, 1) := by decide +kernel
theorem dX4_mix_119 : decode cX4_mix 119 = .ok (.getfield 10, 3) := by decide +kernel
theorem dX4_mix_122 : decode cX4_mix 122 = .ok (.invokevirtual 56, 3) := by decide +kernel
theorem dX4_mix_125 : decode cX4_mix 125 = .ok (.ireturn, 1) := by decide +kernel
theorem dX4_isTrue_0 : decode cX4_isTrue 0 = .ok (.aload_n 0, 1) := by decide +kernel
theorem dX4_isTrue_1 : decode cX4_isTrue 1 = .ok (.getfield 28, 3) := by decide +kernel
theorem dX4_isTrue_4 : decode cX4_isTrue 4 = .ok (.astore_n 1, 1) := by decide +kernel
theorem dX4_isTrue_5 : decode cX4_isTrue 5 = .ok (.aload_n 1, 1) := by decide +kernel
theorem dX4_isTrue_6 : decode cX4_isTrue 6 = .ok (.arraylength, 1) := by decide +kernel
theorem dX4_isTrue_7 : decode cX4_isTrue 7 = .ok (.istore_n 2, 1) := by decide +kernel
theorem dX4_isTrue_8 : decode cX4_isTrue 8 = .ok (.iconst 0, 1) := by decide +kernel
theorem dX4_isTrue_9 : decode cX4_isTrue 9 = .ok (.istore_n 3, 1) := by decide +kernel
theorem dX4_isTrue_10 : decode cX4_isTrue 10 = .ok (.iload_n 3, 1) := by decide +kernel
theorem dX4_isTrue_11 : decode cX4_isTrue 11 = .ok (.iload_n 2, 1) := by decide +kernel
theorem dX4_isTrue_12 : decode cX4_isTrue 12 = .ok (.if_icmp .ge 51, 3) := by decide +kernel
theorem dX4_isTrue_15 : decode cX4_isTrue 15 = .ok (.aload_n 1, 1) := by decide +kernel
theorem dX4_isTrue_16 : decode cX4_isTrue 16 = .ok (.iload_n 3, 1) := by decide +kernel
theorem dX4_isTrue_17 : decode cX4_isTrue 17 = .ok (.aaload, 1) := by decide +kernel
theorem dX4_isTrue_18 : decode cX4_isTrue 18 = .ok (.astore 4, 2) := by decide +kernel
theorem dX4_isTrue_20 : decode cX4_isTrue 20 = .ok (.aload 4, 2) := by decide +kernel
theorem dX4_isTrue_22 : decode cX4_isTrue 22 = .ok (.invokevirtual 135, 3) := by decide +kernel
theorem dX4_isTrue_25 : decode cX4_isTrue 25 = .ok (.ifCond .eq 32, 3) := by decide +kernel
theorem dX4_isTrue_28 : decode cX4_isTrue 28 = .ok (.aload_n 0, 1) := by decide +kernel
theorem dX4_isTrue_29 : decode cX4_isTrue 29 = .ok (.aload 4, 2) := by decide +kernel
theorem dX4_isTrue_31 : decode cX4_isTrue 31 = .ok (.invokevirtual 201, 3) := by decide +kernel
theorem dX4_isTrue_34 : decode cX4_isTrue 34 = .ok (.ifCond .eq 21, 3) := by decide +kernel
theorem dX4_isTrue_37 : decode cX4_isTrue 37 = .ok (.aload_n 0, 1) := by decide +kernel
theorem dX4_isTrue_38 : decode cX4_isTrue 38 = .ok (.aload 4, 2) := by decide +kernel
theorem dX4_isTrue_40 : decode cX4_isTrue 40 = .ok (.invokevirtual 205, 3) := by decide +kernel
theorem dX4_isTrue_43 : decode cX4_isTrue 43 = .ok (.ifCond .eq 12, 3) := by decide +kernel
theorem dX4_isTrue_46 : decode cX4_isTrue 46 = .ok (.aload_n 0, 1) := by decide +kernel
theorem dX4_isTrue_47 : decode cX4_isTrue 47 = .ok (.aload 4, 2) := by decide +kernel
theorem dX4_isTrue_49 : decode cX4_isTrue 49 = .ok (.invokevirtual 208, 3) := by decide +kernel
theorem dX4_isTrue_52 : decode cX4_isTrue 52 = .ok (.ifCond .ne 5, 3) := by decide +kernel
theorem dX4_isTrue_55 : decode cX4_isTrue 55 = .ok (.iconst 0, 1) := by decide +kernel
theorem dX4_isTrue_56 : decode cX4_isTrue 56 = .ok (.ireturn, 1) := by decide +kernel
theorem dX4_isTrue_57 : decode cX4_isTrue 57 = .ok (.iinc 3 1, 3) := by decide +kernel
theorem dX4_isTrue_60 : decode cX4_isTrue 60 = .ok (.goto (-50), 3) := by decide +kernel
theorem dX4_isTrue_63 : decode cX4_isTrue 63 = .ok (.iconst 1, 1) := by decide +kernel
theorem dX4_isTrue_64 : decode cX4_isTrue 64 = .ok (.ireturn, 1) := by decide +kernel
theorem dX4_checksum_0 : decode cX4_checksum 0 = .ok (.ldc2_w 211, 3) := by decide +kernel
theorem dX4_checksum_3 : decode cX4_checksum 3 = .ok (.lstore_n 1, 1) := by decide +kernel
theorem dX4_checksum_4 : decode cX4_checksum 4 = .ok (.iconst 0, 1) := by decide +kernel
theorem dX4_checksum_5 : decode cX4_checksum 5 = .ok (.istore_n 3, 1) := by decide +kernel
theorem dX4_checksum_6 : decode cX4_checksum 6 = .ok (.iload_n 3, 1) := by decide +kernel
theorem dX4_checksum_7 : decode cX4_checksum 7 = .ok (.aload_n 0, 1) := by decide +kernel
theorem dX4_checksum_8 : decode cX4_checksum 8 = .ok (.getfield 10, 3) := by decide +kernel
theorem dX4_checksum_11 : decode cX4_checksum 11 = .ok (.invokevirtual 56, 3) := by decide +kernel
theorem dX4_checksum_14 : decode cX4_checksum 14 = .ok (.if_icmp .ge 25, 3) := by decide +kernel
theorem dX4_checksum_17 : decode cX4_checksum 17 = .ok (.ldc2_w 213, 3) := by decide +kernel
theorem dX4_checksum_20 : decode cX4_checksum 20 = .ok (.lload_n 1, 1) := by decide +kernel
theorem dX4_checksum_21 : decode cX4_checksum 21 = .ok (.lmul, 1) := by decide +kernel
theorem dX4_checksum_22 : decode cX4_checksum 22 = .ok (.aload_n 0, 1) := by decide +kernel
theorem dX4_checksum_23 : decode cX4_checksum 23 = .ok (.getfield 10, 3) := by decide +kernel
theorem dX4_checksum_26 : decode cX4_checksum 26 = .ok (.iload_n 3, 1) := by decide +kernel
theorem dX4_checksum_27 : decode cX4_checksum 27 = .ok (.invokevirtual 90, 3) := by decide +kernel
theorem dX4_checksum_30 : decode cX4_checksum 30 = .ok (.i2l, 1) := by decide +kernel
theorem dX4_checksum_31 : decode cX4_checksum 31 = .ok (.ladd, 1) := by decide +kernel
theorem dX4_checksum_32 : decode cX4_checksum 32 = .ok (.lstore_n 1, 1) := by decide +kernel
theorem dX4_checksum_33 : decode cX4_checksum 33 = .ok (.iinc 3 1, 3) := by decide +kernel
theorem dX4_checksum_36 : decode cX4_checksum 36 = .ok (.goto (-30), 3) := by decide +kernel
theorem dX4_checksum_39 : decode cX4_checksum 39 = .ok (.ldc2_w 213, 3) := by decide +kernel
theorem dX4_checksum_42 : decode cX4_checksum 42 = .ok (.lload_n 1, 1) := by decide +kernel
theorem dX4_checksum_43 : decode cX4_checksum 43 = .ok (.lmul, 1) := by decide +kernel
theorem dX4_checksum_44 : decode cX4_checksum 44 = .ok (.aload_n 0, 1) := by decide +kernel
theorem dX4_checksum_45 : decode cX4_checksum 45 = .ok (.getfield 125, 3) := by decide +kernel
theorem dX4_checksum_48 : decode cX4_checksum 48 = .ok (.i2l, 1) := by decide +kernel
theorem dX4_checksum_49 : decode cX4_checksum 49 = .ok (.ladd, 1) := by decide +kernel
theorem dX4_checksum_50 : decode cX4_checksum 50 = .ok (.lstore_n 1, 1) := by decide +kernel
theorem dX4_checksum_51 : decode cX4_checksum 51 = .ok (.aload_n 0, 1) := by decide +kernel
theorem dX4_checksum_52 : decode cX4_checksum 52 = .ok (.getfield 28, 3) := by decide +kernel
theorem dX4_checksum_55 : decode cX4_checksum 55 = .ok (.astore_n 3, 1) := by decide +kernel
theorem dX4_checksum_56 : decode cX4_checksum 56 = .ok (.aload_n 3, 1) := by decide +kernel
theorem dX4_checksum_57 : decode cX4_checksum 57 = .ok (.arraylength, 1) := by decide +kernel
theorem dX4_checksum_58 : decode cX4_checksum 58 = .ok (.istore 4, 2) := by decide +kernel
theorem dX4_checksum_60 : decode cX4_checksum 60 = .ok (.iconst 0, 1) := by decide +kernel
theorem dX4_checksum_61 : decode cX4_checksum 61 = .ok (.istore 5, 2) := by decide +kernel
theorem dX4_checksum_63 : decode cX4_checksum 63 = .ok (.iload 5, 2) := by decide +kernel
theorem dX4_checksum_65 : decode cX4_checksum 65 = .ok (.iload 4, 2) := by decide +kernel
theorem dX4_checksum_67 : decode cX4_checksum 67 = .ok (.if_icmp .ge 22, 3) := by decide +kernel
theorem dX4_checksum_70 : decode cX4_checksum 70 = .ok (.aload_n 3, 1) := by decide +kernel
theorem dX4_checksum_71 : decode cX4_checksum 71 = .ok (.iload 5, 2) := by decide +kernel
theorem dX4_checksum_73 : decode cX4_checksum 73 = .ok (.aaload, 1) := by decide +kernel
theorem dX4_checksum_74 : decode cX4_checksum 74 = .ok (.astore 6, 2) := by decide +kernel
theorem dX4_checksum_76 : decode cX4_checksum 76 = .ok (.aload 6, 2) := by decide +kernel
theorem dX4_checksum_78 : decode cX4_checksum 78 = .ok (.lload_n 1, 1) := by decide +kernel
theorem dX4_checksum_79 : decode cX4_checksum 79 = .ok (.invokevirtual 215, 3) := by decide +kernel
theorem dX4_checksum_82 : decode cX4_checksum 82 = .ok (.lstore_n 1, 1) := by decide +kernel
theorem dX4_checksum_83 : decode cX4_checksum 83 = .ok (.iinc 5 1, 3) := by decide +kernel
theorem dX4_checksum_86 : decode cX4_checksum 86 = .ok (.goto (-23), 3) := by decide +kernel
theorem dX4_checksum_89 : decode cX4_checksum 89 = .ok (.lload_n 1, 1) := by decide +kernel
theorem dX4_checksum_90 : decode cX4_checksum 90 = .ok (.lreturn, 1) := by decide +kernel
theorem dX4_checkRoom_0 : decode cX4_checkRoom 0 = .ok (.aload_n 0, 1) := by decide +kernel
theorem dX4_checkRoom_1 : decode cX4_checkRoom 1 = .ok (.getfield 10, 3) := by decide +kernel
theorem dX4_checkRoom_4 : decode cX4_checkRoom 4 = .ok (.invokevirtual 56, 3) := by decide +kernel
theorem dX4_checkRoom_7 : decode cX4_checkRoom 7 = .ok (.iload_n 1, 1) := by decide +kernel
theorem dX4_checkRoom_8 : decode cX4_checkRoom 8 = .ok (.iadd, 1) := by decide +kernel
theorem dX4_checkRoom_9 : decode cX4_checkRoom 9 = .ok (.bipush 60, 2) := by decide +kernel
theorem dX4_checkRoom_11 : decode cX4_checkRoom 11 = .ok (.if_icmp .le 13, 3) := by decide +kernel
theorem dX4_checkRoom_14 : decode cX4_checkRoom 14 = .ok (.new 108, 3) := by decide +kernel
theorem dX4_checkRoom_17 : decode cX4_checkRoom 17 = .ok (.dup, 1) := by decide +kernel
theorem dX4_checkRoom_18 : decode cX4_checkRoom 18 = .ok (.ldc 199, 2) := by decide +kernel
theorem dX4_checkRoom_20 : decode cX4_checkRoom 20 = .ok (.invokespecial 112, 3) := by decide +kernel
theorem dX4_checkRoom_23 : decode cX4_checkRoom 23 = .ok (.athrow, 1) := by decide +kernel
theorem dX4_checkRoom_24 : decode cX4_checkRoom 24 = .ok (.return_, 1) := by decide +kernel
theorem dX4_checkRefused_0 : decode cX4_checkRefused 0 = .ok (.aload_n 0, 1) := by decide +kernel
theorem dX4_checkRefused_1 : decode cX4_checkRefused 1 = .ok (.getfield 125, 3) := by decide +kernel
theorem dX4_checkRefused_4 : decode cX4_checkRefused 4 = .ok (.ifCond .ne 13, 3) := by decide +kernel
theorem dX4_checkRefused_7 : decode cX4_checkRefused 7 = .ok (.new 85, 3) := by decide +kernel
theorem dX4_checkRefused_10 : decode cX4_checkRefused 10 = .ok (.dup, 1) := by decide +kernel
theorem dX4_checkRefused_11 : decode cX4_checkRefused 11 = .ok (.ldc 219, 2) := by decide +kernel
theorem dX4_checkRefused_13 : decode cX4_checkRefused 13 = .ok (.invokespecial 89, 3) := by decide +kernel
theorem dX4_checkRefused_16 : decode cX4_checkRefused 16 = .ok (.athrow, 1) := by decide +kernel
theorem dX4_checkRefused_17 : decode cX4_checkRefused 17 = .ok (.return_, 1) := by decide +kernel
theorem dX4_slotAt_0 : decode cX4_slotAt 0 = .ok (.iload_n 1, 1) := by decide +kernel
theorem dX4_slotAt_1 : decode cX4_slotAt 1 = .ok (.ifCond .lt 12, 3) := by decide +kernel
theorem dX4_slotAt_4 : decode cX4_slotAt 4 = .ok (.iload_n 1, 1) := by decide +kernel
theorem dX4_slotAt_5 : decode cX4_slotAt 5 = .ok (.aload_n 0, 1) := by decide +kernel
theorem dX4_slotAt_6 : decode cX4_slotAt 6 = .ok (.getfield 28, 3) := by decide +kernel
theorem dX4_slotAt_9 : decode cX4_slotAt 9 = .ok (.arraylength, 1) := by decide +kernel
theorem dX4_slotAt_10 : decode cX4_slotAt 10 = .ok (.if_icmp .lt 13, 3) := by decide +kernel
theorem dX4_slotAt_13 : decode cX4_slotAt 13 = .ok (.new 70, 3) := by decide +kernel
theorem dX4_slotAt_16 : decode cX4_slotAt 16 = .ok (.dup, 1) := by decide +kernel
theorem dX4_slotAt_17 : decode cX4_slotAt 17 = .ok (.ldc 221, 2) := by decide +kernel
theorem dX4_slotAt_19 : decode cX4_slotAt 19 = .ok (.invokespecial 74, 3) := by decide +kernel
theorem dX4_slotAt_22 : decode cX4_slotAt 22 = .ok (.athrow, 1) := by decide +kernel
theorem dX4_slotAt_23 : decode cX4_slotAt 23 = .ok (.aload_n 0, 1) := by decide +kernel
theorem dX4_slotAt_24 : decode cX4_slotAt 24 = .ok (.getfield 28, 3) := by decide +kernel
theorem dX4_slotAt_27 : decode cX4_slotAt 27 = .ok (.iload_n 1, 1) := by decide +kernel
theorem dX4_slotAt_28 : decode cX4_slotAt 28 = .ok (.aaload, 1) := by decide +kernel
theorem dX4_slotAt_29 : decode cX4_slotAt 29 = .ok (.areturn, 1) := by decide +kernel
theorem dX4_checkHeld_0 : decode cX4_checkHeld 0 = .ok (.aload_n 0, 1) := by decide +kernel
theorem dX4_checkHeld_1 : decode cX4_checkHeld 1 = .ok (.invokevirtual 135, 3) := by decide +kernel
theorem dX4_checkHeld_4 : decode cX4_checkHeld 4 = .ok (.ifCond .ne 13, 3) := by decide +kernel
theorem dX4_checkHeld_7 : decode cX4_checkHeld 7 = .ok (.new 85, 3) := by decide +kernel
theorem dX4_checkHeld_10 : decode cX4_checkHeld 10 = .ok (.dup, 1) := by decide +kernel
theorem dX4_checkHeld_11 : decode cX4_checkHeld 11 = .ok (.ldc 223, 2) := by decide +kernel
theorem dX4_checkHeld_13 : decode cX4_checkHeld 13 = .ok (.invokespecial 89, 3) := by decide +kernel
theorem dX4_checkHeld_16 : decode cX4_checkHeld 16 = .ok (.athrow, 1) := by decide +kernel
theorem dX4_checkHeld_17 : decode cX4_checkHeld 17 = .ok (.return_, 1) := by decide +kernel
theorem dX4_addressAt_0 : decode cX4_addressAt 0 = .ok (.aload_n 0, 1) := by decide +kernel
theorem dX4_addressAt_1 : decode cX4_addressAt 1 = .ok (.iload_n 1, 1) := by decide +kernel
theorem dX4_addressAt_2 : decode cX4_addressAt 2 = .ok (.invokevirtual 98, 3) := by decide +kernel
theorem dX4_addressAt_5 : decode cX4_addressAt 5 = .ok (.astore_n 2, 1) := by decide +kernel
theorem dX4_addressAt_6 : decode cX4_addressAt 6 = .ok (.aload_n 2, 1) := by decide +kernel
theorem dX4_addressAt_7 : decode cX4_addressAt 7 = .ok (.invokestatic 153, 3) := by decide +kernel
theorem dX4_addressAt_10 : decode cX4_addressAt 10 = .ok (.aload_n 2, 1) := by decide +kernel
theorem dX4_addressAt_11 : decode cX4_addressAt 11 = .ok (.areturn, 1) := by decide +kernel
theorem dX4_partOf_0 : decode cX4_partOf 0 = .ok (.ldc 197, 2) := by decide +kernel
theorem dX4_partOf_2 : decode cX4_partOf 2 = .ok (.iload_n 0, 1) := by decide +kernel
theorem dX4_partOf_3 : decode cX4_partOf 3 = .ok (.invokevirtual 35, 3) := by decide +kernel
theorem dX4_partOf_6 : decode cX4_partOf 6 = .ok (.istore_n 1, 1) := by decide +kernel
theorem dX4_partOf_7 : decode cX4_partOf 7 = .ok (.iload_n 1, 1) := by decide +kernel
theorem dX4_partOf_8 : decode cX4_partOf 8 = .ok (.ifCond .ge 13, 3) := by decide +kernel
theorem dX4_partOf_11 : decode cX4_partOf 11 = .ok (.new 41, 3) := by decide +kernel
theorem dX4_partOf_14 : decode cX4_partOf 14 = .ok (.dup, 1) := by decide +kernel
theorem dX4_partOf_15 : decode cX4_partOf 15 = .ok (.ldc 225, 2) := by decide +kernel
theorem dX4_partOf_17 : decode cX4_partOf 17 = .ok (.invokespecial 45, 3) := by decide +kernel
theorem dX4_partOf_20 : decode cX4_partOf 20 = .ok (.athrow, 1) := by decide +kernel
theorem dX4_partOf_21 : decode cX4_partOf 21 = .ok (.iload_n 1, 1) := by decide +kernel
theorem dX4_partOf_22 : decode cX4_partOf 22 = .ok (.ireturn, 1) := by decide +kernel
theorem dX4_weave_0 : decode cX4_weave 0 = .ok (.aload_n 0, 1) := by decide +kernel
theorem dX4_weave_1 : decode cX4_weave 1 = .ok (.getfield 16, 3) := by decide +kernel
theorem dX4_weave_4 : decode cX4_weave 4 = .ok (.iconst 0, 1) := by decide +kernel
theorem dX4_weave_5 : decode cX4_weave 5 = .ok (.invokevirtual 93, 3) := by decide +kernel
theorem dX4_weave_8 : decode cX4_weave 8 = .ok (.aload_n 0, 1) := by decide +kernel
theorem dX4_weave_9 : decode cX4_weave 9 = .ok (.ldc 227, 2) := by decide +kernel
theorem dX4_weave_11 : decode cX4_weave 11 = .ok (.iload_n 3, 1) := by decide +kernel
theorem dX4_weave_12 : decode cX4_weave 12 = .ok (.ifCond .ne 7, 3) := by decide +kernel
theorem dX4_weave_15 : decode cX4_weave 15 = .ok (.aload_n 2, 1) := by decide +kernel
theorem dX4_weave_16 : decode cX4_weave 16 = .ok (.goto 4, 3) := by decide +kernel
theorem dX4_weave_19 : decode cX4_weave 19 = .ok (.aload_n 1, 1) := by decide +kernel
theorem dX4_weave_20 : decode cX4_weave 20 = .ok (.iconst 0, 1) := by decide +kernel
theorem dX4_weave_21 : decode cX4_weave 21 = .ok (.ldc 229, 2) := by decide +kernel
theorem dX4_weave_23 : decode cX4_weave 23 = .ok (.invokevirtual 231, 3) := by decide +kernel
theorem dX4_weave_26 : decode cX4_weave 26 = .ok (.aload_n 1, 1) := by decide +kernel
theorem dX4_weave_27 : decode cX4_weave 27 = .ok (.iconst 5, 1) := by decide +kernel
theorem dX4_weave_28 : decode cX4_weave 28 = .ok (.invokevirtual 142, 3) := by decide +kernel
theorem dX4_weave_31 : decode cX4_weave 31 = .ok (.ifCond .ne 13, 3) := by decide +kernel
theorem dX4_weave_34 : decode cX4_weave 34 = .ok (.aload_n 0, 1) := by decide +kernel
theorem dX4_weave_35 : decode cX4_weave 35 = .ok (.ldc 227, 2) := by decide +kernel
theorem dX4_weave_37 : decode cX4_weave 37 = .ok (.aload_n 1, 1) := by decide +kernel
theorem dX4_weave_38 : decode cX4_weave 38 = .ok (.iconst 1, 1) := by decide +kernel
theorem dX4_weave_39 : decode cX4_weave 39 = .ok (.ldc 227, 2) := by decide +kernel
theorem dX4_weave_41 : decode cX4_weave 41 = .ok (.invokevirtual 231, 3) := by decide +kernel
theorem dX4_weave_44 : decode cX4_weave 44 = .ok (.aload_n 0, 1) := by decide +kernel
theorem dX4_weave_45 : decode cX4_weave 45 = .ok (.ldc 235, 2) := by decide +kernel
theorem dX4_weave_47 : decode cX4_weave 47 = .ok (.iload_n 3, 1) := by decide +kernel
theorem dX4_weave_48 : decode cX4_weave 48 = .ok (.iconst 2, 1) := by decide +kernel
theorem dX4_weave_49 : decode cX4_weave 49 = .ok (.if_icmp .ne 7, 3) := by decide +kernel
theorem dX4_weave_52 : decode cX4_weave 52 = .ok (.aload_n 2, 1) := by decide +kernel
theorem dX4_weave_53 : decode cX4_weave 53 = .ok (.goto 4, 3) := by decide +kernel
theorem dX4_weave_56 : decode cX4_weave 56 = .ok (.aload_n 1, 1) := by decide +kernel
theorem dX4_weave_57 : decode cX4_weave 57 = .ok (.iconst 2, 1) := by decide +kernel
theorem dX4_weave_58 : decode cX4_weave 58 = .ok (.ldc 227, 2) := by decide +kernel
theorem dX4_weave_60 : decode cX4_weave 60 = .ok (.invokevirtual 231, 3) := by decide +kernel
theorem dX4_weave_63 : decode cX4_weave 63 = .ok (.aload_n 0, 1) := by decide +kernel
theorem dX4_weave_64 : decode cX4_weave 64 = .ok (.ldc 227, 2) := by decide +kernel
theorem dX4_weave_66 : decode cX4_weave 66 = .ok (.iload_n 3, 1) := by decide +kernel
theorem dX4_weave_67 : decode cX4_weave 67 = .ok (.iconst 5, 1) := by decide +kernel
theorem dX4_weave_68 : decode cX4_weave 68 = .ok (.if_icmp .ne 7, 3) := by decide +kernel
theorem dX4_weave_71 : decode cX4_weave 71 = .ok (.aload_n 2, 1) := by decide +kernel
theorem dX4_weave_72 : decode cX4_weave 72 = .ok (.goto 4, 3) := by decide +kernel
theorem dX4_weave_75 : decode cX4_weave 75 = .ok (.aload_n 1, 1) := by decide +kernel
theorem dX4_weave_76 : decode cX4_weave 76 = .ok (.iconst 5, 1) := by decide +kernel
theorem dX4_weave_77 : decode cX4_weave 77 = .ok (.ldc 227, 2) := by decide +kernel
theorem dX4_weave_79 : decode cX4_weave 79 = .ok (.invokevirtual 231, 3) := by decide +kernel
theorem dX4_weave_82 : decode cX4_weave 82 = .ok (.aload_n 0, 1) := by decide +kernel
theorem dX4_weave_83 : decode cX4_weave 83 = .ok (.ldc 237, 2) := by decide +kernel
theorem dX4_weave_85 : decode cX4_weave 85 = .ok (.iload_n 3, 1) := by decide +kernel
theorem dX4_weave_86 : decode cX4_weave 86 = .ok (.bipush 6, 2) := by decide +kernel
theorem dX4_weave_88 : decode cX4_weave 88 = .ok (.if_icmp .ne 7, 3) := by decide +kernel
theorem dX4_weave_91 : decode cX4_weave 91 = .ok (.aload_n 2, 1) := by decide +kernel
theorem dX4_weave_92 : decode cX4_weave 92 = .ok (.goto 4, 3) := by decide +kernel
theorem dX4_weave_95 : decode cX4_weave 95 = .ok (.aload_n 1, 1) := by decide +kernel
theorem dX4_weave_96 : decode cX4_weave 96 = .ok (.bipush 6, 2) := by decide +kernel
theorem dX4_weave_98 : decode cX4_weave 98 = .ok (.ldc 227, 2) := by decide +kernel
theorem dX4_weave_100 : decode cX4_weave 100 = .ok (.invokevirtual 231, 3) := by decide +kernel
theorem dX4_weave_103 : decode cX4_weave 103 = .ok (.aload_n 0, 1) := by decide +kernel
theorem dX4_weave_104 : decode cX4_weave 104 = .ok (.ldc 239, 2) := by decide +kernel
theorem dX4_weave_106 : decode cX4_weave 106 = .ok (.iload_n 3, 1) := by decide +kernel
theorem dX4_weave_107 : decode cX4_weave 107 = .ok (.bipush 7, 2) := by decide +kernel
theorem dX4_weave_109 : decode cX4_weave 109 = .ok (.if_icmp .ne 7, 3) := by decide +kernel
theorem dX4_weave_112 : decode cX4_weave 112 = .ok (.aload_n 2, 1) := by decide +kernel
theorem dX4_weave_113 : decode cX4_weave 113 = .ok (.goto 4, 3) := by decide +kernel
theorem dX4_weave_116 : decode cX4_weave 116 = .ok (.aload_n 1, 1) := by decide +kernel
theorem dX4_weave_117 : decode cX4_weave 117 = .ok (.bipush 7, 2) := by decide +kernel
theorem dX4_weave_119 : decode cX4_weave 119 = .ok (.ldc 227, 2) := by decide +kernel
theorem dX4_weave_121 : decode cX4_weave 121 = .ok (.invokevirtual 231, 3) := by decide +kernel
theorem dX4_weave_124 : decode cX4_weave 124 = .ok (.return_, 1) := by decide +kernel
theorem dX4_weavePart_0 : decode cX4_weavePart 0 = .ok (.aload_n 2, 1) := by decide +kernel
theorem dX4_weavePart_1 : decode cX4_weavePart 1 = .ok (.iload_n 3, 1) := by decide +kernel
theorem dX4_weavePart_2 : decode cX4_weavePart 2 = .ok (.invokevirtual 142, 3) := by decide +kernel
theorem dX4_weavePart_5 : decode cX4_weavePart 5 = .ok (.ifCond .eq 29, 3) := by decide +kernel
theorem dX4_weavePart_8 : decode cX4_weavePart 8 = .ok (.aload_n 0, 1) := by decide +kernel
theorem dX4_weavePart_9 : decode cX4_weavePart 9 = .ok (.getfield 16, 3) := by decide +kernel
theorem dX4_weavePart_12 : decode cX4_weavePart 12 = .ok (.aload_n 1, 1) := by decide +kernel
theorem dX4_weavePart_13 : decode cX4_weavePart 13 = .ok (.invokevirtual 82, 3) := by decide +kernel
theorem dX4_weavePart_16 : decode cX4_weavePart 16 = .ok (.aload_n 2, 1) := by decide +kernel
theorem dX4_weavePart_17 : decode cX4_weavePart 17 = .ok (.iload_n 3, 1) := by decide +kernel
theorem dX4_weavePart_18 : decode cX4_weavePart 18 = .ok (.aload_n 0, 1) := by decide +kernel
theorem dX4_weavePart_19 : decode cX4_weavePart 19 = .ok (.getfield 16, 3) := by decide +kernel
theorem dX4_weavePart_22 : decode cX4_weavePart 22 = .ok (.invokevirtual 170, 3) := by decide +kernel
theorem dX4_weavePart_25 : decode cX4_weavePart 25 = .ok (.aload_n 0, 1) := by decide +kernel
theorem dX4_weavePart_26 : decode cX4_weavePart 26 = .ok (.getfield 16, 3) := by decide +kernel
theorem dX4_weavePart_29 : decode cX4_weavePart 29 = .ok (.aload 4, 2) := by decide +kernel
theorem dX4_weavePart_31 : decode cX4_weavePart 31 = .ok (.invokevirtual 82, 3) := by decide +kernel
theorem dX4_weavePart_34 : decode cX4_weavePart 34 = .ok (.return_, 1) := by decide +kernel
theorem dX4_isSameAnew_0 : decode cX4_isSameAnew 0 = .ok (.aload_n 0, 1) := by decide +kernel
theorem dX4_isSameAnew_1 : decode cX4_isSameAnew 1 = .ok (.getfield 16, 3) := by decide +kernel
theorem dX4_isSameAnew_4 : decode cX4_isSameAnew 4 = .ok (.iconst 0, 1) := by decide +kernel
theorem dX4_isSameAnew_5 : decode cX4_isSameAnew 5 = .ok (.invokevirtual 93, 3) := by decide +kernel
theorem dX4_isSameAnew_8 : decode cX4_isSameAnew 8 = .ok (.aload_n 1, 1) := by decide +kernel
theorem dX4_isSameAnew_9 : decode cX4_isSameAnew 9 = .ok (.bipush 8, 2) := by decide +kernel
theorem dX4_isSameAnew_11 : decode cX4_isSameAnew 11 = .ok (.aload_n 0, 1) := by decide +kernel
theorem dX4_isSameAnew_12 : decode cX4_isSameAnew 12 = .ok (.getfield 16, 3) := by decide +kernel
theorem dX4_isSameAnew_15 : decode cX4_isSameAnew 15 = .ok (.invokevirtual 170, 3) := by decide +kernel
theorem dX4_isSameAnew_18 : decode cX4_isSameAnew 18 = .ok (.aload_n 0, 1) := by decide +kernel
theorem dX4_isSameAnew_19 : decode cX4_isSameAnew 19 = .ok (.getfield 22, 3) := by decide +kernel
theorem dX4_isSameAnew_22 : decode cX4_isSameAnew 22 = .ok (.aload_n 0, 1) := by decide +kernel
theorem dX4_isSameAnew_23 : decode cX4_isSameAnew 23 = .ok (.getfield 16, 3) := by decide +kernel
theorem dX4_isSameAnew_26 : decode cX4_isSameAnew 26 = .ok (.invokevirtual 113, 3) := by decide +kernel
theorem dX4_isSameAnew_29 : decode cX4_isSameAnew 29 = .ok (.iconst (-1), 1) := by decide +kernel
theorem dX4_isSameAnew_30 : decode cX4_isSameAnew 30 = .ok (.if_icmp .ne 40, 3) := by decide +kernel
theorem dX4_isSameAnew_33 : decode cX4_isSameAnew 33 = .ok (.aload_n 0, 1) := by decide +kernel
theorem dX4_isSameAnew_34 : decode cX4_isSameAnew 34 = .ok (.getfield 22, 3) := by decide +kernel
theorem dX4_isSameAnew_37 : decode cX4_isSameAnew 37 = .ok (.invokevirtual 117, 3) := by decide +kernel
theorem dX4_isSameAnew_40 : decode cX4_isSameAnew 40 = .ok (.aload_n 1, 1) := by decide +kernel
theorem dX4_isSameAnew_41 : decode cX4_isSameAnew 41 = .ok (.invokevirtual 174, 3) := by decide +kernel
theorem dX4_isSameAnew_44 : decode cX4_isSameAnew 44 = .ok (.bipush 9, 2) := by decide +kernel
theorem dX4_isSameAnew_46 : decode cX4_isSameAnew 46 = .ok (.if_icmp .ne 24, 3) := by decide +kernel
theorem dX4_isSameAnew_49 : decode cX4_isSameAnew 49 = .ok (.aload_n 0, 1) := by decide +kernel
theorem dX4_isSameAnew_50 : decode cX4_isSameAnew 50 = .ok (.getfield 22, 3) := by decide +kernel
theorem dX4_isSameAnew_53 : decode cX4_isSameAnew 53 = .ok (.invokevirtual 117, 3) := by decide +kernel
theorem dX4_isSameAnew_56 : decode cX4_isSameAnew 56 = .ok (.invokevirtual 146, 3) := by decide +kernel
theorem dX4_isSameAnew_59 : decode cX4_isSameAnew 59 = .ok (.aload_n 1, 1) := by decide +kernel
theorem dX4_isSameAnew_60 : decode cX4_isSameAnew 60 = .ok (.invokevirtual 146, 3) := by decide +kernel
theorem dX4_isSameAnew_63 : decode cX4_isSameAnew 63 = .ok (.if_icmp .ne 7, 3) := by decide +kernel
theorem dX4_isSameAnew_66 : decode cX4_isSameAnew 66 = .ok (.iconst 1, 1) := by decide +kernel
theorem dX4_isSameAnew_67 : decode cX4_isSameAnew 67 = .ok (.goto 4, 3) := by decide +kernel
theorem dX4_isSameAnew_70 : decode cX4_isSameAnew 70 = .ok (.iconst 0, 1) := by decide +kernel
theorem dX4_isSameAnew_71 : decode cX4_isSameAnew 71 = .ok (.ireturn, 1) := by decide +kernel
theorem dX4_isThreeParts_0 : decode cX4_isThreeParts 0 = .ok (.aload_n 0, 1) := by decide +kernel
theorem dX4_isThreeParts_1 : decode cX4_isThreeParts 1 = .ok (.getfield 16, 3) := by decide +kernel
theorem dX4_isThreeParts_4 : decode cX4_isThreeParts 4 = .ok (.iconst 0, 1) := by decide +kernel
theorem dX4_isThreeParts_5 : decode cX4_isThreeParts 5 = .ok (.invokevirtual 93, 3) := by decide +kernel
theorem dX4_isThreeParts_8 : decode cX4_isThreeParts 8 = .ok (.aload_n 0, 1) := by decide +kernel
theorem dX4_isThreeParts_9 : decode cX4_isThreeParts 9 = .ok (.ldc 227, 2) := by decide +kernel
theorem dX4_isThreeParts_11 : decode cX4_isThreeParts 11 = .ok (.aload_n 1, 1) := by decide +kernel
theorem dX4_isThreeParts_12 : decode cX4_isThreeParts 12 = .ok (.iconst 0, 1) := by decide +kernel
theorem dX4_isThreeParts_13 : decode cX4_isThreeParts 13 = .ok (.ldc 229, 2) := by decide +kernel
theorem dX4_isThreeParts_15 : decode cX4_isThreeParts 15 = .ok (.invokevirtual 231, 3) := by decide +kernel
theorem dX4_isThreeParts_18 : decode cX4_isThreeParts 18 = .ok (.aload_n 0, 1) := by decide +kernel
theorem dX4_isThreeParts_19 : decode cX4_isThreeParts 19 = .ok (.ldc 227, 2) := by decide +kernel
theorem dX4_isThreeParts_21 : decode cX4_isThreeParts 21 = .ok (.aload_n 1, 1) := by decide +kernel
theorem dX4_isThreeParts_22 : decode cX4_isThreeParts 22 = .ok (.iconst 1, 1) := by decide +kernel
theorem dX4_isThreeParts_23 : decode cX4_isThreeParts 23 = .ok (.ldc 227, 2) := by decide +kernel
theorem dX4_isThreeParts_25 : decode cX4_isThreeParts 25 = .ok (.invokevirtual 231, 3) := by decide +kernel
theorem dX4_isThreeParts_28 : decode cX4_isThreeParts 28 = .ok (.aload_n 0, 1) := by decide +kernel
theorem dX4_isThreeParts_29 : decode cX4_isThreeParts 29 = .ok (.ldc 239, 2) := by decide +kernel
theorem dX4_isThreeParts_31 : decode cX4_isThreeParts 31 = .ok (.aload_n 1, 1) := by decide +kernel
theorem dX4_isThreeParts_32 : decode cX4_isThreeParts 32 = .ok (.bipush 7, 2) := by decide +kernel
theorem dX4_isThreeParts_34 : decode cX4_isThreeParts 34 = .ok (.ldc 227, 2) := by decide +kernel
theorem dX4_isThreeParts_36 : decode cX4_isThreeParts 36 = .ok (.invokevirtual 231, 3) := by decide +kernel
theorem dX4_isThreeParts_39 : decode cX4_isThreeParts 39 = .ok (.aload_n 1, 1) := by decide +kernel
theorem dX4_isThreeParts_40 : decode cX4_isThreeParts 40 = .ok (.aload_n 0, 1) := by decide +kernel
theorem dX4_isThreeParts_41 : decode cX4_isThreeParts 41 = .ok (.getfield 16, 3) := by decide +kernel
theorem dX4_isThreeParts_44 : decode cX4_isThreeParts 44 = .ok (.invokevirtual 185, 3) := by decide +kernel
theorem dX4_isThreeParts_47 : decode cX4_isThreeParts 47 = .ok (.ireturn, 1) := by decide +kernel
theorem dX4_isWovenAgain_0 : decode cX4_isWovenAgain 0 = .ok (.aload_n 0, 1) := by decide +kernel
theorem dX4_isWovenAgain_1 : decode cX4_isWovenAgain 1 = .ok (.aload_n 1, 1) := by decide +kernel
theorem dX4_isWovenAgain_2 : decode cX4_isWovenAgain 2 = .ok (.aload_n 1, 1) := by decide +kernel
theorem dX4_isWovenAgain_3 : decode cX4_isWovenAgain 3 = .ok (.iconst (-1), 1) := by decide +kernel
theorem dX4_isWovenAgain_4 : decode cX4_isWovenAgain 4 = .ok (.invokevirtual 178, 3) := by decide +kernel
theorem dX4_isWovenAgain_7 : decode cX4_isWovenAgain 7 = .ok (.aload_n 1, 1) := by decide +kernel
theorem dX4_isWovenAgain_8 : decode cX4_isWovenAgain 8 = .ok (.invokevirtual 241, 3) := by decide +kernel
theorem dX4_isWovenAgain_11 : decode cX4_isWovenAgain 11 = .ok (.ifCond .eq 14, 3) := by decide +kernel
theorem dX4_isWovenAgain_14 : decode cX4_isWovenAgain 14 = .ok (.aload_n 1, 1) := by decide +kernel
theorem dX4_isWovenAgain_15 : decode cX4_isWovenAgain 15 = .ok (.aload_n 0, 1) := by decide +kernel
theorem dX4_isWovenAgain_16 : decode cX4_isWovenAgain 16 = .ok (.getfield 16, 3) := by decide +kernel
theorem dX4_isWovenAgain_19 : decode cX4_isWovenAgain 19 = .ok (.invokevirtual 244, 3) := by decide +kernel
theorem dX4_isWovenAgain_22 : decode cX4_isWovenAgain 22 = .ok (.goto 11, 3) := by decide +kernel
theorem dX4_isWovenAgain_25 : decode cX4_isWovenAgain 25 = .ok (.aload_n 1, 1) := by decide +kernel
theorem dX4_isWovenAgain_26 : decode cX4_isWovenAgain 26 = .ok (.aload_n 0, 1) := by decide +kernel
theorem dX4_isWovenAgain_27 : decode cX4_isWovenAgain 27 = .ok (.getfield 16, 3) := by decide +kernel
theorem dX4_isWovenAgain_30 : decode cX4_isWovenAgain 30 = .ok (.invokevirtual 185, 3) := by decide +kernel
theorem dX4_isWovenAgain_33 : decode cX4_isWovenAgain 33 = .ok (.ireturn, 1) := by decide +kernel
theorem dX4_wordAt_0 : decode cX4_wordAt 0 = .ok (.iload_n 0, 1) := by decide +kernel
theorem dX4_wordAt_1 : decode cX4_wordAt 1 = .ok (.tableswitch 262 0 31 #[143, 146, 149, 152, 155, 158, 161, 164, 167, 170, 174, 178, 182, 186, 190, 194, 198, 202, 206, 210, 214, 218, 222, 226, 230, 234, 238, 242, 246, 250, 254, 258], 143) := by decide +kernel
theorem dX4_wordAt_144 : decode cX4_wordAt 144 = .ok (.ldc 247, 2) := by decide +kernel
theorem dX4_wordAt_146 : decode cX4_wordAt 146 = .ok (.areturn, 1) := by decide +kernel
theorem dX4_wordAt_147 : decode cX4_wordAt 147 = .ok (.ldc 249, 2) := by decide +kernel
theorem dX4_wordAt_149 : decode cX4_wordAt 149 = .ok (.areturn, 1) := by decide +kernel
theorem dX4_wordAt_150 : decode cX4_wordAt 150 = .ok (.ldc 251, 2) := by decide +kernel
theorem dX4_wordAt_152 : decode cX4_wordAt 152 = .ok (.areturn, 1) := by decide +kernel
theorem dX4_wordAt_153 : decode cX4_wordAt 153 = .ok (.ldc 253, 2) := by decide +kernel
theorem dX4_wordAt_155 : decode cX4_wordAt 155 = .ok (.areturn, 1) := by decide +kernel
theorem dX4_wordAt_156 : decode cX4_wordAt 156 = .ok (.ldc 229, 2) := by decide +kernel
theorem dX4_wordAt_158 : decode cX4_wordAt 158 = .ok (.areturn, 1) := by decide +kernel
theorem dX4_wordAt_159 : decode cX4_wordAt 159 = .ok (.ldc 235, 2) := by decide +kernel
theorem dX4_wordAt_161 : decode cX4_wordAt 161 = .ok (.areturn, 1) := by decide +kernel
theorem dX4_wordAt_162 : decode cX4_wordAt 162 = .ok (.ldc 255, 2) := by decide +kernel
theorem dX4_wordAt_164 : decode cX4_wordAt 164 = .ok (.areturn, 1) := by decide +kernel
theorem dX4_wordAt_165 : decode cX4_wordAt 165 = .ok (.ldc 237, 2) := by decide +kernel
theorem dX4_wordAt_167 : decode cX4_wordAt 167 = .ok (.areturn, 1) := by decide +kernel
theorem dX4_wordAt_168 : decode cX4_wordAt 168 = .ok (.ldc 239, 2) := by decide +kernel
theorem dX4_wordAt_170 : decode cX4_wordAt 170 = .ok (.areturn, 1) := by decide +kernel
theorem dX4_wordAt_171 : decode cX4_wordAt 171 = .ok (.ldc_w 257, 3) := by decide +kernel
theorem dX4_wordAt_174 : decode cX4_wordAt 174 = .ok (.areturn, 1) := by decide +kernel
theorem dX4_wordAt_175 : decode cX4_wordAt 175 = .ok (.ldc_w 259, 3) := by decide +kernel
theorem dX4_wordAt_178 : decode cX4_wordAt 178 = .ok (.areturn, 1) := by decide +kernel
theorem dX4_wordAt_179 : decode cX4_wordAt 179 = .ok (.ldc_w 261, 3) := by decide +kernel
theorem dX4_wordAt_182 : decode cX4_wordAt 182 = .ok (.areturn, 1) := by decide +kernel
theorem dX4_wordAt_183 : decode cX4_wordAt 183 = .ok (.ldc_w 263, 3) := by decide +kernel
theorem dX4_wordAt_186 : decode cX4_wordAt 186 = .ok (.areturn, 1) := by decide +kernel
theorem dX4_wordAt_187 : decode cX4_wordAt 187 = .ok (.ldc_w 265, 3) := by decide +kernel
theorem dX4_wordAt_190 : decode cX4_wordAt 190 = .ok (.areturn, 1) := by decide +kernel
theorem dX4_wordAt_191 : decode cX4_wordAt 191 = .ok (.ldc_w 267, 3) := by decide +kernel
theorem dX4_wordAt_194 : decode cX4_wordAt 194 = .ok (.areturn, 1) := by decide +kernel
theorem dX4_wordAt_195 : decode cX4_wordAt 195 = .ok (.ldc_w 269, 3) := by decide +kernel
theorem dX4_wordAt_198 : decode cX4_wordAt 198 = .ok (.areturn, 1) := by decide +kernel
theorem dX4_wordAt_199 : decode cX4_wordAt 199 = .ok (.ldc_w 271, 3) := by decide +kernel
theorem dX4_wordAt_202 : decode cX4_wordAt 202 = .ok (.areturn, 1) := by decide +kernel
theorem dX4_wordAt_203 : decode cX4_wordAt 203 = .ok (.ldc_w 273, 3) := by decide +kernel
theorem dX4_wordAt_206 : decode cX4_wordAt 206 = .ok (.areturn, 1) := by decide +kernel
theorem dX4_wordAt_207 : decode cX4_wordAt 207 = .ok (.ldc_w 275, 3) := by decide +kernel
theorem dX4_wordAt_210 : decode cX4_wordAt 210 = .ok (.areturn, 1) := by decide +kernel
theorem dX4_wordAt_211 : decode cX4_wordAt 211 = .ok (.ldc_w 277, 3) := by decide +kernel
theorem dX4_wordAt_214 : decode cX4_wordAt 214 = .ok (.areturn, 1) := by decide +kernel
theorem dX4_wordAt_215 : decode cX4_wordAt 215 = .ok (.ldc_w 279, 3) := by decide +kernel
theorem dX4_wordAt_218 : decode cX4_wordAt 218 = .ok (.areturn, 1) := by decide +kernel
theorem dX4_wordAt_219 : decode cX4_wordAt 219 = .ok (.ldc_w 281, 3) := by decide +kernel
theorem dX4_wordAt_222 : decode cX4_wordAt 222 = .ok (.areturn, 1) := by decide +kernel
theorem dX4_wordAt_223 : decode cX4_wordAt 223 = .ok (.ldc_w 283, 3) := by decide +kernel
theorem dX4_wordAt_226 : decode cX4_wordAt 226 = .ok (.areturn, 1) := by decide +kernel
theorem dX4_wordAt_227 : decode cX4_wordAt 227 = .ok (.ldc_w 285, 3) := by decide +kernel
theorem dX4_wordAt_230 : decode cX4_wordAt 230 = .ok (.areturn, 1) := by decide +kernel
theorem dX4_wordAt_231 : decode cX4_wordAt 231 = .ok (.ldc_w 287, 3) := by decide +kernel
theorem dX4_wordAt_234 : decode cX4_wordAt 234 = .ok (.areturn, 1) := by decide +kernel
theorem dX4_wordAt_235 : decode cX4_wordAt 235 = .ok (.ldc_w 289, 3) := by decide +kernel
theorem dX4_wordAt_238 : decode cX4_wordAt 238 = .ok (.areturn, 1) := by decide +kernel
theorem dX4_wordAt_239 : decode cX4_wordAt 239 = .ok (.ldc_w 291, 3) := by decide +kernel
theorem dX4_wordAt_242 : decode cX4_wordAt 242 = .ok (.areturn, 1) := by decide +kernel
theorem dX4_wordAt_243 : decode cX4_wordAt 243 = .ok (.ldc_w 293, 3) := by decide +kernel
theorem dX4_wordAt_246 : decode cX4_wordAt 246 = .ok (.areturn, 1) := by decide +kernel
theorem dX4_wordAt_247 : decode cX4_wordAt 247 = .ok (.ldc_w 295, 3) := by decide +kernel
theorem dX4_wordAt_250 : decode cX4_wordAt 250 = .ok (.areturn, 1) := by decide +kernel
theorem dX4_wordAt_251 : decode cX4_wordAt 251 = .ok (.ldc_w 297, 3) := by decide +kernel
theorem dX4_wordAt_254 : decode cX4_wordAt 254 = .ok (.areturn, 1) := by decide +kernel
theorem dX4_wordAt_255 : decode cX4_wordAt 255 = .ok (.ldc_w 299, 3) := by decide +kernel
theorem dX4_wordAt_258 : decode cX4_wordAt 258 = .ok (.areturn, 1) := by decide +kernel
theorem dX4_wordAt_259 : decode cX4_wordAt 259 = .ok (.ldc_w 301, 3) := by decide +kernel
theorem dX4_wordAt_262 : decode cX4_wordAt 262 = .ok (.areturn, 1) := by decide +kernel
theorem dX4_wordAt_263 : decode cX4_wordAt 263 = .ok (.ldc 227, 2) := by decide +kernel
theorem dX4_wordAt_265 : decode cX4_wordAt 265 = .ok (.areturn, 1) := by decide +kernel
end
section
theorem dX5_init_0 : decode cX5_init 0 = .ok (.aload_n 0, 1) := by decide +kernel
theorem dX5_init_1 : decode cX5_init 1 = .ok (.invokespecial 1, 3) := by decide +kernel
theorem dX5_init_4 : decode cX5_init 4 = .ok (.aload_n 0, 1) := by decide +kernel
theorem dX5_init_5 : decode cX5_init 5 = .ok (.bipush 60, 2) := by decide +kernel
theorem dX5_init_7 : decode cX5_init 7 = .ok (.newarray .int, 2) := by decide +kernel
theorem dX5_init_9 : decode cX5_init 9 = .ok (.putfield 7, 3) := by decide +kernel
theorem dX5_init_12 : decode cX5_init 12 = .ok (.aload_n 0, 1) := by decide +kernel
theorem dX5_init_13 : decode cX5_init 13 = .ok (.bipush 60, 2) := by decide +kernel
theorem dX5_init_15 : decode cX5_init 15 = .ok (.newarray .int, 2) := by decide +kernel
theorem dX5_init_17 : decode cX5_init 17 = .ok (.putfield 13, 3) := by decide +kernel
theorem dX5_init_20 : decode cX5_init 20 = .ok (.aload_n 0, 1) := by decide +kernel
theorem dX5_init_21 : decode cX5_init 21 = .ok (.sipush 240, 3) := by decide +kernel
theorem dX5_init_24 : decode cX5_init 24 = .ok (.newarray .int, 2) := by decide +kernel
theorem dX5_init_26 : decode cX5_init 26 = .ok (.putfield 16, 3) := by decide +kernel
theorem dX5_init_29 : decode cX5_init 29 = .ok (.aload_n 0, 1) := by decide +kernel
theorem dX5_init_30 : decode cX5_init 30 = .ok (.iconst 4, 1) := by decide +kernel
theorem dX5_init_31 : decode cX5_init 31 = .ok (.newarray .int, 2) := by decide +kernel
theorem dX5_init_33 : decode cX5_init 33 = .ok (.dup, 1) := by decide +kernel
theorem dX5_init_34 : decode cX5_init 34 = .ok (.iconst 0, 1) := by decide +kernel
theorem dX5_init_35 : decode cX5_init 35 = .ok (.iconst (-1), 1) := by decide +kernel
theorem dX5_init_36 : decode cX5_init 36 = .ok (.iastore, 1) := by decide +kernel
theorem dX5_init_37 : decode cX5_init 37 = .ok (.dup, 1) := by decide +kernel
theorem dX5_init_38 : decode cX5_init 38 = .ok (.iconst 1, 1) := by decide +kernel
theorem dX5_init_39 : decode cX5_init 39 = .ok (.iconst (-1), 1) := by decide +kernel
theorem dX5_init_40 : decode cX5_init 40 = .ok (.iastore, 1) := by decide +kernel
theorem dX5_init_41 : decode cX5_init 41 = .ok (.dup, 1) := by decide +kernel
theorem dX5_init_42 : decode cX5_init 42 = .ok (.iconst 2, 1) := by decide +kernel
theorem dX5_init_43 : decode cX5_init 43 = .ok (.iconst (-1), 1) := by decide +kernel
theorem dX5_init_44 : decode cX5_init 44 = .ok (.iastore, 1) := by decide +kernel
theorem dX5_init_45 : decode cX5_init 45 = .ok (.dup, 1) := by decide +kernel
theorem dX5_init_46 : decode cX5_init 46 = .ok (.iconst 3, 1) := by decide +kernel
theorem dX5_init_47 : decode cX5_init 47 = .ok (.iconst (-1), 1) := by decide +kernel
theorem dX5_init_48 : decode cX5_init 48 = .ok (.iastore, 1) := by decide +kernel
theorem dX5_init_49 : decode cX5_init 49 = .ok (.putfield 19, 3) := by decide +kernel
theorem dX5_init_52 : decode cX5_init 52 = .ok (.aload_n 0, 1) := by decide +kernel
theorem dX5_init_53 : decode cX5_init 53 = .ok (.bipush 36, 2) := by decide +kernel
theorem dX5_init_55 : decode cX5_init 55 = .ok (.newarray .int, 2) := by decide +kernel
theorem dX5_init_57 : decode cX5_init 57 = .ok (.putfield 22, 3) := by decide +kernel
theorem dX5_init_60 : decode cX5_init 60 = .ok (.aload_n 0, 1) := by decide +kernel
theorem dX5_init_61 : decode cX5_init 61 = .ok (.bipush 36, 2) := by decide +kernel
theorem dX5_init_63 : decode cX5_init 63 = .ok (.newarray .int, 2) := by decide +kernel
theorem dX5_init_65 : decode cX5_init 65 = .ok (.putfield 25, 3) := by decide +kernel
theorem dX5_init_68 : decode cX5_init 68 = .ok (.aload_n 0, 1) := by decide +kernel
theorem dX5_init_69 : decode cX5_init 69 = .ok (.iconst 4, 1) := by decide +kernel
theorem dX5_init_70 : decode cX5_init 70 = .ok (.newarray .int, 2) := by decide +kernel
theorem dX5_init_72 : decode cX5_init 72 = .ok (.putfield 28, 3) := by decide +kernel
theorem dX5_init_75 : decode cX5_init 75 = .ok (.aload_n 0, 1) := by decide +kernel
theorem dX5_init_76 : decode cX5_init 76 = .ok (.bipush 9, 2) := by decide +kernel
theorem dX5_init_78 : decode cX5_init 78 = .ok (.newarray .int, 2) := by decide +kernel
theorem dX5_init_80 : decode cX5_init 80 = .ok (.putfield 31, 3) := by decide +kernel
theorem dX5_init_83 : decode cX5_init 83 = .ok (.aload_n 0, 1) := by decide +kernel
theorem dX5_init_84 : decode cX5_init 84 = .ok (.bipush 9, 2) := by decide +kernel
theorem dX5_init_86 : decode cX5_init 86 = .ok (.newarray .int, 2) := by decide +kernel
theorem dX5_init_88 : decode cX5_init 88 = .ok (.putfield 34, 3) := by decide +kernel
theorem dX5_init_91 : decode cX5_init 91 = .ok (.return_, 1) := by decide +kernel
theorem dX5_thrown_0 : decode cX5_thrown 0 = .ok (.aload_n 0, 1) := by decide +kernel
theorem dX5_thrown_1 : decode cX5_thrown 1 = .ok (.getfield 37, 3) := by decide +kernel
theorem dX5_thrown_4 : decode cX5_thrown 4 = .ok (.ireturn, 1) := by decide +kernel
theorem dX5_fails_0 : decode cX5_fails 0 = .ok (.aload_n 0, 1) := by decide +kernel
theorem dX5_fails_1 : decode cX5_fails 1 = .ok (.iload_n 1, 1) := by decide +kernel
theorem dX5_fails_2 : decode cX5_fails 2 = .ok (.putfield 37, 3) := by decide +kernel
theorem dX5_fails_5 : decode cX5_fails 5 = .ok (.iload_n 1, 1) := by decide +kernel
theorem dX5_fails_6 : decode cX5_fails 6 = .ok (.ifCond .le 7, 3) := by decide +kernel
theorem dX5_fails_9 : decode cX5_fails 9 = .ok (.iconst 1, 1) := by decide +kernel
theorem dX5_fails_10 : decode cX5_fails 10 = .ok (.goto 4, 3) := by decide +kernel
theorem dX5_fails_13 : decode cX5_fails 13 = .ok (.iconst 0, 1) := by decide +kernel
theorem dX5_fails_14 : decode cX5_fails 14 = .ok (.ireturn, 1) := by decide +kernel
theorem dX5_in_0 : decode cX5_in 0 = .ok (.iload_n 0, 1) := by decide +kernel
theorem dX5_in_1 : decode cX5_in 1 = .ok (.iload_n 1, 1) := by decide +kernel
theorem dX5_in_2 : decode cX5_in 2 = .ok (.if_icmp .lt 12, 3) := by decide +kernel
theorem dX5_in_5 : decode cX5_in 5 = .ok (.iload_n 0, 1) := by decide +kernel
theorem dX5_in_6 : decode cX5_in 6 = .ok (.iload_n 2, 1) := by decide +kernel
theorem dX5_in_7 : decode cX5_in 7 = .ok (.if_icmp .gt 7, 3) := by decide +kernel
theorem dX5_in_10 : decode cX5_in 10 = .ok (.iconst 1, 1) := by decide +kernel
theorem dX5_in_11 : decode cX5_in 11 = .ok (.goto 4, 3) := by decide +kernel
theorem dX5_in_14 : decode cX5_in 14 = .ok (.iconst 0, 1) := by decide +kernel
theorem dX5_in_15 : decode cX5_in 15 = .ok (.ireturn, 1) := by decide +kernel
theorem dX5_isSlot_0 : decode cX5_isSlot 0 = .ok (.iload_n 0, 1) := by decide +kernel
theorem dX5_isSlot_1 : decode cX5_isSlot 1 = .ok (.iconst 0, 1) := by decide +kernel
theorem dX5_isSlot_2 : decode cX5_isSlot 2 = .ok (.iconst 3, 1) := by decide +kernel
theorem dX5_isSlot_3 : decode cX5_isSlot 3 = .ok (.invokestatic 41, 3) := by decide +kernel
theorem dX5_isSlot_6 : decode cX5_isSlot 6 = .ok (.ireturn, 1) := by decide +kernel
theorem dX5_partOf_0 : decode cX5_partOf 0 = .ok (.ldc 45, 2) := by decide +kernel
theorem dX5_partOf_2 : decode cX5_partOf 2 = .ok (.iload_n 0, 1) := by decide +kernel
theorem dX5_partOf_3 : decode cX5_partOf 3 = .ok (.invokevirtual 47, 3) := by decide +kernel
theorem dX5_partOf_6 : decode cX5_partOf 6 = .ok (.ireturn, 1) := by decide +kernel
theorem dX5_isLetter_0 : decode cX5_isLetter 0 = .ok (.iload_n 0, 1) := by decide +kernel
theorem dX5_isLetter_1 : decode cX5_isLetter 1 = .ok (.bipush 97, 2) := by decide +kernel
theorem dX5_isLetter_3 : decode cX5_isLetter 3 = .ok (.bipush 122, 2) := by decide +kernel
theorem dX5_isLetter_5 : decode cX5_isLetter 5 = .ok (.invokestatic 41, 3) := by decide +kernel
theorem dX5_isLetter_8 : decode cX5_isLetter 8 = .ok (.ifCond .ne 14, 3) := by decide +kernel
theorem dX5_isLetter_11 : decode cX5_isLetter 11 = .ok (.iload_n 0, 1) := by decide +kernel
theorem dX5_isLetter_12 : decode cX5_isLetter 12 = .ok (.bipush 65, 2) := by decide +kernel
theorem dX5_isLetter_14 : decode cX5_isLetter 14 = .ok (.bipush 90, 2) := by decide +kernel
theorem dX5_isLetter_16 : decode cX5_isLetter 16 = .ok (.invokestatic 41, 3) := by decide +kernel
theorem dX5_isLetter_19 : decode cX5_isLetter 19 = .ok (.ifCond .eq 7, 3) := by decide +kernel
theorem dX5_isLetter_22 : decode cX5_isLetter 22 = .ok (.iconst 1, 1) := by decide +kernel
theorem dX5_isLetter_23 : decode cX5_isLetter 23 = .ok (.goto 4, 3) := by decide +kernel
theorem dX5_isLetter_26 : decode cX5_isLetter 26 = .ok (.iconst 0, 1) := by decide +kernel
theorem dX5_isLetter_27 : decode cX5_isLetter 27 = .ok (.ireturn, 1) := by decide +kernel
theorem dX5_isDigit_0 : decode cX5_isDigit 0 = .ok (.iload_n 0, 1) := by decide +kernel
theorem dX5_isDigit_1 : decode cX5_isDigit 1 = .ok (.bipush 48, 2) := by decide +kernel
theorem dX5_isDigit_3 : decode cX5_isDigit 3 = .ok (.bipush 57, 2) := by decide +kernel
theorem dX5_isDigit_5 : decode cX5_isDigit 5 = .ok (.invokestatic 41, 3) := by decide +kernel
theorem dX5_isDigit_8 : decode cX5_isDigit 8 = .ok (.ireturn, 1) := by decide +kernel
theorem dX5_isBad_0 : decode cX5_isBad 0 = .ok (.iload_n 0, 1) := by decide +kernel
theorem dX5_isBad_1 : decode cX5_isBad 1 = .ok (.bipush 34, 2) := by decide +kernel
theorem dX5_isBad_3 : decode cX5_isBad 3 = .ok (.if_icmp .eq 51, 3) := by decide +kernel
theorem dX5_isBad_6 : decode cX5_isBad 6 = .ok (.iload_n 0, 1) := by decide +kernel
theorem dX5_isBad_7 : decode cX5_isBad 7 = .ok (.bipush 60, 2) := by decide +kernel
theorem dX5_isBad_9 : decode cX5_isBad 9 = .ok (.if_icmp .eq 45, 3) := by decide +kernel
theorem dX5_isBad_12 : decode cX5_isBad 12 = .ok (.iload_n 0, 1) := by decide +kernel
theorem dX5_isBad_13 : decode cX5_isBad 13 = .ok (.bipush 62, 2) := by decide +kernel
theorem dX5_isBad_15 : decode cX5_isBad 15 = .ok (.if_icmp .eq 39, 3) := by decide +kernel
theorem dX5_isBad_18 : decode cX5_isBad 18 = .ok (.iload_n 0, 1) := by decide +kernel
theorem dX5_isBad_19 : decode cX5_isBad 19 = .ok (.bipush 92, 2) := by decide +kernel
theorem dX5_isBad_21 : decode cX5_isBad 21 = .ok (.if_icmp .eq 33, 3) := by decide +kernel
theorem dX5_isBad_24 : decode cX5_isBad 24 = .ok (.iload_n 0, 1) := by decide +kernel
theorem dX5_isBad_25 : decode cX5_isBad 25 = .ok (.bipush 94, 2) := by decide +kernel
theorem dX5_isBad_27 : decode cX5_isBad 27 = .ok (.if_icmp .eq 27, 3) := by decide +kernel
theorem dX5_isBad_30 : decode cX5_isBad 30 = .ok (.iload_n 0, 1) := by decide +kernel
theorem dX5_isBad_31 : decode cX5_isBad 31 = .ok (.bipush 96, 2) := by decide +kernel
theorem dX5_isBad_33 : decode cX5_isBad 33 = .ok (.if_icmp .eq 21, 3) := by decide +kernel
theorem dX5_isBad_36 : decode cX5_isBad 36 = .ok (.iload_n 0, 1) := by decide +kernel
theorem dX5_isBad_37 : decode cX5_isBad 37 = .ok (.bipush 123, 2) := by decide +kernel
theorem dX5_isBad_39 : decode cX5_isBad 39 = .ok (.if_icmp .eq 15, 3) := by decide +kernel
theorem dX5_isBad_42 : decode cX5_isBad 42 = .ok (.iload_n 0, 1) := by decide +kernel
theorem dX5_isBad_43 : decode cX5_isBad 43 = .ok (.bipush 124, 2) := by decide +kernel
theorem dX5_isBad_45 : decode cX5_isBad 45 = .ok (.if_icmp .eq 9, 3) := by decide +kernel
theorem dX5_isBad_48 : decode cX5_isBad 48 = .ok (.iload_n 0, 1) := by decide +kernel
theorem dX5_isBad_49 : decode cX5_isBad 49 = .ok (.bipush 125, 2) := by decide +kernel
theorem dX5_isBad_51 : decode cX5_isBad 51 = .ok (.if_icmp .ne 7, 3) := by decide +kernel
theorem dX5_isBad_54 : decode cX5_isBad 54 = .ok (.iconst 1, 1) := by decide +kernel
theorem dX5_isBad_55 : decode cX5_isBad 55 = .ok (.goto 4, 3) := by decide +kernel
theorem dX5_isBad_58 : decode cX5_isBad 58 = .ok (.iconst 0, 1) := by decide +kernel
theorem dX5_isBad_59 : decode cX5_isBad 59 = .ok (.ireturn, 1) := by decide +kernel
theorem dX5_canType_0 : decode cX5_canType 0 = .ok (.iload_n 0, 1) := by decide +kernel
theorem dX5_canType_1 : decode cX5_canType 1 = .ok (.bipush 33, 2) := by decide +kernel
theorem dX5_canType_3 : decode cX5_canType 3 = .ok (.bipush 126, 2) := by decide +kernel
theorem dX5_canType_5 : decode cX5_canType 5 = .ok (.invokestatic 41, 3) := by decide +kernel
theorem dX5_canType_8 : decode cX5_canType 8 = .ok (.ifCond .eq 31, 3) := by decide +kernel
theorem dX5_canType_11 : decode cX5_canType 11 = .ok (.iload_n 0, 1) := by decide +kernel
theorem dX5_canType_12 : decode cX5_canType 12 = .ok (.bipush 37, 2) := by decide +kernel
theorem dX5_canType_14 : decode cX5_canType 14 = .ok (.if_icmp .eq 25, 3) := by decide +kernel
theorem dX5_canType_17 : decode cX5_canType 17 = .ok (.iload_n 0, 1) := by decide +kernel
theorem dX5_canType_18 : decode cX5_canType 18 = .ok (.bipush 91, 2) := by decide +kernel
theorem dX5_canType_20 : decode cX5_canType 20 = .ok (.if_icmp .eq 19, 3) := by decide +kernel
theorem dX5_canType_23 : decode cX5_canType 23 = .ok (.iload_n 0, 1) := by decide +kernel
theorem dX5_canType_24 : decode cX5_canType 24 = .ok (.bipush 93, 2) := by decide +kernel
theorem dX5_canType_26 : decode cX5_canType 26 = .ok (.if_icmp .eq 13, 3) := by decide +kernel
theorem dX5_canType_29 : decode cX5_canType 29 = .ok (.iload_n 0, 1) := by decide +kernel
theorem dX5_canType_30 : decode cX5_canType 30 = .ok (.bipush 48, 2) := by decide +kernel
theorem dX5_canType_32 : decode cX5_canType 32 = .ok (.if_icmp .eq 7, 3) := by decide +kernel
theorem dX5_canType_35 : decode cX5_canType 35 = .ok (.iconst 1, 1) := by decide +kernel
theorem dX5_canType_36 : decode cX5_canType 36 = .ok (.goto 4, 3) := by decide +kernel
theorem dX5_canType_39 : decode cX5_canType 39 = .ok (.iconst 0, 1) := by decide +kernel
theorem dX5_canType_40 : decode cX5_canType 40 = .ok (.ireturn, 1) := by decide +kernel
theorem dX5_put_0 : decode cX5_put 0 = .ok (.iload_n 2, 1) := by decide +kernel
theorem dX5_put_1 : decode cX5_put 1 = .ok (.istore 4, 2) := by decide +kernel
theorem dX5_put_3 : decode cX5_put 3 = .ok (.iload 4, 2) := by decide +kernel
theorem dX5_put_5 : decode cX5_put 5 = .ok (.iload_n 3, 1) := by decide +kernel
theorem dX5_put_6 : decode cX5_put 6 = .ok (.if_icmp .ge 96, 3) := by decide +kernel
theorem dX5_put_9 : decode cX5_put 9 = .ok (.aload_n 1, 1) := by decide +kernel
theorem dX5_put_10 : decode cX5_put 10 = .ok (.iload 4, 2) := by decide +kernel
theorem dX5_put_12 : decode cX5_put 12 = .ok (.iaload, 1) := by decide +kernel
theorem dX5_put_13 : decode cX5_put 13 = .ok (.bipush 37, 2) := by decide +kernel
theorem dX5_put_15 : decode cX5_put 15 = .ok (.if_icmp .ne 7, 3) := by decide +kernel
theorem dX5_put_18 : decode cX5_put 18 = .ok (.iconst 3, 1) := by decide +kernel
theorem dX5_put_19 : decode cX5_put 19 = .ok (.goto 4, 3) := by decide +kernel
theorem dX5_put_22 : decode cX5_put 22 = .ok (.iconst 1, 1) := by decide +kernel
theorem dX5_put_23 : decode cX5_put 23 = .ok (.istore 5, 2) := by decide +kernel
theorem dX5_put_25 : decode cX5_put 25 = .ok (.iconst 0, 1) := by decide +kernel
theorem dX5_put_26 : decode cX5_put 26 = .ok (.istore 6, 2) := by decide +kernel
theorem dX5_put_28 : decode cX5_put 28 = .ok (.iload 6, 2) := by decide +kernel
theorem dX5_put_30 : decode cX5_put 30 = .ok (.iload 5, 2) := by decide +kernel
theorem dX5_put_32 : decode cX5_put 32 = .ok (.if_icmp .ge 28, 3) := by decide +kernel
theorem dX5_put_35 : decode cX5_put 35 = .ok (.aload_n 0, 1) := by decide +kernel
theorem dX5_put_36 : decode cX5_put 36 = .ok (.getfield 7, 3) := by decide +kernel
theorem dX5_put_39 : decode cX5_put 39 = .ok (.aload_n 0, 1) := by decide +kernel
theorem dX5_put_40 : decode cX5_put 40 = .ok (.getfield 53, 3) := by decide +kernel
theorem dX5_put_43 : decode cX5_put 43 = .ok (.iload 6, 2) := by decide +kernel
theorem dX5_put_45 : decode cX5_put 45 = .ok (.iadd, 1) := by decide +kernel
theorem dX5_put_46 : decode cX5_put 46 = .ok (.aload_n 1, 1) := by decide +kernel
theorem dX5_put_47 : decode cX5_put 47 = .ok (.iload 4, 2) := by decide +kernel
theorem dX5_put_49 : decode cX5_put 49 = .ok (.iload 6, 2) := by decide +kernel
theorem dX5_put_51 : decode cX5_put 51 = .ok (.iadd, 1) := by decide +kernel
theorem dX5_put_52 : decode cX5_put 52 = .ok (.iaload, 1) := by decide +kernel
theorem dX5_put_53 : decode cX5_put 53 = .ok (.iastore, 1) := by decide +kernel
theorem dX5_put_54 : decode cX5_put 54 = .ok (.iinc 6 1, 3) := by decide +kernel
theorem dX5_put_57 : decode cX5_put 57 = .ok (.goto (-29), 3) := by decide +kernel
theorem dX5_put_60 : decode cX5_put 60 = .ok (.aload_n 0, 1) := by decide +kernel
theorem dX5_put_61 : decode cX5_put 61 = .ok (.dup, 1) := by decide +kernel
theorem dX5_put_62 : decode cX5_put 62 = .ok (.getfield 53, 3) := by decide +kernel
theorem dX5_put_65 : decode cX5_put 65 = .ok (.iload 5, 2) := by decide +kernel
theorem dX5_put_67 : decode cX5_put 67 = .ok (.iadd, 1) := by decide +kernel
theorem dX5_put_68 : decode cX5_put 68 = .ok (.putfield 53, 3) := by decide +kernel
theorem dX5_put_71 : decode cX5_put 71 = .ok (.aload_n 0, 1) := by decide +kernel
theorem dX5_put_72 : decode cX5_put 72 = .ok (.getfield 13, 3) := by decide +kernel
theorem dX5_put_75 : decode cX5_put 75 = .ok (.aload_n 0, 1) := by decide +kernel
theorem dX5_put_76 : decode cX5_put 76 = .ok (.getfield 56, 3) := by decide +kernel
theorem dX5_put_79 : decode cX5_put 79 = .ok (.iload 5, 2) := by decide +kernel
theorem dX5_put_81 : decode cX5_put 81 = .ok (.iastore, 1) := by decide +kernel
theorem dX5_put_82 : decode cX5_put 82 = .ok (.aload_n 0, 1) := by decide +kernel
theorem dX5_put_83 : decode cX5_put 83 = .ok (.dup, 1) := by decide +kernel
theorem dX5_put_84 : decode cX5_put 84 = .ok (.getfield 56, 3) := by decide +kernel
theorem dX5_put_87 : decode cX5_put 87 = .ok (.iconst 1, 1) := by decide +kernel
theorem dX5_put_88 : decode cX5_put 88 = .ok (.iadd, 1) := by decide +kernel
theorem dX5_put_89 : decode cX5_put 89 = .ok (.putfield 56, 3) := by decide +kernel
theorem dX5_put_92 : decode cX5_put 92 = .ok (.iload 4, 2) := by decide +kernel
theorem dX5_put_94 : decode cX5_put 94 = .ok (.iload 5, 2) := by decide +kernel
theorem dX5_put_96 : decode cX5_put 96 = .ok (.iadd, 1) := by decide +kernel
theorem dX5_put_97 : decode cX5_put 97 = .ok (.istore 4, 2) := by decide +kernel
theorem dX5_put_99 : decode cX5_put 99 = .ok (.goto (-96), 3) := by decide +kernel
theorem dX5_put_102 : decode cX5_put 102 = .ok (.return_, 1) := by decide +kernel
theorem dX5_type_0 : decode cX5_type 0 = .ok (.aload_n 0, 1) := by decide +kernel
theorem dX5_type_1 : decode cX5_type 1 = .ok (.iload_n 1, 1) := by decide +kernel
theorem dX5_type_2 : decode cX5_type 2 = .ok (.invokestatic 59, 3) := by decide +kernel
theorem dX5_type_5 : decode cX5_type 5 = .ok (.ifCond .ne 7, 3) := by decide +kernel
theorem dX5_type_8 : decode cX5_type 8 = .ok (.iconst 1, 1) := by decide +kernel
theorem dX5_type_9 : decode cX5_type 9 = .ok (.goto 17, 3) := by decide +kernel
theorem dX5_type_12 : decode cX5_type 12 = .ok (.aload_n 0, 1) := by decide +kernel
theorem dX5_type_13 : decode cX5_type 13 = .ok (.getfield 53, 3) := by decide +kernel
theorem dX5_type_16 : decode cX5_type 16 = .ok (.bipush 60, 2) := by decide +kernel
theorem dX5_type_18 : decode cX5_type 18 = .ok (.if_icmp .ne 7, 3) := by decide +kernel
theorem dX5_type_21 : decode cX5_type 21 = .ok (.iconst 2, 1) := by decide +kernel
theorem dX5_type_22 : decode cX5_type 22 = .ok (.goto 4, 3) := by decide +kernel
theorem dX5_type_25 : decode cX5_type 25 = .ok (.iconst 0, 1) := by decide +kernel
theorem dX5_type_26 : decode cX5_type 26 = .ok (.invokevirtual 63, 3) := by decide +kernel
theorem dX5_type_29 : decode cX5_type 29 = .ok (.ifCond .eq 5, 3) := by decide +kernel
theorem dX5_type_32 : decode cX5_type 32 = .ok (.iconst 0, 1) := by decide +kernel
theorem dX5_type_33 : decode cX5_type 33 = .ok (.ireturn, 1) := by decide +kernel
theorem dX5_type_34 : decode cX5_type 34 = .ok (.aload_n 0, 1) := by decide +kernel
theorem dX5_type_35 : decode cX5_type 35 = .ok (.iconst 1, 1) := by decide +kernel
theorem dX5_type_36 : decode cX5_type 36 = .ok (.newarray .int, 2) := by decide +kernel
theorem dX5_type_38 : decode cX5_type 38 = .ok (.dup, 1) := by decide +kernel
theorem dX5_type_39 : decode cX5_type 39 = .ok (.iconst 0, 1) := by decide +kernel
theorem dX5_type_40 : decode cX5_type 40 = .ok (.iload_n 1, 1) := by decide +kernel
theorem dX5_type_41 : decode cX5_type 41 = .ok (.iastore, 1) := by decide +kernel
theorem dX5_type_42 : decode cX5_type 42 = .ok (.iconst 0, 1) := by decide +kernel
theorem dX5_type_43 : decode cX5_type 43 = .ok (.iconst 1, 1) := by decide +kernel
theorem dX5_type_44 : decode cX5_type 44 = .ok (.invokevirtual 66, 3) := by decide +kernel
theorem dX5_type_47 : decode cX5_type 47 = .ok (.aload_n 0, 1) := by decide +kernel
theorem dX5_type_48 : decode cX5_type 48 = .ok (.getfield 53, 3) := by decide +kernel
theorem dX5_type_51 : decode cX5_type 51 = .ok (.ireturn, 1) := by decide +kernel
theorem dX5_digit_0 : decode cX5_digit 0 = .ok (.iload_n 0, 1) := by decide +kernel
theorem dX5_digit_1 : decode cX5_digit 1 = .ok (.bipush 10, 2) := by decide +kernel
theorem dX5_digit_3 : decode cX5_digit 3 = .ok (.if_icmp .ge 10, 3) := by decide +kernel
theorem dX5_digit_6 : decode cX5_digit 6 = .ok (.bipush 48, 2) := by decide +kernel
theorem dX5_digit_8 : decode cX5_digit 8 = .ok (.iload_n 0, 1) := by decide +kernel
theorem dX5_digit_9 : decode cX5_digit 9 = .ok (.iadd, 1) := by decide +kernel
theorem dX5_digit_10 : decode cX5_digit 10 = .ok (.goto 19, 3) := by decide +kernel
theorem dX5_digit_13 : decode cX5_digit 13 = .ok (.iload_n 1, 1) := by decide +kernel
theorem dX5_digit_14 : decode cX5_digit 14 = .ok (.ifCond .eq 8, 3) := by decide +kernel
theorem dX5_digit_17 : decode cX5_digit 17 = .ok (.bipush 97, 2) := by decide +kernel
theorem dX5_digit_19 : decode cX5_digit 19 = .ok (.goto 5, 3) := by decide +kernel
theorem dX5_digit_22 : decode cX5_digit 22 = .ok (.bipush 65, 2) := by decide +kernel
theorem dX5_digit_24 : decode cX5_digit 24 = .ok (.iload_n 0, 1) := by decide +kernel
theorem dX5_digit_25 : decode cX5_digit 25 = .ok (.iadd, 1) := by decide +kernel
theorem dX5_digit_26 : decode cX5_digit 26 = .ok (.bipush 10, 2) := by decide +kernel
theorem dX5_digit_28 : decode cX5_digit 28 = .ok (.isub, 1) := by decide +kernel
theorem dX5_digit_29 : decode cX5_digit 29 = .ok (.ireturn, 1) := by decide +kernel
theorem dX5_escape_0 : decode cX5_escape 0 = .ok (.aload_n 0, 1) := by decide +kernel
theorem dX5_escape_1 : decode cX5_escape 1 = .ok (.iload_n 1, 1) := by decide +kernel
theorem dX5_escape_2 : decode cX5_escape 2 = .ok (.iconst 0, 1) := by decide +kernel
theorem dX5_escape_3 : decode cX5_escape 3 = .ok (.sipush 255, 3) := by decide +kernel
theorem dX5_escape_6 : decode cX5_escape 6 = .ok (.invokestatic 41, 3) := by decide +kernel
theorem dX5_escape_9 : decode cX5_escape 9 = .ok (.ifCond .ne 7, 3) := by decide +kernel
theorem dX5_escape_12 : decode cX5_escape 12 = .ok (.iconst 1, 1) := by decide +kernel
theorem dX5_escape_13 : decode cX5_escape 13 = .ok (.goto 19, 3) := by decide +kernel
theorem dX5_escape_16 : decode cX5_escape 16 = .ok (.aload_n 0, 1) := by decide +kernel
theorem dX5_escape_17 : decode cX5_escape 17 = .ok (.getfield 53, 3) := by decide +kernel
theorem dX5_escape_20 : decode cX5_escape 20 = .ok (.iconst 3, 1) := by decide +kernel
theorem dX5_escape_21 : decode cX5_escape 21 = .ok (.iadd, 1) := by decide +kernel
theorem dX5_escape_22 : decode cX5_escape 22 = .ok (.bipush 60, 2) := by decide +kernel
theorem dX5_escape_24 : decode cX5_escape 24 = .ok (.if_icmp .le 7, 3) := by decide +kernel
theorem dX5_escape_27 : decode cX5_escape 27 = .ok (.iconst 2, 1) := by decide +kernel
theorem dX5_escape_28 : decode cX5_escape 28 = .ok (.goto 4, 3) := by decide +kernel
theorem dX5_escape_31 : decode cX5_escape 31 = .ok (.iconst 0, 1) := by decide +kernel
theorem dX5_escape_32 : decode cX5_escape 32 = .ok (.invokevirtual 63, 3) := by decide +kernel
theorem dX5_escape_35 : decode cX5_escape 35 = .ok (.ifCond .eq 5, 3) := by decide +kernel
theorem dX5_escape_38 : decode cX5_escape 38 = .ok (.iconst 0, 1) := by decide +kernel
theorem dX5_escape_39 : decode cX5_escape 39 = .ok (.ireturn, 1) := by decide +kernel
theorem dX5_escape_40 : decode cX5_escape 40 = .ok (.aload_n 0, 1) := by decide +kernel
theorem dX5_escape_41 : decode cX5_escape 41 = .ok (.iconst 3, 1) := by decide +kernel
theorem dX5_escape_42 : decode cX5_escape 42 = .ok (.newarray .int, 2) := by decide +kernel
theorem dX5_escape_44 : decode cX5_escape 44 = .ok (.dup, 1) := by decide +kernel
theorem dX5_escape_45 : decode cX5_escape 45 = .ok (.iconst 0, 1) := by decide +kernel
theorem dX5_escape_46 : decode cX5_escape 46 = .ok (.bipush 37, 2) := by decide +kernel
theorem dX5_escape_48 : decode cX5_escape 48 = .ok (.iastore, 1) := by decide +kernel
theorem dX5_escape_49 : decode cX5_escape 49 = .ok (.dup, 1) := by decide +kernel
theorem dX5_escape_50 : decode cX5_escape 50 = .ok (.iconst 1, 1) := by decide +kernel
theorem dX5_escape_51 : decode cX5_escape 51 = .ok (.iload_n 1, 1) := by decide +kernel
theorem dX5_escape_52 : decode cX5_escape 52 = .ok (.bipush 16, 2) := by decide +kernel
theorem dX5_escape_54 : decode cX5_escape 54 = .ok (.idiv, 1) := by decide +kernel
theorem dX5_escape_55 : decode cX5_escape 55 = .ok (.iload_n 2, 1) := by decide +kernel
theorem dX5_escape_56 : decode cX5_escape 56 = .ok (.invokestatic 70, 3) := by decide +kernel
theorem dX5_escape_59 : decode cX5_escape 59 = .ok (.iastore, 1) := by decide +kernel
theorem dX5_escape_60 : decode cX5_escape 60 = .ok (.dup, 1) := by decide +kernel
theorem dX5_escape_61 : decode cX5_escape 61 = .ok (.iconst 2, 1) := by decide +kernel
theorem dX5_escape_62 : decode cX5_escape 62 = .ok (.iload_n 1, 1) := by decide +kernel
theorem dX5_escape_63 : decode cX5_escape 63 = .ok (.bipush 16, 2) := by decide +kernel
theorem dX5_escape_65 : decode cX5_escape 65 = .ok (.irem, 1) := by decide +kernel
theorem dX5_escape_66 : decode cX5_escape 66 = .ok (.iload_n 2, 1) := by decide +kernel
theorem dX5_escape_67 : decode cX5_escape 67 = .ok (.invokestatic 70, 3) := by decide +kernel
theorem dX5_escape_70 : decode cX5_escape 70 = .ok (.iastore, 1) := by decide +kernel
theorem dX5_escape_71 : decode cX5_escape 71 = .ok (.iconst 0, 1) := by decide +kernel
theorem dX5_escape_72 : decode cX5_escape 72 = .ok (.iconst 3, 1) := by decide +kernel
theorem dX5_escape_73 : decode cX5_escape 73 = .ok (.invokevirtual 66, 3) := by decide +kernel
theorem dX5_escape_76 : decode cX5_escape 76 = .ok (.aload_n 0, 1) := by decide +kernel
theorem dX5_escape_77 : decode cX5_escape 77 = .ok (.getfield 53, 3) := by decide +kernel
theorem dX5_escape_80 : decode cX5_escape 80 = .ok (.ireturn, 1) := by decide +kernel
theorem dX5_word_0 : decode cX5_word 0 = .ok (.bipush 16, 2) := by decide +kernel
theorem dX5_word_2 : decode cX5_word 2 = .ok (.newarray .int, 2) := by decide +kernel
theorem dX5_word_4 : decode cX5_word 4 = .ok (.astore_n 2, 1) := by decide +kernel
theorem dX5_word_5 : decode cX5_word 5 = .ok (.iconst 0, 1) := by decide +kernel
theorem dX5_word_6 : decode cX5_word 6 = .ok (.istore_n 3, 1) := by decide +kernel
theorem dX5_word_7 : decode cX5_word 7 = .ok (.iconst 0, 1) := by decide +kernel
theorem dX5_word_8 : decode cX5_word 8 = .ok (.istore 4, 2) := by decide +kernel
theorem dX5_word_10 : decode cX5_word 10 = .ok (.iconst 0, 1) := by decide +kernel
theorem dX5_word_11 : decode cX5_word 11 = .ok (.istore 5, 2) := by decide +kernel
theorem dX5_word_13 : decode cX5_word 13 = .ok (.iload 5, 2) := by decide +kernel
theorem dX5_word_15 : decode cX5_word 15 = .ok (.iload_n 1, 1) := by decide +kernel
theorem dX5_word_16 : decode cX5_word 16 = .ok (.if_icmp .ge 26, 3) := by decide +kernel
theorem dX5_word_19 : decode cX5_word 19 = .ok (.iload_n 1, 1) := by decide +kernel
theorem dX5_word_20 : decode cX5_word 20 = .ok (.bipush 32, 2) := by decide +kernel
theorem dX5_word_22 : decode cX5_word 22 = .ok (.if_icmp .ge 20, 3) := by decide +kernel
theorem dX5_word_25 : decode cX5_word 25 = .ok (.ldc 74, 2) := by decide +kernel
theorem dX5_word_27 : decode cX5_word 27 = .ok (.bipush 32, 2) := by decide +kernel
theorem dX5_word_29 : decode cX5_word 29 = .ok (.iload_n 3, 1) := by decide +kernel
theorem dX5_word_30 : decode cX5_word 30 = .ok (.invokevirtual 76, 3) := by decide +kernel
theorem dX5_word_33 : decode cX5_word 33 = .ok (.iconst 1, 1) := by decide +kernel
theorem dX5_word_34 : decode cX5_word 34 = .ok (.iadd, 1) := by decide +kernel
theorem dX5_word_35 : decode cX5_word 35 = .ok (.istore_n 3, 1) := by decide +kernel
theorem dX5_word_36 : decode cX5_word 36 = .ok (.iinc 5 1, 3) := by decide +kernel
theorem dX5_word_39 : decode cX5_word 39 = .ok (.goto (-26), 3) := by decide +kernel
theorem dX5_word_42 : decode cX5_word 42 = .ok (.iload_n 1, 1) := by decide +kernel
theorem dX5_word_43 : decode cX5_word 43 = .ok (.iconst 0, 1) := by decide +kernel
theorem dX5_word_44 : decode cX5_word 44 = .ok (.bipush 31, 2) := by decide +kernel
theorem dX5_word_46 : decode cX5_word 46 = .ok (.invokestatic 41, 3) := by decide +kernel
theorem dX5_word_49 : decode cX5_word 49 = .ok (.ifCond .eq 36, 3) := by decide +kernel
theorem dX5_word_52 : decode cX5_word 52 = .ok (.ldc 74, 2) := by decide +kernel
theorem dX5_word_54 : decode cX5_word 54 = .ok (.iload_n 3, 1) := by decide +kernel
theorem dX5_word_55 : decode cX5_word 55 = .ok (.iload 4, 2) := by decide +kernel
theorem dX5_word_57 : decode cX5_word 57 = .ok (.iadd, 1) := by decide +kernel
theorem dX5_word_58 : decode cX5_word 58 = .ok (.invokevirtual 79, 3) := by decide +kernel
theorem dX5_word_61 : decode cX5_word 61 = .ok (.bipush 32, 2) := by decide +kernel
theorem dX5_word_63 : decode cX5_word 63 = .ok (.if_icmp .eq 22, 3) := by decide +kernel
theorem dX5_word_66 : decode cX5_word 66 = .ok (.aload_n 2, 1) := by decide +kernel
theorem dX5_word_67 : decode cX5_word 67 = .ok (.iload 4, 2) := by decide +kernel
theorem dX5_word_69 : decode cX5_word 69 = .ok (.ldc 74, 2) := by decide +kernel
theorem dX5_word_71 : decode cX5_word 71 = .ok (.iload_n 3, 1) := by decide +kernel
theorem dX5_word_72 : decode cX5_word 72 = .ok (.iload 4, 2) := by decide +kernel
theorem dX5_word_74 : decode cX5_word 74 = .ok (.iadd, 1) := by decide +kernel
theorem dX5_word_75 : decode cX5_word 75 = .ok (.invokevirtual 79, 3) := by decide +kernel
theorem dX5_word_78 : decode cX5_word 78 = .ok (.iastore, 1) := by decide +kernel
theorem dX5_word_79 : decode cX5_word 79 = .ok (.iinc 4 1, 3) := by decide +kernel
theorem dX5_word_82 : decode cX5_word 82 = .ok (.goto (-40), 3) := by decide +kernel
theorem dX5_word_85 : decode cX5_word 85 = .ok (.aload_n 0, 1) := by decide +kernel
theorem dX5_word_86 : decode cX5_word 86 = .ok (.iload_n 1, 1) := by decide +kernel
theorem dX5_word_87 : decode cX5_word 87 = .ok (.iconst 0, 1) := by decide +kernel
theorem dX5_word_88 : decode cX5_word 88 = .ok (.bipush 31, 2) := by decide +kernel
theorem dX5_word_90 : decode cX5_word 90 = .ok (.invokestatic 41, 3) := by decide +kernel
theorem dX5_word_93 : decode cX5_word 93 = .ok (.ifCond .ne 7, 3) := by decide +kernel
theorem dX5_word_96 : decode cX5_word 96 = .ok (.iconst 1, 1) := by decide +kernel
theorem dX5_word_97 : decode cX5_word 97 = .ok (.goto 20, 3) := by decide +kernel
theorem dX5_word_100 : decode cX5_word 100 = .ok (.aload_n 0, 1) := by decide +kernel
theorem dX5_word_101 : decode cX5_word 101 = .ok (.getfield 53, 3) := by decide +kernel
theorem dX5_word_104 : decode cX5_word 104 = .ok (.iload 4, 2) := by decide +kernel
theorem dX5_word_106 : decode cX5_word 106 = .ok (.iadd, 1) := by decide +kernel
theorem dX5_word_107 : decode cX5_word 107 = .ok (.bipush 60, 2) := by decide +kernel
theorem dX5_word_109 : decode cX5_word 109 = .ok (.if_icmp .le 7, 3) := by decide +kernel
theorem dX5_word_112 : decode cX5_word 112 = .ok (.iconst 2, 1) := by decide +kernel
theorem dX5_word_113 : decode cX5_word 113 = .ok (.goto 4, 3) := by decide +kernel
theorem dX5_word_116 : decode cX5_word 116 = .ok (.iconst 0, 1) := by decide +kernel
theorem dX5_word_117 : decode cX5_word 117 = .ok (.invokevirtual 63, 3) := by decide +kernel
theorem dX5_word_120 : decode cX5_word 120 = .ok (.ifCond .eq 5, 3) := by decide +kernel
theorem dX5_word_123 : decode cX5_word 123 = .ok (.iconst 0, 1) := by decide +kernel
theorem dX5_word_124 : decode cX5_word 124 = .ok (.ireturn, 1) := by decide +kernel
theorem dX5_word_125 : decode cX5_word 125 = .ok (.aload_n 0, 1) := by decide +kernel
theorem dX5_word_126 : decode cX5_word 126 = .ok (.aload_n 2, 1) := by decide +kernel
theorem dX5_word_127 : decode cX5_word 127 = .ok (.iconst 0, 1) := by decide +kernel
theorem dX5_word_128 : decode cX5_word 128 = .ok (.iload 4, 2) := by decide +kernel
theorem dX5_word_130 : decode cX5_word 130 = .ok (.invokevirtual 66, 3) := by decide +kernel
theorem dX5_word_133 : decode cX5_word 133 = .ok (.aload_n 0, 1) := by decide +kernel
theorem dX5_word_134 : decode cX5_word 134 = .ok (.getfield 53, 3) := by decide +kernel
theorem dX5_word_137 : decode cX5_word 137 = .ok (.ireturn, 1) := by decide +kernel
theorem dX5_drop_0 : decode cX5_drop 0 = .ok (.aload_n 0, 1) := by decide +kernel
theorem dX5_drop_1 : decode cX5_drop 1 = .ok (.aload_n 0, 1) := by decide +kernel
theorem dX5_drop_2 : decode cX5_drop 2 = .ok (.getfield 56, 3) := by decide +kernel
theorem dX5_drop_5 : decode cX5_drop 5 = .ok (.ifCond .ne 7, 3) := by decide +kernel
theorem dX5_drop_8 : decode cX5_drop 8 = .ok (.iconst 1, 1) := by decide +kernel
theorem dX5_drop_9 : decode cX5_drop 9 = .ok (.goto 4, 3) := by decide +kernel
theorem dX5_drop_12 : decode cX5_drop 12 = .ok (.iconst 0, 1) := by decide +kernel
theorem dX5_drop_13 : decode cX5_drop 13 = .ok (.invokevirtual 63, 3) := by decide +kernel
theorem dX5_drop_16 : decode cX5_drop 16 = .ok (.ifCond .eq 5, 3) := by decide +kernel
theorem dX5_drop_19 : decode cX5_drop 19 = .ok (.iconst 0, 1) := by decide +kernel
theorem dX5_drop_20 : decode cX5_drop 20 = .ok (.ireturn, 1) := by decide +kernel
theorem dX5_drop_21 : decode cX5_drop 21 = .ok (.aload_n 0, 1) := by decide +kernel
theorem dX5_drop_22 : decode cX5_drop 22 = .ok (.dup, 1) := by decide +kernel
theorem dX5_drop_23 : decode cX5_drop 23 = .ok (.getfield 56, 3) := by decide +kernel
theorem dX5_drop_26 : decode cX5_drop 26 = .ok (.iconst 1, 1) := by decide +kernel
theorem dX5_drop_27 : decode cX5_drop 27 = .ok (.isub, 1) := by decide +kernel
theorem dX5_drop_28 : decode cX5_drop 28 = .ok (.putfield 56, 3) := by decide +kernel
theorem dX5_drop_31 : decode cX5_drop 31 = .ok (.aload_n 0, 1) := by decide +kernel
theorem dX5_drop_32 : decode cX5_drop 32 = .ok (.dup, 1) := by decide +kernel
theorem dX5_drop_33 : decode cX5_drop 33 = .ok (.getfield 53, 3) := by decide +kernel
theorem dX5_drop_36 : decode cX5_drop 36 = .ok (.aload_n 0, 1) := by decide +kernel
theorem dX5_drop_37 : decode cX5_drop 37 = .ok (.getfield 13, 3) := by decide +kernel
theorem dX5_drop_40 : decode cX5_drop 40 = .ok (.aload_n 0, 1) := by decide +kernel
theorem dX5_drop_41 : decode cX5_drop 41 = .ok (.getfield 56, 3) := by decide +kernel
theorem dX5_drop_44 : decode cX5_drop 44 = .ok (.iaload, 1) := by decide +kernel
theorem dX5_drop_45 : decode cX5_drop 45 = .ok (.isub, 1) := by decide +kernel
theorem dX5_drop_46 : decode cX5_drop 46 = .ok (.putfield 53, 3) := by decide +kernel
theorem dX5_drop_49 : decode cX5_drop 49 = .ok (.aload_n 0, 1) := by decide +kernel
theorem dX5_drop_50 : decode cX5_drop 50 = .ok (.getfield 53, 3) := by decide +kernel
theorem dX5_drop_53 : decode cX5_drop 53 = .ok (.ireturn, 1) := by decide +kernel
theorem dX5_wipe_0 : decode cX5_wipe 0 = .ok (.aload_n 0, 1) := by decide +kernel
theorem dX5_wipe_1 : decode cX5_wipe 1 = .ok (.iconst 0, 1) := by decide +kernel
theorem dX5_wipe_2 : decode cX5_wipe 2 = .ok (.putfield 37, 3) := by decide +kernel
theorem dX5_wipe_5 : decode cX5_wipe 5 = .ok (.aload_n 0, 1) := by decide +kernel
theorem dX5_wipe_6 : decode cX5_wipe 6 = .ok (.getfield 53, 3) := by decide +kernel
theorem dX5_wipe_9 : decode cX5_wipe 9 = .ok (.istore_n 1, 1) := by decide +kernel
theorem dX5_wipe_10 : decode cX5_wipe 10 = .ok (.aload_n 0, 1) := by decide +kernel
theorem dX5_wipe_11 : decode cX5_wipe 11 = .ok (.iconst 0, 1) := by decide +kernel
theorem dX5_wipe_12 : decode cX5_wipe 12 = .ok (.putfield 53, 3) := by decide +kernel
theorem dX5_wipe_15 : decode cX5_wipe 15 = .ok (.aload_n 0, 1) := by decide +kernel
theorem dX5_wipe_16 : decode cX5_wipe 16 = .ok (.iconst 0, 1) := by decide +kernel
theorem dX5_wipe_17 : decode cX5_wipe 17 = .ok (.putfield 56, 3) := by decide +kernel
theorem dX5_wipe_20 : decode cX5_wipe 20 = .ok (.iload_n 1, 1) := by decide +kernel
theorem dX5_wipe_21 : decode cX5_wipe 21 = .ok (.ireturn, 1) := by decide +kernel
theorem dX5_length_0 : decode cX5_length 0 = .ok (.aload_n 0, 1) := by decide +kernel
theorem dX5_length_1 : decode cX5_length 1 = .ok (.iconst 0, 1) := by decide +kernel
theorem dX5_length_2 : decode cX5_length 2 = .ok (.putfield 37, 3) := by decide +kernel
theorem dX5_length_5 : decode cX5_length 5 = .ok (.aload_n 0, 1) := by decide +kernel
theorem dX5_length_6 : decode cX5_length 6 = .ok (.getfield 53, 3) := by decide +kernel
theorem dX5_length_9 : decode cX5_length 9 = .ok (.ireturn, 1) := by decide +kernel
theorem dX5_signAt_0 : decode cX5_signAt 0 = .ok (.aload_n 0, 1) := by decide +kernel
theorem dX5_signAt_1 : decode cX5_signAt 1 = .ok (.iload_n 1, 1) := by decide +kernel
theorem dX5_signAt_2 : decode cX5_signAt 2 = .ok (.iconst 0, 1) := by decide +kernel
theorem dX5_signAt_3 : decode cX5_signAt 3 = .ok (.aload_n 0, 1) := by decide +kernel
theorem dX5_signAt_4 : decode cX5_signAt 4 = .ok (.getfield 53, 3) := by decide +kernel
theorem dX5_signAt_7 : decode cX5_signAt 7 = .ok (.iconst 1, 1) := by decide +kernel
theorem dX5_signAt_8 : decode cX5_signAt 8 = .ok (.isub, 1) := by decide +kernel
theorem dX5_signAt_9 : decode cX5_signAt 9 = .ok (.invokestatic 41, 3) := by decide +kernel
theorem dX5_signAt_12 : decode cX5_signAt 12 = .ok (.ifCond .eq 7, 3) := by decide +kernel
theorem dX5_signAt_15 : decode cX5_signAt 15 = .ok (.iconst 0, 1) := by decide +kernel
theorem dX5_signAt_16 : decode cX5_signAt 16 = .ok (.goto 4, 3) := by decide +kernel
theorem dX5_signAt_19 : decode cX5_signAt 19 = .ok (.iconst 1, 1) := by decide +kernel
theorem dX5_signAt_20 : decode cX5_signAt 20 = .ok (.invokevirtual 63, 3) := by decide +kernel
theorem dX5_signAt_23 : decode cX5_signAt 23 = .ok (.ifCond .eq 7, 3) := by decide +kernel
theorem dX5_signAt_26 : decode cX5_signAt 26 = .ok (.iconst 0, 1) := by decide +kernel
theorem dX5_signAt_27 : decode cX5_signAt 27 = .ok (.goto 10, 3) := by decide +kernel
theorem dX5_signAt_30 : decode cX5_signAt 30 = .ok (.aload_n 0, 1) := by decide +kernel
theorem dX5_signAt_31 : decode cX5_signAt 31 = .ok (.getfield 7, 3) := by decide +kernel
theorem dX5_signAt_34 : decode cX5_signAt 34 = .ok (.iload_n 1, 1) := by decide +kernel
theorem dX5_signAt_35 : decode cX5_signAt 35 = .ok (.iaload, 1) := by decide +kernel
theorem dX5_signAt_36 : decode cX5_signAt 36 = .ok (.i2c, 1) := by decide +kernel
theorem dX5_signAt_37 : decode cX5_signAt 37 = .ok (.ireturn, 1) := by decide +kernel
theorem dX5_next_0 : decode cX5_next 0 = .ok (.iload_n 1, 1) := by decide +kernel
theorem dX5_next_1 : decode cX5_next 1 = .ok (.istore_n 3, 1) := by decide +kernel
theorem dX5_next_2 : decode cX5_next 2 = .ok (.iload_n 3, 1) := by decide +kernel
theorem dX5_next_3 : decode cX5_next 3 = .ok (.aload_n 0, 1) := by decide +kernel
theorem dX5_next_4 : decode cX5_next 4 = .ok (.getfield 53, 3) := by decide +kernel
theorem dX5_next_7 : decode cX5_next 7 = .ok (.if_icmp .ge 22, 3) := by decide +kernel
theorem dX5_next_10 : decode cX5_next 10 = .ok (.aload_n 2, 1) := by decide +kernel
theorem dX5_next_11 : decode cX5_next 11 = .ok (.aload_n 0, 1) := by decide +kernel
theorem dX5_next_12 : decode cX5_next 12 = .ok (.getfield 7, 3) := by decide +kernel
theorem dX5_next_15 : decode cX5_next 15 = .ok (.iload_n 3, 1) := by decide +kernel
theorem dX5_next_16 : decode cX5_next 16 = .ok (.iaload, 1) := by decide +kernel
theorem dX5_next_17 : decode cX5_next 17 = .ok (.invokevirtual 47, 3) := by decide +kernel
theorem dX5_next_20 : decode cX5_next 20 = .ok (.ifCond .ge 9, 3) := by decide +kernel
theorem dX5_next_23 : decode cX5_next 23 = .ok (.iinc 3 1, 3) := by decide +kernel
theorem dX5_next_26 : decode cX5_next 26 = .ok (.goto (-24), 3) := by decide +kernel
theorem dX5_next_29 : decode cX5_next 29 = .ok (.iload_n 3, 1) := by decide +kernel
theorem dX5_next_30 : decode cX5_next 30 = .ok (.ireturn, 1) := by decide +kernel
theorem dX5_rest_0 : decode cX5_rest 0 = .ok (.aload_n 0, 1) := by decide +kernel
theorem dX5_rest_1 : decode cX5_rest 1 = .ok (.iconst 0, 1) := by decide +kernel
theorem dX5_rest_2 : decode cX5_rest 2 = .ok (.ldc 83, 2) := by decide +kernel
theorem dX5_rest_4 : decode cX5_rest 4 = .ok (.invokevirtual 85, 3) := by decide +kernel
theorem dX5_rest_7 : decode cX5_rest 7 = .ok (.istore_n 1, 1) := by decide +kernel
theorem dX5_rest_8 : decode cX5_rest 8 = .ok (.iload_n 1, 1) := by decide +kernel
theorem dX5_rest_9 : decode cX5_rest 9 = .ok (.aload_n 0, 1) := by decide +kernel
theorem dX5_rest_10 : decode cX5_rest 10 = .ok (.getfield 53, 3) := by decide +kernel
theorem dX5_rest_13 : decode cX5_rest 13 = .ok (.if_icmp .ge 20, 3) := by decide +kernel
theorem dX5_rest_16 : decode cX5_rest 16 = .ok (.aload_n 0, 1) := by decide +kernel
theorem dX5_rest_17 : decode cX5_rest 17 = .ok (.getfield 7, 3) := by decide +kernel
theorem dX5_rest_20 : decode cX5_rest 20 = .ok (.iload_n 1, 1) := by decide +kernel
theorem dX5_rest_21 : decode cX5_rest 21 = .ok (.iaload, 1) := by decide +kernel
theorem dX5_rest_22 : decode cX5_rest 22 = .ok (.bipush 58, 2) := by decide +kernel
theorem dX5_rest_24 : decode cX5_rest 24 = .ok (.if_icmp .ne 9, 3) := by decide +kernel
theorem dX5_rest_27 : decode cX5_rest 27 = .ok (.iload_n 1, 1) := by decide +kernel
theorem dX5_rest_28 : decode cX5_rest 28 = .ok (.iconst 1, 1) := by decide +kernel
theorem dX5_rest_29 : decode cX5_rest 29 = .ok (.iadd, 1) := by decide +kernel
theorem dX5_rest_30 : decode cX5_rest 30 = .ok (.goto 4, 3) := by decide +kernel
theorem dX5_rest_33 : decode cX5_rest 33 = .ok (.iconst 0, 1) := by decide +kernel
theorem dX5_rest_34 : decode cX5_rest 34 = .ok (.ireturn, 1) := by decide +kernel
theorem dX5_isAt_0 : decode cX5_isAt 0 = .ok (.iload_n 1, 1) := by decide +kernel
theorem dX5_isAt_1 : decode cX5_isAt 1 = .ok (.aload_n 0, 1) := by decide +kernel
theorem dX5_isAt_2 : decode cX5_isAt 2 = .ok (.getfield 53, 3) := by decide +kernel
theorem dX5_isAt_5 : decode cX5_isAt 5 = .ok (.if_icmp .ge 17, 3) := by decide +kernel
theorem dX5_isAt_8 : decode cX5_isAt 8 = .ok (.aload_n 0, 1) := by decide +kernel
theorem dX5_isAt_9 : decode cX5_isAt 9 = .ok (.getfield 7, 3) := by decide +kernel
theorem dX5_isAt_12 : decode cX5_isAt 12 = .ok (.iload_n 1, 1) := by decide +kernel
theorem dX5_isAt_13 : decode cX5_isAt 13 = .ok (.iaload, 1) := by decide +kernel
theorem dX5_isAt_14 : decode cX5_isAt 14 = .ok (.iload_n 2, 1) := by decide +kernel
theorem dX5_isAt_15 : decode cX5_isAt 15 = .ok (.if_icmp .ne 7, 3) := by decide +kernel
theorem dX5_isAt_18 : decode cX5_isAt 18 = .ok (.iconst 1, 1) := by decide +kernel
theorem dX5_isAt_19 : decode cX5_isAt 19 = .ok (.goto 4, 3) := by decide +kernel
theorem dX5_isAt_22 : decode cX5_isAt 22 = .ok (.iconst 0, 1) := by decide +kernel
theorem dX5_isAt_23 : decode cX5_isAt 23 = .ok (.ireturn, 1) := by decide +kernel
theorem dX5_bad_0 : decode cX5_bad 0 = .ok (.iload_n 1, 1) := by decide +kernel
theorem dX5_bad_1 : decode cX5_bad 1 = .ok (.istore_n 3, 1) := by decide +kernel
theorem dX5_bad_2 : decode cX5_bad 2 = .ok (.iload_n 3, 1) := by decide +kernel
theorem dX5_bad_3 : decode cX5_bad 3 = .ok (.iload_n 2, 1) := by decide +kernel
theorem dX5_bad_4 : decode cX5_bad 4 = .ok (.if_icmp .ge 23, 3) := by decide +kernel
theorem dX5_bad_7 : decode cX5_bad 7 = .ok (.aload_n 0, 1) := by decide +kernel
theorem dX5_bad_8 : decode cX5_bad 8 = .ok (.getfield 7, 3) := by decide +kernel
theorem dX5_bad_11 : decode cX5_bad 11 = .ok (.iload_n 3, 1) := by decide +kernel
theorem dX5_bad_12 : decode cX5_bad 12 = .ok (.iaload, 1) := by decide +kernel
theorem dX5_bad_13 : decode cX5_bad 13 = .ok (.invokestatic 89, 3) := by decide +kernel
theorem dX5_bad_16 : decode cX5_bad 16 = .ok (.ifCond .eq 5, 3) := by decide +kernel
theorem dX5_bad_19 : decode cX5_bad 19 = .ok (.iload_n 3, 1) := by decide +kernel
theorem dX5_bad_20 : decode cX5_bad 20 = .ok (.ireturn, 1) := by decide +kernel
theorem dX5_bad_21 : decode cX5_bad 21 = .ok (.iinc 3 1, 3) := by decide +kernel
theorem dX5_bad_24 : decode cX5_bad 24 = .ok (.goto (-22), 3) := by decide +kernel
theorem dX5_bad_27 : decode cX5_bad 27 = .ok (.iconst (-1), 1) := by decide +kernel
theorem dX5_bad_28 : decode cX5_bad 28 = .ok (.ireturn, 1) := by decide +kernel
theorem dX5_slashes_0 : decode cX5_slashes 0 = .ok (.aload_n 0, 1) := by decide +kernel
theorem dX5_slashes_1 : decode cX5_slashes 1 = .ok (.invokevirtual 92, 3) := by decide +kernel
theorem dX5_slashes_4 : decode cX5_slashes 4 = .ok (.istore_n 1, 1) := by decide +kernel
theorem dX5_slashes_5 : decode cX5_slashes 5 = .ok (.aload_n 0, 1) := by decide +kernel
theorem dX5_slashes_6 : decode cX5_slashes 6 = .ok (.iload_n 1, 1) := by decide +kernel
theorem dX5_slashes_7 : decode cX5_slashes 7 = .ok (.bipush 47, 2) := by decide +kernel
theorem dX5_slashes_9 : decode cX5_slashes 9 = .ok (.invokevirtual 96, 3) := by decide +kernel
theorem dX5_slashes_12 : decode cX5_slashes 12 = .ok (.ifCond .eq 21, 3) := by decide +kernel
theorem dX5_slashes_15 : decode cX5_slashes 15 = .ok (.aload_n 0, 1) := by decide +kernel
theorem dX5_slashes_16 : decode cX5_slashes 16 = .ok (.iload_n 1, 1) := by decide +kernel
theorem dX5_slashes_17 : decode cX5_slashes 17 = .ok (.iconst 1, 1) := by decide +kernel
theorem dX5_slashes_18 : decode cX5_slashes 18 = .ok (.iadd, 1) := by decide +kernel
theorem dX5_slashes_19 : decode cX5_slashes 19 = .ok (.bipush 47, 2) := by decide +kernel
theorem dX5_slashes_21 : decode cX5_slashes 21 = .ok (.invokevirtual 96, 3) := by decide +kernel
theorem dX5_slashes_24 : decode cX5_slashes 24 = .ok (.ifCond .eq 9, 3) := by decide +kernel
theorem dX5_slashes_27 : decode cX5_slashes 27 = .ok (.iload_n 1, 1) := by decide +kernel
theorem dX5_slashes_28 : decode cX5_slashes 28 = .ok (.iconst 2, 1) := by decide +kernel
theorem dX5_slashes_29 : decode cX5_slashes 29 = .ok (.iadd, 1) := by decide +kernel
theorem dX5_slashes_30 : decode cX5_slashes 30 = .ok (.goto 4, 3) := by decide +kernel
theorem dX5_slashes_33 : decode cX5_slashes 33 = .ok (.iconst (-1), 1) := by decide +kernel
theorem dX5_slashes_34 : decode cX5_slashes 34 = .ok (.ireturn, 1) := by decide +kernel
theorem dX5_cut_0 : decode cX5_cut 0 = .ok (.aload_n 0, 1) := by decide +kernel
theorem dX5_cut_1 : decode cX5_cut 1 = .ok (.getfield 31, 3) := by decide +kernel
theorem dX5_cut_4 : decode cX5_cut 4 = .ok (.iload_n 1, 1) := by decide +kernel
theorem dX5_cut_5 : decode cX5_cut 5 = .ok (.invokestatic 100, 3) := by decide +kernel
theorem dX5_cut_8 : decode cX5_cut 8 = .ok (.iload_n 2, 1) := by decide +kernel
theorem dX5_cut_9 : decode cX5_cut 9 = .ok (.iastore, 1) := by decide +kernel
theorem dX5_cut_10 : decode cX5_cut 10 = .ok (.aload_n 0, 1) := by decide +kernel
theorem dX5_cut_11 : decode cX5_cut 11 = .ok (.getfield 34, 3) := by decide +kernel
theorem dX5_cut_14 : decode cX5_cut 14 = .ok (.iload_n 1, 1) := by decide +kernel
theorem dX5_cut_15 : decode cX5_cut 15 = .ok (.invokestatic 100, 3) := by decide +kernel
theorem dX5_cut_18 : decode cX5_cut 18 = .ok (.iload_n 3, 1) := by decide +kernel
theorem dX5_cut_19 : decode cX5_cut 19 = .ok (.iastore, 1) := by decide +kernel
theorem dX5_cut_20 : decode cX5_cut 20 = .ok (.return_, 1) := by decide +kernel
theorem dX5_parts_0 : decode cX5_parts 0 = .ok (.iconst 0, 1) := by decide +kernel
theorem dX5_parts_1 : decode cX5_parts 1 = .ok (.istore_n 1, 1) := by decide +kernel
theorem dX5_parts_2 : decode cX5_parts 2 = .ok (.iload_n 1, 1) := by decide +kernel
theorem dX5_parts_3 : decode cX5_parts 3 = .ok (.bipush 9, 2) := by decide +kernel
theorem dX5_parts_5 : decode cX5_parts 5 = .ok (.if_icmp .ge 23, 3) := by decide +kernel
theorem dX5_parts_8 : decode cX5_parts 8 = .ok (.aload_n 0, 1) := by decide +kernel
theorem dX5_parts_9 : decode cX5_parts 9 = .ok (.getfield 31, 3) := by decide +kernel
theorem dX5_parts_12 : decode cX5_parts 12 = .ok (.iload_n 1, 1) := by decide +kernel
theorem dX5_parts_13 : decode cX5_parts 13 = .ok (.iconst (-1), 1) := by decide +kernel
theorem dX5_parts_14 : decode cX5_parts 14 = .ok (.iastore, 1) := by decide +kernel
theorem dX5_parts_15 : decode cX5_parts 15 = .ok (.aload_n 0, 1) := by decide +kernel
theorem dX5_parts_16 : decode cX5_parts 16 = .ok (.getfield 34, 3) := by decide +kernel
theorem dX5_parts_19 : decode cX5_parts 19 = .ok (.iload_n 1, 1) := by decide +kernel
theorem dX5_parts_20 : decode cX5_parts 20 = .ok (.iconst (-1), 1) := by decide +kernel
theorem dX5_parts_21 : decode cX5_parts 21 = .ok (.iastore, 1) := by decide +kernel
theorem dX5_parts_22 : decode cX5_parts 22 = .ok (.iinc 1 1, 3) := by decide +kernel
theorem dX5_parts_25 : decode cX5_parts 25 = .ok (.goto (-23), 3) := by decide +kernel
theorem dX5_parts_28 : decode cX5_parts 28 = .ok (.aload_n 0, 1) := by decide +kernel
theorem dX5_parts_29 : decode cX5_parts 29 = .ok (.iconst (-1), 1) := by decide +kernel
theorem dX5_parts_30 : decode cX5_parts 30 = .ok (.putfield 104, 3) := by decide +kernel
theorem dX5_parts_33 : decode cX5_parts 33 = .ok (.aload_n 0, 1) := by decide +kernel
theorem dX5_parts_34 : decode cX5_parts 34 = .ok (.invokevirtual 92, 3) := by decide +kernel
theorem dX5_parts_37 : decode cX5_parts 37 = .ok (.istore_n 1, 1) := by decide +kernel
theorem dX5_parts_38 : decode cX5_parts 38 = .ok (.iload_n 1, 1) := by decide +kernel
theorem dX5_parts_39 : decode cX5_parts 39 = .ok (.iconst 1, 1) := by decide +kernel
theorem dX5_parts_40 : decode cX5_parts 40 = .ok (.if_icmp .ne 5, 3) := by decide +kernel
theorem dX5_parts_43 : decode cX5_parts 43 = .ok (.iconst 0, 1) := by decide +kernel
theorem dX5_parts_44 : decode cX5_parts 44 = .ok (.ireturn, 1) := by decide +kernel
theorem dX5_parts_45 : decode cX5_parts 45 = .ok (.iconst 0, 1) := by decide +kernel
theorem dX5_parts_46 : decode cX5_parts 46 = .ok (.istore_n 2, 1) := by decide +kernel
theorem dX5_parts_47 : decode cX5_parts 47 = .ok (.iload_n 2, 1) := by decide +kernel
theorem dX5_parts_48 : decode cX5_parts 48 = .ok (.iload_n 1, 1) := by decide +kernel
theorem dX5_parts_49 : decode cX5_parts 49 = .ok (.iconst 1, 1) := by decide +kernel
theorem dX5_parts_50 : decode cX5_parts 50 = .ok (.isub, 1) := by decide +kernel
theorem dX5_parts_51 : decode cX5_parts 51 = .ok (.if_icmp .ge 54, 3) := by decide +kernel
theorem dX5_parts_54 : decode cX5_parts 54 = .ok (.aload_n 0, 1) := by decide +kernel
theorem dX5_parts_55 : decode cX5_parts 55 = .ok (.getfield 7, 3) := by decide +kernel
theorem dX5_parts_58 : decode cX5_parts 58 = .ok (.iload_n 2, 1) := by decide +kernel
theorem dX5_parts_59 : decode cX5_parts 59 = .ok (.iaload, 1) := by decide +kernel
theorem dX5_parts_60 : decode cX5_parts 60 = .ok (.istore_n 3, 1) := by decide +kernel
theorem dX5_parts_61 : decode cX5_parts 61 = .ok (.iload_n 3, 1) := by decide +kernel
theorem dX5_parts_62 : decode cX5_parts 62 = .ok (.invokestatic 107, 3) := by decide +kernel
theorem dX5_parts_65 : decode cX5_parts 65 = .ok (.ifCond .ne 34, 3) := by decide +kernel
theorem dX5_parts_68 : decode cX5_parts 68 = .ok (.iload_n 2, 1) := by decide +kernel
theorem dX5_parts_69 : decode cX5_parts 69 = .ok (.ifCond .eq 28, 3) := by decide +kernel
theorem dX5_parts_72 : decode cX5_parts 72 = .ok (.iload_n 3, 1) := by decide +kernel
theorem dX5_parts_73 : decode cX5_parts 73 = .ok (.invokestatic 110, 3) := by decide +kernel
theorem dX5_parts_76 : decode cX5_parts 76 = .ok (.ifCond .ne 23, 3) := by decide +kernel
theorem dX5_parts_79 : decode cX5_parts 79 = .ok (.iload_n 3, 1) := by decide +kernel
theorem dX5_parts_80 : decode cX5_parts 80 = .ok (.bipush 43, 2) := by decide +kernel
theorem dX5_parts_82 : decode cX5_parts 82 = .ok (.if_icmp .eq 17, 3) := by decide +kernel
theorem dX5_parts_85 : decode cX5_parts 85 = .ok (.iload_n 3, 1) := by decide +kernel
theorem dX5_parts_86 : decode cX5_parts 86 = .ok (.bipush 45, 2) := by decide +kernel
theorem dX5_parts_88 : decode cX5_parts 88 = .ok (.if_icmp .eq 11, 3) := by decide +kernel
theorem dX5_parts_91 : decode cX5_parts 91 = .ok (.iload_n 3, 1) := by decide +kernel
theorem dX5_parts_92 : decode cX5_parts 92 = .ok (.bipush 46, 2) := by decide +kernel
theorem dX5_parts_94 : decode cX5_parts 94 = .ok (.if_icmp .eq 5, 3) := by decide +kernel
theorem dX5_parts_97 : decode cX5_parts 97 = .ok (.iload_n 2, 1) := by decide +kernel
theorem dX5_parts_98 : decode cX5_parts 98 = .ok (.ireturn, 1) := by decide +kernel
theorem dX5_parts_99 : decode cX5_parts 99 = .ok (.iinc 2 1, 3) := by decide +kernel
theorem dX5_parts_102 : decode cX5_parts 102 = .ok (.goto (-55), 3) := by decide +kernel
theorem dX5_parts_105 : decode cX5_parts 105 = .ok (.iload_n 1, 1) := by decide +kernel
theorem dX5_parts_106 : decode cX5_parts 106 = .ok (.ifCond .le 13, 3) := by decide +kernel
theorem dX5_parts_109 : decode cX5_parts 109 = .ok (.aload_n 0, 1) := by decide +kernel
theorem dX5_parts_110 : decode cX5_parts 110 = .ok (.bipush 115, 2) := by decide +kernel
theorem dX5_parts_112 : decode cX5_parts 112 = .ok (.iconst 0, 1) := by decide +kernel
theorem dX5_parts_113 : decode cX5_parts 113 = .ok (.iload_n 1, 1) := by decide +kernel
theorem dX5_parts_114 : decode cX5_parts 114 = .ok (.iconst 1, 1) := by decide +kernel
theorem dX5_parts_115 : decode cX5_parts 115 = .ok (.isub, 1) := by decide +kernel
theorem dX5_parts_116 : decode cX5_parts 116 = .ok (.invokevirtual 113, 3) := by decide +kernel
theorem dX5_parts_119 : decode cX5_parts 119 = .ok (.iload_n 1, 1) := by decide +kernel
theorem dX5_parts_120 : decode cX5_parts 120 = .ok (.istore_n 2, 1) := by decide +kernel
theorem dX5_parts_121 : decode cX5_parts 121 = .ok (.iload_n 1, 1) := by decide +kernel
theorem dX5_parts_122 : decode cX5_parts 122 = .ok (.ifCond .le 44, 3) := by decide +kernel
theorem dX5_parts_125 : decode cX5_parts 125 = .ok (.aload_n 0, 1) := by decide +kernel
theorem dX5_parts_126 : decode cX5_parts 126 = .ok (.iload_n 1, 1) := by decide +kernel
theorem dX5_parts_127 : decode cX5_parts 127 = .ok (.bipush 47, 2) := by decide +kernel
theorem dX5_parts_129 : decode cX5_parts 129 = .ok (.invokevirtual 96, 3) := by decide +kernel
theorem dX5_parts_132 : decode cX5_parts 132 = .ok (.ifCond .ne 34, 3) := by decide +kernel
theorem dX5_parts_135 : decode cX5_parts 135 = .ok (.aload_n 0, 1) := by decide +kernel
theorem dX5_parts_136 : decode cX5_parts 136 = .ok (.iload_n 1, 1) := by decide +kernel
theorem dX5_parts_137 : decode cX5_parts 137 = .ok (.ldc 117, 2) := by decide +kernel
theorem dX5_parts_139 : decode cX5_parts 139 = .ok (.invokevirtual 85, 3) := by decide +kernel
theorem dX5_parts_142 : decode cX5_parts 142 = .ok (.istore_n 1, 1) := by decide +kernel
theorem dX5_parts_143 : decode cX5_parts 143 = .ok (.iload_n 1, 1) := by decide +kernel
theorem dX5_parts_144 : decode cX5_parts 144 = .ok (.iload_n 2, 1) := by decide +kernel
theorem dX5_parts_145 : decode cX5_parts 145 = .ok (.if_icmp .ne 5, 3) := by decide +kernel
theorem dX5_parts_148 : decode cX5_parts 148 = .ok (.iload_n 1, 1) := by decide +kernel
theorem dX5_parts_149 : decode cX5_parts 149 = .ok (.ireturn, 1) := by decide +kernel
theorem dX5_parts_150 : decode cX5_parts 150 = .ok (.aload_n 0, 1) := by decide +kernel
theorem dX5_parts_151 : decode cX5_parts 151 = .ok (.iload_n 2, 1) := by decide +kernel
theorem dX5_parts_152 : decode cX5_parts 152 = .ok (.iload_n 1, 1) := by decide +kernel
theorem dX5_parts_153 : decode cX5_parts 153 = .ok (.invokevirtual 119, 3) := by decide +kernel
theorem dX5_parts_156 : decode cX5_parts 156 = .ok (.ifCond .lt 161, 3) := by decide +kernel
theorem dX5_parts_159 : decode cX5_parts 159 = .ok (.aload_n 0, 1) := by decide +kernel
theorem dX5_parts_160 : decode cX5_parts 160 = .ok (.iload_n 2, 1) := by decide +kernel
theorem dX5_parts_161 : decode cX5_parts 161 = .ok (.iload_n 1, 1) := by decide +kernel
theorem dX5_parts_162 : decode cX5_parts 162 = .ok (.invokevirtual 119, 3) := by decide +kernel
theorem dX5_parts_165 : decode cX5_parts 165 = .ok (.ireturn, 1) := by decide +kernel
theorem dX5_parts_166 : decode cX5_parts 166 = .ok (.aload_n 0, 1) := by decide +kernel
theorem dX5_parts_167 : decode cX5_parts 167 = .ok (.invokevirtual 122, 3) := by decide +kernel
theorem dX5_parts_170 : decode cX5_parts 170 = .ok (.ifCond .lt 62, 3) := by decide +kernel
theorem dX5_parts_173 : decode cX5_parts 173 = .ok (.aload_n 0, 1) := by decide +kernel
theorem dX5_parts_174 : decode cX5_parts 174 = .ok (.aload_n 0, 1) := by decide +kernel
theorem dX5_parts_175 : decode cX5_parts 175 = .ok (.invokevirtual 122, 3) := by decide +kernel
theorem dX5_parts_178 : decode cX5_parts 178 = .ok (.ldc 125, 2) := by decide +kernel
theorem dX5_parts_180 : decode cX5_parts 180 = .ok (.invokevirtual 85, 3) := by decide +kernel
theorem dX5_parts_183 : decode cX5_parts 183 = .ok (.istore_n 3, 1) := by decide +kernel
theorem dX5_parts_184 : decode cX5_parts 184 = .ok (.iload_n 3, 1) := by decide +kernel
theorem dX5_parts_185 : decode cX5_parts 185 = .ok (.aload_n 0, 1) := by decide +kernel
theorem dX5_parts_186 : decode cX5_parts 186 = .ok (.invokevirtual 122, 3) := by decide +kernel
theorem dX5_parts_189 : decode cX5_parts 189 = .ok (.if_icmp .ne 13, 3) := by decide +kernel
theorem dX5_parts_192 : decode cX5_parts 192 = .ok (.iload_n 3, 1) := by decide +kernel
theorem dX5_parts_193 : decode cX5_parts 193 = .ok (.aload_n 0, 1) := by decide +kernel
theorem dX5_parts_194 : decode cX5_parts 194 = .ok (.getfield 53, 3) := by decide +kernel
theorem dX5_parts_197 : decode cX5_parts 197 = .ok (.if_icmp .ne 5, 3) := by decide +kernel
theorem dX5_parts_200 : decode cX5_parts 200 = .ok (.iload_n 3, 1) := by decide +kernel
theorem dX5_parts_201 : decode cX5_parts 201 = .ok (.ireturn, 1) := by decide +kernel
theorem dX5_parts_202 : decode cX5_parts 202 = .ok (.iload_n 3, 1) := by decide +kernel
theorem dX5_parts_203 : decode cX5_parts 203 = .ok (.aload_n 0, 1) := by decide +kernel
theorem dX5_parts_204 : decode cX5_parts 204 = .ok (.invokevirtual 122, 3) := by decide +kernel
theorem dX5_parts_207 : decode cX5_parts 207 = .ok (.if_icmp .le 23, 3) := by decide +kernel
theorem dX5_parts_210 : decode cX5_parts 210 = .ok (.aload_n 0, 1) := by decide +kernel
theorem dX5_parts_211 : decode cX5_parts 211 = .ok (.bipush 97, 2) := by decide +kernel
theorem dX5_parts_213 : decode cX5_parts 213 = .ok (.aload_n 0, 1) := by decide +kernel
theorem dX5_parts_214 : decode cX5_parts 214 = .ok (.invokevirtual 122, 3) := by decide +kernel
theorem dX5_parts_217 : decode cX5_parts 217 = .ok (.iload_n 3, 1) := by decide +kernel
theorem dX5_parts_218 : decode cX5_parts 218 = .ok (.invokevirtual 113, 3) := by decide +kernel
theorem dX5_parts_221 : decode cX5_parts 221 = .ok (.aload_n 0, 1) := by decide +kernel
theorem dX5_parts_222 : decode cX5_parts 222 = .ok (.aload_n 0, 1) := by decide +kernel
theorem dX5_parts_223 : decode cX5_parts 223 = .ok (.invokevirtual 122, 3) := by decide +kernel
theorem dX5_parts_226 : decode cX5_parts 226 = .ok (.iload_n 3, 1) := by decide +kernel
theorem dX5_parts_227 : decode cX5_parts 227 = .ok (.invokevirtual 127, 3) := by decide +kernel
theorem dX5_parts_230 : decode cX5_parts 230 = .ok (.iload_n 3, 1) := by decide +kernel
theorem dX5_parts_231 : decode cX5_parts 231 = .ok (.istore_n 1, 1) := by decide +kernel
theorem dX5_parts_232 : decode cX5_parts 232 = .ok (.iload_n 1, 1) := by decide +kernel
theorem dX5_parts_233 : decode cX5_parts 233 = .ok (.istore_n 3, 1) := by decide +kernel
theorem dX5_parts_234 : decode cX5_parts 234 = .ok (.aload_n 0, 1) := by decide +kernel
theorem dX5_parts_235 : decode cX5_parts 235 = .ok (.iload_n 1, 1) := by decide +kernel
theorem dX5_parts_236 : decode cX5_parts 236 = .ok (.ldc 131, 2) := by decide +kernel
theorem dX5_parts_238 : decode cX5_parts 238 = .ok (.invokevirtual 85, 3) := by decide +kernel
theorem dX5_parts_241 : decode cX5_parts 241 = .ok (.istore_n 1, 1) := by decide +kernel
theorem dX5_parts_242 : decode cX5_parts 242 = .ok (.aload_n 0, 1) := by decide +kernel
theorem dX5_parts_243 : decode cX5_parts 243 = .ok (.bipush 112, 2) := by decide +kernel
theorem dX5_parts_245 : decode cX5_parts 245 = .ok (.iload_n 3, 1) := by decide +kernel
theorem dX5_parts_246 : decode cX5_parts 246 = .ok (.iload_n 1, 1) := by decide +kernel
theorem dX5_parts_247 : decode cX5_parts 247 = .ok (.invokevirtual 113, 3) := by decide +kernel
theorem dX5_parts_250 : decode cX5_parts 250 = .ok (.aload_n 0, 1) := by decide +kernel
theorem dX5_parts_251 : decode cX5_parts 251 = .ok (.iload_n 3, 1) := by decide +kernel
theorem dX5_parts_252 : decode cX5_parts 252 = .ok (.iload_n 1, 1) := by decide +kernel
theorem dX5_parts_253 : decode cX5_parts 253 = .ok (.invokevirtual 119, 3) := by decide +kernel
theorem dX5_parts_256 : decode cX5_parts 256 = .ok (.ifCond .lt 10, 3) := by decide +kernel
theorem dX5_parts_259 : decode cX5_parts 259 = .ok (.aload_n 0, 1) := by decide +kernel
theorem dX5_parts_260 : decode cX5_parts 260 = .ok (.iload_n 3, 1) := by decide +kernel
theorem dX5_parts_261 : decode cX5_parts 261 = .ok (.iload_n 1, 1) := by decide +kernel
theorem dX5_parts_262 : decode cX5_parts 262 = .ok (.invokevirtual 119, 3) := by decide +kernel
theorem dX5_parts_265 : decode cX5_parts 265 = .ok (.ireturn, 1) := by decide +kernel
theorem dX5_parts_266 : decode cX5_parts 266 = .ok (.aload_n 0, 1) := by decide +kernel
theorem dX5_parts_267 : decode cX5_parts 267 = .ok (.iload_n 1, 1) := by decide +kernel
theorem dX5_parts_268 : decode cX5_parts 268 = .ok (.bipush 63, 2) := by decide +kernel
theorem dX5_parts_270 : decode cX5_parts 270 = .ok (.invokevirtual 96, 3) := by decide +kernel
theorem dX5_parts_273 : decode cX5_parts 273 = .ok (.ifCond .eq 44, 3) := by decide +kernel
theorem dX5_parts_276 : decode cX5_parts 276 = .ok (.iload_n 1, 1) := by decide +kernel
theorem dX5_parts_277 : decode cX5_parts 277 = .ok (.iconst 1, 1) := by decide +kernel
theorem dX5_parts_278 : decode cX5_parts 278 = .ok (.iadd, 1) := by decide +kernel
theorem dX5_parts_279 : decode cX5_parts 279 = .ok (.istore 4, 2) := by decide +kernel
theorem dX5_parts_281 : decode cX5_parts 281 = .ok (.aload_n 0, 1) := by decide +kernel
theorem dX5_parts_282 : decode cX5_parts 282 = .ok (.iload 4, 2) := by decide +kernel
theorem dX5_parts_284 : decode cX5_parts 284 = .ok (.ldc 117, 2) := by decide +kernel
theorem dX5_parts_286 : decode cX5_parts 286 = .ok (.invokevirtual 85, 3) := by decide +kernel
theorem dX5_parts_289 : decode cX5_parts 289 = .ok (.istore_n 1, 1) := by decide +kernel
theorem dX5_parts_290 : decode cX5_parts 290 = .ok (.aload_n 0, 1) := by decide +kernel
theorem dX5_parts_291 : decode cX5_parts 291 = .ok (.bipush 113, 2) := by decide +kernel
theorem dX5_parts_293 : decode cX5_parts 293 = .ok (.iload 4, 2) := by decide +kernel
theorem dX5_parts_295 : decode cX5_parts 295 = .ok (.iload_n 1, 1) := by decide +kernel
theorem dX5_parts_296 : decode cX5_parts 296 = .ok (.invokevirtual 113, 3) := by decide +kernel
theorem dX5_parts_299 : decode cX5_parts 299 = .ok (.aload_n 0, 1) := by decide +kernel
theorem dX5_parts_300 : decode cX5_parts 300 = .ok (.iload 4, 2) := by decide +kernel
theorem dX5_parts_302 : decode cX5_parts 302 = .ok (.iload_n 1, 1) := by decide +kernel
theorem dX5_parts_303 : decode cX5_parts 303 = .ok (.invokevirtual 119, 3) := by decide +kernel
theorem dX5_parts_306 : decode cX5_parts 306 = .ok (.ifCond .lt 11, 3) := by decide +kernel
theorem dX5_parts_309 : decode cX5_parts 309 = .ok (.aload_n 0, 1) := by decide +kernel
theorem dX5_parts_310 : decode cX5_parts 310 = .ok (.iload 4, 2) := by decide +kernel
theorem dX5_parts_312 : decode cX5_parts 312 = .ok (.iload_n 1, 1) := by decide +kernel
theorem dX5_parts_313 : decode cX5_parts 313 = .ok (.invokevirtual 119, 3) := by decide +kernel
theorem dX5_parts_316 : decode cX5_parts 316 = .ok (.ireturn, 1) := by decide +kernel
theorem dX5_parts_317 : decode cX5_parts 317 = .ok (.aload_n 0, 1) := by decide +kernel
theorem dX5_parts_318 : decode cX5_parts 318 = .ok (.bipush 109, 2) := by decide +kernel
theorem dX5_parts_320 : decode cX5_parts 320 = .ok (.iload_n 2, 1) := by decide +kernel
theorem dX5_parts_321 : decode cX5_parts 321 = .ok (.iload_n 1, 1) := by decide +kernel
theorem dX5_parts_322 : decode cX5_parts 322 = .ok (.invokevirtual 113, 3) := by decide +kernel
theorem dX5_parts_325 : decode cX5_parts 325 = .ok (.aload_n 0, 1) := by decide +kernel
theorem dX5_parts_326 : decode cX5_parts 326 = .ok (.iload_n 1, 1) := by decide +kernel
theorem dX5_parts_327 : decode cX5_parts 327 = .ok (.bipush 35, 2) := by decide +kernel
theorem dX5_parts_329 : decode cX5_parts 329 = .ok (.invokevirtual 96, 3) := by decide +kernel
theorem dX5_parts_332 : decode cX5_parts 332 = .ok (.ifCond .eq 59, 3) := by decide +kernel
theorem dX5_parts_335 : decode cX5_parts 335 = .ok (.aload_n 0, 1) := by decide +kernel
theorem dX5_parts_336 : decode cX5_parts 336 = .ok (.bipush 102, 2) := by decide +kernel
theorem dX5_parts_338 : decode cX5_parts 338 = .ok (.iload_n 1, 1) := by decide +kernel
theorem dX5_parts_339 : decode cX5_parts 339 = .ok (.iconst 1, 1) := by decide +kernel
theorem dX5_parts_340 : decode cX5_parts 340 = .ok (.iadd, 1) := by decide +kernel
theorem dX5_parts_341 : decode cX5_parts 341 = .ok (.aload_n 0, 1) := by decide +kernel
theorem dX5_parts_342 : decode cX5_parts 342 = .ok (.getfield 53, 3) := by decide +kernel
theorem dX5_parts_345 : decode cX5_parts 345 = .ok (.invokevirtual 113, 3) := by decide +kernel
theorem dX5_parts_348 : decode cX5_parts 348 = .ok (.iload_n 1, 1) := by decide +kernel
theorem dX5_parts_349 : decode cX5_parts 349 = .ok (.iconst 1, 1) := by decide +kernel
theorem dX5_parts_350 : decode cX5_parts 350 = .ok (.iadd, 1) := by decide +kernel
theorem dX5_parts_351 : decode cX5_parts 351 = .ok (.istore_n 3, 1) := by decide +kernel
theorem dX5_parts_352 : decode cX5_parts 352 = .ok (.iload_n 3, 1) := by decide +kernel
theorem dX5_parts_353 : decode cX5_parts 353 = .ok (.aload_n 0, 1) := by decide +kernel
theorem dX5_parts_354 : decode cX5_parts 354 = .ok (.getfield 53, 3) := by decide +kernel
theorem dX5_parts_357 : decode cX5_parts 357 = .ok (.if_icmp .ge 34, 3) := by decide +kernel
theorem dX5_parts_360 : decode cX5_parts 360 = .ok (.aload_n 0, 1) := by decide +kernel
theorem dX5_parts_361 : decode cX5_parts 361 = .ok (.getfield 7, 3) := by decide +kernel
theorem dX5_parts_364 : decode cX5_parts 364 = .ok (.iload_n 3, 1) := by decide +kernel
theorem dX5_parts_365 : decode cX5_parts 365 = .ok (.iaload, 1) := by decide +kernel
theorem dX5_parts_366 : decode cX5_parts 366 = .ok (.invokestatic 89, 3) := by decide +kernel
theorem dX5_parts_369 : decode cX5_parts 369 = .ok (.ifCond .ne 14, 3) := by decide +kernel
theorem dX5_parts_372 : decode cX5_parts 372 = .ok (.aload_n 0, 1) := by decide +kernel
theorem dX5_parts_373 : decode cX5_parts 373 = .ok (.getfield 7, 3) := by decide +kernel
theorem dX5_parts_376 : decode cX5_parts 376 = .ok (.iload_n 3, 1) := by decide +kernel
theorem dX5_parts_377 : decode cX5_parts 377 = .ok (.iaload, 1) := by decide +kernel
theorem dX5_parts_378 : decode cX5_parts 378 = .ok (.bipush 35, 2) := by decide +kernel
theorem dX5_parts_380 : decode cX5_parts 380 = .ok (.if_icmp .ne 5, 3) := by decide +kernel
theorem dX5_parts_383 : decode cX5_parts 383 = .ok (.iload_n 3, 1) := by decide +kernel
theorem dX5_parts_384 : decode cX5_parts 384 = .ok (.ireturn, 1) := by decide +kernel
theorem dX5_parts_385 : decode cX5_parts 385 = .ok (.iinc 3 1, 3) := by decide +kernel
theorem dX5_parts_388 : decode cX5_parts 388 = .ok (.goto (-36), 3) := by decide +kernel
theorem dX5_parts_391 : decode cX5_parts 391 = .ok (.aload_n 0, 1) := by decide +kernel
theorem dX5_parts_392 : decode cX5_parts 392 = .ok (.bipush 119, 2) := by decide +kernel
theorem dX5_parts_394 : decode cX5_parts 394 = .ok (.iconst 0, 1) := by decide +kernel
theorem dX5_parts_395 : decode cX5_parts 395 = .ok (.aload_n 0, 1) := by decide +kernel
theorem dX5_parts_396 : decode cX5_parts 396 = .ok (.getfield 53, 3) := by decide +kernel
theorem dX5_parts_399 : decode cX5_parts 399 = .ok (.invokevirtual 113, 3) := by decide +kernel
theorem dX5_parts_402 : decode cX5_parts 402 = .ok (.iconst (-1), 1) := by decide +kernel
theorem dX5_parts_403 : decode cX5_parts 403 = .ok (.ireturn, 1) := by decide +kernel
theorem dX5_authority_0 : decode cX5_authority 0 = .ok (.iload_n 1, 1) := by decide +kernel
theorem dX5_authority_1 : decode cX5_authority 1 = .ok (.istore_n 3, 1) := by decide +kernel
theorem dX5_authority_2 : decode cX5_authority 2 = .ok (.iload_n 3, 1) := by decide +kernel
theorem dX5_authority_3 : decode cX5_authority 3 = .ok (.iload_n 2, 1) := by decide +kernel
theorem dX5_authority_4 : decode cX5_authority 4 = .ok (.if_icmp .ge 20, 3) := by decide +kernel
theorem dX5_authority_7 : decode cX5_authority 7 = .ok (.aload_n 0, 1) := by decide +kernel
theorem dX5_authority_8 : decode cX5_authority 8 = .ok (.getfield 7, 3) := by decide +kernel
theorem dX5_authority_11 : decode cX5_authority 11 = .ok (.iload_n 3, 1) := by decide +kernel
theorem dX5_authority_12 : decode cX5_authority 12 = .ok (.iaload, 1) := by decide +kernel
theorem dX5_authority_13 : decode cX5_authority 13 = .ok (.bipush 64, 2) := by decide +kernel
theorem dX5_authority_15 : decode cX5_authority 15 = .ok (.if_icmp .eq 9, 3) := by decide +kernel
theorem dX5_authority_18 : decode cX5_authority 18 = .ok (.iinc 3 1, 3) := by decide +kernel
theorem dX5_authority_21 : decode cX5_authority 21 = .ok (.goto (-19), 3) := by decide +kernel
theorem dX5_authority_24 : decode cX5_authority 24 = .ok (.iload_n 3, 1) := by decide +kernel
theorem dX5_authority_25 : decode cX5_authority 25 = .ok (.iload_n 2, 1) := by decide +kernel
theorem dX5_authority_26 : decode cX5_authority 26 = .ok (.if_icmp .ge 9, 3) := by decide +kernel
theorem dX5_authority_29 : decode cX5_authority 29 = .ok (.iload_n 3, 1) := by decide +kernel
theorem dX5_authority_30 : decode cX5_authority 30 = .ok (.iconst 1, 1) := by decide +kernel
theorem dX5_authority_31 : decode cX5_authority 31 = .ok (.iadd, 1) := by decide +kernel
theorem dX5_authority_32 : decode cX5_authority 32 = .ok (.goto 4, 3) := by decide +kernel
theorem dX5_authority_35 : decode cX5_authority 35 = .ok (.iload_n 1, 1) := by decide +kernel
theorem dX5_authority_36 : decode cX5_authority 36 = .ok (.istore 4, 2) := by decide +kernel
theorem dX5_authority_38 : decode cX5_authority 38 = .ok (.iload 4, 2) := by decide +kernel
theorem dX5_authority_40 : decode cX5_authority 40 = .ok (.istore 5, 2) := by decide +kernel
theorem dX5_authority_42 : decode cX5_authority 42 = .ok (.iload 5, 2) := by decide +kernel
theorem dX5_authority_44 : decode cX5_authority 44 = .ok (.iload_n 2, 1) := by decide +kernel
theorem dX5_authority_45 : decode cX5_authority 45 = .ok (.if_icmp .ge 21, 3) := by decide +kernel
theorem dX5_authority_48 : decode cX5_authority 48 = .ok (.aload_n 0, 1) := by decide +kernel
theorem dX5_authority_49 : decode cX5_authority 49 = .ok (.getfield 7, 3) := by decide +kernel
theorem dX5_authority_52 : decode cX5_authority 52 = .ok (.iload 5, 2) := by decide +kernel
theorem dX5_authority_54 : decode cX5_authority 54 = .ok (.iaload, 1) := by decide +kernel
theorem dX5_authority_55 : decode cX5_authority 55 = .ok (.bipush 58, 2) := by decide +kernel
theorem dX5_authority_57 : decode cX5_authority 57 = .ok (.if_icmp .eq 9, 3) := by decide +kernel
theorem dX5_authority_60 : decode cX5_authority 60 = .ok (.iinc 5 1, 3) := by decide +kernel
theorem dX5_authority_63 : decode cX5_authority 63 = .ok (.goto (-21), 3) := by decide +kernel
theorem dX5_authority_66 : decode cX5_authority 66 = .ok (.aload_n 0, 1) := by decide +kernel
theorem dX5_authority_67 : decode cX5_authority 67 = .ok (.iload 4, 2) := by decide +kernel
theorem dX5_authority_69 : decode cX5_authority 69 = .ok (.iload 5, 2) := by decide +kernel
theorem dX5_authority_71 : decode cX5_authority 71 = .ok (.invokevirtual 133, 3) := by decide +kernel
theorem dX5_authority_74 : decode cX5_authority 74 = .ok (.ifCond .ne 15, 3) := by decide +kernel
theorem dX5_authority_77 : decode cX5_authority 77 = .ok (.aload_n 0, 1) := by decide +kernel
theorem dX5_authority_78 : decode cX5_authority 78 = .ok (.iload 4, 2) := by decide +kernel
theorem dX5_authority_80 : decode cX5_authority 80 = .ok (.iload 5, 2) := by decide +kernel
theorem dX5_authority_82 : decode cX5_authority 82 = .ok (.invokevirtual 136, 3) := by decide +kernel
theorem dX5_authority_85 : decode cX5_authority 85 = .ok (.ifCond .ne 4, 3) := by decide +kernel
theorem dX5_authority_88 : decode cX5_authority 88 = .ok (.return_, 1) := by decide +kernel
theorem dX5_authority_89 : decode cX5_authority 89 = .ok (.lconst 0, 1) := by decide +kernel
theorem dX5_authority_90 : decode cX5_authority 90 = .ok (.lstore 6, 2) := by decide +kernel
theorem dX5_authority_92 : decode cX5_authority 92 = .ok (.iload 5, 2) := by decide +kernel
theorem dX5_authority_94 : decode cX5_authority 94 = .ok (.iconst 1, 1) := by decide +kernel
theorem dX5_authority_95 : decode cX5_authority 95 = .ok (.iadd, 1) := by decide +kernel
theorem dX5_authority_96 : decode cX5_authority 96 = .ok (.istore 8, 2) := by decide +kernel
theorem dX5_authority_98 : decode cX5_authority 98 = .ok (.iload 8, 2) := by decide +kernel
theorem dX5_authority_100 : decode cX5_authority 100 = .ok (.iload_n 2, 1) := by decide +kernel
theorem dX5_authority_101 : decode cX5_authority 101 = .ok (.if_icmp .ge 54, 3) := by decide +kernel
theorem dX5_authority_104 : decode cX5_authority 104 = .ok (.aload_n 0, 1) := by decide +kernel
theorem dX5_authority_105 : decode cX5_authority 105 = .ok (.getfield 7, 3) := by decide +kernel
theorem dX5_authority_108 : decode cX5_authority 108 = .ok (.iload 8, 2) := by decide +kernel
theorem dX5_authority_110 : decode cX5_authority 110 = .ok (.iaload, 1) := by decide +kernel
theorem dX5_authority_111 : decode cX5_authority 111 = .ok (.invokestatic 110, 3) := by decide +kernel
theorem dX5_authority_114 : decode cX5_authority 114 = .ok (.ifCond .ne 4, 3) := by decide +kernel
theorem dX5_authority_117 : decode cX5_authority 117 = .ok (.return_, 1) := by decide +kernel
theorem dX5_authority_118 : decode cX5_authority 118 = .ok (.ldc2_w 139, 3) := by decide +kernel
theorem dX5_authority_121 : decode cX5_authority 121 = .ok (.lload 6, 2) := by decide +kernel
theorem dX5_authority_123 : decode cX5_authority 123 = .ok (.lmul, 1) := by decide +kernel
theorem dX5_authority_124 : decode cX5_authority 124 = .ok (.aload_n 0, 1) := by decide +kernel
theorem dX5_authority_125 : decode cX5_authority 125 = .ok (.getfield 7, 3) := by decide +kernel
theorem dX5_authority_128 : decode cX5_authority 128 = .ok (.iload 8, 2) := by decide +kernel
theorem dX5_authority_130 : decode cX5_authority 130 = .ok (.iaload, 1) := by decide +kernel
theorem dX5_authority_131 : decode cX5_authority 131 = .ok (.i2l, 1) := by decide +kernel
theorem dX5_authority_132 : decode cX5_authority 132 = .ok (.ladd, 1) := by decide +kernel
theorem dX5_authority_133 : decode cX5_authority 133 = .ok (.ldc2_w 141, 3) := by decide +kernel
theorem dX5_authority_136 : decode cX5_authority 136 = .ok (.lsub, 1) := by decide +kernel
theorem dX5_authority_137 : decode cX5_authority 137 = .ok (.lstore 6, 2) := by decide +kernel
theorem dX5_authority_139 : decode cX5_authority 139 = .ok (.lload 6, 2) := by decide +kernel
theorem dX5_authority_141 : decode cX5_authority 141 = .ok (.ldc2_w 143, 3) := by decide +kernel
theorem dX5_authority_144 : decode cX5_authority 144 = .ok (.lcmp, 1) := by decide +kernel
theorem dX5_authority_145 : decode cX5_authority 145 = .ok (.ifCond .le 4, 3) := by decide +kernel
theorem dX5_authority_148 : decode cX5_authority 148 = .ok (.return_, 1) := by decide +kernel
theorem dX5_authority_149 : decode cX5_authority 149 = .ok (.iinc 8 1, 3) := by decide +kernel
theorem dX5_authority_152 : decode cX5_authority 152 = .ok (.goto (-54), 3) := by decide +kernel
theorem dX5_authority_155 : decode cX5_authority 155 = .ok (.iload_n 3, 1) := by decide +kernel
theorem dX5_authority_156 : decode cX5_authority 156 = .ok (.iload_n 2, 1) := by decide +kernel
theorem dX5_authority_157 : decode cX5_authority 157 = .ok (.if_icmp .ge 11, 3) := by decide +kernel
theorem dX5_authority_160 : decode cX5_authority 160 = .ok (.aload_n 0, 1) := by decide +kernel
theorem dX5_authority_161 : decode cX5_authority 161 = .ok (.bipush 117, 2) := by decide +kernel
theorem dX5_authority_163 : decode cX5_authority 163 = .ok (.iload_n 1, 1) := by decide +kernel
theorem dX5_authority_164 : decode cX5_authority 164 = .ok (.iload_n 3, 1) := by decide +kernel
theorem dX5_authority_165 : decode cX5_authority 165 = .ok (.invokevirtual 113, 3) := by decide +kernel
theorem dX5_authority_168 : decode cX5_authority 168 = .ok (.aload_n 0, 1) := by decide +kernel
theorem dX5_authority_169 : decode cX5_authority 169 = .ok (.bipush 104, 2) := by decide +kernel
theorem dX5_authority_171 : decode cX5_authority 171 = .ok (.iload 4, 2) := by decide +kernel
theorem dX5_authority_173 : decode cX5_authority 173 = .ok (.iload 5, 2) := by decide +kernel
theorem dX5_authority_175 : decode cX5_authority 175 = .ok (.invokevirtual 113, 3) := by decide +kernel
theorem dX5_authority_178 : decode cX5_authority 178 = .ok (.iload 5, 2) := by decide +kernel
theorem dX5_authority_180 : decode cX5_authority 180 = .ok (.iconst 1, 1) := by decide +kernel
theorem dX5_authority_181 : decode cX5_authority 181 = .ok (.iadd, 1) := by decide +kernel
theorem dX5_authority_182 : decode cX5_authority 182 = .ok (.iload_n 2, 1) := by decide +kernel
theorem dX5_authority_183 : decode cX5_authority 183 = .ok (.if_icmp .ge 10, 3) := by decide +kernel
theorem dX5_authority_186 : decode cX5_authority 186 = .ok (.aload_n 0, 1) := by decide +kernel
theorem dX5_authority_187 : decode cX5_authority 187 = .ok (.lload 6, 2) := by decide +kernel
theorem dX5_authority_189 : decode cX5_authority 189 = .ok (.l2i, 1) := by decide +kernel
theorem dX5_authority_190 : decode cX5_authority 190 = .ok (.putfield 104, 3) := by decide +kernel
theorem dX5_authority_193 : decode cX5_authority 193 = .ok (.return_, 1) := by decide +kernel
theorem dX5_isNumbers_0 : decode cX5_isNumbers 0 = .ok (.iconst 0, 1) := by decide +kernel
theorem dX5_isNumbers_1 : decode cX5_isNumbers 1 = .ok (.istore_n 3, 1) := by decide +kernel
theorem dX5_isNumbers_2 : decode cX5_isNumbers 2 = .ok (.iconst 0, 1) := by decide +kernel
theorem dX5_isNumbers_3 : decode cX5_isNumbers 3 = .ok (.istore 4, 2) := by decide +kernel
theorem dX5_isNumbers_5 : decode cX5_isNumbers 5 = .ok (.iload_n 1, 1) := by decide +kernel
theorem dX5_isNumbers_6 : decode cX5_isNumbers 6 = .ok (.istore 5, 2) := by decide +kernel
theorem dX5_isNumbers_8 : decode cX5_isNumbers 8 = .ok (.iload 5, 2) := by decide +kernel
theorem dX5_isNumbers_10 : decode cX5_isNumbers 10 = .ok (.iload_n 2, 1) := by decide +kernel
theorem dX5_isNumbers_11 : decode cX5_isNumbers 11 = .ok (.if_icmp .gt 87, 3) := by decide +kernel
theorem dX5_isNumbers_14 : decode cX5_isNumbers 14 = .ok (.iload 5, 2) := by decide +kernel
theorem dX5_isNumbers_16 : decode cX5_isNumbers 16 = .ok (.iload_n 2, 1) := by decide +kernel
theorem dX5_isNumbers_17 : decode cX5_isNumbers 17 = .ok (.if_icmp .ge 44, 3) := by decide +kernel
theorem dX5_isNumbers_20 : decode cX5_isNumbers 20 = .ok (.aload_n 0, 1) := by decide +kernel
theorem dX5_isNumbers_21 : decode cX5_isNumbers 21 = .ok (.getfield 7, 3) := by decide +kernel
theorem dX5_isNumbers_24 : decode cX5_isNumbers 24 = .ok (.iload 5, 2) := by decide +kernel
theorem dX5_isNumbers_26 : decode cX5_isNumbers 26 = .ok (.iaload, 1) := by decide +kernel
theorem dX5_isNumbers_27 : decode cX5_isNumbers 27 = .ok (.invokestatic 110, 3) := by decide +kernel
theorem dX5_isNumbers_30 : decode cX5_isNumbers 30 = .ok (.ifCond .eq 31, 3) := by decide +kernel
theorem dX5_isNumbers_33 : decode cX5_isNumbers 33 = .ok (.bipush 10, 2) := by decide +kernel
theorem dX5_isNumbers_35 : decode cX5_isNumbers 35 = .ok (.iload 4, 2) := by decide +kernel
theorem dX5_isNumbers_37 : decode cX5_isNumbers 37 = .ok (.imul, 1) := by decide +kernel
theorem dX5_isNumbers_38 : decode cX5_isNumbers 38 = .ok (.aload_n 0, 1) := by decide +kernel
theorem dX5_isNumbers_39 : decode cX5_isNumbers 39 = .ok (.getfield 7, 3) := by decide +kernel
theorem dX5_isNumbers_42 : decode cX5_isNumbers 42 = .ok (.iload 5, 2) := by decide +kernel
theorem dX5_isNumbers_44 : decode cX5_isNumbers 44 = .ok (.iaload, 1) := by decide +kernel
theorem dX5_isNumbers_45 : decode cX5_isNumbers 45 = .ok (.iadd, 1) := by decide +kernel
theorem dX5_isNumbers_46 : decode cX5_isNumbers 46 = .ok (.bipush 48, 2) := by decide +kernel
theorem dX5_isNumbers_48 : decode cX5_isNumbers 48 = .ok (.isub, 1) := by decide +kernel
theorem dX5_isNumbers_49 : decode cX5_isNumbers 49 = .ok (.istore 4, 2) := by decide +kernel
theorem dX5_isNumbers_51 : decode cX5_isNumbers 51 = .ok (.iload 4, 2) := by decide +kernel
theorem dX5_isNumbers_53 : decode cX5_isNumbers 53 = .ok (.sipush 255, 3) := by decide +kernel
theorem dX5_isNumbers_56 : decode cX5_isNumbers 56 = .ok (.if_icmp .le 36, 3) := by decide +kernel
theorem dX5_isNumbers_59 : decode cX5_isNumbers 59 = .ok (.iconst 0, 1) := by decide +kernel
theorem dX5_isNumbers_60 : decode cX5_isNumbers 60 = .ok (.ireturn, 1) := by decide +kernel
theorem dX5_isNumbers_61 : decode cX5_isNumbers 61 = .ok (.iload 5, 2) := by decide +kernel
theorem dX5_isNumbers_63 : decode cX5_isNumbers 63 = .ok (.iload_n 2, 1) := by decide +kernel
theorem dX5_isNumbers_64 : decode cX5_isNumbers 64 = .ok (.if_icmp .ge 15, 3) := by decide +kernel
theorem dX5_isNumbers_67 : decode cX5_isNumbers 67 = .ok (.aload_n 0, 1) := by decide +kernel
theorem dX5_isNumbers_68 : decode cX5_isNumbers 68 = .ok (.getfield 7, 3) := by decide +kernel
theorem dX5_isNumbers_71 : decode cX5_isNumbers 71 = .ok (.iload 5, 2) := by decide +kernel
theorem dX5_isNumbers_73 : decode cX5_isNumbers 73 = .ok (.iaload, 1) := by decide +kernel
theorem dX5_isNumbers_74 : decode cX5_isNumbers 74 = .ok (.bipush 46, 2) := by decide +kernel
theorem dX5_isNumbers_76 : decode cX5_isNumbers 76 = .ok (.if_icmp .ne 8, 3) := by decide +kernel
theorem dX5_isNumbers_79 : decode cX5_isNumbers 79 = .ok (.iload 4, 2) := by decide +kernel
theorem dX5_isNumbers_81 : decode cX5_isNumbers 81 = .ok (.ifCond .ne 5, 3) := by decide +kernel
theorem dX5_isNumbers_84 : decode cX5_isNumbers 84 = .ok (.iconst 0, 1) := by decide +kernel
theorem dX5_isNumbers_85 : decode cX5_isNumbers 85 = .ok (.ireturn, 1) := by decide +kernel
theorem dX5_isNumbers_86 : decode cX5_isNumbers 86 = .ok (.iconst 0, 1) := by decide +kernel
theorem dX5_isNumbers_87 : decode cX5_isNumbers 87 = .ok (.istore 4, 2) := by decide +kernel
theorem dX5_isNumbers_89 : decode cX5_isNumbers 89 = .ok (.iinc 3 1, 3) := by decide +kernel
theorem dX5_isNumbers_92 : decode cX5_isNumbers 92 = .ok (.iinc 5 1, 3) := by decide +kernel
theorem dX5_isNumbers_95 : decode cX5_isNumbers 95 = .ok (.goto (-87), 3) := by decide +kernel
theorem dX5_isNumbers_98 : decode cX5_isNumbers 98 = .ok (.iload_n 3, 1) := by decide +kernel
theorem dX5_isNumbers_99 : decode cX5_isNumbers 99 = .ok (.iconst 4, 1) := by decide +kernel
theorem dX5_isNumbers_100 : decode cX5_isNumbers 100 = .ok (.if_icmp .ne 7, 3) := by decide +kernel
theorem dX5_isNumbers_103 : decode cX5_isNumbers 103 = .ok (.iconst 1, 1) := by decide +kernel
theorem dX5_isNumbers_104 : decode cX5_isNumbers 104 = .ok (.goto 4, 3) := by decide +kernel
theorem dX5_isNumbers_107 : decode cX5_isNumbers 107 = .ok (.iconst 0, 1) := by decide +kernel
theorem dX5_isNumbers_108 : decode cX5_isNumbers 108 = .ok (.ireturn, 1) := by decide +kernel
theorem dX5_isLabels_0 : decode cX5_isLabels 0 = .ok (.iload_n 2, 1) := by decide +kernel
theorem dX5_isLabels_1 : decode cX5_isLabels 1 = .ok (.iload_n 1, 1) := by decide +kernel
theorem dX5_isLabels_2 : decode cX5_isLabels 2 = .ok (.if_icmp .le 22, 3) := by decide +kernel
theorem dX5_isLabels_5 : decode cX5_isLabels 5 = .ok (.aload_n 0, 1) := by decide +kernel
theorem dX5_isLabels_6 : decode cX5_isLabels 6 = .ok (.getfield 7, 3) := by decide +kernel
theorem dX5_isLabels_9 : decode cX5_isLabels 9 = .ok (.iload_n 2, 1) := by decide +kernel
theorem dX5_isLabels_10 : decode cX5_isLabels 10 = .ok (.iconst 1, 1) := by decide +kernel
theorem dX5_isLabels_11 : decode cX5_isLabels 11 = .ok (.isub, 1) := by decide +kernel
theorem dX5_isLabels_12 : decode cX5_isLabels 12 = .ok (.iaload, 1) := by decide +kernel
theorem dX5_isLabels_13 : decode cX5_isLabels 13 = .ok (.bipush 46, 2) := by decide +kernel
theorem dX5_isLabels_15 : decode cX5_isLabels 15 = .ok (.if_icmp .ne 9, 3) := by decide +kernel
theorem dX5_isLabels_18 : decode cX5_isLabels 18 = .ok (.iload_n 2, 1) := by decide +kernel
theorem dX5_isLabels_19 : decode cX5_isLabels 19 = .ok (.iconst 1, 1) := by decide +kernel
theorem dX5_isLabels_20 : decode cX5_isLabels 20 = .ok (.isub, 1) := by decide +kernel
theorem dX5_isLabels_21 : decode cX5_isLabels 21 = .ok (.goto 4, 3) := by decide +kernel
theorem dX5_isLabels_24 : decode cX5_isLabels 24 = .ok (.iload_n 2, 1) := by decide +kernel
theorem dX5_isLabels_25 : decode cX5_isLabels 25 = .ok (.istore_n 3, 1) := by decide +kernel
theorem dX5_isLabels_26 : decode cX5_isLabels 26 = .ok (.iload_n 1, 1) := by decide +kernel
theorem dX5_isLabels_27 : decode cX5_isLabels 27 = .ok (.istore 4, 2) := by decide +kernel
theorem dX5_isLabels_29 : decode cX5_isLabels 29 = .ok (.iconst 0, 1) := by decide +kernel
theorem dX5_isLabels_30 : decode cX5_isLabels 30 = .ok (.istore 5, 2) := by decide +kernel
theorem dX5_isLabels_32 : decode cX5_isLabels 32 = .ok (.iload_n 1, 1) := by decide +kernel
theorem dX5_isLabels_33 : decode cX5_isLabels 33 = .ok (.istore 6, 2) := by decide +kernel
theorem dX5_isLabels_35 : decode cX5_isLabels 35 = .ok (.iload 6, 2) := by decide +kernel
theorem dX5_isLabels_37 : decode cX5_isLabels 37 = .ok (.iload_n 3, 1) := by decide +kernel
theorem dX5_isLabels_38 : decode cX5_isLabels 38 = .ok (.if_icmp .gt 138, 3) := by decide +kernel
theorem dX5_isLabels_41 : decode cX5_isLabels 41 = .ok (.iload 6, 2) := by decide +kernel
theorem dX5_isLabels_43 : decode cX5_isLabels 43 = .ok (.iload_n 3, 1) := by decide +kernel
theorem dX5_isLabels_44 : decode cX5_isLabels 44 = .ok (.if_icmp .ge 55, 3) := by decide +kernel
theorem dX5_isLabels_47 : decode cX5_isLabels 47 = .ok (.aload_n 0, 1) := by decide +kernel
theorem dX5_isLabels_48 : decode cX5_isLabels 48 = .ok (.getfield 7, 3) := by decide +kernel
theorem dX5_isLabels_51 : decode cX5_isLabels 51 = .ok (.iload 6, 2) := by decide +kernel
theorem dX5_isLabels_53 : decode cX5_isLabels 53 = .ok (.iaload, 1) := by decide +kernel
theorem dX5_isLabels_54 : decode cX5_isLabels 54 = .ok (.bipush 46, 2) := by decide +kernel
theorem dX5_isLabels_56 : decode cX5_isLabels 56 = .ok (.if_icmp .eq 43, 3) := by decide +kernel
theorem dX5_isLabels_59 : decode cX5_isLabels 59 = .ok (.aload_n 0, 1) := by decide +kernel
theorem dX5_isLabels_60 : decode cX5_isLabels 60 = .ok (.getfield 7, 3) := by decide +kernel
theorem dX5_isLabels_63 : decode cX5_isLabels 63 = .ok (.iload 6, 2) := by decide +kernel
theorem dX5_isLabels_65 : decode cX5_isLabels 65 = .ok (.iaload, 1) := by decide +kernel
theorem dX5_isLabels_66 : decode cX5_isLabels 66 = .ok (.invokestatic 107, 3) := by decide +kernel
theorem dX5_isLabels_69 : decode cX5_isLabels 69 = .ok (.ifCond .ne 101, 3) := by decide +kernel
theorem dX5_isLabels_72 : decode cX5_isLabels 72 = .ok (.aload_n 0, 1) := by decide +kernel
theorem dX5_isLabels_73 : decode cX5_isLabels 73 = .ok (.getfield 7, 3) := by decide +kernel
theorem dX5_isLabels_76 : decode cX5_isLabels 76 = .ok (.iload 6, 2) := by decide +kernel
theorem dX5_isLabels_78 : decode cX5_isLabels 78 = .ok (.iaload, 1) := by decide +kernel
theorem dX5_isLabels_79 : decode cX5_isLabels 79 = .ok (.invokestatic 110, 3) := by decide +kernel
theorem dX5_isLabels_82 : decode cX5_isLabels 82 = .ok (.ifCond .ne 88, 3) := by decide +kernel
theorem dX5_isLabels_85 : decode cX5_isLabels 85 = .ok (.aload_n 0, 1) := by decide +kernel
theorem dX5_isLabels_86 : decode cX5_isLabels 86 = .ok (.getfield 7, 3) := by decide +kernel
theorem dX5_isLabels_89 : decode cX5_isLabels 89 = .ok (.iload 6, 2) := by decide +kernel
theorem dX5_isLabels_91 : decode cX5_isLabels 91 = .ok (.iaload, 1) := by decide +kernel
theorem dX5_isLabels_92 : decode cX5_isLabels 92 = .ok (.bipush 45, 2) := by decide +kernel
theorem dX5_isLabels_94 : decode cX5_isLabels 94 = .ok (.if_icmp .eq 76, 3) := by decide +kernel
theorem dX5_isLabels_97 : decode cX5_isLabels 97 = .ok (.iconst 0, 1) := by decide +kernel
theorem dX5_isLabels_98 : decode cX5_isLabels 98 = .ok (.ireturn, 1) := by decide +kernel
theorem dX5_isLabels_99 : decode cX5_isLabels 99 = .ok (.iload 6, 2) := by decide +kernel
theorem dX5_isLabels_101 : decode cX5_isLabels 101 = .ok (.iload 4, 2) := by decide +kernel
theorem dX5_isLabels_103 : decode cX5_isLabels 103 = .ok (.if_icmp .eq 29, 3) := by decide +kernel
theorem dX5_isLabels_106 : decode cX5_isLabels 106 = .ok (.aload_n 0, 1) := by decide +kernel
theorem dX5_isLabels_107 : decode cX5_isLabels 107 = .ok (.getfield 7, 3) := by decide +kernel
theorem dX5_isLabels_110 : decode cX5_isLabels 110 = .ok (.iload 4, 2) := by decide +kernel
theorem dX5_isLabels_112 : decode cX5_isLabels 112 = .ok (.iaload, 1) := by decide +kernel
theorem dX5_isLabels_113 : decode cX5_isLabels 113 = .ok (.bipush 45, 2) := by decide +kernel
theorem dX5_isLabels_115 : decode cX5_isLabels 115 = .ok (.if_icmp .eq 17, 3) := by decide +kernel
theorem dX5_isLabels_118 : decode cX5_isLabels 118 = .ok (.aload_n 0, 1) := by decide +kernel
theorem dX5_isLabels_119 : decode cX5_isLabels 119 = .ok (.getfield 7, 3) := by decide +kernel
theorem dX5_isLabels_122 : decode cX5_isLabels 122 = .ok (.iload 6, 2) := by decide +kernel
theorem dX5_isLabels_124 : decode cX5_isLabels 124 = .ok (.iconst 1, 1) := by decide +kernel
theorem dX5_isLabels_125 : decode cX5_isLabels 125 = .ok (.isub, 1) := by decide +kernel
theorem dX5_isLabels_126 : decode cX5_isLabels 126 = .ok (.iaload, 1) := by decide +kernel
theorem dX5_isLabels_127 : decode cX5_isLabels 127 = .ok (.bipush 45, 2) := by decide +kernel
theorem dX5_isLabels_129 : decode cX5_isLabels 129 = .ok (.if_icmp .ne 5, 3) := by decide +kernel
theorem dX5_isLabels_132 : decode cX5_isLabels 132 = .ok (.iconst 0, 1) := by decide +kernel
theorem dX5_isLabels_133 : decode cX5_isLabels 133 = .ok (.ireturn, 1) := by decide +kernel
theorem dX5_isLabels_134 : decode cX5_isLabels 134 = .ok (.iinc 5 1, 3) := by decide +kernel
theorem dX5_isLabels_137 : decode cX5_isLabels 137 = .ok (.iload 6, 2) := by decide +kernel
theorem dX5_isLabels_139 : decode cX5_isLabels 139 = .ok (.iload_n 3, 1) := by decide +kernel
theorem dX5_isLabels_140 : decode cX5_isLabels 140 = .ok (.if_icmp .ne 24, 3) := by decide +kernel
theorem dX5_isLabels_143 : decode cX5_isLabels 143 = .ok (.iload 5, 2) := by decide +kernel
theorem dX5_isLabels_145 : decode cX5_isLabels 145 = .ok (.iconst 1, 1) := by decide +kernel
theorem dX5_isLabels_146 : decode cX5_isLabels 146 = .ok (.if_icmp .le 18, 3) := by decide +kernel
theorem dX5_isLabels_149 : decode cX5_isLabels 149 = .ok (.aload_n 0, 1) := by decide +kernel
theorem dX5_isLabels_150 : decode cX5_isLabels 150 = .ok (.getfield 7, 3) := by decide +kernel
theorem dX5_isLabels_153 : decode cX5_isLabels 153 = .ok (.iload 4, 2) := by decide +kernel
theorem dX5_isLabels_155 : decode cX5_isLabels 155 = .ok (.iaload, 1) := by decide +kernel
theorem dX5_isLabels_156 : decode cX5_isLabels 156 = .ok (.invokestatic 107, 3) := by decide +kernel
theorem dX5_isLabels_159 : decode cX5_isLabels 159 = .ok (.ifCond .ne 5, 3) := by decide +kernel
theorem dX5_isLabels_162 : decode cX5_isLabels 162 = .ok (.iconst 0, 1) := by decide +kernel
theorem dX5_isLabels_163 : decode cX5_isLabels 163 = .ok (.ireturn, 1) := by decide +kernel
theorem dX5_isLabels_164 : decode cX5_isLabels 164 = .ok (.iload 6, 2) := by decide +kernel
theorem dX5_isLabels_166 : decode cX5_isLabels 166 = .ok (.iconst 1, 1) := by decide +kernel
theorem dX5_isLabels_167 : decode cX5_isLabels 167 = .ok (.iadd, 1) := by decide +kernel
theorem dX5_isLabels_168 : decode cX5_isLabels 168 = .ok (.istore 4, 2) := by decide +kernel
theorem dX5_isLabels_170 : decode cX5_isLabels 170 = .ok (.iinc 6 1, 3) := by decide +kernel
theorem dX5_isLabels_173 : decode cX5_isLabels 173 = .ok (.goto (-138), 3) := by decide +kernel
theorem dX5_isLabels_176 : decode cX5_isLabels 176 = .ok (.iconst 1, 1) := by decide +kernel
theorem dX5_isLabels_177 : decode cX5_isLabels 177 = .ok (.ireturn, 1) := by decide +kernel
theorem dX5_noSlot_0 : decode cX5_noSlot 0 = .ok (.iload_n 1, 1) := by decide +kernel
theorem dX5_noSlot_1 : decode cX5_noSlot 1 = .ok (.invokestatic 145, 3) := by decide +kernel
theorem dX5_noSlot_4 : decode cX5_noSlot 4 = .ok (.ifCond .ne 7, 3) := by decide +kernel
theorem dX5_noSlot_7 : decode cX5_noSlot 7 = .ok (.iconst 1, 1) := by decide +kernel
theorem dX5_noSlot_8 : decode cX5_noSlot 8 = .ok (.goto 17, 3) := by decide +kernel
theorem dX5_noSlot_11 : decode cX5_noSlot 11 = .ok (.aload_n 0, 1) := by decide +kernel
theorem dX5_noSlot_12 : decode cX5_noSlot 12 = .ok (.getfield 19, 3) := by decide +kernel
theorem dX5_noSlot_15 : decode cX5_noSlot 15 = .ok (.iload_n 1, 1) := by decide +kernel
theorem dX5_noSlot_16 : decode cX5_noSlot 16 = .ok (.iaload, 1) := by decide +kernel
theorem dX5_noSlot_17 : decode cX5_noSlot 17 = .ok (.ifCond .ge 7, 3) := by decide +kernel
theorem dX5_noSlot_20 : decode cX5_noSlot 20 = .ok (.iconst 2, 1) := by decide +kernel
theorem dX5_noSlot_21 : decode cX5_noSlot 21 = .ok (.goto 4, 3) := by decide +kernel
theorem dX5_noSlot_24 : decode cX5_noSlot 24 = .ok (.iconst 0, 1) := by decide +kernel
theorem dX5_noSlot_25 : decode cX5_noSlot 25 = .ok (.ireturn, 1) := by decide +kernel
theorem dX5_parse_0 : decode cX5_parse 0 = .ok (.aload_n 0, 1) := by decide +kernel
theorem dX5_parse_1 : decode cX5_parse 1 = .ok (.invokevirtual 122, 3) := by decide +kernel
theorem dX5_parse_4 : decode cX5_parse 4 = .ok (.ifCond .lt 28, 3) := by decide +kernel
theorem dX5_parse_7 : decode cX5_parse 7 = .ok (.aload_n 0, 1) := by decide +kernel
theorem dX5_parse_8 : decode cX5_parse 8 = .ok (.aload_n 0, 1) := by decide +kernel
theorem dX5_parse_9 : decode cX5_parse 9 = .ok (.invokevirtual 122, 3) := by decide +kernel
theorem dX5_parse_12 : decode cX5_parse 12 = .ok (.aload_n 0, 1) := by decide +kernel
theorem dX5_parse_13 : decode cX5_parse 13 = .ok (.aload_n 0, 1) := by decide +kernel
theorem dX5_parse_14 : decode cX5_parse 14 = .ok (.invokevirtual 122, 3) := by decide +kernel
theorem dX5_parse_17 : decode cX5_parse 17 = .ok (.ldc 125, 2) := by decide +kernel
theorem dX5_parse_19 : decode cX5_parse 19 = .ok (.invokevirtual 85, 3) := by decide +kernel
theorem dX5_parse_22 : decode cX5_parse 22 = .ok (.invokevirtual 119, 3) := by decide +kernel
theorem dX5_parse_25 : decode cX5_parse 25 = .ok (.ifCond .lt 7, 3) := by decide +kernel
theorem dX5_parse_28 : decode cX5_parse 28 = .ok (.iconst 1, 1) := by decide +kernel
theorem dX5_parse_29 : decode cX5_parse 29 = .ok (.goto 4, 3) := by decide +kernel
theorem dX5_parse_32 : decode cX5_parse 32 = .ok (.iconst 0, 1) := by decide +kernel
theorem dX5_parse_33 : decode cX5_parse 33 = .ok (.istore_n 2, 1) := by decide +kernel
theorem dX5_parse_34 : decode cX5_parse 34 = .ok (.aload_n 0, 1) := by decide +kernel
theorem dX5_parse_35 : decode cX5_parse 35 = .ok (.iload_n 1, 1) := by decide +kernel
theorem dX5_parse_36 : decode cX5_parse 36 = .ok (.invokestatic 145, 3) := by decide +kernel
theorem dX5_parse_39 : decode cX5_parse 39 = .ok (.ifCond .ne 7, 3) := by decide +kernel
theorem dX5_parse_42 : decode cX5_parse 42 = .ok (.iconst 1, 1) := by decide +kernel
theorem dX5_parse_43 : decode cX5_parse 43 = .ok (.goto 12, 3) := by decide +kernel
theorem dX5_parse_46 : decode cX5_parse 46 = .ok (.iload_n 2, 1) := by decide +kernel
theorem dX5_parse_47 : decode cX5_parse 47 = .ok (.ifCond .eq 7, 3) := by decide +kernel
theorem dX5_parse_50 : decode cX5_parse 50 = .ok (.iconst 2, 1) := by decide +kernel
theorem dX5_parse_51 : decode cX5_parse 51 = .ok (.goto 4, 3) := by decide +kernel
theorem dX5_parse_54 : decode cX5_parse 54 = .ok (.iconst 0, 1) := by decide +kernel
theorem dX5_parse_55 : decode cX5_parse 55 = .ok (.invokevirtual 63, 3) := by decide +kernel
theorem dX5_parse_58 : decode cX5_parse 58 = .ok (.ifCond .eq 5, 3) := by decide +kernel
theorem dX5_parse_61 : decode cX5_parse 61 = .ok (.iconst 0, 1) := by decide +kernel
theorem dX5_parse_62 : decode cX5_parse 62 = .ok (.ireturn, 1) := by decide +kernel
theorem dX5_parse_63 : decode cX5_parse 63 = .ok (.aload_n 0, 1) := by decide +kernel
theorem dX5_parse_64 : decode cX5_parse 64 = .ok (.invokevirtual 148, 3) := by decide +kernel
theorem dX5_parse_67 : decode cX5_parse 67 = .ok (.istore_n 3, 1) := by decide +kernel
theorem dX5_parse_68 : decode cX5_parse 68 = .ok (.iload_n 3, 1) := by decide +kernel
theorem dX5_parse_69 : decode cX5_parse 69 = .ok (.ifCond .lt 20, 3) := by decide +kernel
theorem dX5_parse_72 : decode cX5_parse 72 = .ok (.aload_n 0, 1) := by decide +kernel
theorem dX5_parse_73 : decode cX5_parse 73 = .ok (.dup, 1) := by decide +kernel
theorem dX5_parse_74 : decode cX5_parse 74 = .ok (.getfield 151, 3) := by decide +kernel
theorem dX5_parse_77 : decode cX5_parse 77 = .ok (.iconst 1, 1) := by decide +kernel
theorem dX5_parse_78 : decode cX5_parse 78 = .ok (.iadd, 1) := by decide +kernel
theorem dX5_parse_79 : decode cX5_parse 79 = .ok (.putfield 151, 3) := by decide +kernel
theorem dX5_parse_82 : decode cX5_parse 82 = .ok (.aload_n 0, 1) := by decide +kernel
theorem dX5_parse_83 : decode cX5_parse 83 = .ok (.iload_n 3, 1) := by decide +kernel
theorem dX5_parse_84 : decode cX5_parse 84 = .ok (.putfield 154, 3) := by decide +kernel
theorem dX5_parse_87 : decode cX5_parse 87 = .ok (.iload_n 3, 1) := by decide +kernel
theorem dX5_parse_88 : decode cX5_parse 88 = .ok (.ireturn, 1) := by decide +kernel
theorem dX5_parse_89 : decode cX5_parse 89 = .ok (.aload_n 0, 1) := by decide +kernel
theorem dX5_parse_90 : decode cX5_parse 90 = .ok (.getfield 19, 3) := by decide +kernel
theorem dX5_parse_93 : decode cX5_parse 93 = .ok (.iload_n 1, 1) := by decide +kernel
theorem dX5_parse_94 : decode cX5_parse 94 = .ok (.aload_n 0, 1) := by decide +kernel
theorem dX5_parse_95 : decode cX5_parse 95 = .ok (.getfield 53, 3) := by decide +kernel
theorem dX5_parse_98 : decode cX5_parse 98 = .ok (.iastore, 1) := by decide +kernel
theorem dX5_parse_99 : decode cX5_parse 99 = .ok (.iconst 0, 1) := by decide +kernel
theorem dX5_parse_100 : decode cX5_parse 100 = .ok (.istore 4, 2) := by decide +kernel
theorem dX5_parse_102 : decode cX5_parse 102 = .ok (.iload 4, 2) := by decide +kernel
theorem dX5_parse_104 : decode cX5_parse 104 = .ok (.aload_n 0, 1) := by decide +kernel
theorem dX5_parse_105 : decode cX5_parse 105 = .ok (.getfield 53, 3) := by decide +kernel
theorem dX5_parse_108 : decode cX5_parse 108 = .ok (.if_icmp .ge 28, 3) := by decide +kernel
theorem dX5_parse_111 : decode cX5_parse 111 = .ok (.aload_n 0, 1) := by decide +kernel
theorem dX5_parse_112 : decode cX5_parse 112 = .ok (.getfield 16, 3) := by decide +kernel
theorem dX5_parse_115 : decode cX5_parse 115 = .ok (.bipush 60, 2) := by decide +kernel
theorem dX5_parse_117 : decode cX5_parse 117 = .ok (.iload_n 1, 1) := by decide +kernel
theorem dX5_parse_118 : decode cX5_parse 118 = .ok (.imul, 1) := by decide +kernel
theorem dX5_parse_119 : decode cX5_parse 119 = .ok (.iload 4, 2) := by decide +kernel
theorem dX5_parse_121 : decode cX5_parse 121 = .ok (.iadd, 1) := by decide +kernel
theorem dX5_parse_122 : decode cX5_parse 122 = .ok (.aload_n 0, 1) := by decide +kernel
theorem dX5_parse_123 : decode cX5_parse 123 = .ok (.getfield 7, 3) := by decide +kernel
theorem dX5_parse_126 : decode cX5_parse 126 = .ok (.iload 4, 2) := by decide +kernel
theorem dX5_parse_128 : decode cX5_parse 128 = .ok (.iaload, 1) := by decide +kernel
theorem dX5_parse_129 : decode cX5_parse 129 = .ok (.iastore, 1) := by decide +kernel
theorem dX5_parse_130 : decode cX5_parse 130 = .ok (.iinc 4 1, 3) := by decide +kernel
theorem dX5_parse_133 : decode cX5_parse 133 = .ok (.goto (-31), 3) := by decide +kernel
theorem dX5_parse_136 : decode cX5_parse 136 = .ok (.iconst 0, 1) := by decide +kernel
theorem dX5_parse_137 : decode cX5_parse 137 = .ok (.istore 4, 2) := by decide +kernel
theorem dX5_parse_139 : decode cX5_parse 139 = .ok (.iload 4, 2) := by decide +kernel
theorem dX5_parse_141 : decode cX5_parse 141 = .ok (.bipush 9, 2) := by decide +kernel
theorem dX5_parse_143 : decode cX5_parse 143 = .ok (.if_icmp .ge 47, 3) := by decide +kernel
theorem dX5_parse_146 : decode cX5_parse 146 = .ok (.aload_n 0, 1) := by decide +kernel
theorem dX5_parse_147 : decode cX5_parse 147 = .ok (.getfield 22, 3) := by decide +kernel
theorem dX5_parse_150 : decode cX5_parse 150 = .ok (.bipush 9, 2) := by decide +kernel
theorem dX5_parse_152 : decode cX5_parse 152 = .ok (.iload_n 1, 1) := by decide +kernel
theorem dX5_parse_153 : decode cX5_parse 153 = .ok (.imul, 1) := by decide +kernel
theorem dX5_parse_154 : decode cX5_parse 154 = .ok (.iload 4, 2) := by decide +kernel
theorem dX5_parse_156 : decode cX5_parse 156 = .ok (.iadd, 1) := by decide +kernel
theorem dX5_parse_157 : decode cX5_parse 157 = .ok (.aload_n 0, 1) := by decide +kernel
theorem dX5_parse_158 : decode cX5_parse 158 = .ok (.getfield 31, 3) := by decide +kernel
theorem dX5_parse_161 : decode cX5_parse 161 = .ok (.iload 4, 2) := by decide +kernel
theorem dX5_parse_163 : decode cX5_parse 163 = .ok (.iaload, 1) := by decide +kernel
theorem dX5_parse_164 : decode cX5_parse 164 = .ok (.iastore, 1) := by decide +kernel
theorem dX5_parse_165 : decode cX5_parse 165 = .ok (.aload_n 0, 1) := by decide +kernel
theorem dX5_parse_166 : decode cX5_parse 166 = .ok (.getfield 25, 3) := by decide +kernel
theorem dX5_parse_169 : decode cX5_parse 169 = .ok (.bipush 9, 2) := by decide +kernel
theorem dX5_parse_171 : decode cX5_parse 171 = .ok (.iload_n 1, 1) := by decide +kernel
theorem dX5_parse_172 : decode cX5_parse 172 = .ok (.imul, 1) := by decide +kernel
theorem dX5_parse_173 : decode cX5_parse 173 = .ok (.iload 4, 2) := by decide +kernel
theorem dX5_parse_175 : decode cX5_parse 175 = .ok (.iadd, 1) := by decide +kernel
theorem dX5_parse_176 : decode cX5_parse 176 = .ok (.aload_n 0, 1) := by decide +kernel
theorem dX5_parse_177 : decode cX5_parse 177 = .ok (.getfield 34, 3) := by decide +kernel
theorem dX5_parse_180 : decode cX5_parse 180 = .ok (.iload 4, 2) := by decide +kernel
theorem dX5_parse_182 : decode cX5_parse 182 = .ok (.iaload, 1) := by decide +kernel
theorem dX5_parse_183 : decode cX5_parse 183 = .ok (.iastore, 1) := by decide +kernel
theorem dX5_parse_184 : decode cX5_parse 184 = .ok (.iinc 4 1, 3) := by decide +kernel
theorem dX5_parse_187 : decode cX5_parse 187 = .ok (.goto (-48), 3) := by decide +kernel
theorem dX5_parse_190 : decode cX5_parse 190 = .ok (.aload_n 0, 1) := by decide +kernel
theorem dX5_parse_191 : decode cX5_parse 191 = .ok (.getfield 28, 3) := by decide +kernel
theorem dX5_parse_194 : decode cX5_parse 194 = .ok (.iload_n 1, 1) := by decide +kernel
theorem dX5_parse_195 : decode cX5_parse 195 = .ok (.aload_n 0, 1) := by decide +kernel
theorem dX5_parse_196 : decode cX5_parse 196 = .ok (.getfield 104, 3) := by decide +kernel
theorem dX5_parse_199 : decode cX5_parse 199 = .ok (.iastore, 1) := by decide +kernel
theorem dX5_parse_200 : decode cX5_parse 200 = .ok (.iconst (-1), 1) := by decide +kernel
theorem dX5_parse_201 : decode cX5_parse 201 = .ok (.ireturn, 1) := by decide +kernel
theorem dX5_refusals_0 : decode cX5_refusals 0 = .ok (.aload_n 0, 1) := by decide +kernel
theorem dX5_refusals_1 : decode cX5_refusals 1 = .ok (.iconst 0, 1) := by decide +kernel
theorem dX5_refusals_2 : decode cX5_refusals 2 = .ok (.putfield 37, 3) := by decide +kernel
theorem dX5_refusals_5 : decode cX5_refusals 5 = .ok (.aload_n 0, 1) := by decide +kernel
theorem dX5_refusals_6 : decode cX5_refusals 6 = .ok (.getfield 151, 3) := by decide +kernel
theorem dX5_refusals_9 : decode cX5_refusals 9 = .ok (.ireturn, 1) := by decide +kernel
theorem dX5_refusedAt_0 : decode cX5_refusedAt 0 = .ok (.aload_n 0, 1) := by decide +kernel
theorem dX5_refusedAt_1 : decode cX5_refusedAt 1 = .ok (.aload_n 0, 1) := by decide +kernel
theorem dX5_refusedAt_2 : decode cX5_refusedAt 2 = .ok (.getfield 151, 3) := by decide +kernel
theorem dX5_refusedAt_5 : decode cX5_refusedAt 5 = .ok (.ifCond .ne 7, 3) := by decide +kernel
theorem dX5_refusedAt_8 : decode cX5_refusedAt 8 = .ok (.iconst 1, 1) := by decide +kernel
theorem dX5_refusedAt_9 : decode cX5_refusedAt 9 = .ok (.goto 4, 3) := by decide +kernel
theorem dX5_refusedAt_12 : decode cX5_refusedAt 12 = .ok (.iconst 0, 1) := by decide +kernel
theorem dX5_refusedAt_13 : decode cX5_refusedAt 13 = .ok (.invokevirtual 63, 3) := by decide +kernel
theorem dX5_refusedAt_16 : decode cX5_refusedAt 16 = .ok (.ifCond .eq 7, 3) := by decide +kernel
theorem dX5_refusedAt_19 : decode cX5_refusedAt 19 = .ok (.iconst 0, 1) := by decide +kernel
theorem dX5_refusedAt_20 : decode cX5_refusedAt 20 = .ok (.goto 7, 3) := by decide +kernel
theorem dX5_refusedAt_23 : decode cX5_refusedAt 23 = .ok (.aload_n 0, 1) := by decide +kernel
theorem dX5_refusedAt_24 : decode cX5_refusedAt 24 = .ok (.getfield 154, 3) := by decide +kernel
theorem dX5_refusedAt_27 : decode cX5_refusedAt 27 = .ok (.ireturn, 1) := by decide +kernel
theorem dX5_isTold_0 : decode cX5_isTold 0 = .ok (.aload_n 0, 1) := by decide +kernel
theorem dX5_isTold_1 : decode cX5_isTold 1 = .ok (.aload_n 0, 1) := by decide +kernel
theorem dX5_isTold_2 : decode cX5_isTold 2 = .ok (.getfield 151, 3) := by decide +kernel
theorem dX5_isTold_5 : decode cX5_isTold 5 = .ok (.ifCond .ne 7, 3) := by decide +kernel
theorem dX5_isTold_8 : decode cX5_isTold 8 = .ok (.iconst 1, 1) := by decide +kernel
theorem dX5_isTold_9 : decode cX5_isTold 9 = .ok (.goto 4, 3) := by decide +kernel
theorem dX5_isTold_12 : decode cX5_isTold 12 = .ok (.iconst 0, 1) := by decide +kernel
theorem dX5_isTold_13 : decode cX5_isTold 13 = .ok (.invokevirtual 63, 3) := by decide +kernel
theorem dX5_isTold_16 : decode cX5_isTold 16 = .ok (.ifCond .ne 7, 3) := by decide +kernel
theorem dX5_isTold_19 : decode cX5_isTold 19 = .ok (.iconst 1, 1) := by decide +kernel
theorem dX5_isTold_20 : decode cX5_isTold 20 = .ok (.goto 4, 3) := by decide +kernel
theorem dX5_isTold_23 : decode cX5_isTold 23 = .ok (.iconst 0, 1) := by decide +kernel
theorem dX5_isTold_24 : decode cX5_isTold 24 = .ok (.ireturn, 1) := by decide +kernel
theorem dX5_isThere_0 : decode cX5_isThere 0 = .ok (.aload_n 0, 1) := by decide +kernel
theorem dX5_isThere_1 : decode cX5_isThere 1 = .ok (.iload_n 1, 1) := by decide +kernel
theorem dX5_isThere_2 : decode cX5_isThere 2 = .ok (.invokestatic 145, 3) := by decide +kernel
theorem dX5_isThere_5 : decode cX5_isThere 5 = .ok (.ifCond .eq 7, 3) := by decide +kernel
theorem dX5_isThere_8 : decode cX5_isThere 8 = .ok (.iconst 0, 1) := by decide +kernel
theorem dX5_isThere_9 : decode cX5_isThere 9 = .ok (.goto 4, 3) := by decide +kernel
theorem dX5_isThere_12 : decode cX5_isThere 12 = .ok (.iconst 1, 1) := by decide +kernel
theorem dX5_isThere_13 : decode cX5_isThere 13 = .ok (.invokevirtual 63, 3) := by decide +kernel
theorem dX5_isThere_16 : decode cX5_isThere 16 = .ok (.ifCond .ne 16, 3) := by decide +kernel
theorem dX5_isThere_19 : decode cX5_isThere 19 = .ok (.aload_n 0, 1) := by decide +kernel
theorem dX5_isThere_20 : decode cX5_isThere 20 = .ok (.getfield 19, 3) := by decide +kernel
theorem dX5_isThere_23 : decode cX5_isThere 23 = .ok (.iload_n 1, 1) := by decide +kernel
theorem dX5_isThere_24 : decode cX5_isThere 24 = .ok (.iaload, 1) := by decide +kernel
theorem dX5_isThere_25 : decode cX5_isThere 25 = .ok (.ifCond .lt 7, 3) := by decide +kernel
theorem dX5_isThere_28 : decode cX5_isThere 28 = .ok (.iconst 1, 1) := by decide +kernel
theorem dX5_isThere_29 : decode cX5_isThere 29 = .ok (.goto 4, 3) := by decide +kernel
theorem dX5_isThere_32 : decode cX5_isThere 32 = .ok (.iconst 0, 1) := by decide +kernel
theorem dX5_isThere_33 : decode cX5_isThere 33 = .ok (.ireturn, 1) := by decide +kernel
theorem dX5_has_0 : decode cX5_has 0 = .ok (.aload_n 0, 1) := by decide +kernel
theorem dX5_has_1 : decode cX5_has 1 = .ok (.getfield 22, 3) := by decide +kernel
theorem dX5_has_4 : decode cX5_has 4 = .ok (.bipush 9, 2) := by decide +kernel
theorem dX5_has_6 : decode cX5_has 6 = .ok (.iload_n 1, 1) := by decide +kernel
theorem dX5_has_7 : decode cX5_has 7 = .ok (.imul, 1) := by decide +kernel
theorem dX5_has_8 : decode cX5_has 8 = .ok (.iload_n 2, 1) := by decide +kernel
theorem dX5_has_9 : decode cX5_has 9 = .ok (.invokestatic 100, 3) := by decide +kernel
theorem dX5_has_12 : decode cX5_has 12 = .ok (.iadd, 1) := by decide +kernel
theorem dX5_has_13 : decode cX5_has 13 = .ok (.iaload, 1) := by decide +kernel
theorem dX5_has_14 : decode cX5_has 14 = .ok (.ifCond .lt 7, 3) := by decide +kernel
theorem dX5_has_17 : decode cX5_has 17 = .ok (.iconst 1, 1) := by decide +kernel
theorem dX5_has_18 : decode cX5_has 18 = .ok (.goto 4, 3) := by decide +kernel
theorem dX5_has_21 : decode cX5_has 21 = .ok (.iconst 0, 1) := by decide +kernel
theorem dX5_has_22 : decode cX5_has 22 = .ok (.ireturn, 1) := by decide +kernel
theorem dX5_many_0 : decode cX5_many 0 = .ok (.aload_n 0, 1) := by decide +kernel
theorem dX5_many_1 : decode cX5_many 1 = .ok (.getfield 22, 3) := by decide +kernel
theorem dX5_many_4 : decode cX5_many 4 = .ok (.bipush 9, 2) := by decide +kernel
theorem dX5_many_6 : decode cX5_many 6 = .ok (.iload_n 1, 1) := by decide +kernel
theorem dX5_many_7 : decode cX5_many 7 = .ok (.imul, 1) := by decide +kernel
theorem dX5_many_8 : decode cX5_many 8 = .ok (.iload_n 2, 1) := by decide +kernel
theorem dX5_many_9 : decode cX5_many 9 = .ok (.iadd, 1) := by decide +kernel
theorem dX5_many_10 : decode cX5_many 10 = .ok (.iaload, 1) := by decide +kernel
theorem dX5_many_11 : decode cX5_many 11 = .ok (.ifCond .ge 7, 3) := by decide +kernel
theorem dX5_many_14 : decode cX5_many 14 = .ok (.iconst (-1), 1) := by decide +kernel
theorem dX5_many_15 : decode cX5_many 15 = .ok (.goto 26, 3) := by decide +kernel
theorem dX5_many_18 : decode cX5_many 18 = .ok (.aload_n 0, 1) := by decide +kernel
theorem dX5_many_19 : decode cX5_many 19 = .ok (.getfield 25, 3) := by decide +kernel
theorem dX5_many_22 : decode cX5_many 22 = .ok (.bipush 9, 2) := by decide +kernel
theorem dX5_many_24 : decode cX5_many 24 = .ok (.iload_n 1, 1) := by decide +kernel
theorem dX5_many_25 : decode cX5_many 25 = .ok (.imul, 1) := by decide +kernel
theorem dX5_many_26 : decode cX5_many 26 = .ok (.iload_n 2, 1) := by decide +kernel
theorem dX5_many_27 : decode cX5_many 27 = .ok (.iadd, 1) := by decide +kernel
theorem dX5_many_28 : decode cX5_many 28 = .ok (.iaload, 1) := by decide +kernel
theorem dX5_many_29 : decode cX5_many 29 = .ok (.aload_n 0, 1) := by decide +kernel
theorem dX5_many_30 : decode cX5_many 30 = .ok (.getfield 22, 3) := by decide +kernel
theorem dX5_many_33 : decode cX5_many 33 = .ok (.bipush 9, 2) := by decide +kernel
theorem dX5_many_35 : decode cX5_many 35 = .ok (.iload_n 1, 1) := by decide +kernel
theorem dX5_many_36 : decode cX5_many 36 = .ok (.imul, 1) := by decide +kernel
theorem dX5_many_37 : decode cX5_many 37 = .ok (.iload_n 2, 1) := by decide +kernel
theorem dX5_many_38 : decode cX5_many 38 = .ok (.iadd, 1) := by decide +kernel
theorem dX5_many_39 : decode cX5_many 39 = .ok (.iaload, 1) := by decide +kernel
theorem dX5_many_40 : decode cX5_many 40 = .ok (.isub, 1) := by decide +kernel
theorem dX5_many_41 : decode cX5_many 41 = .ok (.ireturn, 1) := by decide +kernel
theorem dX5_isAbsolute_0 : decode cX5_isAbsolute 0 = .ok (.aload_n 0, 1) := by decide +kernel
theorem dX5_isAbsolute_1 : decode cX5_isAbsolute 1 = .ok (.aload_n 0, 1) := by decide +kernel
theorem dX5_isAbsolute_2 : decode cX5_isAbsolute 2 = .ok (.iload_n 1, 1) := by decide +kernel
theorem dX5_isAbsolute_3 : decode cX5_isAbsolute 3 = .ok (.invokevirtual 157, 3) := by decide +kernel
theorem dX5_isAbsolute_6 : decode cX5_isAbsolute 6 = .ok (.invokevirtual 63, 3) := by decide +kernel
theorem dX5_isAbsolute_9 : decode cX5_isAbsolute 9 = .ok (.ifCond .ne 17, 3) := by decide +kernel
theorem dX5_isAbsolute_12 : decode cX5_isAbsolute 12 = .ok (.aload_n 0, 1) := by decide +kernel
theorem dX5_isAbsolute_13 : decode cX5_isAbsolute 13 = .ok (.iload_n 1, 1) := by decide +kernel
theorem dX5_isAbsolute_14 : decode cX5_isAbsolute 14 = .ok (.bipush 115, 2) := by decide +kernel
theorem dX5_isAbsolute_16 : decode cX5_isAbsolute 16 = .ok (.invokevirtual 160, 3) := by decide +kernel
theorem dX5_isAbsolute_19 : decode cX5_isAbsolute 19 = .ok (.ifCond .eq 7, 3) := by decide +kernel
theorem dX5_isAbsolute_22 : decode cX5_isAbsolute 22 = .ok (.iconst 1, 1) := by decide +kernel
theorem dX5_isAbsolute_23 : decode cX5_isAbsolute 23 = .ok (.goto 4, 3) := by decide +kernel
theorem dX5_isAbsolute_26 : decode cX5_isAbsolute 26 = .ok (.iconst 0, 1) := by decide +kernel
theorem dX5_isAbsolute_27 : decode cX5_isAbsolute 27 = .ok (.ireturn, 1) := by decide +kernel
theorem dX5_isOpaque_0 : decode cX5_isOpaque 0 = .ok (.aload_n 0, 1) := by decide +kernel
theorem dX5_isOpaque_1 : decode cX5_isOpaque 1 = .ok (.aload_n 0, 1) := by decide +kernel
theorem dX5_isOpaque_2 : decode cX5_isOpaque 2 = .ok (.iload_n 1, 1) := by decide +kernel
theorem dX5_isOpaque_3 : decode cX5_isOpaque 3 = .ok (.invokevirtual 157, 3) := by decide +kernel
theorem dX5_isOpaque_6 : decode cX5_isOpaque 6 = .ok (.invokevirtual 63, 3) := by decide +kernel
theorem dX5_isOpaque_9 : decode cX5_isOpaque 9 = .ok (.ifCond .ne 17, 3) := by decide +kernel
theorem dX5_isOpaque_12 : decode cX5_isOpaque 12 = .ok (.aload_n 0, 1) := by decide +kernel
theorem dX5_isOpaque_13 : decode cX5_isOpaque 13 = .ok (.iload_n 1, 1) := by decide +kernel
theorem dX5_isOpaque_14 : decode cX5_isOpaque 14 = .ok (.bipush 112, 2) := by decide +kernel
theorem dX5_isOpaque_16 : decode cX5_isOpaque 16 = .ok (.invokevirtual 160, 3) := by decide +kernel
theorem dX5_isOpaque_19 : decode cX5_isOpaque 19 = .ok (.ifCond .ne 7, 3) := by decide +kernel
theorem dX5_isOpaque_22 : decode cX5_isOpaque 22 = .ok (.iconst 1, 1) := by decide +kernel
theorem dX5_isOpaque_23 : decode cX5_isOpaque 23 = .ok (.goto 4, 3) := by decide +kernel
theorem dX5_isOpaque_26 : decode cX5_isOpaque 26 = .ok (.iconst 0, 1) := by decide +kernel
theorem dX5_isOpaque_27 : decode cX5_isOpaque 27 = .ok (.ireturn, 1) := by decide +kernel
theorem dX5_port_0 : decode cX5_port 0 = .ok (.aload_n 0, 1) := by decide +kernel
theorem dX5_port_1 : decode cX5_port 1 = .ok (.aload_n 0, 1) := by decide +kernel
theorem dX5_port_2 : decode cX5_port 2 = .ok (.iload_n 1, 1) := by decide +kernel
theorem dX5_port_3 : decode cX5_port 3 = .ok (.invokevirtual 157, 3) := by decide +kernel
theorem dX5_port_6 : decode cX5_port 6 = .ok (.invokevirtual 63, 3) := by decide +kernel
theorem dX5_port_9 : decode cX5_port 9 = .ok (.ifCond .eq 7, 3) := by decide +kernel
theorem dX5_port_12 : decode cX5_port 12 = .ok (.iconst 0, 1) := by decide +kernel
theorem dX5_port_13 : decode cX5_port 13 = .ok (.goto 9, 3) := by decide +kernel
theorem dX5_port_16 : decode cX5_port 16 = .ok (.aload_n 0, 1) := by decide +kernel
theorem dX5_port_17 : decode cX5_port 17 = .ok (.getfield 28, 3) := by decide +kernel
theorem dX5_port_20 : decode cX5_port 20 = .ok (.iload_n 1, 1) := by decide +kernel
theorem dX5_port_21 : decode cX5_port 21 = .ok (.iaload, 1) := by decide +kernel
theorem dX5_port_22 : decode cX5_port 22 = .ok (.ireturn, 1) := by decide +kernel
theorem dX5_noPart_0 : decode cX5_noPart 0 = .ok (.iload_n 1, 1) := by decide +kernel
theorem dX5_noPart_1 : decode cX5_noPart 1 = .ok (.invokestatic 145, 3) := by decide +kernel
theorem dX5_noPart_4 : decode cX5_noPart 4 = .ok (.ifCond .ne 7, 3) := by decide +kernel
theorem dX5_noPart_7 : decode cX5_noPart 7 = .ok (.iconst 1, 1) := by decide +kernel
theorem dX5_noPart_8 : decode cX5_noPart 8 = .ok (.goto 28, 3) := by decide +kernel
theorem dX5_noPart_11 : decode cX5_noPart 11 = .ok (.iload_n 2, 1) := by decide +kernel
theorem dX5_noPart_12 : decode cX5_noPart 12 = .ok (.invokestatic 100, 3) := by decide +kernel
theorem dX5_noPart_15 : decode cX5_noPart 15 = .ok (.ifCond .ge 7, 3) := by decide +kernel
theorem dX5_noPart_18 : decode cX5_noPart 18 = .ok (.iconst 2, 1) := by decide +kernel
theorem dX5_noPart_19 : decode cX5_noPart 19 = .ok (.goto 17, 3) := by decide +kernel
theorem dX5_noPart_22 : decode cX5_noPart 22 = .ok (.aload_n 0, 1) := by decide +kernel
theorem dX5_noPart_23 : decode cX5_noPart 23 = .ok (.getfield 19, 3) := by decide +kernel
theorem dX5_noPart_26 : decode cX5_noPart 26 = .ok (.iload_n 1, 1) := by decide +kernel
theorem dX5_noPart_27 : decode cX5_noPart 27 = .ok (.iaload, 1) := by decide +kernel
theorem dX5_noPart_28 : decode cX5_noPart 28 = .ok (.ifCond .ge 7, 3) := by decide +kernel
theorem dX5_noPart_31 : decode cX5_noPart 31 = .ok (.iconst 3, 1) := by decide +kernel
theorem dX5_noPart_32 : decode cX5_noPart 32 = .ok (.goto 4, 3) := by decide +kernel
theorem dX5_noPart_35 : decode cX5_noPart 35 = .ok (.iconst 0, 1) := by decide +kernel
theorem dX5_noPart_36 : decode cX5_noPart 36 = .ok (.ireturn, 1) := by decide +kernel
theorem dX5_size_0 : decode cX5_size 0 = .ok (.aload_n 0, 1) := by decide +kernel
theorem dX5_size_1 : decode cX5_size 1 = .ok (.aload_n 0, 1) := by decide +kernel
theorem dX5_size_2 : decode cX5_size 2 = .ok (.iload_n 1, 1) := by decide +kernel
theorem dX5_size_3 : decode cX5_size 3 = .ok (.iload_n 2, 1) := by decide +kernel
theorem dX5_size_4 : decode cX5_size 4 = .ok (.invokevirtual 164, 3) := by decide +kernel
theorem dX5_size_7 : decode cX5_size 7 = .ok (.invokevirtual 63, 3) := by decide +kernel
theorem dX5_size_10 : decode cX5_size 10 = .ok (.ifCond .eq 7, 3) := by decide +kernel
theorem dX5_size_13 : decode cX5_size 13 = .ok (.iconst 0, 1) := by decide +kernel
theorem dX5_size_14 : decode cX5_size 14 = .ok (.goto 12, 3) := by decide +kernel
theorem dX5_size_17 : decode cX5_size 17 = .ok (.aload_n 0, 1) := by decide +kernel
theorem dX5_size_18 : decode cX5_size 18 = .ok (.iload_n 1, 1) := by decide +kernel
theorem dX5_size_19 : decode cX5_size 19 = .ok (.iload_n 2, 1) := by decide +kernel
theorem dX5_size_20 : decode cX5_size 20 = .ok (.invokestatic 100, 3) := by decide +kernel
theorem dX5_size_23 : decode cX5_size 23 = .ok (.invokevirtual 168, 3) := by decide +kernel
theorem dX5_size_26 : decode cX5_size 26 = .ok (.ireturn, 1) := by decide +kernel
theorem dX5_partSign_0 : decode cX5_partSign 0 = .ok (.aload_n 0, 1) := by decide +kernel
theorem dX5_partSign_1 : decode cX5_partSign 1 = .ok (.iload_n 1, 1) := by decide +kernel
theorem dX5_partSign_2 : decode cX5_partSign 2 = .ok (.iload_n 2, 1) := by decide +kernel
theorem dX5_partSign_3 : decode cX5_partSign 3 = .ok (.invokevirtual 164, 3) := by decide +kernel
theorem dX5_partSign_6 : decode cX5_partSign 6 = .ok (.istore 4, 2) := by decide +kernel
theorem dX5_partSign_8 : decode cX5_partSign 8 = .ok (.aload_n 0, 1) := by decide +kernel
theorem dX5_partSign_9 : decode cX5_partSign 9 = .ok (.iload 4, 2) := by decide +kernel
theorem dX5_partSign_11 : decode cX5_partSign 11 = .ok (.ifCond .le 8, 3) := by decide +kernel
theorem dX5_partSign_14 : decode cX5_partSign 14 = .ok (.iload 4, 2) := by decide +kernel
theorem dX5_partSign_16 : decode cX5_partSign 16 = .ok (.goto 27, 3) := by decide +kernel
theorem dX5_partSign_19 : decode cX5_partSign 19 = .ok (.iload_n 3, 1) := by decide +kernel
theorem dX5_partSign_20 : decode cX5_partSign 20 = .ok (.iconst 0, 1) := by decide +kernel
theorem dX5_partSign_21 : decode cX5_partSign 21 = .ok (.aload_n 0, 1) := by decide +kernel
theorem dX5_partSign_22 : decode cX5_partSign 22 = .ok (.iload_n 1, 1) := by decide +kernel
theorem dX5_partSign_23 : decode cX5_partSign 23 = .ok (.iload_n 2, 1) := by decide +kernel
theorem dX5_partSign_24 : decode cX5_partSign 24 = .ok (.invokestatic 100, 3) := by decide +kernel
theorem dX5_partSign_27 : decode cX5_partSign 27 = .ok (.invokevirtual 168, 3) := by decide +kernel
theorem dX5_partSign_30 : decode cX5_partSign 30 = .ok (.iconst 1, 1) := by decide +kernel
theorem dX5_partSign_31 : decode cX5_partSign 31 = .ok (.isub, 1) := by decide +kernel
theorem dX5_partSign_32 : decode cX5_partSign 32 = .ok (.invokestatic 41, 3) := by decide +kernel
theorem dX5_partSign_35 : decode cX5_partSign 35 = .ok (.ifCond .eq 7, 3) := by decide +kernel
theorem dX5_partSign_38 : decode cX5_partSign 38 = .ok (.iconst 0, 1) := by decide +kernel
theorem dX5_partSign_39 : decode cX5_partSign 39 = .ok (.goto 4, 3) := by decide +kernel
theorem dX5_partSign_42 : decode cX5_partSign 42 = .ok (.iconst 3, 1) := by decide +kernel
theorem dX5_partSign_43 : decode cX5_partSign 43 = .ok (.invokevirtual 63, 3) := by decide +kernel
theorem dX5_partSign_46 : decode cX5_partSign 46 = .ok (.ifCond .eq 5, 3) := by decide +kernel
theorem dX5_partSign_49 : decode cX5_partSign 49 = .ok (.iconst 0, 1) := by decide +kernel
theorem dX5_partSign_50 : decode cX5_partSign 50 = .ok (.ireturn, 1) := by decide +kernel
theorem dX5_partSign_51 : decode cX5_partSign 51 = .ok (.aload_n 0, 1) := by decide +kernel
theorem dX5_partSign_52 : decode cX5_partSign 52 = .ok (.getfield 16, 3) := by decide +kernel
theorem dX5_partSign_55 : decode cX5_partSign 55 = .ok (.bipush 60, 2) := by decide +kernel
theorem dX5_partSign_57 : decode cX5_partSign 57 = .ok (.iload_n 1, 1) := by decide +kernel
theorem dX5_partSign_58 : decode cX5_partSign 58 = .ok (.imul, 1) := by decide +kernel
theorem dX5_partSign_59 : decode cX5_partSign 59 = .ok (.aload_n 0, 1) := by decide +kernel
theorem dX5_partSign_60 : decode cX5_partSign 60 = .ok (.getfield 22, 3) := by decide +kernel
theorem dX5_partSign_63 : decode cX5_partSign 63 = .ok (.bipush 9, 2) := by decide +kernel
theorem dX5_partSign_65 : decode cX5_partSign 65 = .ok (.iload_n 1, 1) := by decide +kernel
theorem dX5_partSign_66 : decode cX5_partSign 66 = .ok (.imul, 1) := by decide +kernel
theorem dX5_partSign_67 : decode cX5_partSign 67 = .ok (.iload_n 2, 1) := by decide +kernel
theorem dX5_partSign_68 : decode cX5_partSign 68 = .ok (.invokestatic 100, 3) := by decide +kernel
theorem dX5_partSign_71 : decode cX5_partSign 71 = .ok (.iadd, 1) := by decide +kernel
theorem dX5_partSign_72 : decode cX5_partSign 72 = .ok (.iaload, 1) := by decide +kernel
theorem dX5_partSign_73 : decode cX5_partSign 73 = .ok (.iadd, 1) := by decide +kernel
theorem dX5_partSign_74 : decode cX5_partSign 74 = .ok (.iload_n 3, 1) := by decide +kernel
theorem dX5_partSign_75 : decode cX5_partSign 75 = .ok (.iadd, 1) := by decide +kernel
theorem dX5_partSign_76 : decode cX5_partSign 76 = .ok (.iaload, 1) := by decide +kernel
theorem dX5_partSign_77 : decode cX5_partSign 77 = .ok (.i2c, 1) := by decide +kernel
theorem dX5_partSign_78 : decode cX5_partSign 78 = .ok (.ireturn, 1) := by decide +kernel
theorem dX5_begin_0 : decode cX5_begin 0 = .ok (.aload_n 0, 1) := by decide +kernel
theorem dX5_begin_1 : decode cX5_begin 1 = .ok (.aload_n 0, 1) := by decide +kernel
theorem dX5_begin_2 : decode cX5_begin 2 = .ok (.iload_n 1, 1) := by decide +kernel
theorem dX5_begin_3 : decode cX5_begin 3 = .ok (.iload_n 2, 1) := by decide +kernel
theorem dX5_begin_4 : decode cX5_begin 4 = .ok (.invokevirtual 164, 3) := by decide +kernel
theorem dX5_begin_7 : decode cX5_begin 7 = .ok (.invokevirtual 63, 3) := by decide +kernel
theorem dX5_begin_10 : decode cX5_begin 10 = .ok (.ifCond .eq 7, 3) := by decide +kernel
theorem dX5_begin_13 : decode cX5_begin 13 = .ok (.iconst 0, 1) := by decide +kernel
theorem dX5_begin_14 : decode cX5_begin 14 = .ok (.goto 17, 3) := by decide +kernel
theorem dX5_begin_17 : decode cX5_begin 17 = .ok (.aload_n 0, 1) := by decide +kernel
theorem dX5_begin_18 : decode cX5_begin 18 = .ok (.getfield 22, 3) := by decide +kernel
theorem dX5_begin_21 : decode cX5_begin 21 = .ok (.bipush 9, 2) := by decide +kernel
theorem dX5_begin_23 : decode cX5_begin 23 = .ok (.iload_n 1, 1) := by decide +kernel
theorem dX5_begin_24 : decode cX5_begin 24 = .ok (.imul, 1) := by decide +kernel
theorem dX5_begin_25 : decode cX5_begin 25 = .ok (.iload_n 2, 1) := by decide +kernel
theorem dX5_begin_26 : decode cX5_begin 26 = .ok (.invokestatic 100, 3) := by decide +kernel
theorem dX5_begin_29 : decode cX5_begin 29 = .ok (.iadd, 1) := by decide +kernel
theorem dX5_begin_30 : decode cX5_begin 30 = .ok (.iaload, 1) := by decide +kernel
theorem dX5_begin_31 : decode cX5_begin 31 = .ok (.ireturn, 1) := by decide +kernel
theorem dX5_append_0 : decode cX5_append 0 = .ok (.aload_n 0, 1) := by decide +kernel
theorem dX5_append_1 : decode cX5_append 1 = .ok (.iload_n 1, 1) := by decide +kernel
theorem dX5_append_2 : decode cX5_append 2 = .ok (.iload_n 2, 1) := by decide +kernel
theorem dX5_append_3 : decode cX5_append 3 = .ok (.invokevirtual 164, 3) := by decide +kernel
theorem dX5_append_6 : decode cX5_append 6 = .ok (.istore_n 3, 1) := by decide +kernel
theorem dX5_append_7 : decode cX5_append 7 = .ok (.aload_n 0, 1) := by decide +kernel
theorem dX5_append_8 : decode cX5_append 8 = .ok (.iload_n 3, 1) := by decide +kernel
theorem dX5_append_9 : decode cX5_append 9 = .ok (.ifCond .le 7, 3) := by decide +kernel
theorem dX5_append_12 : decode cX5_append 12 = .ok (.iload_n 3, 1) := by decide +kernel
theorem dX5_append_13 : decode cX5_append 13 = .ok (.goto 40, 3) := by decide +kernel
theorem dX5_append_16 : decode cX5_append 16 = .ok (.aload_n 0, 1) := by decide +kernel
theorem dX5_append_17 : decode cX5_append 17 = .ok (.iload_n 1, 1) := by decide +kernel
theorem dX5_append_18 : decode cX5_append 18 = .ok (.iload_n 2, 1) := by decide +kernel
theorem dX5_append_19 : decode cX5_append 19 = .ok (.invokevirtual 160, 3) := by decide +kernel
theorem dX5_append_22 : decode cX5_append 22 = .ok (.ifCond .ne 7, 3) := by decide +kernel
theorem dX5_append_25 : decode cX5_append 25 = .ok (.iconst 3, 1) := by decide +kernel
theorem dX5_append_26 : decode cX5_append 26 = .ok (.goto 27, 3) := by decide +kernel
theorem dX5_append_29 : decode cX5_append 29 = .ok (.aload_n 0, 1) := by decide +kernel
theorem dX5_append_30 : decode cX5_append 30 = .ok (.getfield 53, 3) := by decide +kernel
theorem dX5_append_33 : decode cX5_append 33 = .ok (.aload_n 0, 1) := by decide +kernel
theorem dX5_append_34 : decode cX5_append 34 = .ok (.iload_n 1, 1) := by decide +kernel
theorem dX5_append_35 : decode cX5_append 35 = .ok (.iload_n 2, 1) := by decide +kernel
theorem dX5_append_36 : decode cX5_append 36 = .ok (.invokestatic 100, 3) := by decide +kernel
theorem dX5_append_39 : decode cX5_append 39 = .ok (.invokevirtual 168, 3) := by decide +kernel
theorem dX5_append_42 : decode cX5_append 42 = .ok (.iadd, 1) := by decide +kernel
theorem dX5_append_43 : decode cX5_append 43 = .ok (.bipush 60, 2) := by decide +kernel
theorem dX5_append_45 : decode cX5_append 45 = .ok (.if_icmp .le 7, 3) := by decide +kernel
theorem dX5_append_48 : decode cX5_append 48 = .ok (.iconst 4, 1) := by decide +kernel
theorem dX5_append_49 : decode cX5_append 49 = .ok (.goto 4, 3) := by decide +kernel
theorem dX5_append_52 : decode cX5_append 52 = .ok (.iconst 0, 1) := by decide +kernel
theorem dX5_append_53 : decode cX5_append 53 = .ok (.invokevirtual 63, 3) := by decide +kernel
theorem dX5_append_56 : decode cX5_append 56 = .ok (.ifCond .eq 5, 3) := by decide +kernel
theorem dX5_append_59 : decode cX5_append 59 = .ok (.iconst 0, 1) := by decide +kernel
theorem dX5_append_60 : decode cX5_append 60 = .ok (.ireturn, 1) := by decide +kernel
theorem dX5_append_61 : decode cX5_append 61 = .ok (.aload_n 0, 1) := by decide +kernel
theorem dX5_append_62 : decode cX5_append 62 = .ok (.iload_n 1, 1) := by decide +kernel
theorem dX5_append_63 : decode cX5_append 63 = .ok (.iload_n 2, 1) := by decide +kernel
theorem dX5_append_64 : decode cX5_append 64 = .ok (.invokevirtual 171, 3) := by decide +kernel
theorem dX5_append_67 : decode cX5_append 67 = .ok (.aload_n 0, 1) := by decide +kernel
theorem dX5_append_68 : decode cX5_append 68 = .ok (.getfield 53, 3) := by decide +kernel
theorem dX5_append_71 : decode cX5_append 71 = .ok (.ireturn, 1) := by decide +kernel
theorem dX5_add_0 : decode cX5_add 0 = .ok (.bipush 9, 2) := by decide +kernel
theorem dX5_add_2 : decode cX5_add 2 = .ok (.iload_n 1, 1) := by decide +kernel
theorem dX5_add_3 : decode cX5_add 3 = .ok (.imul, 1) := by decide +kernel
theorem dX5_add_4 : decode cX5_add 4 = .ok (.iload_n 2, 1) := by decide +kernel
theorem dX5_add_5 : decode cX5_add 5 = .ok (.invokestatic 100, 3) := by decide +kernel
theorem dX5_add_8 : decode cX5_add 8 = .ok (.iadd, 1) := by decide +kernel
theorem dX5_add_9 : decode cX5_add 9 = .ok (.istore_n 3, 1) := by decide +kernel
theorem dX5_add_10 : decode cX5_add 10 = .ok (.aload_n 0, 1) := by decide +kernel
theorem dX5_add_11 : decode cX5_add 11 = .ok (.aload_n 0, 1) := by decide +kernel
theorem dX5_add_12 : decode cX5_add 12 = .ok (.getfield 16, 3) := by decide +kernel
theorem dX5_add_15 : decode cX5_add 15 = .ok (.bipush 60, 2) := by decide +kernel
theorem dX5_add_17 : decode cX5_add 17 = .ok (.iload_n 1, 1) := by decide +kernel
theorem dX5_add_18 : decode cX5_add 18 = .ok (.imul, 1) := by decide +kernel
theorem dX5_add_19 : decode cX5_add 19 = .ok (.aload_n 0, 1) := by decide +kernel
theorem dX5_add_20 : decode cX5_add 20 = .ok (.getfield 22, 3) := by decide +kernel
theorem dX5_add_23 : decode cX5_add 23 = .ok (.iload_n 3, 1) := by decide +kernel
theorem dX5_add_24 : decode cX5_add 24 = .ok (.iaload, 1) := by decide +kernel
theorem dX5_add_25 : decode cX5_add 25 = .ok (.iadd, 1) := by decide +kernel
theorem dX5_add_26 : decode cX5_add 26 = .ok (.bipush 60, 2) := by decide +kernel
theorem dX5_add_28 : decode cX5_add 28 = .ok (.iload_n 1, 1) := by decide +kernel
theorem dX5_add_29 : decode cX5_add 29 = .ok (.imul, 1) := by decide +kernel
theorem dX5_add_30 : decode cX5_add 30 = .ok (.aload_n 0, 1) := by decide +kernel
theorem dX5_add_31 : decode cX5_add 31 = .ok (.getfield 25, 3) := by decide +kernel
theorem dX5_add_34 : decode cX5_add 34 = .ok (.iload_n 3, 1) := by decide +kernel
theorem dX5_add_35 : decode cX5_add 35 = .ok (.iaload, 1) := by decide +kernel
theorem dX5_add_36 : decode cX5_add 36 = .ok (.iadd, 1) := by decide +kernel
theorem dX5_add_37 : decode cX5_add 37 = .ok (.invokevirtual 66, 3) := by decide +kernel
theorem dX5_add_40 : decode cX5_add 40 = .ok (.return_, 1) := by decide +kernel
theorem dX5_copy_0 : decode cX5_copy 0 = .ok (.aload_n 0, 1) := by decide +kernel
theorem dX5_copy_1 : decode cX5_copy 1 = .ok (.iload_n 1, 1) := by decide +kernel
theorem dX5_copy_2 : decode cX5_copy 2 = .ok (.invokestatic 145, 3) := by decide +kernel
theorem dX5_copy_5 : decode cX5_copy 5 = .ok (.ifCond .eq 14, 3) := by decide +kernel
theorem dX5_copy_8 : decode cX5_copy 8 = .ok (.iload_n 2, 1) := by decide +kernel
theorem dX5_copy_9 : decode cX5_copy 9 = .ok (.invokestatic 145, 3) := by decide +kernel
theorem dX5_copy_12 : decode cX5_copy 12 = .ok (.ifCond .eq 7, 3) := by decide +kernel
theorem dX5_copy_15 : decode cX5_copy 15 = .ok (.iconst 0, 1) := by decide +kernel
theorem dX5_copy_16 : decode cX5_copy 16 = .ok (.goto 4, 3) := by decide +kernel
theorem dX5_copy_19 : decode cX5_copy 19 = .ok (.iconst 1, 1) := by decide +kernel
theorem dX5_copy_20 : decode cX5_copy 20 = .ok (.invokevirtual 63, 3) := by decide +kernel
theorem dX5_copy_23 : decode cX5_copy 23 = .ok (.ifCond .eq 5, 3) := by decide +kernel
theorem dX5_copy_26 : decode cX5_copy 26 = .ok (.iconst 0, 1) := by decide +kernel
theorem dX5_copy_27 : decode cX5_copy 27 = .ok (.ireturn, 1) := by decide +kernel
theorem dX5_copy_28 : decode cX5_copy 28 = .ok (.aload_n 0, 1) := by decide +kernel
theorem dX5_copy_29 : decode cX5_copy 29 = .ok (.getfield 19, 3) := by decide +kernel
theorem dX5_copy_32 : decode cX5_copy 32 = .ok (.iload_n 2, 1) := by decide +kernel
theorem dX5_copy_33 : decode cX5_copy 33 = .ok (.aload_n 0, 1) := by decide +kernel
theorem dX5_copy_34 : decode cX5_copy 34 = .ok (.getfield 19, 3) := by decide +kernel
theorem dX5_copy_37 : decode cX5_copy 37 = .ok (.iload_n 1, 1) := by decide +kernel
theorem dX5_copy_38 : decode cX5_copy 38 = .ok (.iaload, 1) := by decide +kernel
theorem dX5_copy_39 : decode cX5_copy 39 = .ok (.iastore, 1) := by decide +kernel
theorem dX5_copy_40 : decode cX5_copy 40 = .ok (.iconst 0, 1) := by decide +kernel
theorem dX5_copy_41 : decode cX5_copy 41 = .ok (.istore_n 3, 1) := by decide +kernel
theorem dX5_copy_42 : decode cX5_copy 42 = .ok (.iload_n 3, 1) := by decide +kernel
theorem dX5_copy_43 : decode cX5_copy 43 = .ok (.bipush 60, 2) := by decide +kernel
theorem dX5_copy_45 : decode cX5_copy 45 = .ok (.if_icmp .ge 31, 3) := by decide +kernel
theorem dX5_copy_48 : decode cX5_copy 48 = .ok (.aload_n 0, 1) := by decide +kernel
theorem dX5_copy_49 : decode cX5_copy 49 = .ok (.getfield 16, 3) := by decide +kernel
theorem dX5_copy_52 : decode cX5_copy 52 = .ok (.bipush 60, 2) := by decide +kernel
theorem dX5_copy_54 : decode cX5_copy 54 = .ok (.iload_n 2, 1) := by decide +kernel
theorem dX5_copy_55 : decode cX5_copy 55 = .ok (.imul, 1) := by decide +kernel
theorem dX5_copy_56 : decode cX5_copy 56 = .ok (.iload_n 3, 1) := by decide +kernel
theorem dX5_copy_57 : decode cX5_copy 57 = .ok (.iadd, 1) := by decide +kernel
theorem dX5_copy_58 : decode cX5_copy 58 = .ok (.aload_n 0, 1) := by decide +kernel
theorem dX5_copy_59 : decode cX5_copy 59 = .ok (.getfield 16, 3) := by decide +kernel
theorem dX5_copy_62 : decode cX5_copy 62 = .ok (.bipush 60, 2) := by decide +kernel
theorem dX5_copy_64 : decode cX5_copy 64 = .ok (.iload_n 1, 1) := by decide +kernel
theorem dX5_copy_65 : decode cX5_copy 65 = .ok (.imul, 1) := by decide +kernel
theorem dX5_copy_66 : decode cX5_copy 66 = .ok (.iload_n 3, 1) := by decide +kernel
theorem dX5_copy_67 : decode cX5_copy 67 = .ok (.iadd, 1) := by decide +kernel
theorem dX5_copy_68 : decode cX5_copy 68 = .ok (.iaload, 1) := by decide +kernel
theorem dX5_copy_69 : decode cX5_copy 69 = .ok (.iastore, 1) := by decide +kernel
theorem dX5_copy_70 : decode cX5_copy 70 = .ok (.iinc 3 1, 3) := by decide +kernel
theorem dX5_copy_73 : decode cX5_copy 73 = .ok (.goto (-31), 3) := by decide +kernel
theorem dX5_copy_76 : decode cX5_copy 76 = .ok (.iconst 0, 1) := by decide +kernel
theorem dX5_copy_77 : decode cX5_copy 77 = .ok (.istore_n 3, 1) := by decide +kernel
theorem dX5_copy_78 : decode cX5_copy 78 = .ok (.iload_n 3, 1) := by decide +kernel
theorem dX5_copy_79 : decode cX5_copy 79 = .ok (.bipush 9, 2) := by decide +kernel
theorem dX5_copy_81 : decode cX5_copy 81 = .ok (.if_icmp .ge 53, 3) := by decide +kernel
theorem dX5_copy_84 : decode cX5_copy 84 = .ok (.aload_n 0, 1) := by decide +kernel
theorem dX5_copy_85 : decode cX5_copy 85 = .ok (.getfield 22, 3) := by decide +kernel
theorem dX5_copy_88 : decode cX5_copy 88 = .ok (.bipush 9, 2) := by decide +kernel
theorem dX5_copy_90 : decode cX5_copy 90 = .ok (.iload_n 2, 1) := by decide +kernel
theorem dX5_copy_91 : decode cX5_copy 91 = .ok (.imul, 1) := by decide +kernel
theorem dX5_copy_92 : decode cX5_copy 92 = .ok (.iload_n 3, 1) := by decide +kernel
theorem dX5_copy_93 : decode cX5_copy 93 = .ok (.iadd, 1) := by decide +kernel
theorem dX5_copy_94 : decode cX5_copy 94 = .ok (.aload_n 0, 1) := by decide +kernel
theorem dX5_copy_95 : decode cX5_copy 95 = .ok (.getfield 22, 3) := by decide +kernel
theorem dX5_copy_98 : decode cX5_copy 98 = .ok (.bipush 9, 2) := by decide +kernel
theorem dX5_copy_100 : decode cX5_copy 100 = .ok (.iload_n 1, 1) := by decide +kernel
theorem dX5_copy_101 : decode cX5_copy 101 = .ok (.imul, 1) := by decide +kernel
theorem dX5_copy_102 : decode cX5_copy 102 = .ok (.iload_n 3, 1) := by decide +kernel
theorem dX5_copy_103 : decode cX5_copy 103 = .ok (.iadd, 1) := by decide +kernel
theorem dX5_copy_104 : decode cX5_copy 104 = .ok (.iaload, 1) := by decide +kernel
theorem dX5_copy_105 : decode cX5_copy 105 = .ok (.iastore, 1) := by decide +kernel
theorem dX5_copy_106 : decode cX5_copy 106 = .ok (.aload_n 0, 1) := by decide +kernel
theorem dX5_copy_107 : decode cX5_copy 107 = .ok (.getfield 25, 3) := by decide +kernel
theorem dX5_copy_110 : decode cX5_copy 110 = .ok (.bipush 9, 2) := by decide +kernel
theorem dX5_copy_112 : decode cX5_copy 112 = .ok (.iload_n 2, 1) := by decide +kernel
theorem dX5_copy_113 : decode cX5_copy 113 = .ok (.imul, 1) := by decide +kernel
theorem dX5_copy_114 : decode cX5_copy 114 = .ok (.iload_n 3, 1) := by decide +kernel
theorem dX5_copy_115 : decode cX5_copy 115 = .ok (.iadd, 1) := by decide +kernel
theorem dX5_copy_116 : decode cX5_copy 116 = .ok (.aload_n 0, 1) := by decide +kernel
theorem dX5_copy_117 : decode cX5_copy 117 = .ok (.getfield 25, 3) := by decide +kernel
theorem dX5_copy_120 : decode cX5_copy 120 = .ok (.bipush 9, 2) := by decide +kernel
theorem dX5_copy_122 : decode cX5_copy 122 = .ok (.iload_n 1, 1) := by decide +kernel
theorem dX5_copy_123 : decode cX5_copy 123 = .ok (.imul, 1) := by decide +kernel
theorem dX5_copy_124 : decode cX5_copy 124 = .ok (.iload_n 3, 1) := by decide +kernel
theorem dX5_copy_125 : decode cX5_copy 125 = .ok (.iadd, 1) := by decide +kernel
theorem dX5_copy_126 : decode cX5_copy 126 = .ok (.iaload, 1) := by decide +kernel
theorem dX5_copy_127 : decode cX5_copy 127 = .ok (.iastore, 1) := by decide +kernel
theorem dX5_copy_128 : decode cX5_copy 128 = .ok (.iinc 3 1, 3) := by decide +kernel
theorem dX5_copy_131 : decode cX5_copy 131 = .ok (.goto (-53), 3) := by decide +kernel
theorem dX5_copy_134 : decode cX5_copy 134 = .ok (.aload_n 0, 1) := by decide +kernel
theorem dX5_copy_135 : decode cX5_copy 135 = .ok (.getfield 28, 3) := by decide +kernel
theorem dX5_copy_138 : decode cX5_copy 138 = .ok (.iload_n 2, 1) := by decide +kernel
theorem dX5_copy_139 : decode cX5_copy 139 = .ok (.aload_n 0, 1) := by decide +kernel
theorem dX5_copy_140 : decode cX5_copy 140 = .ok (.getfield 28, 3) := by decide +kernel
theorem dX5_copy_143 : decode cX5_copy 143 = .ok (.iload_n 1, 1) := by decide +kernel
theorem dX5_copy_144 : decode cX5_copy 144 = .ok (.iaload, 1) := by decide +kernel
theorem dX5_copy_145 : decode cX5_copy 145 = .ok (.iastore, 1) := by decide +kernel
theorem dX5_copy_146 : decode cX5_copy 146 = .ok (.iconst 0, 1) := by decide +kernel
theorem dX5_copy_147 : decode cX5_copy 147 = .ok (.istore_n 3, 1) := by decide +kernel
theorem dX5_copy_148 : decode cX5_copy 148 = .ok (.iconst 0, 1) := by decide +kernel
theorem dX5_copy_149 : decode cX5_copy 149 = .ok (.istore 4, 2) := by decide +kernel
theorem dX5_copy_151 : decode cX5_copy 151 = .ok (.iload 4, 2) := by decide +kernel
theorem dX5_copy_153 : decode cX5_copy 153 = .ok (.iconst 4, 1) := by decide +kernel
theorem dX5_copy_154 : decode cX5_copy 154 = .ok (.if_icmp .ge 27, 3) := by decide +kernel
theorem dX5_copy_157 : decode cX5_copy 157 = .ok (.iload_n 3, 1) := by decide +kernel
theorem dX5_copy_158 : decode cX5_copy 158 = .ok (.aload_n 0, 1) := by decide +kernel
theorem dX5_copy_159 : decode cX5_copy 159 = .ok (.getfield 19, 3) := by decide +kernel
theorem dX5_copy_162 : decode cX5_copy 162 = .ok (.iload 4, 2) := by decide +kernel
theorem dX5_copy_164 : decode cX5_copy 164 = .ok (.iaload, 1) := by decide +kernel
theorem dX5_copy_165 : decode cX5_copy 165 = .ok (.ifCond .lt 7, 3) := by decide +kernel
theorem dX5_copy_168 : decode cX5_copy 168 = .ok (.iconst 1, 1) := by decide +kernel
theorem dX5_copy_169 : decode cX5_copy 169 = .ok (.goto 4, 3) := by decide +kernel
theorem dX5_copy_172 : decode cX5_copy 172 = .ok (.iconst 0, 1) := by decide +kernel
theorem dX5_copy_173 : decode cX5_copy 173 = .ok (.iadd, 1) := by decide +kernel
theorem dX5_copy_174 : decode cX5_copy 174 = .ok (.istore_n 3, 1) := by decide +kernel
theorem dX5_copy_175 : decode cX5_copy 175 = .ok (.iinc 4 1, 3) := by decide +kernel
theorem dX5_copy_178 : decode cX5_copy 178 = .ok (.goto (-27), 3) := by decide +kernel
theorem dX5_copy_181 : decode cX5_copy 181 = .ok (.iload_n 3, 1) := by decide +kernel
theorem dX5_copy_182 : decode cX5_copy 182 = .ok (.ireturn, 1) := by decide +kernel
theorem dX5_isAlike_0 : decode cX5_isAlike 0 = .ok (.aload_n 0, 1) := by decide +kernel
theorem dX5_isAlike_1 : decode cX5_isAlike 1 = .ok (.iload_n 1, 1) := by decide +kernel
theorem dX5_isAlike_2 : decode cX5_isAlike 2 = .ok (.iload_n 3, 1) := by decide +kernel
theorem dX5_isAlike_3 : decode cX5_isAlike 3 = .ok (.invokevirtual 168, 3) := by decide +kernel
theorem dX5_isAlike_6 : decode cX5_isAlike 6 = .ok (.aload_n 0, 1) := by decide +kernel
theorem dX5_isAlike_7 : decode cX5_isAlike 7 = .ok (.iload_n 2, 1) := by decide +kernel
theorem dX5_isAlike_8 : decode cX5_isAlike 8 = .ok (.iload_n 3, 1) := by decide +kernel
theorem dX5_isAlike_9 : decode cX5_isAlike 9 = .ok (.invokevirtual 168, 3) := by decide +kernel
theorem dX5_isAlike_12 : decode cX5_isAlike 12 = .ok (.if_icmp .eq 5, 3) := by decide +kernel
theorem dX5_isAlike_15 : decode cX5_isAlike 15 = .ok (.iconst 0, 1) := by decide +kernel
theorem dX5_isAlike_16 : decode cX5_isAlike 16 = .ok (.ireturn, 1) := by decide +kernel
theorem dX5_isAlike_17 : decode cX5_isAlike 17 = .ok (.iconst 0, 1) := by decide +kernel
theorem dX5_isAlike_18 : decode cX5_isAlike 18 = .ok (.istore 4, 2) := by decide +kernel
theorem dX5_isAlike_20 : decode cX5_isAlike 20 = .ok (.iload 4, 2) := by decide +kernel
theorem dX5_isAlike_22 : decode cX5_isAlike 22 = .ok (.aload_n 0, 1) := by decide +kernel
theorem dX5_isAlike_23 : decode cX5_isAlike 23 = .ok (.iload_n 1, 1) := by decide +kernel
theorem dX5_isAlike_24 : decode cX5_isAlike 24 = .ok (.iload_n 3, 1) := by decide +kernel
theorem dX5_isAlike_25 : decode cX5_isAlike 25 = .ok (.invokevirtual 168, 3) := by decide +kernel
theorem dX5_isAlike_28 : decode cX5_isAlike 28 = .ok (.if_icmp .ge 62, 3) := by decide +kernel
theorem dX5_isAlike_31 : decode cX5_isAlike 31 = .ok (.aload_n 0, 1) := by decide +kernel
theorem dX5_isAlike_32 : decode cX5_isAlike 32 = .ok (.getfield 16, 3) := by decide +kernel
theorem dX5_isAlike_35 : decode cX5_isAlike 35 = .ok (.bipush 60, 2) := by decide +kernel
theorem dX5_isAlike_37 : decode cX5_isAlike 37 = .ok (.iload_n 1, 1) := by decide +kernel
theorem dX5_isAlike_38 : decode cX5_isAlike 38 = .ok (.imul, 1) := by decide +kernel
theorem dX5_isAlike_39 : decode cX5_isAlike 39 = .ok (.aload_n 0, 1) := by decide +kernel
theorem dX5_isAlike_40 : decode cX5_isAlike 40 = .ok (.getfield 22, 3) := by decide +kernel
theorem dX5_isAlike_43 : decode cX5_isAlike 43 = .ok (.bipush 9, 2) := by decide +kernel
theorem dX5_isAlike_45 : decode cX5_isAlike 45 = .ok (.iload_n 1, 1) := by decide +kernel
theorem dX5_isAlike_46 : decode cX5_isAlike 46 = .ok (.imul, 1) := by decide +kernel
theorem dX5_isAlike_47 : decode cX5_isAlike 47 = .ok (.iload_n 3, 1) := by decide +kernel
theorem dX5_isAlike_48 : decode cX5_isAlike 48 = .ok (.iadd, 1) := by decide +kernel
theorem dX5_isAlike_49 : decode cX5_isAlike 49 = .ok (.iaload, 1) := by decide +kernel
theorem dX5_isAlike_50 : decode cX5_isAlike 50 = .ok (.iadd, 1) := by decide +kernel
theorem dX5_isAlike_51 : decode cX5_isAlike 51 = .ok (.iload 4, 2) := by decide +kernel
theorem dX5_isAlike_53 : decode cX5_isAlike 53 = .ok (.iadd, 1) := by decide +kernel
theorem dX5_isAlike_54 : decode cX5_isAlike 54 = .ok (.iaload, 1) := by decide +kernel
theorem dX5_isAlike_55 : decode cX5_isAlike 55 = .ok (.aload_n 0, 1) := by decide +kernel
theorem dX5_isAlike_56 : decode cX5_isAlike 56 = .ok (.getfield 16, 3) := by decide +kernel
theorem dX5_isAlike_59 : decode cX5_isAlike 59 = .ok (.bipush 60, 2) := by decide +kernel
theorem dX5_isAlike_61 : decode cX5_isAlike 61 = .ok (.iload_n 2, 1) := by decide +kernel
theorem dX5_isAlike_62 : decode cX5_isAlike 62 = .ok (.imul, 1) := by decide +kernel
theorem dX5_isAlike_63 : decode cX5_isAlike 63 = .ok (.aload_n 0, 1) := by decide +kernel
theorem dX5_isAlike_64 : decode cX5_isAlike 64 = .ok (.getfield 22, 3) := by decide +kernel
theorem dX5_isAlike_67 : decode cX5_isAlike 67 = .ok (.bipush 9, 2) := by decide +kernel
theorem dX5_isAlike_69 : decode cX5_isAlike 69 = .ok (.iload_n 2, 1) := by decide +kernel
theorem dX5_isAlike_70 : decode cX5_isAlike 70 = .ok (.imul, 1) := by decide +kernel
theorem dX5_isAlike_71 : decode cX5_isAlike 71 = .ok (.iload_n 3, 1) := by decide +kernel
theorem dX5_isAlike_72 : decode cX5_isAlike 72 = .ok (.iadd, 1) := by decide +kernel
theorem dX5_isAlike_73 : decode cX5_isAlike 73 = .ok (.iaload, 1) := by decide +kernel
theorem dX5_isAlike_74 : decode cX5_isAlike 74 = .ok (.iadd, 1) := by decide +kernel
theorem dX5_isAlike_75 : decode cX5_isAlike 75 = .ok (.iload 4, 2) := by decide +kernel
theorem dX5_isAlike_77 : decode cX5_isAlike 77 = .ok (.iadd, 1) := by decide +kernel
theorem dX5_isAlike_78 : decode cX5_isAlike 78 = .ok (.iaload, 1) := by decide +kernel
theorem dX5_isAlike_79 : decode cX5_isAlike 79 = .ok (.if_icmp .eq 5, 3) := by decide +kernel
theorem dX5_isAlike_82 : decode cX5_isAlike 82 = .ok (.iconst 0, 1) := by decide +kernel
theorem dX5_isAlike_83 : decode cX5_isAlike 83 = .ok (.ireturn, 1) := by decide +kernel
theorem dX5_isAlike_84 : decode cX5_isAlike 84 = .ok (.iinc 4 1, 3) := by decide +kernel
theorem dX5_isAlike_87 : decode cX5_isAlike 87 = .ok (.goto (-67), 3) := by decide +kernel
theorem dX5_isAlike_90 : decode cX5_isAlike 90 = .ok (.iconst 1, 1) := by decide +kernel
theorem dX5_isAlike_91 : decode cX5_isAlike 91 = .ok (.ireturn, 1) := by decide +kernel
theorem dX5_alike_0 : decode cX5_alike 0 = .ok (.aload_n 0, 1) := by decide +kernel
theorem dX5_alike_1 : decode cX5_alike 1 = .ok (.iload_n 1, 1) := by decide +kernel
theorem dX5_alike_2 : decode cX5_alike 2 = .ok (.invokestatic 145, 3) := by decide +kernel
theorem dX5_alike_5 : decode cX5_alike 5 = .ok (.ifCond .eq 10, 3) := by decide +kernel
theorem dX5_alike_8 : decode cX5_alike 8 = .ok (.iload_n 2, 1) := by decide +kernel
theorem dX5_alike_9 : decode cX5_alike 9 = .ok (.invokestatic 145, 3) := by decide +kernel
theorem dX5_alike_12 : decode cX5_alike 12 = .ok (.ifCond .ne 7, 3) := by decide +kernel
theorem dX5_alike_15 : decode cX5_alike 15 = .ok (.iconst 1, 1) := by decide +kernel
theorem dX5_alike_16 : decode cX5_alike 16 = .ok (.goto 26, 3) := by decide +kernel
theorem dX5_alike_19 : decode cX5_alike 19 = .ok (.aload_n 0, 1) := by decide +kernel
theorem dX5_alike_20 : decode cX5_alike 20 = .ok (.getfield 19, 3) := by decide +kernel
theorem dX5_alike_23 : decode cX5_alike 23 = .ok (.iload_n 1, 1) := by decide +kernel
theorem dX5_alike_24 : decode cX5_alike 24 = .ok (.iaload, 1) := by decide +kernel
theorem dX5_alike_25 : decode cX5_alike 25 = .ok (.ifCond .lt 12, 3) := by decide +kernel
theorem dX5_alike_28 : decode cX5_alike 28 = .ok (.aload_n 0, 1) := by decide +kernel
theorem dX5_alike_29 : decode cX5_alike 29 = .ok (.getfield 19, 3) := by decide +kernel
theorem dX5_alike_32 : decode cX5_alike 32 = .ok (.iload_n 2, 1) := by decide +kernel
theorem dX5_alike_33 : decode cX5_alike 33 = .ok (.iaload, 1) := by decide +kernel
theorem dX5_alike_34 : decode cX5_alike 34 = .ok (.ifCond .ge 7, 3) := by decide +kernel
theorem dX5_alike_37 : decode cX5_alike 37 = .ok (.iconst 2, 1) := by decide +kernel
theorem dX5_alike_38 : decode cX5_alike 38 = .ok (.goto 4, 3) := by decide +kernel
theorem dX5_alike_41 : decode cX5_alike 41 = .ok (.iconst 0, 1) := by decide +kernel
theorem dX5_alike_42 : decode cX5_alike 42 = .ok (.invokevirtual 63, 3) := by decide +kernel
theorem dX5_alike_45 : decode cX5_alike 45 = .ok (.ifCond .eq 5, 3) := by decide +kernel
theorem dX5_alike_48 : decode cX5_alike 48 = .ok (.iconst 0, 1) := by decide +kernel
theorem dX5_alike_49 : decode cX5_alike 49 = .ok (.ireturn, 1) := by decide +kernel
theorem dX5_alike_50 : decode cX5_alike 50 = .ok (.iconst 0, 1) := by decide +kernel
theorem dX5_alike_51 : decode cX5_alike 51 = .ok (.istore_n 3, 1) := by decide +kernel
theorem dX5_alike_52 : decode cX5_alike 52 = .ok (.iconst 0, 1) := by decide +kernel
theorem dX5_alike_53 : decode cX5_alike 53 = .ok (.istore 4, 2) := by decide +kernel
theorem dX5_alike_55 : decode cX5_alike 55 = .ok (.iload 4, 2) := by decide +kernel
theorem dX5_alike_57 : decode cX5_alike 57 = .ok (.bipush 9, 2) := by decide +kernel
theorem dX5_alike_59 : decode cX5_alike 59 = .ok (.if_icmp .ge 28, 3) := by decide +kernel
theorem dX5_alike_62 : decode cX5_alike 62 = .ok (.iload_n 3, 1) := by decide +kernel
theorem dX5_alike_63 : decode cX5_alike 63 = .ok (.aload_n 0, 1) := by decide +kernel
theorem dX5_alike_64 : decode cX5_alike 64 = .ok (.iload_n 1, 1) := by decide +kernel
theorem dX5_alike_65 : decode cX5_alike 65 = .ok (.iload_n 2, 1) := by decide +kernel
theorem dX5_alike_66 : decode cX5_alike 66 = .ok (.iload 4, 2) := by decide +kernel
theorem dX5_alike_68 : decode cX5_alike 68 = .ok (.invokevirtual 175, 3) := by decide +kernel
theorem dX5_alike_71 : decode cX5_alike 71 = .ok (.ifCond .eq 7, 3) := by decide +kernel
theorem dX5_alike_74 : decode cX5_alike 74 = .ok (.iconst 1, 1) := by decide +kernel
theorem dX5_alike_75 : decode cX5_alike 75 = .ok (.goto 4, 3) := by decide +kernel
theorem dX5_alike_78 : decode cX5_alike 78 = .ok (.iconst 0, 1) := by decide +kernel
theorem dX5_alike_79 : decode cX5_alike 79 = .ok (.iadd, 1) := by decide +kernel
theorem dX5_alike_80 : decode cX5_alike 80 = .ok (.istore_n 3, 1) := by decide +kernel
theorem dX5_alike_81 : decode cX5_alike 81 = .ok (.iinc 4 1, 3) := by decide +kernel
theorem dX5_alike_84 : decode cX5_alike 84 = .ok (.goto (-29), 3) := by decide +kernel
theorem dX5_alike_87 : decode cX5_alike 87 = .ok (.iload_n 3, 1) := by decide +kernel
theorem dX5_alike_88 : decode cX5_alike 88 = .ok (.ireturn, 1) := by decide +kernel
theorem dX5_sign_0 : decode cX5_sign 0 = .ok (.aload_n 0, 1) := by decide +kernel
theorem dX5_sign_1 : decode cX5_sign 1 = .ok (.iconst 1, 1) := by decide +kernel
theorem dX5_sign_2 : decode cX5_sign 2 = .ok (.newarray .int, 2) := by decide +kernel
theorem dX5_sign_4 : decode cX5_sign 4 = .ok (.dup, 1) := by decide +kernel
theorem dX5_sign_5 : decode cX5_sign 5 = .ok (.iconst 0, 1) := by decide +kernel
theorem dX5_sign_6 : decode cX5_sign 6 = .ok (.iload_n 1, 1) := by decide +kernel
theorem dX5_sign_7 : decode cX5_sign 7 = .ok (.iastore, 1) := by decide +kernel
theorem dX5_sign_8 : decode cX5_sign 8 = .ok (.iconst 0, 1) := by decide +kernel
theorem dX5_sign_9 : decode cX5_sign 9 = .ok (.iconst 1, 1) := by decide +kernel
theorem dX5_sign_10 : decode cX5_sign 10 = .ok (.invokevirtual 66, 3) := by decide +kernel
theorem dX5_sign_13 : decode cX5_sign 13 = .ok (.return_, 1) := by decide +kernel
theorem dX5_all_0 : decode cX5_all 0 = .ok (.aload_n 0, 1) := by decide +kernel
theorem dX5_all_1 : decode cX5_all 1 = .ok (.iconst 0, 1) := by decide +kernel
theorem dX5_all_2 : decode cX5_all 2 = .ok (.putfield 53, 3) := by decide +kernel
theorem dX5_all_5 : decode cX5_all 5 = .ok (.aload_n 0, 1) := by decide +kernel
theorem dX5_all_6 : decode cX5_all 6 = .ok (.iconst 0, 1) := by decide +kernel
theorem dX5_all_7 : decode cX5_all 7 = .ok (.putfield 56, 3) := by decide +kernel
theorem dX5_all_10 : decode cX5_all 10 = .ok (.iconst 0, 1) := by decide +kernel
theorem dX5_all_11 : decode cX5_all 11 = .ok (.istore 4, 2) := by decide +kernel
theorem dX5_all_13 : decode cX5_all 13 = .ok (.iload 4, 2) := by decide +kernel
theorem dX5_all_15 : decode cX5_all 15 = .ok (.bipush 8, 2) := by decide +kernel
theorem dX5_all_17 : decode cX5_all 17 = .ok (.if_icmp .ge 169, 3) := by decide +kernel
theorem dX5_all_20 : decode cX5_all 20 = .ok (.ldc 45, 2) := by decide +kernel
theorem dX5_all_22 : decode cX5_all 22 = .ok (.iload 4, 2) := by decide +kernel
theorem dX5_all_24 : decode cX5_all 24 = .ok (.invokevirtual 79, 3) := by decide +kernel
theorem dX5_all_27 : decode cX5_all 27 = .ok (.istore 5, 2) := by decide +kernel
theorem dX5_all_29 : decode cX5_all 29 = .ok (.iload 5, 2) := by decide +kernel
theorem dX5_all_31 : decode cX5_all 31 = .ok (.iload_n 3, 1) := by decide +kernel
theorem dX5_all_32 : decode cX5_all 32 = .ok (.if_icmp .ne 7, 3) := by decide +kernel
theorem dX5_all_35 : decode cX5_all 35 = .ok (.iload_n 2, 1) := by decide +kernel
theorem dX5_all_36 : decode cX5_all 36 = .ok (.goto 4, 3) := by decide +kernel
theorem dX5_all_39 : decode cX5_all 39 = .ok (.iload_n 1, 1) := by decide +kernel
theorem dX5_all_40 : decode cX5_all 40 = .ok (.istore 6, 2) := by decide +kernel
theorem dX5_all_42 : decode cX5_all 42 = .ok (.iload 5, 2) := by decide +kernel
theorem dX5_all_44 : decode cX5_all 44 = .ok (.bipush 109, 2) := by decide +kernel
theorem dX5_all_46 : decode cX5_all 46 = .ok (.if_icmp .ne 21, 3) := by decide +kernel
theorem dX5_all_49 : decode cX5_all 49 = .ok (.aload_n 0, 1) := by decide +kernel
theorem dX5_all_50 : decode cX5_all 50 = .ok (.iload_n 1, 1) := by decide +kernel
theorem dX5_all_51 : decode cX5_all 51 = .ok (.bipush 112, 2) := by decide +kernel
theorem dX5_all_53 : decode cX5_all 53 = .ok (.invokevirtual 160, 3) := by decide +kernel
theorem dX5_all_56 : decode cX5_all 56 = .ok (.ifCond .ne 7, 3) := by decide +kernel
theorem dX5_all_59 : decode cX5_all 59 = .ok (.iconst 1, 1) := by decide +kernel
theorem dX5_all_60 : decode cX5_all 60 = .ok (.goto 37, 3) := by decide +kernel
theorem dX5_all_63 : decode cX5_all 63 = .ok (.iconst 0, 1) := by decide +kernel
theorem dX5_all_64 : decode cX5_all 64 = .ok (.goto 33, 3) := by decide +kernel
theorem dX5_all_67 : decode cX5_all 67 = .ok (.iload 5, 2) := by decide +kernel
theorem dX5_all_69 : decode cX5_all 69 = .ok (.bipush 117, 2) := by decide +kernel
theorem dX5_all_71 : decode cX5_all 71 = .ok (.if_icmp .eq 25, 3) := by decide +kernel
theorem dX5_all_74 : decode cX5_all 74 = .ok (.iload 5, 2) := by decide +kernel
theorem dX5_all_76 : decode cX5_all 76 = .ok (.bipush 104, 2) := by decide +kernel
theorem dX5_all_78 : decode cX5_all 78 = .ok (.if_icmp .eq 18, 3) := by decide +kernel
theorem dX5_all_81 : decode cX5_all 81 = .ok (.aload_n 0, 1) := by decide +kernel
theorem dX5_all_82 : decode cX5_all 82 = .ok (.iload 6, 2) := by decide +kernel
theorem dX5_all_84 : decode cX5_all 84 = .ok (.iload 5, 2) := by decide +kernel
theorem dX5_all_86 : decode cX5_all 86 = .ok (.invokevirtual 160, 3) := by decide +kernel
theorem dX5_all_89 : decode cX5_all 89 = .ok (.ifCond .eq 7, 3) := by decide +kernel
theorem dX5_all_92 : decode cX5_all 92 = .ok (.iconst 1, 1) := by decide +kernel
theorem dX5_all_93 : decode cX5_all 93 = .ok (.goto 4, 3) := by decide +kernel
theorem dX5_all_96 : decode cX5_all 96 = .ok (.iconst 0, 1) := by decide +kernel
theorem dX5_all_97 : decode cX5_all 97 = .ok (.istore 7, 2) := by decide +kernel
theorem dX5_all_99 : decode cX5_all 99 = .ok (.iload 7, 2) := by decide +kernel
theorem dX5_all_101 : decode cX5_all 101 = .ok (.ifCond .ne 6, 3) := by decide +kernel
theorem dX5_all_104 : decode cX5_all 104 = .ok (.goto 76, 3) := by decide +kernel
theorem dX5_all_107 : decode cX5_all 107 = .ok (.iload 5, 2) := by decide +kernel
theorem dX5_all_109 : decode cX5_all 109 = .ok (.bipush 97, 2) := by decide +kernel
theorem dX5_all_111 : decode cX5_all 111 = .ok (.if_icmp .ne 9, 3) := by decide +kernel
theorem dX5_all_114 : decode cX5_all 114 = .ok (.aload_n 0, 1) := by decide +kernel
theorem dX5_all_115 : decode cX5_all 115 = .ok (.bipush 47, 2) := by decide +kernel
theorem dX5_all_117 : decode cX5_all 117 = .ok (.invokevirtual 178, 3) := by decide +kernel
theorem dX5_all_120 : decode cX5_all 120 = .ok (.iload 5, 2) := by decide +kernel
theorem dX5_all_122 : decode cX5_all 122 = .ok (.bipush 97, 2) := by decide +kernel
theorem dX5_all_124 : decode cX5_all 124 = .ok (.if_icmp .ne 9, 3) := by decide +kernel
theorem dX5_all_127 : decode cX5_all 127 = .ok (.aload_n 0, 1) := by decide +kernel
theorem dX5_all_128 : decode cX5_all 128 = .ok (.bipush 47, 2) := by decide +kernel
theorem dX5_all_130 : decode cX5_all 130 = .ok (.invokevirtual 178, 3) := by decide +kernel
theorem dX5_all_133 : decode cX5_all 133 = .ok (.iload 5, 2) := by decide +kernel
theorem dX5_all_135 : decode cX5_all 135 = .ok (.bipush 113, 2) := by decide +kernel
theorem dX5_all_137 : decode cX5_all 137 = .ok (.if_icmp .ne 9, 3) := by decide +kernel
theorem dX5_all_140 : decode cX5_all 140 = .ok (.aload_n 0, 1) := by decide +kernel
theorem dX5_all_141 : decode cX5_all 141 = .ok (.bipush 63, 2) := by decide +kernel
theorem dX5_all_143 : decode cX5_all 143 = .ok (.invokevirtual 178, 3) := by decide +kernel
theorem dX5_all_146 : decode cX5_all 146 = .ok (.iload 5, 2) := by decide +kernel
theorem dX5_all_148 : decode cX5_all 148 = .ok (.bipush 102, 2) := by decide +kernel
theorem dX5_all_150 : decode cX5_all 150 = .ok (.if_icmp .ne 9, 3) := by decide +kernel
theorem dX5_all_153 : decode cX5_all 153 = .ok (.aload_n 0, 1) := by decide +kernel
theorem dX5_all_154 : decode cX5_all 154 = .ok (.bipush 35, 2) := by decide +kernel
theorem dX5_all_156 : decode cX5_all 156 = .ok (.invokevirtual 178, 3) := by decide +kernel
theorem dX5_all_159 : decode cX5_all 159 = .ok (.aload_n 0, 1) := by decide +kernel
theorem dX5_all_160 : decode cX5_all 160 = .ok (.iload 6, 2) := by decide +kernel
theorem dX5_all_162 : decode cX5_all 162 = .ok (.iload 5, 2) := by decide +kernel
theorem dX5_all_164 : decode cX5_all 164 = .ok (.invokevirtual 171, 3) := by decide +kernel
theorem dX5_all_167 : decode cX5_all 167 = .ok (.iload 5, 2) := by decide +kernel
theorem dX5_all_169 : decode cX5_all 169 = .ok (.bipush 115, 2) := by decide +kernel
theorem dX5_all_171 : decode cX5_all 171 = .ok (.if_icmp .ne 9, 3) := by decide +kernel
theorem dX5_all_174 : decode cX5_all 174 = .ok (.aload_n 0, 1) := by decide +kernel
theorem dX5_all_175 : decode cX5_all 175 = .ok (.bipush 58, 2) := by decide +kernel
theorem dX5_all_177 : decode cX5_all 177 = .ok (.invokevirtual 178, 3) := by decide +kernel
theorem dX5_all_180 : decode cX5_all 180 = .ok (.iinc 4 1, 3) := by decide +kernel
theorem dX5_all_183 : decode cX5_all 183 = .ok (.goto (-170), 3) := by decide +kernel
theorem dX5_all_186 : decode cX5_all 186 = .ok (.return_, 1) := by decide +kernel
theorem dX5_together_0 : decode cX5_together 0 = .ok (.aload_n 0, 1) := by decide +kernel
theorem dX5_together_1 : decode cX5_together 1 = .ok (.aload_n 0, 1) := by decide +kernel
theorem dX5_together_2 : decode cX5_together 2 = .ok (.iload_n 1, 1) := by decide +kernel
theorem dX5_together_3 : decode cX5_together 3 = .ok (.invokevirtual 157, 3) := by decide +kernel
theorem dX5_together_6 : decode cX5_together 6 = .ok (.invokevirtual 63, 3) := by decide +kernel
theorem dX5_together_9 : decode cX5_together 9 = .ok (.ifCond .eq 5, 3) := by decide +kernel
theorem dX5_together_12 : decode cX5_together 12 = .ok (.iconst 0, 1) := by decide +kernel
theorem dX5_together_13 : decode cX5_together 13 = .ok (.ireturn, 1) := by decide +kernel
theorem dX5_together_14 : decode cX5_together 14 = .ok (.aload_n 0, 1) := by decide +kernel
theorem dX5_together_15 : decode cX5_together 15 = .ok (.iload_n 1, 1) := by decide +kernel
theorem dX5_together_16 : decode cX5_together 16 = .ok (.iload_n 1, 1) := by decide +kernel
theorem dX5_together_17 : decode cX5_together 17 = .ok (.bipush 115, 2) := by decide +kernel
theorem dX5_together_19 : decode cX5_together 19 = .ok (.invokevirtual 182, 3) := by decide +kernel
theorem dX5_together_22 : decode cX5_together 22 = .ok (.aload_n 0, 1) := by decide +kernel
theorem dX5_together_23 : decode cX5_together 23 = .ok (.getfield 53, 3) := by decide +kernel
theorem dX5_together_26 : decode cX5_together 26 = .ok (.aload_n 0, 1) := by decide +kernel
theorem dX5_together_27 : decode cX5_together 27 = .ok (.getfield 19, 3) := by decide +kernel
theorem dX5_together_30 : decode cX5_together 30 = .ok (.iload_n 1, 1) := by decide +kernel
theorem dX5_together_31 : decode cX5_together 31 = .ok (.iaload, 1) := by decide +kernel
theorem dX5_together_32 : decode cX5_together 32 = .ok (.if_icmp .ne 7, 3) := by decide +kernel
theorem dX5_together_35 : decode cX5_together 35 = .ok (.iconst 1, 1) := by decide +kernel
theorem dX5_together_36 : decode cX5_together 36 = .ok (.goto 4, 3) := by decide +kernel
theorem dX5_together_39 : decode cX5_together 39 = .ok (.iconst 0, 1) := by decide +kernel
theorem dX5_together_40 : decode cX5_together 40 = .ok (.istore_n 2, 1) := by decide +kernel
theorem dX5_together_41 : decode cX5_together 41 = .ok (.iconst 0, 1) := by decide +kernel
theorem dX5_together_42 : decode cX5_together 42 = .ok (.istore_n 3, 1) := by decide +kernel
theorem dX5_together_43 : decode cX5_together 43 = .ok (.iload_n 2, 1) := by decide +kernel
theorem dX5_together_44 : decode cX5_together 44 = .ok (.ifCond .eq 43, 3) := by decide +kernel
theorem dX5_together_47 : decode cX5_together 47 = .ok (.iload_n 3, 1) := by decide +kernel
theorem dX5_together_48 : decode cX5_together 48 = .ok (.aload_n 0, 1) := by decide +kernel
theorem dX5_together_49 : decode cX5_together 49 = .ok (.getfield 53, 3) := by decide +kernel
theorem dX5_together_52 : decode cX5_together 52 = .ok (.if_icmp .ge 35, 3) := by decide +kernel
theorem dX5_together_55 : decode cX5_together 55 = .ok (.aload_n 0, 1) := by decide +kernel
theorem dX5_together_56 : decode cX5_together 56 = .ok (.getfield 7, 3) := by decide +kernel
theorem dX5_together_59 : decode cX5_together 59 = .ok (.iload_n 3, 1) := by decide +kernel
theorem dX5_together_60 : decode cX5_together 60 = .ok (.iaload, 1) := by decide +kernel
theorem dX5_together_61 : decode cX5_together 61 = .ok (.aload_n 0, 1) := by decide +kernel
theorem dX5_together_62 : decode cX5_together 62 = .ok (.getfield 16, 3) := by decide +kernel
theorem dX5_together_65 : decode cX5_together 65 = .ok (.bipush 60, 2) := by decide +kernel
theorem dX5_together_67 : decode cX5_together 67 = .ok (.iload_n 1, 1) := by decide +kernel
theorem dX5_together_68 : decode cX5_together 68 = .ok (.imul, 1) := by decide +kernel
theorem dX5_together_69 : decode cX5_together 69 = .ok (.iload_n 3, 1) := by decide +kernel
theorem dX5_together_70 : decode cX5_together 70 = .ok (.iadd, 1) := by decide +kernel
theorem dX5_together_71 : decode cX5_together 71 = .ok (.iaload, 1) := by decide +kernel
theorem dX5_together_72 : decode cX5_together 72 = .ok (.if_icmp .ne 7, 3) := by decide +kernel
theorem dX5_together_75 : decode cX5_together 75 = .ok (.iconst 1, 1) := by decide +kernel
theorem dX5_together_76 : decode cX5_together 76 = .ok (.goto 4, 3) := by decide +kernel
theorem dX5_together_79 : decode cX5_together 79 = .ok (.iconst 0, 1) := by decide +kernel
theorem dX5_together_80 : decode cX5_together 80 = .ok (.istore_n 2, 1) := by decide +kernel
theorem dX5_together_81 : decode cX5_together 81 = .ok (.iinc 3 1, 3) := by decide +kernel
theorem dX5_together_84 : decode cX5_together 84 = .ok (.goto (-41), 3) := by decide +kernel
theorem dX5_together_87 : decode cX5_together 87 = .ok (.iload_n 2, 1) := by decide +kernel
theorem dX5_together_88 : decode cX5_together 88 = .ok (.ireturn, 1) := by decide +kernel
theorem dX5_taken_0 : decode cX5_taken 0 = .ok (.aload_n 0, 1) := by decide +kernel
theorem dX5_taken_1 : decode cX5_taken 1 = .ok (.iload_n 1, 1) := by decide +kernel
theorem dX5_taken_2 : decode cX5_taken 2 = .ok (.iload_n 2, 1) := by decide +kernel
theorem dX5_taken_3 : decode cX5_taken 3 = .ok (.invokevirtual 160, 3) := by decide +kernel
theorem dX5_taken_6 : decode cX5_taken 6 = .ok (.ifCond .ne 5, 3) := by decide +kernel
theorem dX5_taken_9 : decode cX5_taken 9 = .ok (.iconst 0, 1) := by decide +kernel
theorem dX5_taken_10 : decode cX5_taken 10 = .ok (.ireturn, 1) := by decide +kernel
theorem dX5_taken_11 : decode cX5_taken 11 = .ok (.aload_n 0, 1) := by decide +kernel
theorem dX5_taken_12 : decode cX5_taken 12 = .ok (.iload_n 1, 1) := by decide +kernel
theorem dX5_taken_13 : decode cX5_taken 13 = .ok (.iload_n 2, 1) := by decide +kernel
theorem dX5_taken_14 : decode cX5_taken 14 = .ok (.invokestatic 100, 3) := by decide +kernel
theorem dX5_taken_17 : decode cX5_taken 17 = .ok (.invokevirtual 168, 3) := by decide +kernel
theorem dX5_taken_20 : decode cX5_taken 20 = .ok (.iload_n 2, 1) := by decide +kernel
theorem dX5_taken_21 : decode cX5_taken 21 = .ok (.bipush 97, 2) := by decide +kernel
theorem dX5_taken_23 : decode cX5_taken 23 = .ok (.if_icmp .ne 7, 3) := by decide +kernel
theorem dX5_taken_26 : decode cX5_taken 26 = .ok (.iconst 2, 1) := by decide +kernel
theorem dX5_taken_27 : decode cX5_taken 27 = .ok (.goto 14, 3) := by decide +kernel
theorem dX5_taken_30 : decode cX5_taken 30 = .ok (.iload_n 2, 1) := by decide +kernel
theorem dX5_taken_31 : decode cX5_taken 31 = .ok (.bipush 112, 2) := by decide +kernel
theorem dX5_taken_33 : decode cX5_taken 33 = .ok (.if_icmp .ne 7, 3) := by decide +kernel
theorem dX5_taken_36 : decode cX5_taken 36 = .ok (.iconst 0, 1) := by decide +kernel
theorem dX5_taken_37 : decode cX5_taken 37 = .ok (.goto 4, 3) := by decide +kernel
theorem dX5_taken_40 : decode cX5_taken 40 = .ok (.iconst 1, 1) := by decide +kernel
theorem dX5_taken_41 : decode cX5_taken 41 = .ok (.iadd, 1) := by decide +kernel
theorem dX5_taken_42 : decode cX5_taken 42 = .ok (.ireturn, 1) := by decide +kernel
theorem dX5_mix_0 : decode cX5_mix 0 = .ok (.iload_n 3, 1) := by decide +kernel
theorem dX5_mix_1 : decode cX5_mix 1 = .ok (.bipush 115, 2) := by decide +kernel
theorem dX5_mix_3 : decode cX5_mix 3 = .ok (.if_icmp .eq 27, 3) := by decide +kernel
theorem dX5_mix_6 : decode cX5_mix 6 = .ok (.iload_n 3, 1) := by decide +kernel
theorem dX5_mix_7 : decode cX5_mix 7 = .ok (.bipush 97, 2) := by decide +kernel
theorem dX5_mix_9 : decode cX5_mix 9 = .ok (.if_icmp .eq 21, 3) := by decide +kernel
theorem dX5_mix_12 : decode cX5_mix 12 = .ok (.iload_n 3, 1) := by decide +kernel
theorem dX5_mix_13 : decode cX5_mix 13 = .ok (.bipush 112, 2) := by decide +kernel
theorem dX5_mix_15 : decode cX5_mix 15 = .ok (.if_icmp .eq 15, 3) := by decide +kernel
theorem dX5_mix_18 : decode cX5_mix 18 = .ok (.iload_n 3, 1) := by decide +kernel
theorem dX5_mix_19 : decode cX5_mix 19 = .ok (.bipush 113, 2) := by decide +kernel
theorem dX5_mix_21 : decode cX5_mix 21 = .ok (.if_icmp .eq 9, 3) := by decide +kernel
theorem dX5_mix_24 : decode cX5_mix 24 = .ok (.iload_n 3, 1) := by decide +kernel
theorem dX5_mix_25 : decode cX5_mix 25 = .ok (.bipush 102, 2) := by decide +kernel
theorem dX5_mix_27 : decode cX5_mix 27 = .ok (.if_icmp .ne 7, 3) := by decide +kernel
theorem dX5_mix_30 : decode cX5_mix 30 = .ok (.iconst 1, 1) := by decide +kernel
theorem dX5_mix_31 : decode cX5_mix 31 = .ok (.goto 4, 3) := by decide +kernel
theorem dX5_mix_34 : decode cX5_mix 34 = .ok (.iconst 0, 1) := by decide +kernel
theorem dX5_mix_35 : decode cX5_mix 35 = .ok (.istore 4, 2) := by decide +kernel
theorem dX5_mix_37 : decode cX5_mix 37 = .ok (.iload_n 1, 1) := by decide +kernel
theorem dX5_mix_38 : decode cX5_mix 38 = .ok (.invokestatic 145, 3) := by decide +kernel
theorem dX5_mix_41 : decode cX5_mix 41 = .ok (.ifCond .eq 10, 3) := by decide +kernel
theorem dX5_mix_44 : decode cX5_mix 44 = .ok (.iload_n 2, 1) := by decide +kernel
theorem dX5_mix_45 : decode cX5_mix 45 = .ok (.invokestatic 145, 3) := by decide +kernel
theorem dX5_mix_48 : decode cX5_mix 48 = .ok (.ifCond .ne 7, 3) := by decide +kernel
theorem dX5_mix_51 : decode cX5_mix 51 = .ok (.iconst 1, 1) := by decide +kernel
theorem dX5_mix_52 : decode cX5_mix 52 = .ok (.goto 59, 3) := by decide +kernel
theorem dX5_mix_55 : decode cX5_mix 55 = .ok (.aload_n 0, 1) := by decide +kernel
theorem dX5_mix_56 : decode cX5_mix 56 = .ok (.getfield 19, 3) := by decide +kernel
theorem dX5_mix_59 : decode cX5_mix 59 = .ok (.iload_n 1, 1) := by decide +kernel
theorem dX5_mix_60 : decode cX5_mix 60 = .ok (.iaload, 1) := by decide +kernel
theorem dX5_mix_61 : decode cX5_mix 61 = .ok (.ifCond .lt 12, 3) := by decide +kernel
theorem dX5_mix_64 : decode cX5_mix 64 = .ok (.aload_n 0, 1) := by decide +kernel
theorem dX5_mix_65 : decode cX5_mix 65 = .ok (.getfield 19, 3) := by decide +kernel
theorem dX5_mix_68 : decode cX5_mix 68 = .ok (.iload_n 2, 1) := by decide +kernel
theorem dX5_mix_69 : decode cX5_mix 69 = .ok (.iaload, 1) := by decide +kernel
theorem dX5_mix_70 : decode cX5_mix 70 = .ok (.ifCond .ge 7, 3) := by decide +kernel
theorem dX5_mix_73 : decode cX5_mix 73 = .ok (.iconst 2, 1) := by decide +kernel
theorem dX5_mix_74 : decode cX5_mix 74 = .ok (.goto 37, 3) := by decide +kernel
theorem dX5_mix_77 : decode cX5_mix 77 = .ok (.iload 4, 2) := by decide +kernel
theorem dX5_mix_79 : decode cX5_mix 79 = .ok (.ifCond .ne 7, 3) := by decide +kernel
theorem dX5_mix_82 : decode cX5_mix 82 = .ok (.iconst 3, 1) := by decide +kernel
theorem dX5_mix_83 : decode cX5_mix 83 = .ok (.goto 28, 3) := by decide +kernel
theorem dX5_mix_86 : decode cX5_mix 86 = .ok (.aload_n 0, 1) := by decide +kernel
theorem dX5_mix_87 : decode cX5_mix 87 = .ok (.iload_n 1, 1) := by decide +kernel
theorem dX5_mix_88 : decode cX5_mix 88 = .ok (.bipush 112, 2) := by decide +kernel
theorem dX5_mix_90 : decode cX5_mix 90 = .ok (.invokevirtual 160, 3) := by decide +kernel
theorem dX5_mix_93 : decode cX5_mix 93 = .ok (.ifCond .eq 17, 3) := by decide +kernel
theorem dX5_mix_96 : decode cX5_mix 96 = .ok (.aload_n 0, 1) := by decide +kernel
theorem dX5_mix_97 : decode cX5_mix 97 = .ok (.iload_n 2, 1) := by decide +kernel
theorem dX5_mix_98 : decode cX5_mix 98 = .ok (.bipush 112, 2) := by decide +kernel
theorem dX5_mix_100 : decode cX5_mix 100 = .ok (.invokevirtual 160, 3) := by decide +kernel
theorem dX5_mix_103 : decode cX5_mix 103 = .ok (.ifCond .eq 7, 3) := by decide +kernel
theorem dX5_mix_106 : decode cX5_mix 106 = .ok (.iconst 0, 1) := by decide +kernel
theorem dX5_mix_107 : decode cX5_mix 107 = .ok (.goto 4, 3) := by decide +kernel
theorem dX5_mix_110 : decode cX5_mix 110 = .ok (.iconst 4, 1) := by decide +kernel
theorem dX5_mix_111 : decode cX5_mix 111 = .ok (.istore 5, 2) := by decide +kernel
theorem dX5_mix_113 : decode cX5_mix 113 = .ok (.iconst 0, 1) := by decide +kernel
theorem dX5_mix_114 : decode cX5_mix 114 = .ok (.istore 6, 2) := by decide +kernel
theorem dX5_mix_116 : decode cX5_mix 116 = .ok (.iconst 0, 1) := by decide +kernel
theorem dX5_mix_117 : decode cX5_mix 117 = .ok (.istore 7, 2) := by decide +kernel
theorem dX5_mix_119 : decode cX5_mix 119 = .ok (.iload 5, 2) := by decide +kernel
theorem dX5_mix_121 : decode cX5_mix 121 = .ok (.ifCond .ne 46, 3) := by decide +kernel
theorem dX5_mix_124 : decode cX5_mix 124 = .ok (.iload 7, 2) := by decide +kernel
theorem dX5_mix_126 : decode cX5_mix 126 = .ok (.iconst 5, 1) := by decide +kernel
theorem dX5_mix_127 : decode cX5_mix 127 = .ok (.if_icmp .ge 40, 3) := by decide +kernel
theorem dX5_mix_130 : decode cX5_mix 130 = .ok (.ldc 186, 2) := by decide +kernel
theorem dX5_mix_132 : decode cX5_mix 132 = .ok (.iload 7, 2) := by decide +kernel
theorem dX5_mix_134 : decode cX5_mix 134 = .ok (.invokevirtual 79, 3) := by decide +kernel
theorem dX5_mix_137 : decode cX5_mix 137 = .ok (.istore 8, 2) := by decide +kernel
theorem dX5_mix_139 : decode cX5_mix 139 = .ok (.iload 6, 2) := by decide +kernel
theorem dX5_mix_141 : decode cX5_mix 141 = .ok (.aload_n 0, 1) := by decide +kernel
theorem dX5_mix_142 : decode cX5_mix 142 = .ok (.iload 8, 2) := by decide +kernel
theorem dX5_mix_144 : decode cX5_mix 144 = .ok (.iload_n 3, 1) := by decide +kernel
theorem dX5_mix_145 : decode cX5_mix 145 = .ok (.if_icmp .ne 7, 3) := by decide +kernel
theorem dX5_mix_148 : decode cX5_mix 148 = .ok (.iload_n 2, 1) := by decide +kernel
theorem dX5_mix_149 : decode cX5_mix 149 = .ok (.goto 4, 3) := by decide +kernel
theorem dX5_mix_152 : decode cX5_mix 152 = .ok (.iload_n 1, 1) := by decide +kernel
theorem dX5_mix_153 : decode cX5_mix 153 = .ok (.iload 8, 2) := by decide +kernel
theorem dX5_mix_155 : decode cX5_mix 155 = .ok (.invokevirtual 188, 3) := by decide +kernel
theorem dX5_mix_158 : decode cX5_mix 158 = .ok (.iadd, 1) := by decide +kernel
theorem dX5_mix_159 : decode cX5_mix 159 = .ok (.istore 6, 2) := by decide +kernel
theorem dX5_mix_161 : decode cX5_mix 161 = .ok (.iinc 7 1, 3) := by decide +kernel
theorem dX5_mix_164 : decode cX5_mix 164 = .ok (.goto (-45), 3) := by decide +kernel
theorem dX5_mix_167 : decode cX5_mix 167 = .ok (.aload_n 0, 1) := by decide +kernel
theorem dX5_mix_168 : decode cX5_mix 168 = .ok (.iload 5, 2) := by decide +kernel
theorem dX5_mix_170 : decode cX5_mix 170 = .ok (.ifCond .le 8, 3) := by decide +kernel
theorem dX5_mix_173 : decode cX5_mix 173 = .ok (.iload 5, 2) := by decide +kernel
theorem dX5_mix_175 : decode cX5_mix 175 = .ok (.goto 15, 3) := by decide +kernel
theorem dX5_mix_178 : decode cX5_mix 178 = .ok (.iload 6, 2) := by decide +kernel
theorem dX5_mix_180 : decode cX5_mix 180 = .ok (.bipush 60, 2) := by decide +kernel
theorem dX5_mix_182 : decode cX5_mix 182 = .ok (.if_icmp .le 7, 3) := by decide +kernel
theorem dX5_mix_185 : decode cX5_mix 185 = .ok (.iconst 5, 1) := by decide +kernel
theorem dX5_mix_186 : decode cX5_mix 186 = .ok (.goto 4, 3) := by decide +kernel
theorem dX5_mix_189 : decode cX5_mix 189 = .ok (.iconst 0, 1) := by decide +kernel
theorem dX5_mix_190 : decode cX5_mix 190 = .ok (.invokevirtual 63, 3) := by decide +kernel
theorem dX5_mix_193 : decode cX5_mix 193 = .ok (.ifCond .eq 5, 3) := by decide +kernel
theorem dX5_mix_196 : decode cX5_mix 196 = .ok (.iconst 0, 1) := by decide +kernel
theorem dX5_mix_197 : decode cX5_mix 197 = .ok (.ireturn, 1) := by decide +kernel
theorem dX5_mix_198 : decode cX5_mix 198 = .ok (.aload_n 0, 1) := by decide +kernel
theorem dX5_mix_199 : decode cX5_mix 199 = .ok (.iload_n 1, 1) := by decide +kernel
theorem dX5_mix_200 : decode cX5_mix 200 = .ok (.iload_n 2, 1) := by decide +kernel
theorem dX5_mix_201 : decode cX5_mix 201 = .ok (.iload_n 3, 1) := by decide +kernel
theorem dX5_mix_202 : decode cX5_mix 202 = .ok (.invokevirtual 182, 3) := by decide +kernel
theorem dX5_mix_205 : decode cX5_mix 205 = .ok (.aload_n 0, 1) := by decide +kernel
theorem dX5_mix_206 : decode cX5_mix 206 = .ok (.getfield 53, 3) := by decide +kernel
theorem dX5_mix_209 : decode cX5_mix 209 = .ok (.ireturn, 1) := by decide +kernel
theorem dX5_isTrue_0 : decode cX5_isTrue 0 = .ok (.aload_n 0, 1) := by decide +kernel
theorem dX5_isTrue_1 : decode cX5_isTrue 1 = .ok (.iconst 0, 1) := by decide +kernel
theorem dX5_isTrue_2 : decode cX5_isTrue 2 = .ok (.putfield 37, 3) := by decide +kernel
theorem dX5_isTrue_5 : decode cX5_isTrue 5 = .ok (.iconst 1, 1) := by decide +kernel
theorem dX5_isTrue_6 : decode cX5_isTrue 6 = .ok (.ireturn, 1) := by decide +kernel
theorem dX5_checksum_0 : decode cX5_checksum 0 = .ok (.aload_n 0, 1) := by decide +kernel
theorem dX5_checksum_1 : decode cX5_checksum 1 = .ok (.iconst 0, 1) := by decide +kernel
theorem dX5_checksum_2 : decode cX5_checksum 2 = .ok (.putfield 37, 3) := by decide +kernel
theorem dX5_checksum_5 : decode cX5_checksum 5 = .ok (.ldc2_w 191, 3) := by decide +kernel
theorem dX5_checksum_8 : decode cX5_checksum 8 = .ok (.lstore_n 1, 1) := by decide +kernel
theorem dX5_checksum_9 : decode cX5_checksum 9 = .ok (.iconst 0, 1) := by decide +kernel
theorem dX5_checksum_10 : decode cX5_checksum 10 = .ok (.istore_n 3, 1) := by decide +kernel
theorem dX5_checksum_11 : decode cX5_checksum 11 = .ok (.iload_n 3, 1) := by decide +kernel
theorem dX5_checksum_12 : decode cX5_checksum 12 = .ok (.aload_n 0, 1) := by decide +kernel
theorem dX5_checksum_13 : decode cX5_checksum 13 = .ok (.getfield 53, 3) := by decide +kernel
theorem dX5_checksum_16 : decode cX5_checksum 16 = .ok (.if_icmp .ge 23, 3) := by decide +kernel
theorem dX5_checksum_19 : decode cX5_checksum 19 = .ok (.ldc2_w 193, 3) := by decide +kernel
theorem dX5_checksum_22 : decode cX5_checksum 22 = .ok (.lload_n 1, 1) := by decide +kernel
theorem dX5_checksum_23 : decode cX5_checksum 23 = .ok (.lmul, 1) := by decide +kernel
theorem dX5_checksum_24 : decode cX5_checksum 24 = .ok (.aload_n 0, 1) := by decide +kernel
theorem dX5_checksum_25 : decode cX5_checksum 25 = .ok (.getfield 7, 3) := by decide +kernel
theorem dX5_checksum_28 : decode cX5_checksum 28 = .ok (.iload_n 3, 1) := by decide +kernel
theorem dX5_checksum_29 : decode cX5_checksum 29 = .ok (.iaload, 1) := by decide +kernel
theorem dX5_checksum_30 : decode cX5_checksum 30 = .ok (.i2l, 1) := by decide +kernel
theorem dX5_checksum_31 : decode cX5_checksum 31 = .ok (.ladd, 1) := by decide +kernel
theorem dX5_checksum_32 : decode cX5_checksum 32 = .ok (.lstore_n 1, 1) := by decide +kernel
theorem dX5_checksum_33 : decode cX5_checksum 33 = .ok (.iinc 3 1, 3) := by decide +kernel
theorem dX5_checksum_36 : decode cX5_checksum 36 = .ok (.goto (-25), 3) := by decide +kernel
theorem dX5_checksum_39 : decode cX5_checksum 39 = .ok (.ldc2_w 193, 3) := by decide +kernel
theorem dX5_checksum_42 : decode cX5_checksum 42 = .ok (.lload_n 1, 1) := by decide +kernel
theorem dX5_checksum_43 : decode cX5_checksum 43 = .ok (.lmul, 1) := by decide +kernel
theorem dX5_checksum_44 : decode cX5_checksum 44 = .ok (.aload_n 0, 1) := by decide +kernel
theorem dX5_checksum_45 : decode cX5_checksum 45 = .ok (.getfield 151, 3) := by decide +kernel
theorem dX5_checksum_48 : decode cX5_checksum 48 = .ok (.i2l, 1) := by decide +kernel
theorem dX5_checksum_49 : decode cX5_checksum 49 = .ok (.ladd, 1) := by decide +kernel
theorem dX5_checksum_50 : decode cX5_checksum 50 = .ok (.lstore_n 1, 1) := by decide +kernel
theorem dX5_checksum_51 : decode cX5_checksum 51 = .ok (.iconst 0, 1) := by decide +kernel
theorem dX5_checksum_52 : decode cX5_checksum 52 = .ok (.istore_n 3, 1) := by decide +kernel
theorem dX5_checksum_53 : decode cX5_checksum 53 = .ok (.iload_n 3, 1) := by decide +kernel
theorem dX5_checksum_54 : decode cX5_checksum 54 = .ok (.iconst 4, 1) := by decide +kernel
theorem dX5_checksum_55 : decode cX5_checksum 55 = .ok (.if_icmp .ge 87, 3) := by decide +kernel
theorem dX5_checksum_58 : decode cX5_checksum 58 = .ok (.aload_n 0, 1) := by decide +kernel
theorem dX5_checksum_59 : decode cX5_checksum 59 = .ok (.getfield 19, 3) := by decide +kernel
theorem dX5_checksum_62 : decode cX5_checksum 62 = .ok (.iload_n 3, 1) := by decide +kernel
theorem dX5_checksum_63 : decode cX5_checksum 63 = .ok (.iaload, 1) := by decide +kernel
theorem dX5_checksum_64 : decode cX5_checksum 64 = .ok (.ifCond .ge 9, 3) := by decide +kernel
theorem dX5_checksum_67 : decode cX5_checksum 67 = .ok (.ldc2_w 193, 3) := by decide +kernel
theorem dX5_checksum_70 : decode cX5_checksum 70 = .ok (.lload_n 1, 1) := by decide +kernel
theorem dX5_checksum_71 : decode cX5_checksum 71 = .ok (.lmul, 1) := by decide +kernel
theorem dX5_checksum_72 : decode cX5_checksum 72 = .ok (.lstore_n 1, 1) := by decide +kernel
theorem dX5_checksum_73 : decode cX5_checksum 73 = .ok (.iconst 0, 1) := by decide +kernel
theorem dX5_checksum_74 : decode cX5_checksum 74 = .ok (.istore 4, 2) := by decide +kernel
theorem dX5_checksum_76 : decode cX5_checksum 76 = .ok (.iload 4, 2) := by decide +kernel
theorem dX5_checksum_78 : decode cX5_checksum 78 = .ok (.bipush 9, 2) := by decide +kernel
theorem dX5_checksum_80 : decode cX5_checksum 80 = .ok (.if_icmp .ge 33, 3) := by decide +kernel
theorem dX5_checksum_83 : decode cX5_checksum 83 = .ok (.aload_n 0, 1) := by decide +kernel
theorem dX5_checksum_84 : decode cX5_checksum 84 = .ok (.getfield 19, 3) := by decide +kernel
theorem dX5_checksum_87 : decode cX5_checksum 87 = .ok (.iload_n 3, 1) := by decide +kernel
theorem dX5_checksum_88 : decode cX5_checksum 88 = .ok (.iaload, 1) := by decide +kernel
theorem dX5_checksum_89 : decode cX5_checksum 89 = .ok (.ifCond .lt 24, 3) := by decide +kernel
theorem dX5_checksum_92 : decode cX5_checksum 92 = .ok (.ldc2_w 193, 3) := by decide +kernel
theorem dX5_checksum_95 : decode cX5_checksum 95 = .ok (.lload_n 1, 1) := by decide +kernel
theorem dX5_checksum_96 : decode cX5_checksum 96 = .ok (.lmul, 1) := by decide +kernel
theorem dX5_checksum_97 : decode cX5_checksum 97 = .ok (.aload_n 0, 1) := by decide +kernel
theorem dX5_checksum_98 : decode cX5_checksum 98 = .ok (.iload_n 3, 1) := by decide +kernel
theorem dX5_checksum_99 : decode cX5_checksum 99 = .ok (.iload 4, 2) := by decide +kernel
theorem dX5_checksum_101 : decode cX5_checksum 101 = .ok (.invokevirtual 168, 3) := by decide +kernel
theorem dX5_checksum_104 : decode cX5_checksum 104 = .ok (.i2l, 1) := by decide +kernel
theorem dX5_checksum_105 : decode cX5_checksum 105 = .ok (.ladd, 1) := by decide +kernel
theorem dX5_checksum_106 : decode cX5_checksum 106 = .ok (.lstore_n 1, 1) := by decide +kernel
theorem dX5_checksum_107 : decode cX5_checksum 107 = .ok (.iinc 4 1, 3) := by decide +kernel
theorem dX5_checksum_110 : decode cX5_checksum 110 = .ok (.goto (-34), 3) := by decide +kernel
theorem dX5_checksum_113 : decode cX5_checksum 113 = .ok (.aload_n 0, 1) := by decide +kernel
theorem dX5_checksum_114 : decode cX5_checksum 114 = .ok (.getfield 19, 3) := by decide +kernel
theorem dX5_checksum_117 : decode cX5_checksum 117 = .ok (.iload_n 3, 1) := by decide +kernel
theorem dX5_checksum_118 : decode cX5_checksum 118 = .ok (.iaload, 1) := by decide +kernel
theorem dX5_checksum_119 : decode cX5_checksum 119 = .ok (.ifCond .lt 17, 3) := by decide +kernel
theorem dX5_checksum_122 : decode cX5_checksum 122 = .ok (.ldc2_w 193, 3) := by decide +kernel
theorem dX5_checksum_125 : decode cX5_checksum 125 = .ok (.lload_n 1, 1) := by decide +kernel
theorem dX5_checksum_126 : decode cX5_checksum 126 = .ok (.lmul, 1) := by decide +kernel
theorem dX5_checksum_127 : decode cX5_checksum 127 = .ok (.aload_n 0, 1) := by decide +kernel
theorem dX5_checksum_128 : decode cX5_checksum 128 = .ok (.getfield 28, 3) := by decide +kernel
theorem dX5_checksum_131 : decode cX5_checksum 131 = .ok (.iload_n 3, 1) := by decide +kernel
theorem dX5_checksum_132 : decode cX5_checksum 132 = .ok (.iaload, 1) := by decide +kernel
theorem dX5_checksum_133 : decode cX5_checksum 133 = .ok (.i2l, 1) := by decide +kernel
theorem dX5_checksum_134 : decode cX5_checksum 134 = .ok (.ladd, 1) := by decide +kernel
theorem dX5_checksum_135 : decode cX5_checksum 135 = .ok (.lstore_n 1, 1) := by decide +kernel
theorem dX5_checksum_136 : decode cX5_checksum 136 = .ok (.iinc 3 1, 3) := by decide +kernel
theorem dX5_checksum_139 : decode cX5_checksum 139 = .ok (.goto (-86), 3) := by decide +kernel
theorem dX5_checksum_142 : decode cX5_checksum 142 = .ok (.lload_n 1, 1) := by decide +kernel
theorem dX5_checksum_143 : decode cX5_checksum 143 = .ok (.lreturn, 1) := by decide +kernel
end
section
theorem dL_type_0 : decode cL_type 0 = .ok (.aload_n 2, 1) := by decide +kernel
theorem dL_type_1 : decode cL_type 1 = .ok (.iconst 0, 1) := by decide +kernel
theorem dL_type_2 : decode cL_type 2 = .ok (.aload_n 0, 1) := by decide +kernel
theorem dL_type_3 : decode cL_type 3 = .ok (.iload_n 1, 1) := by decide +kernel
theorem dL_type_4 : decode cL_type 4 = .ok (.invokevirtual 7, 3) := by decide +kernel
theorem dL_type_7 : decode cL_type 7 = .ok (.i2l, 1) := by decide +kernel
theorem dL_type_8 : decode cL_type 8 = .ok (.lastore, 1) := by decide +kernel
theorem dL_type_9 : decode cL_type 9 = .ok (.goto 9, 3) := by decide +kernel
theorem dL_type_12 : decode cL_type 12 = .ok (.astore_n 3, 1) := by decide +kernel
theorem dL_type_13 : decode cL_type 13 = .ok (.iconst 1, 1) := by decide +kernel
theorem dL_type_14 : decode cL_type 14 = .ok (.ireturn, 1) := by decide +kernel
theorem dL_type_15 : decode cL_type 15 = .ok (.astore_n 3, 1) := by decide +kernel
theorem dL_type_16 : decode cL_type 16 = .ok (.iconst 2, 1) := by decide +kernel
theorem dL_type_17 : decode cL_type 17 = .ok (.ireturn, 1) := by decide +kernel
theorem dL_type_18 : decode cL_type 18 = .ok (.iconst 0, 1) := by decide +kernel
theorem dL_type_19 : decode cL_type 19 = .ok (.ireturn, 1) := by decide +kernel
theorem dL_escape_0 : decode cL_escape 0 = .ok (.aload_n 3, 1) := by decide +kernel
theorem dL_escape_1 : decode cL_escape 1 = .ok (.iconst 0, 1) := by decide +kernel
theorem dL_escape_2 : decode cL_escape 2 = .ok (.aload_n 0, 1) := by decide +kernel
theorem dL_escape_3 : decode cL_escape 3 = .ok (.iload_n 1, 1) := by decide +kernel
theorem dL_escape_4 : decode cL_escape 4 = .ok (.iload_n 2, 1) := by decide +kernel
theorem dL_escape_5 : decode cL_escape 5 = .ok (.invokevirtual 17, 3) := by decide +kernel
theorem dL_escape_8 : decode cL_escape 8 = .ok (.i2l, 1) := by decide +kernel
theorem dL_escape_9 : decode cL_escape 9 = .ok (.lastore, 1) := by decide +kernel
theorem dL_escape_10 : decode cL_escape 10 = .ok (.goto 11, 3) := by decide +kernel
theorem dL_escape_13 : decode cL_escape 13 = .ok (.astore 4, 2) := by decide +kernel
theorem dL_escape_15 : decode cL_escape 15 = .ok (.iconst 1, 1) := by decide +kernel
theorem dL_escape_16 : decode cL_escape 16 = .ok (.ireturn, 1) := by decide +kernel
theorem dL_escape_17 : decode cL_escape 17 = .ok (.astore 4, 2) := by decide +kernel
theorem dL_escape_19 : decode cL_escape 19 = .ok (.iconst 2, 1) := by decide +kernel
theorem dL_escape_20 : decode cL_escape 20 = .ok (.ireturn, 1) := by decide +kernel
theorem dL_escape_21 : decode cL_escape 21 = .ok (.iconst 0, 1) := by decide +kernel
theorem dL_escape_22 : decode cL_escape 22 = .ok (.ireturn, 1) := by decide +kernel
theorem dL_word_0 : decode cL_word 0 = .ok (.aload_n 2, 1) := by decide +kernel
theorem dL_word_1 : decode cL_word 1 = .ok (.iconst 0, 1) := by decide +kernel
theorem dL_word_2 : decode cL_word 2 = .ok (.aload_n 0, 1) := by decide +kernel
theorem dL_word_3 : decode cL_word 3 = .ok (.iload_n 1, 1) := by decide +kernel
theorem dL_word_4 : decode cL_word 4 = .ok (.invokevirtual 21, 3) := by decide +kernel
theorem dL_word_7 : decode cL_word 7 = .ok (.i2l, 1) := by decide +kernel
theorem dL_word_8 : decode cL_word 8 = .ok (.lastore, 1) := by decide +kernel
theorem dL_word_9 : decode cL_word 9 = .ok (.goto 9, 3) := by decide +kernel
theorem dL_word_12 : decode cL_word 12 = .ok (.astore_n 3, 1) := by decide +kernel
theorem dL_word_13 : decode cL_word 13 = .ok (.iconst 1, 1) := by decide +kernel
theorem dL_word_14 : decode cL_word 14 = .ok (.ireturn, 1) := by decide +kernel
theorem dL_word_15 : decode cL_word 15 = .ok (.astore_n 3, 1) := by decide +kernel
theorem dL_word_16 : decode cL_word 16 = .ok (.iconst 2, 1) := by decide +kernel
theorem dL_word_17 : decode cL_word 17 = .ok (.ireturn, 1) := by decide +kernel
theorem dL_word_18 : decode cL_word 18 = .ok (.iconst 0, 1) := by decide +kernel
theorem dL_word_19 : decode cL_word 19 = .ok (.ireturn, 1) := by decide +kernel
theorem dL_drop_0 : decode cL_drop 0 = .ok (.aload_n 1, 1) := by decide +kernel
theorem dL_drop_1 : decode cL_drop 1 = .ok (.iconst 0, 1) := by decide +kernel
theorem dL_drop_2 : decode cL_drop 2 = .ok (.aload_n 0, 1) := by decide +kernel
theorem dL_drop_3 : decode cL_drop 3 = .ok (.invokevirtual 27, 3) := by decide +kernel
theorem dL_drop_6 : decode cL_drop 6 = .ok (.i2l, 1) := by decide +kernel
theorem dL_drop_7 : decode cL_drop 7 = .ok (.lastore, 1) := by decide +kernel
theorem dL_drop_8 : decode cL_drop 8 = .ok (.goto 6, 3) := by decide +kernel
theorem dL_drop_11 : decode cL_drop 11 = .ok (.astore_n 2, 1) := by decide +kernel
theorem dL_drop_12 : decode cL_drop 12 = .ok (.iconst 1, 1) := by decide +kernel
theorem dL_drop_13 : decode cL_drop 13 = .ok (.ireturn, 1) := by decide +kernel
theorem dL_drop_14 : decode cL_drop 14 = .ok (.iconst 0, 1) := by decide +kernel
theorem dL_drop_15 : decode cL_drop 15 = .ok (.ireturn, 1) := by decide +kernel
theorem dL_signAt_0 : decode cL_signAt 0 = .ok (.aload_n 2, 1) := by decide +kernel
theorem dL_signAt_1 : decode cL_signAt 1 = .ok (.iconst 0, 1) := by decide +kernel
theorem dL_signAt_2 : decode cL_signAt 2 = .ok (.aload_n 0, 1) := by decide +kernel
theorem dL_signAt_3 : decode cL_signAt 3 = .ok (.iload_n 1, 1) := by decide +kernel
theorem dL_signAt_4 : decode cL_signAt 4 = .ok (.invokevirtual 33, 3) := by decide +kernel
theorem dL_signAt_7 : decode cL_signAt 7 = .ok (.i2l, 1) := by decide +kernel
theorem dL_signAt_8 : decode cL_signAt 8 = .ok (.lastore, 1) := by decide +kernel
theorem dL_signAt_9 : decode cL_signAt 9 = .ok (.goto 6, 3) := by decide +kernel
theorem dL_signAt_12 : decode cL_signAt 12 = .ok (.astore_n 3, 1) := by decide +kernel
theorem dL_signAt_13 : decode cL_signAt 13 = .ok (.iconst 1, 1) := by decide +kernel
theorem dL_signAt_14 : decode cL_signAt 14 = .ok (.ireturn, 1) := by decide +kernel
theorem dL_signAt_15 : decode cL_signAt 15 = .ok (.iconst 0, 1) := by decide +kernel
theorem dL_signAt_16 : decode cL_signAt 16 = .ok (.ireturn, 1) := by decide +kernel
theorem dL_parse_0 : decode cL_parse 0 = .ok (.aload_n 2, 1) := by decide +kernel
theorem dL_parse_1 : decode cL_parse 1 = .ok (.iconst 0, 1) := by decide +kernel
theorem dL_parse_2 : decode cL_parse 2 = .ok (.aload_n 0, 1) := by decide +kernel
theorem dL_parse_3 : decode cL_parse 3 = .ok (.iload_n 1, 1) := by decide +kernel
theorem dL_parse_4 : decode cL_parse 4 = .ok (.invokevirtual 37, 3) := by decide +kernel
theorem dL_parse_7 : decode cL_parse 7 = .ok (.i2l, 1) := by decide +kernel
theorem dL_parse_8 : decode cL_parse 8 = .ok (.lastore, 1) := by decide +kernel
theorem dL_parse_9 : decode cL_parse 9 = .ok (.goto 9, 3) := by decide +kernel
theorem dL_parse_12 : decode cL_parse 12 = .ok (.astore_n 3, 1) := by decide +kernel
theorem dL_parse_13 : decode cL_parse 13 = .ok (.iconst 1, 1) := by decide +kernel
theorem dL_parse_14 : decode cL_parse 14 = .ok (.ireturn, 1) := by decide +kernel
theorem dL_parse_15 : decode cL_parse 15 = .ok (.astore_n 3, 1) := by decide +kernel
theorem dL_parse_16 : decode cL_parse 16 = .ok (.iconst 2, 1) := by decide +kernel
theorem dL_parse_17 : decode cL_parse 17 = .ok (.ireturn, 1) := by decide +kernel
theorem dL_parse_18 : decode cL_parse 18 = .ok (.iconst 0, 1) := by decide +kernel
theorem dL_parse_19 : decode cL_parse 19 = .ok (.ireturn, 1) := by decide +kernel
theorem dL_refusedAt_0 : decode cL_refusedAt 0 = .ok (.aload_n 1, 1) := by decide +kernel
theorem dL_refusedAt_1 : decode cL_refusedAt 1 = .ok (.iconst 0, 1) := by decide +kernel
theorem dL_refusedAt_2 : decode cL_refusedAt 2 = .ok (.aload_n 0, 1) := by decide +kernel
theorem dL_refusedAt_3 : decode cL_refusedAt 3 = .ok (.invokevirtual 40, 3) := by decide +kernel
theorem dL_refusedAt_6 : decode cL_refusedAt 6 = .ok (.i2l, 1) := by decide +kernel
theorem dL_refusedAt_7 : decode cL_refusedAt 7 = .ok (.lastore, 1) := by decide +kernel
theorem dL_refusedAt_8 : decode cL_refusedAt 8 = .ok (.goto 6, 3) := by decide +kernel
theorem dL_refusedAt_11 : decode cL_refusedAt 11 = .ok (.astore_n 2, 1) := by decide +kernel
theorem dL_refusedAt_12 : decode cL_refusedAt 12 = .ok (.iconst 1, 1) := by decide +kernel
theorem dL_refusedAt_13 : decode cL_refusedAt 13 = .ok (.ireturn, 1) := by decide +kernel
theorem dL_refusedAt_14 : decode cL_refusedAt 14 = .ok (.iconst 0, 1) := by decide +kernel
theorem dL_refusedAt_15 : decode cL_refusedAt 15 = .ok (.ireturn, 1) := by decide +kernel
theorem dL_isTold_0 : decode cL_isTold 0 = .ok (.aload_n 1, 1) := by decide +kernel
theorem dL_isTold_1 : decode cL_isTold 1 = .ok (.iconst 0, 1) := by decide +kernel
theorem dL_isTold_2 : decode cL_isTold 2 = .ok (.aload_n 0, 1) := by decide +kernel
theorem dL_isTold_3 : decode cL_isTold 3 = .ok (.invokevirtual 43, 3) := by decide +kernel
theorem dL_isTold_6 : decode cL_isTold 6 = .ok (.ifCond .eq 7, 3) := by decide +kernel
theorem dL_isTold_9 : decode cL_isTold 9 = .ok (.lconst 1, 1) := by decide +kernel
theorem dL_isTold_10 : decode cL_isTold 10 = .ok (.goto 4, 3) := by decide +kernel
theorem dL_isTold_13 : decode cL_isTold 13 = .ok (.lconst 0, 1) := by decide +kernel
theorem dL_isTold_14 : decode cL_isTold 14 = .ok (.lastore, 1) := by decide +kernel
theorem dL_isTold_15 : decode cL_isTold 15 = .ok (.goto 6, 3) := by decide +kernel
theorem dL_isTold_18 : decode cL_isTold 18 = .ok (.astore_n 2, 1) := by decide +kernel
theorem dL_isTold_19 : decode cL_isTold 19 = .ok (.iconst 1, 1) := by decide +kernel
theorem dL_isTold_20 : decode cL_isTold 20 = .ok (.ireturn, 1) := by decide +kernel
theorem dL_isTold_21 : decode cL_isTold 21 = .ok (.iconst 0, 1) := by decide +kernel
theorem dL_isTold_22 : decode cL_isTold 22 = .ok (.ireturn, 1) := by decide +kernel
theorem dL_isThere_0 : decode cL_isThere 0 = .ok (.aload_n 2, 1) := by decide +kernel
theorem dL_isThere_1 : decode cL_isThere 1 = .ok (.iconst 0, 1) := by decide +kernel
theorem dL_isThere_2 : decode cL_isThere 2 = .ok (.aload_n 0, 1) := by decide +kernel
theorem dL_isThere_3 : decode cL_isThere 3 = .ok (.iload_n 1, 1) := by decide +kernel
theorem dL_isThere_4 : decode cL_isThere 4 = .ok (.invokevirtual 47, 3) := by decide +kernel
theorem dL_isThere_7 : decode cL_isThere 7 = .ok (.ifCond .eq 7, 3) := by decide +kernel
theorem dL_isThere_10 : decode cL_isThere 10 = .ok (.lconst 1, 1) := by decide +kernel
theorem dL_isThere_11 : decode cL_isThere 11 = .ok (.goto 4, 3) := by decide +kernel
theorem dL_isThere_14 : decode cL_isThere 14 = .ok (.lconst 0, 1) := by decide +kernel
theorem dL_isThere_15 : decode cL_isThere 15 = .ok (.lastore, 1) := by decide +kernel
theorem dL_isThere_16 : decode cL_isThere 16 = .ok (.goto 6, 3) := by decide +kernel
theorem dL_isThere_19 : decode cL_isThere 19 = .ok (.astore_n 3, 1) := by decide +kernel
theorem dL_isThere_20 : decode cL_isThere 20 = .ok (.iconst 1, 1) := by decide +kernel
theorem dL_isThere_21 : decode cL_isThere 21 = .ok (.ireturn, 1) := by decide +kernel
theorem dL_isThere_22 : decode cL_isThere 22 = .ok (.iconst 0, 1) := by decide +kernel
theorem dL_isThere_23 : decode cL_isThere 23 = .ok (.ireturn, 1) := by decide +kernel
theorem dL_isAbsolute_0 : decode cL_isAbsolute 0 = .ok (.aload_n 2, 1) := by decide +kernel
theorem dL_isAbsolute_1 : decode cL_isAbsolute 1 = .ok (.iconst 0, 1) := by decide +kernel
theorem dL_isAbsolute_2 : decode cL_isAbsolute 2 = .ok (.aload_n 0, 1) := by decide +kernel
theorem dL_isAbsolute_3 : decode cL_isAbsolute 3 = .ok (.iload_n 1, 1) := by decide +kernel
theorem dL_isAbsolute_4 : decode cL_isAbsolute 4 = .ok (.invokevirtual 51, 3) := by decide +kernel
theorem dL_isAbsolute_7 : decode cL_isAbsolute 7 = .ok (.ifCond .eq 7, 3) := by decide +kernel
theorem dL_isAbsolute_10 : decode cL_isAbsolute 10 = .ok (.lconst 1, 1) := by decide +kernel
theorem dL_isAbsolute_11 : decode cL_isAbsolute 11 = .ok (.goto 4, 3) := by decide +kernel
theorem dL_isAbsolute_14 : decode cL_isAbsolute 14 = .ok (.lconst 0, 1) := by decide +kernel
theorem dL_isAbsolute_15 : decode cL_isAbsolute 15 = .ok (.lastore, 1) := by decide +kernel
theorem dL_isAbsolute_16 : decode cL_isAbsolute 16 = .ok (.goto 9, 3) := by decide +kernel
theorem dL_isAbsolute_19 : decode cL_isAbsolute 19 = .ok (.astore_n 3, 1) := by decide +kernel
theorem dL_isAbsolute_20 : decode cL_isAbsolute 20 = .ok (.iconst 1, 1) := by decide +kernel
theorem dL_isAbsolute_21 : decode cL_isAbsolute 21 = .ok (.ireturn, 1) := by decide +kernel
theorem dL_isAbsolute_22 : decode cL_isAbsolute 22 = .ok (.astore_n 3, 1) := by decide +kernel
theorem dL_isAbsolute_23 : decode cL_isAbsolute 23 = .ok (.iconst 2, 1) := by decide +kernel
theorem dL_isAbsolute_24 : decode cL_isAbsolute 24 = .ok (.ireturn, 1) := by decide +kernel
theorem dL_isAbsolute_25 : decode cL_isAbsolute 25 = .ok (.iconst 0, 1) := by decide +kernel
theorem dL_isAbsolute_26 : decode cL_isAbsolute 26 = .ok (.ireturn, 1) := by decide +kernel
theorem dL_isOpaque_0 : decode cL_isOpaque 0 = .ok (.aload_n 2, 1) := by decide +kernel
theorem dL_isOpaque_1 : decode cL_isOpaque 1 = .ok (.iconst 0, 1) := by decide +kernel
theorem dL_isOpaque_2 : decode cL_isOpaque 2 = .ok (.aload_n 0, 1) := by decide +kernel
theorem dL_isOpaque_3 : decode cL_isOpaque 3 = .ok (.iload_n 1, 1) := by decide +kernel
theorem dL_isOpaque_4 : decode cL_isOpaque 4 = .ok (.invokevirtual 54, 3) := by decide +kernel
theorem dL_isOpaque_7 : decode cL_isOpaque 7 = .ok (.ifCond .eq 7, 3) := by decide +kernel
theorem dL_isOpaque_10 : decode cL_isOpaque 10 = .ok (.lconst 1, 1) := by decide +kernel
theorem dL_isOpaque_11 : decode cL_isOpaque 11 = .ok (.goto 4, 3) := by decide +kernel
theorem dL_isOpaque_14 : decode cL_isOpaque 14 = .ok (.lconst 0, 1) := by decide +kernel
theorem dL_isOpaque_15 : decode cL_isOpaque 15 = .ok (.lastore, 1) := by decide +kernel
theorem dL_isOpaque_16 : decode cL_isOpaque 16 = .ok (.goto 9, 3) := by decide +kernel
theorem dL_isOpaque_19 : decode cL_isOpaque 19 = .ok (.astore_n 3, 1) := by decide +kernel
theorem dL_isOpaque_20 : decode cL_isOpaque 20 = .ok (.iconst 1, 1) := by decide +kernel
theorem dL_isOpaque_21 : decode cL_isOpaque 21 = .ok (.ireturn, 1) := by decide +kernel
theorem dL_isOpaque_22 : decode cL_isOpaque 22 = .ok (.astore_n 3, 1) := by decide +kernel
theorem dL_isOpaque_23 : decode cL_isOpaque 23 = .ok (.iconst 2, 1) := by decide +kernel
theorem dL_isOpaque_24 : decode cL_isOpaque 24 = .ok (.ireturn, 1) := by decide +kernel
theorem dL_isOpaque_25 : decode cL_isOpaque 25 = .ok (.iconst 0, 1) := by decide +kernel
theorem dL_isOpaque_26 : decode cL_isOpaque 26 = .ok (.ireturn, 1) := by decide +kernel
theorem dL_port_0 : decode cL_port 0 = .ok (.aload_n 2, 1) := by decide +kernel
theorem dL_port_1 : decode cL_port 1 = .ok (.iconst 0, 1) := by decide +kernel
theorem dL_port_2 : decode cL_port 2 = .ok (.aload_n 0, 1) := by decide +kernel
theorem dL_port_3 : decode cL_port 3 = .ok (.iload_n 1, 1) := by decide +kernel
theorem dL_port_4 : decode cL_port 4 = .ok (.invokevirtual 57, 3) := by decide +kernel
theorem dL_port_7 : decode cL_port 7 = .ok (.i2l, 1) := by decide +kernel
theorem dL_port_8 : decode cL_port 8 = .ok (.lastore, 1) := by decide +kernel
theorem dL_port_9 : decode cL_port 9 = .ok (.goto 9, 3) := by decide +kernel
theorem dL_port_12 : decode cL_port 12 = .ok (.astore_n 3, 1) := by decide +kernel
theorem dL_port_13 : decode cL_port 13 = .ok (.iconst 1, 1) := by decide +kernel
theorem dL_port_14 : decode cL_port 14 = .ok (.ireturn, 1) := by decide +kernel
theorem dL_port_15 : decode cL_port 15 = .ok (.astore_n 3, 1) := by decide +kernel
theorem dL_port_16 : decode cL_port 16 = .ok (.iconst 2, 1) := by decide +kernel
theorem dL_port_17 : decode cL_port 17 = .ok (.ireturn, 1) := by decide +kernel
theorem dL_port_18 : decode cL_port 18 = .ok (.iconst 0, 1) := by decide +kernel
theorem dL_port_19 : decode cL_port 19 = .ok (.ireturn, 1) := by decide +kernel
theorem dL_size_0 : decode cL_size 0 = .ok (.aload_n 3, 1) := by decide +kernel
theorem dL_size_1 : decode cL_size 1 = .ok (.iconst 0, 1) := by decide +kernel
theorem dL_size_2 : decode cL_size 2 = .ok (.aload_n 0, 1) := by decide +kernel
theorem dL_size_3 : decode cL_size 3 = .ok (.iload_n 1, 1) := by decide +kernel
theorem dL_size_4 : decode cL_size 4 = .ok (.iload_n 2, 1) := by decide +kernel
theorem dL_size_5 : decode cL_size 5 = .ok (.invokevirtual 60, 3) := by decide +kernel
theorem dL_size_8 : decode cL_size 8 = .ok (.i2l, 1) := by decide +kernel
theorem dL_size_9 : decode cL_size 9 = .ok (.lastore, 1) := by decide +kernel
theorem dL_size_10 : decode cL_size 10 = .ok (.goto 15, 3) := by decide +kernel
theorem dL_size_13 : decode cL_size 13 = .ok (.astore 4, 2) := by decide +kernel
theorem dL_size_15 : decode cL_size 15 = .ok (.iconst 1, 1) := by decide +kernel
theorem dL_size_16 : decode cL_size 16 = .ok (.ireturn, 1) := by decide +kernel
theorem dL_size_17 : decode cL_size 17 = .ok (.astore 4, 2) := by decide +kernel
theorem dL_size_19 : decode cL_size 19 = .ok (.iconst 2, 1) := by decide +kernel
theorem dL_size_20 : decode cL_size 20 = .ok (.ireturn, 1) := by decide +kernel
theorem dL_size_21 : decode cL_size 21 = .ok (.astore 4, 2) := by decide +kernel
theorem dL_size_23 : decode cL_size 23 = .ok (.iconst 3, 1) := by decide +kernel
theorem dL_size_24 : decode cL_size 24 = .ok (.ireturn, 1) := by decide +kernel
theorem dL_size_25 : decode cL_size 25 = .ok (.iconst 0, 1) := by decide +kernel
theorem dL_size_26 : decode cL_size 26 = .ok (.ireturn, 1) := by decide +kernel
theorem dL_partSign_0 : decode cL_partSign 0 = .ok (.aload 4, 2) := by decide +kernel
theorem dL_partSign_2 : decode cL_partSign 2 = .ok (.iconst 0, 1) := by decide +kernel
theorem dL_partSign_3 : decode cL_partSign 3 = .ok (.aload_n 0, 1) := by decide +kernel
theorem dL_partSign_4 : decode cL_partSign 4 = .ok (.iload_n 1, 1) := by decide +kernel
theorem dL_partSign_5 : decode cL_partSign 5 = .ok (.iload_n 2, 1) := by decide +kernel
theorem dL_partSign_6 : decode cL_partSign 6 = .ok (.iload_n 3, 1) := by decide +kernel
theorem dL_partSign_7 : decode cL_partSign 7 = .ok (.invokevirtual 64, 3) := by decide +kernel
theorem dL_partSign_10 : decode cL_partSign 10 = .ok (.i2l, 1) := by decide +kernel
theorem dL_partSign_11 : decode cL_partSign 11 = .ok (.lastore, 1) := by decide +kernel
theorem dL_partSign_12 : decode cL_partSign 12 = .ok (.goto 15, 3) := by decide +kernel
theorem dL_partSign_15 : decode cL_partSign 15 = .ok (.astore 5, 2) := by decide +kernel
theorem dL_partSign_17 : decode cL_partSign 17 = .ok (.iconst 1, 1) := by decide +kernel
theorem dL_partSign_18 : decode cL_partSign 18 = .ok (.ireturn, 1) := by decide +kernel
theorem dL_partSign_19 : decode cL_partSign 19 = .ok (.astore 5, 2) := by decide +kernel
theorem dL_partSign_21 : decode cL_partSign 21 = .ok (.iconst 2, 1) := by decide +kernel
theorem dL_partSign_22 : decode cL_partSign 22 = .ok (.ireturn, 1) := by decide +kernel
theorem dL_partSign_23 : decode cL_partSign 23 = .ok (.astore 5, 2) := by decide +kernel
theorem dL_partSign_25 : decode cL_partSign 25 = .ok (.iconst 3, 1) := by decide +kernel
theorem dL_partSign_26 : decode cL_partSign 26 = .ok (.ireturn, 1) := by decide +kernel
theorem dL_partSign_27 : decode cL_partSign 27 = .ok (.iconst 0, 1) := by decide +kernel
theorem dL_partSign_28 : decode cL_partSign 28 = .ok (.ireturn, 1) := by decide +kernel
theorem dL_begin_0 : decode cL_begin 0 = .ok (.aload_n 3, 1) := by decide +kernel
theorem dL_begin_1 : decode cL_begin 1 = .ok (.iconst 0, 1) := by decide +kernel
theorem dL_begin_2 : decode cL_begin 2 = .ok (.aload_n 0, 1) := by decide +kernel
theorem dL_begin_3 : decode cL_begin 3 = .ok (.iload_n 1, 1) := by decide +kernel
theorem dL_begin_4 : decode cL_begin 4 = .ok (.iload_n 2, 1) := by decide +kernel
theorem dL_begin_5 : decode cL_begin 5 = .ok (.invokevirtual 68, 3) := by decide +kernel
theorem dL_begin_8 : decode cL_begin 8 = .ok (.i2l, 1) := by decide +kernel
theorem dL_begin_9 : decode cL_begin 9 = .ok (.lastore, 1) := by decide +kernel
theorem dL_begin_10 : decode cL_begin 10 = .ok (.goto 15, 3) := by decide +kernel
theorem dL_begin_13 : decode cL_begin 13 = .ok (.astore 4, 2) := by decide +kernel
theorem dL_begin_15 : decode cL_begin 15 = .ok (.iconst 1, 1) := by decide +kernel
theorem dL_begin_16 : decode cL_begin 16 = .ok (.ireturn, 1) := by decide +kernel
theorem dL_begin_17 : decode cL_begin 17 = .ok (.astore 4, 2) := by decide +kernel
theorem dL_begin_19 : decode cL_begin 19 = .ok (.iconst 2, 1) := by decide +kernel
theorem dL_begin_20 : decode cL_begin 20 = .ok (.ireturn, 1) := by decide +kernel
theorem dL_begin_21 : decode cL_begin 21 = .ok (.astore 4, 2) := by decide +kernel
theorem dL_begin_23 : decode cL_begin 23 = .ok (.iconst 3, 1) := by decide +kernel
theorem dL_begin_24 : decode cL_begin 24 = .ok (.ireturn, 1) := by decide +kernel
theorem dL_begin_25 : decode cL_begin 25 = .ok (.iconst 0, 1) := by decide +kernel
theorem dL_begin_26 : decode cL_begin 26 = .ok (.ireturn, 1) := by decide +kernel
theorem dL_append_0 : decode cL_append 0 = .ok (.aload_n 3, 1) := by decide +kernel
theorem dL_append_1 : decode cL_append 1 = .ok (.iconst 0, 1) := by decide +kernel
theorem dL_append_2 : decode cL_append 2 = .ok (.aload_n 0, 1) := by decide +kernel
theorem dL_append_3 : decode cL_append 3 = .ok (.iload_n 1, 1) := by decide +kernel
theorem dL_append_4 : decode cL_append 4 = .ok (.iload_n 2, 1) := by decide +kernel
theorem dL_append_5 : decode cL_append 5 = .ok (.invokevirtual 71, 3) := by decide +kernel
theorem dL_append_8 : decode cL_append 8 = .ok (.i2l, 1) := by decide +kernel
theorem dL_append_9 : decode cL_append 9 = .ok (.lastore, 1) := by decide +kernel
theorem dL_append_10 : decode cL_append 10 = .ok (.goto 19, 3) := by decide +kernel
theorem dL_append_13 : decode cL_append 13 = .ok (.astore 4, 2) := by decide +kernel
theorem dL_append_15 : decode cL_append 15 = .ok (.iconst 1, 1) := by decide +kernel
theorem dL_append_16 : decode cL_append 16 = .ok (.ireturn, 1) := by decide +kernel
theorem dL_append_17 : decode cL_append 17 = .ok (.astore 4, 2) := by decide +kernel
theorem dL_append_19 : decode cL_append 19 = .ok (.iconst 2, 1) := by decide +kernel
theorem dL_append_20 : decode cL_append 20 = .ok (.ireturn, 1) := by decide +kernel
theorem dL_append_21 : decode cL_append 21 = .ok (.astore 4, 2) := by decide +kernel
theorem dL_append_23 : decode cL_append 23 = .ok (.iconst 3, 1) := by decide +kernel
theorem dL_append_24 : decode cL_append 24 = .ok (.ireturn, 1) := by decide +kernel
theorem dL_append_25 : decode cL_append 25 = .ok (.astore 4, 2) := by decide +kernel
theorem dL_append_27 : decode cL_append 27 = .ok (.iconst 4, 1) := by decide +kernel
theorem dL_append_28 : decode cL_append 28 = .ok (.ireturn, 1) := by decide +kernel
theorem dL_append_29 : decode cL_append 29 = .ok (.iconst 0, 1) := by decide +kernel
theorem dL_append_30 : decode cL_append 30 = .ok (.ireturn, 1) := by decide +kernel
theorem dL_copy_0 : decode cL_copy 0 = .ok (.aload_n 3, 1) := by decide +kernel
theorem dL_copy_1 : decode cL_copy 1 = .ok (.iconst 0, 1) := by decide +kernel
theorem dL_copy_2 : decode cL_copy 2 = .ok (.aload_n 0, 1) := by decide +kernel
theorem dL_copy_3 : decode cL_copy 3 = .ok (.iload_n 1, 1) := by decide +kernel
theorem dL_copy_4 : decode cL_copy 4 = .ok (.iload_n 2, 1) := by decide +kernel
theorem dL_copy_5 : decode cL_copy 5 = .ok (.invokevirtual 74, 3) := by decide +kernel
theorem dL_copy_8 : decode cL_copy 8 = .ok (.i2l, 1) := by decide +kernel
theorem dL_copy_9 : decode cL_copy 9 = .ok (.lastore, 1) := by decide +kernel
theorem dL_copy_10 : decode cL_copy 10 = .ok (.goto 7, 3) := by decide +kernel
theorem dL_copy_13 : decode cL_copy 13 = .ok (.astore 4, 2) := by decide +kernel
theorem dL_copy_15 : decode cL_copy 15 = .ok (.iconst 1, 1) := by decide +kernel
theorem dL_copy_16 : decode cL_copy 16 = .ok (.ireturn, 1) := by decide +kernel
theorem dL_copy_17 : decode cL_copy 17 = .ok (.iconst 0, 1) := by decide +kernel
theorem dL_copy_18 : decode cL_copy 18 = .ok (.ireturn, 1) := by decide +kernel
theorem dL_alike_0 : decode cL_alike 0 = .ok (.aload_n 3, 1) := by decide +kernel
theorem dL_alike_1 : decode cL_alike 1 = .ok (.iconst 0, 1) := by decide +kernel
theorem dL_alike_2 : decode cL_alike 2 = .ok (.aload_n 0, 1) := by decide +kernel
theorem dL_alike_3 : decode cL_alike 3 = .ok (.iload_n 1, 1) := by decide +kernel
theorem dL_alike_4 : decode cL_alike 4 = .ok (.iload_n 2, 1) := by decide +kernel
theorem dL_alike_5 : decode cL_alike 5 = .ok (.invokevirtual 78, 3) := by decide +kernel
theorem dL_alike_8 : decode cL_alike 8 = .ok (.i2l, 1) := by decide +kernel
theorem dL_alike_9 : decode cL_alike 9 = .ok (.lastore, 1) := by decide +kernel
theorem dL_alike_10 : decode cL_alike 10 = .ok (.goto 11, 3) := by decide +kernel
theorem dL_alike_13 : decode cL_alike 13 = .ok (.astore 4, 2) := by decide +kernel
theorem dL_alike_15 : decode cL_alike 15 = .ok (.iconst 1, 1) := by decide +kernel
theorem dL_alike_16 : decode cL_alike 16 = .ok (.ireturn, 1) := by decide +kernel
theorem dL_alike_17 : decode cL_alike 17 = .ok (.astore 4, 2) := by decide +kernel
theorem dL_alike_19 : decode cL_alike 19 = .ok (.iconst 2, 1) := by decide +kernel
theorem dL_alike_20 : decode cL_alike 20 = .ok (.ireturn, 1) := by decide +kernel
theorem dL_alike_21 : decode cL_alike 21 = .ok (.iconst 0, 1) := by decide +kernel
theorem dL_alike_22 : decode cL_alike 22 = .ok (.ireturn, 1) := by decide +kernel
theorem dL_together_0 : decode cL_together 0 = .ok (.aload_n 2, 1) := by decide +kernel
theorem dL_together_1 : decode cL_together 1 = .ok (.iconst 0, 1) := by decide +kernel
theorem dL_together_2 : decode cL_together 2 = .ok (.aload_n 0, 1) := by decide +kernel
theorem dL_together_3 : decode cL_together 3 = .ok (.iload_n 1, 1) := by decide +kernel
theorem dL_together_4 : decode cL_together 4 = .ok (.invokevirtual 81, 3) := by decide +kernel
theorem dL_together_7 : decode cL_together 7 = .ok (.ifCond .eq 7, 3) := by decide +kernel
theorem dL_together_10 : decode cL_together 10 = .ok (.lconst 1, 1) := by decide +kernel
theorem dL_together_11 : decode cL_together 11 = .ok (.goto 4, 3) := by decide +kernel
theorem dL_together_14 : decode cL_together 14 = .ok (.lconst 0, 1) := by decide +kernel
theorem dL_together_15 : decode cL_together 15 = .ok (.lastore, 1) := by decide +kernel
theorem dL_together_16 : decode cL_together 16 = .ok (.goto 9, 3) := by decide +kernel
theorem dL_together_19 : decode cL_together 19 = .ok (.astore_n 3, 1) := by decide +kernel
theorem dL_together_20 : decode cL_together 20 = .ok (.iconst 1, 1) := by decide +kernel
theorem dL_together_21 : decode cL_together 21 = .ok (.ireturn, 1) := by decide +kernel
theorem dL_together_22 : decode cL_together 22 = .ok (.astore_n 3, 1) := by decide +kernel
theorem dL_together_23 : decode cL_together 23 = .ok (.iconst 2, 1) := by decide +kernel
theorem dL_together_24 : decode cL_together 24 = .ok (.ireturn, 1) := by decide +kernel
theorem dL_together_25 : decode cL_together 25 = .ok (.iconst 0, 1) := by decide +kernel
theorem dL_together_26 : decode cL_together 26 = .ok (.ireturn, 1) := by decide +kernel
theorem dL_mix_0 : decode cL_mix 0 = .ok (.aload 4, 2) := by decide +kernel
theorem dL_mix_2 : decode cL_mix 2 = .ok (.iconst 0, 1) := by decide +kernel
theorem dL_mix_3 : decode cL_mix 3 = .ok (.aload_n 0, 1) := by decide +kernel
theorem dL_mix_4 : decode cL_mix 4 = .ok (.iload_n 1, 1) := by decide +kernel
theorem dL_mix_5 : decode cL_mix 5 = .ok (.iload_n 2, 1) := by decide +kernel
theorem dL_mix_6 : decode cL_mix 6 = .ok (.iload_n 3, 1) := by decide +kernel
theorem dL_mix_7 : decode cL_mix 7 = .ok (.invokevirtual 84, 3) := by decide +kernel
theorem dL_mix_10 : decode cL_mix 10 = .ok (.i2l, 1) := by decide +kernel
theorem dL_mix_11 : decode cL_mix 11 = .ok (.lastore, 1) := by decide +kernel
theorem dL_mix_12 : decode cL_mix 12 = .ok (.goto 23, 3) := by decide +kernel
theorem dL_mix_15 : decode cL_mix 15 = .ok (.astore 5, 2) := by decide +kernel
theorem dL_mix_17 : decode cL_mix 17 = .ok (.iconst 1, 1) := by decide +kernel
theorem dL_mix_18 : decode cL_mix 18 = .ok (.ireturn, 1) := by decide +kernel
theorem dL_mix_19 : decode cL_mix 19 = .ok (.astore 5, 2) := by decide +kernel
theorem dL_mix_21 : decode cL_mix 21 = .ok (.iconst 2, 1) := by decide +kernel
theorem dL_mix_22 : decode cL_mix 22 = .ok (.ireturn, 1) := by decide +kernel
theorem dL_mix_23 : decode cL_mix 23 = .ok (.astore 5, 2) := by decide +kernel
theorem dL_mix_25 : decode cL_mix 25 = .ok (.iconst 3, 1) := by decide +kernel
theorem dL_mix_26 : decode cL_mix 26 = .ok (.ireturn, 1) := by decide +kernel
theorem dL_mix_27 : decode cL_mix 27 = .ok (.astore 5, 2) := by decide +kernel
theorem dL_mix_29 : decode cL_mix 29 = .ok (.iconst 4, 1) := by decide +kernel
theorem dL_mix_30 : decode cL_mix 30 = .ok (.ireturn, 1) := by decide +kernel
theorem dL_mix_31 : decode cL_mix 31 = .ok (.astore 5, 2) := by decide +kernel
theorem dL_mix_33 : decode cL_mix 33 = .ok (.iconst 5, 1) := by decide +kernel
theorem dL_mix_34 : decode cL_mix 34 = .ok (.ireturn, 1) := by decide +kernel
theorem dL_mix_35 : decode cL_mix 35 = .ok (.iconst 0, 1) := by decide +kernel
theorem dL_mix_36 : decode cL_mix 36 = .ok (.ireturn, 1) := by decide +kernel
theorem dL_law_0 : decode cL_law 0 = .ok (.new 8, 3) := by decide +kernel
theorem dL_law_3 : decode cL_law 3 = .ok (.dup, 1) := by decide +kernel
theorem dL_law_4 : decode cL_law 4 = .ok (.invokespecial 90, 3) := by decide +kernel
theorem dL_law_7 : decode cL_law 7 = .ok (.astore_n 1, 1) := by decide +kernel
theorem dL_law_8 : decode cL_law 8 = .ok (.new 91, 3) := by decide +kernel
theorem dL_law_11 : decode cL_law 11 = .ok (.dup, 1) := by decide +kernel
theorem dL_law_12 : decode cL_law 12 = .ok (.invokespecial 93, 3) := by decide +kernel
theorem dL_law_15 : decode cL_law 15 = .ok (.astore_n 2, 1) := by decide +kernel
theorem dL_law_16 : decode cL_law 16 = .ok (.iconst 1, 1) := by decide +kernel
theorem dL_law_17 : decode cL_law 17 = .ok (.newarray .long, 2) := by decide +kernel
theorem dL_law_19 : decode cL_law 19 = .ok (.astore_n 3, 1) := by decide +kernel
theorem dL_law_20 : decode cL_law 20 = .ok (.iconst 0, 1) := by decide +kernel
theorem dL_law_21 : decode cL_law 21 = .ok (.istore 4, 2) := by decide +kernel
theorem dL_law_23 : decode cL_law 23 = .ok (.iload 4, 2) := by decide +kernel
theorem dL_law_25 : decode cL_law 25 = .ok (.aload_n 0, 1) := by decide +kernel
theorem dL_law_26 : decode cL_law 26 = .ok (.arraylength, 1) := by decide +kernel
theorem dL_law_27 : decode cL_law 27 = .ok (.iconst 4, 1) := by decide +kernel
theorem dL_law_28 : decode cL_law 28 = .ok (.isub, 1) := by decide +kernel
theorem dL_law_29 : decode cL_law 29 = .ok (.if_icmp .gt 1462, 3) := by decide +kernel
theorem dL_law_32 : decode cL_law 32 = .ok (.aload_n 0, 1) := by decide +kernel
theorem dL_law_33 : decode cL_law 33 = .ok (.iload 4, 2) := by decide +kernel
theorem dL_law_35 : decode cL_law 35 = .ok (.iaload, 1) := by decide +kernel
theorem dL_law_36 : decode cL_law 36 = .ok (.bipush 31, 2) := by decide +kernel
theorem dL_law_38 : decode cL_law 38 = .ok (.iand, 1) := by decide +kernel
theorem dL_law_39 : decode cL_law 39 = .ok (.tableswitch 1446 0 24 #[113, 171, 255, 311, 355, 368, 381, 437, 493, 506, 550, 601, 664, 727, 790, 846, 916, 998, 1068, 1138, 1206, 1274, 1337, 1419, 1432], 113) := by decide +kernel
theorem dL_law_152 : decode cL_law 152 = .ok (.aload_n 1, 1) := by decide +kernel
theorem dL_law_153 : decode cL_law 153 = .ok (.aload_n 0, 1) := by decide +kernel
theorem dL_law_154 : decode cL_law 154 = .ok (.iload 4, 2) := by decide +kernel
theorem dL_law_156 : decode cL_law 156 = .ok (.iconst 1, 1) := by decide +kernel
theorem dL_law_157 : decode cL_law 157 = .ok (.iadd, 1) := by decide +kernel
theorem dL_law_158 : decode cL_law 158 = .ok (.iaload, 1) := by decide +kernel
theorem dL_law_159 : decode cL_law 159 = .ok (.i2c, 1) := by decide +kernel
theorem dL_law_160 : decode cL_law 160 = .ok (.aload_n 3, 1) := by decide +kernel
theorem dL_law_161 : decode cL_law 161 = .ok (.invokestatic 94, 3) := by decide +kernel
theorem dL_law_164 : decode cL_law 164 = .ok (.istore 5, 2) := by decide +kernel
theorem dL_law_166 : decode cL_law 166 = .ok (.aload_n 2, 1) := by decide +kernel
theorem dL_law_167 : decode cL_law 167 = .ok (.aload_n 0, 1) := by decide +kernel
theorem dL_law_168 : decode cL_law 168 = .ok (.iload 4, 2) := by decide +kernel
theorem dL_law_170 : decode cL_law 170 = .ok (.iconst 1, 1) := by decide +kernel
theorem dL_law_171 : decode cL_law 171 = .ok (.iadd, 1) := by decide +kernel
theorem dL_law_172 : decode cL_law 172 = .ok (.iaload, 1) := by decide +kernel
theorem dL_law_173 : decode cL_law 173 = .ok (.i2c, 1) := by decide +kernel
theorem dL_law_174 : decode cL_law 174 = .ok (.invokevirtual 99, 3) := by decide +kernel
theorem dL_law_177 : decode cL_law 177 = .ok (.istore 6, 2) := by decide +kernel
theorem dL_law_179 : decode cL_law 179 = .ok (.aload_n 2, 1) := by decide +kernel
theorem dL_law_180 : decode cL_law 180 = .ok (.invokevirtual 100, 3) := by decide +kernel
theorem dL_law_183 : decode cL_law 183 = .ok (.iload 5, 2) := by decide +kernel
theorem dL_law_185 : decode cL_law 185 = .ok (.if_icmp .eq 5, 3) := by decide +kernel
theorem dL_law_188 : decode cL_law 188 = .ok (.iconst 0, 1) := by decide +kernel
theorem dL_law_189 : decode cL_law 189 = .ok (.ireturn, 1) := by decide +kernel
theorem dL_law_190 : decode cL_law 190 = .ok (.iload 5, 2) := by decide +kernel
theorem dL_law_192 : decode cL_law 192 = .ok (.ifCond .ne 15, 3) := by decide +kernel
theorem dL_law_195 : decode cL_law 195 = .ok (.aload_n 3, 1) := by decide +kernel
theorem dL_law_196 : decode cL_law 196 = .ok (.iconst 0, 1) := by decide +kernel
theorem dL_law_197 : decode cL_law 197 = .ok (.laload, 1) := by decide +kernel
theorem dL_law_198 : decode cL_law 198 = .ok (.iload 6, 2) := by decide +kernel
theorem dL_law_200 : decode cL_law 200 = .ok (.i2l, 1) := by decide +kernel
theorem dL_law_201 : decode cL_law 201 = .ok (.lcmp, 1) := by decide +kernel
theorem dL_law_202 : decode cL_law 202 = .ok (.ifCond .eq 5, 3) := by decide +kernel
theorem dL_law_205 : decode cL_law 205 = .ok (.iconst 0, 1) := by decide +kernel
theorem dL_law_206 : decode cL_law 206 = .ok (.ireturn, 1) := by decide +kernel
theorem dL_law_207 : decode cL_law 207 = .ok (.goto 1278, 3) := by decide +kernel
theorem dL_law_210 : decode cL_law 210 = .ok (.aload_n 1, 1) := by decide +kernel
theorem dL_law_211 : decode cL_law 211 = .ok (.aload_n 0, 1) := by decide +kernel
theorem dL_law_212 : decode cL_law 212 = .ok (.iload 4, 2) := by decide +kernel
theorem dL_law_214 : decode cL_law 214 = .ok (.iconst 1, 1) := by decide +kernel
theorem dL_law_215 : decode cL_law 215 = .ok (.iadd, 1) := by decide +kernel
theorem dL_law_216 : decode cL_law 216 = .ok (.iaload, 1) := by decide +kernel
theorem dL_law_217 : decode cL_law 217 = .ok (.aload_n 0, 1) := by decide +kernel
theorem dL_law_218 : decode cL_law 218 = .ok (.iload 4, 2) := by decide +kernel
theorem dL_law_220 : decode cL_law 220 = .ok (.iconst 2, 1) := by decide +kernel
theorem dL_law_221 : decode cL_law 221 = .ok (.iadd, 1) := by decide +kernel
theorem dL_law_222 : decode cL_law 222 = .ok (.iaload, 1) := by decide +kernel
theorem dL_law_223 : decode cL_law 223 = .ok (.ifCond .eq 7, 3) := by decide +kernel
theorem dL_law_226 : decode cL_law 226 = .ok (.iconst 1, 1) := by decide +kernel
theorem dL_law_227 : decode cL_law 227 = .ok (.goto 4, 3) := by decide +kernel
theorem dL_law_230 : decode cL_law 230 = .ok (.iconst 0, 1) := by decide +kernel
theorem dL_law_231 : decode cL_law 231 = .ok (.aload_n 3, 1) := by decide +kernel
theorem dL_law_232 : decode cL_law 232 = .ok (.invokestatic 103, 3) := by decide +kernel
theorem dL_law_235 : decode cL_law 235 = .ok (.istore 5, 2) := by decide +kernel
theorem dL_law_237 : decode cL_law 237 = .ok (.aload_n 2, 1) := by decide +kernel
theorem dL_law_238 : decode cL_law 238 = .ok (.aload_n 0, 1) := by decide +kernel
theorem dL_law_239 : decode cL_law 239 = .ok (.iload 4, 2) := by decide +kernel
theorem dL_law_241 : decode cL_law 241 = .ok (.iconst 1, 1) := by decide +kernel
theorem dL_law_242 : decode cL_law 242 = .ok (.iadd, 1) := by decide +kernel
theorem dL_law_243 : decode cL_law 243 = .ok (.iaload, 1) := by decide +kernel
theorem dL_law_244 : decode cL_law 244 = .ok (.aload_n 0, 1) := by decide +kernel
theorem dL_law_245 : decode cL_law 245 = .ok (.iload 4, 2) := by decide +kernel
theorem dL_law_247 : decode cL_law 247 = .ok (.iconst 2, 1) := by decide +kernel
theorem dL_law_248 : decode cL_law 248 = .ok (.iadd, 1) := by decide +kernel
theorem dL_law_249 : decode cL_law 249 = .ok (.iaload, 1) := by decide +kernel
theorem dL_law_250 : decode cL_law 250 = .ok (.ifCond .eq 7, 3) := by decide +kernel
theorem dL_law_253 : decode cL_law 253 = .ok (.iconst 1, 1) := by decide +kernel
theorem dL_law_254 : decode cL_law 254 = .ok (.goto 4, 3) := by decide +kernel
theorem dL_law_257 : decode cL_law 257 = .ok (.iconst 0, 1) := by decide +kernel
theorem dL_law_258 : decode cL_law 258 = .ok (.invokevirtual 106, 3) := by decide +kernel
theorem dL_law_261 : decode cL_law 261 = .ok (.istore 6, 2) := by decide +kernel
theorem dL_law_263 : decode cL_law 263 = .ok (.aload_n 2, 1) := by decide +kernel
theorem dL_law_264 : decode cL_law 264 = .ok (.invokevirtual 100, 3) := by decide +kernel
theorem dL_law_267 : decode cL_law 267 = .ok (.iload 5, 2) := by decide +kernel
theorem dL_law_269 : decode cL_law 269 = .ok (.if_icmp .eq 5, 3) := by decide +kernel
theorem dL_law_272 : decode cL_law 272 = .ok (.iconst 0, 1) := by decide +kernel
theorem dL_law_273 : decode cL_law 273 = .ok (.ireturn, 1) := by decide +kernel
theorem dL_law_274 : decode cL_law 274 = .ok (.iload 5, 2) := by decide +kernel
theorem dL_law_276 : decode cL_law 276 = .ok (.ifCond .ne 15, 3) := by decide +kernel
theorem dL_law_279 : decode cL_law 279 = .ok (.aload_n 3, 1) := by decide +kernel
theorem dL_law_280 : decode cL_law 280 = .ok (.iconst 0, 1) := by decide +kernel
theorem dL_law_281 : decode cL_law 281 = .ok (.laload, 1) := by decide +kernel
theorem dL_law_282 : decode cL_law 282 = .ok (.iload 6, 2) := by decide +kernel
theorem dL_law_284 : decode cL_law 284 = .ok (.i2l, 1) := by decide +kernel
theorem dL_law_285 : decode cL_law 285 = .ok (.lcmp, 1) := by decide +kernel
theorem dL_law_286 : decode cL_law 286 = .ok (.ifCond .eq 5, 3) := by decide +kernel
theorem dL_law_289 : decode cL_law 289 = .ok (.iconst 0, 1) := by decide +kernel
theorem dL_law_290 : decode cL_law 290 = .ok (.ireturn, 1) := by decide +kernel
theorem dL_law_291 : decode cL_law 291 = .ok (.goto 1194, 3) := by decide +kernel
theorem dL_law_294 : decode cL_law 294 = .ok (.aload_n 1, 1) := by decide +kernel
theorem dL_law_295 : decode cL_law 295 = .ok (.aload_n 0, 1) := by decide +kernel
theorem dL_law_296 : decode cL_law 296 = .ok (.iload 4, 2) := by decide +kernel
theorem dL_law_298 : decode cL_law 298 = .ok (.iconst 1, 1) := by decide +kernel
theorem dL_law_299 : decode cL_law 299 = .ok (.iadd, 1) := by decide +kernel
theorem dL_law_300 : decode cL_law 300 = .ok (.iaload, 1) := by decide +kernel
theorem dL_law_301 : decode cL_law 301 = .ok (.aload_n 3, 1) := by decide +kernel
theorem dL_law_302 : decode cL_law 302 = .ok (.invokestatic 107, 3) := by decide +kernel
theorem dL_law_305 : decode cL_law 305 = .ok (.istore 5, 2) := by decide +kernel
theorem dL_law_307 : decode cL_law 307 = .ok (.aload_n 2, 1) := by decide +kernel
theorem dL_law_308 : decode cL_law 308 = .ok (.aload_n 0, 1) := by decide +kernel
theorem dL_law_309 : decode cL_law 309 = .ok (.iload 4, 2) := by decide +kernel
theorem dL_law_311 : decode cL_law 311 = .ok (.iconst 1, 1) := by decide +kernel
theorem dL_law_312 : decode cL_law 312 = .ok (.iadd, 1) := by decide +kernel
theorem dL_law_313 : decode cL_law 313 = .ok (.iaload, 1) := by decide +kernel
theorem dL_law_314 : decode cL_law 314 = .ok (.invokevirtual 110, 3) := by decide +kernel
theorem dL_law_317 : decode cL_law 317 = .ok (.istore 6, 2) := by decide +kernel
theorem dL_law_319 : decode cL_law 319 = .ok (.aload_n 2, 1) := by decide +kernel
theorem dL_law_320 : decode cL_law 320 = .ok (.invokevirtual 100, 3) := by decide +kernel
theorem dL_law_323 : decode cL_law 323 = .ok (.iload 5, 2) := by decide +kernel
theorem dL_law_325 : decode cL_law 325 = .ok (.if_icmp .eq 5, 3) := by decide +kernel
theorem dL_law_328 : decode cL_law 328 = .ok (.iconst 0, 1) := by decide +kernel
theorem dL_law_329 : decode cL_law 329 = .ok (.ireturn, 1) := by decide +kernel
theorem dL_law_330 : decode cL_law 330 = .ok (.iload 5, 2) := by decide +kernel
theorem dL_law_332 : decode cL_law 332 = .ok (.ifCond .ne 15, 3) := by decide +kernel
theorem dL_law_335 : decode cL_law 335 = .ok (.aload_n 3, 1) := by decide +kernel
theorem dL_law_336 : decode cL_law 336 = .ok (.iconst 0, 1) := by decide +kernel
theorem dL_law_337 : decode cL_law 337 = .ok (.laload, 1) := by decide +kernel
theorem dL_law_338 : decode cL_law 338 = .ok (.iload 6, 2) := by decide +kernel
theorem dL_law_340 : decode cL_law 340 = .ok (.i2l, 1) := by decide +kernel
theorem dL_law_341 : decode cL_law 341 = .ok (.lcmp, 1) := by decide +kernel
theorem dL_law_342 : decode cL_law 342 = .ok (.ifCond .eq 5, 3) := by decide +kernel
theorem dL_law_345 : decode cL_law 345 = .ok (.iconst 0, 1) := by decide +kernel
theorem dL_law_346 : decode cL_law 346 = .ok (.ireturn, 1) := by decide +kernel
theorem dL_law_347 : decode cL_law 347 = .ok (.goto 1138, 3) := by decide +kernel
theorem dL_law_350 : decode cL_law 350 = .ok (.aload_n 1, 1) := by decide +kernel
theorem dL_law_351 : decode cL_law 351 = .ok (.aload_n 3, 1) := by decide +kernel
theorem dL_law_352 : decode cL_law 352 = .ok (.invokestatic 111, 3) := by decide +kernel
theorem dL_law_355 : decode cL_law 355 = .ok (.istore 5, 2) := by decide +kernel
theorem dL_law_357 : decode cL_law 357 = .ok (.aload_n 2, 1) := by decide +kernel
theorem dL_law_358 : decode cL_law 358 = .ok (.invokevirtual 114, 3) := by decide +kernel
theorem dL_law_361 : decode cL_law 361 = .ok (.istore 6, 2) := by decide +kernel
theorem dL_law_363 : decode cL_law 363 = .ok (.aload_n 2, 1) := by decide +kernel
theorem dL_law_364 : decode cL_law 364 = .ok (.invokevirtual 100, 3) := by decide +kernel
theorem dL_law_367 : decode cL_law 367 = .ok (.iload 5, 2) := by decide +kernel
theorem dL_law_369 : decode cL_law 369 = .ok (.if_icmp .eq 5, 3) := by decide +kernel
theorem dL_law_372 : decode cL_law 372 = .ok (.iconst 0, 1) := by decide +kernel
theorem dL_law_373 : decode cL_law 373 = .ok (.ireturn, 1) := by decide +kernel
theorem dL_law_374 : decode cL_law 374 = .ok (.iload 5, 2) := by decide +kernel
theorem dL_law_376 : decode cL_law 376 = .ok (.ifCond .ne 15, 3) := by decide +kernel
theorem dL_law_379 : decode cL_law 379 = .ok (.aload_n 3, 1) := by decide +kernel
theorem dL_law_380 : decode cL_law 380 = .ok (.iconst 0, 1) := by decide +kernel
theorem dL_law_381 : decode cL_law 381 = .ok (.laload, 1) := by decide +kernel
theorem dL_law_382 : decode cL_law 382 = .ok (.iload 6, 2) := by decide +kernel
theorem dL_law_384 : decode cL_law 384 = .ok (.i2l, 1) := by decide +kernel
theorem dL_law_385 : decode cL_law 385 = .ok (.lcmp, 1) := by decide +kernel
theorem dL_law_386 : decode cL_law 386 = .ok (.ifCond .eq 5, 3) := by decide +kernel
theorem dL_law_389 : decode cL_law 389 = .ok (.iconst 0, 1) := by decide +kernel
theorem dL_law_390 : decode cL_law 390 = .ok (.ireturn, 1) := by decide +kernel
theorem dL_law_391 : decode cL_law 391 = .ok (.goto 1094, 3) := by decide +kernel
theorem dL_law_394 : decode cL_law 394 = .ok (.aload_n 1, 1) := by decide +kernel
theorem dL_law_395 : decode cL_law 395 = .ok (.invokevirtual 115, 3) := by decide +kernel
theorem dL_law_398 : decode cL_law 398 = .ok (.aload_n 2, 1) := by decide +kernel
theorem dL_law_399 : decode cL_law 399 = .ok (.invokevirtual 118, 3) := by decide +kernel
theorem dL_law_402 : decode cL_law 402 = .ok (.if_icmp .eq 1083, 3) := by decide +kernel
theorem dL_law_405 : decode cL_law 405 = .ok (.iconst 0, 1) := by decide +kernel
theorem dL_law_406 : decode cL_law 406 = .ok (.ireturn, 1) := by decide +kernel
theorem dL_law_407 : decode cL_law 407 = .ok (.aload_n 1, 1) := by decide +kernel
theorem dL_law_408 : decode cL_law 408 = .ok (.invokevirtual 119, 3) := by decide +kernel
theorem dL_law_411 : decode cL_law 411 = .ok (.aload_n 2, 1) := by decide +kernel
theorem dL_law_412 : decode cL_law 412 = .ok (.invokevirtual 122, 3) := by decide +kernel
theorem dL_law_415 : decode cL_law 415 = .ok (.if_icmp .eq 1070, 3) := by decide +kernel
theorem dL_law_418 : decode cL_law 418 = .ok (.iconst 0, 1) := by decide +kernel
theorem dL_law_419 : decode cL_law 419 = .ok (.ireturn, 1) := by decide +kernel
theorem dL_law_420 : decode cL_law 420 = .ok (.aload_n 1, 1) := by decide +kernel
theorem dL_law_421 : decode cL_law 421 = .ok (.aload_n 0, 1) := by decide +kernel
theorem dL_law_422 : decode cL_law 422 = .ok (.iload 4, 2) := by decide +kernel
theorem dL_law_424 : decode cL_law 424 = .ok (.iconst 1, 1) := by decide +kernel
theorem dL_law_425 : decode cL_law 425 = .ok (.iadd, 1) := by decide +kernel
theorem dL_law_426 : decode cL_law 426 = .ok (.iaload, 1) := by decide +kernel
theorem dL_law_427 : decode cL_law 427 = .ok (.aload_n 3, 1) := by decide +kernel
theorem dL_law_428 : decode cL_law 428 = .ok (.invokestatic 123, 3) := by decide +kernel
theorem dL_law_431 : decode cL_law 431 = .ok (.istore 5, 2) := by decide +kernel
theorem dL_law_433 : decode cL_law 433 = .ok (.aload_n 2, 1) := by decide +kernel
theorem dL_law_434 : decode cL_law 434 = .ok (.aload_n 0, 1) := by decide +kernel
theorem dL_law_435 : decode cL_law 435 = .ok (.iload 4, 2) := by decide +kernel
theorem dL_law_437 : decode cL_law 437 = .ok (.iconst 1, 1) := by decide +kernel
theorem dL_law_438 : decode cL_law 438 = .ok (.iadd, 1) := by decide +kernel
theorem dL_law_439 : decode cL_law 439 = .ok (.iaload, 1) := by decide +kernel
theorem dL_law_440 : decode cL_law 440 = .ok (.invokevirtual 125, 3) := by decide +kernel
theorem dL_law_443 : decode cL_law 443 = .ok (.istore 6, 2) := by decide +kernel
theorem dL_law_445 : decode cL_law 445 = .ok (.aload_n 2, 1) := by decide +kernel
theorem dL_law_446 : decode cL_law 446 = .ok (.invokevirtual 100, 3) := by decide +kernel
theorem dL_law_449 : decode cL_law 449 = .ok (.iload 5, 2) := by decide +kernel
theorem dL_law_451 : decode cL_law 451 = .ok (.if_icmp .eq 5, 3) := by decide +kernel
theorem dL_law_454 : decode cL_law 454 = .ok (.iconst 0, 1) := by decide +kernel
theorem dL_law_455 : decode cL_law 455 = .ok (.ireturn, 1) := by decide +kernel
theorem dL_law_456 : decode cL_law 456 = .ok (.iload 5, 2) := by decide +kernel
theorem dL_law_458 : decode cL_law 458 = .ok (.ifCond .ne 15, 3) := by decide +kernel
theorem dL_law_461 : decode cL_law 461 = .ok (.aload_n 3, 1) := by decide +kernel
theorem dL_law_462 : decode cL_law 462 = .ok (.iconst 0, 1) := by decide +kernel
theorem dL_law_463 : decode cL_law 463 = .ok (.laload, 1) := by decide +kernel
theorem dL_law_464 : decode cL_law 464 = .ok (.iload 6, 2) := by decide +kernel
theorem dL_law_466 : decode cL_law 466 = .ok (.i2l, 1) := by decide +kernel
theorem dL_law_467 : decode cL_law 467 = .ok (.lcmp, 1) := by decide +kernel
theorem dL_law_468 : decode cL_law 468 = .ok (.ifCond .eq 5, 3) := by decide +kernel
theorem dL_law_471 : decode cL_law 471 = .ok (.iconst 0, 1) := by decide +kernel
theorem dL_law_472 : decode cL_law 472 = .ok (.ireturn, 1) := by decide +kernel
theorem dL_law_473 : decode cL_law 473 = .ok (.goto 1012, 3) := by decide +kernel
theorem dL_law_476 : decode cL_law 476 = .ok (.aload_n 1, 1) := by decide +kernel
theorem dL_law_477 : decode cL_law 477 = .ok (.aload_n 0, 1) := by decide +kernel
theorem dL_law_478 : decode cL_law 478 = .ok (.iload 4, 2) := by decide +kernel
theorem dL_law_480 : decode cL_law 480 = .ok (.iconst 1, 1) := by decide +kernel
theorem dL_law_481 : decode cL_law 481 = .ok (.iadd, 1) := by decide +kernel
theorem dL_law_482 : decode cL_law 482 = .ok (.iaload, 1) := by decide +kernel
theorem dL_law_483 : decode cL_law 483 = .ok (.aload_n 3, 1) := by decide +kernel
theorem dL_law_484 : decode cL_law 484 = .ok (.invokestatic 126, 3) := by decide +kernel
theorem dL_law_487 : decode cL_law 487 = .ok (.istore 5, 2) := by decide +kernel
theorem dL_law_489 : decode cL_law 489 = .ok (.aload_n 2, 1) := by decide +kernel
theorem dL_law_490 : decode cL_law 490 = .ok (.aload_n 0, 1) := by decide +kernel
theorem dL_law_491 : decode cL_law 491 = .ok (.iload 4, 2) := by decide +kernel
theorem dL_law_493 : decode cL_law 493 = .ok (.iconst 1, 1) := by decide +kernel
theorem dL_law_494 : decode cL_law 494 = .ok (.iadd, 1) := by decide +kernel
theorem dL_law_495 : decode cL_law 495 = .ok (.iaload, 1) := by decide +kernel
theorem dL_law_496 : decode cL_law 496 = .ok (.invokevirtual 128, 3) := by decide +kernel
theorem dL_law_499 : decode cL_law 499 = .ok (.istore 6, 2) := by decide +kernel
theorem dL_law_501 : decode cL_law 501 = .ok (.aload_n 2, 1) := by decide +kernel
theorem dL_law_502 : decode cL_law 502 = .ok (.invokevirtual 100, 3) := by decide +kernel
theorem dL_law_505 : decode cL_law 505 = .ok (.iload 5, 2) := by decide +kernel
theorem dL_law_507 : decode cL_law 507 = .ok (.if_icmp .eq 5, 3) := by decide +kernel
theorem dL_law_510 : decode cL_law 510 = .ok (.iconst 0, 1) := by decide +kernel
theorem dL_law_511 : decode cL_law 511 = .ok (.ireturn, 1) := by decide +kernel
theorem dL_law_512 : decode cL_law 512 = .ok (.iload 5, 2) := by decide +kernel
theorem dL_law_514 : decode cL_law 514 = .ok (.ifCond .ne 15, 3) := by decide +kernel
theorem dL_law_517 : decode cL_law 517 = .ok (.aload_n 3, 1) := by decide +kernel
theorem dL_law_518 : decode cL_law 518 = .ok (.iconst 0, 1) := by decide +kernel
theorem dL_law_519 : decode cL_law 519 = .ok (.laload, 1) := by decide +kernel
theorem dL_law_520 : decode cL_law 520 = .ok (.iload 6, 2) := by decide +kernel
theorem dL_law_522 : decode cL_law 522 = .ok (.i2l, 1) := by decide +kernel
theorem dL_law_523 : decode cL_law 523 = .ok (.lcmp, 1) := by decide +kernel
theorem dL_law_524 : decode cL_law 524 = .ok (.ifCond .eq 5, 3) := by decide +kernel
theorem dL_law_527 : decode cL_law 527 = .ok (.iconst 0, 1) := by decide +kernel
theorem dL_law_528 : decode cL_law 528 = .ok (.ireturn, 1) := by decide +kernel
theorem dL_law_529 : decode cL_law 529 = .ok (.goto 956, 3) := by decide +kernel
theorem dL_law_532 : decode cL_law 532 = .ok (.aload_n 1, 1) := by decide +kernel
theorem dL_law_533 : decode cL_law 533 = .ok (.invokevirtual 129, 3) := by decide +kernel
theorem dL_law_536 : decode cL_law 536 = .ok (.aload_n 2, 1) := by decide +kernel
theorem dL_law_537 : decode cL_law 537 = .ok (.invokevirtual 132, 3) := by decide +kernel
theorem dL_law_540 : decode cL_law 540 = .ok (.if_icmp .eq 945, 3) := by decide +kernel
theorem dL_law_543 : decode cL_law 543 = .ok (.iconst 0, 1) := by decide +kernel
theorem dL_law_544 : decode cL_law 544 = .ok (.ireturn, 1) := by decide +kernel
theorem dL_law_545 : decode cL_law 545 = .ok (.aload_n 1, 1) := by decide +kernel
theorem dL_law_546 : decode cL_law 546 = .ok (.aload_n 3, 1) := by decide +kernel
theorem dL_law_547 : decode cL_law 547 = .ok (.invokestatic 133, 3) := by decide +kernel
theorem dL_law_550 : decode cL_law 550 = .ok (.istore 5, 2) := by decide +kernel
theorem dL_law_552 : decode cL_law 552 = .ok (.aload_n 2, 1) := by decide +kernel
theorem dL_law_553 : decode cL_law 553 = .ok (.invokevirtual 135, 3) := by decide +kernel
theorem dL_law_556 : decode cL_law 556 = .ok (.istore 6, 2) := by decide +kernel
theorem dL_law_558 : decode cL_law 558 = .ok (.aload_n 2, 1) := by decide +kernel
theorem dL_law_559 : decode cL_law 559 = .ok (.invokevirtual 100, 3) := by decide +kernel
theorem dL_law_562 : decode cL_law 562 = .ok (.iload 5, 2) := by decide +kernel
theorem dL_law_564 : decode cL_law 564 = .ok (.if_icmp .eq 5, 3) := by decide +kernel
theorem dL_law_567 : decode cL_law 567 = .ok (.iconst 0, 1) := by decide +kernel
theorem dL_law_568 : decode cL_law 568 = .ok (.ireturn, 1) := by decide +kernel
theorem dL_law_569 : decode cL_law 569 = .ok (.iload 5, 2) := by decide +kernel
theorem dL_law_571 : decode cL_law 571 = .ok (.ifCond .ne 15, 3) := by decide +kernel
theorem dL_law_574 : decode cL_law 574 = .ok (.aload_n 3, 1) := by decide +kernel
theorem dL_law_575 : decode cL_law 575 = .ok (.iconst 0, 1) := by decide +kernel
theorem dL_law_576 : decode cL_law 576 = .ok (.laload, 1) := by decide +kernel
theorem dL_law_577 : decode cL_law 577 = .ok (.iload 6, 2) := by decide +kernel
theorem dL_law_579 : decode cL_law 579 = .ok (.i2l, 1) := by decide +kernel
theorem dL_law_580 : decode cL_law 580 = .ok (.lcmp, 1) := by decide +kernel
theorem dL_law_581 : decode cL_law 581 = .ok (.ifCond .eq 5, 3) := by decide +kernel
theorem dL_law_584 : decode cL_law 584 = .ok (.iconst 0, 1) := by decide +kernel
theorem dL_law_585 : decode cL_law 585 = .ok (.ireturn, 1) := by decide +kernel
theorem dL_law_586 : decode cL_law 586 = .ok (.goto 899, 3) := by decide +kernel
theorem dL_law_589 : decode cL_law 589 = .ok (.aload_n 1, 1) := by decide +kernel
theorem dL_law_590 : decode cL_law 590 = .ok (.aload_n 3, 1) := by decide +kernel
theorem dL_law_591 : decode cL_law 591 = .ok (.invokestatic 136, 3) := by decide +kernel
theorem dL_law_594 : decode cL_law 594 = .ok (.istore 5, 2) := by decide +kernel
theorem dL_law_596 : decode cL_law 596 = .ok (.aload_n 2, 1) := by decide +kernel
theorem dL_law_597 : decode cL_law 597 = .ok (.invokevirtual 138, 3) := by decide +kernel
theorem dL_law_600 : decode cL_law 600 = .ok (.istore 6, 2) := by decide +kernel
theorem dL_law_602 : decode cL_law 602 = .ok (.aload_n 2, 1) := by decide +kernel
theorem dL_law_603 : decode cL_law 603 = .ok (.invokevirtual 100, 3) := by decide +kernel
theorem dL_law_606 : decode cL_law 606 = .ok (.iload 5, 2) := by decide +kernel
theorem dL_law_608 : decode cL_law 608 = .ok (.if_icmp .eq 5, 3) := by decide +kernel
theorem dL_law_611 : decode cL_law 611 = .ok (.iconst 0, 1) := by decide +kernel
theorem dL_law_612 : decode cL_law 612 = .ok (.ireturn, 1) := by decide +kernel
theorem dL_law_613 : decode cL_law 613 = .ok (.iload 5, 2) := by decide +kernel
theorem dL_law_615 : decode cL_law 615 = .ok (.ifCond .ne 22, 3) := by decide +kernel
theorem dL_law_618 : decode cL_law 618 = .ok (.aload_n 3, 1) := by decide +kernel
theorem dL_law_619 : decode cL_law 619 = .ok (.iconst 0, 1) := by decide +kernel
theorem dL_law_620 : decode cL_law 620 = .ok (.laload, 1) := by decide +kernel
theorem dL_law_621 : decode cL_law 621 = .ok (.iload 6, 2) := by decide +kernel
theorem dL_law_623 : decode cL_law 623 = .ok (.ifCond .eq 7, 3) := by decide +kernel
theorem dL_law_626 : decode cL_law 626 = .ok (.lconst 1, 1) := by decide +kernel
theorem dL_law_627 : decode cL_law 627 = .ok (.goto 4, 3) := by decide +kernel
theorem dL_law_630 : decode cL_law 630 = .ok (.lconst 0, 1) := by decide +kernel
theorem dL_law_631 : decode cL_law 631 = .ok (.lcmp, 1) := by decide +kernel
theorem dL_law_632 : decode cL_law 632 = .ok (.ifCond .eq 5, 3) := by decide +kernel
theorem dL_law_635 : decode cL_law 635 = .ok (.iconst 0, 1) := by decide +kernel
theorem dL_law_636 : decode cL_law 636 = .ok (.ireturn, 1) := by decide +kernel
theorem dL_law_637 : decode cL_law 637 = .ok (.goto 848, 3) := by decide +kernel
theorem dL_law_640 : decode cL_law 640 = .ok (.aload_n 1, 1) := by decide +kernel
theorem dL_law_641 : decode cL_law 641 = .ok (.aload_n 0, 1) := by decide +kernel
theorem dL_law_642 : decode cL_law 642 = .ok (.iload 4, 2) := by decide +kernel
theorem dL_law_644 : decode cL_law 644 = .ok (.iconst 1, 1) := by decide +kernel
theorem dL_law_645 : decode cL_law 645 = .ok (.iadd, 1) := by decide +kernel
theorem dL_law_646 : decode cL_law 646 = .ok (.iaload, 1) := by decide +kernel
theorem dL_law_647 : decode cL_law 647 = .ok (.aload_n 3, 1) := by decide +kernel
theorem dL_law_648 : decode cL_law 648 = .ok (.invokestatic 139, 3) := by decide +kernel
theorem dL_law_651 : decode cL_law 651 = .ok (.istore 5, 2) := by decide +kernel
theorem dL_law_653 : decode cL_law 653 = .ok (.aload_n 2, 1) := by decide +kernel
theorem dL_law_654 : decode cL_law 654 = .ok (.aload_n 0, 1) := by decide +kernel
theorem dL_law_655 : decode cL_law 655 = .ok (.iload 4, 2) := by decide +kernel
theorem dL_law_657 : decode cL_law 657 = .ok (.iconst 1, 1) := by decide +kernel
theorem dL_law_658 : decode cL_law 658 = .ok (.iadd, 1) := by decide +kernel
theorem dL_law_659 : decode cL_law 659 = .ok (.iaload, 1) := by decide +kernel
theorem dL_law_660 : decode cL_law 660 = .ok (.invokevirtual 141, 3) := by decide +kernel
theorem dL_law_663 : decode cL_law 663 = .ok (.istore 6, 2) := by decide +kernel
theorem dL_law_665 : decode cL_law 665 = .ok (.aload_n 2, 1) := by decide +kernel
theorem dL_law_666 : decode cL_law 666 = .ok (.invokevirtual 100, 3) := by decide +kernel
theorem dL_law_669 : decode cL_law 669 = .ok (.iload 5, 2) := by decide +kernel
theorem dL_law_671 : decode cL_law 671 = .ok (.if_icmp .eq 5, 3) := by decide +kernel
theorem dL_law_674 : decode cL_law 674 = .ok (.iconst 0, 1) := by decide +kernel
theorem dL_law_675 : decode cL_law 675 = .ok (.ireturn, 1) := by decide +kernel
theorem dL_law_676 : decode cL_law 676 = .ok (.iload 5, 2) := by decide +kernel
theorem dL_law_678 : decode cL_law 678 = .ok (.ifCond .ne 22, 3) := by decide +kernel
theorem dL_law_681 : decode cL_law 681 = .ok (.aload_n 3, 1) := by decide +kernel
theorem dL_law_682 : decode cL_law 682 = .ok (.iconst 0, 1) := by decide +kernel
theorem dL_law_683 : decode cL_law 683 = .ok (.laload, 1) := by decide +kernel
theorem dL_law_684 : decode cL_law 684 = .ok (.iload 6, 2) := by decide +kernel
theorem dL_law_686 : decode cL_law 686 = .ok (.ifCond .eq 7, 3) := by decide +kernel
theorem dL_law_689 : decode cL_law 689 = .ok (.lconst 1, 1) := by decide +kernel
theorem dL_law_690 : decode cL_law 690 = .ok (.goto 4, 3) := by decide +kernel
theorem dL_law_693 : decode cL_law 693 = .ok (.lconst 0, 1) := by decide +kernel
theorem dL_law_694 : decode cL_law 694 = .ok (.lcmp, 1) := by decide +kernel
theorem dL_law_695 : decode cL_law 695 = .ok (.ifCond .eq 5, 3) := by decide +kernel
theorem dL_law_698 : decode cL_law 698 = .ok (.iconst 0, 1) := by decide +kernel
theorem dL_law_699 : decode cL_law 699 = .ok (.ireturn, 1) := by decide +kernel
theorem dL_law_700 : decode cL_law 700 = .ok (.goto 785, 3) := by decide +kernel
theorem dL_law_703 : decode cL_law 703 = .ok (.aload_n 1, 1) := by decide +kernel
theorem dL_law_704 : decode cL_law 704 = .ok (.aload_n 0, 1) := by decide +kernel
theorem dL_law_705 : decode cL_law 705 = .ok (.iload 4, 2) := by decide +kernel
theorem dL_law_707 : decode cL_law 707 = .ok (.iconst 1, 1) := by decide +kernel
theorem dL_law_708 : decode cL_law 708 = .ok (.iadd, 1) := by decide +kernel
theorem dL_law_709 : decode cL_law 709 = .ok (.iaload, 1) := by decide +kernel
theorem dL_law_710 : decode cL_law 710 = .ok (.aload_n 3, 1) := by decide +kernel
theorem dL_law_711 : decode cL_law 711 = .ok (.invokestatic 142, 3) := by decide +kernel
theorem dL_law_714 : decode cL_law 714 = .ok (.istore 5, 2) := by decide +kernel
theorem dL_law_716 : decode cL_law 716 = .ok (.aload_n 2, 1) := by decide +kernel
theorem dL_law_717 : decode cL_law 717 = .ok (.aload_n 0, 1) := by decide +kernel
theorem dL_law_718 : decode cL_law 718 = .ok (.iload 4, 2) := by decide +kernel
theorem dL_law_720 : decode cL_law 720 = .ok (.iconst 1, 1) := by decide +kernel
theorem dL_law_721 : decode cL_law 721 = .ok (.iadd, 1) := by decide +kernel
theorem dL_law_722 : decode cL_law 722 = .ok (.iaload, 1) := by decide +kernel
theorem dL_law_723 : decode cL_law 723 = .ok (.invokevirtual 144, 3) := by decide +kernel
theorem dL_law_726 : decode cL_law 726 = .ok (.istore 6, 2) := by decide +kernel
theorem dL_law_728 : decode cL_law 728 = .ok (.aload_n 2, 1) := by decide +kernel
theorem dL_law_729 : decode cL_law 729 = .ok (.invokevirtual 100, 3) := by decide +kernel
theorem dL_law_732 : decode cL_law 732 = .ok (.iload 5, 2) := by decide +kernel
theorem dL_law_734 : decode cL_law 734 = .ok (.if_icmp .eq 5, 3) := by decide +kernel
theorem dL_law_737 : decode cL_law 737 = .ok (.iconst 0, 1) := by decide +kernel
theorem dL_law_738 : decode cL_law 738 = .ok (.ireturn, 1) := by decide +kernel
theorem dL_law_739 : decode cL_law 739 = .ok (.iload 5, 2) := by decide +kernel
theorem dL_law_741 : decode cL_law 741 = .ok (.ifCond .ne 22, 3) := by decide +kernel
theorem dL_law_744 : decode cL_law 744 = .ok (.aload_n 3, 1) := by decide +kernel
theorem dL_law_745 : decode cL_law 745 = .ok (.iconst 0, 1) := by decide +kernel
theorem dL_law_746 : decode cL_law 746 = .ok (.laload, 1) := by decide +kernel
theorem dL_law_747 : decode cL_law 747 = .ok (.iload 6, 2) := by decide +kernel
theorem dL_law_749 : decode cL_law 749 = .ok (.ifCond .eq 7, 3) := by decide +kernel
theorem dL_law_752 : decode cL_law 752 = .ok (.lconst 1, 1) := by decide +kernel
theorem dL_law_753 : decode cL_law 753 = .ok (.goto 4, 3) := by decide +kernel
theorem dL_law_756 : decode cL_law 756 = .ok (.lconst 0, 1) := by decide +kernel
theorem dL_law_757 : decode cL_law 757 = .ok (.lcmp, 1) := by decide +kernel
theorem dL_law_758 : decode cL_law 758 = .ok (.ifCond .eq 5, 3) := by decide +kernel
theorem dL_law_761 : decode cL_law 761 = .ok (.iconst 0, 1) := by decide +kernel
theorem dL_law_762 : decode cL_law 762 = .ok (.ireturn, 1) := by decide +kernel
theorem dL_law_763 : decode cL_law 763 = .ok (.goto 722, 3) := by decide +kernel
theorem dL_law_766 : decode cL_law 766 = .ok (.aload_n 1, 1) := by decide +kernel
theorem dL_law_767 : decode cL_law 767 = .ok (.aload_n 0, 1) := by decide +kernel
theorem dL_law_768 : decode cL_law 768 = .ok (.iload 4, 2) := by decide +kernel
theorem dL_law_770 : decode cL_law 770 = .ok (.iconst 1, 1) := by decide +kernel
theorem dL_law_771 : decode cL_law 771 = .ok (.iadd, 1) := by decide +kernel
theorem dL_law_772 : decode cL_law 772 = .ok (.iaload, 1) := by decide +kernel
theorem dL_law_773 : decode cL_law 773 = .ok (.aload_n 3, 1) := by decide +kernel
theorem dL_law_774 : decode cL_law 774 = .ok (.invokestatic 145, 3) := by decide +kernel
theorem dL_law_777 : decode cL_law 777 = .ok (.istore 5, 2) := by decide +kernel
theorem dL_law_779 : decode cL_law 779 = .ok (.aload_n 2, 1) := by decide +kernel
theorem dL_law_780 : decode cL_law 780 = .ok (.aload_n 0, 1) := by decide +kernel
theorem dL_law_781 : decode cL_law 781 = .ok (.iload 4, 2) := by decide +kernel
theorem dL_law_783 : decode cL_law 783 = .ok (.iconst 1, 1) := by decide +kernel
theorem dL_law_784 : decode cL_law 784 = .ok (.iadd, 1) := by decide +kernel
theorem dL_law_785 : decode cL_law 785 = .ok (.iaload, 1) := by decide +kernel
theorem dL_law_786 : decode cL_law 786 = .ok (.invokevirtual 147, 3) := by decide +kernel
theorem dL_law_789 : decode cL_law 789 = .ok (.istore 6, 2) := by decide +kernel
theorem dL_law_791 : decode cL_law 791 = .ok (.aload_n 2, 1) := by decide +kernel
theorem dL_law_792 : decode cL_law 792 = .ok (.invokevirtual 100, 3) := by decide +kernel
theorem dL_law_795 : decode cL_law 795 = .ok (.iload 5, 2) := by decide +kernel
theorem dL_law_797 : decode cL_law 797 = .ok (.if_icmp .eq 5, 3) := by decide +kernel
theorem dL_law_800 : decode cL_law 800 = .ok (.iconst 0, 1) := by decide +kernel
theorem dL_law_801 : decode cL_law 801 = .ok (.ireturn, 1) := by decide +kernel
theorem dL_law_802 : decode cL_law 802 = .ok (.iload 5, 2) := by decide +kernel
theorem dL_law_804 : decode cL_law 804 = .ok (.ifCond .ne 22, 3) := by decide +kernel
theorem dL_law_807 : decode cL_law 807 = .ok (.aload_n 3, 1) := by decide +kernel
theorem dL_law_808 : decode cL_law 808 = .ok (.iconst 0, 1) := by decide +kernel
theorem dL_law_809 : decode cL_law 809 = .ok (.laload, 1) := by decide +kernel
theorem dL_law_810 : decode cL_law 810 = .ok (.iload 6, 2) := by decide +kernel
theorem dL_law_812 : decode cL_law 812 = .ok (.ifCond .eq 7, 3) := by decide +kernel
theorem dL_law_815 : decode cL_law 815 = .ok (.lconst 1, 1) := by decide +kernel
theorem dL_law_816 : decode cL_law 816 = .ok (.goto 4, 3) := by decide +kernel
theorem dL_law_819 : decode cL_law 819 = .ok (.lconst 0, 1) := by decide +kernel
theorem dL_law_820 : decode cL_law 820 = .ok (.lcmp, 1) := by decide +kernel
theorem dL_law_821 : decode cL_law 821 = .ok (.ifCond .eq 5, 3) := by decide +kernel
theorem dL_law_824 : decode cL_law 824 = .ok (.iconst 0, 1) := by decide +kernel
theorem dL_law_825 : decode cL_law 825 = .ok (.ireturn, 1) := by decide +kernel
theorem dL_law_826 : decode cL_law 826 = .ok (.goto 659, 3) := by decide +kernel
theorem dL_law_829 : decode cL_law 829 = .ok (.aload_n 1, 1) := by decide +kernel
theorem dL_law_830 : decode cL_law 830 = .ok (.aload_n 0, 1) := by decide +kernel
theorem dL_law_831 : decode cL_law 831 = .ok (.iload 4, 2) := by decide +kernel
theorem dL_law_833 : decode cL_law 833 = .ok (.iconst 1, 1) := by decide +kernel
theorem dL_law_834 : decode cL_law 834 = .ok (.iadd, 1) := by decide +kernel
theorem dL_law_835 : decode cL_law 835 = .ok (.iaload, 1) := by decide +kernel
theorem dL_law_836 : decode cL_law 836 = .ok (.aload_n 3, 1) := by decide +kernel
theorem dL_law_837 : decode cL_law 837 = .ok (.invokestatic 148, 3) := by decide +kernel
theorem dL_law_840 : decode cL_law 840 = .ok (.istore 5, 2) := by decide +kernel
theorem dL_law_842 : decode cL_law 842 = .ok (.aload_n 2, 1) := by decide +kernel
theorem dL_law_843 : decode cL_law 843 = .ok (.aload_n 0, 1) := by decide +kernel
theorem dL_law_844 : decode cL_law 844 = .ok (.iload 4, 2) := by decide +kernel
theorem dL_law_846 : decode cL_law 846 = .ok (.iconst 1, 1) := by decide +kernel
theorem dL_law_847 : decode cL_law 847 = .ok (.iadd, 1) := by decide +kernel
theorem dL_law_848 : decode cL_law 848 = .ok (.iaload, 1) := by decide +kernel
theorem dL_law_849 : decode cL_law 849 = .ok (.invokevirtual 150, 3) := by decide +kernel
theorem dL_law_852 : decode cL_law 852 = .ok (.istore 6, 2) := by decide +kernel
theorem dL_law_854 : decode cL_law 854 = .ok (.aload_n 2, 1) := by decide +kernel
theorem dL_law_855 : decode cL_law 855 = .ok (.invokevirtual 100, 3) := by decide +kernel
theorem dL_law_858 : decode cL_law 858 = .ok (.iload 5, 2) := by decide +kernel
theorem dL_law_860 : decode cL_law 860 = .ok (.if_icmp .eq 5, 3) := by decide +kernel
theorem dL_law_863 : decode cL_law 863 = .ok (.iconst 0, 1) := by decide +kernel
theorem dL_law_864 : decode cL_law 864 = .ok (.ireturn, 1) := by decide +kernel
theorem dL_law_865 : decode cL_law 865 = .ok (.iload 5, 2) := by decide +kernel
theorem dL_law_867 : decode cL_law 867 = .ok (.ifCond .ne 15, 3) := by decide +kernel
theorem dL_law_870 : decode cL_law 870 = .ok (.aload_n 3, 1) := by decide +kernel
theorem dL_law_871 : decode cL_law 871 = .ok (.iconst 0, 1) := by decide +kernel
theorem dL_law_872 : decode cL_law 872 = .ok (.laload, 1) := by decide +kernel
theorem dL_law_873 : decode cL_law 873 = .ok (.iload 6, 2) := by decide +kernel
theorem dL_law_875 : decode cL_law 875 = .ok (.i2l, 1) := by decide +kernel
theorem dL_law_876 : decode cL_law 876 = .ok (.lcmp, 1) := by decide +kernel
theorem dL_law_877 : decode cL_law 877 = .ok (.ifCond .eq 5, 3) := by decide +kernel
theorem dL_law_880 : decode cL_law 880 = .ok (.iconst 0, 1) := by decide +kernel
theorem dL_law_881 : decode cL_law 881 = .ok (.ireturn, 1) := by decide +kernel
theorem dL_law_882 : decode cL_law 882 = .ok (.goto 603, 3) := by decide +kernel
theorem dL_law_885 : decode cL_law 885 = .ok (.aload_n 1, 1) := by decide +kernel
theorem dL_law_886 : decode cL_law 886 = .ok (.aload_n 0, 1) := by decide +kernel
theorem dL_law_887 : decode cL_law 887 = .ok (.iload 4, 2) := by decide +kernel
theorem dL_law_889 : decode cL_law 889 = .ok (.iconst 1, 1) := by decide +kernel
theorem dL_law_890 : decode cL_law 890 = .ok (.iadd, 1) := by decide +kernel
theorem dL_law_891 : decode cL_law 891 = .ok (.iaload, 1) := by decide +kernel
theorem dL_law_892 : decode cL_law 892 = .ok (.aload_n 0, 1) := by decide +kernel
theorem dL_law_893 : decode cL_law 893 = .ok (.iload 4, 2) := by decide +kernel
theorem dL_law_895 : decode cL_law 895 = .ok (.iconst 2, 1) := by decide +kernel
theorem dL_law_896 : decode cL_law 896 = .ok (.iadd, 1) := by decide +kernel
theorem dL_law_897 : decode cL_law 897 = .ok (.iaload, 1) := by decide +kernel
theorem dL_law_898 : decode cL_law 898 = .ok (.i2c, 1) := by decide +kernel
theorem dL_law_899 : decode cL_law 899 = .ok (.aload_n 3, 1) := by decide +kernel
theorem dL_law_900 : decode cL_law 900 = .ok (.invokestatic 151, 3) := by decide +kernel
theorem dL_law_903 : decode cL_law 903 = .ok (.istore 5, 2) := by decide +kernel
theorem dL_law_905 : decode cL_law 905 = .ok (.aload_n 2, 1) := by decide +kernel
theorem dL_law_906 : decode cL_law 906 = .ok (.aload_n 0, 1) := by decide +kernel
theorem dL_law_907 : decode cL_law 907 = .ok (.iload 4, 2) := by decide +kernel
theorem dL_law_909 : decode cL_law 909 = .ok (.iconst 1, 1) := by decide +kernel
theorem dL_law_910 : decode cL_law 910 = .ok (.iadd, 1) := by decide +kernel
theorem dL_law_911 : decode cL_law 911 = .ok (.iaload, 1) := by decide +kernel
theorem dL_law_912 : decode cL_law 912 = .ok (.aload_n 0, 1) := by decide +kernel
theorem dL_law_913 : decode cL_law 913 = .ok (.iload 4, 2) := by decide +kernel
theorem dL_law_915 : decode cL_law 915 = .ok (.iconst 2, 1) := by decide +kernel
theorem dL_law_916 : decode cL_law 916 = .ok (.iadd, 1) := by decide +kernel
theorem dL_law_917 : decode cL_law 917 = .ok (.iaload, 1) := by decide +kernel
theorem dL_law_918 : decode cL_law 918 = .ok (.i2c, 1) := by decide +kernel
theorem dL_law_919 : decode cL_law 919 = .ok (.invokevirtual 154, 3) := by decide +kernel
theorem dL_law_922 : decode cL_law 922 = .ok (.istore 6, 2) := by decide +kernel
theorem dL_law_924 : decode cL_law 924 = .ok (.aload_n 2, 1) := by decide +kernel
theorem dL_law_925 : decode cL_law 925 = .ok (.invokevirtual 100, 3) := by decide +kernel
theorem dL_law_928 : decode cL_law 928 = .ok (.iload 5, 2) := by decide +kernel
theorem dL_law_930 : decode cL_law 930 = .ok (.if_icmp .eq 5, 3) := by decide +kernel
theorem dL_law_933 : decode cL_law 933 = .ok (.iconst 0, 1) := by decide +kernel
theorem dL_law_934 : decode cL_law 934 = .ok (.ireturn, 1) := by decide +kernel
theorem dL_law_935 : decode cL_law 935 = .ok (.iload 5, 2) := by decide +kernel
theorem dL_law_937 : decode cL_law 937 = .ok (.ifCond .ne 15, 3) := by decide +kernel
theorem dL_law_940 : decode cL_law 940 = .ok (.aload_n 3, 1) := by decide +kernel
theorem dL_law_941 : decode cL_law 941 = .ok (.iconst 0, 1) := by decide +kernel
theorem dL_law_942 : decode cL_law 942 = .ok (.laload, 1) := by decide +kernel
theorem dL_law_943 : decode cL_law 943 = .ok (.iload 6, 2) := by decide +kernel
theorem dL_law_945 : decode cL_law 945 = .ok (.i2l, 1) := by decide +kernel
theorem dL_law_946 : decode cL_law 946 = .ok (.lcmp, 1) := by decide +kernel
theorem dL_law_947 : decode cL_law 947 = .ok (.ifCond .eq 5, 3) := by decide +kernel
theorem dL_law_950 : decode cL_law 950 = .ok (.iconst 0, 1) := by decide +kernel
theorem dL_law_951 : decode cL_law 951 = .ok (.ireturn, 1) := by decide +kernel
theorem dL_law_952 : decode cL_law 952 = .ok (.goto 533, 3) := by decide +kernel
theorem dL_law_955 : decode cL_law 955 = .ok (.aload_n 1, 1) := by decide +kernel
theorem dL_law_956 : decode cL_law 956 = .ok (.aload_n 0, 1) := by decide +kernel
theorem dL_law_957 : decode cL_law 957 = .ok (.iload 4, 2) := by decide +kernel
theorem dL_law_959 : decode cL_law 959 = .ok (.iconst 1, 1) := by decide +kernel
theorem dL_law_960 : decode cL_law 960 = .ok (.iadd, 1) := by decide +kernel
theorem dL_law_961 : decode cL_law 961 = .ok (.iaload, 1) := by decide +kernel
theorem dL_law_962 : decode cL_law 962 = .ok (.aload_n 0, 1) := by decide +kernel
theorem dL_law_963 : decode cL_law 963 = .ok (.iload 4, 2) := by decide +kernel
theorem dL_law_965 : decode cL_law 965 = .ok (.iconst 2, 1) := by decide +kernel
theorem dL_law_966 : decode cL_law 966 = .ok (.iadd, 1) := by decide +kernel
theorem dL_law_967 : decode cL_law 967 = .ok (.iaload, 1) := by decide +kernel
theorem dL_law_968 : decode cL_law 968 = .ok (.i2c, 1) := by decide +kernel
theorem dL_law_969 : decode cL_law 969 = .ok (.aload_n 0, 1) := by decide +kernel
theorem dL_law_970 : decode cL_law 970 = .ok (.iload 4, 2) := by decide +kernel
theorem dL_law_972 : decode cL_law 972 = .ok (.iconst 3, 1) := by decide +kernel
theorem dL_law_973 : decode cL_law 973 = .ok (.iadd, 1) := by decide +kernel
theorem dL_law_974 : decode cL_law 974 = .ok (.iaload, 1) := by decide +kernel
theorem dL_law_975 : decode cL_law 975 = .ok (.aload_n 3, 1) := by decide +kernel
theorem dL_law_976 : decode cL_law 976 = .ok (.invokestatic 155, 3) := by decide +kernel
theorem dL_law_979 : decode cL_law 979 = .ok (.istore 5, 2) := by decide +kernel
theorem dL_law_981 : decode cL_law 981 = .ok (.aload_n 2, 1) := by decide +kernel
theorem dL_law_982 : decode cL_law 982 = .ok (.aload_n 0, 1) := by decide +kernel
theorem dL_law_983 : decode cL_law 983 = .ok (.iload 4, 2) := by decide +kernel
theorem dL_law_985 : decode cL_law 985 = .ok (.iconst 1, 1) := by decide +kernel
theorem dL_law_986 : decode cL_law 986 = .ok (.iadd, 1) := by decide +kernel
theorem dL_law_987 : decode cL_law 987 = .ok (.iaload, 1) := by decide +kernel
theorem dL_law_988 : decode cL_law 988 = .ok (.aload_n 0, 1) := by decide +kernel
theorem dL_law_989 : decode cL_law 989 = .ok (.iload 4, 2) := by decide +kernel
theorem dL_law_991 : decode cL_law 991 = .ok (.iconst 2, 1) := by decide +kernel
theorem dL_law_992 : decode cL_law 992 = .ok (.iadd, 1) := by decide +kernel
theorem dL_law_993 : decode cL_law 993 = .ok (.iaload, 1) := by decide +kernel
theorem dL_law_994 : decode cL_law 994 = .ok (.i2c, 1) := by decide +kernel
theorem dL_law_995 : decode cL_law 995 = .ok (.aload_n 0, 1) := by decide +kernel
theorem dL_law_996 : decode cL_law 996 = .ok (.iload 4, 2) := by decide +kernel
theorem dL_law_998 : decode cL_law 998 = .ok (.iconst 3, 1) := by decide +kernel
theorem dL_law_999 : decode cL_law 999 = .ok (.iadd, 1) := by decide +kernel
theorem dL_law_1000 : decode cL_law 1000 = .ok (.iaload, 1) := by decide +kernel
theorem dL_law_1001 : decode cL_law 1001 = .ok (.invokevirtual 158, 3) := by decide +kernel
theorem dL_law_1004 : decode cL_law 1004 = .ok (.istore 6, 2) := by decide +kernel
theorem dL_law_1006 : decode cL_law 1006 = .ok (.aload_n 2, 1) := by decide +kernel
theorem dL_law_1007 : decode cL_law 1007 = .ok (.invokevirtual 100, 3) := by decide +kernel
theorem dL_law_1010 : decode cL_law 1010 = .ok (.iload 5, 2) := by decide +kernel
theorem dL_law_1012 : decode cL_law 1012 = .ok (.if_icmp .eq 5, 3) := by decide +kernel
theorem dL_law_1015 : decode cL_law 1015 = .ok (.iconst 0, 1) := by decide +kernel
theorem dL_law_1016 : decode cL_law 1016 = .ok (.ireturn, 1) := by decide +kernel
theorem dL_law_1017 : decode cL_law 1017 = .ok (.iload 5, 2) := by decide +kernel
theorem dL_law_1019 : decode cL_law 1019 = .ok (.ifCond .ne 15, 3) := by decide +kernel
theorem dL_law_1022 : decode cL_law 1022 = .ok (.aload_n 3, 1) := by decide +kernel
theorem dL_law_1023 : decode cL_law 1023 = .ok (.iconst 0, 1) := by decide +kernel
theorem dL_law_1024 : decode cL_law 1024 = .ok (.laload, 1) := by decide +kernel
theorem dL_law_1025 : decode cL_law 1025 = .ok (.iload 6, 2) := by decide +kernel
theorem dL_law_1027 : decode cL_law 1027 = .ok (.i2l, 1) := by decide +kernel
theorem dL_law_1028 : decode cL_law 1028 = .ok (.lcmp, 1) := by decide +kernel
theorem dL_law_1029 : decode cL_law 1029 = .ok (.ifCond .eq 5, 3) := by decide +kernel
theorem dL_law_1032 : decode cL_law 1032 = .ok (.iconst 0, 1) := by decide +kernel
theorem dL_law_1033 : decode cL_law 1033 = .ok (.ireturn, 1) := by decide +kernel
theorem dL_law_1034 : decode cL_law 1034 = .ok (.goto 451, 3) := by decide +kernel
theorem dL_law_1037 : decode cL_law 1037 = .ok (.aload_n 1, 1) := by decide +kernel
theorem dL_law_1038 : decode cL_law 1038 = .ok (.aload_n 0, 1) := by decide +kernel
theorem dL_law_1039 : decode cL_law 1039 = .ok (.iload 4, 2) := by decide +kernel
theorem dL_law_1041 : decode cL_law 1041 = .ok (.iconst 1, 1) := by decide +kernel
theorem dL_law_1042 : decode cL_law 1042 = .ok (.iadd, 1) := by decide +kernel
theorem dL_law_1043 : decode cL_law 1043 = .ok (.iaload, 1) := by decide +kernel
theorem dL_law_1044 : decode cL_law 1044 = .ok (.aload_n 0, 1) := by decide +kernel
theorem dL_law_1045 : decode cL_law 1045 = .ok (.iload 4, 2) := by decide +kernel
theorem dL_law_1047 : decode cL_law 1047 = .ok (.iconst 2, 1) := by decide +kernel
theorem dL_law_1048 : decode cL_law 1048 = .ok (.iadd, 1) := by decide +kernel
theorem dL_law_1049 : decode cL_law 1049 = .ok (.iaload, 1) := by decide +kernel
theorem dL_law_1050 : decode cL_law 1050 = .ok (.i2c, 1) := by decide +kernel
theorem dL_law_1051 : decode cL_law 1051 = .ok (.aload_n 3, 1) := by decide +kernel
theorem dL_law_1052 : decode cL_law 1052 = .ok (.invokestatic 159, 3) := by decide +kernel
theorem dL_law_1055 : decode cL_law 1055 = .ok (.istore 5, 2) := by decide +kernel
theorem dL_law_1057 : decode cL_law 1057 = .ok (.aload_n 2, 1) := by decide +kernel
theorem dL_law_1058 : decode cL_law 1058 = .ok (.aload_n 0, 1) := by decide +kernel
theorem dL_law_1059 : decode cL_law 1059 = .ok (.iload 4, 2) := by decide +kernel
theorem dL_law_1061 : decode cL_law 1061 = .ok (.iconst 1, 1) := by decide +kernel
theorem dL_law_1062 : decode cL_law 1062 = .ok (.iadd, 1) := by decide +kernel
theorem dL_law_1063 : decode cL_law 1063 = .ok (.iaload, 1) := by decide +kernel
theorem dL_law_1064 : decode cL_law 1064 = .ok (.aload_n 0, 1) := by decide +kernel
theorem dL_law_1065 : decode cL_law 1065 = .ok (.iload 4, 2) := by decide +kernel
theorem dL_law_1067 : decode cL_law 1067 = .ok (.iconst 2, 1) := by decide +kernel
theorem dL_law_1068 : decode cL_law 1068 = .ok (.iadd, 1) := by decide +kernel
theorem dL_law_1069 : decode cL_law 1069 = .ok (.iaload, 1) := by decide +kernel
theorem dL_law_1070 : decode cL_law 1070 = .ok (.i2c, 1) := by decide +kernel
theorem dL_law_1071 : decode cL_law 1071 = .ok (.invokevirtual 161, 3) := by decide +kernel
theorem dL_law_1074 : decode cL_law 1074 = .ok (.istore 6, 2) := by decide +kernel
theorem dL_law_1076 : decode cL_law 1076 = .ok (.aload_n 2, 1) := by decide +kernel
theorem dL_law_1077 : decode cL_law 1077 = .ok (.invokevirtual 100, 3) := by decide +kernel
theorem dL_law_1080 : decode cL_law 1080 = .ok (.iload 5, 2) := by decide +kernel
theorem dL_law_1082 : decode cL_law 1082 = .ok (.if_icmp .eq 5, 3) := by decide +kernel
theorem dL_law_1085 : decode cL_law 1085 = .ok (.iconst 0, 1) := by decide +kernel
theorem dL_law_1086 : decode cL_law 1086 = .ok (.ireturn, 1) := by decide +kernel
theorem dL_law_1087 : decode cL_law 1087 = .ok (.iload 5, 2) := by decide +kernel
theorem dL_law_1089 : decode cL_law 1089 = .ok (.ifCond .ne 15, 3) := by decide +kernel
theorem dL_law_1092 : decode cL_law 1092 = .ok (.aload_n 3, 1) := by decide +kernel
theorem dL_law_1093 : decode cL_law 1093 = .ok (.iconst 0, 1) := by decide +kernel
theorem dL_law_1094 : decode cL_law 1094 = .ok (.laload, 1) := by decide +kernel
theorem dL_law_1095 : decode cL_law 1095 = .ok (.iload 6, 2) := by decide +kernel
theorem dL_law_1097 : decode cL_law 1097 = .ok (.i2l, 1) := by decide +kernel
theorem dL_law_1098 : decode cL_law 1098 = .ok (.lcmp, 1) := by decide +kernel
theorem dL_law_1099 : decode cL_law 1099 = .ok (.ifCond .eq 5, 3) := by decide +kernel
theorem dL_law_1102 : decode cL_law 1102 = .ok (.iconst 0, 1) := by decide +kernel
theorem dL_law_1103 : decode cL_law 1103 = .ok (.ireturn, 1) := by decide +kernel
theorem dL_law_1104 : decode cL_law 1104 = .ok (.goto 381, 3) := by decide +kernel
theorem dL_law_1107 : decode cL_law 1107 = .ok (.aload_n 1, 1) := by decide +kernel
theorem dL_law_1108 : decode cL_law 1108 = .ok (.aload_n 0, 1) := by decide +kernel
theorem dL_law_1109 : decode cL_law 1109 = .ok (.iload 4, 2) := by decide +kernel
theorem dL_law_1111 : decode cL_law 1111 = .ok (.iconst 1, 1) := by decide +kernel
theorem dL_law_1112 : decode cL_law 1112 = .ok (.iadd, 1) := by decide +kernel
theorem dL_law_1113 : decode cL_law 1113 = .ok (.iaload, 1) := by decide +kernel
theorem dL_law_1114 : decode cL_law 1114 = .ok (.aload_n 0, 1) := by decide +kernel
theorem dL_law_1115 : decode cL_law 1115 = .ok (.iload 4, 2) := by decide +kernel
theorem dL_law_1117 : decode cL_law 1117 = .ok (.iconst 2, 1) := by decide +kernel
theorem dL_law_1118 : decode cL_law 1118 = .ok (.iadd, 1) := by decide +kernel
theorem dL_law_1119 : decode cL_law 1119 = .ok (.iaload, 1) := by decide +kernel
theorem dL_law_1120 : decode cL_law 1120 = .ok (.i2c, 1) := by decide +kernel
theorem dL_law_1121 : decode cL_law 1121 = .ok (.aload_n 3, 1) := by decide +kernel
theorem dL_law_1122 : decode cL_law 1122 = .ok (.invokestatic 162, 3) := by decide +kernel
theorem dL_law_1125 : decode cL_law 1125 = .ok (.istore 5, 2) := by decide +kernel
theorem dL_law_1127 : decode cL_law 1127 = .ok (.aload_n 2, 1) := by decide +kernel
theorem dL_law_1128 : decode cL_law 1128 = .ok (.aload_n 0, 1) := by decide +kernel
theorem dL_law_1129 : decode cL_law 1129 = .ok (.iload 4, 2) := by decide +kernel
theorem dL_law_1131 : decode cL_law 1131 = .ok (.iconst 1, 1) := by decide +kernel
theorem dL_law_1132 : decode cL_law 1132 = .ok (.iadd, 1) := by decide +kernel
theorem dL_law_1133 : decode cL_law 1133 = .ok (.iaload, 1) := by decide +kernel
theorem dL_law_1134 : decode cL_law 1134 = .ok (.aload_n 0, 1) := by decide +kernel
theorem dL_law_1135 : decode cL_law 1135 = .ok (.iload 4, 2) := by decide +kernel
theorem dL_law_1137 : decode cL_law 1137 = .ok (.iconst 2, 1) := by decide +kernel
theorem dL_law_1138 : decode cL_law 1138 = .ok (.iadd, 1) := by decide +kernel
theorem dL_law_1139 : decode cL_law 1139 = .ok (.iaload, 1) := by decide +kernel
theorem dL_law_1140 : decode cL_law 1140 = .ok (.i2c, 1) := by decide +kernel
theorem dL_law_1141 : decode cL_law 1141 = .ok (.invokevirtual 164, 3) := by decide +kernel
theorem dL_law_1144 : decode cL_law 1144 = .ok (.istore 6, 2) := by decide +kernel
theorem dL_law_1146 : decode cL_law 1146 = .ok (.aload_n 2, 1) := by decide +kernel
theorem dL_law_1147 : decode cL_law 1147 = .ok (.invokevirtual 100, 3) := by decide +kernel
theorem dL_law_1150 : decode cL_law 1150 = .ok (.iload 5, 2) := by decide +kernel
theorem dL_law_1152 : decode cL_law 1152 = .ok (.if_icmp .eq 5, 3) := by decide +kernel
theorem dL_law_1155 : decode cL_law 1155 = .ok (.iconst 0, 1) := by decide +kernel
theorem dL_law_1156 : decode cL_law 1156 = .ok (.ireturn, 1) := by decide +kernel
theorem dL_law_1157 : decode cL_law 1157 = .ok (.iload 5, 2) := by decide +kernel
theorem dL_law_1159 : decode cL_law 1159 = .ok (.ifCond .ne 15, 3) := by decide +kernel
theorem dL_law_1162 : decode cL_law 1162 = .ok (.aload_n 3, 1) := by decide +kernel
theorem dL_law_1163 : decode cL_law 1163 = .ok (.iconst 0, 1) := by decide +kernel
theorem dL_law_1164 : decode cL_law 1164 = .ok (.laload, 1) := by decide +kernel
theorem dL_law_1165 : decode cL_law 1165 = .ok (.iload 6, 2) := by decide +kernel
theorem dL_law_1167 : decode cL_law 1167 = .ok (.i2l, 1) := by decide +kernel
theorem dL_law_1168 : decode cL_law 1168 = .ok (.lcmp, 1) := by decide +kernel
theorem dL_law_1169 : decode cL_law 1169 = .ok (.ifCond .eq 5, 3) := by decide +kernel
theorem dL_law_1172 : decode cL_law 1172 = .ok (.iconst 0, 1) := by decide +kernel
theorem dL_law_1173 : decode cL_law 1173 = .ok (.ireturn, 1) := by decide +kernel
theorem dL_law_1174 : decode cL_law 1174 = .ok (.goto 311, 3) := by decide +kernel
theorem dL_law_1177 : decode cL_law 1177 = .ok (.aload_n 1, 1) := by decide +kernel
theorem dL_law_1178 : decode cL_law 1178 = .ok (.aload_n 0, 1) := by decide +kernel
theorem dL_law_1179 : decode cL_law 1179 = .ok (.iload 4, 2) := by decide +kernel
theorem dL_law_1181 : decode cL_law 1181 = .ok (.iconst 1, 1) := by decide +kernel
theorem dL_law_1182 : decode cL_law 1182 = .ok (.iadd, 1) := by decide +kernel
theorem dL_law_1183 : decode cL_law 1183 = .ok (.iaload, 1) := by decide +kernel
theorem dL_law_1184 : decode cL_law 1184 = .ok (.aload_n 0, 1) := by decide +kernel
theorem dL_law_1185 : decode cL_law 1185 = .ok (.iload 4, 2) := by decide +kernel
theorem dL_law_1187 : decode cL_law 1187 = .ok (.iconst 2, 1) := by decide +kernel
theorem dL_law_1188 : decode cL_law 1188 = .ok (.iadd, 1) := by decide +kernel
theorem dL_law_1189 : decode cL_law 1189 = .ok (.iaload, 1) := by decide +kernel
theorem dL_law_1190 : decode cL_law 1190 = .ok (.aload_n 3, 1) := by decide +kernel
theorem dL_law_1191 : decode cL_law 1191 = .ok (.invokestatic 165, 3) := by decide +kernel
theorem dL_law_1194 : decode cL_law 1194 = .ok (.istore 5, 2) := by decide +kernel
theorem dL_law_1196 : decode cL_law 1196 = .ok (.aload_n 2, 1) := by decide +kernel
theorem dL_law_1197 : decode cL_law 1197 = .ok (.aload_n 0, 1) := by decide +kernel
theorem dL_law_1198 : decode cL_law 1198 = .ok (.iload 4, 2) := by decide +kernel
theorem dL_law_1200 : decode cL_law 1200 = .ok (.iconst 1, 1) := by decide +kernel
theorem dL_law_1201 : decode cL_law 1201 = .ok (.iadd, 1) := by decide +kernel
theorem dL_law_1202 : decode cL_law 1202 = .ok (.iaload, 1) := by decide +kernel
theorem dL_law_1203 : decode cL_law 1203 = .ok (.aload_n 0, 1) := by decide +kernel
theorem dL_law_1204 : decode cL_law 1204 = .ok (.iload 4, 2) := by decide +kernel
theorem dL_law_1206 : decode cL_law 1206 = .ok (.iconst 2, 1) := by decide +kernel
theorem dL_law_1207 : decode cL_law 1207 = .ok (.iadd, 1) := by decide +kernel
theorem dL_law_1208 : decode cL_law 1208 = .ok (.iaload, 1) := by decide +kernel
theorem dL_law_1209 : decode cL_law 1209 = .ok (.invokevirtual 168, 3) := by decide +kernel
theorem dL_law_1212 : decode cL_law 1212 = .ok (.istore 6, 2) := by decide +kernel
theorem dL_law_1214 : decode cL_law 1214 = .ok (.aload_n 2, 1) := by decide +kernel
theorem dL_law_1215 : decode cL_law 1215 = .ok (.invokevirtual 100, 3) := by decide +kernel
theorem dL_law_1218 : decode cL_law 1218 = .ok (.iload 5, 2) := by decide +kernel
theorem dL_law_1220 : decode cL_law 1220 = .ok (.if_icmp .eq 5, 3) := by decide +kernel
theorem dL_law_1223 : decode cL_law 1223 = .ok (.iconst 0, 1) := by decide +kernel
theorem dL_law_1224 : decode cL_law 1224 = .ok (.ireturn, 1) := by decide +kernel
theorem dL_law_1225 : decode cL_law 1225 = .ok (.iload 5, 2) := by decide +kernel
theorem dL_law_1227 : decode cL_law 1227 = .ok (.ifCond .ne 15, 3) := by decide +kernel
theorem dL_law_1230 : decode cL_law 1230 = .ok (.aload_n 3, 1) := by decide +kernel
theorem dL_law_1231 : decode cL_law 1231 = .ok (.iconst 0, 1) := by decide +kernel
theorem dL_law_1232 : decode cL_law 1232 = .ok (.laload, 1) := by decide +kernel
theorem dL_law_1233 : decode cL_law 1233 = .ok (.iload 6, 2) := by decide +kernel
theorem dL_law_1235 : decode cL_law 1235 = .ok (.i2l, 1) := by decide +kernel
theorem dL_law_1236 : decode cL_law 1236 = .ok (.lcmp, 1) := by decide +kernel
theorem dL_law_1237 : decode cL_law 1237 = .ok (.ifCond .eq 5, 3) := by decide +kernel
theorem dL_law_1240 : decode cL_law 1240 = .ok (.iconst 0, 1) := by decide +kernel
theorem dL_law_1241 : decode cL_law 1241 = .ok (.ireturn, 1) := by decide +kernel
theorem dL_law_1242 : decode cL_law 1242 = .ok (.goto 243, 3) := by decide +kernel
theorem dL_law_1245 : decode cL_law 1245 = .ok (.aload_n 1, 1) := by decide +kernel
theorem dL_law_1246 : decode cL_law 1246 = .ok (.aload_n 0, 1) := by decide +kernel
theorem dL_law_1247 : decode cL_law 1247 = .ok (.iload 4, 2) := by decide +kernel
theorem dL_law_1249 : decode cL_law 1249 = .ok (.iconst 1, 1) := by decide +kernel
theorem dL_law_1250 : decode cL_law 1250 = .ok (.iadd, 1) := by decide +kernel
theorem dL_law_1251 : decode cL_law 1251 = .ok (.iaload, 1) := by decide +kernel
theorem dL_law_1252 : decode cL_law 1252 = .ok (.aload_n 0, 1) := by decide +kernel
theorem dL_law_1253 : decode cL_law 1253 = .ok (.iload 4, 2) := by decide +kernel
theorem dL_law_1255 : decode cL_law 1255 = .ok (.iconst 2, 1) := by decide +kernel
theorem dL_law_1256 : decode cL_law 1256 = .ok (.iadd, 1) := by decide +kernel
theorem dL_law_1257 : decode cL_law 1257 = .ok (.iaload, 1) := by decide +kernel
theorem dL_law_1258 : decode cL_law 1258 = .ok (.aload_n 3, 1) := by decide +kernel
theorem dL_law_1259 : decode cL_law 1259 = .ok (.invokestatic 169, 3) := by decide +kernel
theorem dL_law_1262 : decode cL_law 1262 = .ok (.istore 5, 2) := by decide +kernel
theorem dL_law_1264 : decode cL_law 1264 = .ok (.aload_n 2, 1) := by decide +kernel
theorem dL_law_1265 : decode cL_law 1265 = .ok (.aload_n 0, 1) := by decide +kernel
theorem dL_law_1266 : decode cL_law 1266 = .ok (.iload 4, 2) := by decide +kernel
theorem dL_law_1268 : decode cL_law 1268 = .ok (.iconst 1, 1) := by decide +kernel
theorem dL_law_1269 : decode cL_law 1269 = .ok (.iadd, 1) := by decide +kernel
theorem dL_law_1270 : decode cL_law 1270 = .ok (.iaload, 1) := by decide +kernel
theorem dL_law_1271 : decode cL_law 1271 = .ok (.aload_n 0, 1) := by decide +kernel
theorem dL_law_1272 : decode cL_law 1272 = .ok (.iload 4, 2) := by decide +kernel
theorem dL_law_1274 : decode cL_law 1274 = .ok (.iconst 2, 1) := by decide +kernel
theorem dL_law_1275 : decode cL_law 1275 = .ok (.iadd, 1) := by decide +kernel
theorem dL_law_1276 : decode cL_law 1276 = .ok (.iaload, 1) := by decide +kernel
theorem dL_law_1277 : decode cL_law 1277 = .ok (.invokevirtual 171, 3) := by decide +kernel
theorem dL_law_1280 : decode cL_law 1280 = .ok (.istore 6, 2) := by decide +kernel
theorem dL_law_1282 : decode cL_law 1282 = .ok (.aload_n 2, 1) := by decide +kernel
theorem dL_law_1283 : decode cL_law 1283 = .ok (.invokevirtual 100, 3) := by decide +kernel
theorem dL_law_1286 : decode cL_law 1286 = .ok (.iload 5, 2) := by decide +kernel
theorem dL_law_1288 : decode cL_law 1288 = .ok (.if_icmp .eq 5, 3) := by decide +kernel
theorem dL_law_1291 : decode cL_law 1291 = .ok (.iconst 0, 1) := by decide +kernel
theorem dL_law_1292 : decode cL_law 1292 = .ok (.ireturn, 1) := by decide +kernel
theorem dL_law_1293 : decode cL_law 1293 = .ok (.iload 5, 2) := by decide +kernel
theorem dL_law_1295 : decode cL_law 1295 = .ok (.ifCond .ne 15, 3) := by decide +kernel
theorem dL_law_1298 : decode cL_law 1298 = .ok (.aload_n 3, 1) := by decide +kernel
theorem dL_law_1299 : decode cL_law 1299 = .ok (.iconst 0, 1) := by decide +kernel
theorem dL_law_1300 : decode cL_law 1300 = .ok (.laload, 1) := by decide +kernel
theorem dL_law_1301 : decode cL_law 1301 = .ok (.iload 6, 2) := by decide +kernel
theorem dL_law_1303 : decode cL_law 1303 = .ok (.i2l, 1) := by decide +kernel
theorem dL_law_1304 : decode cL_law 1304 = .ok (.lcmp, 1) := by decide +kernel
theorem dL_law_1305 : decode cL_law 1305 = .ok (.ifCond .eq 5, 3) := by decide +kernel
theorem dL_law_1308 : decode cL_law 1308 = .ok (.iconst 0, 1) := by decide +kernel
theorem dL_law_1309 : decode cL_law 1309 = .ok (.ireturn, 1) := by decide +kernel
theorem dL_law_1310 : decode cL_law 1310 = .ok (.goto 175, 3) := by decide +kernel
theorem dL_law_1313 : decode cL_law 1313 = .ok (.aload_n 1, 1) := by decide +kernel
theorem dL_law_1314 : decode cL_law 1314 = .ok (.aload_n 0, 1) := by decide +kernel
theorem dL_law_1315 : decode cL_law 1315 = .ok (.iload 4, 2) := by decide +kernel
theorem dL_law_1317 : decode cL_law 1317 = .ok (.iconst 1, 1) := by decide +kernel
theorem dL_law_1318 : decode cL_law 1318 = .ok (.iadd, 1) := by decide +kernel
theorem dL_law_1319 : decode cL_law 1319 = .ok (.iaload, 1) := by decide +kernel
theorem dL_law_1320 : decode cL_law 1320 = .ok (.aload_n 3, 1) := by decide +kernel
theorem dL_law_1321 : decode cL_law 1321 = .ok (.invokestatic 172, 3) := by decide +kernel
theorem dL_law_1324 : decode cL_law 1324 = .ok (.istore 5, 2) := by decide +kernel
theorem dL_law_1326 : decode cL_law 1326 = .ok (.aload_n 2, 1) := by decide +kernel
theorem dL_law_1327 : decode cL_law 1327 = .ok (.aload_n 0, 1) := by decide +kernel
theorem dL_law_1328 : decode cL_law 1328 = .ok (.iload 4, 2) := by decide +kernel
theorem dL_law_1330 : decode cL_law 1330 = .ok (.iconst 1, 1) := by decide +kernel
theorem dL_law_1331 : decode cL_law 1331 = .ok (.iadd, 1) := by decide +kernel
theorem dL_law_1332 : decode cL_law 1332 = .ok (.iaload, 1) := by decide +kernel
theorem dL_law_1333 : decode cL_law 1333 = .ok (.invokevirtual 174, 3) := by decide +kernel
theorem dL_law_1336 : decode cL_law 1336 = .ok (.istore 6, 2) := by decide +kernel
theorem dL_law_1338 : decode cL_law 1338 = .ok (.aload_n 2, 1) := by decide +kernel
theorem dL_law_1339 : decode cL_law 1339 = .ok (.invokevirtual 100, 3) := by decide +kernel
theorem dL_law_1342 : decode cL_law 1342 = .ok (.iload 5, 2) := by decide +kernel
theorem dL_law_1344 : decode cL_law 1344 = .ok (.if_icmp .eq 5, 3) := by decide +kernel
theorem dL_law_1347 : decode cL_law 1347 = .ok (.iconst 0, 1) := by decide +kernel
theorem dL_law_1348 : decode cL_law 1348 = .ok (.ireturn, 1) := by decide +kernel
theorem dL_law_1349 : decode cL_law 1349 = .ok (.iload 5, 2) := by decide +kernel
theorem dL_law_1351 : decode cL_law 1351 = .ok (.ifCond .ne 22, 3) := by decide +kernel
theorem dL_law_1354 : decode cL_law 1354 = .ok (.aload_n 3, 1) := by decide +kernel
theorem dL_law_1355 : decode cL_law 1355 = .ok (.iconst 0, 1) := by decide +kernel
theorem dL_law_1356 : decode cL_law 1356 = .ok (.laload, 1) := by decide +kernel
theorem dL_law_1357 : decode cL_law 1357 = .ok (.iload 6, 2) := by decide +kernel
theorem dL_law_1359 : decode cL_law 1359 = .ok (.ifCond .eq 7, 3) := by decide +kernel
theorem dL_law_1362 : decode cL_law 1362 = .ok (.lconst 1, 1) := by decide +kernel
theorem dL_law_1363 : decode cL_law 1363 = .ok (.goto 4, 3) := by decide +kernel
theorem dL_law_1366 : decode cL_law 1366 = .ok (.lconst 0, 1) := by decide +kernel
theorem dL_law_1367 : decode cL_law 1367 = .ok (.lcmp, 1) := by decide +kernel
theorem dL_law_1368 : decode cL_law 1368 = .ok (.ifCond .eq 5, 3) := by decide +kernel
theorem dL_law_1371 : decode cL_law 1371 = .ok (.iconst 0, 1) := by decide +kernel
theorem dL_law_1372 : decode cL_law 1372 = .ok (.ireturn, 1) := by decide +kernel
theorem dL_law_1373 : decode cL_law 1373 = .ok (.goto 112, 3) := by decide +kernel
theorem dL_law_1376 : decode cL_law 1376 = .ok (.aload_n 1, 1) := by decide +kernel
theorem dL_law_1377 : decode cL_law 1377 = .ok (.aload_n 0, 1) := by decide +kernel
theorem dL_law_1378 : decode cL_law 1378 = .ok (.iload 4, 2) := by decide +kernel
theorem dL_law_1380 : decode cL_law 1380 = .ok (.iconst 1, 1) := by decide +kernel
theorem dL_law_1381 : decode cL_law 1381 = .ok (.iadd, 1) := by decide +kernel
theorem dL_law_1382 : decode cL_law 1382 = .ok (.iaload, 1) := by decide +kernel
theorem dL_law_1383 : decode cL_law 1383 = .ok (.aload_n 0, 1) := by decide +kernel
theorem dL_law_1384 : decode cL_law 1384 = .ok (.iload 4, 2) := by decide +kernel
theorem dL_law_1386 : decode cL_law 1386 = .ok (.iconst 2, 1) := by decide +kernel
theorem dL_law_1387 : decode cL_law 1387 = .ok (.iadd, 1) := by decide +kernel
theorem dL_law_1388 : decode cL_law 1388 = .ok (.iaload, 1) := by decide +kernel
theorem dL_law_1389 : decode cL_law 1389 = .ok (.aload_n 0, 1) := by decide +kernel
theorem dL_law_1390 : decode cL_law 1390 = .ok (.iload 4, 2) := by decide +kernel
theorem dL_law_1392 : decode cL_law 1392 = .ok (.iconst 3, 1) := by decide +kernel
theorem dL_law_1393 : decode cL_law 1393 = .ok (.iadd, 1) := by decide +kernel
theorem dL_law_1394 : decode cL_law 1394 = .ok (.iaload, 1) := by decide +kernel
theorem dL_law_1395 : decode cL_law 1395 = .ok (.i2c, 1) := by decide +kernel
theorem dL_law_1396 : decode cL_law 1396 = .ok (.aload_n 3, 1) := by decide +kernel
theorem dL_law_1397 : decode cL_law 1397 = .ok (.invokestatic 175, 3) := by decide +kernel
theorem dL_law_1400 : decode cL_law 1400 = .ok (.istore 5, 2) := by decide +kernel
theorem dL_law_1402 : decode cL_law 1402 = .ok (.aload_n 2, 1) := by decide +kernel
theorem dL_law_1403 : decode cL_law 1403 = .ok (.aload_n 0, 1) := by decide +kernel
theorem dL_law_1404 : decode cL_law 1404 = .ok (.iload 4, 2) := by decide +kernel
theorem dL_law_1406 : decode cL_law 1406 = .ok (.iconst 1, 1) := by decide +kernel
theorem dL_law_1407 : decode cL_law 1407 = .ok (.iadd, 1) := by decide +kernel
theorem dL_law_1408 : decode cL_law 1408 = .ok (.iaload, 1) := by decide +kernel
theorem dL_law_1409 : decode cL_law 1409 = .ok (.aload_n 0, 1) := by decide +kernel
theorem dL_law_1410 : decode cL_law 1410 = .ok (.iload 4, 2) := by decide +kernel
theorem dL_law_1412 : decode cL_law 1412 = .ok (.iconst 2, 1) := by decide +kernel
theorem dL_law_1413 : decode cL_law 1413 = .ok (.iadd, 1) := by decide +kernel
theorem dL_law_1414 : decode cL_law 1414 = .ok (.iaload, 1) := by decide +kernel
theorem dL_law_1415 : decode cL_law 1415 = .ok (.aload_n 0, 1) := by decide +kernel
theorem dL_law_1416 : decode cL_law 1416 = .ok (.iload 4, 2) := by decide +kernel
theorem dL_law_1418 : decode cL_law 1418 = .ok (.iconst 3, 1) := by decide +kernel
theorem dL_law_1419 : decode cL_law 1419 = .ok (.iadd, 1) := by decide +kernel
theorem dL_law_1420 : decode cL_law 1420 = .ok (.iaload, 1) := by decide +kernel
theorem dL_law_1421 : decode cL_law 1421 = .ok (.i2c, 1) := by decide +kernel
theorem dL_law_1422 : decode cL_law 1422 = .ok (.invokevirtual 178, 3) := by decide +kernel
theorem dL_law_1425 : decode cL_law 1425 = .ok (.istore 6, 2) := by decide +kernel
theorem dL_law_1427 : decode cL_law 1427 = .ok (.aload_n 2, 1) := by decide +kernel
theorem dL_law_1428 : decode cL_law 1428 = .ok (.invokevirtual 100, 3) := by decide +kernel
theorem dL_law_1431 : decode cL_law 1431 = .ok (.iload 5, 2) := by decide +kernel
theorem dL_law_1433 : decode cL_law 1433 = .ok (.if_icmp .eq 5, 3) := by decide +kernel
theorem dL_law_1436 : decode cL_law 1436 = .ok (.iconst 0, 1) := by decide +kernel
theorem dL_law_1437 : decode cL_law 1437 = .ok (.ireturn, 1) := by decide +kernel
theorem dL_law_1438 : decode cL_law 1438 = .ok (.iload 5, 2) := by decide +kernel
theorem dL_law_1440 : decode cL_law 1440 = .ok (.ifCond .ne 15, 3) := by decide +kernel
theorem dL_law_1443 : decode cL_law 1443 = .ok (.aload_n 3, 1) := by decide +kernel
theorem dL_law_1444 : decode cL_law 1444 = .ok (.iconst 0, 1) := by decide +kernel
theorem dL_law_1445 : decode cL_law 1445 = .ok (.laload, 1) := by decide +kernel
theorem dL_law_1446 : decode cL_law 1446 = .ok (.iload 6, 2) := by decide +kernel
theorem dL_law_1448 : decode cL_law 1448 = .ok (.i2l, 1) := by decide +kernel
theorem dL_law_1449 : decode cL_law 1449 = .ok (.lcmp, 1) := by decide +kernel
theorem dL_law_1450 : decode cL_law 1450 = .ok (.ifCond .eq 5, 3) := by decide +kernel
theorem dL_law_1453 : decode cL_law 1453 = .ok (.iconst 0, 1) := by decide +kernel
theorem dL_law_1454 : decode cL_law 1454 = .ok (.ireturn, 1) := by decide +kernel
theorem dL_law_1455 : decode cL_law 1455 = .ok (.goto 30, 3) := by decide +kernel
theorem dL_law_1458 : decode cL_law 1458 = .ok (.aload_n 1, 1) := by decide +kernel
theorem dL_law_1459 : decode cL_law 1459 = .ok (.invokevirtual 179, 3) := by decide +kernel
theorem dL_law_1462 : decode cL_law 1462 = .ok (.aload_n 2, 1) := by decide +kernel
theorem dL_law_1463 : decode cL_law 1463 = .ok (.invokevirtual 182, 3) := by decide +kernel
theorem dL_law_1466 : decode cL_law 1466 = .ok (.if_icmp .eq 19, 3) := by decide +kernel
theorem dL_law_1469 : decode cL_law 1469 = .ok (.iconst 0, 1) := by decide +kernel
theorem dL_law_1470 : decode cL_law 1470 = .ok (.ireturn, 1) := by decide +kernel
theorem dL_law_1471 : decode cL_law 1471 = .ok (.aload_n 1, 1) := by decide +kernel
theorem dL_law_1472 : decode cL_law 1472 = .ok (.invokevirtual 183, 3) := by decide +kernel
theorem dL_law_1475 : decode cL_law 1475 = .ok (.aload_n 2, 1) := by decide +kernel
theorem dL_law_1476 : decode cL_law 1476 = .ok (.invokevirtual 187, 3) := by decide +kernel
theorem dL_law_1479 : decode cL_law 1479 = .ok (.lcmp, 1) := by decide +kernel
theorem dL_law_1480 : decode cL_law 1480 = .ok (.ifCond .eq 5, 3) := by decide +kernel
theorem dL_law_1483 : decode cL_law 1483 = .ok (.iconst 0, 1) := by decide +kernel
theorem dL_law_1484 : decode cL_law 1484 = .ok (.ireturn, 1) := by decide +kernel
theorem dL_law_1485 : decode cL_law 1485 = .ok (.iinc 4 4, 3) := by decide +kernel
theorem dL_law_1488 : decode cL_law 1488 = .ok (.goto (-1465), 3) := by decide +kernel
theorem dL_law_1491 : decode cL_law 1491 = .ok (.iconst 1, 1) := by decide +kernel
theorem dL_law_1492 : decode cL_law 1492 = .ok (.ireturn, 1) := by decide +kernel
end
section
/-! CORE: one world for the class, the model and the law: cells by (kind, number), a typed state, contracts Ev, walks RW -/
abbrev Md : Type := MethodName × ByteArray × Nat × Option FieldType
def uw : List Cond := lw_tbl.filter goodWord
theorem uw_i {w : Cond} (h : w ∈ lw_tbl ∧ goodWord w = true) : w ∈ uw := List.mem_filter.mpr h
theorem uw_good {w : Cond} (h : w ∈ uw) : goodWord w = true := (List.mem_filter.mp h).2
theorem uw_tbl {w : Cond} (h : w ∈ uw) : w ∈ lw_tbl := (List.mem_filter.mp h).1
abbrev uC (M : Md) : Cond := .code M.1 M.2.1 M.2.2.1 M.2.2.2
def uM (M : Md) : List Cond := uC M :: uw
def rmL (d k n : Nat) : Room := { frames := d, cells := k, slots := n, locals := 30 * d }
theorem uw_sub {ws : List Cond} (h : ∀ w ∈ ws, w ∈ uw) : GoodIn uw ws := fun w hw => ⟨h w hw, good_of_word (uw_good (h w hw))⟩
-- whole numbers
def zI (z : Int) : Int32 := Int32.ofInt z
def zL (z : Int) : Int64 := Int64.ofInt z
def bI (b : Bool) : Int := if b = true then 1 else 0
theorem bI_t : bI true = 1 := rfl
theorem bI_f : bI false = 0 := rfl
theorem zI_toInt {z : Int} (h1 : -2147483648 ≤ z) (h2 : z ≤ 2147483647) : (zI z).toInt = z := by
  unfold zI
  exact Int32.toInt_ofInt_of_le (by simpa using h1) (by simp; omega)
theorem zI_of (x : Int32) : zI x.toInt = x := by unfold zI; exact Int32.ofInt_toInt x
theorem zL_toInt {z : Int} (h1 : -9223372036854775808 ≤ z) (h2 : z ≤ 9223372036854775807) : (zL z).toInt = z := by
  unfold zL
  exact Int64.toInt_ofInt_of_le (by simpa using h1) (by simp; omega)
theorem zI_add (a b : Int) : zI a + zI b = zI (a + b) := by unfold zI; exact (Int32.ofInt_add a b).symm
theorem zI_sub (a b : Int) : zI a - zI b = zI (a - b) := by unfold zI; exact (Int32.ofInt_sub a b).symm
theorem zI_mul (a b : Int) : zI a * zI b = zI (a * b) := by unfold zI; exact (Int32.ofInt_mul a b).symm
theorem zL_add (a b : Int) : zL a + zL b = zL (a + b) := by unfold zL; exact (Int64.ofInt_add a b).symm
theorem zL_sub (a b : Int) : zL a - zL b = zL (a - b) := by unfold zL; exact (Int64.ofInt_sub a b).symm
theorem zL_mul (a b : Int) : zL a * zL b = zL (a * b) := by unfold zL; exact (Int64.ofInt_mul a b).symm
theorem zI_inj {a b : Int} (ha : -2147483648 ≤ a ∧ a ≤ 2147483647) (hb : -2147483648 ≤ b ∧ b ≤ 2147483647) : zI a = zI b ↔ a = b := by
  constructor
  · intro h
    have := congrArg Int32.toInt h
    rwa [zI_toInt ha.1 ha.2, zI_toInt hb.1 hb.2] at this
  · intro h; rw [h]
theorem zI_lt {a b : Int} (ha : -2147483648 ≤ a ∧ a ≤ 2147483647) (hb : -2147483648 ≤ b ∧ b ≤ 2147483647) : zI a < zI b ↔ a < b := by
  rw [Int32.lt_iff_toInt_lt, zI_toInt ha.1 ha.2, zI_toInt hb.1 hb.2]
theorem zI_le {a b : Int} (ha : -2147483648 ≤ a ∧ a ≤ 2147483647) (hb : -2147483648 ≤ b ∧ b ≤ 2147483647) : zI a ≤ zI b ↔ a ≤ b := by
  rw [Int32.le_iff_toInt_le, zI_toInt ha.1 ha.2, zI_toInt hb.1 hb.2]
theorem zL_lt {a b : Int} (ha : -9223372036854775808 ≤ a ∧ a ≤ 9223372036854775807) (hb : -9223372036854775808 ≤ b ∧ b ≤ 9223372036854775807) : zL a < zL b ↔ a < b := by
  rw [Int64.lt_iff_toInt_lt, zL_toInt ha.1 ha.2, zL_toInt hb.1 hb.2]
theorem zL_inj {a b : Int} (ha : -9223372036854775808 ≤ a ∧ a ≤ 9223372036854775807) (hb : -9223372036854775808 ≤ b ∧ b ≤ 9223372036854775807) : zL a = zL b ↔ a = b := by
  constructor
  · intro h
    have := congrArg Int64.toInt h
    rwa [zL_toInt ha.1 ha.2, zL_toInt hb.1 hb.2] at this
  · intro h; rw [h]
theorem zI_0 : (0 : Int32) = zI 0 := rfl
theorem zI_ge {a b : Int} (ha : -2147483648 ≤ a ∧ a ≤ 2147483647) (hb : -2147483648 ≤ b ∧ b ≤ 2147483647) : zI a ≥ zI b ↔ a ≥ b := zI_le hb ha
theorem zI_gt {a b : Int} (ha : -2147483648 ≤ a ∧ a ≤ 2147483647) (hb : -2147483648 ≤ b ∧ b ≤ 2147483647) : zI a > zI b ↔ a > b := zI_lt hb ha
theorem zI_clamp {z : Int} (h : 0 ≤ z ∧ z ≤ 2147483647) : (zI z).toNatClampNeg = z.toNat := by
  unfold Int32.toNatClampNeg
  rw [zI_toInt (by omega) (by omega)]
theorem zI_in {z : Int} {n : Nat} (h0 : 0 ≤ z) (h1 : z < (n : Int)) (h2 : z ≤ 2147483647) : vp_in (zI z) n := by
  rw [vp_in_iff, zI_toInt (by omega) (by omega)]
  exact ⟨h0, h1⟩
theorem zI_ofNat (n : Nat) : Int32.ofNat n = zI (n : Int) := by
  unfold zI
  rw [Int32.ofInt_eq_ofNat]
theorem zI_long {z : Int} (h1 : -2147483648 ≤ z) (h2 : z ≤ 2147483647) : (zI z).toInt64 = zL z := by
  have e : (zI z).toInt64 = Int64.ofInt (zI z).toInt := by simp
  rw [e, zI_toInt h1 h2]
  rfl
theorem zL_int (z : Int) : (zL z).toInt32 = zI z := by
  unfold zL zI
  simp
end
section
/-! THE WORLD: typed state, cells, contracts -/
-- the class: text sizes, text signs, begins, ends, ports, held, refused, refusalCount, refusedPlace
abbrev SX : Type := (Nat → Int) × (Nat → Nat → Int) × (Nat → Nat → Int) × (Nat → Nat → Int) × (Nat → Int) × (Nat → Bool) × Int × Int × Int
-- the model: text, size, pieces, pieceMany, signs, long_, from, to, ports, begin, end, port, refused, place, code
abbrev SY : Type := (Nat → Int) × Int × (Nat → Int) × Int × (Nat → Int) × (Nat → Int) × (Nat → Int) × (Nat → Int) × (Nat → Int) × (Nat → Int) × (Nat → Int) × Int × Int × Int × Int
abbrev St : Type := SX × SY × Int
def cnt (σ : St) : Nat → Int := σ.1.1
def sg (σ : St) : Nat → Nat → Int := σ.1.2.1
def bg (σ : St) : Nat → Nat → Int := σ.1.2.2.1
def en (σ : St) : Nat → Nat → Int := σ.1.2.2.2.1
def pt (σ : St) : Nat → Int := σ.1.2.2.2.2.1
def hld (σ : St) : Nat → Bool := σ.1.2.2.2.2.2.1
def rf (σ : St) : Int := σ.1.2.2.2.2.2.2.1
def rc (σ : St) : Int := σ.1.2.2.2.2.2.2.2.1
def rp (σ : St) : Int := σ.1.2.2.2.2.2.2.2.2
def mtx (σ : St) : Nat → Int := σ.2.1.1
def msz (σ : St) : Int := σ.2.1.2.1
def mpc (σ : St) : Nat → Int := σ.2.1.2.2.1
def mpm (σ : St) : Int := σ.2.1.2.2.2.1
def msg (σ : St) : Nat → Int := σ.2.1.2.2.2.2.1
def mlo (σ : St) : Nat → Int := σ.2.1.2.2.2.2.2.1
def mfr (σ : St) : Nat → Int := σ.2.1.2.2.2.2.2.2.1
def mto (σ : St) : Nat → Int := σ.2.1.2.2.2.2.2.2.2.1
def mpo (σ : St) : Nat → Int := σ.2.1.2.2.2.2.2.2.2.2.1
def mbe (σ : St) : Nat → Int := σ.2.1.2.2.2.2.2.2.2.2.2.1
def men (σ : St) : Nat → Int := σ.2.1.2.2.2.2.2.2.2.2.2.2.1
def mpt (σ : St) : Int := σ.2.1.2.2.2.2.2.2.2.2.2.2.2.1
def mrf (σ : St) : Int := σ.2.1.2.2.2.2.2.2.2.2.2.2.2.2.1
def mpl (σ : St) : Int := σ.2.1.2.2.2.2.2.2.2.2.2.2.2.2.2.1
def mcd (σ : St) : Int := σ.2.1.2.2.2.2.2.2.2.2.2.2.2.2.2.2
def ov (σ : St) : Int := σ.2.2
def mk (c : Nat → Int) (g : Nat → Nat → Int) (b e : Nat → Nat → Int) (p : Nat → Int) (h : Nat → Bool) (r q w : Int) (y : SY) (o : Int) : St := ((c, g, b, e, p, h, r, q, w), y, o)
def sCnt (σ : St) (v : Nat → Int) : St := ((v, σ.1.2), σ.2)
def sSg (σ : St) (v : Nat → Nat → Int) : St := ((cnt σ, v, σ.1.2.2), σ.2)
def sBg (σ : St) (v : Nat → Nat → Int) : St := ((cnt σ, sg σ, v, σ.1.2.2.2), σ.2)
def sEn (σ : St) (v : Nat → Nat → Int) : St := ((cnt σ, sg σ, bg σ, v, σ.1.2.2.2.2), σ.2)
def sPt (σ : St) (v : Nat → Int) : St := ((cnt σ, sg σ, bg σ, en σ, v, σ.1.2.2.2.2.2), σ.2)
def sHd (σ : St) (v : Nat → Bool) : St := ((cnt σ, sg σ, bg σ, en σ, pt σ, v, σ.1.2.2.2.2.2.2), σ.2)
def sRf (σ : St) (v : Int) : St := ((cnt σ, sg σ, bg σ, en σ, pt σ, hld σ, v, rc σ, rp σ), σ.2)
def sRc (σ : St) (v : Int) : St := ((cnt σ, sg σ, bg σ, en σ, pt σ, hld σ, rf σ, v, rp σ), σ.2)
def sRp (σ : St) (v : Int) : St := ((cnt σ, sg σ, bg σ, en σ, pt σ, hld σ, rf σ, rc σ, v), σ.2)
def sMtx (σ : St) (v : Nat → Int) : St := (σ.1, (v, σ.2.1.2), σ.2.2)
def sMsz (σ : St) (v : Int) : St := (σ.1, (mtx σ, v, σ.2.1.2.2), σ.2.2)
def sMpc (σ : St) (v : Nat → Int) : St := (σ.1, (mtx σ, msz σ, v, σ.2.1.2.2.2), σ.2.2)
def sMpm (σ : St) (v : Int) : St := (σ.1, (mtx σ, msz σ, mpc σ, v, σ.2.1.2.2.2.2), σ.2.2)
def sMsg (σ : St) (v : Nat → Int) : St := (σ.1, (mtx σ, msz σ, mpc σ, mpm σ, v, σ.2.1.2.2.2.2.2), σ.2.2)
def sMlo (σ : St) (v : Nat → Int) : St := (σ.1, (mtx σ, msz σ, mpc σ, mpm σ, msg σ, v, σ.2.1.2.2.2.2.2.2), σ.2.2)
def sMfr (σ : St) (v : Nat → Int) : St := (σ.1, (mtx σ, msz σ, mpc σ, mpm σ, msg σ, mlo σ, v, σ.2.1.2.2.2.2.2.2.2), σ.2.2)
def sMto (σ : St) (v : Nat → Int) : St := (σ.1, (mtx σ, msz σ, mpc σ, mpm σ, msg σ, mlo σ, mfr σ, v, σ.2.1.2.2.2.2.2.2.2.2), σ.2.2)
def sMpo (σ : St) (v : Nat → Int) : St := (σ.1, (mtx σ, msz σ, mpc σ, mpm σ, msg σ, mlo σ, mfr σ, mto σ, v, σ.2.1.2.2.2.2.2.2.2.2.2), σ.2.2)
def sMbe (σ : St) (v : Nat → Int) : St := (σ.1, (mtx σ, msz σ, mpc σ, mpm σ, msg σ, mlo σ, mfr σ, mto σ, mpo σ, v, σ.2.1.2.2.2.2.2.2.2.2.2.2), σ.2.2)
def sMen (σ : St) (v : Nat → Int) : St := (σ.1, (mtx σ, msz σ, mpc σ, mpm σ, msg σ, mlo σ, mfr σ, mto σ, mpo σ, mbe σ, v, σ.2.1.2.2.2.2.2.2.2.2.2.2.2), σ.2.2)
def sMpt (σ : St) (v : Int) : St := (σ.1, (mtx σ, msz σ, mpc σ, mpm σ, msg σ, mlo σ, mfr σ, mto σ, mpo σ, mbe σ, men σ, v, mrf σ, mpl σ, mcd σ), σ.2.2)
def sMrf (σ : St) (v : Int) : St := (σ.1, (mtx σ, msz σ, mpc σ, mpm σ, msg σ, mlo σ, mfr σ, mto σ, mpo σ, mbe σ, men σ, mpt σ, v, mpl σ, mcd σ), σ.2.2)
def sMpl (σ : St) (v : Int) : St := (σ.1, (mtx σ, msz σ, mpc σ, mpm σ, msg σ, mlo σ, mfr σ, mto σ, mpo σ, mbe σ, men σ, mpt σ, mrf σ, v, mcd σ), σ.2.2)
def sMcd (σ : St) (v : Int) : St := (σ.1, (mtx σ, msz σ, mpc σ, mpm σ, msg σ, mlo σ, mfr σ, mto σ, mpo σ, mbe σ, men σ, mpt σ, mrf σ, mpl σ, v), σ.2.2)
def sOv (σ : St) (v : Int) : St := (σ.1, σ.2.1, v)
/-- a row of ints with one place changed -/
def u1 {α : Type} (f : Nat → α) (k : Nat) (v : α) : Nat → α := fun j => if j = k then v else f j
theorem u1_s {α : Type} (f : Nat → α) (k : Nat) (v : α) : u1 f k v k = v := if_pos rfl
theorem u1_n {α : Type} (f : Nat → α) {k j : Nat} (v : α) (h : j ≠ k) : u1 f k v j = f j := if_neg h
def u2 {α : Type} (f : Nat → Nat → α) (i k : Nat) (v : α) : Nat → Nat → α := u1 f i (u1 (f i) k v)
-- the frame of reference: launch, base, classes, array classes, addresses, which cells live, the addresses of texts and of their rows
abbrev Gm : Type := Launch × Nat × va_G × (Nat → ClassId) × (Nat → Nat → Nat) × (Nat → Nat → Prop) × (Nat → Nat) × (Nat → Nat)
def gl (γ : Gm) : Launch := γ.1
def gB (γ : Gm) : Nat := γ.2.1
def gD (γ : Gm) : va_G := γ.2.2.1
def gc (γ : Gm) : Nat → ClassId := γ.2.2.2.1
def ga (γ : Gm) : Nat → Nat → Nat := γ.2.2.2.2.1
def gv (γ : Gm) : Nat → Nat → Prop := γ.2.2.2.2.2.1
def gK (γ : Gm) : Nat → Nat := γ.2.2.2.2.2.2.1
def gV (γ : Gm) : Nat → Nat := γ.2.2.2.2.2.2.2
def fr (γ : Gm) : Nat → Prop := fun q => gB γ ≤ q
abbrev ct (γ : Gm) (σ : St) (k i : Nat) : va_E := match k with
  | 0 => .inr (2, [.ref (ga γ 1 i), .int (zI (cnt σ i))])
  | 1 => .inl (gc γ 0, (128, .inl (fun j => zI (sg σ i j % 65536))))
  | 2 => .inr (0, [.ref (ga γ 0 i), .ref (ga γ 3 i), .ref (ga γ 4 i), .int (zI (pt σ i)), .int (zI (bI (hld σ i)))])
  | 3 => .inl (gc γ 1, (9, .inl (fun j => zI (bg σ i j))))
  | 4 => .inl (gc γ 1, (9, .inl (fun j => zI (en σ i j))))
  | 5 => .inr (1, [.ref (ga γ 2 4), .ref (ga γ 0 4), .int (zI (rf σ))])
  | 6 => .inr (3, [.ref (ga γ 0 5), .ref (ga γ 7 0), .ref (ga γ 5 0), .ref (ga γ 0 6), .int (zI (rc σ)), .int (zI (rp σ))])
  | 7 => .inl (gc γ 3, (4, .inr (.inr (.inr (.inr (fun j => some (ga γ 2 j)))))))
  | 8 => .inr (4, [.ref (ga γ 9 0), .int (zI (msz σ)), .ref (ga γ 10 0), .int (zI (mpm σ)), .ref (ga γ 11 0), .ref (ga γ 12 0), .ref (ga γ 13 0), .ref (ga γ 14 0), .ref (ga γ 15 0), .ref (ga γ 16 0), .ref (ga γ 17 0), .int (zI (mpt σ)), .int (zI (mrf σ)), .int (zI (mpl σ)), .int (zI (mcd σ))])
  | 9 => .inl (gc γ 1, (60, .inl (fun j => zI (mtx σ j))))
  | 10 => .inl (gc γ 1, (60, .inl (fun j => zI (mpc σ j))))
  | 11 => .inl (gc γ 1, (240, .inl (fun j => zI (msg σ j))))
  | 12 => .inl (gc γ 1, (4, .inl (fun j => zI (mlo σ j))))
  | 13 => .inl (gc γ 1, (36, .inl (fun j => zI (mfr σ j))))
  | 14 => .inl (gc γ 1, (36, .inl (fun j => zI (mto σ j))))
  | 15 => .inl (gc γ 1, (4, .inl (fun j => zI (mpo σ j))))
  | 16 => .inl (gc γ 1, (9, .inl (fun j => zI (mbe σ j))))
  | 17 => .inl (gc γ 1, (9, .inl (fun j => zI (men σ j))))
  | 18 => .inl (gc γ 2, (1, .inr (.inl (fun _ => zL (ov σ)))))
  | _ => .inl (gc γ 2, (0, .inr (.inl (fun _ => 0))))
/-- which cells there are in all: vK k i -/
def vK (k i : Nat) : Bool := match k with
  | 0 => decide (i < 7)
  | 1 => decide (i < 7)
  | 2 => decide (i < 5)
  | 3 => decide (i < 5)
  | 4 => decide (i < 5)
  | _ => decide (k < 19) && decide (i = 0)
def tysG (γ : Gm) : List (ClassId × FieldType) := [(gc γ 0, .char), (gc γ 1, .int), (gc γ 2, .long), (gc γ 3, .object "Linkloom$Address")]
def Cl (γ : Gm) (σ : St) (xs : va_W) (H : Heap) : Prop := (∀ k i, gv γ k i → va_at (gD γ) vwCl (ga γ k i, ct γ σ k i) H) ∧ va_P (gD γ) vwCl xs H
def Gok (γ : Gm) (xs : va_W) : Prop := (gl γ).stackTraces = false ∧ (∀ k i k' i', gv γ k i → gv γ k' i' → ga γ k i = ga γ k' i' → k = k' ∧ i = i') ∧ (∀ k i, gv γ k i → gB γ ≤ ga γ k i) ∧ va_D (fr γ) xs ∧ (∀ k i, gv γ k i → ∀ q, q ∈ xs → q.1 ≠ ga γ k i) ∧ ∀ k i, gv γ k i → vK k i = true
end
section
/-! STRING CONSTANTS by their places, contracts, walks -/
def tSl : List (List Int) := [[58, 47, 63, 35], [43, 45, 46], [35], [34, 60, 62, 92, 94, 96, 123, 124, 125], [47, 63, 35], [63, 35], [64], [58], [], [47, 47], [63], [37, 91, 93, 48], [110, 111, 32, 115, 105, 103, 110, 32, 116, 104, 97, 116, 32, 99, 97, 110, 32, 98, 101, 32, 116, 121, 112, 101, 100], [116, 111, 111, 32, 109, 97, 110, 121, 32, 115, 105, 103, 110, 115], [116, 104, 101, 32, 118, 97, 108, 117, 101, 32, 105, 115, 32, 111, 117, 116, 32, 111, 102, 32, 114, 97, 110, 103, 101], [48, 49, 50, 51, 52, 53, 54, 55, 56, 57, 97, 98, 99, 100, 101, 102], [48, 49, 50, 51, 52, 53, 54, 55, 56, 57, 65, 66, 67, 68, 69, 70], [110, 111, 32, 115, 117, 99, 104, 32, 119, 111, 114, 100], [104, 116, 116, 112], [102, 105, 108, 101], [109, 97, 105, 108, 116, 111], [97], [47], [117, 115, 101, 114], [117, 58, 112], [104, 111, 115, 116], [119, 46, 120, 45, 121, 46, 99, 111, 109], [49, 46, 50, 46, 51, 46, 52], [49, 46, 50, 46, 51, 46, 50, 53, 54], [58, 56, 49], [45], [46], [97, 45], [57], [95], [112, 47, 113], [46, 46], [120, 61, 49, 38, 121, 61, 50], [59, 118, 61, 49], [37, 52, 49, 37, 55, 101], [126, 40, 33, 41, 42, 39], [36], [123], [60, 62], [50, 49, 52, 55, 52, 56, 51, 54, 52, 56], [116, 104, 101, 32, 116, 101, 120, 116, 32, 105, 115, 32, 101, 109, 112, 116, 121], [110, 111, 32, 115, 117, 99, 104, 32, 112, 108, 97, 99, 101], [110, 111, 32, 115, 117, 99, 104, 32, 115, 108, 111, 116], [97, 32, 98, 97, 100, 32, 115, 105, 103, 110, 32, 105, 110, 32, 116, 104, 101, 32, 97, 117, 116, 104, 111, 114, 105, 116, 121], [110, 111, 32, 116, 101, 120, 116, 32, 119, 97, 115, 32, 114, 101, 102, 117, 115, 101, 100], [116, 104, 101, 32, 115, 108, 111, 116, 32, 104, 97, 115, 32, 110, 111, 32, 97, 100, 100, 114, 101, 115, 115], [115, 109, 97, 117, 104, 112, 113, 102, 119], [110, 111, 32, 115, 117, 99, 104, 32, 112, 97, 114, 116], [116, 104, 101, 32, 112, 97, 114, 116, 32, 104, 97, 115, 32, 110, 111, 32, 115, 117, 99, 104, 32, 112, 108, 97, 99, 101], [116, 104, 101, 32, 97, 100, 100, 114, 101, 115, 115, 32, 100, 111, 101, 115, 32, 110, 111, 116, 32, 104, 97, 118, 101, 32, 116, 104, 97, 116, 32, 112, 97, 114, 116], [115, 97, 112, 113, 102], [110, 111, 32, 112, 97, 114, 116, 32, 116, 104, 97, 116, 32, 99, 97, 110, 32, 98, 101, 32, 109, 105, 120, 101, 100], [97, 110, 32, 111, 112, 97, 113, 117, 101, 32, 97, 100, 100, 114, 101, 115, 115], [104, 116, 116, 112, 32, 102, 105, 108, 101, 32, 109, 97, 105, 108, 116, 111, 32, 97, 32, 58, 32, 47, 47, 32, 47, 32, 63, 32, 35, 32, 64, 32, 117, 115, 101, 114, 32, 117, 58, 112, 32, 104, 111, 115, 116, 32, 119, 46, 120, 45, 121, 46, 99, 111, 109, 32, 49, 46, 50, 46, 51, 46, 52, 32, 49, 46, 50, 46, 51, 46, 50, 53, 54, 32, 58, 56, 49, 32, 45, 32, 46, 32, 97, 45, 32, 57, 32, 95, 32, 112, 47, 113, 32, 46, 46, 32, 120, 61, 49, 38, 121, 61, 50, 32, 59, 118, 61, 49, 32, 37, 52, 49, 37, 55, 101, 32, 126, 40, 33, 41, 42, 39, 32, 36, 32, 123, 32, 60, 62, 32, 50, 49, 52, 55, 52, 56, 51, 54, 52, 56, 32]]
def tS (n : Nat) : List Int := tSl.getD n []
def nS : Nat := 59
def stab : List (String × Nat × Nat × String) := [(RX2, 15, 0, ":/?#"), (RX2, 34, 1, "+-."), (RX1, 100, 2, "#"), (RX1, 140, 3, "\"<>\\^`{|}"), (RX1, 110, 4, "/?#"), (RX1, 116, 5, "?#"), (RX1, 118, 6, "@"), (RX1, 120, 7, ":"), (RX4, 227, 8, ""), (RX4, 229, 7, ":"), (RX4, 239, 2, "#"), (RX4, 235, 9, "//"), (RX4, 237, 10, "?"), (RX4, 33, 11, "%[]0"), (RX4, 43, 12, "no sign that can be typed"), (RX4, 199, 13, "too many signs"), (RX4, 60, 14, "the value is out of range"), (RX4, 62, 15, "0123456789abcdef"), (RX4, 64, 16, "0123456789ABCDEF"), (RX4, 72, 17, "no such word"), (RX4, 247, 18, "http"), (RX4, 249, 19, "file"), (RX4, 251, 20, "mailto"), (RX4, 253, 21, "a"), (RX4, 255, 22, "/"), (RX4, 257, 6, "@"), (RX4, 259, 23, "user"), (RX4, 261, 24, "u:p"), (RX4, 263, 25, "host"), (RX4, 265, 26, "w.x-y.com"), (RX4, 267, 27, "1.2.3.4"), (RX4, 269, 28, "1.2.3.256"), (RX4, 271, 29, ":81"), (RX4, 273, 30, "-"), (RX4, 275, 31, "."), (RX4, 277, 32, "a-"), (RX4, 279, 33, "9"), (RX4, 281, 34, "_"), (RX4, 283, 35, "p/q"), (RX4, 285, 36, ".."), (RX4, 287, 37, "x=1&y=2"), (RX4, 289, 38, ";v=1"), (RX4, 291, 39, "%41%7e"), (RX4, 293, 40, "~(!)*'"), (RX4, 295, 41, "$"), (RX4, 297, 42, "{"), (RX4, 299, 43, "<>"), (RX4, 301, 44, "2147483648"), (RX4, 87, 45, "the text is empty"), (RX4, 96, 46, "no such place"), (RX4, 221, 47, "no such slot"), (RX2, 50, 4, "/?#"), (RX2, 52, 3, "\"<>\\^`{|}"), (RX4, 110, 48, "a bad sign in the authority"), (RX4, 219, 49, "no text was refused"), (RX4, 223, 50, "the slot has no address"), (RX4, 197, 51, "smauhpqfw"), (RX4, 225, 52, "no such part"), (RX4, 159, 53, "the part has no such place"), (RX4, 168, 54, "the address does not have that part"), (RX4, 188, 55, "sapqf"), (RX4, 190, 56, "no part that can be mixed"), (RX4, 194, 57, "an opaque address"), (RX5, 74, 58, "http file mailto a : // / ? # @ user u:p host w.x-y.com 1.2.3.4 1.2.3.256 :81 - . a- 9 _ p/q .. x=1&y=2 ;v=1 %41%7e ~(!)*' $ { <> 2147483648 "), (RX5, 83, 0, ":/?#"), (RX5, 125, 4, "/?#"), (RX5, 45, 51, "smauhpqfw"), (RX5, 117, 2, "#"), (RX5, 131, 5, "?#"), (RX5, 186, 55, "sapqf")]
def exc5 : List String := ["java/lang/IllegalArgumentException", "java/lang/IllegalStateException", "java/lang/IndexOutOfBoundsException", "java/util/NoSuchElementException", "java/lang/UnsupportedOperationException"]
/-- what the Statement gives of texts, statics and classes, at a method's start -/
def Bs (γ : Gm) (s : State) : Prop :=
  (∀ n, n < nS → va_O "java/lang/String" (gK γ n) (fr γ) s s.heap ∧ va_OF "java/lang/String" "coder" "B" (.int 0) (gK γ n) (fr γ) s s.heap ∧ va_OF "java/lang/String" "value" "[B" (.ref (gV γ n)) (gK γ n) (fr γ) s s.heap ∧ va_T .byte (gV γ n) (tS n).length (fun j => .int (zI ((tS n).getD j 0))) (fr γ) s s.heap) ∧
  (∀ q ∈ stab, vk_R q.1 q.2.1 q.2.2.2 (gK γ q.2.2.1) s) ∧ va_Z "java/lang/String" "COMPACT_STRINGS" "Z" (.int 1) (fr γ) s s.heap ∧
  (vx_Zq Bundle.tN "UNASSIGNED_STACK" Bundle.steD (fr γ) s s.heap ∧ vx_Zq Bundle.tN "SUPPRESSED_SENTINEL" Bundle.listD (fr γ) s s.heap) ∧
  (∀ X ∈ exc5, va_Nw (.castable X X) s) ∧ (∀ X ∈ exc5, ∀ Y ∈ exc5, X ≠ Y → va_Nc X Y s)
theorem Bs.move {γ : Gm} {u U : State} (hW : u.WarmedH U.vm) (hh : ∀ q : Nat, q < u.heap.size → ¬ fr γ q → U.heap[q]? = u.heap[q]?) (h : Bs γ u) : Bs γ U := by
  obtain ⟨h1, h2, h3, ⟨h4, h5⟩, h6, h7⟩ := h
  have ha := hW.alike
  refine ⟨fun n hn => ?_, fun q hq => (h2 q hq).warm hW, (h3.moved ha).kept hh, ⟨(h4.moved ha).kept hh, (h5.moved ha).kept hh⟩, fun X hX => va_Nw.warmC hW (h6 X hX), fun X hX Y hY hne => ?_⟩
  · obtain ⟨a1, a2, a3, a4⟩ := h1 n hn
    exact ⟨(a1.moved ha).kept hh, (a2.moved ha).kept hh, (a3.moved ha).kept hh, (a4.moved ha).kept hh⟩
  · obtain ⟨c, t, b1, b2, b3⟩ := h7 X hX Y hY hne
    exact ⟨c, t, by rw [ha.findClass]; exact b1, by rw [ha.findClass]; exact b2, by rw [← b3]; exact (ha.assignable c t)⟩
-- a method's start, its ends, its contract
def Pr (γ : Gm) (σ : St) (xs : va_W) (U : State) : Prop := gB γ ≤ U.heap.size ∧ Bs γ U ∧ va_K (gD γ) vwCl (tysG γ) U ∧ Cl γ σ xs U.heap ∧ Gok γ xs
def QcOf (γ : Gm) (Qr : Option Value → St → va_W → Prop) : Array Value → State → Outcome → State → Prop := fun _ st o t => ∃ (v : Option Value) (σ' : St) (xs' : va_W), o = .returned v ∧ Qr v σ' xs' ∧ Cl γ σ' xs' t.heap ∧ Gok γ xs' ∧ va_F (fr γ) st t
def XcOf (γ : Gm) (Qx : String → St → va_W → Prop) : String → State → State → Prop := fun E st t => ∃ (σ' : St) (xs' : va_W), Qx E σ' xs' ∧ Cl γ σ' xs' t.heap ∧ Gok γ xs' ∧ va_F (fr γ) st t
/-- the contract of a method: at depth d, making at most k cells of n slots; it returns with Qr, or throws with Qx -/
def Ev (γ : Gm) (M : Md) (d k n : Nat) (av : List Value) (σ : St) (xs : va_W) (Qr : Option Value → St → va_W → Prop) (Qx : String → St → va_W → Prop) : Prop :=
  vx_Met (gl γ) M.1 (uM M) (rmL d k n) (va_Pc av (Pr γ σ xs)) (QcOf γ Qr) (XcOf γ Qx) k n (fr γ)
/-- nothing is thrown -/
def nX : String → St → va_W → Prop := fun _ _ _ => False
def Cx (γ : Gm) (M : Md) (p : Program) (s : State) (m : MethodId) (args : Array Value) (meth : Method) (c : Code) : Prop :=
  p.tables.exec = Jvm.exec ∧ c.code = M.2.1 ∧ meth.sig.returnType = M.2.2.2 ∧ c.maxLocals = M.2.2.1 ∧ s.vm.findClass M.1.cls = some m.cls ∧ (∀ w ∈ uw, w.before args s = true) ∧ meth.locks = false ∧ va_K (gD γ) vwCl (tysG γ) s ∧ Bs γ s ∧ gB γ ≤ s.heap.size ∧ meth.name = M.1.name ∧ (∀ x ∈ c.exceptionTable.toList, False)
/-- the locals, by their places -/
def Lc (ls : Array Slot) (nL : Nat) (L : List (Option Value)) : Prop := ls.size = nL ∧ lv_wf ls ∧ ∀ (i : Nat) (v : Value), L[i]? = some (some v) → ls[i]? = some (.val v)
/-- from here on (pc, locals L, stack st, state σ, further cells xs; c1 cells of n1 slots made so far) the method meets its ends -/
def RW (γ : Gm) (M : Md) (d k n : Nat) (Qr : Option Value → St → va_W → Prop) (Qx : String → St → va_W → Prop) (c1 n1 : Nat) (pc : Nat) (L : List (Option Value)) (st : List Value) (σ : St) (xs : va_W) : Prop :=
  ∀ (p : Program) (e : Env) (s : State) (m : MethodId) (args : Array Value) (below : List Frame) (meth : Method) (c : Code) (H : Heap) (locs : List Loc) (ls : Array Slot),
    Cx γ M p s m args meth c → va_S (fr γ) s.heap H locs → Cl γ σ xs H → Gok γ xs → Lc ls M.2.2.1 L →
    W p (gl γ) e (rmL d k n) s m args below meth c H locs c1 n1 (vx_MQ below (QcOf γ Qr) (XcOf γ Qx) args s k n (fr γ)) (F0 m pc ls st)
theorem Lc.entry (av : List Value) {n : Nat} {L : List (Option Value)} (h : (lg_sl av).length ≤ n) (hL : ∀ (i : Nat) (v : Value), L[i]? = some (some v) → (i, v) ∈ lv_args 0 av) : Lc ((lg_sl av ++ List.replicate (n - (lg_sl av).length) Slot.unset).toArray) n L := by
  obtain ⟨h1, h2, h3⟩ := lv_entry av h
  exact ⟨h1, h2, fun i v hi => h3 (i, v) (hL i v hi)⟩
theorem Lc.at {ls : Array Slot} {nL : Nat} {L : List (Option Value)} (h : Lc ls nL L) {i : Nat} {v : Value} (hi : L[i]? = some (some v)) : ls[i]? = some (.val v) := h.2.2 i v hi
/-- fewer known locals -/
theorem Lc.sub {ls : Array Slot} {nL : Nat} {L L' : List (Option Value)} (h : Lc ls nL L) (hs : ∀ (i : Nat) (v : Value), L'[i]? = some (some v) → L[i]? = some (some v)) : Lc ls nL L' := ⟨h.1, h.2.1, fun i v hi => h.2.2 i v (hs i v hi)⟩
theorem FrameBlind_Pr (γ : Gm) (av : List Value) (σ : St) (xs : va_W) : FrameBlind (va_Pc av (Pr γ σ xs)) := by
  intro a U g mk ⟨h1, h2, h3, h4, h5, h6⟩
  exact ⟨h1, h2, h3.move (U := U.calling g mk a) (State.WarmedH.refl U) (fun _ _ _ => rfl), va_K.moved (u := U) (U := U.calling g mk a) (Vm.Alike.refl U.vm) h4, h5, h6⟩
/-- a contract by a walk from its entry -/
theorem Ev.of {γ : Gm} {M : Md} {d k n : Nat} {av : List Value} {σ : St} {xs : va_W} {Qr : Option Value → St → va_W → Prop} {Qx : String → St → va_W → Prop} (L : List (Option Value)) (hy : plainName M.1.cls = true) (hlen : (lg_sl av).length ≤ M.2.2.1) (hL : ∀ (i : Nat) (v : Value), L[i]? = some (some v) → (i, v) ∈ lv_args 0 av)
    (body : RW γ M d k n Qr Qx 0 0 0 L [] σ xs) : Ev γ M d k n av σ xs Qr Qx := by
  refine vx_ofW (cc := M.2.1) (maxL := M.2.2.1) (ret := M.2.2.2) hy rfl ?_
  intro p e s m args below meth c s₁ B hml htab hv
  obtain ⟨rfl, h1, h2, h3, h4, h5⟩ := hv
  have hts := atoms_spec (ws := uM M) B.pre
  rw [lg_entry_eq]
  exact body p e s m av.toArray below meth c s.heap [] _ ⟨B.exec, B.bytes, B.returns, hml, findClass_of_methodNamed B.named, fun w hw => hts w (List.mem_cons_of_mem _ hw), B.notSynchronized, h3, h2, h1, (name_of_methodNamed B.named B.method).1, htab⟩ va_S.rf h4 h5 (Lc.entry av hlen hL)
/-- the state may be named anew -/
theorem RW.cast {γ : Gm} {M : Md} {d k n : Nat} {Qr : Option Value → St → va_W → Prop} {Qx : String → St → va_W → Prop} {c1 n1 pc : Nat} {L : List (Option Value)} {st st' : List Value} {σ σ' : St} {xs : va_W} (h1 : σ = σ') (h2 : st = st') (k9 : RW γ M d k n Qr Qx c1 n1 pc L st' σ' xs) : RW γ M d k n Qr Qx c1 n1 pc L st σ xs := by subst h1; subst h2; exact k9
theorem RW.sub {γ : Gm} {M : Md} {d k n : Nat} {Qr : Option Value → St → va_W → Prop} {Qx : String → St → va_W → Prop} {c1 n1 pc : Nat} {L L' : List (Option Value)} {st : List Value} {σ : St} {xs : va_W} (hs : ∀ (i : Nat) (v : Value), L'[i]? = some (some v) → L[i]? = some (some v)) (k9 : RW γ M d k n Qr Qx c1 n1 pc L' st σ xs) : RW γ M d k n Qr Qx c1 n1 pc L st σ xs :=
  fun p e s m args below meth c H locs ls C hS hC hG hl => k9 p e s m args below meth c H locs ls C hS hC hG (hl.sub hs)
/-- weaker ends -/
theorem Ev.mono {γ : Gm} {M : Md} {d k n : Nat} {av : List Value} {σ : St} {xs : va_W} {Qr Qr' : Option Value → St → va_W → Prop} {Qx Qx' : String → St → va_W → Prop} (h : Ev γ M d k n av σ xs Qr Qx) (h1 : ∀ v σ' xs', Qr v σ' xs' → Qr' v σ' xs') (h2 : ∀ v σ' xs', Qx v σ' xs' → Qx' v σ' xs') : Ev γ M d k n av σ xs Qr' Qx' := by
  intro p e ha hc hk s m args below hf happ hP hK
  obtain ⟨j, o, g1, g2, g3, hq⟩ := h p e ha hc hk s m args below hf happ hP hK
  refine ⟨j, o, g1, g2, g3, ?_⟩
  rcases hq with ⟨⟨v, σ', xs', q1, q2, q3⟩, q4⟩ | ⟨q, rfl, E, ce, L, ⟨σ', xs', q2, q3⟩, q4⟩
  · exact Or.inl ⟨⟨v, σ', xs', q1, h1 _ _ _ q2, q3⟩, q4⟩
  · exact Or.inr ⟨q, rfl, E, ce, L, ⟨σ', xs', h2 _ _ _ q2, q3⟩, q4⟩
end
section
/-! ROWS: one instruction each, under RW -/
section ROWS
variable {γ : Gm} {M : Md} {d k n : Nat} {Qr : Option Value → St → va_W → Prop} {Qx : String → St → va_W → Prop} {c1 n1 pc q : Nat} {L : List (Option Value)} {st : List Value} {σ : St} {xs : va_W}
theorem r_iconst {z : Int} (hd : decode M.2.1 pc = .ok (.iconst z, 1)) (hq : pc + 1 = q)  (kk : RW γ M d k n Qr Qx c1 n1 q L (.int (zI z) :: st) σ xs) : RW γ M d k n Qr Qx c1 n1 pc L st σ xs := by
  subst hq
  intro p e s m args below meth c H locs ls C hS hC hG hl
  exact lv_iconst C.1 C.2.1 hd rfl (kk p e s m args below meth c H locs ls C hS hC hG hl)
theorem r_bipush {z : Int} (hd : decode M.2.1 pc = .ok (.bipush z, 2)) (hq : pc + 2 = q) (hv : (Int8.ofInt z).toInt32 = zI z) (kk : RW γ M d k n Qr Qx c1 n1 q L (.int (zI z) :: st) σ xs) : RW γ M d k n Qr Qx c1 n1 pc L st σ xs := by
  subst hq
  intro p e s m args below meth c H locs ls C hS hC hG hl
  exact lv_bipush C.1 C.2.1 hd hv (kk p e s m args below meth c H locs ls C hS hC hG hl)
theorem r_sipush {z : Int} (hd : decode M.2.1 pc = .ok (.sipush z, 3)) (hq : pc + 3 = q) (hv : (Int16.ofInt z).toInt32 = zI z) (kk : RW γ M d k n Qr Qx c1 n1 q L (.int (zI z) :: st) σ xs) : RW γ M d k n Qr Qx c1 n1 pc L st σ xs := by
  subst hq
  intro p e s m args below meth c H locs ls C hS hC hG hl
  exact lv_sipush C.1 C.2.1 hd hv (kk p e s m args below meth c H locs ls C hS hC hG hl)
theorem r_lconst {j : Fin 2} {z : Int} (hd : decode M.2.1 pc = .ok (.lconst j, 1)) (hq : pc + 1 = q) (hv : Int64.ofNat j = zL z) (kk : RW γ M d k n Qr Qx c1 n1 q L (.long (zL z) :: st) σ xs) : RW γ M d k n Qr Qx c1 n1 pc L st σ xs := by
  subst hq
  intro p e s m args below meth c H locs ls C hS hC hG hl
  exact lv_lconst C.1 C.2.1 hd hv (kk p e s m args below meth c H locs ls C hS hC hG hl)
theorem r_iload_n {j : Fin 4} {x : Int32} (hd : decode M.2.1 pc = .ok (.iload_n j, 1)) (hq : pc + 1 = q) (hv : L[(j : Nat)]? = some (some (.int x))) (kk : RW γ M d k n Qr Qx c1 n1 q L (.int x :: st) σ xs) : RW γ M d k n Qr Qx c1 n1 pc L st σ xs := by
  subst hq
  intro p e s m args below meth c H locs ls C hS hC hG hl
  exact lv_iload_n C.1 C.2.1 hd rfl (hl.at hv) (kk p e s m args below meth c H locs ls C hS hC hG hl)
theorem r_iload {j : Nat} {x : Int32} (hd : decode M.2.1 pc = .ok (.iload j, 2)) (hq : pc + 2 = q) (hv : L[j]? = some (some (.int x))) (kk : RW γ M d k n Qr Qx c1 n1 q L (.int x :: st) σ xs) : RW γ M d k n Qr Qx c1 n1 pc L st σ xs := by
  subst hq
  intro p e s m args below meth c H locs ls C hS hC hG hl
  exact lv_iload C.1 C.2.1 hd (hl.at hv) (kk p e s m args below meth c H locs ls C hS hC hG hl)
theorem r_aload_n {j : Fin 4} {x : Nat} (hd : decode M.2.1 pc = .ok (.aload_n j, 1)) (hq : pc + 1 = q) (hv : L[(j : Nat)]? = some (some (.ref x))) (kk : RW γ M d k n Qr Qx c1 n1 q L (.ref x :: st) σ xs) : RW γ M d k n Qr Qx c1 n1 pc L st σ xs := by
  subst hq
  intro p e s m args below meth c H locs ls C hS hC hG hl
  exact lv_aload_n C.1 C.2.1 hd rfl (hl.at hv) (kk p e s m args below meth c H locs ls C hS hC hG hl)
theorem r_aload {j : Nat} {x : Nat} (hd : decode M.2.1 pc = .ok (.aload j, 2)) (hq : pc + 2 = q) (hv : L[j]? = some (some (.ref x))) (kk : RW γ M d k n Qr Qx c1 n1 q L (.ref x :: st) σ xs) : RW γ M d k n Qr Qx c1 n1 pc L st σ xs := by
  subst hq
  intro p e s m args below meth c H locs ls C hS hC hG hl
  exact lv_aload C.1 C.2.1 hd (hl.at hv) (kk p e s m args below meth c H locs ls C hS hC hG hl)
theorem r_lload_n {j : Fin 4} {x : Int64} (hd : decode M.2.1 pc = .ok (.lload_n j, 1)) (hq : pc + 1 = q) (hv : L[(j : Nat)]? = some (some (.long x))) (kk : RW γ M d k n Qr Qx c1 n1 q L (.long x :: st) σ xs) : RW γ M d k n Qr Qx c1 n1 pc L st σ xs := by
  subst hq
  intro p e s m args below meth c H locs ls C hS hC hG hl
  exact lv_lload_n C.1 C.2.1 hd rfl (hl.at hv) (kk p e s m args below meth c H locs ls C hS hC hG hl)
theorem r_lload {j : Nat} {x : Int64} (hd : decode M.2.1 pc = .ok (.lload j, 2)) (hq : pc + 2 = q) (hv : L[j]? = some (some (.long x))) (kk : RW γ M d k n Qr Qx c1 n1 q L (.long x :: st) σ xs) : RW γ M d k n Qr Qx c1 n1 pc L st σ xs := by
  subst hq
  intro p e s m args below meth c H locs ls C hS hC hG hl
  exact lv_lload C.1 C.2.1 hd (hl.at hv) (kk p e s m args below meth c H locs ls C hS hC hG hl)
/-- what a store of one slot leaves: the new list L' names the stored value at i, elsewhere old values that aren't a long reaching into i -/
def Lst (L L' : List (Option Value)) (i : Nat) (v : Value) : Prop := ∀ (j : Nat) (w : Value), L'[j]? = some (some w) → (j = i ∧ w = v) ∨ (j ≠ i ∧ L[j]? = some (some w) ∧ (w.category = 2 → j + 1 ≠ i) ∧ (v.category = 2 → j ≠ i + 1))
theorem Lc.store1 {ls : Array Slot} {nL : Nat} {L L' : List (Option Value)} {i : Nat} {v : Value} (h : Lc ls nL L) (hi : i < nL) (hc : v.category = 1) (hL : Lst L L' i v) : ∃ ls', storeLocals ls i v = some ls' ∧ Lc ls' nL L' := by
  obtain ⟨ls', e, h'⟩ := lv_store1 (l := (List.range L.length).filterMap (fun j => (L[j]?.bind id).map (fun w => (j, w)))) (i := i) (v := v) (nL := nL) ⟨h.1, h.2.1, fun q hq => by
    obtain ⟨j, hj, hw⟩ := List.mem_filterMap.mp hq
    cases hb : L[j]? with
    | none => rw [hb] at hw; cases hw
    | some w =>
      rw [hb] at hw
      cases w with
      | none => cases hw
      | some w => cases hw; exact h.2.2 j w hb⟩ hi hc
  refine ⟨ls', e, h'.1, h'.2.1, fun j w hj => ?_⟩
  rcases hL j w hj with ⟨rfl, rfl⟩ | ⟨hne, ho, hcat, -⟩
  · exact h'.2.2 (j, w) List.mem_cons_self
  · refine h'.2.2 (j, w) (List.mem_cons_of_mem _ (List.mem_filter.mpr ⟨List.mem_filterMap.mpr ⟨j, List.mem_range.mpr (List.getElem?_eq_some_iff.mp ho).1, by rw [ho]; rfl⟩, ?_⟩))
    have e1 : (j == i) = false := by simpa using hne
    have e2 : (j + 1 == i && w.category == 2) = false := by
      by_cases hc2 : w.category = 2
      · have := hcat hc2
        simp [this]
      · simp [hc2]
    simp only [e1, e2, Bool.not_false, Bool.and_self]
theorem Lc.store2 {ls : Array Slot} {nL : Nat} {L L' : List (Option Value)} {i : Nat} {v : Value} (h : Lc ls nL L) (hi : i + 1 < nL) (hc : v.category = 2) (hL : Lst L L' i v) : ∃ ls', storeLocals ls i v = some ls' ∧ Lc ls' nL L' := by
  obtain ⟨ls', e, h'⟩ := lv_store2 (l := (List.range L.length).filterMap (fun j => (L[j]?.bind id).map (fun w => (j, w)))) (i := i) (v := v) (nL := nL) ⟨h.1, h.2.1, fun q hq => by
    obtain ⟨j, hj, hw⟩ := List.mem_filterMap.mp hq
    cases hb : L[j]? with
    | none => rw [hb] at hw; cases hw
    | some w =>
      rw [hb] at hw
      cases w with
      | none => cases hw
      | some w => cases hw; exact h.2.2 j w hb⟩ hi hc
  refine ⟨ls', e, h'.1, h'.2.1, fun j w hj => ?_⟩
  rcases hL j w hj with ⟨rfl, rfl⟩ | ⟨hne, ho, hcat, hcat2⟩
  · exact h'.2.2 (j, w) List.mem_cons_self
  · refine h'.2.2 (j, w) (List.mem_cons_of_mem _ (List.mem_filter.mpr ⟨List.mem_filterMap.mpr ⟨j, List.mem_range.mpr (List.getElem?_eq_some_iff.mp ho).1, by rw [ho]; rfl⟩, ?_⟩))
    have e1 : (j == i) = false := by simpa using hne
    have e3 : (j == i + 1) = false := by simpa using hcat2 hc
    have e2 : (j + 1 == i && w.category == 2) = false := by
      by_cases hc2 : w.category = 2
      · have := hcat hc2
        simp [this]
      · simp [hc2]
    simp only [e1, e2, e3, Bool.not_false, Bool.and_self]
/-- the new list by writing at i; longs nowhere near (checked) -/
def noL (L : List (Option Value)) : Bool := L.all (fun w => match w with | some (.long _) => false | some (.double _) => false | _ => true)
theorem Lst.set {L : List (Option Value)} {i : Nat} {v : Value} (h : noL L = true) (hv : v.category = 1) : Lst L (L.set i (some v)) i v := by
  intro j w hj
  by_cases hji : j = i
  · subst hji
    have hl : j < L.length := by
      have := (List.getElem?_eq_some_iff.mp hj).1
      simpa using this
    rw [List.getElem?_set_self hl] at hj
    cases hj
    exact Or.inl ⟨rfl, rfl⟩
  · rw [List.getElem?_set_ne (fun z => hji z.symm)] at hj
    refine Or.inr ⟨hji, hj, fun hc => ?_, fun hc => by omega⟩
    have := List.all_eq_true.mp h _ (List.mem_of_getElem? hj)
    cases w <;> simp [Value.category] at hc this

theorem r_istore_n {j : Fin 4} {x : Int32} {L' : List (Option Value)} (hd : decode M.2.1 pc = .ok (.istore_n j, 1)) (hq : pc + 1 = q) (hn : (j : Nat) < M.2.2.1) (hL : Lst L L' (j : Nat) (.int x)) (kk : RW γ M d k n Qr Qx c1 n1 q L' st σ xs) : RW γ M d k n Qr Qx c1 n1 pc L (.int x :: st) σ xs := by
  subst hq
  intro p e s m args below meth c H locs ls C hS hC hG hl
  obtain ⟨ls', e', h'⟩ := hl.store1 (v := .int x) hn rfl hL
  intro T hT X
  have hexec := C.1
  have hb := C.2.1
  obtain ⟨t, a, b⟩ := kk p e s m args below meth c H locs ls' C hS hC hG h' T hT X
  refine ⟨t, ?_, b⟩
  jvm_step X.here [X.here.top, ↓top_set X.here.top, hexec, hb, hd, e']
  exact a
theorem r_istore {j : Nat} {x : Int32} {L' : List (Option Value)} (hd : decode M.2.1 pc = .ok (.istore j, 2)) (hq : pc + 2 = q) (hn : j < M.2.2.1) (hL : Lst L L' j (.int x)) (kk : RW γ M d k n Qr Qx c1 n1 q L' st σ xs) : RW γ M d k n Qr Qx c1 n1 pc L (.int x :: st) σ xs := by
  subst hq
  intro p e s m args below meth c H locs ls C hS hC hG hl
  obtain ⟨ls', e', h'⟩ := hl.store1 (v := .int x) hn rfl hL
  intro T hT X
  have hexec := C.1
  have hb := C.2.1
  obtain ⟨t, a, b⟩ := kk p e s m args below meth c H locs ls' C hS hC hG h' T hT X
  refine ⟨t, ?_, b⟩
  jvm_step X.here [X.here.top, ↓top_set X.here.top, hexec, hb, hd, e']
  exact a
theorem r_astore_n {j : Fin 4} {x : Nat} {L' : List (Option Value)} (hd : decode M.2.1 pc = .ok (.astore_n j, 1)) (hq : pc + 1 = q) (hn : (j : Nat) < M.2.2.1) (hL : Lst L L' (j : Nat) (.ref x)) (kk : RW γ M d k n Qr Qx c1 n1 q L' st σ xs) : RW γ M d k n Qr Qx c1 n1 pc L (.ref x :: st) σ xs := by
  subst hq
  intro p e s m args below meth c H locs ls C hS hC hG hl
  obtain ⟨ls', e', h'⟩ := hl.store1 (v := .ref x) hn rfl hL
  intro T hT X
  have hexec := C.1
  have hb := C.2.1
  obtain ⟨t, a, b⟩ := kk p e s m args below meth c H locs ls' C hS hC hG h' T hT X
  refine ⟨t, ?_, b⟩
  jvm_step X.here [X.here.top, ↓top_set X.here.top, hexec, hb, hd, e', Value.isRef]
  exact a
theorem r_astore {j : Nat} {x : Nat} {L' : List (Option Value)} (hd : decode M.2.1 pc = .ok (.astore j, 2)) (hq : pc + 2 = q) (hn : j < M.2.2.1) (hL : Lst L L' j (.ref x)) (kk : RW γ M d k n Qr Qx c1 n1 q L' st σ xs) : RW γ M d k n Qr Qx c1 n1 pc L (.ref x :: st) σ xs := by
  subst hq
  intro p e s m args below meth c H locs ls C hS hC hG hl
  obtain ⟨ls', e', h'⟩ := hl.store1 (v := .ref x) hn rfl hL
  intro T hT X
  have hexec := C.1
  have hb := C.2.1
  obtain ⟨t, a, b⟩ := kk p e s m args below meth c H locs ls' C hS hC hG h' T hT X
  refine ⟨t, ?_, b⟩
  jvm_step X.here [X.here.top, ↓top_set X.here.top, hexec, hb, hd, e', Value.isRef]
  exact a
theorem r_lstore_n {j : Fin 4} {x : Int64} {L' : List (Option Value)} (hd : decode M.2.1 pc = .ok (.lstore_n j, 1)) (hq : pc + 1 = q) (hn : (j : Nat) + 1 < M.2.2.1) (hL : Lst L L' (j : Nat) (.long x)) (kk : RW γ M d k n Qr Qx c1 n1 q L' st σ xs) : RW γ M d k n Qr Qx c1 n1 pc L (.long x :: st) σ xs := by
  subst hq
  intro p e s m args below meth c H locs ls C hS hC hG hl
  obtain ⟨ls', e', h'⟩ := hl.store2 (v := .long x) hn rfl hL
  intro T hT X
  have hexec := C.1
  have hb := C.2.1
  obtain ⟨t, a, b⟩ := kk p e s m args below meth c H locs ls' C hS hC hG h' T hT X
  refine ⟨t, ?_, b⟩
  jvm_step X.here [X.here.top, ↓top_set X.here.top, hexec, hb, hd, e']
  exact a
theorem r_lstore {j : Nat} {x : Int64} {L' : List (Option Value)} (hd : decode M.2.1 pc = .ok (.lstore j, 2)) (hq : pc + 2 = q) (hn : j + 1 < M.2.2.1) (hL : Lst L L' j (.long x)) (kk : RW γ M d k n Qr Qx c1 n1 q L' st σ xs) : RW γ M d k n Qr Qx c1 n1 pc L (.long x :: st) σ xs := by
  subst hq
  intro p e s m args below meth c H locs ls C hS hC hG hl
  obtain ⟨ls', e', h'⟩ := hl.store2 (v := .long x) hn rfl hL
  intro T hT X
  have hexec := C.1
  have hb := C.2.1
  obtain ⟨t, a, b⟩ := kk p e s m args below meth c H locs ls' C hS hC hG h' T hT X
  refine ⟨t, ?_, b⟩
  jvm_step X.here [X.here.top, ↓top_set X.here.top, hexec, hb, hd, e']
  exact a
theorem r_iinc {j : Nat} {z w : Int} {L' : List (Option Value)} (hd : decode M.2.1 pc = .ok (.iinc j z, 3)) (hq : pc + 3 = q) (hv : L[j]? = some (some (.int (zI w)))) (hn : j < M.2.2.1) (hL : Lst L L' j (.int (zI (w + z)))) (kk : RW γ M d k n Qr Qx c1 n1 q L' st σ xs) : RW γ M d k n Qr Qx c1 n1 pc L st σ xs := by
  subst hq
  intro p e s m args below meth c H locs ls C hS hC hG hl
  have hg := hl.at hv
  have hv2 : zI w + Int32.ofInt z = zI (w + z) := zI_add w z
  obtain ⟨ls', e', h'⟩ := hl.store1 (v := .int (zI (w + z))) hn rfl hL
  rw [← hv2] at e'
  intro T hT X
  have hexec := C.1
  have hb := C.2.1
  obtain ⟨t, a, b⟩ := kk p e s m args below meth c H locs ls' C hS hC hG h' T hT X
  refine ⟨t, ?_, b⟩
  jvm_step X.here [X.here.top, ↓top_set X.here.top, hexec, hb, hd, hg, e']
  exact a
theorem r_iadd {a b : Int} (hd : decode M.2.1 pc = .ok (.iadd, 1)) (hq : pc + 1 = q) (kk : RW γ M d k n Qr Qx c1 n1 q L (.int (zI (a + b)) :: st) σ xs) : RW γ M d k n Qr Qx c1 n1 pc L (.int (zI b) :: .int (zI a) :: st) σ xs := by
  subst hq
  intro p e s m args below meth c H locs ls C hS hC hG hl
  refine lv_iadd C.1 C.2.1 hd ?_
  rw [zI_add]
  exact kk p e s m args below meth c H locs ls C hS hC hG hl
theorem r_isub {a b : Int} (hd : decode M.2.1 pc = .ok (.isub, 1)) (hq : pc + 1 = q) (kk : RW γ M d k n Qr Qx c1 n1 q L (.int (zI (a - b)) :: st) σ xs) : RW γ M d k n Qr Qx c1 n1 pc L (.int (zI b) :: .int (zI a) :: st) σ xs := by
  subst hq
  intro p e s m args below meth c H locs ls C hS hC hG hl
  refine lv_isub C.1 C.2.1 hd ?_
  rw [zI_sub]
  exact kk p e s m args below meth c H locs ls C hS hC hG hl
theorem r_imul {a b : Int} (hd : decode M.2.1 pc = .ok (.imul, 1)) (hq : pc + 1 = q) (kk : RW γ M d k n Qr Qx c1 n1 q L (.int (zI (a * b)) :: st) σ xs) : RW γ M d k n Qr Qx c1 n1 pc L (.int (zI b) :: .int (zI a) :: st) σ xs := by
  subst hq
  intro p e s m args below meth c H locs ls C hS hC hG hl
  refine lv_imul C.1 C.2.1 hd ?_
  rw [zI_mul]
  exact kk p e s m args below meth c H locs ls C hS hC hG hl
theorem r_ladd {a b : Int} (hd : decode M.2.1 pc = .ok (.ladd, 1)) (hq : pc + 1 = q) (kk : RW γ M d k n Qr Qx c1 n1 q L (.long (zL (a + b)) :: st) σ xs) : RW γ M d k n Qr Qx c1 n1 pc L (.long (zL b) :: .long (zL a) :: st) σ xs := by
  subst hq
  intro p e s m args below meth c H locs ls C hS hC hG hl
  refine lv_ladd C.1 C.2.1 hd ?_
  rw [zL_add]
  exact kk p e s m args below meth c H locs ls C hS hC hG hl
theorem r_lsub {a b : Int} (hd : decode M.2.1 pc = .ok (.lsub, 1)) (hq : pc + 1 = q) (kk : RW γ M d k n Qr Qx c1 n1 q L (.long (zL (a - b)) :: st) σ xs) : RW γ M d k n Qr Qx c1 n1 pc L (.long (zL b) :: .long (zL a) :: st) σ xs := by
  subst hq
  intro p e s m args below meth c H locs ls C hS hC hG hl
  refine lv_lsub C.1 C.2.1 hd ?_
  rw [zL_sub]
  exact kk p e s m args below meth c H locs ls C hS hC hG hl
theorem r_lmul {a b : Int} (hd : decode M.2.1 pc = .ok (.lmul, 1)) (hq : pc + 1 = q) (kk : RW γ M d k n Qr Qx c1 n1 q L (.long (zL (a * b)) :: st) σ xs) : RW γ M d k n Qr Qx c1 n1 pc L (.long (zL b) :: .long (zL a) :: st) σ xs := by
  subst hq
  intro p e s m args below meth c H locs ls C hS hC hG hl
  refine lv_lmul C.1 C.2.1 hd ?_
  rw [zL_mul]
  exact kk p e s m args below meth c H locs ls C hS hC hG hl
theorem r_iop {x y : Int32} {z : Int} (hx : x + y = zI z) (hd : decode M.2.1 pc = .ok (.iadd, 1)) (hq : pc + 1 = q) (kk : RW γ M d k n Qr Qx c1 n1 q L (.int (zI z) :: st) σ xs) : RW γ M d k n Qr Qx c1 n1 pc L (.int y :: .int x :: st) σ xs := by
  subst hq
  intro p e s m args below meth c H locs ls C hS hC hG hl
  refine lv_iadd C.1 C.2.1 hd ?_
  rw [hx]
  exact kk p e s m args below meth c H locs ls C hS hC hG hl
theorem r_iand {x y : Int32} (hd : decode M.2.1 pc = .ok (.iand, 1)) (hq : pc + 1 = q) (kk : RW γ M d k n Qr Qx c1 n1 q L (.int (x &&& y) :: st) σ xs) : RW γ M d k n Qr Qx c1 n1 pc L (.int y :: .int x :: st) σ xs := by
  subst hq
  intro p e s m args below meth c H locs ls C hS hC hG hl
  exact lv_iand C.1 C.2.1 hd (kk p e s m args below meth c H locs ls C hS hC hG hl)
theorem r_ishr {x y : Int32} (hd : decode M.2.1 pc = .ok (.ishr, 1)) (hq : pc + 1 = q) {z : Int} (hz : x >>> (y &&& 31) = zI z) (kk : RW γ M d k n Qr Qx c1 n1 q L (.int (zI z) :: st) σ xs) : RW γ M d k n Qr Qx c1 n1 pc L (.int y :: .int x :: st) σ xs := by
  subst hq
  intro p e s m args below meth c H locs ls C hS hC hG hl
  refine lv_ishr C.1 C.2.1 hd ?_
  rw [hz]
  exact kk p e s m args below meth c H locs ls C hS hC hG hl
theorem r_idiv {x y : Int32} (hd : decode M.2.1 pc = .ok (.idiv, 1)) (hq : pc + 1 = q) (hne : ¬ y = 0) {z : Int} (hz : x / y = zI z) (kk : RW γ M d k n Qr Qx c1 n1 q L (.int (zI z) :: st) σ xs) : RW γ M d k n Qr Qx c1 n1 pc L (.int y :: .int x :: st) σ xs := by
  subst hq
  intro p e s m args below meth c H locs ls C hS hC hG hl
  refine lv_idiv C.1 C.2.1 hd hne ?_
  rw [hz]
  exact kk p e s m args below meth c H locs ls C hS hC hG hl
theorem r_irem {x y : Int32} (hd : decode M.2.1 pc = .ok (.irem, 1)) (hq : pc + 1 = q) (hne : ¬ y = 0) {z : Int} (hz : x - x / y * y = zI z) (kk : RW γ M d k n Qr Qx c1 n1 q L (.int (zI z) :: st) σ xs) : RW γ M d k n Qr Qx c1 n1 pc L (.int y :: .int x :: st) σ xs := by
  subst hq
  intro p e s m args below meth c H locs ls C hS hC hG hl
  refine lv_irem C.1 C.2.1 hd hne ?_
  rw [hz]
  exact kk p e s m args below meth c H locs ls C hS hC hG hl
theorem r_i2l {a : Int} (hd : decode M.2.1 pc = .ok (.i2l, 1)) (hq : pc + 1 = q) (ha : -2147483648 ≤ a ∧ a ≤ 2147483647) (kk : RW γ M d k n Qr Qx c1 n1 q L (.long (zL a) :: st) σ xs) : RW γ M d k n Qr Qx c1 n1 pc L (.int (zI a) :: st) σ xs := by
  subst hq
  intro p e s m args below meth c H locs ls C hS hC hG hl
  exact lv_i2l C.1 C.2.1 hd (zI_long ha.1 ha.2) (kk p e s m args below meth c H locs ls C hS hC hG hl)
theorem r_l2i {a : Int} (hd : decode M.2.1 pc = .ok (.l2i, 1)) (hq : pc + 1 = q) (kk : RW γ M d k n Qr Qx c1 n1 q L (.int (zI a) :: st) σ xs) : RW γ M d k n Qr Qx c1 n1 pc L (.long (zL a) :: st) σ xs := by
  subst hq
  intro p e s m args below meth c H locs ls C hS hC hG hl
  exact lv_l2i C.1 C.2.1 hd (zL_int a) (kk p e s m args below meth c H locs ls C hS hC hG hl)
theorem zI_char (a : Int) : ((zI a).toUInt32 % 65536).toInt32 = zI (a % 65536) := by
  apply Int32.toInt_inj.mp
  have h1 : 0 ≤ a % 65536 := Int.emod_nonneg _ (by decide)
  have h2 : a % 65536 < 65536 := Int.emod_lt_of_pos _ (by decide)
  rw [zI_toInt (by omega) (by omega), pk_char]
  have e : ((zI a).toBitVec.toNat : Int) = a % 4294967296 := by
    show (((Int32.ofInt a).toBitVec).toNat : Int) = _
    rw [Int32.toBitVec_ofInt, BitVec.toNat_ofInt]
    have : (0 : Int) ≤ a % 4294967296 := Int.emod_nonneg _ (by decide)
    rw [show ((2 ^ 32 : Nat) : Int) = 4294967296 from rfl]
    omega
  rw [nI_toInt (by omega)]
  omega
theorem r_i2c {a : Int} (hd : decode M.2.1 pc = .ok (.i2c, 1)) (hq : pc + 1 = q) (kk : RW γ M d k n Qr Qx c1 n1 q L (.int (zI (a % 65536)) :: st) σ xs) : RW γ M d k n Qr Qx c1 n1 pc L (.int (zI a) :: st) σ xs := by
  subst hq
  intro p e s m args below meth c H locs ls C hS hC hG hl
  exact lv_i2c C.1 C.2.1 hd (zI_char a) (kk p e s m args below meth c H locs ls C hS hC hG hl)
theorem r_dup {v : Value} (hd : decode M.2.1 pc = .ok (.dup, 1)) (hq : pc + 1 = q) (hv : v.category = 1) (kk : RW γ M d k n Qr Qx c1 n1 q L (v :: v :: st) σ xs) : RW γ M d k n Qr Qx c1 n1 pc L (v :: st) σ xs := by
  subst hq
  intro p e s m args below meth c H locs ls C hS hC hG hl
  exact lv_dup C.1 C.2.1 hd hv (kk p e s m args below meth c H locs ls C hS hC hG hl)
theorem r_goto {off : Int} (hd : decode M.2.1 pc = .ok (.goto off, 3)) (hq : (pc : Int) + off = (q : Int)) (kk : RW γ M d k n Qr Qx c1 n1 q L st σ xs) : RW γ M d k n Qr Qx c1 n1 pc L st σ xs := by
  intro p e s m args below meth c H locs ls C hS hC hG hl
  exact lv_goto C.1 C.2.1 hd hq (kk p e s m args below meth c H locs ls C hS hC hG hl)
theorem r_icmp_eq {a b off : Int} {tgt : Nat} (hd : decode M.2.1 pc = .ok (.if_icmp .eq off, 3)) (hq : pc + 3 = q) (ht : (pc : Int) + off = (tgt : Int)) (ha : -2147483648 ≤ a ∧ a ≤ 2147483647) (hb : -2147483648 ≤ b ∧ b ≤ 2147483647) (kt : a = b → RW γ M d k n Qr Qx c1 n1 tgt L st σ xs) (kf : a ≠ b → RW γ M d k n Qr Qx c1 n1 q L st σ xs) : RW γ M d k n Qr Qx c1 n1 pc L (.int (zI b) :: .int (zI a) :: st) σ xs := by
  subst hq
  intro p e s m args below meth c H locs ls C hS hC hG hl
  have hcv := zI_inj ha hb
  exact lv_icmp_eq C.1 C.2.1 hd ht (fun h => kt (by have := hcv.mp h; omega) p e s m args below meth c H locs ls C hS hC hG hl) (fun h => kf (by have := mt hcv.mpr h; omega) p e s m args below meth c H locs ls C hS hC hG hl)
theorem r_if_eq {a off : Int} {tgt : Nat} (hd : decode M.2.1 pc = .ok (.ifCond .eq off, 3)) (hq : pc + 3 = q) (ht : (pc : Int) + off = (tgt : Int)) (ha : -2147483648 ≤ a ∧ a ≤ 2147483647) (kt : a = 0 → RW γ M d k n Qr Qx c1 n1 tgt L st σ xs) (kf : a ≠ 0 → RW γ M d k n Qr Qx c1 n1 q L st σ xs) : RW γ M d k n Qr Qx c1 n1 pc L (.int (zI a) :: st) σ xs := by
  subst hq
  intro p e s m args below meth c H locs ls C hS hC hG hl
  have hb : -2147483648 ≤ (0 : Int) ∧ (0 : Int) ≤ 2147483647 := by omega
  have hcv := zI_inj ha hb
  exact lv_if_eq C.1 C.2.1 hd ht (fun h => kt (by have := hcv.mp h; omega) p e s m args below meth c H locs ls C hS hC hG hl) (fun h => kf (by have := mt hcv.mpr h; omega) p e s m args below meth c H locs ls C hS hC hG hl)
theorem r_icmp_ne {a b off : Int} {tgt : Nat} (hd : decode M.2.1 pc = .ok (.if_icmp .ne off, 3)) (hq : pc + 3 = q) (ht : (pc : Int) + off = (tgt : Int)) (ha : -2147483648 ≤ a ∧ a ≤ 2147483647) (hb : -2147483648 ≤ b ∧ b ≤ 2147483647) (kt : a ≠ b → RW γ M d k n Qr Qx c1 n1 tgt L st σ xs) (kf : a = b → RW γ M d k n Qr Qx c1 n1 q L st σ xs) : RW γ M d k n Qr Qx c1 n1 pc L (.int (zI b) :: .int (zI a) :: st) σ xs := by
  subst hq
  intro p e s m args below meth c H locs ls C hS hC hG hl
  have hcv := not_congr (zI_inj ha hb)
  exact lv_icmp_ne C.1 C.2.1 hd ht (fun h => kt (by have := hcv.mp h; omega) p e s m args below meth c H locs ls C hS hC hG hl) (fun h => kf (by have := (zI_inj ha hb).mp h; omega) p e s m args below meth c H locs ls C hS hC hG hl)
theorem r_if_ne {a off : Int} {tgt : Nat} (hd : decode M.2.1 pc = .ok (.ifCond .ne off, 3)) (hq : pc + 3 = q) (ht : (pc : Int) + off = (tgt : Int)) (ha : -2147483648 ≤ a ∧ a ≤ 2147483647) (kt : a ≠ 0 → RW γ M d k n Qr Qx c1 n1 tgt L st σ xs) (kf : a = 0 → RW γ M d k n Qr Qx c1 n1 q L st σ xs) : RW γ M d k n Qr Qx c1 n1 pc L (.int (zI a) :: st) σ xs := by
  subst hq
  intro p e s m args below meth c H locs ls C hS hC hG hl
  have hb : -2147483648 ≤ (0 : Int) ∧ (0 : Int) ≤ 2147483647 := by omega
  have hcv := not_congr (zI_inj ha hb)
  exact lv_if_ne C.1 C.2.1 hd ht (fun h => kt (by have := hcv.mp h; omega) p e s m args below meth c H locs ls C hS hC hG hl) (fun h => kf (by have := (zI_inj ha hb).mp h; omega) p e s m args below meth c H locs ls C hS hC hG hl)
theorem r_icmp_lt {a b off : Int} {tgt : Nat} (hd : decode M.2.1 pc = .ok (.if_icmp .lt off, 3)) (hq : pc + 3 = q) (ht : (pc : Int) + off = (tgt : Int)) (ha : -2147483648 ≤ a ∧ a ≤ 2147483647) (hb : -2147483648 ≤ b ∧ b ≤ 2147483647) (kt : a < b → RW γ M d k n Qr Qx c1 n1 tgt L st σ xs) (kf : b ≤ a → RW γ M d k n Qr Qx c1 n1 q L st σ xs) : RW γ M d k n Qr Qx c1 n1 pc L (.int (zI b) :: .int (zI a) :: st) σ xs := by
  subst hq
  intro p e s m args below meth c H locs ls C hS hC hG hl
  have hcv := zI_lt ha hb
  exact lv_icmp_lt C.1 C.2.1 hd ht (fun h => kt (by have := hcv.mp h; omega) p e s m args below meth c H locs ls C hS hC hG hl) (fun h => kf (by have := mt hcv.mpr h; omega) p e s m args below meth c H locs ls C hS hC hG hl)
theorem r_if_lt {a off : Int} {tgt : Nat} (hd : decode M.2.1 pc = .ok (.ifCond .lt off, 3)) (hq : pc + 3 = q) (ht : (pc : Int) + off = (tgt : Int)) (ha : -2147483648 ≤ a ∧ a ≤ 2147483647) (kt : a < 0 → RW γ M d k n Qr Qx c1 n1 tgt L st σ xs) (kf : 0 ≤ a → RW γ M d k n Qr Qx c1 n1 q L st σ xs) : RW γ M d k n Qr Qx c1 n1 pc L (.int (zI a) :: st) σ xs := by
  subst hq
  intro p e s m args below meth c H locs ls C hS hC hG hl
  have hb : -2147483648 ≤ (0 : Int) ∧ (0 : Int) ≤ 2147483647 := by omega
  have hcv := zI_lt ha hb
  exact lv_if_lt C.1 C.2.1 hd ht (fun h => kt (by have := hcv.mp h; omega) p e s m args below meth c H locs ls C hS hC hG hl) (fun h => kf (by have := mt hcv.mpr h; omega) p e s m args below meth c H locs ls C hS hC hG hl)
theorem r_icmp_ge {a b off : Int} {tgt : Nat} (hd : decode M.2.1 pc = .ok (.if_icmp .ge off, 3)) (hq : pc + 3 = q) (ht : (pc : Int) + off = (tgt : Int)) (ha : -2147483648 ≤ a ∧ a ≤ 2147483647) (hb : -2147483648 ≤ b ∧ b ≤ 2147483647) (kt : b ≤ a → RW γ M d k n Qr Qx c1 n1 tgt L st σ xs) (kf : a < b → RW γ M d k n Qr Qx c1 n1 q L st σ xs) : RW γ M d k n Qr Qx c1 n1 pc L (.int (zI b) :: .int (zI a) :: st) σ xs := by
  subst hq
  intro p e s m args below meth c H locs ls C hS hC hG hl
  have hcv := zI_ge ha hb
  exact lv_icmp_ge C.1 C.2.1 hd ht (fun h => kt (by have := hcv.mp h; omega) p e s m args below meth c H locs ls C hS hC hG hl) (fun h => kf (by have := mt hcv.mpr h; omega) p e s m args below meth c H locs ls C hS hC hG hl)
theorem r_if_ge {a off : Int} {tgt : Nat} (hd : decode M.2.1 pc = .ok (.ifCond .ge off, 3)) (hq : pc + 3 = q) (ht : (pc : Int) + off = (tgt : Int)) (ha : -2147483648 ≤ a ∧ a ≤ 2147483647) (kt : 0 ≤ a → RW γ M d k n Qr Qx c1 n1 tgt L st σ xs) (kf : a < 0 → RW γ M d k n Qr Qx c1 n1 q L st σ xs) : RW γ M d k n Qr Qx c1 n1 pc L (.int (zI a) :: st) σ xs := by
  subst hq
  intro p e s m args below meth c H locs ls C hS hC hG hl
  have hb : -2147483648 ≤ (0 : Int) ∧ (0 : Int) ≤ 2147483647 := by omega
  have hcv := zI_ge ha hb
  exact lv_if_ge C.1 C.2.1 hd ht (fun h => kt (by have := hcv.mp h; omega) p e s m args below meth c H locs ls C hS hC hG hl) (fun h => kf (by have := mt hcv.mpr h; omega) p e s m args below meth c H locs ls C hS hC hG hl)
theorem r_icmp_gt {a b off : Int} {tgt : Nat} (hd : decode M.2.1 pc = .ok (.if_icmp .gt off, 3)) (hq : pc + 3 = q) (ht : (pc : Int) + off = (tgt : Int)) (ha : -2147483648 ≤ a ∧ a ≤ 2147483647) (hb : -2147483648 ≤ b ∧ b ≤ 2147483647) (kt : b < a → RW γ M d k n Qr Qx c1 n1 tgt L st σ xs) (kf : a ≤ b → RW γ M d k n Qr Qx c1 n1 q L st σ xs) : RW γ M d k n Qr Qx c1 n1 pc L (.int (zI b) :: .int (zI a) :: st) σ xs := by
  subst hq
  intro p e s m args below meth c H locs ls C hS hC hG hl
  have hcv := zI_gt ha hb
  exact lv_icmp_gt C.1 C.2.1 hd ht (fun h => kt (by have := hcv.mp h; omega) p e s m args below meth c H locs ls C hS hC hG hl) (fun h => kf (by have := mt hcv.mpr h; omega) p e s m args below meth c H locs ls C hS hC hG hl)
theorem r_if_gt {a off : Int} {tgt : Nat} (hd : decode M.2.1 pc = .ok (.ifCond .gt off, 3)) (hq : pc + 3 = q) (ht : (pc : Int) + off = (tgt : Int)) (ha : -2147483648 ≤ a ∧ a ≤ 2147483647) (kt : 0 < a → RW γ M d k n Qr Qx c1 n1 tgt L st σ xs) (kf : a ≤ 0 → RW γ M d k n Qr Qx c1 n1 q L st σ xs) : RW γ M d k n Qr Qx c1 n1 pc L (.int (zI a) :: st) σ xs := by
  subst hq
  intro p e s m args below meth c H locs ls C hS hC hG hl
  have hb : -2147483648 ≤ (0 : Int) ∧ (0 : Int) ≤ 2147483647 := by omega
  have hcv := zI_gt ha hb
  exact lv_if_gt C.1 C.2.1 hd ht (fun h => kt (by have := hcv.mp h; omega) p e s m args below meth c H locs ls C hS hC hG hl) (fun h => kf (by have := mt hcv.mpr h; omega) p e s m args below meth c H locs ls C hS hC hG hl)
theorem r_icmp_le {a b off : Int} {tgt : Nat} (hd : decode M.2.1 pc = .ok (.if_icmp .le off, 3)) (hq : pc + 3 = q) (ht : (pc : Int) + off = (tgt : Int)) (ha : -2147483648 ≤ a ∧ a ≤ 2147483647) (hb : -2147483648 ≤ b ∧ b ≤ 2147483647) (kt : a ≤ b → RW γ M d k n Qr Qx c1 n1 tgt L st σ xs) (kf : b < a → RW γ M d k n Qr Qx c1 n1 q L st σ xs) : RW γ M d k n Qr Qx c1 n1 pc L (.int (zI b) :: .int (zI a) :: st) σ xs := by
  subst hq
  intro p e s m args below meth c H locs ls C hS hC hG hl
  have hcv := zI_le ha hb
  exact lv_icmp_le C.1 C.2.1 hd ht (fun h => kt (by have := hcv.mp h; omega) p e s m args below meth c H locs ls C hS hC hG hl) (fun h => kf (by have := mt hcv.mpr h; omega) p e s m args below meth c H locs ls C hS hC hG hl)
theorem r_if_le {a off : Int} {tgt : Nat} (hd : decode M.2.1 pc = .ok (.ifCond .le off, 3)) (hq : pc + 3 = q) (ht : (pc : Int) + off = (tgt : Int)) (ha : -2147483648 ≤ a ∧ a ≤ 2147483647) (kt : a ≤ 0 → RW γ M d k n Qr Qx c1 n1 tgt L st σ xs) (kf : 0 < a → RW γ M d k n Qr Qx c1 n1 q L st σ xs) : RW γ M d k n Qr Qx c1 n1 pc L (.int (zI a) :: st) σ xs := by
  subst hq
  intro p e s m args below meth c H locs ls C hS hC hG hl
  have hb : -2147483648 ≤ (0 : Int) ∧ (0 : Int) ≤ 2147483647 := by omega
  have hcv := zI_le ha hb
  exact lv_if_le C.1 C.2.1 hd ht (fun h => kt (by have := hcv.mp h; omega) p e s m args below meth c H locs ls C hS hC hG hl) (fun h => kf (by have := mt hcv.mpr h; omega) p e s m args below meth c H locs ls C hS hC hG hl)
theorem r_lcmp {a b : Int} (hd : decode M.2.1 pc = .ok (.lcmp, 1)) (hq : pc + 1 = q) (ha : -9223372036854775808 ≤ a ∧ a ≤ 9223372036854775807) (hb : -9223372036854775808 ≤ b ∧ b ≤ 9223372036854775807) (kk : ∀ z : Int, (z = -1 ∧ a < b) ∨ (z = 0 ∧ a = b) ∨ (z = 1 ∧ b < a) → RW γ M d k n Qr Qx c1 n1 q L (.int (zI z) :: st) σ xs) : RW γ M d k n Qr Qx c1 n1 pc L (.long (zL b) :: .long (zL a) :: st) σ xs := by
  subst hq
  intro p e s m args below meth c H locs ls C hS hC hG hl
  refine W.lcmp C.1 C.2.1 hd ?_
  have h1 := zL_lt hb ha
  have h2 := zL_inj ha hb
  by_cases g1 : b < a
  · rw [show lg_cmp (zL a) (zL b) = zI 1 by simp [lg_cmp, h1.mpr g1]; rfl]
    exact kk 1 (by omega) p e s m args below meth c H locs ls C hS hC hG hl
  · by_cases g2 : a = b
    · subst g2
      rw [show lg_cmp (zL a) (zL a) = zI 0 by simp [lg_cmp]; rfl]
      exact kk 0 (by omega) p e s m args below meth c H locs ls C hS hC hG hl
    · have g3 : ¬ zL b < zL a := fun z => g1 (h1.mp z)
      have g4 : ¬ zL a = zL b := fun z => g2 (h2.mp z)
      rw [show lg_cmp (zL a) (zL b) = zI (-1) by simp [lg_cmp, g3, g4]; rfl]
      exact kk (-1) (by omega) p e s m args below meth c H locs ls C hS hC hG hl
theorem r_lcmpE {v : Int64} (hd : decode M.2.1 pc = .ok (.lcmp, 1)) (hq : pc + 1 = q) (kk : RW γ M d k n Qr Qx c1 n1 q L (.int (zI 0) :: st) σ xs) : RW γ M d k n Qr Qx c1 n1 pc L (.long v :: .long v :: st) σ xs := by
  subst hq
  intro p e s m args below meth c H locs ls C hS hC hG hl
  refine W.lcmp C.1 C.2.1 hd ?_
  rw [show lg_cmp v v = zI 0 by simp [lg_cmp]; rfl]
  exact kk p e s m args below meth c H locs ls C hS hC hG hl
end ROWS
end
section
/-! ROWS on the heap, calls, returns, throws -/
theorem Cl.kept {γ : Gm} {σ : St} {xs : va_W} {H H' : Heap} (hC : Cl γ σ xs H) (h : ∀ q, q < H.size → H'[q]? = H[q]?) : Cl γ σ xs H' := ⟨fun k i hv => (hC.1 k i hv).kept (h _ (hC.1 k i hv).lt), fun k q hk => (hC.2 k q hk).kept (h _ (hC.2 k q hk).lt)⟩
theorem Cl.upd {γ : Gm} {σ σ' : St} {xs : va_W} {H H' : Heap} {kd i : Nat} (hC : Cl γ σ xs H) (hG : Gok γ xs) (hv : gv γ kd i) (h1 : va_at (gD γ) vwCl (ga γ kd i, ct γ σ' kd i) H') (h2 : ∀ q, q ≠ ga γ kd i → H'[q]? = H[q]?) (h3 : ∀ k' i', vK k' i' = true → ¬ (k' = kd ∧ i' = i) → ct γ σ' k' i' = ct γ σ k' i') : Cl γ σ' xs H' := by
  refine ⟨fun k' i' hv' => ?_, fun k q hk => (hC.2 k q hk).kept (h2 _ (hG.2.2.2.2.1 kd i hv q (List.mem_of_getElem? hk)))⟩
  by_cases he : k' = kd ∧ i' = i
  · obtain ⟨rfl, rfl⟩ := he
    exact h1
  · rw [h3 k' i' (hG.2.2.2.2.2 k' i' hv') he]
    exact (hC.1 k' i' hv').kept (h2 _ (fun z => he (hG.2.1 k' i' kd i hv' hv z)))
section ZW
variable {p : Program} {l : Launch} {e : Env} {R : Room} {s : State} {m : MethodId} {args : Array Value} {below : List Frame} {meth : Method} {c : Code} {H : Heap} {locs : List Loc} {cells slots : Nat} {Q : State → Prop}
variable {cc : ByteArray} {pc : Nat} {ls : Array Slot} {rest : List Value} {D : va_G} {cl : List vw_C} {a : Nat} {tys : List (ClassId × FieldType)}
theorem z_put (hexec : p.tables.exec = Jvm.exec) (hb : c.code = cc) {own ref C : String} {T : u_T} {N ci index : Nat} {Ts : List Cond} (hts : ∀ w ∈ Ts, w.before args s = true) (hin : ∀ w ∈ u_ws C T N, w ∈ Ts) (ty0 : Nat → FieldType) (hty : ∀ k, k < N → parseFieldDescriptor (T k).2.2.1 = some (ty0 k)) (hnm : ∀ a, a < N → ∀ b, b < N → a ≠ b → (T a).2.1 ≠ (T b).2.1) (hown : s.vm.findClass own = some m.cls) (hK : va_K D cl tys s) {fs : List Value} (hP : va_at D cl (a, .inr (ci, fs)) H) (hc : cl[ci]? = some (C, T, N)) (k : Nat) (hk : k < N) (hlink : (Cond.fieldLink own index ref (T k).2.1 (T k).2.2.1).before args s = true) (hsame : ∀ x, s.fieldFound? (T k).1 (T k).2.1 (T k).2.2.1 = some x → s.fieldFound? ref (T k).2.1 (T k).2.2.1 = some x) (hfin : (T k).2.2.2 = false) {ty : FieldType} {v : Value} (hd : parseFieldDescriptor (T k).2.2.1 = some ty) (hn : narrow ty v = v) (hfit : fits ty v = true) (hl : k < fs.length)
    (hdg : decode cc pc = .ok (.putfield index, 3)) (kk : ∀ (H1 : Heap) (w : Nat), va_at D cl (a, .inr (ci, fs.set k v)) H1 → H1.size = H.size → (∀ q, q ≠ a → H1[q]? = H[q]?) → W p l e R s m args below meth c H1 (locs ++ [⟨a, w⟩]) cells slots Q (F0 m (pc + 3) ls rest)) : W p l e R s m args below meth c H locs cells slots Q (F0 m pc ls (v :: .ref a :: rest)) := by
  have hap := va_apart (own := own) hts hin ty0 hty hnm hK hc
  obtain ⟨r, h1, cell, q1, q2, q3, q4⟩ := hP
  have hr : r = (C, T, N) := Option.some.inj (h1.symm.trans hc)
  subst hr
  obtain ⟨hS, hfc, kC, hkC, hkind⟩ := hK.1 ci _ hc
  obtain ⟨cf, kf, fi, f, hi, hsl⟩ := hS k hk
  have hlay := hts _ (hin _ (u_in_lay hk))
  unfold u_lay at hlay
  rw [if_neg (by rw [hfin]; decide)] at hlay
  have hst := (u_facts hfc hkC (u_lays hts hin hk) hi).1
  have h6 := u_store hfc hkC hkind hlay hi hd hn hfit
  refine W.putK hexec hb (f := f) ⟨hown, hlink, ⟨_, _, _, hsame _ hi⟩, hst⟩ (by rw [q2]; exact h6) q1 q3 (by rw [hsl]; exact k2_hasslot (q4 k hk)) rfl rfl hdg fun H' e1 e2 e3 => ?_
  rw [hsl] at e1 ⊢
  exact kk H' _ ⟨_, hc, t_OB.to (V := updV (vp_V fs) k v) ⟨_, e1, q2, q3, t_set q4 hap hk v⟩ (fun j _ => vp_updV_set hl v j)⟩ e2 e3
theorem z_iast (hexec : p.tables.exec = Jvm.exec) (hb : c.code = cc) {cA : ClassId} {n : Nat} {f g : Nat → Int32} (hP : va_at D cl (a, .inl (cA, n, .inl f)) H) (hA : ArrOfT s cA .int) {i x : Int32} (hin : vp_in i n) (hg : ∀ q, g q = if q = i.toNatClampNeg then x else f q) (hdg : decode cc pc = .ok (.iastore, 1))
    (kk : ∀ (H1 : Heap) (w : Nat), va_at D cl (a, .inl (cA, n, .inl g)) H1 → H1.size = H.size → (∀ q, q ≠ a → H1[q]? = H[q]?) → W p l e R s m args below meth c H1 (locs ++ [⟨a, w⟩]) cells slots Q (F0 m (pc + 1) ls rest)) : W p l e R s m args below meth c H locs cells slots Q (F0 m pc ls (.int x :: .int i :: .ref a :: rest)) := by
  refine W.iast hexec hb hP (hA n (fun j => .int (f j))) (fun q => by cases q) (by show ¬ (i < 0 ∨ (arrV _ _ _).slots.size ≤ _); rw [arrV_size]; exact hin) rfl rfl hdg fun H1 e z oq => ?_
  refine kk H1 _ ?_ z oq
  show H1[a]? = some (vp_cell _ _)
  rw [e]
  rw [vp_cell_i, vp_cell_i, arrV_store]
  congr 2
  funext q
  rw [hg q]
  by_cases hq : q = i.toNatClampNeg
  · subst hq
    simp [updV]
  · simp [updV, hq]
theorem z_cast (hexec : p.tables.exec = Jvm.exec) (hb : c.code = cc) {cA : ClassId} {n : Nat} {f g : Nat → Int32} (hP : va_at D cl (a, .inl (cA, n, .inl f)) H) (hA : ArrOfT s cA .char) {i x y : Int32} (hin : vp_in i n) (hy : narrow .char (.int x) = .int y) (hg : ∀ q, g q = if q = i.toNatClampNeg then y else f q) (hdg : decode cc pc = .ok (.castore, 1))
    (kk : ∀ (H1 : Heap) (w : Nat), va_at D cl (a, .inl (cA, n, .inl g)) H1 → H1.size = H.size → (∀ q, q ≠ a → H1[q]? = H[q]?) → W p l e R s m args below meth c H1 (locs ++ [⟨a, w⟩]) cells slots Q (F0 m (pc + 1) ls rest)) : W p l e R s m args below meth c H locs cells slots Q (F0 m pc ls (.int x :: .int i :: .ref a :: rest)) := by
  refine W.cast hexec hb hP (hA n (fun j => .int (f j))) (fun q => by cases q) (by show ¬ (i < 0 ∨ (arrV _ _ _).slots.size ≤ _); rw [arrV_size]; exact hin) rfl rfl hdg fun H1 e z oq => ?_
  refine kk H1 _ ?_ z oq
  show H1[a]? = some (vp_cell _ _)
  rw [e, hy]
  rw [vp_cell_i, vp_cell_i, arrV_store]
  congr 2
  funext q
  rw [hg q]
  by_cases hq : q = i.toNatClampNeg
  · subst hq
    simp [updV]
  · simp [updV, hq]
theorem z_last (hexec : p.tables.exec = Jvm.exec) (hb : c.code = cc) {cA : ClassId} {n : Nat} {f g : Nat → Int64} (hP : va_at D cl (a, .inl (cA, n, .inr (.inl f))) H) (hA : ArrOfT s cA .long) {i : Int32} {x : Int64} (hin : vp_in i n) (hg : ∀ q, q < n → g q = if q = i.toNatClampNeg then x else f q) (hn1 : n = 1) (hdg : decode cc pc = .ok (.lastore, 1))
    (kk : ∀ (H1 : Heap) (w : Nat), va_at D cl (a, .inl (cA, n, .inr (.inl g))) H1 → H1.size = H.size → (∀ q, q ≠ a → H1[q]? = H[q]?) → W p l e R s m args below meth c H1 (locs ++ [⟨a, w⟩]) cells slots Q (F0 m (pc + 1) ls rest)) : W p l e R s m args below meth c H locs cells slots Q (F0 m pc ls (.long x :: .int i :: .ref a :: rest)) := by
  refine W.last hexec hb hP (hA n (fun j => .long (f j))) (fun q => by cases q) (by show ¬ (i < 0 ∨ (arrV _ _ _).slots.size ≤ _); rw [arrV_size]; exact hin) rfl rfl hdg fun H1 e z oq => ?_
  refine kk H1 _ ?_ z oq
  show H1[a]? = some (vp_cell _ _)
  rw [e]
  rw [vp_cell_l, vp_cell_l, arrV_store]
  subst hn1
  have h0 := hg 0 (by omega)
  have e0 : i.toNatClampNeg = 0 := by
    have : i.toNatClampNeg < 1 := Nat.not_le.mp fun q => hin (Or.inr q)
    omega
  rw [e0] at h0 ⊢
  simp at h0
  simp [arrV, updV, h0]
end ZW
theorem va_S.zput {A : Nat → Prop} {H0 H H1 : Heap} {locs : List Loc} {a w : Nat} (h : va_S A H0 H locs) (z : H1.size = H.size) (oq : ∀ q : Nat, q ≠ a → H1[q]? = H[q]?) (ha : A a) : va_S A H0 H1 (locs ++ [⟨a, w⟩]) := va_S.put h z oq ha
section HEAP
variable {γ : Gm} {M : Md} {d k n : Nat} {Qr : Option Value → St → va_W → Prop} {Qx : String → St → va_W → Prop} {c1 n1 pc q : Nat} {L : List (Option Value)} {st : List Value} {σ : St} {xs : va_W}
theorem r_get {kd i ci N j idx : Nat} {C : String} {T : u_T} {fs : List Value} {v : Value} (hd : decode M.2.1 pc = .ok (.getfield idx, 3)) (hq : pc + 3 = q) (hf : Cond.fieldLink M.1.cls idx (T j).1 (T j).2.1 (T j).2.2.1 ∈ uw) (hin : ∀ w ∈ u_ws C T N, w ∈ uw) (hc : vwCl[ci]? = some (C, T, N)) (hj : j < N) (hv : gv γ kd i) (hct : ct γ σ kd i = .inr (ci, fs)) (hfs : fs[j]? = some v) (kk : RW γ M d k n Qr Qx c1 n1 q L (v :: st) σ xs) : RW γ M d k n Qr Qx c1 n1 pc L (.ref (ga γ kd i) :: st) σ xs := by
  subst hq
  intro p e s m args below meth c H locs ls C0 hS hC hG hl
  have hP : va_P (gD γ) vwCl [(ga γ kd i, .inr (ci, fs))] H := fun k x hx => by
    have hk : k = 0 := by
      have := (List.getElem?_eq_some_iff.mp hx).1
      simp at this
      exact this
    subst hk
    cases hx
    rw [← hct]
    exact hC.1 kd i hv
  exact va_get C0.1 C0.2.1 C0.2.2.2.2.2.1 hin C0.2.2.2.2.1 C0.2.2.2.2.2.2.2.1 hP 0 rfl hc j hj (C0.2.2.2.2.2.1 _ hf) (fun x h => h) hfs hd (kk p e s m args below meth c H locs ls C0 hS hC hG hl)
theorem r_put {kd i ci N j idx : Nat} {C : String} {T : u_T} {fs : List Value} {v : Value} {σ' : St} {ty0 : Nat → FieldType} {ty : FieldType} (hd : decode M.2.1 pc = .ok (.putfield idx, 3)) (hq : pc + 3 = q) (hf : Cond.fieldLink M.1.cls idx (T j).1 (T j).2.1 (T j).2.2.1 ∈ uw) (hin : ∀ w ∈ u_ws C T N, w ∈ uw) (hty : ∀ k, k < N → parseFieldDescriptor (T k).2.2.1 = some (ty0 k)) (hnm : ∀ a, a < N → ∀ b, b < N → a ≠ b → (T a).2.1 ≠ (T b).2.1) (hc : vwCl[ci]? = some (C, T, N)) (hj : j < N) (hfin : (T j).2.2.2 = false) (hdt : parseFieldDescriptor (T j).2.2.1 = some ty) (hn : narrow ty v = v) (hfit : fits ty v = true) (hv : gv γ kd i) (hct : ct γ σ kd i = .inr (ci, fs)) (hjl : j < fs.length) (hct' : ct γ σ' kd i = .inr (ci, fs.set j v)) (hoth : ∀ k' i', vK k' i' = true → ¬ (k' = kd ∧ i' = i) → ct γ σ' k' i' = ct γ σ k' i') (kk : RW γ M d k n Qr Qx c1 n1 q L st σ' xs) : RW γ M d k n Qr Qx c1 n1 pc L (v :: .ref (ga γ kd i) :: st) σ xs := by
  subst hq
  intro p e s m args below meth c H locs ls C0 hS hC hG hl
  have hP := hC.1 kd i hv
  rw [hct] at hP
  refine z_put C0.1 C0.2.1 C0.2.2.2.2.2.1 hin ty0 hty hnm C0.2.2.2.2.1 C0.2.2.2.2.2.2.2.1 hP hc j hj (C0.2.2.2.2.2.1 _ hf) (fun x h => h) hfin hdt hn hfit hjl hd (fun H1 w a1 z1 o1 => ?_)
  exact kk p e s m args below meth c H1 _ ls C0 (hS.zput z1 o1 (hG.2.2.1 kd i hv)) (hC.upd hG hv (by rw [hct']; exact a1) o1 hoth) hG hl
theorem r_iald {kd i N : Nat} {z : Int} {f : Nat → Int32} (hct : ct γ σ kd i = .inl (gc γ 1, (N, .inl f))) (hd : decode M.2.1 pc = .ok (.iaload, 1)) (hq : pc + 1 = q) (hv : gv γ kd i) (hz : 0 ≤ z ∧ z < (N : Int) ∧ z ≤ 2147483647) (kk : RW γ M d k n Qr Qx c1 n1 q L (.int (f z.toNat) :: st) σ xs) : RW γ M d k n Qr Qx c1 n1 pc L (.int (zI z) :: .ref (ga γ kd i) :: st) σ xs := by
  subst hq
  intro p e s m args below meth c H locs ls C0 hS hC hG hl
  have hP : va_P (gD γ) vwCl [(ga γ kd i, .inl (gc γ 1, (N, .inl f)))] H := fun k x hx => by
    have hk : k = 0 := by
      have := (List.getElem?_eq_some_iff.mp hx).1
      simp at this
      exact this
    subst hk
    cases hx
    rw [← hct]
    exact hC.1 kd i hv
  refine va_iald C0.1 C0.2.1 C0.2.2.2.2.2.2.2.1 hP 0 1 rfl rfl (zI_in hz.1 hz.2.1 hz.2.2) hd ?_
  rw [zI_clamp ⟨hz.1, hz.2.2⟩]
  exact kk p e s m args below meth c H locs ls C0 hS hC hG hl
theorem r_iast {kd i N : Nat} {z w : Int} {f g : Nat → Int32} {σ' : St} (hct : ct γ σ kd i = .inl (gc γ 1, (N, .inl f))) (hct' : ct γ σ' kd i = .inl (gc γ 1, (N, .inl g))) (hg : ∀ q, g q = if q = z.toNat then zI w else f q) (hoth : ∀ k' i', vK k' i' = true → ¬ (k' = kd ∧ i' = i) → ct γ σ' k' i' = ct γ σ k' i') (hd : decode M.2.1 pc = .ok (.iastore, 1)) (hq : pc + 1 = q) (hv : gv γ kd i) (hz : 0 ≤ z ∧ z < (N : Int) ∧ z ≤ 2147483647) (kk : RW γ M d k n Qr Qx c1 n1 q L st σ' xs) : RW γ M d k n Qr Qx c1 n1 pc L (.int (zI w) :: .int (zI z) :: .ref (ga γ kd i) :: st) σ xs := by
  subst hq
  intro p e s m args below meth c H locs ls C0 hS hC hG hl
  have hP := hC.1 kd i hv
  rw [hct] at hP
  refine z_iast C0.1 C0.2.1 hP (C0.2.2.2.2.2.2.2.1.2 1 _ rfl).1 (zI_in hz.1 hz.2.1 hz.2.2) (g := g) (fun q => by rw [zI_clamp ⟨hz.1, hz.2.2⟩]; exact hg q) hd (fun H1 w a1 z1 o1 => ?_)
  exact kk p e s m args below meth c H1 _ ls C0 (hS.zput z1 o1 (hG.2.2.1 kd i hv)) (hC.upd hG hv (by rw [hct']; exact a1) o1 hoth) hG hl
theorem r_cald {i : Nat} {z : Int} (hd : decode M.2.1 pc = .ok (.caload, 1)) (hq : pc + 1 = q) (hv : gv γ 1 i) (hz : 0 ≤ z ∧ z < 128) (kk : RW γ M d k n Qr Qx c1 n1 q L (.int (zI (sg σ i z.toNat % 65536)) :: st) σ xs) : RW γ M d k n Qr Qx c1 n1 pc L (.int (zI z) :: .ref (ga γ 1 i) :: st) σ xs := by
  subst hq
  intro p e s m args below meth c H locs ls C0 hS hC hG hl
  have hP : va_P (gD γ) vwCl [(ga γ 1 i, ct γ σ 1 i)] H := fun k x hx => by
    have hk : k = 0 := by
      have := (List.getElem?_eq_some_iff.mp hx).1
      simp at this
      exact this
    subst hk
    cases hx
    exact hC.1 1 i hv
  refine va_cald C0.1 C0.2.1 C0.2.2.2.2.2.2.2.1 hP 0 0 rfl rfl (zI_in hz.1 (by omega) (by omega)) hd ?_
  rw [zI_clamp ⟨hz.1, by omega⟩]
  exact kk p e s m args below meth c H locs ls C0 hS hC hG hl
theorem r_aaldS {z : Int} (hd : decode M.2.1 pc = .ok (.aaload, 1)) (hq : pc + 1 = q) (hv : gv γ 7 0) (hz : 0 ≤ z ∧ z < 4) (kk : RW γ M d k n Qr Qx c1 n1 q L (.ref (ga γ 2 z.toNat) :: st) σ xs) : RW γ M d k n Qr Qx c1 n1 pc L (.int (zI z) :: .ref (ga γ 7 0) :: st) σ xs := by
  subst hq
  intro p e s m args below meth c H locs ls C0 hS hC hG hl
  have hP : va_P (gD γ) vwCl [(ga γ 7 0, ct γ σ 7 0)] H := fun k x hx => by
    have hk : k = 0 := by
      have := (List.getElem?_eq_some_iff.mp hx).1
      simp at this
      exact this
    subst hk
    cases hx
    exact hC.1 7 0 hv
  refine va_aldq C0.1 C0.2.1 C0.2.2.2.2.2.2.2.1 hP 0 3 rfl rfl (zI_in hz.1 (by omega) (by omega)) hd ?_
  rw [zI_clamp ⟨hz.1, by omega⟩]
  exact kk p e s m args below meth c H locs ls C0 hS hC hG hl
theorem r_laldO (hd : decode M.2.1 pc = .ok (.laload, 1)) (hq : pc + 1 = q) (hv : gv γ 18 0) (kk : RW γ M d k n Qr Qx c1 n1 q L (.long (zL (ov σ)) :: st) σ xs) : RW γ M d k n Qr Qx c1 n1 pc L (.int (zI 0) :: .ref (ga γ 18 0) :: st) σ xs := by
  subst hq
  intro p e s m args below meth c H locs ls C0 hS hC hG hl
  have hP : va_P (gD γ) vwCl [(ga γ 18 0, ct γ σ 18 0)] H := fun k x hx => by
    have hk : k = 0 := by
      have := (List.getElem?_eq_some_iff.mp hx).1
      simp at this
      exact this
    subst hk
    cases hx
    exact hC.1 18 0 hv
  exact va_lald C0.1 C0.2.1 C0.2.2.2.2.2.2.2.1 hP 0 2 rfl rfl (zI_in (by omega) (by omega) (by omega)) hd (kk p e s m args below meth c H locs ls C0 hS hC hG hl)
/-- the length of an array of the world -/
theorem r_alen {kd i t0 : Nat} {cA : ClassId} {x : vp_A} {ty : FieldType} {z : Int} (hct : ct γ σ kd i = .inl (cA, x)) (ht : (tysG γ)[t0]? = some (cA, ty)) (hz : (x.1 : Int) = z) (hd : decode M.2.1 pc = .ok (.arraylength, 1)) (hq : pc + 1 = q) (hv : gv γ kd i) (kk : RW γ M d k n Qr Qx c1 n1 q L (.int (zI z) :: st) σ xs) : RW γ M d k n Qr Qx c1 n1 pc L (.ref (ga γ kd i) :: st) σ xs := by
  subst hq
  intro p e s m args below meth c H locs ls C0 hS hC hG hl
  have hP : va_P (gD γ) vwCl [(ga γ kd i, .inl (cA, x))] H := fun k y hx => by
    have hk : k = 0 := by
      have := (List.getElem?_eq_some_iff.mp hx).1
      simp at this
      exact this
    subst hk
    cases hx
    rw [← hct]
    exact hC.1 kd i hv
  exact va_alen C0.1 C0.2.1 C0.2.2.2.2.2.2.2.1 hP 0 t0 rfl ht (by rw [zI_ofNat, hz]) hd (kk p e s m args below meth c H locs ls C0 hS hC hG hl)
theorem nar_char (w : Int) : narrow .char (.int (zI w)) = .int (zI (w % 65536)) := by
  have h := zI_char w
  have e : narrow .char (.int (zI w)) = .int (vp_nar .char (zI w)) := by
    unfold vp_nar
    rfl
  rw [e, vp_nar_char, ← h]
  rfl
theorem ct_oth_sg {i j : Nat} {w : Int} : ∀ k' i', vK k' i' = true → ¬ (k' = 1 ∧ i' = i) → ct γ (sSg σ (u2 (sg σ) i j w)) k' i' = ct γ σ k' i' := by
  intro k' i' _ h
  unfold ct
  split <;> first | rfl | skip
  have hne : i' ≠ i := fun z => h ⟨rfl, z⟩
  simp [sg, sSg, u2, u1, hne]
theorem r_cast {i : Nat} {z w : Int} (hd : decode M.2.1 pc = .ok (.castore, 1)) (hq : pc + 1 = q) (hv : gv γ 1 i) (hz : 0 ≤ z ∧ z < 128) (kk : RW γ M d k n Qr Qx c1 n1 q L st (sSg σ (u2 (sg σ) i z.toNat w)) xs) : RW γ M d k n Qr Qx c1 n1 pc L (.int (zI w) :: .int (zI z) :: .ref (ga γ 1 i) :: st) σ xs := by
  subst hq
  intro p e s m args below meth c H locs ls C0 hS hC hG hl
  refine z_cast C0.1 C0.2.1 (hC.1 1 i hv) (C0.2.2.2.2.2.2.2.1.2 0 _ rfl).1 (zI_in hz.1 (by omega) (by omega)) (nar_char w) (g := fun j => zI (sg (sSg σ (u2 (sg σ) i z.toNat w)) i j % 65536)) (fun q => ?_) hd (fun H1 w' a1 z1 o1 => ?_)
  · rw [zI_clamp ⟨hz.1, by omega⟩]
    by_cases hq : q = z.toNat
    · subst hq
      simp [sg, sSg, u2, u1]
    · simp [sg, sSg, u2, u1, hq]
  · exact kk p e s m args below meth c H1 _ ls C0 (hS.zput z1 o1 (hG.2.2.1 1 i hv)) (hC.upd hG hv a1 o1 ct_oth_sg) hG hl
theorem r_lastO {w : Int} (hd : decode M.2.1 pc = .ok (.lastore, 1)) (hq : pc + 1 = q) (hv : gv γ 18 0) (kk : RW γ M d k n Qr Qx c1 n1 q L st (sOv σ w) xs) : RW γ M d k n Qr Qx c1 n1 pc L (.long (zL w) :: .int (zI 0) :: .ref (ga γ 18 0) :: st) σ xs := by
  subst hq
  intro p e s m args below meth c H locs ls C0 hS hC hG hl
  refine z_last C0.1 C0.2.1 (hC.1 18 0 hv) (C0.2.2.2.2.2.2.2.1.2 2 _ rfl).1 (zI_in (by omega) (by omega) (by omega)) (g := fun _ => zL w) (fun q hq => ?_) rfl hd (fun H1 w' a1 z1 o1 => ?_)
  · have h0 : q = 0 := by omega
    subst h0
    rw [zI_clamp (by omega)]
    rfl
  · refine kk p e s m args below meth c H1 _ ls C0 (hS.zput z1 o1 (hG.2.2.1 18 0 hv)) (hC.upd hG hv a1 o1 ?_) hG hl
    intro k' i' h9 h
    unfold ct
    split <;> first | rfl | skip
    exact absurd ⟨rfl, by simpa [vK] using h9⟩ h

theorem uin_X3 : ∀ w ∈ u_ws RX3 TX3 2, w ∈ uw := fun w h => uw_i ((show ∀ w ∈ u_ws RX3 TX3 2, w ∈ lw_tbl ∧ goodWord w = true by decide +kernel) w h)
theorem g_X3_signs {i idx : Nat} (hd : decode M.2.1 pc = .ok (.getfield idx, 3)) (hq : pc + 3 = q) (hf : Cond.fieldLink M.1.cls idx (TX3 0).1 (TX3 0).2.1 (TX3 0).2.2.1 ∈ uw) (hv : gv γ 0 i) (kk : RW γ M d k n Qr Qx c1 n1 q L (.ref (ga γ 1 i) :: st) σ xs) : RW γ M d k n Qr Qx c1 n1 pc L (.ref (ga γ 0 i) :: st) σ xs := r_get (j := 0) (N := 2) hd hq hf uin_X3 rfl (by decide) hv rfl rfl kk
theorem g_X3_count {i idx : Nat} (hd : decode M.2.1 pc = .ok (.getfield idx, 3)) (hq : pc + 3 = q) (hf : Cond.fieldLink M.1.cls idx (TX3 1).1 (TX3 1).2.1 (TX3 1).2.2.1 ∈ uw) (hv : gv γ 0 i) (kk : RW γ M d k n Qr Qx c1 n1 q L (.int (zI (cnt σ i)) :: st) σ xs) : RW γ M d k n Qr Qx c1 n1 pc L (.ref (ga γ 0 i) :: st) σ xs := r_get (j := 1) (N := 2) hd hq hf uin_X3 rfl (by decide) hv rfl rfl kk
theorem uin_X0 : ∀ w ∈ u_ws RX0 TX0 5, w ∈ uw := fun w h => uw_i ((show ∀ w ∈ u_ws RX0 TX0 5, w ∈ lw_tbl ∧ goodWord w = true by decide +kernel) w h)
theorem g_X0_whole {i idx : Nat} (hd : decode M.2.1 pc = .ok (.getfield idx, 3)) (hq : pc + 3 = q) (hf : Cond.fieldLink M.1.cls idx (TX0 0).1 (TX0 0).2.1 (TX0 0).2.2.1 ∈ uw) (hv : gv γ 2 i) (kk : RW γ M d k n Qr Qx c1 n1 q L (.ref (ga γ 0 i) :: st) σ xs) : RW γ M d k n Qr Qx c1 n1 pc L (.ref (ga γ 2 i) :: st) σ xs := r_get (j := 0) (N := 5) hd hq hf uin_X0 rfl (by decide) hv rfl rfl kk
theorem g_X0_begins {i idx : Nat} (hd : decode M.2.1 pc = .ok (.getfield idx, 3)) (hq : pc + 3 = q) (hf : Cond.fieldLink M.1.cls idx (TX0 1).1 (TX0 1).2.1 (TX0 1).2.2.1 ∈ uw) (hv : gv γ 2 i) (kk : RW γ M d k n Qr Qx c1 n1 q L (.ref (ga γ 3 i) :: st) σ xs) : RW γ M d k n Qr Qx c1 n1 pc L (.ref (ga γ 2 i) :: st) σ xs := r_get (j := 1) (N := 5) hd hq hf uin_X0 rfl (by decide) hv rfl rfl kk
theorem g_X0_ends {i idx : Nat} (hd : decode M.2.1 pc = .ok (.getfield idx, 3)) (hq : pc + 3 = q) (hf : Cond.fieldLink M.1.cls idx (TX0 2).1 (TX0 2).2.1 (TX0 2).2.2.1 ∈ uw) (hv : gv γ 2 i) (kk : RW γ M d k n Qr Qx c1 n1 q L (.ref (ga γ 4 i) :: st) σ xs) : RW γ M d k n Qr Qx c1 n1 pc L (.ref (ga γ 2 i) :: st) σ xs := r_get (j := 2) (N := 5) hd hq hf uin_X0 rfl (by decide) hv rfl rfl kk
theorem g_X0_portNumber {i idx : Nat} (hd : decode M.2.1 pc = .ok (.getfield idx, 3)) (hq : pc + 3 = q) (hf : Cond.fieldLink M.1.cls idx (TX0 3).1 (TX0 3).2.1 (TX0 3).2.2.1 ∈ uw) (hv : gv γ 2 i) (kk : RW γ M d k n Qr Qx c1 n1 q L (.int (zI (pt σ i)) :: st) σ xs) : RW γ M d k n Qr Qx c1 n1 pc L (.ref (ga γ 2 i) :: st) σ xs := r_get (j := 3) (N := 5) hd hq hf uin_X0 rfl (by decide) hv rfl rfl kk
theorem g_X0_isHeld {i idx : Nat} (hd : decode M.2.1 pc = .ok (.getfield idx, 3)) (hq : pc + 3 = q) (hf : Cond.fieldLink M.1.cls idx (TX0 4).1 (TX0 4).2.1 (TX0 4).2.2.1 ∈ uw) (hv : gv γ 2 i) (kk : RW γ M d k n Qr Qx c1 n1 q L (.int (zI (bI (hld σ i))) :: st) σ xs) : RW γ M d k n Qr Qx c1 n1 pc L (.ref (ga γ 2 i) :: st) σ xs := r_get (j := 4) (N := 5) hd hq hf uin_X0 rfl (by decide) hv rfl rfl kk
theorem uin_X1 : ∀ w ∈ u_ws RX1 TX1 3, w ∈ uw := fun w h => uw_i ((show ∀ w ∈ u_ws RX1 TX1 3, w ∈ lw_tbl ∧ goodWord w = true by decide +kernel) w h)
theorem g_X1_address {i idx : Nat} (hd : decode M.2.1 pc = .ok (.getfield idx, 3)) (hq : pc + 3 = q) (hf : Cond.fieldLink M.1.cls idx (TX1 0).1 (TX1 0).2.1 (TX1 0).2.2.1 ∈ uw) (hv : gv γ 5 0) (kk : RW γ M d k n Qr Qx c1 n1 q L (.ref (ga γ 2 4) :: st) σ xs) : RW γ M d k n Qr Qx c1 n1 pc L (.ref (ga γ 5 0) :: st) σ xs := r_get (j := 0) (N := 3) hd hq hf uin_X1 rfl (by decide) hv rfl rfl kk
theorem g_X1_text {i idx : Nat} (hd : decode M.2.1 pc = .ok (.getfield idx, 3)) (hq : pc + 3 = q) (hf : Cond.fieldLink M.1.cls idx (TX1 1).1 (TX1 1).2.1 (TX1 1).2.2.1 ∈ uw) (hv : gv γ 5 0) (kk : RW γ M d k n Qr Qx c1 n1 q L (.ref (ga γ 0 4) :: st) σ xs) : RW γ M d k n Qr Qx c1 n1 pc L (.ref (ga γ 5 0) :: st) σ xs := r_get (j := 1) (N := 3) hd hq hf uin_X1 rfl (by decide) hv rfl rfl kk
theorem g_X1_refused {i idx : Nat} (hd : decode M.2.1 pc = .ok (.getfield idx, 3)) (hq : pc + 3 = q) (hf : Cond.fieldLink M.1.cls idx (TX1 2).1 (TX1 2).2.1 (TX1 2).2.2.1 ∈ uw) (hv : gv γ 5 0) (kk : RW γ M d k n Qr Qx c1 n1 q L (.int (zI (rf σ)) :: st) σ xs) : RW γ M d k n Qr Qx c1 n1 pc L (.ref (ga γ 5 0) :: st) σ xs := r_get (j := 2) (N := 3) hd hq hf uin_X1 rfl (by decide) hv rfl rfl kk
theorem uin_X4 : ∀ w ∈ u_ws RX4 TX4 6, w ∈ uw := fun w h => uw_i ((show ∀ w ∈ u_ws RX4 TX4 6, w ∈ lw_tbl ∧ goodWord w = true by decide +kernel) w h)
theorem g_X4_text {i idx : Nat} (hd : decode M.2.1 pc = .ok (.getfield idx, 3)) (hq : pc + 3 = q) (hf : Cond.fieldLink M.1.cls idx (TX4 0).1 (TX4 0).2.1 (TX4 0).2.2.1 ∈ uw) (hv : gv γ 6 0) (kk : RW γ M d k n Qr Qx c1 n1 q L (.ref (ga γ 0 5) :: st) σ xs) : RW γ M d k n Qr Qx c1 n1 pc L (.ref (ga γ 6 0) :: st) σ xs := r_get (j := 0) (N := 6) hd hq hf uin_X4 rfl (by decide) hv rfl rfl kk
theorem g_X4_slots {i idx : Nat} (hd : decode M.2.1 pc = .ok (.getfield idx, 3)) (hq : pc + 3 = q) (hf : Cond.fieldLink M.1.cls idx (TX4 1).1 (TX4 1).2.1 (TX4 1).2.2.1 ∈ uw) (hv : gv γ 6 0) (kk : RW γ M d k n Qr Qx c1 n1 q L (.ref (ga γ 7 0) :: st) σ xs) : RW γ M d k n Qr Qx c1 n1 pc L (.ref (ga γ 6 0) :: st) σ xs := r_get (j := 1) (N := 6) hd hq hf uin_X4 rfl (by decide) hv rfl rfl kk
theorem g_X4_cutter {i idx : Nat} (hd : decode M.2.1 pc = .ok (.getfield idx, 3)) (hq : pc + 3 = q) (hf : Cond.fieldLink M.1.cls idx (TX4 2).1 (TX4 2).2.1 (TX4 2).2.2.1 ∈ uw) (hv : gv γ 6 0) (kk : RW γ M d k n Qr Qx c1 n1 q L (.ref (ga γ 5 0) :: st) σ xs) : RW γ M d k n Qr Qx c1 n1 pc L (.ref (ga γ 6 0) :: st) σ xs := r_get (j := 2) (N := 6) hd hq hf uin_X4 rfl (by decide) hv rfl rfl kk
theorem g_X4_loom {i idx : Nat} (hd : decode M.2.1 pc = .ok (.getfield idx, 3)) (hq : pc + 3 = q) (hf : Cond.fieldLink M.1.cls idx (TX4 3).1 (TX4 3).2.1 (TX4 3).2.2.1 ∈ uw) (hv : gv γ 6 0) (kk : RW γ M d k n Qr Qx c1 n1 q L (.ref (ga γ 0 6) :: st) σ xs) : RW γ M d k n Qr Qx c1 n1 pc L (.ref (ga γ 6 0) :: st) σ xs := r_get (j := 3) (N := 6) hd hq hf uin_X4 rfl (by decide) hv rfl rfl kk
theorem g_X4_refusalCount {i idx : Nat} (hd : decode M.2.1 pc = .ok (.getfield idx, 3)) (hq : pc + 3 = q) (hf : Cond.fieldLink M.1.cls idx (TX4 4).1 (TX4 4).2.1 (TX4 4).2.2.1 ∈ uw) (hv : gv γ 6 0) (kk : RW γ M d k n Qr Qx c1 n1 q L (.int (zI (rc σ)) :: st) σ xs) : RW γ M d k n Qr Qx c1 n1 pc L (.ref (ga γ 6 0) :: st) σ xs := r_get (j := 4) (N := 6) hd hq hf uin_X4 rfl (by decide) hv rfl rfl kk
theorem g_X4_refusedPlace {i idx : Nat} (hd : decode M.2.1 pc = .ok (.getfield idx, 3)) (hq : pc + 3 = q) (hf : Cond.fieldLink M.1.cls idx (TX4 5).1 (TX4 5).2.1 (TX4 5).2.2.1 ∈ uw) (hv : gv γ 6 0) (kk : RW γ M d k n Qr Qx c1 n1 q L (.int (zI (rp σ)) :: st) σ xs) : RW γ M d k n Qr Qx c1 n1 pc L (.ref (ga γ 6 0) :: st) σ xs := r_get (j := 5) (N := 6) hd hq hf uin_X4 rfl (by decide) hv rfl rfl kk
theorem uin_X5 : ∀ w ∈ u_ws RX5 TX5 15, w ∈ uw := fun w h => uw_i ((show ∀ w ∈ u_ws RX5 TX5 15, w ∈ lw_tbl ∧ goodWord w = true by decide +kernel) w h)
theorem g_X5_text {i idx : Nat} (hd : decode M.2.1 pc = .ok (.getfield idx, 3)) (hq : pc + 3 = q) (hf : Cond.fieldLink M.1.cls idx (TX5 0).1 (TX5 0).2.1 (TX5 0).2.2.1 ∈ uw) (hv : gv γ 8 0) (kk : RW γ M d k n Qr Qx c1 n1 q L (.ref (ga γ 9 0) :: st) σ xs) : RW γ M d k n Qr Qx c1 n1 pc L (.ref (ga γ 8 0) :: st) σ xs := r_get (j := 0) (N := 15) hd hq hf uin_X5 rfl (by decide) hv rfl rfl kk
theorem g_X5_size {i idx : Nat} (hd : decode M.2.1 pc = .ok (.getfield idx, 3)) (hq : pc + 3 = q) (hf : Cond.fieldLink M.1.cls idx (TX5 1).1 (TX5 1).2.1 (TX5 1).2.2.1 ∈ uw) (hv : gv γ 8 0) (kk : RW γ M d k n Qr Qx c1 n1 q L (.int (zI (msz σ)) :: st) σ xs) : RW γ M d k n Qr Qx c1 n1 pc L (.ref (ga γ 8 0) :: st) σ xs := r_get (j := 1) (N := 15) hd hq hf uin_X5 rfl (by decide) hv rfl rfl kk
theorem g_X5_pieces {i idx : Nat} (hd : decode M.2.1 pc = .ok (.getfield idx, 3)) (hq : pc + 3 = q) (hf : Cond.fieldLink M.1.cls idx (TX5 2).1 (TX5 2).2.1 (TX5 2).2.2.1 ∈ uw) (hv : gv γ 8 0) (kk : RW γ M d k n Qr Qx c1 n1 q L (.ref (ga γ 10 0) :: st) σ xs) : RW γ M d k n Qr Qx c1 n1 pc L (.ref (ga γ 8 0) :: st) σ xs := r_get (j := 2) (N := 15) hd hq hf uin_X5 rfl (by decide) hv rfl rfl kk
theorem g_X5_pieceMany {i idx : Nat} (hd : decode M.2.1 pc = .ok (.getfield idx, 3)) (hq : pc + 3 = q) (hf : Cond.fieldLink M.1.cls idx (TX5 3).1 (TX5 3).2.1 (TX5 3).2.2.1 ∈ uw) (hv : gv γ 8 0) (kk : RW γ M d k n Qr Qx c1 n1 q L (.int (zI (mpm σ)) :: st) σ xs) : RW γ M d k n Qr Qx c1 n1 pc L (.ref (ga γ 8 0) :: st) σ xs := r_get (j := 3) (N := 15) hd hq hf uin_X5 rfl (by decide) hv rfl rfl kk
theorem g_X5_signs {i idx : Nat} (hd : decode M.2.1 pc = .ok (.getfield idx, 3)) (hq : pc + 3 = q) (hf : Cond.fieldLink M.1.cls idx (TX5 4).1 (TX5 4).2.1 (TX5 4).2.2.1 ∈ uw) (hv : gv γ 8 0) (kk : RW γ M d k n Qr Qx c1 n1 q L (.ref (ga γ 11 0) :: st) σ xs) : RW γ M d k n Qr Qx c1 n1 pc L (.ref (ga γ 8 0) :: st) σ xs := r_get (j := 4) (N := 15) hd hq hf uin_X5 rfl (by decide) hv rfl rfl kk
theorem g_X5_long_ {i idx : Nat} (hd : decode M.2.1 pc = .ok (.getfield idx, 3)) (hq : pc + 3 = q) (hf : Cond.fieldLink M.1.cls idx (TX5 5).1 (TX5 5).2.1 (TX5 5).2.2.1 ∈ uw) (hv : gv γ 8 0) (kk : RW γ M d k n Qr Qx c1 n1 q L (.ref (ga γ 12 0) :: st) σ xs) : RW γ M d k n Qr Qx c1 n1 pc L (.ref (ga γ 8 0) :: st) σ xs := r_get (j := 5) (N := 15) hd hq hf uin_X5 rfl (by decide) hv rfl rfl kk
theorem g_X5_from {i idx : Nat} (hd : decode M.2.1 pc = .ok (.getfield idx, 3)) (hq : pc + 3 = q) (hf : Cond.fieldLink M.1.cls idx (TX5 6).1 (TX5 6).2.1 (TX5 6).2.2.1 ∈ uw) (hv : gv γ 8 0) (kk : RW γ M d k n Qr Qx c1 n1 q L (.ref (ga γ 13 0) :: st) σ xs) : RW γ M d k n Qr Qx c1 n1 pc L (.ref (ga γ 8 0) :: st) σ xs := r_get (j := 6) (N := 15) hd hq hf uin_X5 rfl (by decide) hv rfl rfl kk
theorem g_X5_to {i idx : Nat} (hd : decode M.2.1 pc = .ok (.getfield idx, 3)) (hq : pc + 3 = q) (hf : Cond.fieldLink M.1.cls idx (TX5 7).1 (TX5 7).2.1 (TX5 7).2.2.1 ∈ uw) (hv : gv γ 8 0) (kk : RW γ M d k n Qr Qx c1 n1 q L (.ref (ga γ 14 0) :: st) σ xs) : RW γ M d k n Qr Qx c1 n1 pc L (.ref (ga γ 8 0) :: st) σ xs := r_get (j := 7) (N := 15) hd hq hf uin_X5 rfl (by decide) hv rfl rfl kk
theorem g_X5_ports {i idx : Nat} (hd : decode M.2.1 pc = .ok (.getfield idx, 3)) (hq : pc + 3 = q) (hf : Cond.fieldLink M.1.cls idx (TX5 8).1 (TX5 8).2.1 (TX5 8).2.2.1 ∈ uw) (hv : gv γ 8 0) (kk : RW γ M d k n Qr Qx c1 n1 q L (.ref (ga γ 15 0) :: st) σ xs) : RW γ M d k n Qr Qx c1 n1 pc L (.ref (ga γ 8 0) :: st) σ xs := r_get (j := 8) (N := 15) hd hq hf uin_X5 rfl (by decide) hv rfl rfl kk
theorem g_X5_begin {i idx : Nat} (hd : decode M.2.1 pc = .ok (.getfield idx, 3)) (hq : pc + 3 = q) (hf : Cond.fieldLink M.1.cls idx (TX5 9).1 (TX5 9).2.1 (TX5 9).2.2.1 ∈ uw) (hv : gv γ 8 0) (kk : RW γ M d k n Qr Qx c1 n1 q L (.ref (ga γ 16 0) :: st) σ xs) : RW γ M d k n Qr Qx c1 n1 pc L (.ref (ga γ 8 0) :: st) σ xs := r_get (j := 9) (N := 15) hd hq hf uin_X5 rfl (by decide) hv rfl rfl kk
theorem g_X5_end {i idx : Nat} (hd : decode M.2.1 pc = .ok (.getfield idx, 3)) (hq : pc + 3 = q) (hf : Cond.fieldLink M.1.cls idx (TX5 10).1 (TX5 10).2.1 (TX5 10).2.2.1 ∈ uw) (hv : gv γ 8 0) (kk : RW γ M d k n Qr Qx c1 n1 q L (.ref (ga γ 17 0) :: st) σ xs) : RW γ M d k n Qr Qx c1 n1 pc L (.ref (ga γ 8 0) :: st) σ xs := r_get (j := 10) (N := 15) hd hq hf uin_X5 rfl (by decide) hv rfl rfl kk
theorem g_X5_port {i idx : Nat} (hd : decode M.2.1 pc = .ok (.getfield idx, 3)) (hq : pc + 3 = q) (hf : Cond.fieldLink M.1.cls idx (TX5 11).1 (TX5 11).2.1 (TX5 11).2.2.1 ∈ uw) (hv : gv γ 8 0) (kk : RW γ M d k n Qr Qx c1 n1 q L (.int (zI (mpt σ)) :: st) σ xs) : RW γ M d k n Qr Qx c1 n1 pc L (.ref (ga γ 8 0) :: st) σ xs := r_get (j := 11) (N := 15) hd hq hf uin_X5 rfl (by decide) hv rfl rfl kk
theorem g_X5_refused {i idx : Nat} (hd : decode M.2.1 pc = .ok (.getfield idx, 3)) (hq : pc + 3 = q) (hf : Cond.fieldLink M.1.cls idx (TX5 12).1 (TX5 12).2.1 (TX5 12).2.2.1 ∈ uw) (hv : gv γ 8 0) (kk : RW γ M d k n Qr Qx c1 n1 q L (.int (zI (mrf σ)) :: st) σ xs) : RW γ M d k n Qr Qx c1 n1 pc L (.ref (ga γ 8 0) :: st) σ xs := r_get (j := 12) (N := 15) hd hq hf uin_X5 rfl (by decide) hv rfl rfl kk
theorem g_X5_place {i idx : Nat} (hd : decode M.2.1 pc = .ok (.getfield idx, 3)) (hq : pc + 3 = q) (hf : Cond.fieldLink M.1.cls idx (TX5 13).1 (TX5 13).2.1 (TX5 13).2.2.1 ∈ uw) (hv : gv γ 8 0) (kk : RW γ M d k n Qr Qx c1 n1 q L (.int (zI (mpl σ)) :: st) σ xs) : RW γ M d k n Qr Qx c1 n1 pc L (.ref (ga γ 8 0) :: st) σ xs := r_get (j := 13) (N := 15) hd hq hf uin_X5 rfl (by decide) hv rfl rfl kk
theorem g_X5_code {i idx : Nat} (hd : decode M.2.1 pc = .ok (.getfield idx, 3)) (hq : pc + 3 = q) (hf : Cond.fieldLink M.1.cls idx (TX5 14).1 (TX5 14).2.1 (TX5 14).2.2.1 ∈ uw) (hv : gv γ 8 0) (kk : RW γ M d k n Qr Qx c1 n1 q L (.int (zI (mcd σ)) :: st) σ xs) : RW γ M d k n Qr Qx c1 n1 pc L (.ref (ga γ 8 0) :: st) σ xs := r_get (j := 14) (N := 15) hd hq hf uin_X5 rfl (by decide) hv rfl rfl kk
theorem p_X3_count {i idx : Nat} {w : Int} (hd : decode M.2.1 pc = .ok (.putfield idx, 3)) (hq : pc + 3 = q) (hf : Cond.fieldLink M.1.cls idx (TX3 1).1 (TX3 1).2.1 (TX3 1).2.2.1 ∈ uw) (hv : gv γ 0 i) (kk : RW γ M d k n Qr Qx c1 n1 q L st (sCnt σ (u1 (cnt σ) i w)) xs) : RW γ M d k n Qr Qx c1 n1 pc L (.int (zI w) :: .ref (ga γ 0 i) :: st) σ xs := by
  refine r_put (j := 1) (N := 2) (ty0 := tyX3) (ty := .int) hd hq hf uin_X3 tyX3_ok nmX3 rfl (by decide) rfl (by decide +kernel) (vp_nar_int _) rfl hv rfl (Nat.le_of_ble_eq_true rfl) ?_ ?_ kk
  · simp [ct, cnt, sCnt, u1]; try rfl
  · exact fun k' i' _ h => by
        unfold ct
        split <;> first | rfl | skip
        have hne : i' ≠ i := fun z => h ⟨rfl, z⟩
        simp [bg, cnt, en, hld, pt, sg, sCnt, u1, hne]
theorem p_X0_portNumber {i idx : Nat} {w : Int} (hd : decode M.2.1 pc = .ok (.putfield idx, 3)) (hq : pc + 3 = q) (hf : Cond.fieldLink M.1.cls idx (TX0 3).1 (TX0 3).2.1 (TX0 3).2.2.1 ∈ uw) (hv : gv γ 2 i) (kk : RW γ M d k n Qr Qx c1 n1 q L st (sPt σ (u1 (pt σ) i w)) xs) : RW γ M d k n Qr Qx c1 n1 pc L (.int (zI w) :: .ref (ga γ 2 i) :: st) σ xs := by
  refine r_put (j := 3) (N := 5) (ty0 := tyX0) (ty := .int) hd hq hf uin_X0 tyX0_ok nmX0 rfl (by decide) rfl (by decide +kernel) (vp_nar_int _) rfl hv rfl (Nat.le_of_ble_eq_true rfl) ?_ ?_ kk
  · simp [ct, pt, sPt, u1]; try rfl
  · exact fun k' i' _ h => by
        unfold ct
        split <;> first | rfl | skip
        have hne : i' ≠ i := fun z => h ⟨rfl, z⟩
        simp [bg, cnt, en, hld, pt, sg, sPt, u1, hne]
theorem p_X0_isHeld {i idx : Nat} {w : Bool} (hd : decode M.2.1 pc = .ok (.putfield idx, 3)) (hq : pc + 3 = q) (hf : Cond.fieldLink M.1.cls idx (TX0 4).1 (TX0 4).2.1 (TX0 4).2.2.1 ∈ uw) (hv : gv γ 2 i) (kk : RW γ M d k n Qr Qx c1 n1 q L st (sHd σ (u1 (hld σ) i w)) xs) : RW γ M d k n Qr Qx c1 n1 pc L (.int (zI (bI w)) :: .ref (ga γ 2 i) :: st) σ xs := by
  refine r_put (j := 4) (N := 5) (ty0 := tyX0) (ty := .boolean) hd hq hf uin_X0 tyX0_ok nmX0 rfl (by decide) rfl (by decide +kernel) (by cases w <;> rfl) (by cases w <;> rfl) hv rfl (Nat.le_of_ble_eq_true rfl) ?_ ?_ kk
  · simp [ct, hld, sHd, u1]; try rfl
  · exact fun k' i' _ h => by
        unfold ct
        split <;> first | rfl | skip
        have hne : i' ≠ i := fun z => h ⟨rfl, z⟩
        simp [bg, cnt, en, hld, pt, sg, sHd, u1, hne]
theorem p_X1_refused {i idx : Nat} {w : Int} (hd : decode M.2.1 pc = .ok (.putfield idx, 3)) (hq : pc + 3 = q) (hf : Cond.fieldLink M.1.cls idx (TX1 2).1 (TX1 2).2.1 (TX1 2).2.2.1 ∈ uw) (hv : gv γ 5 0) (kk : RW γ M d k n Qr Qx c1 n1 q L st (sRf σ w) xs) : RW γ M d k n Qr Qx c1 n1 pc L (.int (zI w) :: .ref (ga γ 5 0) :: st) σ xs := by
  refine r_put (j := 2) (N := 3) (ty0 := tyX1) (ty := .int) hd hq hf uin_X1 tyX1_ok nmX1 rfl (by decide) rfl (by decide +kernel) (vp_nar_int _) rfl hv rfl (Nat.le_of_ble_eq_true rfl) ?_ ?_ kk
  · rfl
  · exact fun k' i' h9 h => by
        unfold ct
        split <;> first | rfl | skip
        exact absurd ⟨rfl, by simpa [vK] using h9⟩ h
theorem p_X4_refusalCount {i idx : Nat} {w : Int} (hd : decode M.2.1 pc = .ok (.putfield idx, 3)) (hq : pc + 3 = q) (hf : Cond.fieldLink M.1.cls idx (TX4 4).1 (TX4 4).2.1 (TX4 4).2.2.1 ∈ uw) (hv : gv γ 6 0) (kk : RW γ M d k n Qr Qx c1 n1 q L st (sRc σ w) xs) : RW γ M d k n Qr Qx c1 n1 pc L (.int (zI w) :: .ref (ga γ 6 0) :: st) σ xs := by
  refine r_put (j := 4) (N := 6) (ty0 := tyX4) (ty := .int) hd hq hf uin_X4 tyX4_ok nmX4 rfl (by decide) rfl (by decide +kernel) (vp_nar_int _) rfl hv rfl (Nat.le_of_ble_eq_true rfl) ?_ ?_ kk
  · rfl
  · exact fun k' i' h9 h => by
        unfold ct
        split <;> first | rfl | skip
        exact absurd ⟨rfl, by simpa [vK] using h9⟩ h
theorem p_X4_refusedPlace {i idx : Nat} {w : Int} (hd : decode M.2.1 pc = .ok (.putfield idx, 3)) (hq : pc + 3 = q) (hf : Cond.fieldLink M.1.cls idx (TX4 5).1 (TX4 5).2.1 (TX4 5).2.2.1 ∈ uw) (hv : gv γ 6 0) (kk : RW γ M d k n Qr Qx c1 n1 q L st (sRp σ w) xs) : RW γ M d k n Qr Qx c1 n1 pc L (.int (zI w) :: .ref (ga γ 6 0) :: st) σ xs := by
  refine r_put (j := 5) (N := 6) (ty0 := tyX4) (ty := .int) hd hq hf uin_X4 tyX4_ok nmX4 rfl (by decide) rfl (by decide +kernel) (vp_nar_int _) rfl hv rfl (Nat.le_of_ble_eq_true rfl) ?_ ?_ kk
  · rfl
  · exact fun k' i' h9 h => by
        unfold ct
        split <;> first | rfl | skip
        exact absurd ⟨rfl, by simpa [vK] using h9⟩ h
theorem p_X5_size {i idx : Nat} {w : Int} (hd : decode M.2.1 pc = .ok (.putfield idx, 3)) (hq : pc + 3 = q) (hf : Cond.fieldLink M.1.cls idx (TX5 1).1 (TX5 1).2.1 (TX5 1).2.2.1 ∈ uw) (hv : gv γ 8 0) (kk : RW γ M d k n Qr Qx c1 n1 q L st (sMsz σ w) xs) : RW γ M d k n Qr Qx c1 n1 pc L (.int (zI w) :: .ref (ga γ 8 0) :: st) σ xs := by
  refine r_put (j := 1) (N := 15) (ty0 := tyX5) (ty := .int) hd hq hf uin_X5 tyX5_ok nmX5 rfl (by decide) rfl (by decide +kernel) (vp_nar_int _) rfl hv rfl (Nat.le_of_ble_eq_true rfl) ?_ ?_ kk
  · rfl
  · exact fun k' i' h9 h => by
        unfold ct
        split <;> first | rfl | skip
        exact absurd ⟨rfl, by simpa [vK] using h9⟩ h
theorem p_X5_pieceMany {i idx : Nat} {w : Int} (hd : decode M.2.1 pc = .ok (.putfield idx, 3)) (hq : pc + 3 = q) (hf : Cond.fieldLink M.1.cls idx (TX5 3).1 (TX5 3).2.1 (TX5 3).2.2.1 ∈ uw) (hv : gv γ 8 0) (kk : RW γ M d k n Qr Qx c1 n1 q L st (sMpm σ w) xs) : RW γ M d k n Qr Qx c1 n1 pc L (.int (zI w) :: .ref (ga γ 8 0) :: st) σ xs := by
  refine r_put (j := 3) (N := 15) (ty0 := tyX5) (ty := .int) hd hq hf uin_X5 tyX5_ok nmX5 rfl (by decide) rfl (by decide +kernel) (vp_nar_int _) rfl hv rfl (Nat.le_of_ble_eq_true rfl) ?_ ?_ kk
  · rfl
  · exact fun k' i' h9 h => by
        unfold ct
        split <;> first | rfl | skip
        exact absurd ⟨rfl, by simpa [vK] using h9⟩ h
theorem p_X5_port {i idx : Nat} {w : Int} (hd : decode M.2.1 pc = .ok (.putfield idx, 3)) (hq : pc + 3 = q) (hf : Cond.fieldLink M.1.cls idx (TX5 11).1 (TX5 11).2.1 (TX5 11).2.2.1 ∈ uw) (hv : gv γ 8 0) (kk : RW γ M d k n Qr Qx c1 n1 q L st (sMpt σ w) xs) : RW γ M d k n Qr Qx c1 n1 pc L (.int (zI w) :: .ref (ga γ 8 0) :: st) σ xs := by
  refine r_put (j := 11) (N := 15) (ty0 := tyX5) (ty := .int) hd hq hf uin_X5 tyX5_ok nmX5 rfl (by decide) rfl (by decide +kernel) (vp_nar_int _) rfl hv rfl (Nat.le_of_ble_eq_true rfl) ?_ ?_ kk
  · rfl
  · exact fun k' i' h9 h => by
        unfold ct
        split <;> first | rfl | skip
        exact absurd ⟨rfl, by simpa [vK] using h9⟩ h
theorem p_X5_refused {i idx : Nat} {w : Int} (hd : decode M.2.1 pc = .ok (.putfield idx, 3)) (hq : pc + 3 = q) (hf : Cond.fieldLink M.1.cls idx (TX5 12).1 (TX5 12).2.1 (TX5 12).2.2.1 ∈ uw) (hv : gv γ 8 0) (kk : RW γ M d k n Qr Qx c1 n1 q L st (sMrf σ w) xs) : RW γ M d k n Qr Qx c1 n1 pc L (.int (zI w) :: .ref (ga γ 8 0) :: st) σ xs := by
  refine r_put (j := 12) (N := 15) (ty0 := tyX5) (ty := .int) hd hq hf uin_X5 tyX5_ok nmX5 rfl (by decide) rfl (by decide +kernel) (vp_nar_int _) rfl hv rfl (Nat.le_of_ble_eq_true rfl) ?_ ?_ kk
  · rfl
  · exact fun k' i' h9 h => by
        unfold ct
        split <;> first | rfl | skip
        exact absurd ⟨rfl, by simpa [vK] using h9⟩ h
theorem p_X5_place {i idx : Nat} {w : Int} (hd : decode M.2.1 pc = .ok (.putfield idx, 3)) (hq : pc + 3 = q) (hf : Cond.fieldLink M.1.cls idx (TX5 13).1 (TX5 13).2.1 (TX5 13).2.2.1 ∈ uw) (hv : gv γ 8 0) (kk : RW γ M d k n Qr Qx c1 n1 q L st (sMpl σ w) xs) : RW γ M d k n Qr Qx c1 n1 pc L (.int (zI w) :: .ref (ga γ 8 0) :: st) σ xs := by
  refine r_put (j := 13) (N := 15) (ty0 := tyX5) (ty := .int) hd hq hf uin_X5 tyX5_ok nmX5 rfl (by decide) rfl (by decide +kernel) (vp_nar_int _) rfl hv rfl (Nat.le_of_ble_eq_true rfl) ?_ ?_ kk
  · rfl
  · exact fun k' i' h9 h => by
        unfold ct
        split <;> first | rfl | skip
        exact absurd ⟨rfl, by simpa [vK] using h9⟩ h
theorem p_X5_code {i idx : Nat} {w : Int} (hd : decode M.2.1 pc = .ok (.putfield idx, 3)) (hq : pc + 3 = q) (hf : Cond.fieldLink M.1.cls idx (TX5 14).1 (TX5 14).2.1 (TX5 14).2.2.1 ∈ uw) (hv : gv γ 8 0) (kk : RW γ M d k n Qr Qx c1 n1 q L st (sMcd σ w) xs) : RW γ M d k n Qr Qx c1 n1 pc L (.int (zI w) :: .ref (ga γ 8 0) :: st) σ xs := by
  refine r_put (j := 14) (N := 15) (ty0 := tyX5) (ty := .int) hd hq hf uin_X5 tyX5_ok nmX5 rfl (by decide) rfl (by decide +kernel) (vp_nar_int _) rfl hv rfl (Nat.le_of_ble_eq_true rfl) ?_ ?_ kk
  · rfl
  · exact fun k' i' h9 h => by
        unfold ct
        split <;> first | rfl | skip
        exact absurd ⟨rfl, by simpa [vK] using h9⟩ h
theorem l_bg {i : Nat} {z : Int} (hd : decode M.2.1 pc = .ok (.iaload, 1)) (hq : pc + 1 = q) (hv : gv γ 3 i) (hz : 0 ≤ z ∧ z < 9) (kk : RW γ M d k n Qr Qx c1 n1 q L (.int (zI (bg σ i z.toNat)) :: st) σ xs) : RW γ M d k n Qr Qx c1 n1 pc L (.int (zI z) :: .ref (ga γ 3 i) :: st) σ xs := r_iald (kd := 3) (N := 9) (f := fun j => zI (bg σ i j)) rfl hd hq hv (by omega) kk
theorem s_bg {i : Nat} {z w : Int} (hd : decode M.2.1 pc = .ok (.iastore, 1)) (hq : pc + 1 = q) (hv : gv γ 3 i) (hz : 0 ≤ z ∧ z < 9) (kk : RW γ M d k n Qr Qx c1 n1 q L st (sBg σ (u2 (bg σ) i z.toNat w)) xs) : RW γ M d k n Qr Qx c1 n1 pc L (.int (zI w) :: .int (zI z) :: .ref (ga γ 3 i) :: st) σ xs := by
  refine r_iast (kd := 3) (N := 9) (f := fun j => zI (bg σ i j)) (g := fun j => zI (u1 (bg σ i) z.toNat w j)) rfl (by simp [ct, bg, sBg, u2, u1_s]; try rfl) (fun q => ?_) ?_ hd hq hv (by omega) kk
  · by_cases hq : q = z.toNat
    · simp [u1, hq]
    · simp [u1, hq]
  · exact fun k' i' _ h => by
        unfold ct
        split <;> first | rfl | skip
        have hne : i' ≠ i := fun z => h ⟨rfl, z⟩
        simp [bg, en, sBg, u2, u1, hne]
theorem l_en {i : Nat} {z : Int} (hd : decode M.2.1 pc = .ok (.iaload, 1)) (hq : pc + 1 = q) (hv : gv γ 4 i) (hz : 0 ≤ z ∧ z < 9) (kk : RW γ M d k n Qr Qx c1 n1 q L (.int (zI (en σ i z.toNat)) :: st) σ xs) : RW γ M d k n Qr Qx c1 n1 pc L (.int (zI z) :: .ref (ga γ 4 i) :: st) σ xs := r_iald (kd := 4) (N := 9) (f := fun j => zI (en σ i j)) rfl hd hq hv (by omega) kk
theorem s_en {i : Nat} {z w : Int} (hd : decode M.2.1 pc = .ok (.iastore, 1)) (hq : pc + 1 = q) (hv : gv γ 4 i) (hz : 0 ≤ z ∧ z < 9) (kk : RW γ M d k n Qr Qx c1 n1 q L st (sEn σ (u2 (en σ) i z.toNat w)) xs) : RW γ M d k n Qr Qx c1 n1 pc L (.int (zI w) :: .int (zI z) :: .ref (ga γ 4 i) :: st) σ xs := by
  refine r_iast (kd := 4) (N := 9) (f := fun j => zI (en σ i j)) (g := fun j => zI (u1 (en σ i) z.toNat w j)) rfl (by simp [ct, en, sEn, u2, u1_s]; try rfl) (fun q => ?_) ?_ hd hq hv (by omega) kk
  · by_cases hq : q = z.toNat
    · simp [u1, hq]
    · simp [u1, hq]
  · exact fun k' i' _ h => by
        unfold ct
        split <;> first | rfl | skip
        have hne : i' ≠ i := fun z => h ⟨rfl, z⟩
        simp [bg, en, sEn, u2, u1, hne]
theorem l_mtx {i : Nat} {z : Int} (hd : decode M.2.1 pc = .ok (.iaload, 1)) (hq : pc + 1 = q) (hv : gv γ 9 0) (hz : 0 ≤ z ∧ z < 60) (kk : RW γ M d k n Qr Qx c1 n1 q L (.int (zI (mtx σ z.toNat)) :: st) σ xs) : RW γ M d k n Qr Qx c1 n1 pc L (.int (zI z) :: .ref (ga γ 9 0) :: st) σ xs := r_iald (kd := 9) (N := 60) (f := fun j => zI (mtx σ j)) rfl hd hq hv (by omega) kk
theorem s_mtx {i : Nat} {z w : Int} (hd : decode M.2.1 pc = .ok (.iastore, 1)) (hq : pc + 1 = q) (hv : gv γ 9 0) (hz : 0 ≤ z ∧ z < 60) (kk : RW γ M d k n Qr Qx c1 n1 q L st (sMtx σ (u1 (mtx σ) z.toNat w)) xs) : RW γ M d k n Qr Qx c1 n1 pc L (.int (zI w) :: .int (zI z) :: .ref (ga γ 9 0) :: st) σ xs := by
  refine r_iast (kd := 9) (N := 60) (f := fun j => zI (mtx σ j)) (g := fun j => zI (u1 (mtx σ) z.toNat w j)) rfl rfl (fun q => ?_) ?_ hd hq hv (by omega) kk
  · by_cases hq : q = z.toNat
    · simp [u1, hq]
    · simp [u1, hq]
  · exact fun k' i' h9 h => by
        unfold ct
        split <;> first | rfl | skip
        exact absurd ⟨rfl, by simpa [vK] using h9⟩ h
theorem l_mpc {i : Nat} {z : Int} (hd : decode M.2.1 pc = .ok (.iaload, 1)) (hq : pc + 1 = q) (hv : gv γ 10 0) (hz : 0 ≤ z ∧ z < 60) (kk : RW γ M d k n Qr Qx c1 n1 q L (.int (zI (mpc σ z.toNat)) :: st) σ xs) : RW γ M d k n Qr Qx c1 n1 pc L (.int (zI z) :: .ref (ga γ 10 0) :: st) σ xs := r_iald (kd := 10) (N := 60) (f := fun j => zI (mpc σ j)) rfl hd hq hv (by omega) kk
theorem s_mpc {i : Nat} {z w : Int} (hd : decode M.2.1 pc = .ok (.iastore, 1)) (hq : pc + 1 = q) (hv : gv γ 10 0) (hz : 0 ≤ z ∧ z < 60) (kk : RW γ M d k n Qr Qx c1 n1 q L st (sMpc σ (u1 (mpc σ) z.toNat w)) xs) : RW γ M d k n Qr Qx c1 n1 pc L (.int (zI w) :: .int (zI z) :: .ref (ga γ 10 0) :: st) σ xs := by
  refine r_iast (kd := 10) (N := 60) (f := fun j => zI (mpc σ j)) (g := fun j => zI (u1 (mpc σ) z.toNat w j)) rfl rfl (fun q => ?_) ?_ hd hq hv (by omega) kk
  · by_cases hq : q = z.toNat
    · simp [u1, hq]
    · simp [u1, hq]
  · exact fun k' i' h9 h => by
        unfold ct
        split <;> first | rfl | skip
        exact absurd ⟨rfl, by simpa [vK] using h9⟩ h
theorem l_msg {i : Nat} {z : Int} (hd : decode M.2.1 pc = .ok (.iaload, 1)) (hq : pc + 1 = q) (hv : gv γ 11 0) (hz : 0 ≤ z ∧ z < 240) (kk : RW γ M d k n Qr Qx c1 n1 q L (.int (zI (msg σ z.toNat)) :: st) σ xs) : RW γ M d k n Qr Qx c1 n1 pc L (.int (zI z) :: .ref (ga γ 11 0) :: st) σ xs := r_iald (kd := 11) (N := 240) (f := fun j => zI (msg σ j)) rfl hd hq hv (by omega) kk
theorem s_msg {i : Nat} {z w : Int} (hd : decode M.2.1 pc = .ok (.iastore, 1)) (hq : pc + 1 = q) (hv : gv γ 11 0) (hz : 0 ≤ z ∧ z < 240) (kk : RW γ M d k n Qr Qx c1 n1 q L st (sMsg σ (u1 (msg σ) z.toNat w)) xs) : RW γ M d k n Qr Qx c1 n1 pc L (.int (zI w) :: .int (zI z) :: .ref (ga γ 11 0) :: st) σ xs := by
  refine r_iast (kd := 11) (N := 240) (f := fun j => zI (msg σ j)) (g := fun j => zI (u1 (msg σ) z.toNat w j)) rfl rfl (fun q => ?_) ?_ hd hq hv (by omega) kk
  · by_cases hq : q = z.toNat
    · simp [u1, hq]
    · simp [u1, hq]
  · exact fun k' i' h9 h => by
        unfold ct
        split <;> first | rfl | skip
        exact absurd ⟨rfl, by simpa [vK] using h9⟩ h
theorem l_mlo {i : Nat} {z : Int} (hd : decode M.2.1 pc = .ok (.iaload, 1)) (hq : pc + 1 = q) (hv : gv γ 12 0) (hz : 0 ≤ z ∧ z < 4) (kk : RW γ M d k n Qr Qx c1 n1 q L (.int (zI (mlo σ z.toNat)) :: st) σ xs) : RW γ M d k n Qr Qx c1 n1 pc L (.int (zI z) :: .ref (ga γ 12 0) :: st) σ xs := r_iald (kd := 12) (N := 4) (f := fun j => zI (mlo σ j)) rfl hd hq hv (by omega) kk
theorem s_mlo {i : Nat} {z w : Int} (hd : decode M.2.1 pc = .ok (.iastore, 1)) (hq : pc + 1 = q) (hv : gv γ 12 0) (hz : 0 ≤ z ∧ z < 4) (kk : RW γ M d k n Qr Qx c1 n1 q L st (sMlo σ (u1 (mlo σ) z.toNat w)) xs) : RW γ M d k n Qr Qx c1 n1 pc L (.int (zI w) :: .int (zI z) :: .ref (ga γ 12 0) :: st) σ xs := by
  refine r_iast (kd := 12) (N := 4) (f := fun j => zI (mlo σ j)) (g := fun j => zI (u1 (mlo σ) z.toNat w j)) rfl rfl (fun q => ?_) ?_ hd hq hv (by omega) kk
  · by_cases hq : q = z.toNat
    · simp [u1, hq]
    · simp [u1, hq]
  · exact fun k' i' h9 h => by
        unfold ct
        split <;> first | rfl | skip
        exact absurd ⟨rfl, by simpa [vK] using h9⟩ h
theorem l_mfr {i : Nat} {z : Int} (hd : decode M.2.1 pc = .ok (.iaload, 1)) (hq : pc + 1 = q) (hv : gv γ 13 0) (hz : 0 ≤ z ∧ z < 36) (kk : RW γ M d k n Qr Qx c1 n1 q L (.int (zI (mfr σ z.toNat)) :: st) σ xs) : RW γ M d k n Qr Qx c1 n1 pc L (.int (zI z) :: .ref (ga γ 13 0) :: st) σ xs := r_iald (kd := 13) (N := 36) (f := fun j => zI (mfr σ j)) rfl hd hq hv (by omega) kk
theorem s_mfr {i : Nat} {z w : Int} (hd : decode M.2.1 pc = .ok (.iastore, 1)) (hq : pc + 1 = q) (hv : gv γ 13 0) (hz : 0 ≤ z ∧ z < 36) (kk : RW γ M d k n Qr Qx c1 n1 q L st (sMfr σ (u1 (mfr σ) z.toNat w)) xs) : RW γ M d k n Qr Qx c1 n1 pc L (.int (zI w) :: .int (zI z) :: .ref (ga γ 13 0) :: st) σ xs := by
  refine r_iast (kd := 13) (N := 36) (f := fun j => zI (mfr σ j)) (g := fun j => zI (u1 (mfr σ) z.toNat w j)) rfl rfl (fun q => ?_) ?_ hd hq hv (by omega) kk
  · by_cases hq : q = z.toNat
    · simp [u1, hq]
    · simp [u1, hq]
  · exact fun k' i' h9 h => by
        unfold ct
        split <;> first | rfl | skip
        exact absurd ⟨rfl, by simpa [vK] using h9⟩ h
theorem l_mto {i : Nat} {z : Int} (hd : decode M.2.1 pc = .ok (.iaload, 1)) (hq : pc + 1 = q) (hv : gv γ 14 0) (hz : 0 ≤ z ∧ z < 36) (kk : RW γ M d k n Qr Qx c1 n1 q L (.int (zI (mto σ z.toNat)) :: st) σ xs) : RW γ M d k n Qr Qx c1 n1 pc L (.int (zI z) :: .ref (ga γ 14 0) :: st) σ xs := r_iald (kd := 14) (N := 36) (f := fun j => zI (mto σ j)) rfl hd hq hv (by omega) kk
theorem s_mto {i : Nat} {z w : Int} (hd : decode M.2.1 pc = .ok (.iastore, 1)) (hq : pc + 1 = q) (hv : gv γ 14 0) (hz : 0 ≤ z ∧ z < 36) (kk : RW γ M d k n Qr Qx c1 n1 q L st (sMto σ (u1 (mto σ) z.toNat w)) xs) : RW γ M d k n Qr Qx c1 n1 pc L (.int (zI w) :: .int (zI z) :: .ref (ga γ 14 0) :: st) σ xs := by
  refine r_iast (kd := 14) (N := 36) (f := fun j => zI (mto σ j)) (g := fun j => zI (u1 (mto σ) z.toNat w j)) rfl rfl (fun q => ?_) ?_ hd hq hv (by omega) kk
  · by_cases hq : q = z.toNat
    · simp [u1, hq]
    · simp [u1, hq]
  · exact fun k' i' h9 h => by
        unfold ct
        split <;> first | rfl | skip
        exact absurd ⟨rfl, by simpa [vK] using h9⟩ h
theorem l_mpo {i : Nat} {z : Int} (hd : decode M.2.1 pc = .ok (.iaload, 1)) (hq : pc + 1 = q) (hv : gv γ 15 0) (hz : 0 ≤ z ∧ z < 4) (kk : RW γ M d k n Qr Qx c1 n1 q L (.int (zI (mpo σ z.toNat)) :: st) σ xs) : RW γ M d k n Qr Qx c1 n1 pc L (.int (zI z) :: .ref (ga γ 15 0) :: st) σ xs := r_iald (kd := 15) (N := 4) (f := fun j => zI (mpo σ j)) rfl hd hq hv (by omega) kk
theorem s_mpo {i : Nat} {z w : Int} (hd : decode M.2.1 pc = .ok (.iastore, 1)) (hq : pc + 1 = q) (hv : gv γ 15 0) (hz : 0 ≤ z ∧ z < 4) (kk : RW γ M d k n Qr Qx c1 n1 q L st (sMpo σ (u1 (mpo σ) z.toNat w)) xs) : RW γ M d k n Qr Qx c1 n1 pc L (.int (zI w) :: .int (zI z) :: .ref (ga γ 15 0) :: st) σ xs := by
  refine r_iast (kd := 15) (N := 4) (f := fun j => zI (mpo σ j)) (g := fun j => zI (u1 (mpo σ) z.toNat w j)) rfl rfl (fun q => ?_) ?_ hd hq hv (by omega) kk
  · by_cases hq : q = z.toNat
    · simp [u1, hq]
    · simp [u1, hq]
  · exact fun k' i' h9 h => by
        unfold ct
        split <;> first | rfl | skip
        exact absurd ⟨rfl, by simpa [vK] using h9⟩ h
theorem l_mbe {i : Nat} {z : Int} (hd : decode M.2.1 pc = .ok (.iaload, 1)) (hq : pc + 1 = q) (hv : gv γ 16 0) (hz : 0 ≤ z ∧ z < 9) (kk : RW γ M d k n Qr Qx c1 n1 q L (.int (zI (mbe σ z.toNat)) :: st) σ xs) : RW γ M d k n Qr Qx c1 n1 pc L (.int (zI z) :: .ref (ga γ 16 0) :: st) σ xs := r_iald (kd := 16) (N := 9) (f := fun j => zI (mbe σ j)) rfl hd hq hv (by omega) kk
theorem s_mbe {i : Nat} {z w : Int} (hd : decode M.2.1 pc = .ok (.iastore, 1)) (hq : pc + 1 = q) (hv : gv γ 16 0) (hz : 0 ≤ z ∧ z < 9) (kk : RW γ M d k n Qr Qx c1 n1 q L st (sMbe σ (u1 (mbe σ) z.toNat w)) xs) : RW γ M d k n Qr Qx c1 n1 pc L (.int (zI w) :: .int (zI z) :: .ref (ga γ 16 0) :: st) σ xs := by
  refine r_iast (kd := 16) (N := 9) (f := fun j => zI (mbe σ j)) (g := fun j => zI (u1 (mbe σ) z.toNat w j)) rfl rfl (fun q => ?_) ?_ hd hq hv (by omega) kk
  · by_cases hq : q = z.toNat
    · simp [u1, hq]
    · simp [u1, hq]
  · exact fun k' i' h9 h => by
        unfold ct
        split <;> first | rfl | skip
        exact absurd ⟨rfl, by simpa [vK] using h9⟩ h
theorem l_men {i : Nat} {z : Int} (hd : decode M.2.1 pc = .ok (.iaload, 1)) (hq : pc + 1 = q) (hv : gv γ 17 0) (hz : 0 ≤ z ∧ z < 9) (kk : RW γ M d k n Qr Qx c1 n1 q L (.int (zI (men σ z.toNat)) :: st) σ xs) : RW γ M d k n Qr Qx c1 n1 pc L (.int (zI z) :: .ref (ga γ 17 0) :: st) σ xs := r_iald (kd := 17) (N := 9) (f := fun j => zI (men σ j)) rfl hd hq hv (by omega) kk
theorem s_men {i : Nat} {z w : Int} (hd : decode M.2.1 pc = .ok (.iastore, 1)) (hq : pc + 1 = q) (hv : gv γ 17 0) (hz : 0 ≤ z ∧ z < 9) (kk : RW γ M d k n Qr Qx c1 n1 q L st (sMen σ (u1 (men σ) z.toNat w)) xs) : RW γ M d k n Qr Qx c1 n1 pc L (.int (zI w) :: .int (zI z) :: .ref (ga γ 17 0) :: st) σ xs := by
  refine r_iast (kd := 17) (N := 9) (f := fun j => zI (men σ j)) (g := fun j => zI (u1 (men σ) z.toNat w j)) rfl rfl (fun q => ?_) ?_ hd hq hv (by omega) kk
  · by_cases hq : q = z.toNat
    · simp [u1, hq]
    · simp [u1, hq]
  · exact fun k' i' h9 h => by
        unfold ct
        split <;> first | rfl | skip
        exact absurd ⟨rfl, by simpa [vK] using h9⟩ h
end HEAP
end
section
/-! ROWS: returns, calls, throws, constants -/
section CALLS
variable {γ : Gm} {M : Md} {d k n : Nat} {Qr : Option Value → St → va_W → Prop} {Qx : String → St → va_W → Prop} {c1 n1 pc q : Nat} {L : List (Option Value)} {st : List Value} {σ : St} {xs : va_W}
theorem r_reti {v : Int32} (hd : decode M.2.1 pc = .ok (.ireturn, 1)) (hr : M.2.2.2 = some .int) (hk : c1 ≤ k) (hn : n1 ≤ n) (hQ : Qr (some (.int v)) σ xs) : RW γ M d k n Qr Qx c1 n1 pc L [.int v] σ xs := by
  intro p e s m args below meth c H locs ls C hS hC hG hl
  exact W.widen hk hn (vx_ret (W.iret C.1 C.2.1 (C.2.2.1.trans hr) (fun t ht hW => ⟨_, σ, xs, rfl, hQ, by rw [ht]; exact hC, hG, hS.F ht⟩) hS.2.2 hd C.2.2.2.2.2.2.1))
theorem r_retz {v : Int32} {ty : FieldType} (hd : decode M.2.1 pc = .ok (.ireturn, 1)) (hr : M.2.2.2 = some ty) (hty : narrow ty (.int v) = .int v) (hk : c1 ≤ k) (hn : n1 ≤ n) (hQ : Qr (some (.int v)) σ xs) : RW γ M d k n Qr Qx c1 n1 pc L [.int v] σ xs := by
  intro p e s m args below meth c H locs ls C hS hC hG hl
  exact W.widen hk hn (vx_ret (W.zret C.1 C.2.1 (C.2.2.1.trans hr) hty (fun t ht hW => ⟨_, σ, xs, rfl, hQ, by rw [ht]; exact hC, hG, hS.F ht⟩) hS.2.2 hd C.2.2.2.2.2.2.1))
theorem r_retl {v : Int64} (hd : decode M.2.1 pc = .ok (.lreturn, 1)) (hr : M.2.2.2 = some .long) (hk : c1 ≤ k) (hn : n1 ≤ n) (hQ : Qr (some (.long v)) σ xs) : RW γ M d k n Qr Qx c1 n1 pc L [.long v] σ xs := by
  intro p e s m args below meth c H locs ls C hS hC hG hl
  exact W.widen hk hn (vx_ret (W.lret C.1 C.2.1 (C.2.2.1.trans hr) (fun t ht hW => ⟨_, σ, xs, rfl, hQ, by rw [ht]; exact hC, hG, hS.F ht⟩) hS.2.2 hd C.2.2.2.2.2.2.1))
theorem r_reta {a : Nat} {N : String} (hd : decode M.2.1 pc = .ok (.areturn, 1)) (hr : M.2.2.2 = some (.object N)) (hk : c1 ≤ k) (hn : n1 ≤ n) (hQ : Qr (some (.ref a)) σ xs) : RW γ M d k n Qr Qx c1 n1 pc L [.ref a] σ xs := by
  intro p e s m args below meth c H locs ls C hS hC hG hl
  exact W.widen hk hn (vx_ret (W.aret C.1 C.2.1 (C.2.2.1.trans hr) (Or.inl ⟨N, rfl⟩) (Or.inr ⟨a, rfl⟩) (fun t ht hW => ⟨_, σ, xs, rfl, hQ, by rw [ht]; exact hC, hG, hS.F ht⟩) hS.2.2 hd C.2.2.2.2.2.2.1))
theorem r_retv (hd : decode M.2.1 pc = .ok (.return_, 1)) (hr : M.2.2.2 = none) (hk : c1 ≤ k) (hn : n1 ≤ n) (hQ : Qr none σ xs) : RW γ M d k n Qr Qx c1 n1 pc L [] σ xs := by
  intro p e s m args below meth c H locs ls C hS hC hG hl
  exact W.widen hk hn (vx_ret (W.vret C.1 C.2.1 (C.2.2.1.trans hr) (fun t ht hW => ⟨_, σ, xs, rfl, hQ, by rw [ht]; exact hC, hG, hS.F ht⟩) hS.2.2 hd C.2.2.2.2.2.2.1))
/-- a text of the constant table -/
theorem r_ldcS {idx i : Nat} {tx : String} (hd : decode M.2.1 pc = .ok (.ldc idx, 2)) (hq : pc + 2 = q) (hm : (M.1.cls, idx, i, tx) ∈ stab) (kk : RW γ M d k n Qr Qx c1 n1 q L (.ref (gK γ i) :: st) σ xs) : RW γ M d k n Qr Qx c1 n1 pc L st σ xs := by
  subst hq
  intro p e s m args below meth c H locs ls C hS hC hG hl
  exact va_ldcS C.1 C.2.1 C.2.2.2.2.1 (C.2.2.2.2.2.2.2.2.1.2.1 _ hm) hd (kk p e s m args below meth c H locs ls C hS hC hG hl)
theorem r_ldcI {idx : Nat} {z : Int} (hd : decode M.2.1 pc = .ok (.ldc idx, 2)) (hq : pc + 2 = q) (hm : Cond.constant M.1.cls idx (zI z) ∈ uw) (kk : RW γ M d k n Qr Qx c1 n1 q L (.int (zI z) :: st) σ xs) : RW γ M d k n Qr Qx c1 n1 pc L st σ xs := by
  subst hq
  intro p e s m args below meth c H locs ls C hS hC hG hl
  exact lv_ldc C.1 C.2.1 C.2.2.2.2.1 (C.2.2.2.2.2.1 _ hm) hd (kk p e s m args below meth c H locs ls C hS hC hG hl)
theorem r_ldc2 {idx : Nat} {z : Int} (hd : decode M.2.1 pc = .ok (.ldc2_w idx, 3)) (hq : pc + 3 = q) (hm : Cond.constantLong M.1.cls idx (zL z) ∈ uw) (kk : RW γ M d k n Qr Qx c1 n1 q L (.long (zL z) :: st) σ xs) : RW γ M d k n Qr Qx c1 n1 pc L st σ xs := by
  subst hq
  intro p e s m args below meth c H locs ls C hS hC hG hl
  exact lv_ldc2 C.1 C.2.1 C.2.2.2.2.1 (C.2.2.2.2.2.1 _ hm) hd (kk p e s m args below meth c H locs ls C hS hC hG hl)

/-- a method that is called on an object of class My.1.cls -/
def Vok (My : Md) (a : Nat) : Prop := Cond.instanceMethod My.1 ∈ uw ∧ Cond.selects My.1.cls My.1 My.1 ∈ uw ∧ Cond.initialized My.1.cls ∈ uw ∧ uC My ∈ uw ∧ My.1.cls ≠ "java/lang/invoke/MethodHandle" ∧ My.1.cls ≠ "java/lang/invoke/VarHandle" ∧ (parseMethodDescriptor My.1.desc).map (fun d => d.parameters.length) = some a
def Sok (My : Md) (a : Nat) : Prop := Cond.static My.1 ∈ uw ∧ Cond.initialized My.1.cls ∈ uw ∧ uC My ∈ uw ∧ My.1.cls ≠ "java/lang/invoke/MethodHandle" ∧ My.1.cls ≠ "java/lang/invoke/VarHandle" ∧ (parseMethodDescriptor My.1.desc).map (fun d => d.parameters.length) = some a
theorem Vok.of {My : Md} {a : Nat} (h : (∀ w ∈ [Cond.instanceMethod My.1, .selects My.1.cls My.1 My.1, .initialized My.1.cls, uC My], w ∈ lw_tbl ∧ goodWord w = true) ∧ My.1.cls ≠ "java/lang/invoke/MethodHandle" ∧ My.1.cls ≠ "java/lang/invoke/VarHandle" ∧ (parseMethodDescriptor My.1.desc).map (fun d => d.parameters.length) = some a) : Vok My a :=
  ⟨uw_i (h.1 _ (by simp)), uw_i (h.1 _ (by simp)), uw_i (h.1 _ (by simp)), uw_i (h.1 _ (by simp)), h.2⟩
theorem Sok.of {My : Md} {a : Nat} (h : (∀ w ∈ [Cond.static My.1, .initialized My.1.cls, uC My], w ∈ lw_tbl ∧ goodWord w = true) ∧ My.1.cls ≠ "java/lang/invoke/MethodHandle" ∧ My.1.cls ≠ "java/lang/invoke/VarHandle" ∧ (parseMethodDescriptor My.1.desc).map (fun d => d.parameters.length) = some a) : Sok My a :=
  ⟨uw_i (h.1 _ (by simp)), uw_i (h.1 _ (by simp)), uw_i (h.1 _ (by simp)), h.2⟩
theorem uM_uw {My : Md} (h : uC My ∈ uw) : ∀ w ∈ uM My, w ∈ uw := fun w hw => (List.mem_cons.mp hw).elim (fun e => by rw [e]; exact h) id
/-- what the callee needs, of the caller's state -/
theorem Pr_of {γ : Gm} {M : Md} {p : Program} {s : State} {m : MethodId} {args : Array Value} {meth : Method} {c : Code} {H : Heap} {locs : List Loc} {σ : St} {xs : va_W} {av : List Value} (C : Cx γ M p s m args meth c) (hS : va_S (fr γ) s.heap H locs) (hC : Cl γ σ xs H) (hG : Gok γ xs) {U : State} (hU : U.heap = H) (hW : s.WarmedH U.vm) : va_Pc av (Pr γ σ xs) av.toArray U := by
  refine ⟨rfl, by rw [hU]; exact Nat.le_trans C.2.2.2.2.2.2.2.2.2.1 hS.1, C.2.2.2.2.2.2.2.2.1.move hW (fun q h1 h2 => by rw [hU]; exact hS.2.1 q h1 h2), va_K.moved hW.alike C.2.2.2.2.2.2.2.1, by rw [hU]; exact hC, hG⟩
/-- behind a call: the answer, or the throw goes on to the caller's caller -/
theorem RW.back {My : Md} {dy ky ny : Nat} {a9 : Array Value} {st0 : List Value} {Qr2 : Option Value → St → va_W → Prop} {Qx2 : String → St → va_W → Prop}
    (hk : c1 + ky ≤ k) (hn : n1 + ny ≤ n)
    (kr : ∀ (v : Option Value) (σ' : St) (xs' : va_W), Qr2 v σ' xs' → RW γ M d k n Qr Qx (c1 + ky) (n1 + ny) (pc + 3) L (v.toList ++ st) σ' xs')
    (kx : ∀ (E : String) (σ' : St) (xs' : va_W), Qx2 E σ' xs' → Qx E σ' xs')
    (hr : ∀ (p : Program) (e : Env) (s : State) (m : MethodId) (args : Array Value) (below : List Frame) (meth : Method) (c : Code) (H : Heap) (locs : List Loc) (ls : Array Slot), Cx γ M p s m args meth c → va_S (fr γ) s.heap H locs → Cl γ σ xs H → Gok γ xs → Lc ls M.2.2.1 L →
      vx_Run p (gl γ) e (rmL d k n) s m args below meth c H locs c1 n1 ky ny (F0 m pc ls st0) st (QcOf γ Qr2 a9) (XcOf γ Qx2) (fr γ)) :
    RW γ M d k n Qr Qx c1 n1 pc L st0 σ xs := by
  intro p e s m args below meth c H locs ls C hS hC hG hl T hT X
  rcases hr p e s m args below meth c H locs ls C hS hC hG hl T hT X with ⟨v, st₀, t, T', L9, h0, X', hL, e1, e2, ⟨v', σ', xs', hv, hq, hc', hg', hF⟩, stp⟩ | ⟨q9, st₀, t, T', L9, E, ce, h0, X', hL, e1, e2, ⟨σ', xs', hq, hc', hg', hF⟩, hce, hcv, hcl, stp⟩
  · cases hv
    obtain ⟨k1, k2, k3⟩ := vx_keep h0 e1 hS (fun q _ h => h) (fun q h => h) hL hF
    obtain ⟨t2, a1, b1⟩ := kr v σ' xs' hq p e s m args below meth c T'.heap (locs ++ L9) ls C k3 (by rw [e1]; exact hc') hg' hl T' rfl X'
    exact ⟨t2, stp t2 a1, b1⟩
  · obtain ⟨k1, k2, k3⟩ := vx_keep h0 e1 hS (fun q _ h => h) (fun q h => h) hL hF
    have hout := vx_out (p := p) (l := gl γ) (e := e) (R := rmL d k n) (s := s) (m := m) (args := args) (below := below) (meth := meth) (c := c) (H := T'.heap) (locs := locs ++ L9) (cells := c1 + ky) (slots := n1 + ny) (ls := ls) (rest := st) (Qc := QcOf γ Qr) (XC := XcOf γ Qx) (free := fr γ) (pc := pc) (E := E) (ce := ce) (q := q9) (mc := k) (ms := n)
      (fun x hx => absurd (C.2.2.2.2.2.2.2.2.2.2.2 x hx) id) C.2.2.2.2.2.2.1 (by rw [e1]; exact hce) hcv hcl
      (fun t9 ht9 _ => ⟨σ', xs', kx E σ' xs' hq, by rw [ht9, e1]; exact hc', hg', k3.F ht9⟩) k3.2.2 hk hn
    obtain ⟨t2, a1, b1⟩ := hout T' rfl X'
    exact ⟨t2, stp.trans a1, b1⟩

theorem r_callv {My : Md} {dy ky ny idx kd i ci a : Nat} {fs : List Value} {r : vw_C} {As : List Value} {Qr2 : Option Value → St → va_W → Prop} {Qx2 : String → St → va_W → Prop} (hd : decode M.2.1 pc = .ok (.invokevirtual idx, 3)) (hq : pc + 3 = q) (hlink : Cond.methodLink M.1.cls idx My.1 ∈ uw) (hV : Vok My a) (hv : gv γ kd i) (hct : ct γ σ kd i = .inr (ci, fs)) (hc : vwCl[ci]? = some r) (hr1 : r.1 = My.1.cls)
    (hE : Ev γ My dy ky ny (.ref (ga γ kd i) :: As) σ xs Qr2 Qx2) (hlen : As.length = a) (hR : dy + 1 ≤ d ∧ 8 + (My.2.2.1 + 11) + 30 * dy ≤ 30 * d) (hk : c1 + ky ≤ k ∧ n1 + ny ≤ n) (hroom : (st.map fun v => v.category).sum ≤ 8) (kx : ∀ (E : String) (σ' : St) (xs' : va_W), Qx2 E σ' xs' → Qx E σ' xs')
    (kk : ∀ (v : Option Value) (σ' : St) (xs' : va_W), Qr2 v σ' xs' → RW γ M d k n Qr Qx (c1 + ky) (n1 + ny) q L (v.toList ++ st) σ' xs') : RW γ M d k n Qr Qx c1 n1 pc L (As.reverse ++ .ref (ga γ kd i) :: st) σ xs := by
  subst hq
  refine RW.back (My := My) (dy := dy) (ky := ky) (ny := ny) (a9 := (Value.ref (ga γ kd i) :: As).toArray) (st := st) hk.1 hk.2 kk kx ?_
  intro p e s m args below meth c H locs ls C hS hC hG hl
  obtain ⟨v1, v2, v3, v4, v5, v6, v7⟩ := hV
  have hT : GoodIn uw (wsV M.1.cls idx My.1.cls My.1 (uM My)) := uw_sub (fun w hw => by
    rcases List.mem_append.mp hw with h | h
    · simp only [List.mem_cons, List.not_mem_nil, or_false] at h
      rcases h with rfl | rfl | rfl | rfl
      · exact hlink
      · exact v1
      · exact v2
      · exact v3
    · exact uM_uw v4 w h)
  have hat := hC.1 kd i hv
  rw [hct] at hat
  obtain ⟨r9, h1, cell, q1, q2, q3, -⟩ := hat
  cases Option.some.inj (hc.symm.trans h1)
  have hK := C.2.2.2.2.2.2.2.1.1 ci r hc
  refine vx_runV (Ts := uw) (own := M.1.cls) (C := My.1.cls) (nL := M.2.2.1) (cc := M.2.1) (bytes := My.2.1) (maxL := My.2.2.1) (ret := My.2.2.2) (n := a) ⟨C.1, C.2.1, C.2.2.2.1, C.2.2.2.2.1, C.2.2.2.2.2.1⟩ hE (cwV a C.2.2.2.2.2.1 hT rfl rfl rfl ⟨rfl, v5, v6, v7⟩ hR) ⟨FrameBlind_Pr γ _ σ xs, ⟨cell, q1, by rw [q3]; rfl, by rw [q2, ← hr1]; exact hK.2.1⟩, fun U hU hW => Pr_of C hS hC hG hU hW⟩ rfl hlen hl.1 rfl (lv_room hroom) hd hk
theorem r_calls {My : Md} {dy ky ny idx a : Nat} {As : List Value} {Qr2 : Option Value → St → va_W → Prop} {Qx2 : String → St → va_W → Prop} (hd : decode M.2.1 pc = .ok (.invokestatic idx, 3)) (hq : pc + 3 = q) (hlink : Cond.methodLink M.1.cls idx My.1 ∈ uw) (hV : Sok My a)
    (hE : Ev γ My dy ky ny As σ xs Qr2 Qx2) (hlen : As.length = a) (hR : dy + 1 ≤ d ∧ 8 + (My.2.2.1 + 11) + 30 * dy ≤ 30 * d) (hk : c1 + ky ≤ k ∧ n1 + ny ≤ n) (hroom : (st.map fun v => v.category).sum ≤ 8) (kx : ∀ (E : String) (σ' : St) (xs' : va_W), Qx2 E σ' xs' → Qx E σ' xs')
    (kk : ∀ (v : Option Value) (σ' : St) (xs' : va_W), Qr2 v σ' xs' → RW γ M d k n Qr Qx (c1 + ky) (n1 + ny) q L (v.toList ++ st) σ' xs') : RW γ M d k n Qr Qx c1 n1 pc L (As.reverse ++ st) σ xs := by
  subst hq
  refine RW.back (My := My) (dy := dy) (ky := ky) (ny := ny) (a9 := As.toArray) (st := st) hk.1 hk.2 kk kx ?_
  intro p e s m args below meth c H locs ls C hS hC hG hl
  obtain ⟨v1, v3, v4, v5, v6, v7⟩ := hV
  have hT : GoodIn uw (va_wsS M.1.cls idx My.1 (uM My)) := uw_sub (fun w hw => by
    rcases List.mem_append.mp hw with h | h
    · simp only [List.mem_cons, List.not_mem_nil, or_false] at h
      rcases h with rfl | rfl | rfl
      · exact hlink
      · exact v1
      · exact v3
    · exact uM_uw v4 w h)
  refine vx_runS (Ts := uw) (own := M.1.cls) (nL := M.2.2.1) (cc := M.2.1) (bytes := My.2.1) (maxL := My.2.2.1) (ret := My.2.2.2) (n := a) ⟨C.1, C.2.1, C.2.2.2.1, C.2.2.2.2.1, C.2.2.2.2.2.1⟩ hE (va_cwS a C.2.2.2.2.2.1 hT rfl rfl rfl ⟨v5, v6, v7⟩ hR) ⟨FrameBlind_Pr γ _ σ xs, fun U hU hW => Pr_of C hS hC hG hU hW⟩ rfl hlen hl.1 rfl (lv_room hroom) hd hk
/-- a call of a text's method -/
theorem r_callt {My : Md} {dy ky ny idx i a : Nat} {As : List Value} {Qr2 : Option Value → St → va_W → Prop} {Qx2 : String → St → va_W → Prop} (hd : decode M.2.1 pc = .ok (.invokevirtual idx, 3)) (hq : pc + 3 = q) (hlink : Cond.methodLink M.1.cls idx My.1 ∈ uw) (hV : Vok My a) (hi : i < nS) (hr1 : My.1.cls = "java/lang/String")
    (hE : Ev γ My dy ky ny (.ref (gK γ i) :: As) σ xs Qr2 Qx2) (hlen : As.length = a) (hR : dy + 1 ≤ d ∧ 8 + (My.2.2.1 + 11) + 30 * dy ≤ 30 * d) (hk : c1 + ky ≤ k ∧ n1 + ny ≤ n) (hroom : (st.map fun v => v.category).sum ≤ 8) (kx : ∀ (E : String) (σ' : St) (xs' : va_W), Qx2 E σ' xs' → Qx E σ' xs')
    (kk : ∀ (v : Option Value) (σ' : St) (xs' : va_W), Qr2 v σ' xs' → RW γ M d k n Qr Qx (c1 + ky) (n1 + ny) q L (v.toList ++ st) σ' xs') : RW γ M d k n Qr Qx c1 n1 pc L (As.reverse ++ .ref (gK γ i) :: st) σ xs := by
  subst hq
  refine RW.back (My := My) (dy := dy) (ky := ky) (ny := ny) (a9 := (Value.ref (gK γ i) :: As).toArray) (st := st) hk.1 hk.2 kk kx ?_
  intro p e s m args below meth c H locs ls C hS hC hG hl
  obtain ⟨v1, v2, v3, v4, v5, v6, v7⟩ := hV
  have hT : GoodIn uw (wsV M.1.cls idx My.1.cls My.1 (uM My)) := uw_sub (fun w hw => by
    rcases List.mem_append.mp hw with h | h
    · simp only [List.mem_cons, List.not_mem_nil, or_false] at h
      rcases h with rfl | rfl | rfl | rfl
      · exact hlink
      · exact v1
      · exact v2
      · exact v3
    · exact uM_uw v4 w h)
  obtain ⟨cell, h1, h2, h3, -⟩ := (C.2.2.2.2.2.2.2.2.1.1 i hi).1.kept hS.2.1
  refine vx_runV (Ts := uw) (own := M.1.cls) (C := My.1.cls) (nL := M.2.2.1) (cc := M.2.1) (bytes := My.2.1) (maxL := My.2.2.1) (ret := My.2.2.2) (n := a) ⟨C.1, C.2.1, C.2.2.2.1, C.2.2.2.2.1, C.2.2.2.2.2.1⟩ hE (cwV a C.2.2.2.2.2.1 hT rfl rfl rfl ⟨rfl, v5, v6, v7⟩ hR) ⟨FrameBlind_Pr γ _ σ xs, ⟨cell, h1, h2, by rw [hr1]; exact h3⟩, fun U hU hW => Pr_of C hS hC hG hU hW⟩ rfl hlen hl.1 rfl (lv_room hroom) hd hk
/-- throw new X("..") -/
theorem r_throw {ik is ic i : Nat} {X tx : String} (d0 : decode M.2.1 pc = .ok (.new ik, 3)) (d3 : decode M.2.1 (pc + 3) = .ok (.dup, 1)) (d4 : decode M.2.1 (pc + 4) = .ok (.ldc is, 2)) (d6 : decode M.2.1 (pc + 6) = .ok (.invokespecial ic, 3)) (d9 : decode M.2.1 (pc + 9) = .ok (.athrow, 1))
    (hX : X ∈ exc5) (hm : (M.1.cls, is, i, tx) ∈ stab) (hw : (Cond.classLink M.1.cls ik X ∈ uw ∧ Cond.initialized X ∈ uw) ∧ (∀ w ∈ vx_atS M.1.cls ic X ["java/lang/RuntimeException", "java/lang/Exception"], w ∈ uw ∨ w = .castable X X) ∧ (∀ w ∈ Cond.classLink M.1.cls ik X :: Cond.initialized X :: vx_atS M.1.cls ic X ["java/lang/RuntimeException", "java/lang/Exception"], vx_ot w = true) ∧ Bundle.fit X = true)
    (hd6 : 6 ≤ d) (hk : c1 + 1 ≤ k) (hn : n1 + 6 ≤ n) (hroom : (st.map fun v => v.category).sum ≤ 8) (hQ : Qx X σ xs) : RW γ M d k n Qr Qx c1 n1 pc L st σ xs := by
  intro p e s m args below meth c H locs ls C hS hC hG hl
  obtain ⟨⟨w1, w2⟩, w3, w4, w5⟩ := hw
  have hB := C.2.2.2.2.2.2.2.2.1
  refine vx_throwS (names := ["java/lang/RuntimeException", "java/lang/Exception"]) C.1 C.2.1 hG.1 C.2.2.2.2.1 w5 (by decide +kernel) (C.2.2.2.2.2.1 _ w1) (C.2.2.2.2.2.1 _ w2) (hB.2.1 _ hm) (fun w hw => ?_) w4 hB.2.2.2.1.1 hB.2.2.2.1.2 hS (hl.1.trans C.2.2.2.1.symm) d0 d3 d4 d6 d9 (fun x hx => absurd (C.2.2.2.2.2.2.2.2.2.2.2 x hx) id) ?_ ?_ ?_ ?_ C.2.2.2.2.2.2.1 ?_ hS.2.2 hk hn
  · rcases w3 w hw with h | rfl
    · exact C.2.2.2.2.2.1 _ h
    · exact va_Nw.use rfl (hB.2.2.2.2.1 X hX)
  · show 2 + 3 < d
    omega
  · show _ + (13 * (2 + 1) + 43) ≤ 30 * d
    omega
  · exact hk
  · exact hn
  · intro t hvm hz hk9
    exact ⟨σ, xs, hQ, hC.kept hk9, hG, Nat.le_trans hS.1 hz, fun q h1 h2 => (hk9 q (Nat.lt_of_lt_of_le h1 hS.1)).trans (hS.2.1 q h1 h2)⟩
-- the JDK's texts: coder, value, the byte row
theorem r_strC {i idx : Nat} (hd : decode M.2.1 pc = .ok (.getfield idx, 3)) (hq : pc + 3 = q) (hi : i < nS) (hf : Cond.fieldLink M.1.cls idx "java/lang/String" "coder" "B" ∈ uw) (kk : RW γ M d k n Qr Qx c1 n1 q L (.int 0 :: st) σ xs) : RW γ M d k n Qr Qx c1 n1 pc L (.ref (gK γ i) :: st) σ xs := by
  subst hq
  intro p e s m args below meth c H locs ls C hS hC hG hl
  exact vk_getf C.1 C.2.1 (C.2.2.2.2.2.2.2.2.1.1 i hi).2.1 hS C.2.2.2.2.1 (C.2.2.2.2.2.1 _ hf) (fun x h => h) hd (kk p e s m args below meth c H locs ls C hS hC hG hl)
theorem r_strV {i idx : Nat} (hd : decode M.2.1 pc = .ok (.getfield idx, 3)) (hq : pc + 3 = q) (hi : i < nS) (hf : Cond.fieldLink M.1.cls idx "java/lang/String" "value" "[B" ∈ uw) (kk : RW γ M d k n Qr Qx c1 n1 q L (.ref (gV γ i) :: st) σ xs) : RW γ M d k n Qr Qx c1 n1 pc L (.ref (gK γ i) :: st) σ xs := by
  subst hq
  intro p e s m args below meth c H locs ls C hS hC hG hl
  exact vk_getf C.1 C.2.1 (C.2.2.2.2.2.2.2.2.1.1 i hi).2.2.1 hS C.2.2.2.2.1 (C.2.2.2.2.2.1 _ hf) (fun x h => h) hd (kk p e s m args below meth c H locs ls C hS hC hG hl)
theorem r_strS {idx : Nat} (hd : decode M.2.1 pc = .ok (.getstatic idx, 3)) (hq : pc + 3 = q) (hf : Cond.fieldLink M.1.cls idx "java/lang/String" "COMPACT_STRINGS" "Z" ∈ uw) (kk : RW γ M d k n Qr Qx c1 n1 q L (.int 1 :: st) σ xs) : RW γ M d k n Qr Qx c1 n1 pc L st σ xs := by
  subst hq
  intro p e s m args below meth c H locs ls C hS hC hG hl
  exact va_gets C.1 C.2.1 C.2.2.2.2.2.2.2.2.1.2.2.1 hS C.2.2.2.2.1 (C.2.2.2.2.2.1 _ hf) (fun x h => h) hd (kk p e s m args below meth c H locs ls C hS hC hG hl)
theorem r_strB {i : Nat} {z : Int} (hd : decode M.2.1 pc = .ok (.baload, 1)) (hq : pc + 1 = q) (hi : i < nS) (hz : 0 ≤ z ∧ z < ((tS i).length : Int) ∧ z ≤ 2147483647) (kk : RW γ M d k n Qr Qx c1 n1 q L (.int (zI ((tS i).getD z.toNat 0)) :: st) σ xs) : RW γ M d k n Qr Qx c1 n1 pc L (.int (zI z) :: .ref (gV γ i) :: st) σ xs := by
  subst hq
  intro p e s m args below meth c H locs ls C hS hC hG hl
  refine va_tb C.1 C.2.1 (C.2.2.2.2.2.2.2.2.1.1 i hi).2.2.2 hS (zI_in hz.1 hz.2.1 hz.2.2) (v := .int (zI ((tS i).getD z.toNat 0))) (by rw [zI_clamp ⟨hz.1, hz.2.2⟩]) hd (kk p e s m args below meth c H locs ls C hS hC hG hl)
theorem r_strL {i : Nat} (hd : decode M.2.1 pc = .ok (.arraylength, 1)) (hq : pc + 1 = q) (hi : i < nS) (kk : RW γ M d k n Qr Qx c1 n1 q L (.int (zI (tS i).length) :: st) σ xs) : RW γ M d k n Qr Qx c1 n1 pc L (.ref (gV γ i) :: st) σ xs := by
  subst hq
  intro p e s m args below meth c H locs ls C hS hC hG hl
  exact va_tlen C.1 C.2.1 (C.2.2.2.2.2.2.2.2.1.1 i hi).2.2.2 hS (zI_ofNat _) hd (kk p e s m args below meth c H locs ls C hS hC hG hl)
end CALLS
end
section
/-! BASE: methods, their links -/
abbrev mJ0_charAt_5068e : Md := (yJ0_charAt_5068e, cJ0_charAt_5068e, 2, (some .char))
theorem pn_J0_charAt_5068e : plainName mJ0_charAt_5068e.1.cls = true := by decide +kernel
abbrev mJ0_checkIndex_df160 : Md := (yJ0_checkIndex_df160, cJ0_checkIndex_df160, 2, none)
theorem pn_J0_checkIndex_df160 : plainName mJ0_checkIndex_df160.1.cls = true := by decide +kernel
abbrev mJ0_coder_7d493 : Md := (yJ0_coder_7d493, cJ0_coder_7d493, 1, (some .byte))
theorem pn_J0_coder_7d493 : plainName mJ0_coder_7d493.1.cls = true := by decide +kernel
abbrev mJ0_indexOf_0f7a4 : Md := (yJ0_indexOf_0f7a4, cJ0_indexOf_0f7a4, 2, (some .int))
theorem pn_J0_indexOf_0f7a4 : plainName mJ0_indexOf_0f7a4.1.cls = true := by decide +kernel
abbrev mJ0_indexOf_7cf53 : Md := (yJ0_indexOf_7cf53, cJ0_indexOf_7cf53, 3, (some .int))
theorem pn_J0_indexOf_7cf53 : plainName mJ0_indexOf_7cf53.1.cls = true := by decide +kernel
abbrev mJ0_isLatin1_aae02 : Md := (yJ0_isLatin1_aae02, cJ0_isLatin1_aae02, 1, (some .boolean))
theorem pn_J0_isLatin1_aae02 : plainName mJ0_isLatin1_aae02.1.cls = true := by decide +kernel
abbrev mJ0_length_8abf5 : Md := (yJ0_length_8abf5, cJ0_length_8abf5, 1, (some .int))
theorem pn_J0_length_8abf5 : plainName mJ0_length_8abf5.1.cls = true := by decide +kernel
abbrev mJ1_canEncode_9a6ad : Md := (yJ1_canEncode_9a6ad, cJ1_canEncode_9a6ad, 1, (some .boolean))
theorem pn_J1_canEncode_9a6ad : plainName mJ1_canEncode_9a6ad.1.cls = true := by decide +kernel
abbrev mJ1_charAt_3b067 : Md := (yJ1_charAt_3b067, cJ1_charAt_3b067, 2, (some .char))
theorem pn_J1_charAt_3b067 : plainName mJ1_charAt_3b067.1.cls = true := by decide +kernel
abbrev mJ1_indexOfChar_4cfef : Md := (yJ1_indexOfChar_4cfef, cJ1_indexOfChar_4cfef, 6, (some .int))
theorem pn_J1_indexOfChar_4cfef : plainName mJ1_indexOfChar_4cfef.1.cls = true := by decide +kernel
abbrev mJ1_indexOf_4cfef : Md := (yJ1_indexOf_4cfef, cJ1_indexOf_4cfef, 4, (some .int))
theorem pn_J1_indexOf_4cfef : plainName mJ1_indexOf_4cfef.1.cls = true := by decide +kernel
abbrev mJ3_checkIndex_8e157 : Md := (yJ3_checkIndex_8e157, cJ3_checkIndex_8e157, 3, (some .int))
theorem pn_J3_checkIndex_8e157 : plainName mJ3_checkIndex_8e157.1.cls = true := by decide +kernel
abbrev mL_alike : Md := (yL_alike, cL_alike, 5, (some .int))
theorem pn_L_alike : plainName mL_alike.1.cls = true := by decide +kernel
abbrev mL_append : Md := (yL_append, cL_append, 5, (some .int))
theorem pn_L_append : plainName mL_append.1.cls = true := by decide +kernel
abbrev mL_begin : Md := (yL_begin, cL_begin, 5, (some .int))
theorem pn_L_begin : plainName mL_begin.1.cls = true := by decide +kernel
abbrev mL_copy : Md := (yL_copy, cL_copy, 5, (some .int))
theorem pn_L_copy : plainName mL_copy.1.cls = true := by decide +kernel
abbrev mL_drop : Md := (yL_drop, cL_drop, 3, (some .int))
theorem pn_L_drop : plainName mL_drop.1.cls = true := by decide +kernel
abbrev mL_escape : Md := (yL_escape, cL_escape, 5, (some .int))
theorem pn_L_escape : plainName mL_escape.1.cls = true := by decide +kernel
abbrev mL_isAbsolute : Md := (yL_isAbsolute, cL_isAbsolute, 4, (some .int))
theorem pn_L_isAbsolute : plainName mL_isAbsolute.1.cls = true := by decide +kernel
abbrev mL_isOpaque : Md := (yL_isOpaque, cL_isOpaque, 4, (some .int))
theorem pn_L_isOpaque : plainName mL_isOpaque.1.cls = true := by decide +kernel
abbrev mL_isThere : Md := (yL_isThere, cL_isThere, 4, (some .int))
theorem pn_L_isThere : plainName mL_isThere.1.cls = true := by decide +kernel
abbrev mL_isTold : Md := (yL_isTold, cL_isTold, 3, (some .int))
theorem pn_L_isTold : plainName mL_isTold.1.cls = true := by decide +kernel
abbrev mL_mix : Md := (yL_mix, cL_mix, 6, (some .int))
theorem pn_L_mix : plainName mL_mix.1.cls = true := by decide +kernel
abbrev mL_parse : Md := (yL_parse, cL_parse, 4, (some .int))
theorem pn_L_parse : plainName mL_parse.1.cls = true := by decide +kernel
abbrev mL_partSign : Md := (yL_partSign, cL_partSign, 6, (some .int))
theorem pn_L_partSign : plainName mL_partSign.1.cls = true := by decide +kernel
abbrev mL_port : Md := (yL_port, cL_port, 4, (some .int))
theorem pn_L_port : plainName mL_port.1.cls = true := by decide +kernel
abbrev mL_refusedAt : Md := (yL_refusedAt, cL_refusedAt, 3, (some .int))
theorem pn_L_refusedAt : plainName mL_refusedAt.1.cls = true := by decide +kernel
abbrev mL_signAt : Md := (yL_signAt, cL_signAt, 4, (some .int))
theorem pn_L_signAt : plainName mL_signAt.1.cls = true := by decide +kernel
abbrev mL_size : Md := (yL_size, cL_size, 5, (some .int))
theorem pn_L_size : plainName mL_size.1.cls = true := by decide +kernel
abbrev mL_together : Md := (yL_together, cL_together, 4, (some .int))
theorem pn_L_together : plainName mL_together.1.cls = true := by decide +kernel
abbrev mL_type : Md := (yL_type, cL_type, 4, (some .int))
theorem pn_L_type : plainName mL_type.1.cls = true := by decide +kernel
abbrev mL_word : Md := (yL_word, cL_word, 4, (some .int))
theorem pn_L_word : plainName mL_word.1.cls = true := by decide +kernel
abbrev mX0_beginOf : Md := (yX0_beginOf, cX0_beginOf, 2, (some .int))
theorem pn_X0_beginOf : plainName mX0_beginOf.1.cls = true := by decide +kernel
abbrev mX0_endOf : Md := (yX0_endOf, cX0_endOf, 2, (some .int))
theorem pn_X0_endOf : plainName mX0_endOf.1.cls = true := by decide +kernel
abbrev mX0_forget : Md := (yX0_forget, cX0_forget, 2, none)
theorem pn_X0_forget : plainName mX0_forget.1.cls = true := by decide +kernel
abbrev mX0_has : Md := (yX0_has, cX0_has, 2, (some .boolean))
theorem pn_X0_has : plainName mX0_has.1.cls = true := by decide +kernel
abbrev mX0_init : Md := (yX0_init, cX0_init, 1, none)
theorem pn_X0_init : plainName mX0_init.1.cls = true := by decide +kernel
abbrev mX0_isHeld : Md := (yX0_isHeld, cX0_isHeld, 1, (some .boolean))
theorem pn_X0_isHeld : plainName mX0_isHeld.1.cls = true := by decide +kernel
abbrev mX0_isPartAlike : Md := (yX0_isPartAlike, cX0_isPartAlike, 3, (some .boolean))
theorem pn_X0_isPartAlike : plainName mX0_isPartAlike.1.cls = true := by decide +kernel
abbrev mX0_isSkippingSlashes : Md := (yX0_isSkippingSlashes, cX0_isSkippingSlashes, 1, (some .boolean))
theorem pn_X0_isSkippingSlashes : plainName mX0_isSkippingSlashes.1.cls = true := by decide +kernel
abbrev mX0_isWhole : Md := (yX0_isWhole, cX0_isWhole, 2, (some .boolean))
theorem pn_X0_isWhole : plainName mX0_isWhole.1.cls = true := by decide +kernel
abbrev mX0_isWholeWithoutSlashes : Md := (yX0_isWholeWithoutSlashes, cX0_isWholeWithoutSlashes, 3, (some .boolean))
theorem pn_X0_isWholeWithoutSlashes : plainName mX0_isWholeWithoutSlashes.1.cls = true := by decide +kernel
abbrev mX0_mark : Md := (yX0_mark, cX0_mark, 4, none)
theorem pn_X0_mark : plainName mX0_mark.1.cls = true := by decide +kernel
abbrev mX0_partsAlike : Md := (yX0_partsAlike, cX0_partsAlike, 4, (some .int))
theorem pn_X0_partsAlike : plainName mX0_partsAlike.1.cls = true := by decide +kernel
abbrev mX0_portNumber : Md := (yX0_portNumber, cX0_portNumber, 1, (some .int))
theorem pn_X0_portNumber : plainName mX0_portNumber.1.cls = true := by decide +kernel
abbrev mX0_putPart : Md := (yX0_putPart, cX0_putPart, 3, none)
theorem pn_X0_putPart : plainName mX0_putPart.1.cls = true := by decide +kernel
abbrev mX0_setHeld : Md := (yX0_setHeld, cX0_setHeld, 2, none)
theorem pn_X0_setHeld : plainName mX0_setHeld.1.cls = true := by decide +kernel
abbrev mX0_setPort : Md := (yX0_setPort, cX0_setPort, 2, none)
theorem pn_X0_setPort : plainName mX0_setPort.1.cls = true := by decide +kernel
abbrev mX0_signOf : Md := (yX0_signOf, cX0_signOf, 3, (some .char))
theorem pn_X0_signOf : plainName mX0_signOf.1.cls = true := by decide +kernel
abbrev mX0_sizeOf : Md := (yX0_sizeOf, cX0_sizeOf, 2, (some .int))
theorem pn_X0_sizeOf : plainName mX0_sizeOf.1.cls = true := by decide +kernel
abbrev mX0_sumBehind : Md := (yX0_sumBehind, cX0_sumBehind, 6, (some .long))
theorem pn_X0_sumBehind : plainName mX0_sumBehind.1.cls = true := by decide +kernel
abbrev mX0_takeOver : Md := (yX0_takeOver, cX0_takeOver, 3, none)
theorem pn_X0_takeOver : plainName mX0_takeOver.1.cls = true := by decide +kernel
abbrev mX0_whole : Md := (yX0_whole, cX0_whole, 1, (some (.object "Linkloom$Text")))
theorem pn_X0_whole : plainName mX0_whole.1.cls = true := by decide +kernel
abbrev mX1_address : Md := (yX1_address, cX1_address, 1, (some (.object "Linkloom$Address")))
theorem pn_X1_address : plainName mX1_address.1.cls = true := by decide +kernel
abbrev mX1_cut : Md := (yX1_cut, cX1_cut, 5, (some .int))
theorem pn_X1_cut : plainName mX1_cut.1.cls = true := by decide +kernel
abbrev mX1_cutAuthority : Md := (yX1_cutAuthority, cX1_cutAuthority, 4, (some .int))
theorem pn_X1_cutAuthority : plainName mX1_cutAuthority.1.cls = true := by decide +kernel
abbrev mX1_cutFragment : Md := (yX1_cutFragment, cX1_cutFragment, 3, none)
theorem pn_X1_cutFragment : plainName mX1_cutFragment.1.cls = true := by decide +kernel
abbrev mX1_cutOpaque : Md := (yX1_cutOpaque, cX1_cutOpaque, 3, (some .int))
theorem pn_X1_cutOpaque : plainName mX1_cutOpaque.1.cls = true := by decide +kernel
abbrev mX1_cutPart : Md := (yX1_cutPart, cX1_cutPart, 6, (some .int))
theorem pn_X1_cutPart : plainName mX1_cutPart.1.cls = true := by decide +kernel
abbrev mX1_cutPathAndQuery : Md := (yX1_cutPathAndQuery, cX1_cutPathAndQuery, 4, (some .int))
theorem pn_X1_cutPathAndQuery : plainName mX1_cutPathAndQuery.1.cls = true := by decide +kernel
abbrev mX1_cutScheme : Md := (yX1_cutScheme, cX1_cutScheme, 3, none)
theorem pn_X1_cutScheme : plainName mX1_cutScheme.1.cls = true := by decide +kernel
abbrev mX1_cutServer : Md := (yX1_cutServer, cX1_cutServer, 7, none)
theorem pn_X1_cutServer : plainName mX1_cutServer.1.cls = true := by decide +kernel
abbrev mX1_init : Md := (yX1_init, cX1_init, 1, none)
theorem pn_X1_init : plainName mX1_init.1.cls = true := by decide +kernel
abbrev mX1_refuse : Md := (yX1_refuse, cX1_refuse, 2, none)
theorem pn_X1_refuse : plainName mX1_refuse.1.cls = true := by decide +kernel
abbrev mX2_isAuthorityBad : Md := (yX2_isAuthorityBad, cX2_isAuthorityBad, 4, (some .boolean))
theorem pn_X2_isAuthorityBad : plainName mX2_isAuthorityBad.1.cls = true := by decide +kernel
abbrev mX2_isDigit : Md := (yX2_isDigit, cX2_isDigit, 1, (some .boolean))
theorem pn_X2_isDigit : plainName mX2_isDigit.1.cls = true := by decide +kernel
abbrev mX2_isFourNumbers : Md := (yX2_isFourNumbers, cX2_isFourNumbers, 6, (some .boolean))
theorem pn_X2_isFourNumbers : plainName mX2_isFourNumbers.1.cls = true := by decide +kernel
abbrev mX2_isLabel : Md := (yX2_isLabel, cX2_isLabel, 5, (some .boolean))
theorem pn_X2_isLabel : plainName mX2_isLabel.1.cls = true := by decide +kernel
abbrev mX2_isLetter : Md := (yX2_isLetter, cX2_isLetter, 1, (some .boolean))
theorem pn_X2_isLetter : plainName mX2_isLetter.1.cls = true := by decide +kernel
abbrev mX2_isName : Md := (yX2_isName, cX2_isName, 7, (some .boolean))
theorem pn_X2_isName : plainName mX2_isName.1.cls = true := by decide +kernel
abbrev mX2_isPort : Md := (yX2_isPort, cX2_isPort, 3, (some .boolean))
theorem pn_X2_isPort : plainName mX2_isPort.1.cls = true := by decide +kernel
abbrev mX2_isSlashed : Md := (yX2_isSlashed, cX2_isSlashed, 2, (some .boolean))
theorem pn_X2_isSlashed : plainName mX2_isSlashed.1.cls = true := by decide +kernel
abbrev mX2_numberIn : Md := (yX2_numberIn, cX2_numberIn, 8, (some .int))
theorem pn_X2_numberIn : plainName mX2_numberIn.1.cls = true := by decide +kernel
abbrev mX2_schemeColon : Md := (yX2_schemeColon, cX2_schemeColon, 2, (some .int))
theorem pn_X2_schemeColon : plainName mX2_schemeColon.1.cls = true := by decide +kernel
abbrev mX2_wrongInScheme : Md := (yX2_wrongInScheme, cX2_wrongInScheme, 4, (some .int))
theorem pn_X2_wrongInScheme : plainName mX2_wrongInScheme.1.cls = true := by decide +kernel
abbrev mX3_at : Md := (yX3_at, cX3_at, 2, (some .char))
theorem pn_X3_at : plainName mX3_at.1.cls = true := by decide +kernel
abbrev mX3_count : Md := (yX3_count, cX3_count, 1, (some .int))
theorem pn_X3_count : plainName mX3_count.1.cls = true := by decide +kernel
abbrev mX3_init : Md := (yX3_init, cX3_init, 1, none)
theorem pn_X3_init : plainName mX3_init.1.cls = true := by decide +kernel
abbrev mX3_isRange : Md := (yX3_isRange, cX3_isRange, 6, (some .boolean))
theorem pn_X3_isRange : plainName mX3_isRange.1.cls = true := by decide +kernel
abbrev mX3_next : Md := (yX3_next, cX3_next, 5, (some .int))
theorem pn_X3_next : plainName mX3_next.1.cls = true := by decide +kernel
abbrev mX3_put : Md := (yX3_put, cX3_put, 2, none)
theorem pn_X3_put : plainName mX3_put.1.cls = true := by decide +kernel
abbrev mX3_putAll : Md := (yX3_putAll, cX3_putAll, 3, none)
theorem pn_X3_putAll : plainName mX3_putAll.1.cls = true := by decide +kernel
abbrev mX3_putRange : Md := (yX3_putRange, cX3_putRange, 5, none)
theorem pn_X3_putRange : plainName mX3_putRange.1.cls = true := by decide +kernel
abbrev mX3_shorten : Md := (yX3_shorten, cX3_shorten, 2, none)
theorem pn_X3_shorten : plainName mX3_shorten.1.cls = true := by decide +kernel
abbrev mX3_takeOver : Md := (yX3_takeOver, cX3_takeOver, 3, none)
theorem pn_X3_takeOver : plainName mX3_takeOver.1.cls = true := by decide +kernel
abbrev mX4_addressAt : Md := (yX4_addressAt, cX4_addressAt, 3, (some (.object "Linkloom$Address")))
theorem pn_X4_addressAt : plainName mX4_addressAt.1.cls = true := by decide +kernel
abbrev mX4_alike : Md := (yX4_alike, cX4_alike, 5, (some .int))
theorem pn_X4_alike : plainName mX4_alike.1.cls = true := by decide +kernel
abbrev mX4_append : Md := (yX4_append, cX4_append, 5, (some .int))
theorem pn_X4_append : plainName mX4_append.1.cls = true := by decide +kernel
abbrev mX4_begin : Md := (yX4_begin, cX4_begin, 5, (some .int))
theorem pn_X4_begin : plainName mX4_begin.1.cls = true := by decide +kernel
abbrev mX4_checkHeld : Md := (yX4_checkHeld, cX4_checkHeld, 1, none)
theorem pn_X4_checkHeld : plainName mX4_checkHeld.1.cls = true := by decide +kernel
abbrev mX4_checkRefused : Md := (yX4_checkRefused, cX4_checkRefused, 1, none)
theorem pn_X4_checkRefused : plainName mX4_checkRefused.1.cls = true := by decide +kernel
abbrev mX4_checkRoom : Md := (yX4_checkRoom, cX4_checkRoom, 2, none)
theorem pn_X4_checkRoom : plainName mX4_checkRoom.1.cls = true := by decide +kernel
abbrev mX4_checksum : Md := (yX4_checksum, cX4_checksum, 7, (some .long))
theorem pn_X4_checksum : plainName mX4_checksum.1.cls = true := by decide +kernel
abbrev mX4_copy : Md := (yX4_copy, cX4_copy, 9, (some .int))
theorem pn_X4_copy : plainName mX4_copy.1.cls = true := by decide +kernel
abbrev mX4_drop : Md := (yX4_drop, cX4_drop, 3, (some .int))
theorem pn_X4_drop : plainName mX4_drop.1.cls = true := by decide +kernel
abbrev mX4_escape : Md := (yX4_escape, cX4_escape, 4, (some .int))
theorem pn_X4_escape : plainName mX4_escape.1.cls = true := by decide +kernel
abbrev mX4_init : Md := (yX4_init, cX4_init, 2, none)
theorem pn_X4_init : plainName mX4_init.1.cls = true := by decide +kernel
abbrev mX4_isAbsolute : Md := (yX4_isAbsolute, cX4_isAbsolute, 2, (some .boolean))
theorem pn_X4_isAbsolute : plainName mX4_isAbsolute.1.cls = true := by decide +kernel
abbrev mX4_isOpaque : Md := (yX4_isOpaque, cX4_isOpaque, 2, (some .boolean))
theorem pn_X4_isOpaque : plainName mX4_isOpaque.1.cls = true := by decide +kernel
abbrev mX4_isSameAnew : Md := (yX4_isSameAnew, cX4_isSameAnew, 2, (some .boolean))
theorem pn_X4_isSameAnew : plainName mX4_isSameAnew.1.cls = true := by decide +kernel
abbrev mX4_isThere : Md := (yX4_isThere, cX4_isThere, 2, (some .boolean))
theorem pn_X4_isThere : plainName mX4_isThere.1.cls = true := by decide +kernel
abbrev mX4_isThreeParts : Md := (yX4_isThreeParts, cX4_isThreeParts, 2, (some .boolean))
theorem pn_X4_isThreeParts : plainName mX4_isThreeParts.1.cls = true := by decide +kernel
abbrev mX4_isTold : Md := (yX4_isTold, cX4_isTold, 1, (some .boolean))
theorem pn_X4_isTold : plainName mX4_isTold.1.cls = true := by decide +kernel
abbrev mX4_isTrue : Md := (yX4_isTrue, cX4_isTrue, 5, (some .boolean))
theorem pn_X4_isTrue : plainName mX4_isTrue.1.cls = true := by decide +kernel
abbrev mX4_isWovenAgain : Md := (yX4_isWovenAgain, cX4_isWovenAgain, 2, (some .boolean))
theorem pn_X4_isWovenAgain : plainName mX4_isWovenAgain.1.cls = true := by decide +kernel
abbrev mX4_length : Md := (yX4_length, cX4_length, 1, (some .int))
theorem pn_X4_length : plainName mX4_length.1.cls = true := by decide +kernel
abbrev mX4_mix : Md := (yX4_mix, cX4_mix, 6, (some .int))
theorem pn_X4_mix : plainName mX4_mix.1.cls = true := by decide +kernel
abbrev mX4_parse : Md := (yX4_parse, cX4_parse, 4, (some .int))
theorem pn_X4_parse : plainName mX4_parse.1.cls = true := by decide +kernel
abbrev mX4_partOf : Md := (yX4_partOf, cX4_partOf, 2, (some .int))
theorem pn_X4_partOf : plainName mX4_partOf.1.cls = true := by decide +kernel
abbrev mX4_partSign : Md := (yX4_partSign, cX4_partSign, 6, (some .char))
theorem pn_X4_partSign : plainName mX4_partSign.1.cls = true := by decide +kernel
abbrev mX4_port : Md := (yX4_port, cX4_port, 2, (some .int))
theorem pn_X4_port : plainName mX4_port.1.cls = true := by decide +kernel
abbrev mX4_refusals : Md := (yX4_refusals, cX4_refusals, 1, (some .int))
theorem pn_X4_refusals : plainName mX4_refusals.1.cls = true := by decide +kernel
abbrev mX4_refusedAt : Md := (yX4_refusedAt, cX4_refusedAt, 1, (some .int))
theorem pn_X4_refusedAt : plainName mX4_refusedAt.1.cls = true := by decide +kernel
abbrev mX4_signAt : Md := (yX4_signAt, cX4_signAt, 2, (some .char))
theorem pn_X4_signAt : plainName mX4_signAt.1.cls = true := by decide +kernel
abbrev mX4_size : Md := (yX4_size, cX4_size, 5, (some .int))
theorem pn_X4_size : plainName mX4_size.1.cls = true := by decide +kernel
abbrev mX4_slotAt : Md := (yX4_slotAt, cX4_slotAt, 2, (some (.object "Linkloom$Address")))
theorem pn_X4_slotAt : plainName mX4_slotAt.1.cls = true := by decide +kernel
abbrev mX4_together : Md := (yX4_together, cX4_together, 3, (some .boolean))
theorem pn_X4_together : plainName mX4_together.1.cls = true := by decide +kernel
abbrev mX4_type : Md := (yX4_type, cX4_type, 2, (some .int))
theorem pn_X4_type : plainName mX4_type.1.cls = true := by decide +kernel
abbrev mX4_weave : Md := (yX4_weave, cX4_weave, 4, none)
theorem pn_X4_weave : plainName mX4_weave.1.cls = true := by decide +kernel
abbrev mX4_weavePart : Md := (yX4_weavePart, cX4_weavePart, 5, none)
theorem pn_X4_weavePart : plainName mX4_weavePart.1.cls = true := by decide +kernel
abbrev mX4_wipe : Md := (yX4_wipe, cX4_wipe, 2, (some .int))
theorem pn_X4_wipe : plainName mX4_wipe.1.cls = true := by decide +kernel
abbrev mX4_word : Md := (yX4_word, cX4_word, 3, (some .int))
theorem pn_X4_word : plainName mX4_word.1.cls = true := by decide +kernel
abbrev mX4_wordAt : Md := (yX4_wordAt, cX4_wordAt, 1, (some (.object "java/lang/String")))
theorem pn_X4_wordAt : plainName mX4_wordAt.1.cls = true := by decide +kernel
abbrev mX5_add : Md := (yX5_add, cX5_add, 4, none)
theorem pn_X5_add : plainName mX5_add.1.cls = true := by decide +kernel
abbrev mX5_alike : Md := (yX5_alike, cX5_alike, 5, (some .int))
theorem pn_X5_alike : plainName mX5_alike.1.cls = true := by decide +kernel
abbrev mX5_all : Md := (yX5_all, cX5_all, 8, none)
theorem pn_X5_all : plainName mX5_all.1.cls = true := by decide +kernel
abbrev mX5_append : Md := (yX5_append, cX5_append, 4, (some .int))
theorem pn_X5_append : plainName mX5_append.1.cls = true := by decide +kernel
abbrev mX5_authority : Md := (yX5_authority, cX5_authority, 9, none)
theorem pn_X5_authority : plainName mX5_authority.1.cls = true := by decide +kernel
abbrev mX5_bad : Md := (yX5_bad, cX5_bad, 4, (some .int))
theorem pn_X5_bad : plainName mX5_bad.1.cls = true := by decide +kernel
abbrev mX5_begin : Md := (yX5_begin, cX5_begin, 3, (some .int))
theorem pn_X5_begin : plainName mX5_begin.1.cls = true := by decide +kernel
abbrev mX5_canType : Md := (yX5_canType, cX5_canType, 1, (some .boolean))
theorem pn_X5_canType : plainName mX5_canType.1.cls = true := by decide +kernel
abbrev mX5_checksum : Md := (yX5_checksum, cX5_checksum, 5, (some .long))
theorem pn_X5_checksum : plainName mX5_checksum.1.cls = true := by decide +kernel
abbrev mX5_copy : Md := (yX5_copy, cX5_copy, 5, (some .int))
theorem pn_X5_copy : plainName mX5_copy.1.cls = true := by decide +kernel
abbrev mX5_cut : Md := (yX5_cut, cX5_cut, 4, none)
theorem pn_X5_cut : plainName mX5_cut.1.cls = true := by decide +kernel
abbrev mX5_digit : Md := (yX5_digit, cX5_digit, 2, (some .int))
theorem pn_X5_digit : plainName mX5_digit.1.cls = true := by decide +kernel
abbrev mX5_drop : Md := (yX5_drop, cX5_drop, 1, (some .int))
theorem pn_X5_drop : plainName mX5_drop.1.cls = true := by decide +kernel
abbrev mX5_escape : Md := (yX5_escape, cX5_escape, 3, (some .int))
theorem pn_X5_escape : plainName mX5_escape.1.cls = true := by decide +kernel
abbrev mX5_fails : Md := (yX5_fails, cX5_fails, 2, (some .boolean))
theorem pn_X5_fails : plainName mX5_fails.1.cls = true := by decide +kernel
abbrev mX5_has : Md := (yX5_has, cX5_has, 3, (some .boolean))
theorem pn_X5_has : plainName mX5_has.1.cls = true := by decide +kernel
abbrev mX5_in : Md := (yX5_in, cX5_in, 3, (some .boolean))
theorem pn_X5_in : plainName mX5_in.1.cls = true := by decide +kernel
abbrev mX5_init : Md := (yX5_init, cX5_init, 1, none)
theorem pn_X5_init : plainName mX5_init.1.cls = true := by decide +kernel
abbrev mX5_isAbsolute : Md := (yX5_isAbsolute, cX5_isAbsolute, 2, (some .boolean))
theorem pn_X5_isAbsolute : plainName mX5_isAbsolute.1.cls = true := by decide +kernel
abbrev mX5_isAlike : Md := (yX5_isAlike, cX5_isAlike, 5, (some .boolean))
theorem pn_X5_isAlike : plainName mX5_isAlike.1.cls = true := by decide +kernel
abbrev mX5_isAt : Md := (yX5_isAt, cX5_isAt, 3, (some .boolean))
theorem pn_X5_isAt : plainName mX5_isAt.1.cls = true := by decide +kernel
abbrev mX5_isBad : Md := (yX5_isBad, cX5_isBad, 1, (some .boolean))
theorem pn_X5_isBad : plainName mX5_isBad.1.cls = true := by decide +kernel
abbrev mX5_isDigit : Md := (yX5_isDigit, cX5_isDigit, 1, (some .boolean))
theorem pn_X5_isDigit : plainName mX5_isDigit.1.cls = true := by decide +kernel
abbrev mX5_isLabels : Md := (yX5_isLabels, cX5_isLabels, 7, (some .boolean))
theorem pn_X5_isLabels : plainName mX5_isLabels.1.cls = true := by decide +kernel
abbrev mX5_isLetter : Md := (yX5_isLetter, cX5_isLetter, 1, (some .boolean))
theorem pn_X5_isLetter : plainName mX5_isLetter.1.cls = true := by decide +kernel
abbrev mX5_isNumbers : Md := (yX5_isNumbers, cX5_isNumbers, 6, (some .boolean))
theorem pn_X5_isNumbers : plainName mX5_isNumbers.1.cls = true := by decide +kernel
abbrev mX5_isOpaque : Md := (yX5_isOpaque, cX5_isOpaque, 2, (some .boolean))
theorem pn_X5_isOpaque : plainName mX5_isOpaque.1.cls = true := by decide +kernel
abbrev mX5_isSlot : Md := (yX5_isSlot, cX5_isSlot, 1, (some .boolean))
theorem pn_X5_isSlot : plainName mX5_isSlot.1.cls = true := by decide +kernel
abbrev mX5_isThere : Md := (yX5_isThere, cX5_isThere, 2, (some .boolean))
theorem pn_X5_isThere : plainName mX5_isThere.1.cls = true := by decide +kernel
abbrev mX5_isTold : Md := (yX5_isTold, cX5_isTold, 1, (some .boolean))
theorem pn_X5_isTold : plainName mX5_isTold.1.cls = true := by decide +kernel
abbrev mX5_isTrue : Md := (yX5_isTrue, cX5_isTrue, 1, (some .boolean))
theorem pn_X5_isTrue : plainName mX5_isTrue.1.cls = true := by decide +kernel
abbrev mX5_length : Md := (yX5_length, cX5_length, 1, (some .int))
theorem pn_X5_length : plainName mX5_length.1.cls = true := by decide +kernel
abbrev mX5_many : Md := (yX5_many, cX5_many, 3, (some .int))
theorem pn_X5_many : plainName mX5_many.1.cls = true := by decide +kernel
abbrev mX5_mix : Md := (yX5_mix, cX5_mix, 9, (some .int))
theorem pn_X5_mix : plainName mX5_mix.1.cls = true := by decide +kernel
abbrev mX5_next : Md := (yX5_next, cX5_next, 4, (some .int))
theorem pn_X5_next : plainName mX5_next.1.cls = true := by decide +kernel
abbrev mX5_noPart : Md := (yX5_noPart, cX5_noPart, 3, (some .int))
theorem pn_X5_noPart : plainName mX5_noPart.1.cls = true := by decide +kernel
abbrev mX5_noSlot : Md := (yX5_noSlot, cX5_noSlot, 2, (some .int))
theorem pn_X5_noSlot : plainName mX5_noSlot.1.cls = true := by decide +kernel
abbrev mX5_parse : Md := (yX5_parse, cX5_parse, 5, (some .int))
theorem pn_X5_parse : plainName mX5_parse.1.cls = true := by decide +kernel
abbrev mX5_partOf : Md := (yX5_partOf, cX5_partOf, 1, (some .int))
theorem pn_X5_partOf : plainName mX5_partOf.1.cls = true := by decide +kernel
abbrev mX5_partSign : Md := (yX5_partSign, cX5_partSign, 5, (some .char))
theorem pn_X5_partSign : plainName mX5_partSign.1.cls = true := by decide +kernel
abbrev mX5_parts : Md := (yX5_parts, cX5_parts, 5, (some .int))
theorem pn_X5_parts : plainName mX5_parts.1.cls = true := by decide +kernel
abbrev mX5_port : Md := (yX5_port, cX5_port, 2, (some .int))
theorem pn_X5_port : plainName mX5_port.1.cls = true := by decide +kernel
abbrev mX5_put : Md := (yX5_put, cX5_put, 7, none)
theorem pn_X5_put : plainName mX5_put.1.cls = true := by decide +kernel
abbrev mX5_refusals : Md := (yX5_refusals, cX5_refusals, 1, (some .int))
theorem pn_X5_refusals : plainName mX5_refusals.1.cls = true := by decide +kernel
abbrev mX5_refusedAt : Md := (yX5_refusedAt, cX5_refusedAt, 1, (some .int))
theorem pn_X5_refusedAt : plainName mX5_refusedAt.1.cls = true := by decide +kernel
abbrev mX5_rest : Md := (yX5_rest, cX5_rest, 2, (some .int))
theorem pn_X5_rest : plainName mX5_rest.1.cls = true := by decide +kernel
abbrev mX5_sign : Md := (yX5_sign, cX5_sign, 2, none)
theorem pn_X5_sign : plainName mX5_sign.1.cls = true := by decide +kernel
abbrev mX5_signAt : Md := (yX5_signAt, cX5_signAt, 2, (some .char))
theorem pn_X5_signAt : plainName mX5_signAt.1.cls = true := by decide +kernel
abbrev mX5_size : Md := (yX5_size, cX5_size, 3, (some .int))
theorem pn_X5_size : plainName mX5_size.1.cls = true := by decide +kernel
abbrev mX5_slashes : Md := (yX5_slashes, cX5_slashes, 2, (some .int))
theorem pn_X5_slashes : plainName mX5_slashes.1.cls = true := by decide +kernel
abbrev mX5_taken : Md := (yX5_taken, cX5_taken, 3, (some .int))
theorem pn_X5_taken : plainName mX5_taken.1.cls = true := by decide +kernel
abbrev mX5_thrown : Md := (yX5_thrown, cX5_thrown, 1, (some .int))
theorem pn_X5_thrown : plainName mX5_thrown.1.cls = true := by decide +kernel
abbrev mX5_together : Md := (yX5_together, cX5_together, 4, (some .boolean))
theorem pn_X5_together : plainName mX5_together.1.cls = true := by decide +kernel
abbrev mX5_type : Md := (yX5_type, cX5_type, 2, (some .int))
theorem pn_X5_type : plainName mX5_type.1.cls = true := by decide +kernel
abbrev mX5_wipe : Md := (yX5_wipe, cX5_wipe, 2, (some .int))
theorem pn_X5_wipe : plainName mX5_wipe.1.cls = true := by decide +kernel
abbrev mX5_word : Md := (yX5_word, cX5_word, 6, (some .int))
theorem pn_X5_word : plainName mX5_word.1.cls = true := by decide +kernel
theorem kJ0_335 : Cond.methodLink RJ0 335 yJ0_coder_7d493 ∈ uw := uw_i (by decide +kernel)
theorem kJ0_492 : Cond.methodLink RJ0 492 yJ0_isLatin1_aae02 ∈ uw := uw_i (by decide +kernel)
theorem kJ0_495 : Cond.methodLink RJ0 495 yJ1_charAt_3b067 ∈ uw := uw_i (by decide +kernel)
theorem kJ0_498 : Cond.methodLink RJ0 498 yJ2_charAt_3b067 ∈ uw := uw_i (by decide +kernel)
theorem kJ0_505 : Cond.methodLink RJ0 505 yJ0_length_8abf5 ∈ uw := uw_i (by decide +kernel)
theorem kJ0_633 : Cond.methodLink RJ0 633 yJ0_indexOf_7cf53 ∈ uw := uw_i (by decide +kernel)
theorem kJ0_637 : Cond.methodLink RJ0 637 yJ1_indexOf_4cfef ∈ uw := uw_i (by decide +kernel)
theorem kJ0_640 : Cond.methodLink RJ0 640 yJ2_indexOf_4cfef ∈ uw := uw_i (by decide +kernel)
theorem kJ0_1059 : Cond.methodLink RJ0 1059 yJ3_checkIndex_8e157 ∈ uw := uw_i (by decide +kernel)
theorem kJ1_9 : Cond.methodLink RJ1 9 yJ0_checkIndex_df160 ∈ uw := uw_i (by decide +kernel)
theorem kJ1_38 : Cond.methodLink RJ1 38 Lib.Math.min.name ∈ uw := uw_i (by decide +kernel)
theorem kJ1_88 : Cond.methodLink RJ1 88 yJ1_canEncode_9a6ad ∈ uw := uw_i (by decide +kernel)
theorem kJ1_92 : Cond.methodLink RJ1 92 Lib.Math.max.name ∈ uw := uw_i (by decide +kernel)
theorem kJ1_95 : Cond.methodLink RJ1 95 yJ1_indexOfChar_4cfef ∈ uw := uw_i (by decide +kernel)
theorem kL_7 : Cond.methodLink RL 7 yX4_type ∈ uw := uw_i (by decide +kernel)
theorem kL_17 : Cond.methodLink RL 17 yX4_escape ∈ uw := uw_i (by decide +kernel)
theorem kL_21 : Cond.methodLink RL 21 yX4_word ∈ uw := uw_i (by decide +kernel)
theorem kL_27 : Cond.methodLink RL 27 yX4_drop ∈ uw := uw_i (by decide +kernel)
theorem kL_33 : Cond.methodLink RL 33 yX4_signAt ∈ uw := uw_i (by decide +kernel)
theorem kL_37 : Cond.methodLink RL 37 yX4_parse ∈ uw := uw_i (by decide +kernel)
theorem kL_40 : Cond.methodLink RL 40 yX4_refusedAt ∈ uw := uw_i (by decide +kernel)
theorem kL_43 : Cond.methodLink RL 43 yX4_isTold ∈ uw := uw_i (by decide +kernel)
theorem kL_47 : Cond.methodLink RL 47 yX4_isThere ∈ uw := uw_i (by decide +kernel)
theorem kL_51 : Cond.methodLink RL 51 yX4_isAbsolute ∈ uw := uw_i (by decide +kernel)
theorem kL_54 : Cond.methodLink RL 54 yX4_isOpaque ∈ uw := uw_i (by decide +kernel)
theorem kL_57 : Cond.methodLink RL 57 yX4_port ∈ uw := uw_i (by decide +kernel)
theorem kL_60 : Cond.methodLink RL 60 yX4_size ∈ uw := uw_i (by decide +kernel)
theorem kL_64 : Cond.methodLink RL 64 yX4_partSign ∈ uw := uw_i (by decide +kernel)
theorem kL_68 : Cond.methodLink RL 68 yX4_begin ∈ uw := uw_i (by decide +kernel)
theorem kL_71 : Cond.methodLink RL 71 yX4_append ∈ uw := uw_i (by decide +kernel)
theorem kL_74 : Cond.methodLink RL 74 yX4_copy ∈ uw := uw_i (by decide +kernel)
theorem kL_78 : Cond.methodLink RL 78 yX4_alike ∈ uw := uw_i (by decide +kernel)
theorem kL_81 : Cond.methodLink RL 81 yX4_together ∈ uw := uw_i (by decide +kernel)
theorem kL_84 : Cond.methodLink RL 84 yX4_mix ∈ uw := uw_i (by decide +kernel)
theorem kL_90 : Cond.methodLink RL 90 yX4_init ∈ uw := uw_i (by decide +kernel)
theorem kL_93 : Cond.methodLink RL 93 yX5_init ∈ uw := uw_i (by decide +kernel)
theorem kL_99 : Cond.methodLink RL 99 yX5_type ∈ uw := uw_i (by decide +kernel)
theorem kL_100 : Cond.methodLink RL 100 yX5_thrown ∈ uw := uw_i (by decide +kernel)
theorem kL_106 : Cond.methodLink RL 106 yX5_escape ∈ uw := uw_i (by decide +kernel)
theorem kL_110 : Cond.methodLink RL 110 yX5_word ∈ uw := uw_i (by decide +kernel)
theorem kL_114 : Cond.methodLink RL 114 yX5_drop ∈ uw := uw_i (by decide +kernel)
theorem kL_115 : Cond.methodLink RL 115 yX4_wipe ∈ uw := uw_i (by decide +kernel)
theorem kL_118 : Cond.methodLink RL 118 yX5_wipe ∈ uw := uw_i (by decide +kernel)
theorem kL_119 : Cond.methodLink RL 119 yX4_length ∈ uw := uw_i (by decide +kernel)
theorem kL_122 : Cond.methodLink RL 122 yX5_length ∈ uw := uw_i (by decide +kernel)
theorem kL_125 : Cond.methodLink RL 125 yX5_signAt ∈ uw := uw_i (by decide +kernel)
theorem kL_128 : Cond.methodLink RL 128 yX5_parse ∈ uw := uw_i (by decide +kernel)
theorem kL_129 : Cond.methodLink RL 129 yX4_refusals ∈ uw := uw_i (by decide +kernel)
theorem kL_132 : Cond.methodLink RL 132 yX5_refusals ∈ uw := uw_i (by decide +kernel)
theorem kL_135 : Cond.methodLink RL 135 yX5_refusedAt ∈ uw := uw_i (by decide +kernel)
theorem kL_138 : Cond.methodLink RL 138 yX5_isTold ∈ uw := uw_i (by decide +kernel)
theorem kL_141 : Cond.methodLink RL 141 yX5_isThere ∈ uw := uw_i (by decide +kernel)
theorem kL_144 : Cond.methodLink RL 144 yX5_isAbsolute ∈ uw := uw_i (by decide +kernel)
theorem kL_147 : Cond.methodLink RL 147 yX5_isOpaque ∈ uw := uw_i (by decide +kernel)
theorem kL_150 : Cond.methodLink RL 150 yX5_port ∈ uw := uw_i (by decide +kernel)
theorem kL_154 : Cond.methodLink RL 154 yX5_size ∈ uw := uw_i (by decide +kernel)
theorem kL_158 : Cond.methodLink RL 158 yX5_partSign ∈ uw := uw_i (by decide +kernel)
theorem kL_161 : Cond.methodLink RL 161 yX5_begin ∈ uw := uw_i (by decide +kernel)
theorem kL_164 : Cond.methodLink RL 164 yX5_append ∈ uw := uw_i (by decide +kernel)
theorem kL_168 : Cond.methodLink RL 168 yX5_copy ∈ uw := uw_i (by decide +kernel)
theorem kL_171 : Cond.methodLink RL 171 yX5_alike ∈ uw := uw_i (by decide +kernel)
theorem kL_174 : Cond.methodLink RL 174 yX5_together ∈ uw := uw_i (by decide +kernel)
theorem kL_178 : Cond.methodLink RL 178 yX5_mix ∈ uw := uw_i (by decide +kernel)
theorem kL_179 : Cond.methodLink RL 179 yX4_isTrue ∈ uw := uw_i (by decide +kernel)
theorem kL_182 : Cond.methodLink RL 182 yX5_isTrue ∈ uw := uw_i (by decide +kernel)
theorem kL_183 : Cond.methodLink RL 183 yX4_checksum ∈ uw := uw_i (by decide +kernel)
theorem kL_187 : Cond.methodLink RL 187 yX5_checksum ∈ uw := uw_i (by decide +kernel)
theorem kX0_25 : Cond.methodLink RX0 25 yX0_forget ∈ uw := uw_i (by decide +kernel)
theorem kX0_36 : Cond.methodLink RX0 36 yX0_beginOf ∈ uw := uw_i (by decide +kernel)
theorem kX0_40 : Cond.methodLink RX0 40 yX0_has ∈ uw := uw_i (by decide +kernel)
theorem kX0_44 : Cond.methodLink RX0 44 yX0_endOf ∈ uw := uw_i (by decide +kernel)
theorem kX0_47 : Cond.methodLink RX0 47 yX3_at ∈ uw := uw_i (by decide +kernel)
theorem kX0_51 : Cond.methodLink RX0 51 yX3_putRange ∈ uw := uw_i (by decide +kernel)
theorem kX0_55 : Cond.methodLink RX0 55 yX3_count ∈ uw := uw_i (by decide +kernel)
theorem kX0_59 : Cond.methodLink RX0 59 yX3_isRange ∈ uw := uw_i (by decide +kernel)
theorem kX0_63 : Cond.methodLink RX0 63 yX2_isSlashed ∈ uw := uw_i (by decide +kernel)
theorem kX0_69 : Cond.methodLink RX0 69 yX0_isPartAlike ∈ uw := uw_i (by decide +kernel)
theorem kX0_73 : Cond.methodLink RX0 73 yX0_sizeOf ∈ uw := uw_i (by decide +kernel)
theorem kX0_78 : Cond.methodLink RX0 78 yX3_takeOver ∈ uw := uw_i (by decide +kernel)
theorem kX0_82 : Cond.methodLink RX0 82 yX0_mark ∈ uw := uw_i (by decide +kernel)
theorem kX1_11 : Cond.methodLink RX1 11 yX0_init ∈ uw := uw_i (by decide +kernel)
theorem kX1_18 : Cond.methodLink RX1 18 yX0_whole ∈ uw := uw_i (by decide +kernel)
theorem kX1_30 : Cond.methodLink RX1 30 yX0_forget ∈ uw := uw_i (by decide +kernel)
theorem kX1_33 : Cond.methodLink RX1 33 yX3_takeOver ∈ uw := uw_i (by decide +kernel)
theorem kX1_39 : Cond.methodLink RX1 39 yX3_count ∈ uw := uw_i (by decide +kernel)
theorem kX1_43 : Cond.methodLink RX1 43 yX0_mark ∈ uw := uw_i (by decide +kernel)
theorem kX1_47 : Cond.methodLink RX1 47 yX2_schemeColon ∈ uw := uw_i (by decide +kernel)
theorem kX1_53 : Cond.methodLink RX1 53 yX1_cutScheme ∈ uw := uw_i (by decide +kernel)
theorem kX1_57 : Cond.methodLink RX1 57 yX3_at ∈ uw := uw_i (by decide +kernel)
theorem kX1_61 : Cond.methodLink RX1 61 yX1_cutOpaque ∈ uw := uw_i (by decide +kernel)
theorem kX1_65 : Cond.methodLink RX1 65 yX1_cutAuthority ∈ uw := uw_i (by decide +kernel)
theorem kX1_68 : Cond.methodLink RX1 68 yX1_cutPathAndQuery ∈ uw := uw_i (by decide +kernel)
theorem kX1_72 : Cond.methodLink RX1 72 yX1_cutFragment ∈ uw := uw_i (by decide +kernel)
theorem kX1_75 : Cond.methodLink RX1 75 yX0_has ∈ uw := uw_i (by decide +kernel)
theorem kX1_79 : Cond.methodLink RX1 79 yX0_beginOf ∈ uw := uw_i (by decide +kernel)
theorem kX1_82 : Cond.methodLink RX1 82 yX0_endOf ∈ uw := uw_i (by decide +kernel)
theorem kX1_85 : Cond.methodLink RX1 85 yX1_cutServer ∈ uw := uw_i (by decide +kernel)
theorem kX1_89 : Cond.methodLink RX1 89 yX0_setHeld ∈ uw := uw_i (by decide +kernel)
theorem kX1_93 : Cond.methodLink RX1 93 yX2_wrongInScheme ∈ uw := uw_i (by decide +kernel)
theorem kX1_97 : Cond.methodLink RX1 97 yX1_refuse ∈ uw := uw_i (by decide +kernel)
theorem kX1_102 : Cond.methodLink RX1 102 yX1_cutPart ∈ uw := uw_i (by decide +kernel)
theorem kX1_106 : Cond.methodLink RX1 106 yX2_isSlashed ∈ uw := uw_i (by decide +kernel)
theorem kX1_112 : Cond.methodLink RX1 112 yX3_next ∈ uw := uw_i (by decide +kernel)
theorem kX1_122 : Cond.methodLink RX1 122 yX2_isName ∈ uw := uw_i (by decide +kernel)
theorem kX1_126 : Cond.methodLink RX1 126 yX2_isFourNumbers ∈ uw := uw_i (by decide +kernel)
theorem kX1_129 : Cond.methodLink RX1 129 yX2_isPort ∈ uw := uw_i (by decide +kernel)
theorem kX1_133 : Cond.methodLink RX1 133 yX2_numberIn ∈ uw := uw_i (by decide +kernel)
theorem kX1_137 : Cond.methodLink RX1 137 yX0_setPort ∈ uw := uw_i (by decide +kernel)
theorem kX2_9 : Cond.methodLink RX2 9 yX3_at ∈ uw := uw_i (by decide +kernel)
theorem kX2_17 : Cond.methodLink RX2 17 yX3_count ∈ uw := uw_i (by decide +kernel)
theorem kX2_21 : Cond.methodLink RX2 21 yX3_next ∈ uw := uw_i (by decide +kernel)
theorem kX2_25 : Cond.methodLink RX2 25 yX2_isLetter ∈ uw := uw_i (by decide +kernel)
theorem kX2_31 : Cond.methodLink RX2 31 yX2_isDigit ∈ uw := uw_i (by decide +kernel)
theorem kX2_36 : Cond.methodLink RX2 36 yJ0_indexOf_0f7a4 ∈ uw := uw_i (by decide +kernel)
theorem kX2_42 : Cond.methodLink RX2 42 yX2_schemeColon ∈ uw := uw_i (by decide +kernel)
theorem kX2_46 : Cond.methodLink RX2 46 yX2_isSlashed ∈ uw := uw_i (by decide +kernel)
theorem kX2_54 : Cond.methodLink RX2 54 yX2_isLabel ∈ uw := uw_i (by decide +kernel)
theorem kX2_58 : Cond.methodLink RX2 58 yX2_numberIn ∈ uw := uw_i (by decide +kernel)
theorem kX3_19 : Cond.methodLink RX3 19 yJ0_length_8abf5 ∈ uw := uw_i (by decide +kernel)
theorem kX3_25 : Cond.methodLink RX3 25 yJ0_charAt_5068e ∈ uw := uw_i (by decide +kernel)
theorem kX3_29 : Cond.methodLink RX3 29 yX3_put ∈ uw := uw_i (by decide +kernel)
theorem kX3_33 : Cond.methodLink RX3 33 yX3_at ∈ uw := uw_i (by decide +kernel)
theorem kX3_36 : Cond.methodLink RX3 36 yJ0_indexOf_0f7a4 ∈ uw := uw_i (by decide +kernel)
theorem kX4_32 : Cond.methodLink RX4 32 yX0_init ∈ uw := uw_i (by decide +kernel)
theorem kX4_35 : Cond.methodLink RX4 35 yJ0_indexOf_0f7a4 ∈ uw := uw_i (by decide +kernel)
theorem kX4_48 : Cond.methodLink RX4 48 yX4_checkRoom ∈ uw := uw_i (by decide +kernel)
theorem kX4_52 : Cond.methodLink RX4 52 yX3_put ∈ uw := uw_i (by decide +kernel)
theorem kX4_56 : Cond.methodLink RX4 56 yX3_count ∈ uw := uw_i (by decide +kernel)
theorem kX4_66 : Cond.methodLink RX4 66 yJ0_charAt_5068e ∈ uw := uw_i (by decide +kernel)
theorem kX4_75 : Cond.methodLink RX4 75 yX4_wordAt ∈ uw := uw_i (by decide +kernel)
theorem kX4_79 : Cond.methodLink RX4 79 yJ0_length_8abf5 ∈ uw := uw_i (by decide +kernel)
theorem kX4_82 : Cond.methodLink RX4 82 yX3_putAll ∈ uw := uw_i (by decide +kernel)
theorem kX4_90 : Cond.methodLink RX4 90 yX3_at ∈ uw := uw_i (by decide +kernel)
theorem kX4_93 : Cond.methodLink RX4 93 yX3_shorten ∈ uw := uw_i (by decide +kernel)
theorem kX4_98 : Cond.methodLink RX4 98 yX4_slotAt ∈ uw := uw_i (by decide +kernel)
theorem kX4_102 : Cond.methodLink RX4 102 yX2_isAuthorityBad ∈ uw := uw_i (by decide +kernel)
theorem kX4_113 : Cond.methodLink RX4 113 yX1_cut ∈ uw := uw_i (by decide +kernel)
theorem kX4_117 : Cond.methodLink RX4 117 yX1_address ∈ uw := uw_i (by decide +kernel)
theorem kX4_121 : Cond.methodLink RX4 121 yX0_takeOver ∈ uw := uw_i (by decide +kernel)
theorem kX4_132 : Cond.methodLink RX4 132 yX4_checkRefused ∈ uw := uw_i (by decide +kernel)
theorem kX4_135 : Cond.methodLink RX4 135 yX0_isHeld ∈ uw := uw_i (by decide +kernel)
theorem kX4_139 : Cond.methodLink RX4 139 yX4_addressAt ∈ uw := uw_i (by decide +kernel)
theorem kX4_142 : Cond.methodLink RX4 142 yX0_has ∈ uw := uw_i (by decide +kernel)
theorem kX4_146 : Cond.methodLink RX4 146 yX0_portNumber ∈ uw := uw_i (by decide +kernel)
theorem kX4_149 : Cond.methodLink RX4 149 yX4_partOf ∈ uw := uw_i (by decide +kernel)
theorem kX4_153 : Cond.methodLink RX4 153 yX4_checkHeld ∈ uw := uw_i (by decide +kernel)
theorem kX4_156 : Cond.methodLink RX4 156 yX0_sizeOf ∈ uw := uw_i (by decide +kernel)
theorem kX4_161 : Cond.methodLink RX4 161 yX0_signOf ∈ uw := uw_i (by decide +kernel)
theorem kX4_165 : Cond.methodLink RX4 165 yX0_beginOf ∈ uw := uw_i (by decide +kernel)
theorem kX4_170 : Cond.methodLink RX4 170 yX0_putPart ∈ uw := uw_i (by decide +kernel)
theorem kX4_174 : Cond.methodLink RX4 174 yX0_partsAlike ∈ uw := uw_i (by decide +kernel)
theorem kX4_178 : Cond.methodLink RX4 178 yX4_weave ∈ uw := uw_i (by decide +kernel)
theorem kX4_182 : Cond.methodLink RX4 182 yX3_takeOver ∈ uw := uw_i (by decide +kernel)
theorem kX4_185 : Cond.methodLink RX4 185 yX0_isWhole ∈ uw := uw_i (by decide +kernel)
theorem kX4_201 : Cond.methodLink RX4 201 yX4_isSameAnew ∈ uw := uw_i (by decide +kernel)
theorem kX4_205 : Cond.methodLink RX4 205 yX4_isThreeParts ∈ uw := uw_i (by decide +kernel)
theorem kX4_208 : Cond.methodLink RX4 208 yX4_isWovenAgain ∈ uw := uw_i (by decide +kernel)
theorem kX4_215 : Cond.methodLink RX4 215 yX0_sumBehind ∈ uw := uw_i (by decide +kernel)
theorem kX4_231 : Cond.methodLink RX4 231 yX4_weavePart ∈ uw := uw_i (by decide +kernel)
theorem kX4_241 : Cond.methodLink RX4 241 yX0_isSkippingSlashes ∈ uw := uw_i (by decide +kernel)
theorem kX4_244 : Cond.methodLink RX4 244 yX0_isWholeWithoutSlashes ∈ uw := uw_i (by decide +kernel)
theorem kX5_41 : Cond.methodLink RX5 41 yX5_in ∈ uw := uw_i (by decide +kernel)
theorem kX5_47 : Cond.methodLink RX5 47 yJ0_indexOf_0f7a4 ∈ uw := uw_i (by decide +kernel)
theorem kX5_59 : Cond.methodLink RX5 59 yX5_canType ∈ uw := uw_i (by decide +kernel)
theorem kX5_63 : Cond.methodLink RX5 63 yX5_fails ∈ uw := uw_i (by decide +kernel)
theorem kX5_66 : Cond.methodLink RX5 66 yX5_put ∈ uw := uw_i (by decide +kernel)
theorem kX5_70 : Cond.methodLink RX5 70 yX5_digit ∈ uw := uw_i (by decide +kernel)
theorem kX5_76 : Cond.methodLink RX5 76 yJ0_indexOf_7cf53 ∈ uw := uw_i (by decide +kernel)
theorem kX5_79 : Cond.methodLink RX5 79 yJ0_charAt_5068e ∈ uw := uw_i (by decide +kernel)
theorem kX5_85 : Cond.methodLink RX5 85 yX5_next ∈ uw := uw_i (by decide +kernel)
theorem kX5_89 : Cond.methodLink RX5 89 yX5_isBad ∈ uw := uw_i (by decide +kernel)
theorem kX5_92 : Cond.methodLink RX5 92 yX5_rest ∈ uw := uw_i (by decide +kernel)
theorem kX5_96 : Cond.methodLink RX5 96 yX5_isAt ∈ uw := uw_i (by decide +kernel)
theorem kX5_100 : Cond.methodLink RX5 100 yX5_partOf ∈ uw := uw_i (by decide +kernel)
theorem kX5_107 : Cond.methodLink RX5 107 yX5_isLetter ∈ uw := uw_i (by decide +kernel)
theorem kX5_110 : Cond.methodLink RX5 110 yX5_isDigit ∈ uw := uw_i (by decide +kernel)
theorem kX5_113 : Cond.methodLink RX5 113 yX5_cut ∈ uw := uw_i (by decide +kernel)
theorem kX5_119 : Cond.methodLink RX5 119 yX5_bad ∈ uw := uw_i (by decide +kernel)
theorem kX5_122 : Cond.methodLink RX5 122 yX5_slashes ∈ uw := uw_i (by decide +kernel)
theorem kX5_127 : Cond.methodLink RX5 127 yX5_authority ∈ uw := uw_i (by decide +kernel)
theorem kX5_133 : Cond.methodLink RX5 133 yX5_isNumbers ∈ uw := uw_i (by decide +kernel)
theorem kX5_136 : Cond.methodLink RX5 136 yX5_isLabels ∈ uw := uw_i (by decide +kernel)
theorem kX5_145 : Cond.methodLink RX5 145 yX5_isSlot ∈ uw := uw_i (by decide +kernel)
theorem kX5_148 : Cond.methodLink RX5 148 yX5_parts ∈ uw := uw_i (by decide +kernel)
theorem kX5_157 : Cond.methodLink RX5 157 yX5_noSlot ∈ uw := uw_i (by decide +kernel)
theorem kX5_160 : Cond.methodLink RX5 160 yX5_has ∈ uw := uw_i (by decide +kernel)
theorem kX5_164 : Cond.methodLink RX5 164 yX5_noPart ∈ uw := uw_i (by decide +kernel)
theorem kX5_168 : Cond.methodLink RX5 168 yX5_many ∈ uw := uw_i (by decide +kernel)
theorem kX5_171 : Cond.methodLink RX5 171 yX5_add ∈ uw := uw_i (by decide +kernel)
theorem kX5_175 : Cond.methodLink RX5 175 yX5_isAlike ∈ uw := uw_i (by decide +kernel)
theorem kX5_178 : Cond.methodLink RX5 178 yX5_sign ∈ uw := uw_i (by decide +kernel)
theorem kX5_182 : Cond.methodLink RX5 182 yX5_all ∈ uw := uw_i (by decide +kernel)
theorem kX5_188 : Cond.methodLink RX5 188 yX5_taken ∈ uw := uw_i (by decide +kernel)
theorem vJ0_charAt_5068e : Vok mJ0_charAt_5068e 1 := Vok.of (by decide +kernel)
theorem vJ0_checkIndex_df160 : Sok mJ0_checkIndex_df160 2 := Sok.of (by decide +kernel)
theorem vJ0_coder_7d493 : Vok mJ0_coder_7d493 0 := Vok.of (by decide +kernel)
theorem vJ0_indexOf_0f7a4 : Vok mJ0_indexOf_0f7a4 1 := Vok.of (by decide +kernel)
theorem vJ0_indexOf_7cf53 : Vok mJ0_indexOf_7cf53 2 := Vok.of (by decide +kernel)
theorem vJ0_isLatin1_aae02 : Vok mJ0_isLatin1_aae02 0 := Vok.of (by decide +kernel)
theorem vJ0_length_8abf5 : Vok mJ0_length_8abf5 0 := Vok.of (by decide +kernel)
theorem vJ1_canEncode_9a6ad : Sok mJ1_canEncode_9a6ad 1 := Sok.of (by decide +kernel)
theorem vJ1_charAt_3b067 : Sok mJ1_charAt_3b067 2 := Sok.of (by decide +kernel)
theorem vJ1_indexOfChar_4cfef : Sok mJ1_indexOfChar_4cfef 4 := Sok.of (by decide +kernel)
theorem vJ1_indexOf_4cfef : Sok mJ1_indexOf_4cfef 4 := Sok.of (by decide +kernel)
theorem vJ3_checkIndex_8e157 : Sok mJ3_checkIndex_8e157 3 := Sok.of (by decide +kernel)
theorem vX0_beginOf : Vok mX0_beginOf 1 := Vok.of (by decide +kernel)
theorem vX0_endOf : Vok mX0_endOf 1 := Vok.of (by decide +kernel)
theorem vX0_forget : Vok mX0_forget 0 := Vok.of (by decide +kernel)
theorem vX0_has : Vok mX0_has 1 := Vok.of (by decide +kernel)
theorem vX0_isHeld : Vok mX0_isHeld 0 := Vok.of (by decide +kernel)
theorem vX0_isPartAlike : Vok mX0_isPartAlike 2 := Vok.of (by decide +kernel)
theorem vX0_isSkippingSlashes : Vok mX0_isSkippingSlashes 0 := Vok.of (by decide +kernel)
theorem vX0_isWhole : Vok mX0_isWhole 1 := Vok.of (by decide +kernel)
theorem vX0_isWholeWithoutSlashes : Vok mX0_isWholeWithoutSlashes 1 := Vok.of (by decide +kernel)
theorem vX0_mark : Vok mX0_mark 3 := Vok.of (by decide +kernel)
theorem vX0_partsAlike : Vok mX0_partsAlike 1 := Vok.of (by decide +kernel)
theorem vX0_portNumber : Vok mX0_portNumber 0 := Vok.of (by decide +kernel)
theorem vX0_putPart : Vok mX0_putPart 2 := Vok.of (by decide +kernel)
theorem vX0_setHeld : Vok mX0_setHeld 1 := Vok.of (by decide +kernel)
theorem vX0_setPort : Vok mX0_setPort 1 := Vok.of (by decide +kernel)
theorem vX0_signOf : Vok mX0_signOf 2 := Vok.of (by decide +kernel)
theorem vX0_sizeOf : Vok mX0_sizeOf 1 := Vok.of (by decide +kernel)
theorem vX0_sumBehind : Vok mX0_sumBehind 1 := Vok.of (by decide +kernel)
theorem vX0_takeOver : Vok mX0_takeOver 1 := Vok.of (by decide +kernel)
theorem vX0_whole : Vok mX0_whole 0 := Vok.of (by decide +kernel)
theorem vX1_address : Vok mX1_address 0 := Vok.of (by decide +kernel)
theorem vX1_cut : Vok mX1_cut 1 := Vok.of (by decide +kernel)
theorem vX1_cutAuthority : Vok mX1_cutAuthority 1 := Vok.of (by decide +kernel)
theorem vX1_cutFragment : Vok mX1_cutFragment 1 := Vok.of (by decide +kernel)
theorem vX1_cutOpaque : Vok mX1_cutOpaque 1 := Vok.of (by decide +kernel)
theorem vX1_cutPart : Vok mX1_cutPart 3 := Vok.of (by decide +kernel)
theorem vX1_cutPathAndQuery : Vok mX1_cutPathAndQuery 2 := Vok.of (by decide +kernel)
theorem vX1_cutScheme : Vok mX1_cutScheme 1 := Vok.of (by decide +kernel)
theorem vX1_cutServer : Vok mX1_cutServer 2 := Vok.of (by decide +kernel)
theorem vX1_refuse : Vok mX1_refuse 1 := Vok.of (by decide +kernel)
theorem vX2_isAuthorityBad : Sok mX2_isAuthorityBad 1 := Sok.of (by decide +kernel)
theorem vX2_isDigit : Sok mX2_isDigit 1 := Sok.of (by decide +kernel)
theorem vX2_isFourNumbers : Sok mX2_isFourNumbers 3 := Sok.of (by decide +kernel)
theorem vX2_isLabel : Sok mX2_isLabel 3 := Sok.of (by decide +kernel)
theorem vX2_isLetter : Sok mX2_isLetter 1 := Sok.of (by decide +kernel)
theorem vX2_isName : Sok mX2_isName 3 := Sok.of (by decide +kernel)
theorem vX2_isPort : Sok mX2_isPort 3 := Sok.of (by decide +kernel)
theorem vX2_isSlashed : Sok mX2_isSlashed 2 := Sok.of (by decide +kernel)
theorem vX2_numberIn : Sok mX2_numberIn 4 := Sok.of (by decide +kernel)
theorem vX2_schemeColon : Sok mX2_schemeColon 1 := Sok.of (by decide +kernel)
theorem vX2_wrongInScheme : Sok mX2_wrongInScheme 2 := Sok.of (by decide +kernel)
theorem vX3_at : Vok mX3_at 1 := Vok.of (by decide +kernel)
theorem vX3_count : Vok mX3_count 0 := Vok.of (by decide +kernel)
theorem vX3_isRange : Vok mX3_isRange 4 := Vok.of (by decide +kernel)
theorem vX3_next : Vok mX3_next 3 := Vok.of (by decide +kernel)
theorem vX3_put : Vok mX3_put 1 := Vok.of (by decide +kernel)
theorem vX3_putAll : Vok mX3_putAll 1 := Vok.of (by decide +kernel)
theorem vX3_putRange : Vok mX3_putRange 3 := Vok.of (by decide +kernel)
theorem vX3_shorten : Vok mX3_shorten 1 := Vok.of (by decide +kernel)
theorem vX3_takeOver : Vok mX3_takeOver 1 := Vok.of (by decide +kernel)
theorem vX4_addressAt : Vok mX4_addressAt 1 := Vok.of (by decide +kernel)
theorem vX4_alike : Vok mX4_alike 2 := Vok.of (by decide +kernel)
theorem vX4_append : Vok mX4_append 2 := Vok.of (by decide +kernel)
theorem vX4_begin : Vok mX4_begin 2 := Vok.of (by decide +kernel)
theorem vX4_checkHeld : Sok mX4_checkHeld 1 := Sok.of (by decide +kernel)
theorem vX4_checkRefused : Vok mX4_checkRefused 0 := Vok.of (by decide +kernel)
theorem vX4_checkRoom : Vok mX4_checkRoom 1 := Vok.of (by decide +kernel)
theorem vX4_checksum : Vok mX4_checksum 0 := Vok.of (by decide +kernel)
theorem vX4_copy : Vok mX4_copy 2 := Vok.of (by decide +kernel)
theorem vX4_drop : Vok mX4_drop 0 := Vok.of (by decide +kernel)
theorem vX4_escape : Vok mX4_escape 2 := Vok.of (by decide +kernel)
theorem vX4_isAbsolute : Vok mX4_isAbsolute 1 := Vok.of (by decide +kernel)
theorem vX4_isOpaque : Vok mX4_isOpaque 1 := Vok.of (by decide +kernel)
theorem vX4_isSameAnew : Vok mX4_isSameAnew 1 := Vok.of (by decide +kernel)
theorem vX4_isThere : Vok mX4_isThere 1 := Vok.of (by decide +kernel)
theorem vX4_isThreeParts : Vok mX4_isThreeParts 1 := Vok.of (by decide +kernel)
theorem vX4_isTold : Vok mX4_isTold 0 := Vok.of (by decide +kernel)
theorem vX4_isTrue : Vok mX4_isTrue 0 := Vok.of (by decide +kernel)
theorem vX4_isWovenAgain : Vok mX4_isWovenAgain 1 := Vok.of (by decide +kernel)
theorem vX4_length : Vok mX4_length 0 := Vok.of (by decide +kernel)
theorem vX4_mix : Vok mX4_mix 3 := Vok.of (by decide +kernel)
theorem vX4_parse : Vok mX4_parse 1 := Vok.of (by decide +kernel)
theorem vX4_partOf : Sok mX4_partOf 1 := Sok.of (by decide +kernel)
theorem vX4_partSign : Vok mX4_partSign 3 := Vok.of (by decide +kernel)
theorem vX4_port : Vok mX4_port 1 := Vok.of (by decide +kernel)
theorem vX4_refusals : Vok mX4_refusals 0 := Vok.of (by decide +kernel)
theorem vX4_refusedAt : Vok mX4_refusedAt 0 := Vok.of (by decide +kernel)
theorem vX4_signAt : Vok mX4_signAt 1 := Vok.of (by decide +kernel)
theorem vX4_size : Vok mX4_size 2 := Vok.of (by decide +kernel)
theorem vX4_slotAt : Vok mX4_slotAt 1 := Vok.of (by decide +kernel)
theorem vX4_together : Vok mX4_together 1 := Vok.of (by decide +kernel)
theorem vX4_type : Vok mX4_type 1 := Vok.of (by decide +kernel)
theorem vX4_weave : Vok mX4_weave 3 := Vok.of (by decide +kernel)
theorem vX4_weavePart : Vok mX4_weavePart 4 := Vok.of (by decide +kernel)
theorem vX4_wipe : Vok mX4_wipe 0 := Vok.of (by decide +kernel)
theorem vX4_word : Vok mX4_word 1 := Vok.of (by decide +kernel)
theorem vX4_wordAt : Sok mX4_wordAt 1 := Sok.of (by decide +kernel)
theorem vX5_add : Vok mX5_add 2 := Vok.of (by decide +kernel)
theorem vX5_alike : Vok mX5_alike 2 := Vok.of (by decide +kernel)
theorem vX5_all : Vok mX5_all 3 := Vok.of (by decide +kernel)
theorem vX5_append : Vok mX5_append 2 := Vok.of (by decide +kernel)
theorem vX5_authority : Vok mX5_authority 2 := Vok.of (by decide +kernel)
theorem vX5_bad : Vok mX5_bad 2 := Vok.of (by decide +kernel)
theorem vX5_begin : Vok mX5_begin 2 := Vok.of (by decide +kernel)
theorem vX5_canType : Sok mX5_canType 1 := Sok.of (by decide +kernel)
theorem vX5_checksum : Vok mX5_checksum 0 := Vok.of (by decide +kernel)
theorem vX5_copy : Vok mX5_copy 2 := Vok.of (by decide +kernel)
theorem vX5_cut : Vok mX5_cut 3 := Vok.of (by decide +kernel)
theorem vX5_digit : Sok mX5_digit 2 := Sok.of (by decide +kernel)
theorem vX5_drop : Vok mX5_drop 0 := Vok.of (by decide +kernel)
theorem vX5_escape : Vok mX5_escape 2 := Vok.of (by decide +kernel)
theorem vX5_fails : Vok mX5_fails 1 := Vok.of (by decide +kernel)
theorem vX5_has : Vok mX5_has 2 := Vok.of (by decide +kernel)
theorem vX5_in : Sok mX5_in 3 := Sok.of (by decide +kernel)
theorem vX5_isAbsolute : Vok mX5_isAbsolute 1 := Vok.of (by decide +kernel)
theorem vX5_isAlike : Vok mX5_isAlike 3 := Vok.of (by decide +kernel)
theorem vX5_isAt : Vok mX5_isAt 2 := Vok.of (by decide +kernel)
theorem vX5_isBad : Sok mX5_isBad 1 := Sok.of (by decide +kernel)
theorem vX5_isDigit : Sok mX5_isDigit 1 := Sok.of (by decide +kernel)
theorem vX5_isLabels : Vok mX5_isLabels 2 := Vok.of (by decide +kernel)
theorem vX5_isLetter : Sok mX5_isLetter 1 := Sok.of (by decide +kernel)
theorem vX5_isNumbers : Vok mX5_isNumbers 2 := Vok.of (by decide +kernel)
theorem vX5_isOpaque : Vok mX5_isOpaque 1 := Vok.of (by decide +kernel)
theorem vX5_isSlot : Sok mX5_isSlot 1 := Sok.of (by decide +kernel)
theorem vX5_isThere : Vok mX5_isThere 1 := Vok.of (by decide +kernel)
theorem vX5_isTold : Vok mX5_isTold 0 := Vok.of (by decide +kernel)
theorem vX5_isTrue : Vok mX5_isTrue 0 := Vok.of (by decide +kernel)
theorem vX5_length : Vok mX5_length 0 := Vok.of (by decide +kernel)
theorem vX5_many : Vok mX5_many 2 := Vok.of (by decide +kernel)
theorem vX5_mix : Vok mX5_mix 3 := Vok.of (by decide +kernel)
theorem vX5_next : Vok mX5_next 2 := Vok.of (by decide +kernel)
theorem vX5_noPart : Vok mX5_noPart 2 := Vok.of (by decide +kernel)
theorem vX5_noSlot : Vok mX5_noSlot 1 := Vok.of (by decide +kernel)
theorem vX5_parse : Vok mX5_parse 1 := Vok.of (by decide +kernel)
theorem vX5_partOf : Sok mX5_partOf 1 := Sok.of (by decide +kernel)
theorem vX5_partSign : Vok mX5_partSign 3 := Vok.of (by decide +kernel)
theorem vX5_parts : Vok mX5_parts 0 := Vok.of (by decide +kernel)
theorem vX5_port : Vok mX5_port 1 := Vok.of (by decide +kernel)
theorem vX5_put : Vok mX5_put 3 := Vok.of (by decide +kernel)
theorem vX5_refusals : Vok mX5_refusals 0 := Vok.of (by decide +kernel)
theorem vX5_refusedAt : Vok mX5_refusedAt 0 := Vok.of (by decide +kernel)
theorem vX5_rest : Vok mX5_rest 0 := Vok.of (by decide +kernel)
theorem vX5_sign : Vok mX5_sign 1 := Vok.of (by decide +kernel)
theorem vX5_signAt : Vok mX5_signAt 1 := Vok.of (by decide +kernel)
theorem vX5_size : Vok mX5_size 2 := Vok.of (by decide +kernel)
theorem vX5_slashes : Vok mX5_slashes 0 := Vok.of (by decide +kernel)
theorem vX5_taken : Vok mX5_taken 2 := Vok.of (by decide +kernel)
theorem vX5_thrown : Vok mX5_thrown 0 := Vok.of (by decide +kernel)
theorem vX5_together : Vok mX5_together 1 := Vok.of (by decide +kernel)
theorem vX5_type : Vok mX5_type 1 := Vok.of (by decide +kernel)
theorem vX5_wipe : Vok mX5_wipe 0 := Vok.of (by decide +kernel)
theorem vX5_word : Vok mX5_word 1 := Vok.of (by decide +kernel)
theorem fJ0_9 : Cond.fieldLink RJ0 9 "java/lang/String" "value" "[B" ∈ uw := uw_i (by decide +kernel)
theorem fJ0_15 : Cond.fieldLink RJ0 15 "java/lang/String" "coder" "B" ∈ uw := uw_i (by decide +kernel)
theorem fJ0_38 : Cond.fieldLink RJ0 38 "java/lang/String" "COMPACT_STRINGS" "Z" ∈ uw := uw_i (by decide +kernel)
theorem fJ0_1053 : Cond.fieldLink RJ0 1053 "jdk/internal/util/Preconditions" "SIOOBE_FORMATTER" "Ljava/util/function/BiFunction;" ∈ uw := uw_i (by decide +kernel)
theorem fX0_12 : Cond.fieldLink RX0 12 "Linkloom$Address" "whole" "LLinkloom$Text;" ∈ uw := uw_i (by decide +kernel)
theorem fX0_18 : Cond.fieldLink RX0 18 "Linkloom$Address" "begins" "[I" ∈ uw := uw_i (by decide +kernel)
theorem fX0_22 : Cond.fieldLink RX0 22 "Linkloom$Address" "ends" "[I" ∈ uw := uw_i (by decide +kernel)
theorem fX0_28 : Cond.fieldLink RX0 28 "Linkloom$Address" "isHeld" "Z" ∈ uw := uw_i (by decide +kernel)
theorem fX0_32 : Cond.fieldLink RX0 32 "Linkloom$Address" "portNumber" "I" ∈ uw := uw_i (by decide +kernel)
theorem fX1_12 : Cond.fieldLink RX1 12 "Linkloom$Cutter" "address" "LLinkloom$Address;" ∈ uw := uw_i (by decide +kernel)
theorem fX1_22 : Cond.fieldLink RX1 22 "Linkloom$Cutter" "text" "LLinkloom$Text;" ∈ uw := uw_i (by decide +kernel)
theorem fX1_26 : Cond.fieldLink RX1 26 "Linkloom$Cutter" "refused" "I" ∈ uw := uw_i (by decide +kernel)
theorem fX3_9 : Cond.fieldLink RX3 9 "Linkloom$Text" "signs" "[C" ∈ uw := uw_i (by decide +kernel)
theorem fX3_15 : Cond.fieldLink RX3 15 "Linkloom$Text" "count" "I" ∈ uw := uw_i (by decide +kernel)
theorem fX4_10 : Cond.fieldLink RX4 10 "Linkloom" "text" "LLinkloom$Text;" ∈ uw := uw_i (by decide +kernel)
theorem fX4_16 : Cond.fieldLink RX4 16 "Linkloom" "loom" "LLinkloom$Text;" ∈ uw := uw_i (by decide +kernel)
theorem fX4_22 : Cond.fieldLink RX4 22 "Linkloom" "cutter" "LLinkloom$Cutter;" ∈ uw := uw_i (by decide +kernel)
theorem fX4_28 : Cond.fieldLink RX4 28 "Linkloom" "slots" "[LLinkloom$Address;" ∈ uw := uw_i (by decide +kernel)
theorem fX4_125 : Cond.fieldLink RX4 125 "Linkloom" "refusalCount" "I" ∈ uw := uw_i (by decide +kernel)
theorem fX4_129 : Cond.fieldLink RX4 129 "Linkloom" "refusedPlace" "I" ∈ uw := uw_i (by decide +kernel)
theorem fX5_7 : Cond.fieldLink RX5 7 "LinkloomModel" "text" "[I" ∈ uw := uw_i (by decide +kernel)
theorem fX5_13 : Cond.fieldLink RX5 13 "LinkloomModel" "pieces" "[I" ∈ uw := uw_i (by decide +kernel)
theorem fX5_16 : Cond.fieldLink RX5 16 "LinkloomModel" "signs" "[I" ∈ uw := uw_i (by decide +kernel)
theorem fX5_19 : Cond.fieldLink RX5 19 "LinkloomModel" "long_" "[I" ∈ uw := uw_i (by decide +kernel)
theorem fX5_22 : Cond.fieldLink RX5 22 "LinkloomModel" "from" "[I" ∈ uw := uw_i (by decide +kernel)
theorem fX5_25 : Cond.fieldLink RX5 25 "LinkloomModel" "to" "[I" ∈ uw := uw_i (by decide +kernel)
theorem fX5_28 : Cond.fieldLink RX5 28 "LinkloomModel" "ports" "[I" ∈ uw := uw_i (by decide +kernel)
theorem fX5_31 : Cond.fieldLink RX5 31 "LinkloomModel" "begin" "[I" ∈ uw := uw_i (by decide +kernel)
theorem fX5_34 : Cond.fieldLink RX5 34 "LinkloomModel" "end" "[I" ∈ uw := uw_i (by decide +kernel)
theorem fX5_37 : Cond.fieldLink RX5 37 "LinkloomModel" "code" "I" ∈ uw := uw_i (by decide +kernel)
theorem fX5_53 : Cond.fieldLink RX5 53 "LinkloomModel" "size" "I" ∈ uw := uw_i (by decide +kernel)
theorem fX5_56 : Cond.fieldLink RX5 56 "LinkloomModel" "pieceMany" "I" ∈ uw := uw_i (by decide +kernel)
theorem fX5_104 : Cond.fieldLink RX5 104 "LinkloomModel" "port" "I" ∈ uw := uw_i (by decide +kernel)
theorem fX5_151 : Cond.fieldLink RX5 151 "LinkloomModel" "refused" "I" ∈ uw := uw_i (by decide +kernel)
theorem fX5_154 : Cond.fieldLink RX5 154 "LinkloomModel" "place" "I" ∈ uw := uw_i (by decide +kernel)
end
section
theorem zz_dummy : True := trivial
end
