theorem dX5_init_0 : decode cX5_init 0 = .ok (.aload_n 0, 1) := by decide +kernel
theorem dX5_init_1 : decode cX5_init 1 = .ok (.invokespecial 1, 3) := by decide +kernel
theorem dX5_init_4 : decode cX5_init 4 = .ok (.aload_n 0, 1) := by decide +kernel
theorem dX5_init_5 : decode cX5_init 5 = .ok (.bipush 60, 2) := by decide +kernel
theorem dX5_init_7 : decode cX5_init 7 = .ok (.newarray .int, 2) := by decide +kernel
theorem dX5_init_9 : decode cX5_init 9 = .ok (.putfield 7, 3) := by decide +kernel
theorem dX5_init_12 : decode cX5_init 12 = .ok (.aload_n 0, 1) := by decide +kernel
theorem dX5_init_13 : decode cX5_init 13 = .ok (.bipush 60, 2) := by decide +kernel
theorem dX5_init_15 : decode cX5_init 15 = .ok (.newarray .int, 2) := by decide +kernel
theorem dX5_init_17 : decode cX5_init 17 = .ok (.putfield 13, 3) := by decide +kernel
theorem dX5_init_20 : decode cX5_init 20 = .ok (.aload_n 0, 1) := by decide +kernel
theorem dX5_init_21 : decode cX5_init 21 = .ok (.sipush 240, 3) := by decide +kernel
theorem dX5_init_24 : decode cX5_init 24 = .ok (.newarray .int, 2) := by decide +kernel
theorem dX5_init_26 : decode cX5_init 26 = .ok (.putfield 16, 3) := by decide +kernel
theorem dX5_init_29 : decode cX5_init 29 = .ok (.aload_n 0, 1) := by decide +kernel
theorem dX5_init_30 : decode cX5_init 30 = .ok (.iconst 4, 1) := by decide +kernel
theorem dX5_init_31 : decode cX5_init 31 = .ok (.newarray .int, 2) := by decide +kernel
theorem dX5_init_33 : decode cX5_init 33 = .ok (.dup, 1) := by decide +kernel
theorem dX5_init_34 : decode cX5_init 34 = .ok (.iconst 0, 1) := by decide +kernel
theorem dX5_init_35 : decode cX5_init 35 = .ok (.iconst (-1), 1) := by decide +kernel
theorem dX5_init_36 : decode cX5_init 36 = .ok (.iastore, 1) := by decide +kernel
theorem dX5_init_37 : decode cX5_init 37 = .ok (.dup, 1) := by decide +kernel
theorem dX5_init_38 : decode cX5_init 38 = .ok (.iconst 1, 1) := by decide +kernel
theorem dX5_init_39 : decode cX5_init 39 = .ok (.iconst (-1), 1) := by decide +kernel
theorem dX5_init_40 : decode cX5_init 40 = .ok (.iastore, 1) := by decide +kernel
theorem dX5_init_41 : decode cX5_init 41 = .ok (.dup, 1) := by decide +kernel
theorem dX5_init_42 : decode cX5_init 42 = .ok (.iconst 2, 1) := by decide +kernel
theorem dX5_init_43 : decode cX5_init 43 = .ok (.iconst (-1), 1) := by decide +kernel
theorem dX5_init_44 : decode cX5_init 44 = .ok (.iastore, 1) := by decide +kernel
theorem dX5_init_45 : decode cX5_init 45 = .ok (.dup, 1) := by decide +kernel
theorem dX5_init_46 : decode cX5_init 46 = .ok (.iconst 3, 1) := by decide +kernel
theorem dX5_init_47 : decode cX5_init 47 = .ok (.iconst (-1), 1) := by decide +kernel
theorem dX5_init_48 : decode cX5_init 48 = .ok (.iastore, 1) := by decide +kernel
theorem dX5_init_49 : decode cX5_init 49 = .ok (.putfield 19, 3) := by decide +kernel
theorem dX5_init_52 : decode cX5_init 52 = .ok (.aload_n 0, 1) := by decide +kernel
theorem dX5_init_53 : decode cX5_init 53 = .ok (.bipush 36, 2) := by decide +kernel
theorem dX5_init_55 : decode cX5_init 55 = .ok (.newarray .int, 2) := by decide +kernel
theorem dX5_init_57 : decode cX5_init 57 = .ok (.putfield 22, 3) := by decide +kernel
theorem dX5_init_60 : decode cX5_init 60 = .ok (.aload_n 0, 1) := by decide +kernel
theorem dX5_init_61 : decode cX5_init 61 = .ok (.bipush 36, 2) := by decide +kernel
theorem dX5_init_63 : decode cX5_init 63 = .ok (.newarray .int, 2) := by decide +kernel
theorem dX5_init_65 : decode cX5_init 65 = .ok (.putfield 25, 3) := by decide +kernel
theorem dX5_init_68 : decode cX5_init 68 = .ok (.aload_n 0, 1) := by decide +kernel
theorem dX5_init_69 : decode cX5_init 69 = .ok (.iconst 4, 1) := by decide +kernel
theorem dX5_init_70 : decode cX5_init 70 = .ok (.newarray .int, 2) := by decide +kernel
theorem dX5_init_72 : decode cX5_init 72 = .ok (.putfield 28, 3) := by decide +kernel
theorem dX5_init_75 : decode cX5_init 75 = .ok (.aload_n 0, 1) := by decide +kernel
theorem dX5_init_76 : decode cX5_init 76 = .ok (.bipush 9, 2) := by decide +kernel
theorem dX5_init_78 : decode cX5_init 78 = .ok (.newarray .int, 2) := by decide +kernel
theorem dX5_init_80 : decode cX5_init 80 = .ok (.putfield 31, 3) := by decide +kernel
theorem dX5_init_83 : decode cX5_init 83 = .ok (.aload_n 0, 1) := by decide +kernel
theorem dX5_init_84 : decode cX5_init 84 = .ok (.bipush 9, 2) := by decide +kernel
theorem dX5_init_86 : decode cX5_init 86 = .ok (.newarray .int, 2) := by decide +kernel
theorem dX5_init_88 : decode cX5_init 88 = .ok (.putfield 34, 3) := by decide +kernel
theorem dX5_init_91 : decode cX5_init 91 = .ok (.return_, 1) := by decide +kernel
theorem dX5_thrown_0 : decode cX5_thrown 0 = .ok (.aload_n 0, 1) := by decide +kernel
theorem dX5_thrown_1 : decode cX5_thrown 1 = .ok (.getfield 37, 3) := by decide +kernel
theorem dX5_thrown_4 : decode cX5_thrown 4 = .ok (.ireturn, 1) := by decide +kernel
theorem dX5_fails_0 : decode cX5_fails 0 = .ok (.aload_n 0, 1) := by decide +kernel
theorem dX5_fails_1 : decode cX5_fails 1 = .ok (.iload_n 1, 1) := by decide +kernel
theorem dX5_fails_2 : decode cX5_fails 2 = .ok (.putfield 37, 3) := by decide +kernel
theorem dX5_fails_5 : decode cX5_fails 5 = .ok (.iload_n 1, 1) := by decide +kernel
theorem dX5_fails_6 : decode cX5_fails 6 = .ok (.ifCond .le 7, 3) := by decide +kernel
theorem dX5_fails_9 : decode cX5_fails 9 = .ok (.iconst 1, 1) := by decide +kernel
theorem dX5_fails_10 : decode cX5_fails 10 = .ok (.goto 4, 3) := by decide +kernel
theorem dX5_fails_13 : decode cX5_fails 13 = .ok (.iconst 0, 1) := by decide +kernel
theorem dX5_fails_14 : decode cX5_fails 14 = .ok (.ireturn, 1) := by decide +kernel
theorem dX5_in_0 : decode cX5_in 0 = .ok (.iload_n 0, 1) := by decide +kernel
theorem dX5_in_1 : decode cX5_in 1 = .ok (.iload_n 1, 1) := by decide +kernel
theorem dX5_in_2 : decode cX5_in 2 = .ok (.if_icmp .lt 12, 3) := by decide +kernel
theorem dX5_in_5 : decode cX5_in 5 = .ok (.iload_n 0, 1) := by decide +kernel
theorem dX5_in_6 : decode cX5_in 6 = .ok (.iload_n 2, 1) := by decide +kernel
theorem dX5_in_7 : decode cX5_in 7 = .ok (.if_icmp .gt 7, 3) := by decide +kernel
theorem dX5_in_10 : decode cX5_in 10 = .ok (.iconst 1, 1) := by decide +kernel
theorem dX5_in_11 : decode cX5_in 11 = .ok (.goto 4, 3) := by decide +kernel
theorem dX5_in_14 : decode cX5_in 14 = .ok (.iconst 0, 1) := by decide +kernel
theorem dX5_in_15 : decode cX5_in 15 = .ok (.ireturn, 1) := by decide +kernel
theorem dX5_isSlot_0 : decode cX5_isSlot 0 = .ok (.iload_n 0, 1) := by decide +kernel
theorem dX5_isSlot_1 : decode cX5_isSlot 1 = .ok (.iconst 0, 1) := by decide +kernel
theorem dX5_isSlot_2 : decode cX5_isSlot 2 = .ok (.iconst 3, 1) := by decide +kernel
theorem dX5_isSlot_3 : decode cX5_isSlot 3 = .ok (.invokestatic 41, 3) := by decide +kernel
theorem dX5_isSlot_6 : decode cX5_isSlot 6 = .ok (.ireturn, 1) := by decide +kernel
theorem dX5_partOf_0 : decode cX5_partOf 0 = .ok (.ldc 45, 2) := by decide +kernel
theorem dX5_partOf_2 : decode cX5_partOf 2 = .ok (.iload_n 0, 1) := by decide +kernel
theorem dX5_partOf_3 : decode cX5_partOf 3 = .ok (.invokevirtual 47, 3) := by decide +kernel
theorem dX5_partOf_6 : decode cX5_partOf 6 = .ok (.ireturn, 1) := by decide +kernel
theorem dX5_isLetter_0 : decode cX5_isLetter 0 = .ok (.iload_n 0, 1) := by decide +kernel
theorem dX5_isLetter_1 : decode cX5_isLetter 1 = .ok (.bipush 97, 2) := by decide +kernel
theorem dX5_isLetter_3 : decode cX5_isLetter 3 = .ok (.bipush 122, 2) := by decide +kernel
theorem dX5_isLetter_5 : decode cX5_isLetter 5 = .ok (.invokestatic 41, 3) := by decide +kernel
theorem dX5_isLetter_8 : decode cX5_isLetter 8 = .ok (.ifCond .ne 14, 3) := by decide +kernel
theorem dX5_isLetter_11 : decode cX5_isLetter 11 = .ok (.iload_n 0, 1) := by decide +kernel
theorem dX5_isLetter_12 : decode cX5_isLetter 12 = .ok (.bipush 65, 2) := by decide +kernel
theorem dX5_isLetter_14 : decode cX5_isLetter 14 = .ok (.bipush 90, 2) := by decide +kernel
theorem dX5_isLetter_16 : decode cX5_isLetter 16 = .ok (.invokestatic 41, 3) := by decide +kernel
theorem dX5_isLetter_19 : decode cX5_isLetter 19 = .ok (.ifCond .eq 7, 3) := by decide +kernel
theorem dX5_isLetter_22 : decode cX5_isLetter 22 = .ok (.iconst 1, 1) := by decide +kernel
theorem dX5_isLetter_23 : decode cX5_isLetter 23 = .ok (.goto 4, 3) := by decide +kernel
theorem dX5_isLetter_26 : decode cX5_isLetter 26 = .ok (.iconst 0, 1) := by decide +kernel
theorem dX5_isLetter_27 : decode cX5_isLetter 27 = .ok (.ireturn, 1) := by decide +kernel
theorem dX5_isDigit_0 : decode cX5_isDigit 0 = .ok (.iload_n 0, 1) := by decide +kernel
theorem dX5_isDigit_1 : decode cX5_isDigit 1 = .ok (.bipush 48, 2) := by decide +kernel
theorem dX5_isDigit_3 : decode cX5_isDigit 3 = .ok (.bipush 57, 2) := by decide +kernel
theorem dX5_isDigit_5 : decode cX5_isDigit 5 = .ok (.invokestatic 41, 3) := by decide +kernel
theorem dX5_isDigit_8 : decode cX5_isDigit 8 = .ok (.ireturn, 1) := by decide +kernel
theorem dX5_isBad_0 : decode cX5_isBad 0 = .ok (.iload_n 0, 1) := by decide +kernel
theorem dX5_isBad_1 : decode cX5_isBad 1 = .ok (.bipush 34, 2) := by decide +kernel
theorem dX5_isBad_3 : decode cX5_isBad 3 = .ok (.if_icmp .eq 51, 3) := by decide +kernel
theorem dX5_isBad_6 : decode cX5_isBad 6 = .ok (.iload_n 0, 1) := by decide +kernel
theorem dX5_isBad_7 : decode cX5_isBad 7 = .ok (.bipush 60, 2) := by decide +kernel
theorem dX5_isBad_9 : decode cX5_isBad 9 = .ok (.if_icmp .eq 45, 3) := by decide +kernel
theorem dX5_isBad_12 : decode cX5_isBad 12 = .ok (.iload_n 0, 1) := by decide +kernel
theorem dX5_isBad_13 : decode cX5_isBad 13 = .ok (.bipush 62, 2) := by decide +kernel
theorem dX5_isBad_15 : decode cX5_isBad 15 = .ok (.if_icmp .eq 39, 3) := by decide +kernel
theorem dX5_isBad_18 : decode cX5_isBad 18 = .ok (.iload_n 0, 1) := by decide +kernel
theorem dX5_isBad_19 : decode cX5_isBad 19 = .ok (.bipush 92, 2) := by decide +kernel
theorem dX5_isBad_21 : decode cX5_isBad 21 = .ok (.if_icmp .eq 33, 3) := by decide +kernel
theorem dX5_isBad_24 : decode cX5_isBad 24 = .ok (.iload_n 0, 1) := by decide +kernel
theorem dX5_isBad_25 : decode cX5_isBad 25 = .ok (.bipush 94, 2) := by decide +kernel
theorem dX5_isBad_27 : decode cX5_isBad 27 = .ok (.if_icmp .eq 27, 3) := by decide +kernel
theorem dX5_isBad_30 : decode cX5_isBad 30 = .ok (.iload_n 0, 1) := by decide +kernel
theorem dX5_isBad_31 : decode cX5_isBad 31 = .ok (.bipush 96, 2) := by decide +kernel
theorem dX5_isBad_33 : decode cX5_isBad 33 = .ok (.if_icmp .eq 21, 3) := by decide +kernel
theorem dX5_isBad_36 : decode cX5_isBad 36 = .ok (.iload_n 0, 1) := by decide +kernel
theorem dX5_isBad_37 : decode cX5_isBad 37 = .ok (.bipush 123, 2) := by decide +kernel
theorem dX5_isBad_39 : decode cX5_isBad 39 = .ok (.if_icmp .eq 15, 3) := by decide +kernel
theorem dX5_isBad_42 : decode cX5_isBad 42 = .ok (.iload_n 0, 1) := by decide +kernel
theorem dX5_isBad_43 : decode cX5_isBad 43 = .ok (.bipush 124, 2) := by decide +kernel
theorem dX5_isBad_45 : decode cX5_isBad 45 = .ok (.if_icmp .eq 9, 3) := by decide +kernel
theorem dX5_isBad_48 : decode cX5_isBad 48 = .ok (.iload_n 0, 1) := by decide +kernel
theorem dX5_isBad_49 : decode cX5_isBad 49 = .ok (.bipush 125, 2) := by decide +kernel
theorem dX5_isBad_51 : decode cX5_isBad 51 = .ok (.if_icmp .ne 7, 3) := by decide +kernel
theorem dX5_isBad_54 : decode cX5_isBad 54 = .ok (.iconst 1, 1) := by decide +kernel
theorem dX5_isBad_55 : decode cX5_isBad 55 = .ok (.goto 4, 3) := by decide +kernel
theorem dX5_isBad_58 : decode cX5_isBad 58 = .ok (.iconst 0, 1) := by decide +kernel
theorem dX5_isBad_59 : decode cX5_isBad 59 = .ok (.ireturn, 1) := by decide +kernel
theorem dX5_canType_0 : decode cX5_canType 0 = .ok (.iload_n 0, 1) := by decide +kernel
theorem dX5_canType_1 : decode cX5_canType 1 = .ok (.bipush 33, 2) := by decide +kernel
theorem dX5_canType_3 : decode cX5_canType 3 = .ok (.bipush 126, 2) := by decide +kernel
theorem dX5_canType_5 : decode cX5_canType 5 = .ok (.invokestatic 41, 3) := by decide +kernel
theorem dX5_canType_8 : decode cX5_canType 8 = .ok (.ifCond .eq 31, 3) := by decide +kernel
theorem dX5_canType_11 : decode cX5_canType 11 = .ok (.iload_n 0, 1) := by decide +kernel
theorem dX5_canType_12 : decode cX5_canType 12 = .ok (.bipush 37, 2) := by decide +kernel
theorem dX5_canType_14 : decode cX5_canType 14 = .ok (.if_icmp .eq 25, 3) := by decide +kernel
theorem dX5_canType_17 : decode cX5_canType 17 = .ok (.iload_n 0, 1) := by decide +kernel
theorem dX5_canType_18 : decode cX5_canType 18 = .ok (.bipush 91, 2) := by decide +kernel
theorem dX5_canType_20 : decode cX5_canType 20 = .ok (.if_icmp .eq 19, 3) := by decide +kernel
theorem dX5_canType_23 : decode cX5_canType 23 = .ok (.iload_n 0, 1) := by decide +kernel
theorem dX5_canType_24 : decode cX5_canType 24 = .ok (.bipush 93, 2) := by decide +kernel
theorem dX5_canType_26 : decode cX5_canType 26 = .ok (.if_icmp .eq 13, 3) := by decide +kernel
theorem dX5_canType_29 : decode cX5_canType 29 = .ok (.iload_n 0, 1) := by decide +kernel
theorem dX5_canType_30 : decode cX5_canType 30 = .ok (.bipush 48, 2) := by decide +kernel
theorem dX5_canType_32 : decode cX5_canType 32 = .ok (.if_icmp .eq 7, 3) := by decide +kernel
theorem dX5_canType_35 : decode cX5_canType 35 = .ok (.iconst 1, 1) := by decide +kernel
theorem dX5_canType_36 : decode cX5_canType 36 = .ok (.goto 4, 3) := by decide +kernel
theorem dX5_canType_39 : decode cX5_canType 39 = .ok (.iconst 0, 1) := by decide +kernel
theorem dX5_canType_40 : decode cX5_canType 40 = .ok (.ireturn, 1) := by decide +kernel
theorem dX5_put_0 : decode cX5_put 0 = .ok (.iload_n 2, 1) := by decide +kernel
theorem dX5_put_1 : decode cX5_put 1 = .ok (.istore 4, 2) := by decide +kernel
theorem dX5_put_3 : decode cX5_put 3 = .ok (.iload 4, 2) := by decide +kernel
theorem dX5_put_5 : decode cX5_put 5 = .ok (.iload_n 3, 1) := by decide +kernel
theorem dX5_put_6 : decode cX5_put 6 = .ok (.if_icmp .ge 96, 3) := by decide +kernel
theorem dX5_put_9 : decode cX5_put 9 = .ok (.aload_n 1, 1) := by decide +kernel
theorem dX5_put_10 : decode cX5_put 10 = .ok (.iload 4, 2) := by decide +kernel
theorem dX5_put_12 : decode cX5_put 12 = .ok (.iaload, 1) := by decide +kernel
theorem dX5_put_13 : decode cX5_put 13 = .ok (.bipush 37, 2) := by decide +kernel
theorem dX5_put_15 : decode cX5_put 15 = .ok (.if_icmp .ne 7, 3) := by decide +kernel
theorem dX5_put_18 : decode cX5_put 18 = .ok (.iconst 3, 1) := by decide +kernel
theorem dX5_put_19 : decode cX5_put 19 = .ok (.goto 4, 3) := by decide +kernel
theorem dX5_put_22 : decode cX5_put 22 = .ok (.iconst 1, 1) := by decide +kernel
theorem dX5_put_23 : decode cX5_put 23 = .ok (.istore 5, 2) := by decide +kernel
theorem dX5_put_25 : decode cX5_put 25 = .ok (.iconst 0, 1) := by decide +kernel
theorem dX5_put_26 : decode cX5_put 26 = .ok (.istore 6, 2) := by decide +kernel
theorem dX5_put_28 : decode cX5_put 28 = .ok (.iload 6, 2) := by decide +kernel
theorem dX5_put_30 : decode cX5_put 30 = .ok (.iload 5, 2) := by decide +kernel
theorem dX5_put_32 : decode cX5_put 32 = .ok (.if_icmp .ge 28, 3) := by decide +kernel
theorem dX5_put_35 : decode cX5_put 35 = .ok (.aload_n 0, 1) := by decide +kernel
theorem dX5_put_36 : decode cX5_put 36 = .ok (.getfield 7, 3) := by decide +kernel
theorem dX5_put_39 : decode cX5_put 39 = .ok (.aload_n 0, 1) := by decide +kernel
theorem dX5_put_40 : decode cX5_put 40 = .ok (.getfield 53, 3) := by decide +kernel
theorem dX5_put_43 : decode cX5_put 43 = .ok (.iload 6, 2) := by decide +kernel
theorem dX5_put_45 : decode cX5_put 45 = .ok (.iadd, 1) := by decide +kernel
theorem dX5_put_46 : decode cX5_put 46 = .ok (.aload_n 1, 1) := by decide +kernel
theorem dX5_put_47 : decode cX5_put 47 = .ok (.iload 4, 2) := by decide +kernel
theorem dX5_put_49 : decode cX5_put 49 = .ok (.iload 6, 2) := by decide +kernel
theorem dX5_put_51 : decode cX5_put 51 = .ok (.iadd, 1) := by decide +kernel
theorem dX5_put_52 : decode cX5_put 52 = .ok (.iaload, 1) := by decide +kernel
theorem dX5_put_53 : decode cX5_put 53 = .ok (.iastore, 1) := by decide +kernel
theorem dX5_put_54 : decode cX5_put 54 = .ok (.iinc 6 1, 3) := by decide +kernel
theorem dX5_put_57 : decode cX5_put 57 = .ok (.goto (-29), 3) := by decide +kernel
theorem dX5_put_60 : decode cX5_put 60 = .ok (.aload_n 0, 1) := by decide +kernel
theorem dX5_put_61 : decode cX5_put 61 = .ok (.dup, 1) := by decide +kernel
theorem dX5_put_62 : decode cX5_put 62 = .ok (.getfield 53, 3) := by decide +kernel
theorem dX5_put_65 : decode cX5_put 65 = .ok (.iload 5, 2) := by decide +kernel
theorem dX5_put_67 : decode cX5_put 67 = .ok (.iadd, 1) := by decide +kernel
theorem dX5_put_68 : decode cX5_put 68 = .ok (.putfield 53, 3) := by decide +kernel
theorem dX5_put_71 : decode cX5_put 71 = .ok (.aload_n 0, 1) := by decide +kernel
theorem dX5_put_72 : decode cX5_put 72 = .ok (.getfield 13, 3) := by decide +kernel
theorem dX5_put_75 : decode cX5_put 75 = .ok (.aload_n 0, 1) := by decide +kernel
theorem dX5_put_76 : decode cX5_put 76 = .ok (.getfield 56, 3) := by decide +kernel
theorem dX5_put_79 : decode cX5_put 79 = .ok (.iload 5, 2) := by decide +kernel
theorem dX5_put_81 : decode cX5_put 81 = .ok (.iastore, 1) := by decide +kernel
theorem dX5_put_82 : decode cX5_put 82 = .ok (.aload_n 0, 1) := by decide +kernel
theorem dX5_put_83 : decode cX5_put 83 = .ok (.dup, 1) := by decide +kernel
theorem dX5_put_84 : decode cX5_put 84 = .ok (.getfield 56, 3) := by decide +kernel
theorem dX5_put_87 : decode cX5_put 87 = .ok (.iconst 1, 1) := by decide +kernel
theorem dX5_put_88 : decode cX5_put 88 = .ok (.iadd, 1) := by decide +kernel
theorem dX5_put_89 : decode cX5_put 89 = .ok (.putfield 56, 3) := by decide +kernel
theorem dX5_put_92 : decode cX5_put 92 = .ok (.iload 4, 2) := by decide +kernel
theorem dX5_put_94 : decode cX5_put 94 = .ok (.iload 5, 2) := by decide +kernel
theorem dX5_put_96 : decode cX5_put 96 = .ok (.iadd, 1) := by decide +kernel
theorem dX5_put_97 : decode cX5_put 97 = .ok (.istore 4, 2) := by decide +kernel
theorem dX5_put_99 : decode cX5_put 99 = .ok (.goto (-96), 3) := by decide +kernel
theorem dX5_put_102 : decode cX5_put 102 = .ok (.return_, 1) := by decide +kernel
theorem dX5_type_0 : decode cX5_type 0 = .ok (.aload_n 0, 1) := by decide +kernel
theorem dX5_type_1 : decode cX5_type 1 = .ok (.iload_n 1, 1) := by decide +kernel
theorem dX5_type_2 : decode cX5_type 2 = .ok (.invokestatic 59, 3) := by decide +kernel
theorem dX5_type_5 : decode cX5_type 5 = .ok (.ifCond .ne 7, 3) := by decide +kernel
theorem dX5_type_8 : decode cX5_type 8 = .ok (.iconst 1, 1) := by decide +kernel
theorem dX5_type_9 : decode cX5_type 9 = .ok (.goto 17, 3) := by decide +kernel
theorem dX5_type_12 : decode cX5_type 12 = .ok (.aload_n 0, 1) := by decide +kernel
theorem dX5_type_13 : decode cX5_type 13 = .ok (.getfield 53, 3) := by decide +kernel
theorem dX5_type_16 : decode cX5_type 16 = .ok (.bipush 60, 2) := by decide +kernel
theorem dX5_type_18 : decode cX5_type 18 = .ok (.if_icmp .ne 7, 3) := by decide +kernel
theorem dX5_type_21 : decode cX5_type 21 = .ok (.iconst 2, 1) := by decide +kernel
theorem dX5_type_22 : decode cX5_type 22 = .ok (.goto 4, 3) := by decide +kernel
theorem dX5_type_25 : decode cX5_type 25 = .ok (.iconst 0, 1) := by decide +kernel
theorem dX5_type_26 : decode cX5_type 26 = .ok (.invokevirtual 63, 3) := by decide +kernel
theorem dX5_type_29 : decode cX5_type 29 = .ok (.ifCond .eq 5, 3) := by decide +kernel
theorem dX5_type_32 : decode cX5_type 32 = .ok (.iconst 0, 1) := by decide +kernel
theorem dX5_type_33 : decode cX5_type 33 = .ok (.ireturn, 1) := by decide +kernel
theorem dX5_type_34 : decode cX5_type 34 = .ok (.aload_n 0, 1) := by decide +kernel
theorem dX5_type_35 : decode cX5_type 35 = .ok (.iconst 1, 1) := by decide +kernel
theorem dX5_type_36 : decode cX5_type 36 = .ok (.newarray .int, 2) := by decide +kernel
theorem dX5_type_38 : decode cX5_type 38 = .ok (.dup, 1) := by decide +kernel
theorem dX5_type_39 : decode cX5_type 39 = .ok (.iconst 0, 1) := by decide +kernel
theorem dX5_type_40 : decode cX5_type 40 = .ok (.iload_n 1, 1) := by decide +kernel
theorem dX5_type_41 : decode cX5_type 41 = .ok (.iastore, 1) := by decide +kernel
theorem dX5_type_42 : decode cX5_type 42 = .ok (.iconst 0, 1) := by decide +kernel
theorem dX5_type_43 : decode cX5_type 43 = .ok (.iconst 1, 1) := by decide +kernel
theorem dX5_type_44 : decode cX5_type 44 = .ok (.invokevirtual 66, 3) := by decide +kernel
theorem dX5_type_47 : decode cX5_type 47 = .ok (.aload_n 0, 1) := by decide +kernel
theorem dX5_type_48 : decode cX5_type 48 = .ok (.getfield 53, 3) := by decide +kernel
theorem dX5_type_51 : decode cX5_type 51 = .ok (.ireturn, 1) := by decide +kernel
theorem dX5_digit_0 : decode cX5_digit 0 = .ok (.iload_n 0, 1) := by decide +kernel
theorem dX5_digit_1 : decode cX5_digit 1 = .ok (.bipush 10, 2) := by decide +kernel
theorem dX5_digit_3 : decode cX5_digit 3 = .ok (.if_icmp .ge 10, 3) := by decide +kernel
theorem dX5_digit_6 : decode cX5_digit 6 = .ok (.bipush 48, 2) := by decide +kernel
theorem dX5_digit_8 : decode cX5_digit 8 = .ok (.iload_n 0, 1) := by decide +kernel
theorem dX5_digit_9 : decode cX5_digit 9 = .ok (.iadd, 1) := by decide +kernel
theorem dX5_digit_10 : decode cX5_digit 10 = .ok (.goto 19, 3) := by decide +kernel
theorem dX5_digit_13 : decode cX5_digit 13 = .ok (.iload_n 1, 1) := by decide +kernel
theorem dX5_digit_14 : decode cX5_digit 14 = .ok (.ifCond .eq 8, 3) := by decide +kernel
theorem dX5_digit_17 : decode cX5_digit 17 = .ok (.bipush 97, 2) := by decide +kernel
theorem dX5_digit_19 : decode cX5_digit 19 = .ok (.goto 5, 3) := by decide +kernel
theorem dX5_digit_22 : decode cX5_digit 22 = .ok (.bipush 65, 2) := by decide +kernel
theorem dX5_digit_24 : decode cX5_digit 24 = .ok (.iload_n 0, 1) := by decide +kernel
theorem dX5_digit_25 : decode cX5_digit 25 = .ok (.iadd, 1) := by decide +kernel
theorem dX5_digit_26 : decode cX5_digit 26 = .ok (.bipush 10, 2) := by decide +kernel
theorem dX5_digit_28 : decode cX5_digit 28 = .ok (.isub, 1) := by decide +kernel
theorem dX5_digit_29 : decode cX5_digit 29 = .ok (.ireturn, 1) := by decide +kernel
theorem dX5_escape_0 : decode cX5_escape 0 = .ok (.aload_n 0, 1) := by decide +kernel
theorem dX5_escape_1 : decode cX5_escape 1 = .ok (.iload_n 1, 1) := by decide +kernel
theorem dX5_escape_2 : decode cX5_escape 2 = .ok (.iconst 0, 1) := by decide +kernel
theorem dX5_escape_3 : decode cX5_escape 3 = .ok (.sipush 255, 3) := by decide +kernel
theorem dX5_escape_6 : decode cX5_escape 6 = .ok (.invokestatic 41, 3) := by decide +kernel
theorem dX5_escape_9 : decode cX5_escape 9 = .ok (.ifCond .ne 7, 3) := by decide +kernel
theorem dX5_escape_12 : decode cX5_escape 12 = .ok (.iconst 1, 1) := by decide +kernel
theorem dX5_escape_13 : decode cX5_escape 13 = .ok (.goto 19, 3) := by decide +kernel
theorem dX5_escape_16 : decode cX5_escape 16 = .ok (.aload_n 0, 1) := by decide +kernel
theorem dX5_escape_17 : decode cX5_escape 17 = .ok (.getfield 53, 3) := by decide +kernel
theorem dX5_escape_20 : decode cX5_escape 20 = .ok (.iconst 3, 1) := by decide +kernel
theorem dX5_escape_21 : decode cX5_escape 21 = .ok (.iadd, 1) := by decide +kernel
theorem dX5_escape_22 : decode cX5_escape 22 = .ok (.bipush 60, 2) := by decide +kernel
theorem dX5_escape_24 : decode cX5_escape 24 = .ok (.if_icmp .le 7, 3) := by decide +kernel
theorem dX5_escape_27 : decode cX5_escape 27 = .ok (.iconst 2, 1) := by decide +kernel
theorem dX5_escape_28 : decode cX5_escape 28 = .ok (.goto 4, 3) := by decide +kernel
theorem dX5_escape_31 : decode cX5_escape 31 = .ok (.iconst 0, 1) := by decide +kernel
theorem dX5_escape_32 : decode cX5_escape 32 = .ok (.invokevirtual 63, 3) := by decide +kernel
theorem dX5_escape_35 : decode cX5_escape 35 = .ok (.ifCond .eq 5, 3) := by decide +kernel
theorem dX5_escape_38 : decode cX5_escape 38 = .ok (.iconst 0, 1) := by decide +kernel
theorem dX5_escape_39 : decode cX5_escape 39 = .ok (.ireturn, 1) := by decide +kernel
theorem dX5_escape_40 : decode cX5_escape 40 = .ok (.aload_n 0, 1) := by decide +kernel
theorem dX5_escape_41 : decode cX5_escape 41 = .ok (.iconst 3, 1) := by decide +kernel
theorem dX5_escape_42 : decode cX5_escape 42 = .ok (.newarray .int, 2) := by decide +kernel
theorem dX5_escape_44 : decode cX5_escape 44 = .ok (.dup, 1) := by decide +kernel
theorem dX5_escape_45 : decode cX5_escape 45 = .ok (.iconst 0, 1) := by decide +kernel
theorem dX5_escape_46 : decode cX5_escape 46 = .ok (.bipush 37, 2) := by decide +kernel
theorem dX5_escape_48 : decode cX5_escape 48 = .ok (.iastore, 1) := by decide +kernel
theorem dX5_escape_49 : decode cX5_escape 49 = .ok (.dup, 1) := by decide +kernel
theorem dX5_escape_50 : decode cX5_escape 50 = .ok (.iconst 1, 1) := by decide +kernel
theorem dX5_escape_51 : decode cX5_escape 51 = .ok (.iload_n 1, 1) := by decide +kernel
theorem dX5_escape_52 : decode cX5_escape 52 = .ok (.bipush 16, 2) := by decide +kernel
theorem dX5_escape_54 : decode cX5_escape 54 = .ok (.idiv, 1) := by decide +kernel
theorem dX5_escape_55 : decode cX5_escape 55 = .ok (.iload_n 2, 1) := by decide +kernel
theorem dX5_escape_56 : decode cX5_escape 56 = .ok (.invokestatic 70, 3) := by decide +kernel
theorem dX5_escape_59 : decode cX5_escape 59 = .ok (.iastore, 1) := by decide +kernel
theorem dX5_escape_60 : decode cX5_escape 60 = .ok (.dup, 1) := by decide +kernel
theorem dX5_escape_61 : decode cX5_escape 61 = .ok (.iconst 2, 1) := by decide +kernel
theorem dX5_escape_62 : decode cX5_escape 62 = .ok (.iload_n 1, 1) := by decide +kernel
theorem dX5_escape_63 : decode cX5_escape 63 = .ok (.bipush 16, 2) := by decide +kernel
theorem dX5_escape_65 : decode cX5_escape 65 = .ok (.irem, 1) := by decide +kernel
theorem dX5_escape_66 : decode cX5_escape 66 = .ok (.iload_n 2, 1) := by decide +kernel
theorem dX5_escape_67 : decode cX5_escape 67 = .ok (.invokestatic 70, 3) := by decide +kernel
theorem dX5_escape_70 : decode cX5_escape 70 = .ok (.iastore, 1) := by decide +kernel
theorem dX5_escape_71 : decode cX5_escape 71 = .ok (.iconst 0, 1) := by decide +kernel
theorem dX5_escape_72 : decode cX5_escape 72 = .ok (.iconst 3, 1) := by decide +kernel
theorem dX5_escape_73 : decode cX5_escape 73 = .ok (.invokevirtual 66, 3) := by decide +kernel
theorem dX5_escape_76 : decode cX5_escape 76 = .ok (.aload_n 0, 1) := by decide +kernel
theorem dX5_escape_77 : decode cX5_escape 77 = .ok (.getfield 53, 3) := by decide +kernel
theorem dX5_escape_80 : decode cX5_escape 80 = .ok (.ireturn, 1) := by decide +kernel
theorem dX5_word_0 : decode cX5_word 0 = .ok (.bipush 16, 2) := by decide +kernel
theorem dX5_word_2 : decode cX5_word 2 = .ok (.newarray .int, 2) := by decide +kernel
theorem dX5_word_4 : decode cX5_word 4 = .ok (.astore_n 2, 1) := by decide +kernel
theorem dX5_word_5 : decode cX5_word 5 = .ok (.iconst 0, 1) := by decide +kernel
theorem dX5_word_6 : decode cX5_word 6 = .ok (.istore_n 3, 1) := by decide +kernel
theorem dX5_word_7 : decode cX5_word 7 = .ok (.iconst 0, 1) := by decide +kernel
theorem dX5_word_8 : decode cX5_word 8 = .ok (.istore 4, 2) := by decide +kernel
theorem dX5_word_10 : decode cX5_word 10 = .ok (.iconst 0, 1) := by decide +kernel
theorem dX5_word_11 : decode cX5_word 11 = .ok (.istore 5, 2) := by decide +kernel
theorem dX5_word_13 : decode cX5_word 13 = .ok (.iload 5, 2) := by decide +kernel
theorem dX5_word_15 : decode cX5_word 15 = .ok (.iload_n 1, 1) := by decide +kernel
theorem dX5_word_16 : decode cX5_word 16 = .ok (.if_icmp .ge 26, 3) := by decide +kernel
theorem dX5_word_19 : decode cX5_word 19 = .ok (.iload_n 1, 1) := by decide +kernel
theorem dX5_word_20 : decode cX5_word 20 = .ok (.bipush 32, 2) := by decide +kernel
theorem dX5_word_22 : decode cX5_word 22 = .ok (.if_icmp .ge 20, 3) := by decide +kernel
theorem dX5_word_25 : decode cX5_word 25 = .ok (.ldc 74, 2) := by decide +kernel
theorem dX5_word_27 : decode cX5_word 27 = .ok (.bipush 32, 2) := by decide +kernel
theorem dX5_word_29 : decode cX5_word 29 = .ok (.iload_n 3, 1) := by decide +kernel
theorem dX5_word_30 : decode cX5_word 30 = .ok (.invokevirtual 76, 3) := by decide +kernel
theorem dX5_word_33 : decode cX5_word 33 = .ok (.iconst 1, 1) := by decide +kernel
theorem dX5_word_34 : decode cX5_word 34 = .ok (.iadd, 1) := by decide +kernel
theorem dX5_word_35 : decode cX5_word 35 = .ok (.istore_n 3, 1) := by decide +kernel
theorem dX5_word_36 : decode cX5_word 36 = .ok (.iinc 5 1, 3) := by decide +kernel
theorem dX5_word_39 : decode cX5_word 39 = .ok (.goto (-26), 3) := by decide +kernel
theorem dX5_word_42 : decode cX5_word 42 = .ok (.iload_n 1, 1) := by decide +kernel
theorem dX5_word_43 : decode cX5_word 43 = .ok (.iconst 0, 1) := by decide +kernel
theorem dX5_word_44 : decode cX5_word 44 = .ok (.bipush 31, 2) := by decide +kernel
theorem dX5_word_46 : decode cX5_word 46 = .ok (.invokestatic 41, 3) := by decide +kernel
theorem dX5_word_49 : decode cX5_word 49 = .ok (.ifCond .eq 36, 3) := by decide +kernel
theorem dX5_word_52 : decode cX5_word 52 = .ok (.ldc 74, 2) := by decide +kernel
theorem dX5_word_54 : decode cX5_word 54 = .ok (.iload_n 3, 1) := by decide +kernel
theorem dX5_word_55 : decode cX5_word 55 = .ok (.iload 4, 2) := by decide +kernel
theorem dX5_word_57 : decode cX5_word 57 = .ok (.iadd, 1) := by decide +kernel
theorem dX5_word_58 : decode cX5_word 58 = .ok (.invokevirtual 79, 3) := by decide +kernel
theorem dX5_word_61 : decode cX5_word 61 = .ok (.bipush 32, 2) := by decide +kernel
theorem dX5_word_63 : decode cX5_word 63 = .ok (.if_icmp .eq 22, 3) := by decide +kernel
theorem dX5_word_66 : decode cX5_word 66 = .ok (.aload_n 2, 1) := by decide +kernel
theorem dX5_word_67 : decode cX5_word 67 = .ok (.iload 4, 2) := by decide +kernel
theorem dX5_word_69 : decode cX5_word 69 = .ok (.ldc 74, 2) := by decide +kernel
theorem dX5_word_71 : decode cX5_word 71 = .ok (.iload_n 3, 1) := by decide +kernel
theorem dX5_word_72 : decode cX5_word 72 = .ok (.iload 4, 2) := by decide +kernel
theorem dX5_word_74 : decode cX5_word 74 = .ok (.iadd, 1) := by decide +kernel
theorem dX5_word_75 : decode cX5_word 75 = .ok (.invokevirtual 79, 3) := by decide +kernel
theorem dX5_word_78 : decode cX5_word 78 = .ok (.iastore, 1) := by decide +kernel
theorem dX5_word_79 : decode cX5_word 79 = .ok (.iinc 4 1, 3) := by decide +kernel
theorem dX5_word_82 : decode cX5_word 82 = .ok (.goto (-40), 3) := by decide +kernel
theorem dX5_word_85 : decode cX5_word 85 = .ok (.aload_n 0, 1) := by decide +kernel
theorem dX5_word_86 : decode cX5_word 86 = .ok (.iload_n 1, 1) := by decide +kernel
theorem dX5_word_87 : decode cX5_word 87 = .ok (.iconst 0, 1) := by decide +kernel
theorem dX5_word_88 : decode cX5_word 88 = .ok (.bipush 31, 2) := by decide +kernel
theorem dX5_word_90 : decode cX5_word 90 = .ok (.invokestatic 41, 3) := by decide +kernel
theorem dX5_word_93 : decode cX5_word 93 = .ok (.ifCond .ne 7, 3) := by decide +kernel
theorem dX5_word_96 : decode cX5_word 96 = .ok (.iconst 1, 1) := by decide +kernel
theorem dX5_word_97 : decode cX5_word 97 = .ok (.goto 20, 3) := by decide +kernel
theorem dX5_word_100 : decode cX5_word 100 = .ok (.aload_n 0, 1) := by decide +kernel
theorem dX5_word_101 : decode cX5_word 101 = .ok (.getfield 53, 3) := by decide +kernel
theorem dX5_word_104 : decode cX5_word 104 = .ok (.iload 4, 2) := by decide +kernel
theorem dX5_word_106 : decode cX5_word 106 = .ok (.iadd, 1) := by decide +kernel
theorem dX5_word_107 : decode cX5_word 107 = .ok (.bipush 60, 2) := by decide +kernel
theorem dX5_word_109 : decode cX5_word 109 = .ok (.if_icmp .le 7, 3) := by decide +kernel
theorem dX5_word_112 : decode cX5_word 112 = .ok (.iconst 2, 1) := by decide +kernel
theorem dX5_word_113 : decode cX5_word 113 = .ok (.goto 4, 3) := by decide +kernel
theorem dX5_word_116 : decode cX5_word 116 = .ok (.iconst 0, 1) := by decide +kernel
theorem dX5_word_117 : decode cX5_word 117 = .ok (.invokevirtual 63, 3) := by decide +kernel
theorem dX5_word_120 : decode cX5_word 120 = .ok (.ifCond .eq 5, 3) := by decide +kernel
theorem dX5_word_123 : decode cX5_word 123 = .ok (.iconst 0, 1) := by decide +kernel
theorem dX5_word_124 : decode cX5_word 124 = .ok (.ireturn, 1) := by decide +kernel
theorem dX5_word_125 : decode cX5_word 125 = .ok (.aload_n 0, 1) := by decide +kernel
theorem dX5_word_126 : decode cX5_word 126 = .ok (.aload_n 2, 1) := by decide +kernel
theorem dX5_word_127 : decode cX5_word 127 = .ok (.iconst 0, 1) := by decide +kernel
theorem dX5_word_128 : decode cX5_word 128 = .ok (.iload 4, 2) := by decide +kernel
theorem dX5_word_130 : decode cX5_word 130 = .ok (.invokevirtual 66, 3) := by decide +kernel
theorem dX5_word_133 : decode cX5_word 133 = .ok (.aload_n 0, 1) := by decide +kernel
theorem dX5_word_134 : decode cX5_word 134 = .ok (.getfield 53, 3) := by decide +kernel
theorem dX5_word_137 : decode cX5_word 137 = .ok (.ireturn, 1) := by decide +kernel
theorem dX5_drop_0 : decode cX5_drop 0 = .ok (.aload_n 0, 1) := by decide +kernel
theorem dX5_drop_1 : decode cX5_drop 1 = .ok (.aload_n 0, 1) := by decide +kernel
theorem dX5_drop_2 : decode cX5_drop 2 = .ok (.getfield 56, 3) := by decide +kernel
theorem dX5_drop_5 : decode cX5_drop 5 = .ok (.ifCond .ne 7, 3) := by decide +kernel
theorem dX5_drop_8 : decode cX5_drop 8 = .ok (.iconst 1, 1) := by decide +kernel
theorem dX5_drop_9 : decode cX5_drop 9 = .ok (.goto 4, 3) := by decide +kernel
theorem dX5_drop_12 : decode cX5_drop 12 = .ok (.iconst 0, 1) := by decide +kernel
theorem dX5_drop_13 : decode cX5_drop 13 = .ok (.invokevirtual 63, 3) := by decide +kernel
theorem dX5_drop_16 : decode cX5_drop 16 = .ok (.ifCond .eq 5, 3) := by decide +kernel
theorem dX5_drop_19 : decode cX5_drop 19 = .ok (.iconst 0, 1) := by decide +kernel
theorem dX5_drop_20 : decode cX5_drop 20 = .ok (.ireturn, 1) := by decide +kernel
theorem dX5_drop_21 : decode cX5_drop 21 = .ok (.aload_n 0, 1) := by decide +kernel
theorem dX5_drop_22 : decode cX5_drop 22 = .ok (.dup, 1) := by decide +kernel
theorem dX5_drop_23 : decode cX5_drop 23 = .ok (.getfield 56, 3) := by decide +kernel
theorem dX5_drop_26 : decode cX5_drop 26 = .ok (.iconst 1, 1) := by decide +kernel
theorem dX5_drop_27 : decode cX5_drop 27 = .ok (.isub, 1) := by decide +kernel
theorem dX5_drop_28 : decode cX5_drop 28 = .ok (.putfield 56, 3) := by decide +kernel
theorem dX5_drop_31 : decode cX5_drop 31 = .ok (.aload_n 0, 1) := by decide +kernel
theorem dX5_drop_32 : decode cX5_drop 32 = .ok (.dup, 1) := by decide +kernel
theorem dX5_drop_33 : decode cX5_drop 33 = .ok (.getfield 53, 3) := by decide +kernel
theorem dX5_drop_36 : decode cX5_drop 36 = .ok (.aload_n 0, 1) := by decide +kernel
theorem dX5_drop_37 : decode cX5_drop 37 = .ok (.getfield 13, 3) := by decide +kernel
theorem dX5_drop_40 : decode cX5_drop 40 = .ok (.aload_n 0, 1) := by decide +kernel
theorem dX5_drop_41 : decode cX5_drop 41 = .ok (.getfield 56, 3) := by decide +kernel
theorem dX5_drop_44 : decode cX5_drop 44 = .ok (.iaload, 1) := by decide +kernel
theorem dX5_drop_45 : decode cX5_drop 45 = .ok (.isub, 1) := by decide +kernel
theorem dX5_drop_46 : decode cX5_drop 46 = .ok (.putfield 53, 3) := by decide +kernel
theorem dX5_drop_49 : decode cX5_drop 49 = .ok (.aload_n 0, 1) := by decide +kernel
theorem dX5_drop_50 : decode cX5_drop 50 = .ok (.getfield 53, 3) := by decide +kernel
theorem dX5_drop_53 : decode cX5_drop 53 = .ok (.ireturn, 1) := by decide +kernel
theorem dX5_wipe_0 : decode cX5_wipe 0 = .ok (.aload_n 0, 1) := by decide +kernel
theorem dX5_wipe_1 : decode cX5_wipe 1 = .ok (.iconst 0, 1) := by decide +kernel
theorem dX5_wipe_2 : decode cX5_wipe 2 = .ok (.putfield 37, 3) := by decide +kernel
theorem dX5_wipe_5 : decode cX5_wipe 5 = .ok (.aload_n 0, 1) := by decide +kernel
theorem dX5_wipe_6 : decode cX5_wipe 6 = .ok (.getfield 53, 3) := by decide +kernel
theorem dX5_wipe_9 : decode cX5_wipe 9 = .ok (.istore_n 1, 1) := by decide +kernel
theorem dX5_wipe_10 : decode cX5_wipe 10 = .ok (.aload_n 0, 1) := by decide +kernel
theorem dX5_wipe_11 : decode cX5_wipe 11 = .ok (.iconst 0, 1) := by decide +kernel
theorem dX5_wipe_12 : decode cX5_wipe 12 = .ok (.putfield 53, 3) := by decide +kernel
theorem dX5_wipe_15 : decode cX5_wipe 15 = .ok (.aload_n 0, 1) := by decide +kernel
theorem dX5_wipe_16 : decode cX5_wipe 16 = .ok (.iconst 0, 1) := by decide +kernel
theorem dX5_wipe_17 : decode cX5_wipe 17 = .ok (.putfield 56, 3) := by decide +kernel
theorem dX5_wipe_20 : decode cX5_wipe 20 = .ok (.iload_n 1, 1) := by decide +kernel
theorem dX5_wipe_21 : decode cX5_wipe 21 = .ok (.ireturn, 1) := by decide +kernel
theorem dX5_length_0 : decode cX5_length 0 = .ok (.aload_n 0, 1) := by decide +kernel
theorem dX5_length_1 : decode cX5_length 1 = .ok (.iconst 0, 1) := by decide +kernel
theorem dX5_length_2 : decode cX5_length 2 = .ok (.putfield 37, 3) := by decide +kernel
theorem dX5_length_5 : decode cX5_length 5 = .ok (.aload_n 0, 1) := by decide +kernel
theorem dX5_length_6 : decode cX5_length 6 = .ok (.getfield 53, 3) := by decide +kernel
theorem dX5_length_9 : decode cX5_length 9 = .ok (.ireturn, 1) := by decide +kernel
theorem dX5_signAt_0 : decode cX5_signAt 0 = .ok (.aload_n 0, 1) := by decide +kernel
theorem dX5_signAt_1 : decode cX5_signAt 1 = .ok (.iload_n 1, 1) := by decide +kernel
theorem dX5_signAt_2 : decode cX5_signAt 2 = .ok (.iconst 0, 1) := by decide +kernel
theorem dX5_signAt_3 : decode cX5_signAt 3 = .ok (.aload_n 0, 1) := by decide +kernel
theorem dX5_signAt_4 : decode cX5_signAt 4 = .ok (.getfield 53, 3) := by decide +kernel
theorem dX5_signAt_7 : decode cX5_signAt 7 = .ok (.iconst 1, 1) := by decide +kernel
theorem dX5_signAt_8 : decode cX5_signAt 8 = .ok (.isub, 1) := by decide +kernel
theorem dX5_signAt_9 : decode cX5_signAt 9 = .ok (.invokestatic 41, 3) := by decide +kernel
theorem dX5_signAt_12 : decode cX5_signAt 12 = .ok (.ifCond .eq 7, 3) := by decide +kernel
theorem dX5_signAt_15 : decode cX5_signAt 15 = .ok (.iconst 0, 1) := by decide +kernel
theorem dX5_signAt_16 : decode cX5_signAt 16 = .ok (.goto 4, 3) := by decide +kernel
theorem dX5_signAt_19 : decode cX5_signAt 19 = .ok (.iconst 1, 1) := by decide +kernel
theorem dX5_signAt_20 : decode cX5_signAt 20 = .ok (.invokevirtual 63, 3) := by decide +kernel
theorem dX5_signAt_23 : decode cX5_signAt 23 = .ok (.ifCond .eq 7, 3) := by decide +kernel
theorem dX5_signAt_26 : decode cX5_signAt 26 = .ok (.iconst 0, 1) := by decide +kernel
theorem dX5_signAt_27 : decode cX5_signAt 27 = .ok (.goto 10, 3) := by decide +kernel
theorem dX5_signAt_30 : decode cX5_signAt 30 = .ok (.aload_n 0, 1) := by decide +kernel
theorem dX5_signAt_31 : decode cX5_signAt 31 = .ok (.getfield 7, 3) := by decide +kernel
theorem dX5_signAt_34 : decode cX5_signAt 34 = .ok (.iload_n 1, 1) := by decide +kernel
theorem dX5_signAt_35 : decode cX5_signAt 35 = .ok (.iaload, 1) := by decide +kernel
theorem dX5_signAt_36 : decode cX5_signAt 36 = .ok (.i2c, 1) := by decide +kernel
theorem dX5_signAt_37 : decode cX5_signAt 37 = .ok (.ireturn, 1) := by decide +kernel
theorem dX5_next_0 : decode cX5_next 0 = .ok (.iload_n 1, 1) := by decide +kernel
theorem dX5_next_1 : decode cX5_next 1 = .ok (.istore_n 3, 1) := by decide +kernel
theorem dX5_next_2 : decode cX5_next 2 = .ok (.iload_n 3, 1) := by decide +kernel
theorem dX5_next_3 : decode cX5_next 3 = .ok (.aload_n 0, 1) := by decide +kernel
theorem dX5_next_4 : decode cX5_next 4 = .ok (.getfield 53, 3) := by decide +kernel
theorem dX5_next_7 : decode cX5_next 7 = .ok (.if_icmp .ge 22, 3) := by decide +kernel
theorem dX5_next_10 : decode cX5_next 10 = .ok (.aload_n 2, 1) := by decide +kernel
theorem dX5_next_11 : decode cX5_next 11 = .ok (.aload_n 0, 1) := by decide +kernel
theorem dX5_next_12 : decode cX5_next 12 = .ok (.getfield 7, 3) := by decide +kernel
theorem dX5_next_15 : decode cX5_next 15 = .ok (.iload_n 3, 1) := by decide +kernel
theorem dX5_next_16 : decode cX5_next 16 = .ok (.iaload, 1) := by decide +kernel
theorem dX5_next_17 : decode cX5_next 17 = .ok (.invokevirtual 47, 3) := by decide +kernel
theorem dX5_next_20 : decode cX5_next 20 = .ok (.ifCond .ge 9, 3) := by decide +kernel
theorem dX5_next_23 : decode cX5_next 23 = .ok (.iinc 3 1, 3) := by decide +kernel
theorem dX5_next_26 : decode cX5_next 26 = .ok (.goto (-24), 3) := by decide +kernel
theorem dX5_next_29 : decode cX5_next 29 = .ok (.iload_n 3, 1) := by decide +kernel
theorem dX5_next_30 : decode cX5_next 30 = .ok (.ireturn, 1) := by decide +kernel
theorem dX5_rest_0 : decode cX5_rest 0 = .ok (.aload_n 0, 1) := by decide +kernel
theorem dX5_rest_1 : decode cX5_rest 1 = .ok (.iconst 0, 1) := by decide +kernel
theorem dX5_rest_2 : decode cX5_rest 2 = .ok (.ldc 83, 2) := by decide +kernel
theorem dX5_rest_4 : decode cX5_rest 4 = .ok (.invokevirtual 85, 3) := by decide +kernel
theorem dX5_rest_7 : decode cX5_rest 7 = .ok (.istore_n 1, 1) := by decide +kernel
theorem dX5_rest_8 : decode cX5_rest 8 = .ok (.iload_n 1, 1) := by decide +kernel
theorem dX5_rest_9 : decode cX5_rest 9 = .ok (.aload_n 0, 1) := by decide +kernel
theorem dX5_rest_10 : decode cX5_rest 10 = .ok (.getfield 53, 3) := by decide +kernel
theorem dX5_rest_13 : decode cX5_rest 13 = .ok (.if_icmp .ge 20, 3) := by decide +kernel
theorem dX5_rest_16 : decode cX5_rest 16 = .ok (.aload_n 0, 1) := by decide +kernel
theorem dX5_rest_17 : decode cX5_rest 17 = .ok (.getfield 7, 3) := by decide +kernel
theorem dX5_rest_20 : decode cX5_rest 20 = .ok (.iload_n 1, 1) := by decide +kernel
theorem dX5_rest_21 : decode cX5_rest 21 = .ok (.iaload, 1) := by decide +kernel
theorem dX5_rest_22 : decode cX5_rest 22 = .ok (.bipush 58, 2) := by decide +kernel
theorem dX5_rest_24 : decode cX5_rest 24 = .ok (.if_icmp .ne 9, 3) := by decide +kernel
theorem dX5_rest_27 : decode cX5_rest 27 = .ok (.iload_n 1, 1) := by decide +kernel
theorem dX5_rest_28 : decode cX5_rest 28 = .ok (.iconst 1, 1) := by decide +kernel
theorem dX5_rest_29 : decode cX5_rest 29 = .ok (.iadd, 1) := by decide +kernel
theorem dX5_rest_30 : decode cX5_rest 30 = .ok (.goto 4, 3) := by decide +kernel
theorem dX5_rest_33 : decode cX5_rest 33 = .ok (.iconst 0, 1) := by decide +kernel
theorem dX5_rest_34 : decode cX5_rest 34 = .ok (.ireturn, 1) := by decide +kernel
theorem dX5_isAt_0 : decode cX5_isAt 0 = .ok (.iload_n 1, 1) := by decide +kernel
theorem dX5_isAt_1 : decode cX5_isAt 1 = .ok (.aload_n 0, 1) := by decide +kernel
theorem dX5_isAt_2 : decode cX5_isAt 2 = .ok (.getfield 53, 3) := by decide +kernel
theorem dX5_isAt_5 : decode cX5_isAt 5 = .ok (.if_icmp .ge 17, 3) := by decide +kernel
theorem dX5_isAt_8 : decode cX5_isAt 8 = .ok (.aload_n 0, 1) := by decide +kernel
theorem dX5_isAt_9 : decode cX5_isAt 9 = .ok (.getfield 7, 3) := by decide +kernel
theorem dX5_isAt_12 : decode cX5_isAt 12 = .ok (.iload_n 1, 1) := by decide +kernel
theorem dX5_isAt_13 : decode cX5_isAt 13 = .ok (.iaload, 1) := by decide +kernel
theorem dX5_isAt_14 : decode cX5_isAt 14 = .ok (.iload_n 2, 1) := by decide +kernel
theorem dX5_isAt_15 : decode cX5_isAt 15 = .ok (.if_icmp .ne 7, 3) := by decide +kernel
theorem dX5_isAt_18 : decode cX5_isAt 18 = .ok (.iconst 1, 1) := by decide +kernel
theorem dX5_isAt_19 : decode cX5_isAt 19 = .ok (.goto 4, 3) := by decide +kernel
theorem dX5_isAt_22 : decode cX5_isAt 22 = .ok (.iconst 0, 1) := by decide +kernel
theorem dX5_isAt_23 : decode cX5_isAt 23 = .ok (.ireturn, 1) := by decide +kernel
theorem dX5_bad_0 : decode cX5_bad 0 = .ok (.iload_n 1, 1) := by decide +kernel
theorem dX5_bad_1 : decode cX5_bad 1 = .ok (.istore_n 3, 1) := by decide +kernel
theorem dX5_bad_2 : decode cX5_bad 2 = .ok (.iload_n 3, 1) := by decide +kernel
theorem dX5_bad_3 : decode cX5_bad 3 = .ok (.iload_n 2, 1) := by decide +kernel
theorem dX5_bad_4 : decode cX5_bad 4 = .ok (.if_icmp .ge 23, 3) := by decide +kernel
theorem dX5_bad_7 : decode cX5_bad 7 = .ok (.aload_n 0, 1) := by decide +kernel
theorem dX5_bad_8 : decode cX5_bad 8 = .ok (.getfield 7, 3) := by decide +kernel
theorem dX5_bad_11 : decode cX5_bad 11 = .ok (.iload_n 3, 1) := by decide +kernel
theorem dX5_bad_12 : decode cX5_bad 12 = .ok (.iaload, 1) := by decide +kernel
theorem dX5_bad_13 : decode cX5_bad 13 = .ok (.invokestatic 89, 3) := by decide +kernel
theorem dX5_bad_16 : decode cX5_bad 16 = .ok (.ifCond .eq 5, 3) := by decide +kernel
theorem dX5_bad_19 : decode cX5_bad 19 = .ok (.iload_n 3, 1) := by decide +kernel
theorem dX5_bad_20 : decode cX5_bad 20 = .ok (.ireturn, 1) := by decide +kernel
theorem dX5_bad_21 : decode cX5_bad 21 = .ok (.iinc 3 1, 3) := by decide +kernel
theorem dX5_bad_24 : decode cX5_bad 24 = .ok (.goto (-22), 3) := by decide +kernel
theorem dX5_bad_27 : decode cX5_bad 27 = .ok (.iconst (-1), 1) := by decide +kernel
theorem dX5_bad_28 : decode cX5_bad 28 = .ok (.ireturn, 1) := by decide +kernel
theorem dX5_slashes_0 : decode cX5_slashes 0 = .ok (.aload_n 0, 1) := by decide +kernel
theorem dX5_slashes_1 : decode cX5_slashes 1 = .ok (.invokevirtual 92, 3) := by decide +kernel
theorem dX5_slashes_4 : decode cX5_slashes 4 = .ok (.istore_n 1, 1) := by decide +kernel
theorem dX5_slashes_5 : decode cX5_slashes 5 = .ok (.aload_n 0, 1) := by decide +kernel
theorem dX5_slashes_6 : decode cX5_slashes 6 = .ok (.iload_n 1, 1) := by decide +kernel
theorem dX5_slashes_7 : decode cX5_slashes 7 = .ok (.bipush 47, 2) := by decide +kernel
theorem dX5_slashes_9 : decode cX5_slashes 9 = .ok (.invokevirtual 96, 3) := by decide +kernel
theorem dX5_slashes_12 : decode cX5_slashes 12 = .ok (.ifCond .eq 21, 3) := by decide +kernel
theorem dX5_slashes_15 : decode cX5_slashes 15 = .ok (.aload_n 0, 1) := by decide +kernel
theorem dX5_slashes_16 : decode cX5_slashes 16 = .ok (.iload_n 1, 1) := by decide +kernel
theorem dX5_slashes_17 : decode cX5_slashes 17 = .ok (.iconst 1, 1) := by decide +kernel
theorem dX5_slashes_18 : decode cX5_slashes 18 = .ok (.iadd, 1) := by decide +kernel
theorem dX5_slashes_19 : decode cX5_slashes 19 = .ok (.bipush 47, 2) := by decide +kernel
theorem dX5_slashes_21 : decode cX5_slashes 21 = .ok (.invokevirtual 96, 3) := by decide +kernel
theorem dX5_slashes_24 : decode cX5_slashes 24 = .ok (.ifCond .eq 9, 3) := by decide +kernel
theorem dX5_slashes_27 : decode cX5_slashes 27 = .ok (.iload_n 1, 1) := by decide +kernel
theorem dX5_slashes_28 : decode cX5_slashes 28 = .ok (.iconst 2, 1) := by decide +kernel
theorem dX5_slashes_29 : decode cX5_slashes 29 = .ok (.iadd, 1) := by decide +kernel
theorem dX5_slashes_30 : decode cX5_slashes 30 = .ok (.goto 4, 3) := by decide +kernel
theorem dX5_slashes_33 : decode cX5_slashes 33 = .ok (.iconst (-1), 1) := by decide +kernel
theorem dX5_slashes_34 : decode cX5_slashes 34 = .ok (.ireturn, 1) := by decide +kernel
theorem dX5_cut_0 : decode cX5_cut 0 = .ok (.aload_n 0, 1) := by decide +kernel
theorem dX5_cut_1 : decode cX5_cut 1 = .ok (.getfield 31, 3) := by decide +kernel
theorem dX5_cut_4 : decode cX5_cut 4 = .ok (.iload_n 1, 1) := by decide +kernel
theorem dX5_cut_5 : decode cX5_cut 5 = .ok (.invokestatic 100, 3) := by decide +kernel
theorem dX5_cut_8 : decode cX5_cut 8 = .ok (.iload_n 2, 1) := by decide +kernel
theorem dX5_cut_9 : decode cX5_cut 9 = .ok (.iastore, 1) := by decide +kernel
theorem dX5_cut_10 : decode cX5_cut 10 = .ok (.aload_n 0, 1) := by decide +kernel
theorem dX5_cut_11 : decode cX5_cut 11 = .ok (.getfield 34, 3) := by decide +kernel
theorem dX5_cut_14 : decode cX5_cut 14 = .ok (.iload_n 1, 1) := by decide +kernel
theorem dX5_cut_15 : decode cX5_cut 15 = .ok (.invokestatic 100, 3) := by decide +kernel
theorem dX5_cut_18 : decode cX5_cut 18 = .ok (.iload_n 3, 1) := by decide +kernel
theorem dX5_cut_19 : decode cX5_cut 19 = .ok (.iastore, 1) := by decide +kernel
theorem dX5_cut_20 : decode cX5_cut 20 = .ok (.return_, 1) := by decide +kernel
theorem dX5_parts_0 : decode cX5_parts 0 = .ok (.iconst 0, 1) := by decide +kernel
theorem dX5_parts_1 : decode cX5_parts 1 = .ok (.istore_n 1, 1) := by decide +kernel
theorem dX5_parts_2 : decode cX5_parts 2 = .ok (.iload_n 1, 1) := by decide +kernel
theorem dX5_parts_3 : decode cX5_parts 3 = .ok (.bipush 9, 2) := by decide +kernel
theorem dX5_parts_5 : decode cX5_parts 5 = .ok (.if_icmp .ge 23, 3) := by decide +kernel
theorem dX5_parts_8 : decode cX5_parts 8 = .ok (.aload_n 0, 1) := by decide +kernel
theorem dX5_parts_9 : decode cX5_parts 9 = .ok (.getfield 31, 3) := by decide +kernel
theorem dX5_parts_12 : decode cX5_parts 12 = .ok (.iload_n 1, 1) := by decide +kernel
theorem dX5_parts_13 : decode cX5_parts 13 = .ok (.iconst (-1), 1) := by decide +kernel
theorem dX5_parts_14 : decode cX5_parts 14 = .ok (.iastore, 1) := by decide +kernel
theorem dX5_parts_15 : decode cX5_parts 15 = .ok (.aload_n 0, 1) := by decide +kernel
theorem dX5_parts_16 : decode cX5_parts 16 = .ok (.getfield 34, 3) := by decide +kernel
theorem dX5_parts_19 : decode cX5_parts 19 = .ok (.iload_n 1, 1) := by decide +kernel
theorem dX5_parts_20 : decode cX5_parts 20 = .ok (.iconst (-1), 1) := by decide +kernel
theorem dX5_parts_21 : decode cX5_parts 21 = .ok (.iastore, 1) := by decide +kernel
theorem dX5_parts_22 : decode cX5_parts 22 = .ok (.iinc 1 1, 3) := by decide +kernel
theorem dX5_parts_25 : decode cX5_parts 25 = .ok (.goto (-23), 3) := by decide +kernel
theorem dX5_parts_28 : decode cX5_parts 28 = .ok (.aload_n 0, 1) := by decide +kernel
theorem dX5_parts_29 : decode cX5_parts 29 = .ok (.iconst (-1), 1) := by decide +kernel
theorem dX5_parts_30 : decode cX5_parts 30 = .ok (.putfield 104, 3) := by decide +kernel
theorem dX5_parts_33 : decode cX5_parts 33 = .ok (.aload_n 0, 1) := by decide +kernel
theorem dX5_parts_34 : decode cX5_parts 34 = .ok (.invokevirtual 92, 3) := by decide +kernel
theorem dX5_parts_37 : decode cX5_parts 37 = .ok (.istore_n 1, 1) := by decide +kernel
theorem dX5_parts_38 : decode cX5_parts 38 = .ok (.iload_n 1, 1) := by decide +kernel
theorem dX5_parts_39 : decode cX5_parts 39 = .ok (.iconst 1, 1) := by decide +kernel
theorem dX5_parts_40 : decode cX5_parts 40 = .ok (.if_icmp .ne 5, 3) := by decide +kernel
theorem dX5_parts_43 : decode cX5_parts 43 = .ok (.iconst 0, 1) := by decide +kernel
theorem dX5_parts_44 : decode cX5_parts 44 = .ok (.ireturn, 1) := by decide +kernel
theorem dX5_parts_45 : decode cX5_parts 45 = .ok (.iconst 0, 1) := by decide +kernel
theorem dX5_parts_46 : decode cX5_parts 46 = .ok (.istore_n 2, 1) := by decide +kernel
theorem dX5_parts_47 : decode cX5_parts 47 = .ok (.iload_n 2, 1) := by decide +kernel
theorem dX5_parts_48 : decode cX5_parts 48 = .ok (.iload_n 1, 1) := by decide +kernel
theorem dX5_parts_49 : decode cX5_parts 49 = .ok (.iconst 1, 1) := by decide +kernel
theorem dX5_parts_50 : decode cX5_parts 50 = .ok (.isub, 1) := by decide +kernel
theorem dX5_parts_51 : decode cX5_parts 51 = .ok (.if_icmp .ge 54, 3) := by decide +kernel
theorem dX5_parts_54 : decode cX5_parts 54 = .ok (.aload_n 0, 1) := by decide +kernel
theorem dX5_parts_55 : decode cX5_parts 55 = .ok (.getfield 7, 3) := by decide +kernel
theorem dX5_parts_58 : decode cX5_parts 58 = .ok (.iload_n 2, 1) := by decide +kernel
theorem dX5_parts_59 : decode cX5_parts 59 = .ok (.iaload, 1) := by decide +kernel
theorem dX5_parts_60 : decode cX5_parts 60 = .ok (.istore_n 3, 1) := by decide +kernel
theorem dX5_parts_61 : decode cX5_parts 61 = .ok (.iload_n 3, 1) := by decide +kernel
theorem dX5_parts_62 : decode cX5_parts 62 = .ok (.invokestatic 107, 3) := by decide +kernel
theorem dX5_parts_65 : decode cX5_parts 65 = .ok (.ifCond .ne 34, 3) := by decide +kernel
theorem dX5_parts_68 : decode cX5_parts 68 = .ok (.iload_n 2, 1) := by decide +kernel
theorem dX5_parts_69 : decode cX5_parts 69 = .ok (.ifCond .eq 28, 3) := by decide +kernel
theorem dX5_parts_72 : decode cX5_parts 72 = .ok (.iload_n 3, 1) := by decide +kernel
theorem dX5_parts_73 : decode cX5_parts 73 = .ok (.invokestatic 110, 3) := by decide +kernel
theorem dX5_parts_76 : decode cX5_parts 76 = .ok (.ifCond .ne 23, 3) := by decide +kernel
theorem dX5_parts_79 : decode cX5_parts 79 = .ok (.iload_n 3, 1) := by decide +kernel
theorem dX5_parts_80 : decode cX5_parts 80 = .ok (.bipush 43, 2) := by decide +kernel
theorem dX5_parts_82 : decode cX5_parts 82 = .ok (.if_icmp .eq 17, 3) := by decide +kernel
theorem dX5_parts_85 : decode cX5_parts 85 = .ok (.iload_n 3, 1) := by decide +kernel
theorem dX5_parts_86 : decode cX5_parts 86 = .ok (.bipush 45, 2) := by decide +kernel
theorem dX5_parts_88 : decode cX5_parts 88 = .ok (.if_icmp .eq 11, 3) := by decide +kernel
theorem dX5_parts_91 : decode cX5_parts 91 = .ok (.iload_n 3, 1) := by decide +kernel
theorem dX5_parts_92 : decode cX5_parts 92 = .ok (.bipush 46, 2) := by decide +kernel
theorem dX5_parts_94 : decode cX5_parts 94 = .ok (.if_icmp .eq 5, 3) := by decide +kernel
theorem dX5_parts_97 : decode cX5_parts 97 = .ok (.iload_n 2, 1) := by decide +kernel
theorem dX5_parts_98 : decode cX5_parts 98 = .ok (.ireturn, 1) := by decide +kernel
theorem dX5_parts_99 : decode cX5_parts 99 = .ok (.iinc 2 1, 3) := by decide +kernel
theorem dX5_parts_102 : decode cX5_parts 102 = .ok (.goto (-55), 3) := by decide +kernel
theorem dX5_parts_105 : decode cX5_parts 105 = .ok (.iload_n 1, 1) := by decide +kernel
theorem dX5_parts_106 : decode cX5_parts 106 = .ok (.ifCond .le 13, 3) := by decide +kernel
theorem dX5_parts_109 : decode cX5_parts 109 = .ok (.aload_n 0, 1) := by decide +kernel
theorem dX5_parts_110 : decode cX5_parts 110 = .ok (.bipush 115, 2) := by decide +kernel
theorem dX5_parts_112 : decode cX5_parts 112 = .ok (.iconst 0, 1) := by decide +kernel
theorem dX5_parts_113 : decode cX5_parts 113 = .ok (.iload_n 1, 1) := by decide +kernel
theorem dX5_parts_114 : decode cX5_parts 114 = .ok (.iconst 1, 1) := by decide +kernel
theorem dX5_parts_115 : decode cX5_parts 115 = .ok (.isub, 1) := by decide +kernel
theorem dX5_parts_116 : decode cX5_parts 116 = .ok (.invokevirtual 113, 3) := by decide +kernel
theorem dX5_parts_119 : decode cX5_parts 119 = .ok (.iload_n 1, 1) := by decide +kernel
theorem dX5_parts_120 : decode cX5_parts 120 = .ok (.istore_n 2, 1) := by decide +kernel
theorem dX5_parts_121 : decode cX5_parts 121 = .ok (.iload_n 1, 1) := by decide +kernel
theorem dX5_parts_122 : decode cX5_parts 122 = .ok (.ifCond .le 44, 3) := by decide +kernel
theorem dX5_parts_125 : decode cX5_parts 125 = .ok (.aload_n 0, 1) := by decide +kernel
theorem dX5_parts_126 : decode cX5_parts 126 = .ok (.iload_n 1, 1) := by decide +kernel
theorem dX5_parts_127 : decode cX5_parts 127 = .ok (.bipush 47, 2) := by decide +kernel
theorem dX5_parts_129 : decode cX5_parts 129 = .ok (.invokevirtual 96, 3) := by decide +kernel
theorem dX5_parts_132 : decode cX5_parts 132 = .ok (.ifCond .ne 34, 3) := by decide +kernel
theorem dX5_parts_135 : decode cX5_parts 135 = .ok (.aload_n 0, 1) := by decide +kernel
theorem dX5_parts_136 : decode cX5_parts 136 = .ok (.iload_n 1, 1) := by decide +kernel
theorem dX5_parts_137 : decode cX5_parts 137 = .ok (.ldc 117, 2) := by decide +kernel
theorem dX5_parts_139 : decode cX5_parts 139 = .ok (.invokevirtual 85, 3) := by decide +kernel
theorem dX5_parts_142 : decode cX5_parts 142 = .ok (.istore_n 1, 1) := by decide +kernel
theorem dX5_parts_143 : decode cX5_parts 143 = .ok (.iload_n 1, 1) := by decide +kernel
theorem dX5_parts_144 : decode cX5_parts 144 = .ok (.iload_n 2, 1) := by decide +kernel
theorem dX5_parts_145 : decode cX5_parts 145 = .ok (.if_icmp .ne 5, 3) := by decide +kernel
theorem dX5_parts_148 : decode cX5_parts 148 = .ok (.iload_n 1, 1) := by decide +kernel
theorem dX5_parts_149 : decode cX5_parts 149 = .ok (.ireturn, 1) := by decide +kernel
theorem dX5_parts_150 : decode cX5_parts 150 = .ok (.aload_n 0, 1) := by decide +kernel
theorem dX5_parts_151 : decode cX5_parts 151 = .ok (.iload_n 2, 1) := by decide +kernel
theorem dX5_parts_152 : decode cX5_parts 152 = .ok (.iload_n 1, 1) := by decide +kernel
theorem dX5_parts_153 : decode cX5_parts 153 = .ok (.invokevirtual 119, 3) := by decide +kernel
theorem dX5_parts_156 : decode cX5_parts 156 = .ok (.ifCond .lt 161, 3) := by decide +kernel
theorem dX5_parts_159 : decode cX5_parts 159 = .ok (.aload_n 0, 1) := by decide +kernel
theorem dX5_parts_160 : decode cX5_parts 160 = .ok (.iload_n 2, 1) := by decide +kernel
theorem dX5_parts_161 : decode cX5_parts 161 = .ok (.iload_n 1, 1) := by decide +kernel
theorem dX5_parts_162 : decode cX5_parts 162 = .ok (.invokevirtual 119, 3) := by decide +kernel
theorem dX5_parts_165 : decode cX5_parts 165 = .ok (.ireturn, 1) := by decide +kernel
theorem dX5_parts_166 : decode cX5_parts 166 = .ok (.aload_n 0, 1) := by decide +kernel
theorem dX5_parts_167 : decode cX5_parts 167 = .ok (.invokevirtual 122, 3) := by decide +kernel
theorem dX5_parts_170 : decode cX5_parts 170 = .ok (.ifCond .lt 62, 3) := by decide +kernel
theorem dX5_parts_173 : decode cX5_parts 173 = .ok (.aload_n 0, 1) := by decide +kernel
theorem dX5_parts_174 : decode cX5_parts 174 = .ok (.aload_n 0, 1) := by decide +kernel
theorem dX5_parts_175 : decode cX5_parts 175 = .ok (.invokevirtual 122, 3) := by decide +kernel
theorem dX5_parts_178 : decode cX5_parts 178 = .ok (.ldc 125, 2) := by decide +kernel
theorem dX5_parts_180 : decode cX5_parts 180 = .ok (.invokevirtual 85, 3) := by decide +kernel
theorem dX5_parts_183 : decode cX5_parts 183 = .ok (.istore_n 3, 1) := by decide +kernel
theorem dX5_parts_184 : decode cX5_parts 184 = .ok (.iload_n 3, 1) := by decide +kernel
theorem dX5_parts_185 : decode cX5_parts 185 = .ok (.aload_n 0, 1) := by decide +kernel
theorem dX5_parts_186 : decode cX5_parts 186 = .ok (.invokevirtual 122, 3) := by decide +kernel
theorem dX5_parts_189 : decode cX5_parts 189 = .ok (.if_icmp .ne 13, 3) := by decide +kernel
theorem dX5_parts_192 : decode cX5_parts 192 = .ok (.iload_n 3, 1) := by decide +kernel
theorem dX5_parts_193 : decode cX5_parts 193 = .ok (.aload_n 0, 1) := by decide +kernel
theorem dX5_parts_194 : decode cX5_parts 194 = .ok (.getfield 53, 3) := by decide +kernel
theorem dX5_parts_197 : decode cX5_parts 197 = .ok (.if_icmp .ne 5, 3) := by decide +kernel
theorem dX5_parts_200 : decode cX5_parts 200 = .ok (.iload_n 3, 1) := by decide +kernel
theorem dX5_parts_201 : decode cX5_parts 201 = .ok (.ireturn, 1) := by decide +kernel
theorem dX5_parts_202 : decode cX5_parts 202 = .ok (.iload_n 3, 1) := by decide +kernel
theorem dX5_parts_203 : decode cX5_parts 203 = .ok (.aload_n 0, 1) := by decide +kernel
theorem dX5_parts_204 : decode cX5_parts 204 = .ok (.invokevirtual 122, 3) := by decide +kernel
theorem dX5_parts_207 : decode cX5_parts 207 = .ok (.if_icmp .le 23, 3) := by decide +kernel
theorem dX5_parts_210 : decode cX5_parts 210 = .ok (.aload_n 0, 1) := by decide +kernel
theorem dX5_parts_211 : decode cX5_parts 211 = .ok (.bipush 97, 2) := by decide +kernel
theorem dX5_parts_213 : decode cX5_parts 213 = .ok (.aload_n 0, 1) := by decide +kernel
theorem dX5_parts_214 : decode cX5_parts 214 = .ok (.invokevirtual 122, 3) := by decide +kernel
theorem dX5_parts_217 : decode cX5_parts 217 = .ok (.iload_n 3, 1) := by decide +kernel
theorem dX5_parts_218 : decode cX5_parts 218 = .ok (.invokevirtual 113, 3) := by decide +kernel
theorem dX5_parts_221 : decode cX5_parts 221 = .ok (.aload_n 0, 1) := by decide +kernel
theorem dX5_parts_222 : decode cX5_parts 222 = .ok (.aload_n 0, 1) := by decide +kernel
theorem dX5_parts_223 : decode cX5_parts 223 = .ok (.invokevirtual 122, 3) := by decide +kernel
theorem dX5_parts_226 : decode cX5_parts 226 = .ok (.iload_n 3, 1) := by decide +kernel
theorem dX5_parts_227 : decode cX5_parts 227 = .ok (.invokevirtual 127, 3) := by decide +kernel
theorem dX5_parts_230 : decode cX5_parts 230 = .ok (.iload_n 3, 1) := by decide +kernel
theorem dX5_parts_231 : decode cX5_parts 231 = .ok (.istore_n 1, 1) := by decide +kernel
theorem dX5_parts_232 : decode cX5_parts 232 = .ok (.iload_n 1, 1) := by decide +kernel
theorem dX5_parts_233 : decode cX5_parts 233 = .ok (.istore_n 3, 1) := by decide +kernel
theorem dX5_parts_234 : decode cX5_parts 234 = .ok (.aload_n 0, 1) := by decide +kernel
theorem dX5_parts_235 : decode cX5_parts 235 = .ok (.iload_n 1, 1) := by decide +kernel
theorem dX5_parts_236 : decode cX5_parts 236 = .ok (.ldc 131, 2) := by decide +kernel
theorem dX5_parts_238 : decode cX5_parts 238 = .ok (.invokevirtual 85, 3) := by decide +kernel
theorem dX5_parts_241 : decode cX5_parts 241 = .ok (.istore_n 1, 1) := by decide +kernel
theorem dX5_parts_242 : decode cX5_parts 242 = .ok (.aload_n 0, 1) := by decide +kernel
theorem dX5_parts_243 : decode cX5_parts 243 = .ok (.bipush 112, 2) := by decide +kernel
theorem dX5_parts_245 : decode cX5_parts 245 = .ok (.iload_n 3, 1) := by decide +kernel
theorem dX5_parts_246 : decode cX5_parts 246 = .ok (.iload_n 1, 1) := by decide +kernel
theorem dX5_parts_247 : decode cX5_parts 247 = .ok (.invokevirtual 113, 3) := by decide +kernel
theorem dX5_parts_250 : decode cX5_parts 250 = .ok (.aload_n 0, 1) := by decide +kernel
theorem dX5_parts_251 : decode cX5_parts 251 = .ok (.iload_n 3, 1) := by decide +kernel
theorem dX5_parts_252 : decode cX5_parts 252 = .ok (.iload_n 1, 1) := by decide +kernel
theorem dX5_parts_253 : decode cX5_parts 253 = .ok (.invokevirtual 119, 3) := by decide +kernel
theorem dX5_parts_256 : decode cX5_parts 256 = .ok (.ifCond .lt 10, 3) := by decide +kernel
theorem dX5_parts_259 : decode cX5_parts 259 = .ok (.aload_n 0, 1) := by decide +kernel
theorem dX5_parts_260 : decode cX5_parts 260 = .ok (.iload_n 3, 1) := by decide +kernel
theorem dX5_parts_261 : decode cX5_parts 261 = .ok (.iload_n 1, 1) := by decide +kernel
theorem dX5_parts_262 : decode cX5_parts 262 = .ok (.invokevirtual 119, 3) := by decide +kernel
theorem dX5_parts_265 : decode cX5_parts 265 = .ok (.ireturn, 1) := by decide +kernel
theorem dX5_parts_266 : decode cX5_parts 266 = .ok (.aload_n 0, 1) := by decide +kernel
theorem dX5_parts_267 : decode cX5_parts 267 = .ok (.iload_n 1, 1) := by decide +kernel
theorem dX5_parts_268 : decode cX5_parts 268 = .ok (.bipush 63, 2) := by decide +kernel
theorem dX5_parts_270 : decode cX5_parts 270 = .ok (.invokevirtual 96, 3) := by decide +kernel
theorem dX5_parts_273 : decode cX5_parts 273 = .ok (.ifCond .eq 44, 3) := by decide +kernel
theorem dX5_parts_276 : decode cX5_parts 276 = .ok (.iload_n 1, 1) := by decide +kernel
theorem dX5_parts_277 : decode cX5_parts 277 = .ok (.iconst 1, 1) := by decide +kernel
theorem dX5_parts_278 : decode cX5_parts 278 = .ok (.iadd, 1) := by decide +kernel
theorem dX5_parts_279 : decode cX5_parts 279 = .ok (.istore 4, 2) := by decide +kernel
theorem dX5_parts_281 : decode cX5_parts 281 = .ok (.aload_n 0, 1) := by decide +kernel
theorem dX5_parts_282 : decode cX5_parts 282 = .ok (.iload 4, 2) := by decide +kernel
theorem dX5_parts_284 : decode cX5_parts 284 = .ok (.ldc 117, 2) := by decide +kernel
theorem dX5_parts_286 : decode cX5_parts 286 = .ok (.invokevirtual 85, 3) := by decide +kernel
theorem dX5_parts_289 : decode cX5_parts 289 = .ok (.istore_n 1, 1) := by decide +kernel
theorem dX5_parts_290 : decode cX5_parts 290 = .ok (.aload_n 0, 1) := by decide +kernel
theorem dX5_parts_291 : decode cX5_parts 291 = .ok (.bipush 113, 2) := by decide +kernel
theorem dX5_parts_293 : decode cX5_parts 293 = .ok (.iload 4, 2) := by decide +kernel
theorem dX5_parts_295 : decode cX5_parts 295 = .ok (.iload_n 1, 1) := by decide +kernel
theorem dX5_parts_296 : decode cX5_parts 296 = .ok (.invokevirtual 113, 3) := by decide +kernel
theorem dX5_parts_299 : decode cX5_parts 299 = .ok (.aload_n 0, 1) := by decide +kernel
theorem dX5_parts_300 : decode cX5_parts 300 = .ok (.iload 4, 2) := by decide +kernel
theorem dX5_parts_302 : decode cX5_parts 302 = .ok (.iload_n 1, 1) := by decide +kernel
theorem dX5_parts_303 : decode cX5_parts 303 = .ok (.invokevirtual 119, 3) := by decide +kernel
theorem dX5_parts_306 : decode cX5_parts 306 = .ok (.ifCond .lt 11, 3) := by decide +kernel
theorem dX5_parts_309 : decode cX5_parts 309 = .ok (.aload_n 0, 1) := by decide +kernel
theorem dX5_parts_310 : decode cX5_parts 310 = .ok (.iload 4, 2) := by decide +kernel
theorem dX5_parts_312 : decode cX5_parts 312 = .ok (.iload_n 1, 1) := by decide +kernel
theorem dX5_parts_313 : decode cX5_parts 313 = .ok (.invokevirtual 119, 3) := by decide +kernel
theorem dX5_parts_316 : decode cX5_parts 316 = .ok (.ireturn, 1) := by decide +kernel
theorem dX5_parts_317 : decode cX5_parts 317 = .ok (.aload_n 0, 1) := by decide +kernel
theorem dX5_parts_318 : decode cX5_parts 318 = .ok (.bipush 109, 2) := by decide +kernel
theorem dX5_parts_320 : decode cX5_parts 320 = .ok (.iload_n 2, 1) := by decide +kernel
theorem dX5_parts_321 : decode cX5_parts 321 = .ok (.iload_n 1, 1) := by decide +kernel
theorem dX5_parts_322 : decode cX5_parts 322 = .ok (.invokevirtual 113, 3) := by decide +kernel
theorem dX5_parts_325 : decode cX5_parts 325 = .ok (.aload_n 0, 1) := by decide +kernel
theorem dX5_parts_326 : decode cX5_parts 326 = .ok (.iload_n 1, 1) := by decide +kernel
theorem dX5_parts_327 : decode cX5_parts 327 = .ok (.bipush 35, 2) := by decide +kernel
theorem dX5_parts_329 : decode cX5_parts 329 = .ok (.invokevirtual 96, 3) := by decide +kernel
theorem dX5_parts_332 : decode cX5_parts 332 = .ok (.ifCond .eq 59, 3) := by decide +kernel
theorem dX5_parts_335 : decode cX5_parts 335 = .ok (.aload_n 0, 1) := by decide +kernel
theorem dX5_parts_336 : decode cX5_parts 336 = .ok (.bipush 102, 2) := by decide +kernel
theorem dX5_parts_338 : decode cX5_parts 338 = .ok (.iload_n 1, 1) := by decide +kernel
theorem dX5_parts_339 : decode cX5_parts 339 = .ok (.iconst 1, 1) := by decide +kernel
theorem dX5_parts_340 : decode cX5_parts 340 = .ok (.iadd, 1) := by decide +kernel
theorem dX5_parts_341 : decode cX5_parts 341 = .ok (.aload_n 0, 1) := by decide +kernel
theorem dX5_parts_342 : decode cX5_parts 342 = .ok (.getfield 53, 3) := by decide +kernel
theorem dX5_parts_345 : decode cX5_parts 345 = .ok (.invokevirtual 113, 3) := by decide +kernel
theorem dX5_parts_348 : decode cX5_parts 348 = .ok (.iload_n 1, 1) := by decide +kernel
theorem dX5_parts_349 : decode cX5_parts 349 = .ok (.iconst 1, 1) := by decide +kernel
theorem dX5_parts_350 : decode cX5_parts 350 = .ok (.iadd, 1) := by decide +kernel
theorem dX5_parts_351 : decode cX5_parts 351 = .ok (.istore_n 3, 1) := by decide +kernel
theorem dX5_parts_352 : decode cX5_parts 352 = .ok (.iload_n 3, 1) := by decide +kernel
theorem dX5_parts_353 : decode cX5_parts 353 = .ok (.aload_n 0, 1) := by decide +kernel
theorem dX5_parts_354 : decode cX5_parts 354 = .ok (.getfield 53, 3) := by decide +kernel
theorem dX5_parts_357 : decode cX5_parts 357 = .ok (.if_icmp .ge 34, 3) := by decide +kernel
theorem dX5_parts_360 : decode cX5_parts 360 = .ok (.aload_n 0, 1) := by decide +kernel
theorem dX5_parts_361 : decode cX5_parts 361 = .ok (.getfield 7, 3) := by decide +kernel
theorem dX5_parts_364 : decode cX5_parts 364 = .ok (.iload_n 3, 1) := by decide +kernel
theorem dX5_parts_365 : decode cX5_parts 365 = .ok (.iaload, 1) := by decide +kernel
theorem dX5_parts_366 : decode cX5_parts 366 = .ok (.invokestatic 89, 3) := by decide +kernel
theorem dX5_parts_369 : decode cX5_parts 369 = .ok (.ifCond .ne 14, 3) := by decide +kernel
theorem dX5_parts_372 : decode cX5_parts 372 = .ok (.aload_n 0, 1) := by decide +kernel
theorem dX5_parts_373 : decode cX5_parts 373 = .ok (.getfield 7, 3) := by decide +kernel
theorem dX5_parts_376 : decode cX5_parts 376 = .ok (.iload_n 3, 1) := by decide +kernel
theorem dX5_parts_377 : decode cX5_parts 377 = .ok (.iaload, 1) := by decide +kernel
theorem dX5_parts_378 : decode cX5_parts 378 = .ok (.bipush 35, 2) := by decide +kernel
theorem dX5_parts_380 : decode cX5_parts 380 = .ok (.if_icmp .ne 5, 3) := by decide +kernel
theorem dX5_parts_383 : decode cX5_parts 383 = .ok (.iload_n 3, 1) := by decide +kernel
theorem dX5_parts_384 : decode cX5_parts 384 = .ok (.ireturn, 1) := by decide +kernel
theorem dX5_parts_385 : decode cX5_parts 385 = .ok (.iinc 3 1, 3) := by decide +kernel
theorem dX5_parts_388 : decode cX5_parts 388 = .ok (.goto (-36), 3) := by decide +kernel
theorem dX5_parts_391 : decode cX5_parts 391 = .ok (.aload_n 0, 1) := by decide +kernel
theorem dX5_parts_392 : decode cX5_parts 392 = .ok (.bipush 119, 2) := by decide +kernel
theorem dX5_parts_394 : decode cX5_parts 394 = .ok (.iconst 0, 1) := by decide +kernel
theorem dX5_parts_395 : decode cX5_parts 395 = .ok (.aload_n 0, 1) := by decide +kernel
theorem dX5_parts_396 : decode cX5_parts 396 = .ok (.getfield 53, 3) := by decide +kernel
theorem dX5_parts_399 : decode cX5_parts 399 = .ok (.invokevirtual 113, 3) := by decide +kernel
theorem dX5_parts_402 : decode cX5_parts 402 = .ok (.iconst (-1), 1) := by decide +kernel
theorem dX5_parts_403 : decode cX5_parts 403 = .ok (.ireturn, 1) := by decide +kernel
theorem dX5_authority_0 : decode cX5_authority 0 = .ok (.iload_n 1, 1) := by decide +kernel
theorem dX5_authority_1 : decode cX5_authority 1 = .ok (.istore_n 3, 1) := by decide +kernel
theorem dX5_authority_2 : decode cX5_authority 2 = .ok (.iload_n 3, 1) := by decide +kernel
theorem dX5_authority_3 : decode cX5_authority 3 = .ok (.iload_n 2, 1) := by decide +kernel
theorem dX5_authority_4 : decode cX5_authority 4 = .ok (.if_icmp .ge 20, 3) := by decide +kernel
theorem dX5_authority_7 : decode cX5_authority 7 = .ok (.aload_n 0, 1) := by decide +kernel
theorem dX5_authority_8 : decode cX5_authority 8 = .ok (.getfield 7, 3) := by decide +kernel
theorem dX5_authority_11 : decode cX5_authority 11 = .ok (.iload_n 3, 1) := by decide +kernel
theorem dX5_authority_12 : decode cX5_authority 12 = .ok (.iaload, 1) := by decide +kernel
theorem dX5_authority_13 : decode cX5_authority 13 = .ok (.bipush 64, 2) := by decide +kernel
theorem dX5_authority_15 : decode cX5_authority 15 = .ok (.if_icmp .eq 9, 3) := by decide +kernel
theorem dX5_authority_18 : decode cX5_authority 18 = .ok (.iinc 3 1, 3) := by decide +kernel
theorem dX5_authority_21 : decode cX5_authority 21 = .ok (.goto (-19), 3) := by decide +kernel
theorem dX5_authority_24 : decode cX5_authority 24 = .ok (.iload_n 3, 1) := by decide +kernel
theorem dX5_authority_25 : decode cX5_authority 25 = .ok (.iload_n 2, 1) := by decide +kernel
theorem dX5_authority_26 : decode cX5_authority 26 = .ok (.if_icmp .ge 9, 3) := by decide +kernel
theorem dX5_authority_29 : decode cX5_authority 29 = .ok (.iload_n 3, 1) := by decide +kernel
theorem dX5_authority_30 : decode cX5_authority 30 = .ok (.iconst 1, 1) := by decide +kernel
theorem dX5_authority_31 : decode cX5_authority 31 = .ok (.iadd, 1) := by decide +kernel
theorem dX5_authority_32 : decode cX5_authority 32 = .ok (.goto 4, 3) := by decide +kernel
theorem dX5_authority_35 : decode cX5_authority 35 = .ok (.iload_n 1, 1) := by decide +kernel
theorem dX5_authority_36 : decode cX5_authority 36 = .ok (.istore 4, 2) := by decide +kernel
theorem dX5_authority_38 : decode cX5_authority 38 = .ok (.iload 4, 2) := by decide +kernel
theorem dX5_authority_40 : decode cX5_authority 40 = .ok (.istore 5, 2) := by decide +kernel
theorem dX5_authority_42 : decode cX5_authority 42 = .ok (.iload 5, 2) := by decide +kernel
theorem dX5_authority_44 : decode cX5_authority 44 = .ok (.iload_n 2, 1) := by decide +kernel
theorem dX5_authority_45 : decode cX5_authority 45 = .ok (.if_icmp .ge 21, 3) := by decide +kernel
theorem dX5_authority_48 : decode cX5_authority 48 = .ok (.aload_n 0, 1) := by decide +kernel
theorem dX5_authority_49 : decode cX5_authority 49 = .ok (.getfield 7, 3) := by decide +kernel
theorem dX5_authority_52 : decode cX5_authority 52 = .ok (.iload 5, 2) := by decide +kernel
theorem dX5_authority_54 : decode cX5_authority 54 = .ok (.iaload, 1) := by decide +kernel
theorem dX5_authority_55 : decode cX5_authority 55 = .ok (.bipush 58, 2) := by decide +kernel
theorem dX5_authority_57 : decode cX5_authority 57 = .ok (.if_icmp .eq 9, 3) := by decide +kernel
theorem dX5_authority_60 : decode cX5_authority 60 = .ok (.iinc 5 1, 3) := by decide +kernel
theorem dX5_authority_63 : decode cX5_authority 63 = .ok (.goto (-21), 3) := by decide +kernel
theorem dX5_authority_66 : decode cX5_authority 66 = .ok (.aload_n 0, 1) := by decide +kernel
theorem dX5_authority_67 : decode cX5_authority 67 = .ok (.iload 4, 2) := by decide +kernel
theorem dX5_authority_69 : decode cX5_authority 69 = .ok (.iload 5, 2) := by decide +kernel
theorem dX5_authority_71 : decode cX5_authority 71 = .ok (.invokevirtual 133, 3) := by decide +kernel
theorem dX5_authority_74 : decode cX5_authority 74 = .ok (.ifCond .ne 15, 3) := by decide +kernel
theorem dX5_authority_77 : decode cX5_authority 77 = .ok (.aload_n 0, 1) := by decide +kernel
theorem dX5_authority_78 : decode cX5_authority 78 = .ok (.iload 4, 2) := by decide +kernel
theorem dX5_authority_80 : decode cX5_authority 80 = .ok (.iload 5, 2) := by decide +kernel
theorem dX5_authority_82 : decode cX5_authority 82 = .ok (.invokevirtual 136, 3) := by decide +kernel
theorem dX5_authority_85 : decode cX5_authority 85 = .ok (.ifCond .ne 4, 3) := by decide +kernel
theorem dX5_authority_88 : decode cX5_authority 88 = .ok (.return_, 1) := by decide +kernel
theorem dX5_authority_89 : decode cX5_authority 89 = .ok (.lconst 0, 1) := by decide +kernel
theorem dX5_authority_90 : decode cX5_authority 90 = .ok (.lstore 6, 2) := by decide +kernel
theorem dX5_authority_92 : decode cX5_authority 92 = .ok (.iload 5, 2) := by decide +kernel
theorem dX5_authority_94 : decode cX5_authority 94 = .ok (.iconst 1, 1) := by decide +kernel
theorem dX5_authority_95 : decode cX5_authority 95 = .ok (.iadd, 1) := by decide +kernel
theorem dX5_authority_96 : decode cX5_authority 96 = .ok (.istore 8, 2) := by decide +kernel
theorem dX5_authority_98 : decode cX5_authority 98 = .ok (.iload 8, 2) := by decide +kernel
theorem dX5_authority_100 : decode cX5_authority 100 = .ok (.iload_n 2, 1) := by decide +kernel
theorem dX5_authority_101 : decode cX5_authority 101 = .ok (.if_icmp .ge 54, 3) := by decide +kernel
theorem dX5_authority_104 : decode cX5_authority 104 = .ok (.aload_n 0, 1) := by decide +kernel
theorem dX5_authority_105 : decode cX5_authority 105 = .ok (.getfield 7, 3) := by decide +kernel
theorem dX5_authority_108 : decode cX5_authority 108 = .ok (.iload 8, 2) := by decide +kernel
theorem dX5_authority_110 : decode cX5_authority 110 = .ok (.iaload, 1) := by decide +kernel
theorem dX5_authority_111 : decode cX5_authority 111 = .ok (.invokestatic 110, 3) := by decide +kernel
theorem dX5_authority_114 : decode cX5_authority 114 = .ok (.ifCond .ne 4, 3) := by decide +kernel
theorem dX5_authority_117 : decode cX5_authority 117 = .ok (.return_, 1) := by decide +kernel
theorem dX5_authority_118 : decode cX5_authority 118 = .ok (.ldc2_w 139, 3) := by decide +kernel
theorem dX5_authority_121 : decode cX5_authority 121 = .ok (.lload 6, 2) := by decide +kernel
theorem dX5_authority_123 : decode cX5_authority 123 = .ok (.lmul, 1) := by decide +kernel
theorem dX5_authority_124 : decode cX5_authority 124 = .ok (.aload_n 0, 1) := by decide +kernel
theorem dX5_authority_125 : decode cX5_authority 125 = .ok (.getfield 7, 3) := by decide +kernel
theorem dX5_authority_128 : decode cX5_authority 128 = .ok (.iload 8, 2) := by decide +kernel
theorem dX5_authority_130 : decode cX5_authority 130 = .ok (.iaload, 1) := by decide +kernel
theorem dX5_authority_131 : decode cX5_authority 131 = .ok (.i2l, 1) := by decide +kernel
theorem dX5_authority_132 : decode cX5_authority 132 = .ok (.ladd, 1) := by decide +kernel
theorem dX5_authority_133 : decode cX5_authority 133 = .ok (.ldc2_w 141, 3) := by decide +kernel
theorem dX5_authority_136 : decode cX5_authority 136 = .ok (.lsub, 1) := by decide +kernel
theorem dX5_authority_137 : decode cX5_authority 137 = .ok (.lstore 6, 2) := by decide +kernel
theorem dX5_authority_139 : decode cX5_authority 139 = .ok (.lload 6, 2) := by decide +kernel
theorem dX5_authority_141 : decode cX5_authority 141 = .ok (.ldc2_w 143, 3) := by decide +kernel
theorem dX5_authority_144 : decode cX5_authority 144 = .ok (.lcmp, 1) := by decide +kernel
theorem dX5_authority_145 : decode cX5_authority 145 = .ok (.ifCond .le 4, 3) := by decide +kernel
theorem dX5_authority_148 : decode cX5_authority 148 = .ok (.return_, 1) := by decide +kernel
theorem dX5_authority_149 : decode cX5_authority 149 = .ok (.iinc 8 1, 3) := by decide +kernel
theorem dX5_authority_152 : decode cX5_authority 152 = .ok (.goto (-54), 3) := by decide +kernel
theorem dX5_authority_155 : decode cX5_authority 155 = .ok (.iload_n 3, 1) := by decide +kernel
theorem dX5_authority_156 : decode cX5_authority 156 = .ok (.iload_n 2, 1) := by decide +kernel
theorem dX5_authority_157 : decode cX5_authority 157 = .ok (.if_icmp .ge 11, 3) := by decide +kernel
theorem dX5_authority_160 : decode cX5_authority 160 = .ok (.aload_n 0, 1) := by decide +kernel
theorem dX5_authority_161 : decode cX5_authority 161 = .ok (.bipush 117, 2) := by decide +kernel
theorem dX5_authority_163 : decode cX5_authority 163 = .ok (.iload_n 1, 1) := by decide +kernel
theorem dX5_authority_164 : decode cX5_authority 164 = .ok (.iload_n 3, 1) := by decide +kernel
theorem dX5_authority_165 : decode cX5_authority 165 = .ok (.invokevirtual 113, 3) := by decide +kernel
theorem dX5_authority_168 : decode cX5_authority 168 = .ok (.aload_n 0, 1) := by decide +kernel
theorem dX5_authority_169 : decode cX5_authority 169 = .ok (.bipush 104, 2) := by decide +kernel
theorem dX5_authority_171 : decode cX5_authority 171 = .ok (.iload 4, 2) := by decide +kernel
theorem dX5_authority_173 : decode cX5_authority 173 = .ok (.iload 5, 2) := by decide +kernel
theorem dX5_authority_175 : decode cX5_authority 175 = .ok (.invokevirtual 113, 3) := by decide +kernel
theorem dX5_authority_178 : decode cX5_authority 178 = .ok (.iload 5, 2) := by decide +kernel
theorem dX5_authority_180 : decode cX5_authority 180 = .ok (.iconst 1, 1) := by decide +kernel
theorem dX5_authority_181 : decode cX5_authority 181 = .ok (.iadd, 1) := by decide +kernel
theorem dX5_authority_182 : decode cX5_authority 182 = .ok (.iload_n 2, 1) := by decide +kernel
theorem dX5_authority_183 : decode cX5_authority 183 = .ok (.if_icmp .ge 10, 3) := by decide +kernel
theorem dX5_authority_186 : decode cX5_authority 186 = .ok (.aload_n 0, 1) := by decide +kernel
theorem dX5_authority_187 : decode cX5_authority 187 = .ok (.lload 6, 2) := by decide +kernel
theorem dX5_authority_189 : decode cX5_authority 189 = .ok (.l2i, 1) := by decide +kernel
theorem dX5_authority_190 : decode cX5_authority 190 = .ok (.putfield 104, 3) := by decide +kernel
theorem dX5_authority_193 : decode cX5_authority 193 = .ok (.return_, 1) := by decide +kernel
theorem dX5_isNumbers_0 : decode cX5_isNumbers 0 = .ok (.iconst 0, 1) := by decide +kernel
theorem dX5_isNumbers_1 : decode cX5_isNumbers 1 = .ok (.istore_n 3, 1) := by decide +kernel
theorem dX5_isNumbers_2 : decode cX5_isNumbers 2 = .ok (.iconst 0, 1) := by decide +kernel
theorem dX5_isNumbers_3 : decode cX5_isNumbers 3 = .ok (.istore 4, 2) := by decide +kernel
theorem dX5_isNumbers_5 : decode cX5_isNumbers 5 = .ok (.iload_n 1, 1) := by decide +kernel
theorem dX5_isNumbers_6 : decode cX5_isNumbers 6 = .ok (.istore 5, 2) := by decide +kernel
theorem dX5_isNumbers_8 : decode cX5_isNumbers 8 = .ok (.iload 5, 2) := by decide +kernel
theorem dX5_isNumbers_10 : decode cX5_isNumbers 10 = .ok (.iload_n 2, 1) := by decide +kernel
theorem dX5_isNumbers_11 : decode cX5_isNumbers 11 = .ok (.if_icmp .gt 87, 3) := by decide +kernel
theorem dX5_isNumbers_14 : decode cX5_isNumbers 14 = .ok (.iload 5, 2) := by decide +kernel
theorem dX5_isNumbers_16 : decode cX5_isNumbers 16 = .ok (.iload_n 2, 1) := by decide +kernel
theorem dX5_isNumbers_17 : decode cX5_isNumbers 17 = .ok (.if_icmp .ge 44, 3) := by decide +kernel
theorem dX5_isNumbers_20 : decode cX5_isNumbers 20 = .ok (.aload_n 0, 1) := by decide +kernel
theorem dX5_isNumbers_21 : decode cX5_isNumbers 21 = .ok (.getfield 7, 3) := by decide +kernel
theorem dX5_isNumbers_24 : decode cX5_isNumbers 24 = .ok (.iload 5, 2) := by decide +kernel
theorem dX5_isNumbers_26 : decode cX5_isNumbers 26 = .ok (.iaload, 1) := by decide +kernel
theorem dX5_isNumbers_27 : decode cX5_isNumbers 27 = .ok (.invokestatic 110, 3) := by decide +kernel
theorem dX5_isNumbers_30 : decode cX5_isNumbers 30 = .ok (.ifCond .eq 31, 3) := by decide +kernel
theorem dX5_isNumbers_33 : decode cX5_isNumbers 33 = .ok (.bipush 10, 2) := by decide +kernel
theorem dX5_isNumbers_35 : decode cX5_isNumbers 35 = .ok (.iload 4, 2) := by decide +kernel
theorem dX5_isNumbers_37 : decode cX5_isNumbers 37 = .ok (.imul, 1) := by decide +kernel
theorem dX5_isNumbers_38 : decode cX5_isNumbers 38 = .ok (.aload_n 0, 1) := by decide +kernel
theorem dX5_isNumbers_39 : decode cX5_isNumbers 39 = .ok (.getfield 7, 3) := by decide +kernel
theorem dX5_isNumbers_42 : decode cX5_isNumbers 42 = .ok (.iload 5, 2) := by decide +kernel
theorem dX5_isNumbers_44 : decode cX5_isNumbers 44 = .ok (.iaload, 1) := by decide +kernel
theorem dX5_isNumbers_45 : decode cX5_isNumbers 45 = .ok (.iadd, 1) := by decide +kernel
theorem dX5_isNumbers_46 : decode cX5_isNumbers 46 = .ok (.bipush 48, 2) := by decide +kernel
theorem dX5_isNumbers_48 : decode cX5_isNumbers 48 = .ok (.isub, 1) := by decide +kernel
theorem dX5_isNumbers_49 : decode cX5_isNumbers 49 = .ok (.istore 4, 2) := by decide +kernel
theorem dX5_isNumbers_51 : decode cX5_isNumbers 51 = .ok (.iload 4, 2) := by decide +kernel
theorem dX5_isNumbers_53 : decode cX5_isNumbers 53 = .ok (.sipush 255, 3) := by decide +kernel
theorem dX5_isNumbers_56 : decode cX5_isNumbers 56 = .ok (.if_icmp .le 36, 3) := by decide +kernel
theorem dX5_isNumbers_59 : decode cX5_isNumbers 59 = .ok (.iconst 0, 1) := by decide +kernel
theorem dX5_isNumbers_60 : decode cX5_isNumbers 60 = .ok (.ireturn, 1) := by decide +kernel
theorem dX5_isNumbers_61 : decode cX5_isNumbers 61 = .ok (.iload 5, 2) := by decide +kernel
theorem dX5_isNumbers_63 : decode cX5_isNumbers 63 = .ok (.iload_n 2, 1) := by decide +kernel
theorem dX5_isNumbers_64 : decode cX5_isNumbers 64 = .ok (.if_icmp .ge 15, 3) := by decide +kernel
theorem dX5_isNumbers_67 : decode cX5_isNumbers 67 = .ok (.aload_n 0, 1) := by decide +kernel
theorem dX5_isNumbers_68 : decode cX5_isNumbers 68 = .ok (.getfield 7, 3) := by decide +kernel
theorem dX5_isNumbers_71 : decode cX5_isNumbers 71 = .ok (.iload 5, 2) := by decide +kernel
theorem dX5_isNumbers_73 : decode cX5_isNumbers 73 = .ok (.iaload, 1) := by decide +kernel
theorem dX5_isNumbers_74 : decode cX5_isNumbers 74 = .ok (.bipush 46, 2) := by decide +kernel
theorem dX5_isNumbers_76 : decode cX5_isNumbers 76 = .ok (.if_icmp .ne 8, 3) := by decide +kernel
theorem dX5_isNumbers_79 : decode cX5_isNumbers 79 = .ok (.iload 4, 2) := by decide +kernel
theorem dX5_isNumbers_81 : decode cX5_isNumbers 81 = .ok (.ifCond .ne 5, 3) := by decide +kernel
theorem dX5_isNumbers_84 : decode cX5_isNumbers 84 = .ok (.iconst 0, 1) := by decide +kernel
theorem dX5_isNumbers_85 : decode cX5_isNumbers 85 = .ok (.ireturn, 1) := by decide +kernel
theorem dX5_isNumbers_86 : decode cX5_isNumbers 86 = .ok (.iconst 0, 1) := by decide +kernel
theorem dX5_isNumbers_87 : decode cX5_isNumbers 87 = .ok (.istore 4, 2) := by decide +kernel
theorem dX5_isNumbers_89 : decode cX5_isNumbers 89 = .ok (.iinc 3 1, 3) := by decide +kernel
theorem dX5_isNumbers_92 : decode cX5_isNumbers 92 = .ok (.iinc 5 1, 3) := by decide +kernel
theorem dX5_isNumbers_95 : decode cX5_isNumbers 95 = .ok (.goto (-87), 3) := by decide +kernel
theorem dX5_isNumbers_98 : decode cX5_isNumbers 98 = .ok (.iload_n 3, 1) := by decide +kernel
theorem dX5_isNumbers_99 : decode cX5_isNumbers 99 = .ok (.iconst 4, 1) := by decide +kernel
theorem dX5_isNumbers_100 : decode cX5_isNumbers 100 = .ok (.if_icmp .ne 7, 3) := by decide +kernel
theorem dX5_isNumbers_103 : decode cX5_isNumbers 103 = .ok (.iconst 1, 1) := by decide +kernel
theorem dX5_isNumbers_104 : decode cX5_isNumbers 104 = .ok (.goto 4, 3) := by decide +kernel
theorem dX5_isNumbers_107 : decode cX5_isNumbers 107 = .ok (.iconst 0, 1) := by decide +kernel
theorem dX5_isNumbers_108 : decode cX5_isNumbers 108 = .ok (.ireturn, 1) := by decide +kernel
theorem dX5_isLabels_0 : decode cX5_isLabels 0 = .ok (.iload_n 2, 1) := by decide +kernel
theorem dX5_isLabels_1 : decode cX5_isLabels 1 = .ok (.iload_n 1, 1) := by decide +kernel
theorem dX5_isLabels_2 : decode cX5_isLabels 2 = .ok (.if_icmp .le 22, 3) := by decide +kernel
theorem dX5_isLabels_5 : decode cX5_isLabels 5 = .ok (.aload_n 0, 1) := by decide +kernel
theorem dX5_isLabels_6 : decode cX5_isLabels 6 = .ok (.getfield 7, 3) := by decide +kernel
theorem dX5_isLabels_9 : decode cX5_isLabels 9 = .ok (.iload_n 2, 1) := by decide +kernel
theorem dX5_isLabels_10 : decode cX5_isLabels 10 = .ok (.iconst 1, 1) := by decide +kernel
theorem dX5_isLabels_11 : decode cX5_isLabels 11 = .ok (.isub, 1) := by decide +kernel
theorem dX5_isLabels_12 : decode cX5_isLabels 12 = .ok (.iaload, 1) := by decide +kernel
theorem dX5_isLabels_13 : decode cX5_isLabels 13 = .ok (.bipush 46, 2) := by decide +kernel
theorem dX5_isLabels_15 : decode cX5_isLabels 15 = .ok (.if_icmp .ne 9, 3) := by decide +kernel
theorem dX5_isLabels_18 : decode cX5_isLabels 18 = .ok (.iload_n 2, 1) := by decide +kernel
theorem dX5_isLabels_19 : decode cX5_isLabels 19 = .ok (.iconst 1, 1) := by decide +kernel
theorem dX5_isLabels_20 : decode cX5_isLabels 20 = .ok (.isub, 1) := by decide +kernel
theorem dX5_isLabels_21 : decode cX5_isLabels 21 = .ok (.goto 4, 3) := by decide +kernel
theorem dX5_isLabels_24 : decode cX5_isLabels 24 = .ok (.iload_n 2, 1) := by decide +kernel
theorem dX5_isLabels_25 : decode cX5_isLabels 25 = .ok (.istore_n 3, 1) := by decide +kernel
theorem dX5_isLabels_26 : decode cX5_isLabels 26 = .ok (.iload_n 1, 1) := by decide +kernel
theorem dX5_isLabels_27 : decode cX5_isLabels 27 = .ok (.istore 4, 2) := by decide +kernel
theorem dX5_isLabels_29 : decode cX5_isLabels 29 = .ok (.iconst 0, 1) := by decide +kernel
theorem dX5_isLabels_30 : decode cX5_isLabels 30 = .ok (.istore 5, 2) := by decide +kernel
theorem dX5_isLabels_32 : decode cX5_isLabels 32 = .ok (.iload_n 1, 1) := by decide +kernel
theorem dX5_isLabels_33 : decode cX5_isLabels 33 = .ok (.istore 6, 2) := by decide +kernel
theorem dX5_isLabels_35 : decode cX5_isLabels 35 = .ok (.iload 6, 2) := by decide +kernel
theorem dX5_isLabels_37 : decode cX5_isLabels 37 = .ok (.iload_n 3, 1) := by decide +kernel
theorem dX5_isLabels_38 : decode cX5_isLabels 38 = .ok (.if_icmp .gt 138, 3) := by decide +kernel
theorem dX5_isLabels_41 : decode cX5_isLabels 41 = .ok (.iload 6, 2) := by decide +kernel
theorem dX5_isLabels_43 : decode cX5_isLabels 43 = .ok (.iload_n 3, 1) := by decide +kernel
theorem dX5_isLabels_44 : decode cX5_isLabels 44 = .ok (.if_icmp .ge 55, 3) := by decide +kernel
theorem dX5_isLabels_47 : decode cX5_isLabels 47 = .ok (.aload_n 0, 1) := by decide +kernel
theorem dX5_isLabels_48 : decode cX5_isLabels 48 = .ok (.getfield 7, 3) := by decide +kernel
theorem dX5_isLabels_51 : decode cX5_isLabels 51 = .ok (.iload 6, 2) := by decide +kernel
theorem dX5_isLabels_53 : decode cX5_isLabels 53 = .ok (.iaload, 1) := by decide +kernel
theorem dX5_isLabels_54 : decode cX5_isLabels 54 = .ok (.bipush 46, 2) := by decide +kernel
theorem dX5_isLabels_56 : decode cX5_isLabels 56 = .ok (.if_icmp .eq 43, 3) := by decide +kernel
theorem dX5_isLabels_59 : decode cX5_isLabels 59 = .ok (.aload_n 0, 1) := by decide +kernel
theorem dX5_isLabels_60 : decode cX5_isLabels 60 = .ok (.getfield 7, 3) := by decide +kernel
theorem dX5_isLabels_63 : decode cX5_isLabels 63 = .ok (.iload 6, 2) := by decide +kernel
theorem dX5_isLabels_65 : decode cX5_isLabels 65 = .ok (.iaload, 1) := by decide +kernel
theorem dX5_isLabels_66 : decode cX5_isLabels 66 = .ok (.invokestatic 107, 3) := by decide +kernel
theorem dX5_isLabels_69 : decode cX5_isLabels 69 = .ok (.ifCond .ne 101, 3) := by decide +kernel
theorem dX5_isLabels_72 : decode cX5_isLabels 72 = .ok (.aload_n 0, 1) := by decide +kernel
theorem dX5_isLabels_73 : decode cX5_isLabels 73 = .ok (.getfield 7, 3) := by decide +kernel
theorem dX5_isLabels_76 : decode cX5_isLabels 76 = .ok (.iload 6, 2) := by decide +kernel
theorem dX5_isLabels_78 : decode cX5_isLabels 78 = .ok (.iaload, 1) := by decide +kernel
theorem dX5_isLabels_79 : decode cX5_isLabels 79 = .ok (.invokestatic 110, 3) := by decide +kernel
theorem dX5_isLabels_82 : decode cX5_isLabels 82 = .ok (.ifCond .ne 88, 3) := by decide +kernel
theorem dX5_isLabels_85 : decode cX5_isLabels 85 = .ok (.aload_n 0, 1) := by decide +kernel
theorem dX5_isLabels_86 : decode cX5_isLabels 86 = .ok (.getfield 7, 3) := by decide +kernel
theorem dX5_isLabels_89 : decode cX5_isLabels 89 = .ok (.iload 6, 2) := by decide +kernel
theorem dX5_isLabels_91 : decode cX5_isLabels 91 = .ok (.iaload, 1) := by decide +kernel
theorem dX5_isLabels_92 : decode cX5_isLabels 92 = .ok (.bipush 45, 2) := by decide +kernel
theorem dX5_isLabels_94 : decode cX5_isLabels 94 = .ok (.if_icmp .eq 76, 3) := by decide +kernel
theorem dX5_isLabels_97 : decode cX5_isLabels 97 = .ok (.iconst 0, 1) := by decide +kernel
theorem dX5_isLabels_98 : decode cX5_isLabels 98 = .ok (.ireturn, 1) := by decide +kernel
theorem dX5_isLabels_99 : decode cX5_isLabels 99 = .ok (.iload 6, 2) := by decide +kernel
theorem dX5_isLabels_101 : decode cX5_isLabels 101 = .ok (.iload 4, 2) := by decide +kernel
theorem dX5_isLabels_103 : decode cX5_isLabels 103 = .ok (.if_icmp .eq 29, 3) := by decide +kernel
theorem dX5_isLabels_106 : decode cX5_isLabels 106 = .ok (.aload_n 0, 1) := by decide +kernel
theorem dX5_isLabels_107 : decode cX5_isLabels 107 = .ok (.getfield 7, 3) := by decide +kernel
theorem dX5_isLabels_110 : decode cX5_isLabels 110 = .ok (.iload 4, 2) := by decide +kernel
theorem dX5_isLabels_112 : decode cX5_isLabels 112 = .ok (.iaload, 1) := by decide +kernel
theorem dX5_isLabels_113 : decode cX5_isLabels 113 = .ok (.bipush 45, 2) := by decide +kernel
theorem dX5_isLabels_115 : decode cX5_isLabels 115 = .ok (.if_icmp .eq 17, 3) := by decide +kernel
theorem dX5_isLabels_118 : decode cX5_isLabels 118 = .ok (.aload_n 0, 1) := by decide +kernel
theorem dX5_isLabels_119 : decode cX5_isLabels 119 = .ok (.getfield 7, 3) := by decide +kernel
theorem dX5_isLabels_122 : decode cX5_isLabels 122 = .ok (.iload 6, 2) := by decide +kernel
theorem dX5_isLabels_124 : decode cX5_isLabels 124 = .ok (.iconst 1, 1) := by decide +kernel
theorem dX5_isLabels_125 : decode cX5_isLabels 125 = .ok (.isub, 1) := by decide +kernel
theorem dX5_isLabels_126 : decode cX5_isLabels 126 = .ok (.iaload, 1) := by decide +kernel
theorem dX5_isLabels_127 : decode cX5_isLabels 127 = .ok (.bipush 45, 2) := by decide +kernel
theorem dX5_isLabels_129 : decode cX5_isLabels 129 = .ok (.if_icmp .ne 5, 3) := by decide +kernel
theorem dX5_isLabels_132 : decode cX5_isLabels 132 = .ok (.iconst 0, 1) := by decide +kernel
theorem dX5_isLabels_133 : decode cX5_isLabels 133 = .ok (.ireturn, 1) := by decide +kernel
theorem dX5_isLabels_134 : decode cX5_isLabels 134 = .ok (.iinc 5 1, 3) := by decide +kernel
theorem dX5_isLabels_137 : decode cX5_isLabels 137 = .ok (.iload 6, 2) := by decide +kernel
theorem dX5_isLabels_139 : decode cX5_isLabels 139 = .ok (.iload_n 3, 1) := by decide +kernel
theorem dX5_isLabels_140 : decode cX5_isLabels 140 = .ok (.if_icmp .ne 24, 3) := by decide +kernel
theorem dX5_isLabels_143 : decode cX5_isLabels 143 = .ok (.iload 5, 2) := by decide +kernel
theorem dX5_isLabels_145 : decode cX5_isLabels 145 = .ok (.iconst 1, 1) := by decide +kernel
theorem dX5_isLabels_146 : decode cX5_isLabels 146 = .ok (.if_icmp .le 18, 3) := by decide +kernel
theorem dX5_isLabels_149 : decode cX5_isLabels 149 = .ok (.aload_n 0, 1) := by decide +kernel
theorem dX5_isLabels_150 : decode cX5_isLabels 150 = .ok (.getfield 7, 3) := by decide +kernel
theorem dX5_isLabels_153 : decode cX5_isLabels 153 = .ok (.iload 4, 2) := by decide +kernel
theorem dX5_isLabels_155 : decode cX5_isLabels 155 = .ok (.iaload, 1) := by decide +kernel
theorem dX5_isLabels_156 : decode cX5_isLabels 156 = .ok (.invokestatic 107, 3) := by decide +kernel
theorem dX5_isLabels_159 : decode cX5_isLabels 159 = .ok (.ifCond .ne 5, 3) := by decide +kernel
theorem dX5_isLabels_162 : decode cX5_isLabels 162 = .ok (.iconst 0, 1) := by decide +kernel
theorem dX5_isLabels_163 : decode cX5_isLabels 163 = .ok (.ireturn, 1) := by decide +kernel
theorem dX5_isLabels_164 : decode cX5_isLabels 164 = .ok (.iload 6, 2) := by decide +kernel
theorem dX5_isLabels_166 : decode cX5_isLabels 166 = .ok (.iconst 1, 1) := by decide +kernel
theorem dX5_isLabels_167 : decode cX5_isLabels 167 = .ok (.iadd, 1) := by decide +kernel
theorem dX5_isLabels_168 : decode cX5_isLabels 168 = .ok (.istore 4, 2) := by decide +kernel
theorem dX5_isLabels_170 : decode cX5_isLabels 170 = .ok (.iinc 6 1, 3) := by decide +kernel
theorem dX5_isLabels_173 : decode cX5_isLabels 173 = .ok (.goto (-138), 3) := by decide +kernel
theorem dX5_isLabels_176 : decode cX5_isLabels 176 = .ok (.iconst 1, 1) := by decide +kernel
theorem dX5_isLabels_177 : decode cX5_isLabels 177 = .ok (.ireturn, 1) := by decide +kernel
theorem dX5_noSlot_0 : decode cX5_noSlot 0 = .ok (.iload_n 1, 1) := by decide +kernel
theorem dX5_noSlot_1 : decode cX5_noSlot 1 = .ok (.invokestatic 145, 3) := by decide +kernel
theorem dX5_noSlot_4 : decode cX5_noSlot 4 = .ok (.ifCond .ne 7, 3) := by decide +kernel
theorem dX5_noSlot_7 : decode cX5_noSlot 7 = .ok (.iconst 1, 1) := by decide +kernel
theorem dX5_noSlot_8 : decode cX5_noSlot 8 = .ok (.goto 17, 3) := by decide +kernel
theorem dX5_noSlot_11 : decode cX5_noSlot 11 = .ok (.aload_n 0, 1) := by decide +kernel
theorem dX5_noSlot_12 : decode cX5_noSlot 12 = .ok (.getfield 19, 3) := by decide +kernel
theorem dX5_noSlot_15 : decode cX5_noSlot 15 = .ok (.iload_n 1, 1) := by decide +kernel
theorem dX5_noSlot_16 : decode cX5_noSlot 16 = .ok (.iaload, 1) := by decide +kernel
theorem dX5_noSlot_17 : decode cX5_noSlot 17 = .ok (.ifCond .ge 7, 3) := by decide +kernel
theorem dX5_noSlot_20 : decode cX5_noSlot 20 = .ok (.iconst 2, 1) := by decide +kernel
theorem dX5_noSlot_21 : decode cX5_noSlot 21 = .ok (.goto 4, 3) := by decide +kernel
theorem dX5_noSlot_24 : decode cX5_noSlot 24 = .ok (.iconst 0, 1) := by decide +kernel
theorem dX5_noSlot_25 : decode cX5_noSlot 25 = .ok (.ireturn, 1) := by decide +kernel
theorem dX5_parse_0 : decode cX5_parse 0 = .ok (.aload_n 0, 1) := by decide +kernel
theorem dX5_parse_1 : decode cX5_parse 1 = .ok (.invokevirtual 122, 3) := by decide +kernel
theorem dX5_parse_4 : decode cX5_parse 4 = .ok (.ifCond .lt 28, 3) := by decide +kernel
theorem dX5_parse_7 : decode cX5_parse 7 = .ok (.aload_n 0, 1) := by decide +kernel
theorem dX5_parse_8 : decode cX5_parse 8 = .ok (.aload_n 0, 1) := by decide +kernel
theorem dX5_parse_9 : decode cX5_parse 9 = .ok (.invokevirtual 122, 3) := by decide +kernel
theorem dX5_parse_12 : decode cX5_parse 12 = .ok (.aload_n 0, 1) := by decide +kernel
theorem dX5_parse_13 : decode cX5_parse 13 = .ok (.aload_n 0, 1) := by decide +kernel
theorem dX5_parse_14 : decode cX5_parse 14 = .ok (.invokevirtual 122, 3) := by decide +kernel
theorem dX5_parse_17 : decode cX5_parse 17 = .ok (.ldc 125, 2) := by decide +kernel
theorem dX5_parse_19 : decode cX5_parse 19 = .ok (.invokevirtual 85, 3) := by decide +kernel
theorem dX5_parse_22 : decode cX5_parse 22 = .ok (.invokevirtual 119, 3) := by decide +kernel
theorem dX5_parse_25 : decode cX5_parse 25 = .ok (.ifCond .lt 7, 3) := by decide +kernel
theorem dX5_parse_28 : decode cX5_parse 28 = .ok (.iconst 1, 1) := by decide +kernel
theorem dX5_parse_29 : decode cX5_parse 29 = .ok (.goto 4, 3) := by decide +kernel
theorem dX5_parse_32 : decode cX5_parse 32 = .ok (.iconst 0, 1) := by decide +kernel
theorem dX5_parse_33 : decode cX5_parse 33 = .ok (.istore_n 2, 1) := by decide +kernel
theorem dX5_parse_34 : decode cX5_parse 34 = .ok (.aload_n 0, 1) := by decide +kernel
theorem dX5_parse_35 : decode cX5_parse 35 = .ok (.iload_n 1, 1) := by decide +kernel
theorem dX5_parse_36 : decode cX5_parse 36 = .ok (.invokestatic 145, 3) := by decide +kernel
theorem dX5_parse_39 : decode cX5_parse 39 = .ok (.ifCond .ne 7, 3) := by decide +kernel
theorem dX5_parse_42 : decode cX5_parse 42 = .ok (.iconst 1, 1) := by decide +kernel
theorem dX5_parse_43 : decode cX5_parse 43 = .ok (.goto 12, 3) := by decide +kernel
theorem dX5_parse_46 : decode cX5_parse 46 = .ok (.iload_n 2, 1) := by decide +kernel
theorem dX5_parse_47 : decode cX5_parse 47 = .ok (.ifCond .eq 7, 3) := by decide +kernel
theorem dX5_parse_50 : decode cX5_parse 50 = .ok (.iconst 2, 1) := by decide +kernel
theorem dX5_parse_51 : decode cX5_parse 51 = .ok (.goto 4, 3) := by decide +kernel
theorem dX5_parse_54 : decode cX5_parse 54 = .ok (.iconst 0, 1) := by decide +kernel
theorem dX5_parse_55 : decode cX5_parse 55 = .ok (.invokevirtual 63, 3) := by decide +kernel
theorem dX5_parse_58 : decode cX5_parse 58 = .ok (.ifCond .eq 5, 3) := by decide +kernel
theorem dX5_parse_61 : decode cX5_parse 61 = .ok (.iconst 0, 1) := by decide +kernel
theorem dX5_parse_62 : decode cX5_parse 62 = .ok (.ireturn, 1) := by decide +kernel
theorem dX5_parse_63 : decode cX5_parse 63 = .ok (.aload_n 0, 1) := by decide +kernel
theorem dX5_parse_64 : decode cX5_parse 64 = .ok (.invokevirtual 148, 3) := by decide +kernel
theorem dX5_parse_67 : decode cX5_parse 67 = .ok (.istore_n 3, 1) := by decide +kernel
theorem dX5_parse_68 : decode cX5_parse 68 = .ok (.iload_n 3, 1) := by decide +kernel
theorem dX5_parse_69 : decode cX5_parse 69 = .ok (.ifCond .lt 20, 3) := by decide +kernel
theorem dX5_parse_72 : decode cX5_parse 72 = .ok (.aload_n 0, 1) := by decide +kernel
theorem dX5_parse_73 : decode cX5_parse 73 = .ok (.dup, 1) := by decide +kernel
theorem dX5_parse_74 : decode cX5_parse 74 = .ok (.getfield 151, 3) := by decide +kernel
theorem dX5_parse_77 : decode cX5_parse 77 = .ok (.iconst 1, 1) := by decide +kernel
theorem dX5_parse_78 : decode cX5_parse 78 = .ok (.iadd, 1) := by decide +kernel
theorem dX5_parse_79 : decode cX5_parse 79 = .ok (.putfield 151, 3) := by decide +kernel
theorem dX5_parse_82 : decode cX5_parse 82 = .ok (.aload_n 0, 1) := by decide +kernel
theorem dX5_parse_83 : decode cX5_parse 83 = .ok (.iload_n 3, 1) := by decide +kernel
theorem dX5_parse_84 : decode cX5_parse 84 = .ok (.putfield 154, 3) := by decide +kernel
theorem dX5_parse_87 : decode cX5_parse 87 = .ok (.iload_n 3, 1) := by decide +kernel
theorem dX5_parse_88 : decode cX5_parse 88 = .ok (.ireturn, 1) := by decide +kernel
theorem dX5_parse_89 : decode cX5_parse 89 = .ok (.aload_n 0, 1) := by decide +kernel
theorem dX5_parse_90 : decode cX5_parse 90 = .ok (.getfield 19, 3) := by decide +kernel
theorem dX5_parse_93 : decode cX5_parse 93 = .ok (.iload_n 1, 1) := by decide +kernel
theorem dX5_parse_94 : decode cX5_parse 94 = .ok (.aload_n 0, 1) := by decide +kernel
theorem dX5_parse_95 : decode cX5_parse 95 = .ok (.getfield 53, 3) := by decide +kernel
theorem dX5_parse_98 : decode cX5_parse 98 = .ok (.iastore, 1) := by decide +kernel
theorem dX5_parse_99 : decode cX5_parse 99 = .ok (.iconst 0, 1) := by decide +kernel
theorem dX5_parse_100 : decode cX5_parse 100 = .ok (.istore 4, 2) := by decide +kernel
theorem dX5_parse_102 : decode cX5_parse 102 = .ok (.iload 4, 2) := by decide +kernel
theorem dX5_parse_104 : decode cX5_parse 104 = .ok (.aload_n 0, 1) := by decide +kernel
theorem dX5_parse_105 : decode cX5_parse 105 = .ok (.getfield 53, 3) := by decide +kernel
theorem dX5_parse_108 : decode cX5_parse 108 = .ok (.if_icmp .ge 28, 3) := by decide +kernel
theorem dX5_parse_111 : decode cX5_parse 111 = .ok (.aload_n 0, 1) := by decide +kernel
theorem dX5_parse_112 : decode cX5_parse 112 = .ok (.getfield 16, 3) := by decide +kernel
theorem dX5_parse_115 : decode cX5_parse 115 = .ok (.bipush 60, 2) := by decide +kernel
theorem dX5_parse_117 : decode cX5_parse 117 = .ok (.iload_n 1, 1) := by decide +kernel
theorem dX5_parse_118 : decode cX5_parse 118 = .ok (.imul, 1) := by decide +kernel
theorem dX5_parse_119 : decode cX5_parse 119 = .ok (.iload 4, 2) := by decide +kernel
theorem dX5_parse_121 : decode cX5_parse 121 = .ok (.iadd, 1) := by decide +kernel
theorem dX5_parse_122 : decode cX5_parse 122 = .ok (.aload_n 0, 1) := by decide +kernel
theorem dX5_parse_123 : decode cX5_parse 123 = .ok (.getfield 7, 3) := by decide +kernel
theorem dX5_parse_126 : decode cX5_parse 126 = .ok (.iload 4, 2) := by decide +kernel
theorem dX5_parse_128 : decode cX5_parse 128 = .ok (.iaload, 1) := by decide +kernel
theorem dX5_parse_129 : decode cX5_parse 129 = .ok (.iastore, 1) := by decide +kernel
theorem dX5_parse_130 : decode cX5_parse 130 = .ok (.iinc 4 1, 3) := by decide +kernel
theorem dX5_parse_133 : decode cX5_parse 133 = .ok (.goto (-31), 3) := by decide +kernel
theorem dX5_parse_136 : decode cX5_parse 136 = .ok (.iconst 0, 1) := by decide +kernel
theorem dX5_parse_137 : decode cX5_parse 137 = .ok (.istore 4, 2) := by decide +kernel
theorem dX5_parse_139 : decode cX5_parse 139 = .ok (.iload 4, 2) := by decide +kernel
theorem dX5_parse_141 : decode cX5_parse 141 = .ok (.bipush 9, 2) := by decide +kernel
theorem dX5_parse_143 : decode cX5_parse 143 = .ok (.if_icmp .ge 47, 3) := by decide +kernel
theorem dX5_parse_146 : decode cX5_parse 146 = .ok (.aload_n 0, 1) := by decide +kernel
theorem dX5_parse_147 : decode cX5_parse 147 = .ok (.getfield 22, 3) := by decide +kernel
theorem dX5_parse_150 : decode cX5_parse 150 = .ok (.bipush 9, 2) := by decide +kernel
theorem dX5_parse_152 : decode cX5_parse 152 = .ok (.iload_n 1, 1) := by decide +kernel
theorem dX5_parse_153 : decode cX5_parse 153 = .ok (.imul, 1) := by decide +kernel
theorem dX5_parse_154 : decode cX5_parse 154 = .ok (.iload 4, 2) := by decide +kernel
theorem dX5_parse_156 : decode cX5_parse 156 = .ok (.iadd, 1) := by decide +kernel
theorem dX5_parse_157 : decode cX5_parse 157 = .ok (.aload_n 0, 1) := by decide +kernel
theorem dX5_parse_158 : decode cX5_parse 158 = .ok (.getfield 31, 3) := by decide +kernel
theorem dX5_parse_161 : decode cX5_parse 161 = .ok (.iload 4, 2) := by decide +kernel
theorem dX5_parse_163 : decode cX5_parse 163 = .ok (.iaload, 1) := by decide +kernel
theorem dX5_parse_164 : decode cX5_parse 164 = .ok (.iastore, 1) := by decide +kernel
theorem dX5_parse_165 : decode cX5_parse 165 = .ok (.aload_n 0, 1) := by decide +kernel
theorem dX5_parse_166 : decode cX5_parse 166 = .ok (.getfield 25, 3) := by decide +kernel
theorem dX5_parse_169 : decode cX5_parse 169 = .ok (.bipush 9, 2) := by decide +kernel
theorem dX5_parse_171 : decode cX5_parse 171 = .ok (.iload_n 1, 1) := by decide +kernel
theorem dX5_parse_172 : decode cX5_parse 172 = .ok (.imul, 1) := by decide +kernel
theorem dX5_parse_173 : decode cX5_parse 173 = .ok (.iload 4, 2) := by decide +kernel
theorem dX5_parse_175 : decode cX5_parse 175 = .ok (.iadd, 1) := by decide +kernel
theorem dX5_parse_176 : decode cX5_parse 176 = .ok (.aload_n 0, 1) := by decide +kernel
theorem dX5_parse_177 : decode cX5_parse 177 = .ok (.getfield 34, 3) := by decide +kernel
theorem dX5_parse_180 : decode cX5_parse 180 = .ok (.iload 4, 2) := by decide +kernel
theorem dX5_parse_182 : decode cX5_parse 182 = .ok (.iaload, 1) := by decide +kernel
theorem dX5_parse_183 : decode cX5_parse 183 = .ok (.iastore, 1) := by decide +kernel
theorem dX5_parse_184 : decode cX5_parse 184 = .ok (.iinc 4 1, 3) := by decide +kernel
theorem dX5_parse_187 : decode cX5_parse 187 = .ok (.goto (-48), 3) := by decide +kernel
theorem dX5_parse_190 : decode cX5_parse 190 = .ok (.aload_n 0, 1) := by decide +kernel
theorem dX5_parse_191 : decode cX5_parse 191 = .ok (.getfield 28, 3) := by decide +kernel
theorem dX5_parse_194 : decode cX5_parse 194 = .ok (.iload_n 1, 1) := by decide +kernel
theorem dX5_parse_195 : decode cX5_parse 195 = .ok (.aload_n 0, 1) := by decide +kernel
theorem dX5_parse_196 : decode cX5_parse 196 = .ok (.getfield 104, 3) := by decide +kernel
theorem dX5_parse_199 : decode cX5_parse 199 = .ok (.iastore, 1) := by decide +kernel
theorem dX5_parse_200 : decode cX5_parse 200 = .ok (.iconst (-1), 1) := by decide +kernel
theorem dX5_parse_201 : decode cX5_parse 201 = .ok (.ireturn, 1) := by decide +kernel
theorem dX5_refusals_0 : decode cX5_refusals 0 = .ok (.aload_n 0, 1) := by decide +kernel
theorem dX5_refusals_1 : decode cX5_refusals 1 = .ok (.iconst 0, 1) := by decide +kernel
theorem dX5_refusals_2 : decode cX5_refusals 2 = .ok (.putfield 37, 3) := by decide +kernel
theorem dX5_refusals_5 : decode cX5_refusals 5 = .ok (.aload_n 0, 1) := by decide +kernel
theorem dX5_refusals_6 : decode cX5_refusals 6 = .ok (.getfield 151, 3) := by decide +kernel
theorem dX5_refusals_9 : decode cX5_refusals 9 = .ok (.ireturn, 1) := by decide +kernel
theorem dX5_refusedAt_0 : decode cX5_refusedAt 0 = .ok (.aload_n 0, 1) := by decide +kernel
theorem dX5_refusedAt_1 : decode cX5_refusedAt 1 = .ok (.aload_n 0, 1) := by decide +kernel
theorem dX5_refusedAt_2 : decode cX5_refusedAt 2 = .ok (.getfield 151, 3) := by decide +kernel
theorem dX5_refusedAt_5 : decode cX5_refusedAt 5 = .ok (.ifCond .ne 7, 3) := by decide +kernel
theorem dX5_refusedAt_8 : decode cX5_refusedAt 8 = .ok (.iconst 1, 1) := by decide +kernel
theorem dX5_refusedAt_9 : decode cX5_refusedAt 9 = .ok (.goto 4, 3) := by decide +kernel
theorem dX5_refusedAt_12 : decode cX5_refusedAt 12 = .ok (.iconst 0, 1) := by decide +kernel
theorem dX5_refusedAt_13 : decode cX5_refusedAt 13 = .ok (.invokevirtual 63, 3) := by decide +kernel
theorem dX5_refusedAt_16 : decode cX5_refusedAt 16 = .ok (.ifCond .eq 7, 3) := by decide +kernel
theorem dX5_refusedAt_19 : decode cX5_refusedAt 19 = .ok (.iconst 0, 1) := by decide +kernel
theorem dX5_refusedAt_20 : decode cX5_refusedAt 20 = .ok (.goto 7, 3) := by decide +kernel
theorem dX5_refusedAt_23 : decode cX5_refusedAt 23 = .ok (.aload_n 0, 1) := by decide +kernel
theorem dX5_refusedAt_24 : decode cX5_refusedAt 24 = .ok (.getfield 154, 3) := by decide +kernel
theorem dX5_refusedAt_27 : decode cX5_refusedAt 27 = .ok (.ireturn, 1) := by decide +kernel
theorem dX5_isTold_0 : decode cX5_isTold 0 = .ok (.aload_n 0, 1) := by decide +kernel
theorem dX5_isTold_1 : decode cX5_isTold 1 = .ok (.aload_n 0, 1) := by decide +kernel
theorem dX5_isTold_2 : decode cX5_isTold 2 = .ok (.getfield 151, 3) := by decide +kernel
theorem dX5_isTold_5 : decode cX5_isTold 5 = .ok (.ifCond .ne 7, 3) := by decide +kernel
theorem dX5_isTold_8 : decode cX5_isTold 8 = .ok (.iconst 1, 1) := by decide +kernel
theorem dX5_isTold_9 : decode cX5_isTold 9 = .ok (.goto 4, 3) := by decide +kernel
theorem dX5_isTold_12 : decode cX5_isTold 12 = .ok (.iconst 0, 1) := by decide +kernel
theorem dX5_isTold_13 : decode cX5_isTold 13 = .ok (.invokevirtual 63, 3) := by decide +kernel
theorem dX5_isTold_16 : decode cX5_isTold 16 = .ok (.ifCond .ne 7, 3) := by decide +kernel
theorem dX5_isTold_19 : decode cX5_isTold 19 = .ok (.iconst 1, 1) := by decide +kernel
theorem dX5_isTold_20 : decode cX5_isTold 20 = .ok (.goto 4, 3) := by decide +kernel
theorem dX5_isTold_23 : decode cX5_isTold 23 = .ok (.iconst 0, 1) := by decide +kernel
theorem dX5_isTold_24 : decode cX5_isTold 24 = .ok (.ireturn, 1) := by decide +kernel
theorem dX5_isThere_0 : decode cX5_isThere 0 = .ok (.aload_n 0, 1) := by decide +kernel
theorem dX5_isThere_1 : decode cX5_isThere 1 = .ok (.iload_n 1, 1) := by decide +kernel
theorem dX5_isThere_2 : decode cX5_isThere 2 = .ok (.invokestatic 145, 3) := by decide +kernel
theorem dX5_isThere_5 : decode cX5_isThere 5 = .ok (.ifCond .eq 7, 3) := by decide +kernel
theorem dX5_isThere_8 : decode cX5_isThere 8 = .ok (.iconst 0, 1) := by decide +kernel
theorem dX5_isThere_9 : decode cX5_isThere 9 = .ok (.goto 4, 3) := by decide +kernel
theorem dX5_isThere_12 : decode cX5_isThere 12 = .ok (.iconst 1, 1) := by decide +kernel
theorem dX5_isThere_13 : decode cX5_isThere 13 = .ok (.invokevirtual 63, 3) := by decide +kernel
theorem dX5_isThere_16 : decode cX5_isThere 16 = .ok (.ifCond .ne 16, 3) := by decide +kernel
theorem dX5_isThere_19 : decode cX5_isThere 19 = .ok (.aload_n 0, 1) := by decide +kernel
theorem dX5_isThere_20 : decode cX5_isThere 20 = .ok (.getfield 19, 3) := by decide +kernel
theorem dX5_isThere_23 : decode cX5_isThere 23 = .ok (.iload_n 1, 1) := by decide +kernel
theorem dX5_isThere_24 : decode cX5_isThere 24 = .ok (.iaload, 1) := by decide +kernel
theorem dX5_isThere_25 : decode cX5_isThere 25 = .ok (.ifCond .lt 7, 3) := by decide +kernel
theorem dX5_isThere_28 : decode cX5_isThere 28 = .ok (.iconst 1, 1) := by decide +kernel
theorem dX5_isThere_29 : decode cX5_isThere 29 = .ok (.goto 4, 3) := by decide +kernel
theorem dX5_isThere_32 : decode cX5_isThere 32 = .ok (.iconst 0, 1) := by decide +kernel
theorem dX5_isThere_33 : decode cX5_isThere 33 = .ok (.ireturn, 1) := by decide +kernel
theorem dX5_has_0 : decode cX5_has 0 = .ok (.aload_n 0, 1) := by decide +kernel
theorem dX5_has_1 : decode cX5_has 1 = .ok (.getfield 22, 3) := by decide +kernel
theorem dX5_has_4 : decode cX5_has 4 = .ok (.bipush 9, 2) := by decide +kernel
theorem dX5_has_6 : decode cX5_has 6 = .ok (.iload_n 1, 1) := by decide +kernel
theorem dX5_has_7 : decode cX5_has 7 = .ok (.imul, 1) := by decide +kernel
theorem dX5_has_8 : decode cX5_has 8 = .ok (.iload_n 2, 1) := by decide +kernel
theorem dX5_has_9 : decode cX5_has 9 = .ok (.invokestatic 100, 3) := by decide +kernel
theorem dX5_has_12 : decode cX5_has 12 = .ok (.iadd, 1) := by decide +kernel
theorem dX5_has_13 : decode cX5_has 13 = .ok (.iaload, 1) := by decide +kernel
theorem dX5_has_14 : decode cX5_has 14 = .ok (.ifCond .lt 7, 3) := by decide +kernel
theorem dX5_has_17 : decode cX5_has 17 = .ok (.iconst 1, 1) := by decide +kernel
theorem dX5_has_18 : decode cX5_has 18 = .ok (.goto 4, 3) := by decide +kernel
theorem dX5_has_21 : decode cX5_has 21 = .ok (.iconst 0, 1) := by decide +kernel
theorem dX5_has_22 : decode cX5_has 22 = .ok (.ireturn, 1) := by decide +kernel
theorem dX5_many_0 : decode cX5_many 0 = .ok (.aload_n 0, 1) := by decide +kernel
theorem dX5_many_1 : decode cX5_many 1 = .ok (.getfield 22, 3) := by decide +kernel
theorem dX5_many_4 : decode cX5_many 4 = .ok (.bipush 9, 2) := by decide +kernel
theorem dX5_many_6 : decode cX5_many 6 = .ok (.iload_n 1, 1) := by decide +kernel
theorem dX5_many_7 : decode cX5_many 7 = .ok (.imul, 1) := by decide +kernel
theorem dX5_many_8 : decode cX5_many 8 = .ok (.iload_n 2, 1) := by decide +kernel
theorem dX5_many_9 : decode cX5_many 9 = .ok (.iadd, 1) := by decide +kernel
theorem dX5_many_10 : decode cX5_many 10 = .ok (.iaload, 1) := by decide +kernel
theorem dX5_many_11 : decode cX5_many 11 = .ok (.ifCond .ge 7, 3) := by decide +kernel
theorem dX5_many_14 : decode cX5_many 14 = .ok (.iconst (-1), 1) := by decide +kernel
theorem dX5_many_15 : decode cX5_many 15 = .ok (.goto 26, 3) := by decide +kernel
theorem dX5_many_18 : decode cX5_many 18 = .ok (.aload_n 0, 1) := by decide +kernel
theorem dX5_many_19 : decode cX5_many 19 = .ok (.getfield 25, 3) := by decide +kernel
theorem dX5_many_22 : decode cX5_many 22 = .ok (.bipush 9, 2) := by decide +kernel
theorem dX5_many_24 : decode cX5_many 24 = .ok (.iload_n 1, 1) := by decide +kernel
theorem dX5_many_25 : decode cX5_many 25 = .ok (.imul, 1) := by decide +kernel
theorem dX5_many_26 : decode cX5_many 26 = .ok (.iload_n 2, 1) := by decide +kernel
theorem dX5_many_27 : decode cX5_many 27 = .ok (.iadd, 1) := by decide +kernel
theorem dX5_many_28 : decode cX5_many 28 = .ok (.iaload, 1) := by decide +kernel
theorem dX5_many_29 : decode cX5_many 29 = .ok (.aload_n 0, 1) := by decide +kernel
theorem dX5_many_30 : decode cX5_many 30 = .ok (.getfield 22, 3) := by decide +kernel
theorem dX5_many_33 : decode cX5_many 33 = .ok (.bipush 9, 2) := by decide +kernel
theorem dX5_many_35 : decode cX5_many 35 = .ok (.iload_n 1, 1) := by decide +kernel
theorem dX5_many_36 : decode cX5_many 36 = .ok (.imul, 1) := by decide +kernel
theorem dX5_many_37 : decode cX5_many 37 = .ok (.iload_n 2, 1) := by decide +kernel
theorem dX5_many_38 : decode cX5_many 38 = .ok (.iadd, 1) := by decide +kernel
theorem dX5_many_39 : decode cX5_many 39 = .ok (.iaload, 1) := by decide +kernel
theorem dX5_many_40 : decode cX5_many 40 = .ok (.isub, 1) := by decide +kernel
theorem dX5_many_41 : decode cX5_many 41 = .ok (.ireturn, 1) := by decide +kernel
theorem dX5_isAbsolute_0 : decode cX5_isAbsolute 0 = .ok (.aload_n 0, 1) := by decide +kernel
theorem dX5_isAbsolute_1 : decode cX5_isAbsolute 1 = .ok (.aload_n 0, 1) := by decide +kernel
theorem dX5_isAbsolute_2 : decode cX5_isAbsolute 2 = .ok (.iload_n 1, 1) := by decide +kernel
theorem dX5_isAbsolute_3 : decode cX5_isAbsolute 3 = .ok (.invokevirtual 157, 3) := by decide +kernel
theorem dX5_isAbsolute_6 : decode cX5_isAbsolute 6 = .ok (.invokevirtual 63, 3) := by decide +kernel
theorem dX5_isAbsolute_9 : decode cX5_isAbsolute 9 = .ok (.ifCond .ne 17, 3) := by decide +kernel
theorem dX5_isAbsolute_12 : decode cX5_isAbsolute 12 = .ok (.aload_n 0, 1) := by decide +kernel
theorem dX5_isAbsolute_13 : decode cX5_isAbsolute 13 = .ok (.iload_n 1, 1) := by decide +kernel
theorem dX5_isAbsolute_14 : decode cX5_isAbsolute 14 = .ok (.bipush 115, 2) := by decide +kernel
theorem dX5_isAbsolute_16 : decode cX5_isAbsolute 16 = .ok (.invokevirtual 160, 3) := by decide +kernel
theorem dX5_isAbsolute_19 : decode cX5_isAbsolute 19 = .ok (.ifCond .eq 7, 3) := by decide +kernel
theorem dX5_isAbsolute_22 : decode cX5_isAbsolute 22 = .ok (.iconst 1, 1) := by decide +kernel
theorem dX5_isAbsolute_23 : decode cX5_isAbsolute 23 = .ok (.goto 4, 3) := by decide +kernel
theorem dX5_isAbsolute_26 : decode cX5_isAbsolute 26 = .ok (.iconst 0, 1) := by decide +kernel
theorem dX5_isAbsolute_27 : decode cX5_isAbsolute 27 = .ok (.ireturn, 1) := by decide +kernel
theorem dX5_isOpaque_0 : decode cX5_isOpaque 0 = .ok (.aload_n 0, 1) := by decide +kernel
theorem dX5_isOpaque_1 : decode cX5_isOpaque 1 = .ok (.aload_n 0, 1) := by decide +kernel
theorem dX5_isOpaque_2 : decode cX5_isOpaque 2 = .ok (.iload_n 1, 1) := by decide +kernel
theorem dX5_isOpaque_3 : decode cX5_isOpaque 3 = .ok (.invokevirtual 157, 3) := by decide +kernel
theorem dX5_isOpaque_6 : decode cX5_isOpaque 6 = .ok (.invokevirtual 63, 3) := by decide +kernel
theorem dX5_isOpaque_9 : decode cX5_isOpaque 9 = .ok (.ifCond .ne 17, 3) := by decide +kernel
theorem dX5_isOpaque_12 : decode cX5_isOpaque 12 = .ok (.aload_n 0, 1) := by decide +kernel
theorem dX5_isOpaque_13 : decode cX5_isOpaque 13 = .ok (.iload_n 1, 1) := by decide +kernel
theorem dX5_isOpaque_14 : decode cX5_isOpaque 14 = .ok (.bipush 112, 2) := by decide +kernel
theorem dX5_isOpaque_16 : decode cX5_isOpaque 16 = .ok (.invokevirtual 160, 3) := by decide +kernel
theorem dX5_isOpaque_19 : decode cX5_isOpaque 19 = .ok (.ifCond .ne 7, 3) := by decide +kernel
theorem dX5_isOpaque_22 : decode cX5_isOpaque 22 = .ok (.iconst 1, 1) := by decide +kernel
theorem dX5_isOpaque_23 : decode cX5_isOpaque 23 = .ok (.goto 4, 3) := by decide +kernel
theorem dX5_isOpaque_26 : decode cX5_isOpaque 26 = .ok (.iconst 0, 1) := by decide +kernel
theorem dX5_isOpaque_27 : decode cX5_isOpaque 27 = .ok (.ireturn, 1) := by decide +kernel
theorem dX5_port_0 : decode cX5_port 0 = .ok (.aload_n 0, 1) := by decide +kernel
theorem dX5_port_1 : decode cX5_port 1 = .ok (.aload_n 0, 1) := by decide +kernel
theorem dX5_port_2 : decode cX5_port 2 = .ok (.iload_n 1, 1) := by decide +kernel
theorem dX5_port_3 : decode cX5_port 3 = .ok (.invokevirtual 157, 3) := by decide +kernel
theorem dX5_port_6 : decode cX5_port 6 = .ok (.invokevirtual 63, 3) := by decide +kernel
theorem dX5_port_9 : decode cX5_port 9 = .ok (.ifCond .eq 7, 3) := by decide +kernel
theorem dX5_port_12 : decode cX5_port 12 = .ok (.iconst 0, 1) := by decide +kernel
theorem dX5_port_13 : decode cX5_port 13 = .ok (.goto 9, 3) := by decide +kernel
theorem dX5_port_16 : decode cX5_port 16 = .ok (.aload_n 0, 1) := by decide +kernel
theorem dX5_port_17 : decode cX5_port 17 = .ok (.getfield 28, 3) := by decide +kernel
theorem dX5_port_20 : decode cX5_port 20 = .ok (.iload_n 1, 1) := by decide +kernel
theorem dX5_port_21 : decode cX5_port 21 = .ok (.iaload, 1) := by decide +kernel
theorem dX5_port_22 : decode cX5_port 22 = .ok (.ireturn, 1) := by decide +kernel
theorem dX5_noPart_0 : decode cX5_noPart 0 = .ok (.iload_n 1, 1) := by decide +kernel
theorem dX5_noPart_1 : decode cX5_noPart 1 = .ok (.invokestatic 145, 3) := by decide +kernel
theorem dX5_noPart_4 : decode cX5_noPart 4 = .ok (.ifCond .ne 7, 3) := by decide +kernel
theorem dX5_noPart_7 : decode cX5_noPart 7 = .ok (.iconst 1, 1) := by decide +kernel
theorem dX5_noPart_8 : decode cX5_noPart 8 = .ok (.goto 28, 3) := by decide +kernel
theorem dX5_noPart_11 : decode cX5_noPart 11 = .ok (.iload_n 2, 1) := by decide +kernel
theorem dX5_noPart_12 : decode cX5_noPart 12 = .ok (.invokestatic 100, 3) := by decide +kernel
theorem dX5_noPart_15 : decode cX5_noPart 15 = .ok (.ifCond .ge 7, 3) := by decide +kernel
theorem dX5_noPart_18 : decode cX5_noPart 18 = .ok (.iconst 2, 1) := by decide +kernel
theorem dX5_noPart_19 : decode cX5_noPart 19 = .ok (.goto 17, 3) := by decide +kernel
theorem dX5_noPart_22 : decode cX5_noPart 22 = .ok (.aload_n 0, 1) := by decide +kernel
theorem dX5_noPart_23 : decode cX5_noPart 23 = .ok (.getfield 19, 3) := by decide +kernel
theorem dX5_noPart_26 : decode cX5_noPart 26 = .ok (.iload_n 1, 1) := by decide +kernel
theorem dX5_noPart_27 : decode cX5_noPart 27 = .ok (.iaload, 1) := by decide +kernel
theorem dX5_noPart_28 : decode cX5_noPart 28 = .ok (.ifCond .ge 7, 3) := by decide +kernel
theorem dX5_noPart_31 : decode cX5_noPart 31 = .ok (.iconst 3, 1) := by decide +kernel
theorem dX5_noPart_32 : decode cX5_noPart 32 = .ok (.goto 4, 3) := by decide +kernel
theorem dX5_noPart_35 : decode cX5_noPart 35 = .ok (.iconst 0, 1) := by decide +kernel
theorem dX5_noPart_36 : decode cX5_noPart 36 = .ok (.ireturn, 1) := by decide +kernel
theorem dX5_size_0 : decode cX5_size 0 = .ok (.aload_n 0, 1) := by decide +kernel
theorem dX5_size_1 : decode cX5_size 1 = .ok (.aload_n 0, 1) := by decide +kernel
theorem dX5_size_2 : decode cX5_size 2 = .ok (.iload_n 1, 1) := by decide +kernel
theorem dX5_size_3 : decode cX5_size 3 = .ok (.iload_n 2, 1) := by decide +kernel
theorem dX5_size_4 : decode cX5_size 4 = .ok (.invokevirtual 164, 3) := by decide +kernel
theorem dX5_size_7 : decode cX5_size 7 = .ok (.invokevirtual 63, 3) := by decide +kernel
theorem dX5_size_10 : decode cX5_size 10 = .ok (.ifCond .eq 7, 3) := by decide +kernel
theorem dX5_size_13 : decode cX5_size 13 = .ok (.iconst 0, 1) := by decide +kernel
theorem dX5_size_14 : decode cX5_size 14 = .ok (.goto 12, 3) := by decide +kernel
theorem dX5_size_17 : decode cX5_size 17 = .ok (.aload_n 0, 1) := by decide +kernel
theorem dX5_size_18 : decode cX5_size 18 = .ok (.iload_n 1, 1) := by decide +kernel
theorem dX5_size_19 : decode cX5_size 19 = .ok (.iload_n 2, 1) := by decide +kernel
theorem dX5_size_20 : decode cX5_size 20 = .ok (.invokestatic 100, 3) := by decide +kernel
theorem dX5_size_23 : decode cX5_size 23 = .ok (.invokevirtual 168, 3) := by decide +kernel
theorem dX5_size_26 : decode cX5_size 26 = .ok (.ireturn, 1) := by decide +kernel
theorem dX5_partSign_0 : decode cX5_partSign 0 = .ok (.aload_n 0, 1) := by decide +kernel
theorem dX5_partSign_1 : decode cX5_partSign 1 = .ok (.iload_n 1, 1) := by decide +kernel
theorem dX5_partSign_2 : decode cX5_partSign 2 = .ok (.iload_n 2, 1) := by decide +kernel
theorem dX5_partSign_3 : decode cX5_partSign 3 = .ok (.invokevirtual 164, 3) := by decide +kernel
theorem dX5_partSign_6 : decode cX5_partSign 6 = .ok (.istore 4, 2) := by decide +kernel
theorem dX5_partSign_8 : decode cX5_partSign 8 = .ok (.aload_n 0, 1) := by decide +kernel
theorem dX5_partSign_9 : decode cX5_partSign 9 = .ok (.iload 4, 2) := by decide +kernel
theorem dX5_partSign_11 : decode cX5_partSign 11 = .ok (.ifCond .le 8, 3) := by decide +kernel
theorem dX5_partSign_14 : decode cX5_partSign 14 = .ok (.iload 4, 2) := by decide +kernel
theorem dX5_partSign_16 : decode cX5_partSign 16 = .ok (.goto 27, 3) := by decide +kernel
theorem dX5_partSign_19 : decode cX5_partSign 19 = .ok (.iload_n 3, 1) := by decide +kernel
theorem dX5_partSign_20 : decode cX5_partSign 20 = .ok (.iconst 0, 1) := by decide +kernel
theorem dX5_partSign_21 : decode cX5_partSign 21 = .ok (.aload_n 0, 1) := by decide +kernel
theorem dX5_partSign_22 : decode cX5_partSign 22 = .ok (.iload_n 1, 1) := by decide +kernel
theorem dX5_partSign_23 : decode cX5_partSign 23 = .ok (.iload_n 2, 1) := by decide +kernel
theorem dX5_partSign_24 : decode cX5_partSign 24 = .ok (.invokestatic 100, 3) := by decide +kernel
theorem dX5_partSign_27 : decode cX5_partSign 27 = .ok (.invokevirtual 168, 3) := by decide +kernel
theorem dX5_partSign_30 : decode cX5_partSign 30 = .ok (.iconst 1, 1) := by decide +kernel
theorem dX5_partSign_31 : decode cX5_partSign 31 = .ok (.isub, 1) := by decide +kernel
theorem dX5_partSign_32 : decode cX5_partSign 32 = .ok (.invokestatic 41, 3) := by decide +kernel
theorem dX5_partSign_35 : decode cX5_partSign 35 = .ok (.ifCond .eq 7, 3) := by decide +kernel
theorem dX5_partSign_38 : decode cX5_partSign 38 = .ok (.iconst 0, 1) := by decide +kernel
theorem dX5_partSign_39 : decode cX5_partSign 39 = .ok (.goto 4, 3) := by decide +kernel
theorem dX5_partSign_42 : decode cX5_partSign 42 = .ok (.iconst 3, 1) := by decide +kernel
theorem dX5_partSign_43 : decode cX5_partSign 43 = .ok (.invokevirtual 63, 3) := by decide +kernel
theorem dX5_partSign_46 : decode cX5_partSign 46 = .ok (.ifCond .eq 5, 3) := by decide +kernel
theorem dX5_partSign_49 : decode cX5_partSign 49 = .ok (.iconst 0, 1) := by decide +kernel
theorem dX5_partSign_50 : decode cX5_partSign 50 = .ok (.ireturn, 1) := by decide +kernel
theorem dX5_partSign_51 : decode cX5_partSign 51 = .ok (.aload_n 0, 1) := by decide +kernel
theorem dX5_partSign_52 : decode cX5_partSign 52 = .ok (.getfield 16, 3) := by decide +kernel
theorem dX5_partSign_55 : decode cX5_partSign 55 = .ok (.bipush 60, 2) := by decide +kernel
theorem dX5_partSign_57 : decode cX5_partSign 57 = .ok (.iload_n 1, 1) := by decide +kernel
theorem dX5_partSign_58 : decode cX5_partSign 58 = .ok (.imul, 1) := by decide +kernel
theorem dX5_partSign_59 : decode cX5_partSign 59 = .ok (.aload_n 0, 1) := by decide +kernel
theorem dX5_partSign_60 : decode cX5_partSign 60 = .ok (.getfield 22, 3) := by decide +kernel
theorem dX5_partSign_63 : decode cX5_partSign 63 = .ok (.bipush 9, 2) := by decide +kernel
theorem dX5_partSign_65 : decode cX5_partSign 65 = .ok (.iload_n 1, 1) := by decide +kernel
theorem dX5_partSign_66 : decode cX5_partSign 66 = .ok (.imul, 1) := by decide +kernel
theorem dX5_partSign_67 : decode cX5_partSign 67 = .ok (.iload_n 2, 1) := by decide +kernel
theorem dX5_partSign_68 : decode cX5_partSign 68 = .ok (.invokestatic 100, 3) := by decide +kernel
theorem dX5_partSign_71 : decode cX5_partSign 71 = .ok (.iadd, 1) := by decide +kernel
theorem dX5_partSign_72 : decode cX5_partSign 72 = .ok (.iaload, 1) := by decide +kernel
theorem dX5_partSign_73 : decode cX5_partSign 73 = .ok (.iadd, 1) := by decide +kernel
theorem dX5_partSign_74 : decode cX5_partSign 74 = .ok (.iload_n 3, 1) := by decide +kernel
theorem dX5_partSign_75 : decode cX5_partSign 75 = .ok (.iadd, 1) := by decide +kernel
theorem dX5_partSign_76 : decode cX5_partSign 76 = .ok (.iaload, 1) := by decide +kernel
theorem dX5_partSign_77 : decode cX5_partSign 77 = .ok (.i2c, 1) := by decide +kernel
theorem dX5_partSign_78 : decode cX5_partSign 78 = .ok (.ireturn, 1) := by decide +kernel
theorem dX5_begin_0 : decode cX5_begin 0 = .ok (.aload_n 0, 1) := by decide +kernel
theorem dX5_begin_1 : decode cX5_begin 1 = .ok (.aload_n 0, 1) := by decide +kernel
theorem dX5_begin_2 : decode cX5_begin 2 = .ok (.iload_n 1, 1) := by decide +kernel
theorem dX5_begin_3 : decode cX5_begin 3 = .ok (.iload_n 2, 1) := by decide +kernel
theorem dX5_begin_4 : decode cX5_begin 4 = .ok (.invokevirtual 164, 3) := by decide +kernel
theorem dX5_begin_7 : decode cX5_begin 7 = .ok (.invokevirtual 63, 3) := by decide +kernel
theorem dX5_begin_10 : decode cX5_begin 10 = .ok (.ifCond .eq 7, 3) := by decide +kernel
theorem dX5_begin_13 : decode cX5_begin 13 = .ok (.iconst 0, 1) := by decide +kernel
theorem dX5_begin_14 : decode cX5_begin 14 = .ok (.goto 17, 3) := by decide +kernel
theorem dX5_begin_17 : decode cX5_begin 17 = .ok (.aload_n 0, 1) := by decide +kernel
theorem dX5_begin_18 : decode cX5_begin 18 = .ok (.getfield 22, 3) := by decide +kernel
theorem dX5_begin_21 : decode cX5_begin 21 = .ok (.bipush 9, 2) := by decide +kernel
theorem dX5_begin_23 : decode cX5_begin 23 = .ok (.iload_n 1, 1) := by decide +kernel
theorem dX5_begin_24 : decode cX5_begin 24 = .ok (.imul, 1) := by decide +kernel
theorem dX5_begin_25 : decode cX5_begin 25 = .ok (.iload_n 2, 1) := by decide +kernel
theorem dX5_begin_26 : decode cX5_begin 26 = .ok (.invokestatic 100, 3) := by decide +kernel
theorem dX5_begin_29 : decode cX5_begin 29 = .ok (.iadd, 1) := by decide +kernel
theorem dX5_begin_30 : decode cX5_begin 30 = .ok (.iaload, 1) := by decide +kernel
theorem dX5_begin_31 : decode cX5_begin 31 = .ok (.ireturn, 1) := by decide +kernel
theorem dX5_append_0 : decode cX5_append 0 = .ok (.aload_n 0, 1) := by decide +kernel
theorem dX5_append_1 : decode cX5_append 1 = .ok (.iload_n 1, 1) := by decide +kernel
theorem dX5_append_2 : decode cX5_append 2 = .ok (.iload_n 2, 1) := by decide +kernel
theorem dX5_append_3 : decode cX5_append 3 = .ok (.invokevirtual 164, 3) := by decide +kernel
theorem dX5_append_6 : decode cX5_append 6 = .ok (.istore_n 3, 1) := by decide +kernel
theorem dX5_append_7 : decode cX5_append 7 = .ok (.aload_n 0, 1) := by decide +kernel
theorem dX5_append_8 : decode cX5_append 8 = .ok (.iload_n 3, 1) := by decide +kernel
theorem dX5_append_9 : decode cX5_append 9 = .ok (.ifCond .le 7, 3) := by decide +kernel
theorem dX5_append_12 : decode cX5_append 12 = .ok (.iload_n 3, 1) := by decide +kernel
theorem dX5_append_13 : decode cX5_append 13 = .ok (.goto 40, 3) := by decide +kernel
theorem dX5_append_16 : decode cX5_append 16 = .ok (.aload_n 0, 1) := by decide +kernel
theorem dX5_append_17 : decode cX5_append 17 = .ok (.iload_n 1, 1) := by decide +kernel
theorem dX5_append_18 : decode cX5_append 18 = .ok (.iload_n 2, 1) := by decide +kernel
theorem dX5_append_19 : decode cX5_append 19 = .ok (.invokevirtual 160, 3) := by decide +kernel
theorem dX5_append_22 : decode cX5_append 22 = .ok (.ifCond .ne 7, 3) := by decide +kernel
theorem dX5_append_25 : decode cX5_append 25 = .ok (.iconst 3, 1) := by decide +kernel
theorem dX5_append_26 : decode cX5_append 26 = .ok (.goto 27, 3) := by decide +kernel
theorem dX5_append_29 : decode cX5_append 29 = .ok (.aload_n 0, 1) := by decide +kernel
theorem dX5_append_30 : decode cX5_append 30 = .ok (.getfield 53, 3) := by decide +kernel
theorem dX5_append_33 : decode cX5_append 33 = .ok (.aload_n 0, 1) := by decide +kernel
theorem dX5_append_34 : decode cX5_append 34 = .ok (.iload_n 1, 1) := by decide +kernel
theorem dX5_append_35 : decode cX5_append 35 = .ok (.iload_n 2, 1) := by decide +kernel
theorem dX5_append_36 : decode cX5_append 36 = .ok (.invokestatic 100, 3) := by decide +kernel
theorem dX5_append_39 : decode cX5_append 39 = .ok (.invokevirtual 168, 3) := by decide +kernel
theorem dX5_append_42 : decode cX5_append 42 = .ok (.iadd, 1) := by decide +kernel
theorem dX5_append_43 : decode cX5_append 43 = .ok (.bipush 60, 2) := by decide +kernel
theorem dX5_append_45 : decode cX5_append 45 = .ok (.if_icmp .le 7, 3) := by decide +kernel
theorem dX5_append_48 : decode cX5_append 48 = .ok (.iconst 4, 1) := by decide +kernel
theorem dX5_append_49 : decode cX5_append 49 = .ok (.goto 4, 3) := by decide +kernel
theorem dX5_append_52 : decode cX5_append 52 = .ok (.iconst 0, 1) := by decide +kernel
theorem dX5_append_53 : decode cX5_append 53 = .ok (.invokevirtual 63, 3) := by decide +kernel
theorem dX5_append_56 : decode cX5_append 56 = .ok (.ifCond .eq 5, 3) := by decide +kernel
theorem dX5_append_59 : decode cX5_append 59 = .ok (.iconst 0, 1) := by decide +kernel
theorem dX5_append_60 : decode cX5_append 60 = .ok (.ireturn, 1) := by decide +kernel
theorem dX5_append_61 : decode cX5_append 61 = .ok (.aload_n 0, 1) := by decide +kernel
theorem dX5_append_62 : decode cX5_append 62 = .ok (.iload_n 1, 1) := by decide +kernel
theorem dX5_append_63 : decode cX5_append 63 = .ok (.iload_n 2, 1) := by decide +kernel
theorem dX5_append_64 : decode cX5_append 64 = .ok (.invokevirtual 171, 3) := by decide +kernel
theorem dX5_append_67 : decode cX5_append 67 = .ok (.aload_n 0, 1) := by decide +kernel
theorem dX5_append_68 : decode cX5_append 68 = .ok (.getfield 53, 3) := by decide +kernel
theorem dX5_append_71 : decode cX5_append 71 = .ok (.ireturn, 1) := by decide +kernel
theorem dX5_add_0 : decode cX5_add 0 = .ok (.bipush 9, 2) := by decide +kernel
theorem dX5_add_2 : decode cX5_add 2 = .ok (.iload_n 1, 1) := by decide +kernel
theorem dX5_add_3 : decode cX5_add 3 = .ok (.imul, 1) := by decide +kernel
theorem dX5_add_4 : decode cX5_add 4 = .ok (.iload_n 2, 1) := by decide +kernel
theorem dX5_add_5 : decode cX5_add 5 = .ok (.invokestatic 100, 3) := by decide +kernel
theorem dX5_add_8 : decode cX5_add 8 = .ok (.iadd, 1) := by decide +kernel
theorem dX5_add_9 : decode cX5_add 9 = .ok (.istore_n 3, 1) := by decide +kernel
theorem dX5_add_10 : decode cX5_add 10 = .ok (.aload_n 0, 1) := by decide +kernel
theorem dX5_add_11 : decode cX5_add 11 = .ok (.aload_n 0, 1) := by decide +kernel
theorem dX5_add_12 : decode cX5_add 12 = .ok (.getfield 16, 3) := by decide +kernel
theorem dX5_add_15 : decode cX5_add 15 = .ok (.bipush 60, 2) := by decide +kernel
theorem dX5_add_17 : decode cX5_add 17 = .ok (.iload_n 1, 1) := by decide +kernel
theorem dX5_add_18 : decode cX5_add 18 = .ok (.imul, 1) := by decide +kernel
theorem dX5_add_19 : decode cX5_add 19 = .ok (.aload_n 0, 1) := by decide +kernel
theorem dX5_add_20 : decode cX5_add 20 = .ok (.getfield 22, 3) := by decide +kernel
theorem dX5_add_23 : decode cX5_add 23 = .ok (.iload_n 3, 1) := by decide +kernel
theorem dX5_add_24 : decode cX5_add 24 = .ok (.iaload, 1) := by decide +kernel
theorem dX5_add_25 : decode cX5_add 25 = .ok (.iadd, 1) := by decide +kernel
theorem dX5_add_26 : decode cX5_add 26 = .ok (.bipush 60, 2) := by decide +kernel
theorem dX5_add_28 : decode cX5_add 28 = .ok (.iload_n 1, 1) := by decide +kernel
theorem dX5_add_29 : decode cX5_add 29 = .ok (.imul, 1) := by decide +kernel
theorem dX5_add_30 : decode cX5_add 30 = .ok (.aload_n 0, 1) := by decide +kernel
theorem dX5_add_31 : decode cX5_add 31 = .ok (.getfield 25, 3) := by decide +kernel
theorem dX5_add_34 : decode cX5_add 34 = .ok (.iload_n 3, 1) := by decide +kernel
theorem dX5_add_35 : decode cX5_add 35 = .ok (.iaload, 1) := by decide +kernel
theorem dX5_add_36 : decode cX5_add 36 = .ok (.iadd, 1) := by decide +kernel
theorem dX5_add_37 : decode cX5_add 37 = .ok (.invokevirtual 66, 3) := by decide +kernel
theorem dX5_add_40 : decode cX5_add 40 = .ok (.return_, 1) := by decide +kernel
theorem dX5_copy_0 : decode cX5_copy 0 = .ok (.aload_n 0, 1) := by decide +kernel
theorem dX5_copy_1 : decode cX5_copy 1 = .ok (.iload_n 1, 1) := by decide +kernel
theorem dX5_copy_2 : decode cX5_copy 2 = .ok (.invokestatic 145, 3) := by decide +kernel
theorem dX5_copy_5 : decode cX5_copy 5 = .ok (.ifCond .eq 14, 3) := by decide +kernel
theorem dX5_copy_8 : decode cX5_copy 8 = .ok (.iload_n 2, 1) := by decide +kernel
theorem dX5_copy_9 : decode cX5_copy 9 = .ok (.invokestatic 145, 3) := by decide +kernel
theorem dX5_copy_12 : decode cX5_copy 12 = .ok (.ifCond .eq 7, 3) := by decide +kernel
theorem dX5_copy_15 : decode cX5_copy 15 = .ok (.iconst 0, 1) := by decide +kernel
theorem dX5_copy_16 : decode cX5_copy 16 = .ok (.goto 4, 3) := by decide +kernel
theorem dX5_copy_19 : decode cX5_copy 19 = .ok (.iconst 1, 1) := by decide +kernel
theorem dX5_copy_20 : decode cX5_copy 20 = .ok (.invokevirtual 63, 3) := by decide +kernel
theorem dX5_copy_23 : decode cX5_copy 23 = .ok (.ifCond .eq 5, 3) := by decide +kernel
theorem dX5_copy_26 : decode cX5_copy 26 = .ok (.iconst 0, 1) := by decide +kernel
theorem dX5_copy_27 : decode cX5_copy 27 = .ok (.ireturn, 1) := by decide +kernel
theorem dX5_copy_28 : decode cX5_copy 28 = .ok (.aload_n 0, 1) := by decide +kernel
theorem dX5_copy_29 : decode cX5_copy 29 = .ok (.getfield 19, 3) := by decide +kernel
theorem dX5_copy_32 : decode cX5_copy 32 = .ok (.iload_n 2, 1) := by decide +kernel
theorem dX5_copy_33 : decode cX5_copy 33 = .ok (.aload_n 0, 1) := by decide +kernel
theorem dX5_copy_34 : decode cX5_copy 34 = .ok (.getfield 19, 3) := by decide +kernel
theorem dX5_copy_37 : decode cX5_copy 37 = .ok (.iload_n 1, 1) := by decide +kernel
theorem dX5_copy_38 : decode cX5_copy 38 = .ok (.iaload, 1) := by decide +kernel
theorem dX5_copy_39 : decode cX5_copy 39 = .ok (.iastore, 1) := by decide +kernel
theorem dX5_copy_40 : decode cX5_copy 40 = .ok (.iconst 0, 1) := by decide +kernel
theorem dX5_copy_41 : decode cX5_copy 41 = .ok (.istore_n 3, 1) := by decide +kernel
theorem dX5_copy_42 : decode cX5_copy 42 = .ok (.iload_n 3, 1) := by decide +kernel
theorem dX5_copy_43 : decode cX5_copy 43 = .ok (.bipush 60, 2) := by decide +kernel
theorem dX5_copy_45 : decode cX5_copy 45 = .ok (.if_icmp .ge 31, 3) := by decide +kernel
theorem dX5_copy_48 : decode cX5_copy 48 = .ok (.aload_n 0, 1) := by decide +kernel
theorem dX5_copy_49 : decode cX5_copy 49 = .ok (.getfield 16, 3) := by decide +kernel
theorem dX5_copy_52 : decode cX5_copy 52 = .ok (.bipush 60, 2) := by decide +kernel
theorem dX5_copy_54 : decode cX5_copy 54 = .ok (.iload_n 2, 1) := by decide +kernel
theorem dX5_copy_55 : decode cX5_copy 55 = .ok (.imul, 1) := by decide +kernel
theorem dX5_copy_56 : decode cX5_copy 56 = .ok (.iload_n 3, 1) := by decide +kernel
theorem dX5_copy_57 : decode cX5_copy 57 = .ok (.iadd, 1) := by decide +kernel
theorem dX5_copy_58 : decode cX5_copy 58 = .ok (.aload_n 0, 1) := by decide +kernel
theorem dX5_copy_59 : decode cX5_copy 59 = .ok (.getfield 16, 3) := by decide +kernel
theorem dX5_copy_62 : decode cX5_copy 62 = .ok (.bipush 60, 2) := by decide +kernel
theorem dX5_copy_64 : decode cX5_copy 64 = .ok (.iload_n 1, 1) := by decide +kernel
theorem dX5_copy_65 : decode cX5_copy 65 = .ok (.imul, 1) := by decide +kernel
theorem dX5_copy_66 : decode cX5_copy 66 = .ok (.iload_n 3, 1) := by decide +kernel
theorem dX5_copy_67 : decode cX5_copy 67 = .ok (.iadd, 1) := by decide +kernel
theorem dX5_copy_68 : decode cX5_copy 68 = .ok (.iaload, 1) := by decide +kernel
theorem dX5_copy_69 : decode cX5_copy 69 = .ok (.iastore, 1) := by decide +kernel
theorem dX5_copy_70 : decode cX5_copy 70 = .ok (.iinc 3 1, 3) := by decide +kernel
theorem dX5_copy_73 : decode cX5_copy 73 = .ok (.goto (-31), 3) := by decide +kernel
theorem dX5_copy_76 : decode cX5_copy 76 = .ok (.iconst 0, 1) := by decide +kernel
theorem dX5_copy_77 : decode cX5_copy 77 = .ok (.istore_n 3, 1) := by decide +kernel
theorem dX5_copy_78 : decode cX5_copy 78 = .ok (.iload_n 3, 1) := by decide +kernel
theorem dX5_copy_79 : decode cX5_copy 79 = .ok (.bipush 9, 2) := by decide +kernel
theorem dX5_copy_81 : decode cX5_copy 81 = .ok (.if_icmp .ge 53, 3) := by decide +kernel
theorem dX5_copy_84 : decode cX5_copy 84 = .ok (.aload_n 0, 1) := by decide +kernel
theorem dX5_copy_85 : decode cX5_copy 85 = .ok (.getfield 22, 3) := by decide +kernel
theorem dX5_copy_88 : decode cX5_copy 88 = .ok (.bipush 9, 2) := by decide +kernel
theorem dX5_copy_90 : decode cX5_copy 90 = .ok (.iload_n 2, 1) := by decide +kernel
theorem dX5_copy_91 : decode cX5_copy 91 = .ok (.imul, 1) := by decide +kernel
theorem dX5_copy_92 : decode cX5_copy 92 = .ok (.iload_n 3, 1) := by decide +kernel
theorem dX5_copy_93 : decode cX5_copy 93 = .ok (.iadd, 1) := by decide +kernel
theorem dX5_copy_94 : decode cX5_copy 94 = .ok (.aload_n 0, 1) := by decide +kernel
theorem dX5_copy_95 : decode cX5_copy 95 = .ok (.getfield 22, 3) := by decide +kernel
theorem dX5_copy_98 : decode cX5_copy 98 = .ok (.bipush 9, 2) := by decide +kernel
theorem dX5_copy_100 : decode cX5_copy 100 = .ok (.iload_n 1, 1) := by decide +kernel
theorem dX5_copy_101 : decode cX5_copy 101 = .ok (.imul, 1) := by decide +kernel
theorem dX5_copy_102 : decode cX5_copy 102 = .ok (.iload_n 3, 1) := by decide +kernel
theorem dX5_copy_103 : decode cX5_copy 103 = .ok (.iadd, 1) := by decide +kernel
theorem dX5_copy_104 : decode cX5_copy 104 = .ok (.iaload, 1) := by decide +kernel
theorem dX5_copy_105 : decode cX5_copy 105 = .ok (.iastore, 1) := by decide +kernel
theorem dX5_copy_106 : decode cX5_copy 106 = .ok (.aload_n 0, 1) := by decide +kernel
theorem dX5_copy_107 : decode cX5_copy 107 = .ok (.getfield 25, 3) := by decide +kernel
theorem dX5_copy_110 : decode cX5_copy 110 = .ok (.bipush 9, 2) := by decide +kernel
theorem dX5_copy_112 : decode cX5_copy 112 = .ok (.iload_n 2, 1) := by decide +kernel
theorem dX5_copy_113 : decode cX5_copy 113 = .ok (.imul, 1) := by decide +kernel
theorem dX5_copy_114 : decode cX5_copy 114 = .ok (.iload_n 3, 1) := by decide +kernel
theorem dX5_copy_115 : decode cX5_copy 115 = .ok (.iadd, 1) := by decide +kernel
theorem dX5_copy_116 : decode cX5_copy 116 = .ok (.aload_n 0, 1) := by decide +kernel
theorem dX5_copy_117 : decode cX5_copy 117 = .ok (.getfield 25, 3) := by decide +kernel
theorem dX5_copy_120 : decode cX5_copy 120 = .ok (.bipush 9, 2) := by decide +kernel
theorem dX5_copy_122 : decode cX5_copy 122 = .ok (.iload_n 1, 1) := by decide +kernel
theorem dX5_copy_123 : decode cX5_copy 123 = .ok (.imul, 1) := by decide +kernel
theorem dX5_copy_124 : decode cX5_copy 124 = .ok (.iload_n 3, 1) := by decide +kernel
theorem dX5_copy_125 : decode cX5_copy 125 = .ok (.iadd, 1) := by decide +kernel
theorem dX5_copy_126 : decode cX5_copy 126 = .ok (.iaload, 1) := by decide +kernel
theorem dX5_copy_127 : decode cX5_copy 127 = .ok (.iastore, 1) := by decide +kernel
theorem dX5_copy_128 : decode cX5_copy 128 = .ok (.iinc 3 1, 3) := by decide +kernel
theorem dX5_copy_131 : decode cX5_copy 131 = .ok (.goto (-53), 3) := by decide +kernel
theorem dX5_copy_134 : decode cX5_copy 134 = .ok (.aload_n 0, 1) := by decide +kernel
theorem dX5_copy_135 : decode cX5_copy 135 = .ok (.getfield 28, 3) := by decide +kernel
theorem dX5_copy_138 : decode cX5_copy 138 = .ok (.iload_n 2, 1) := by decide +kernel
theorem dX5_copy_139 : decode cX5_copy 139 = .ok (.aload_n 0, 1) := by decide +kernel
theorem dX5_copy_140 : decode cX5_copy 140 = .ok (.getfield 28, 3) := by decide +kernel
theorem dX5_copy_143 : decode cX5_copy 143 = .ok (.iload_n 1, 1) := by decide +kernel
theorem dX5_copy_144 : decode cX5_copy 144 = .ok (.iaload, 1) := by decide +kernel
theorem dX5_copy_145 : decode cX5_copy 145 = .ok (.iastore, 1) := by decide +kernel
theorem dX5_copy_146 : decode cX5_copy 146 = .ok (.iconst 0, 1) := by decide +kernel
theorem dX5_copy_147 : decode cX5_copy 147 = .ok (.istore_n 3, 1) := by decide +kernel
theorem dX5_copy_148 : decode cX5_copy 148 = .ok (.iconst 0, 1) := by decide +kernel
theorem dX5_copy_149 : decode cX5_copy 149 = .ok (.istore 4, 2) := by decide +kernel
theorem dX5_copy_151 : decode cX5_copy 151 = .ok (.iload 4, 2) := by decide +kernel
theorem dX5_copy_153 : decode cX5_copy 153 = .ok (.iconst 4, 1) := by decide +kernel
theorem dX5_copy_154 : decode cX5_copy 154 = .ok (.if_icmp .ge 27, 3) := by decide +kernel
theorem dX5_copy_157 : decode cX5_copy 157 = .ok (.iload_n 3, 1) := by decide +kernel
theorem dX5_copy_158 : decode cX5_copy 158 = .ok (.aload_n 0, 1) := by decide +kernel
theorem dX5_copy_159 : decode cX5_copy 159 = .ok (.getfield 19, 3) := by decide +kernel
theorem dX5_copy_162 : decode cX5_copy 162 = .ok (.iload 4, 2) := by decide +kernel
theorem dX5_copy_164 : decode cX5_copy 164 = .ok (.iaload, 1) := by decide +kernel
theorem dX5_copy_165 : decode cX5_copy 165 = .ok (.ifCond .lt 7, 3) := by decide +kernel
theorem dX5_copy_168 : decode cX5_copy 168 = .ok (.iconst 1, 1) := by decide +kernel
theorem dX5_copy_169 : decode cX5_copy 169 = .ok (.goto 4, 3) := by decide +kernel
theorem dX5_copy_172 : decode cX5_copy 172 = .ok (.iconst 0, 1) := by decide +kernel
theorem dX5_copy_173 : decode cX5_copy 173 = .ok (.iadd, 1) := by decide +kernel
theorem dX5_copy_174 : decode cX5_copy 174 = .ok (.istore_n 3, 1) := by decide +kernel
theorem dX5_copy_175 : decode cX5_copy 175 = .ok (.iinc 4 1, 3) := by decide +kernel
theorem dX5_copy_178 : decode cX5_copy 178 = .ok (.goto (-27), 3) := by decide +kernel
theorem dX5_copy_181 : decode cX5_copy 181 = .ok (.iload_n 3, 1) := by decide +kernel
theorem dX5_copy_182 : decode cX5_copy 182 = .ok (.ireturn, 1) := by decide +kernel
theorem dX5_isAlike_0 : decode cX5_isAlike 0 = .ok (.aload_n 0, 1) := by decide +kernel
theorem dX5_isAlike_1 : decode cX5_isAlike 1 = .ok (.iload_n 1, 1) := by decide +kernel
theorem dX5_isAlike_2 : decode cX5_isAlike 2 = .ok (.iload_n 3, 1) := by decide +kernel
theorem dX5_isAlike_3 : decode cX5_isAlike 3 = .ok (.invokevirtual 168, 3) := by decide +kernel
theorem dX5_isAlike_6 : decode cX5_isAlike 6 = .ok (.aload_n 0, 1) := by decide +kernel
theorem dX5_isAlike_7 : decode cX5_isAlike 7 = .ok (.iload_n 2, 1) := by decide +kernel
theorem dX5_isAlike_8 : decode cX5_isAlike 8 = .ok (.iload_n 3, 1) := by decide +kernel
theorem dX5_isAlike_9 : decode cX5_isAlike 9 = .ok (.invokevirtual 168, 3) := by decide +kernel
theorem dX5_isAlike_12 : decode cX5_isAlike 12 = .ok (.if_icmp .eq 5, 3) := by decide +kernel
theorem dX5_isAlike_15 : decode cX5_isAlike 15 = .ok (.iconst 0, 1) := by decide +kernel
theorem dX5_isAlike_16 : decode cX5_isAlike 16 = .ok (.ireturn, 1) := by decide +kernel
theorem dX5_isAlike_17 : decode cX5_isAlike 17 = .ok (.iconst 0, 1) := by decide +kernel
theorem dX5_isAlike_18 : decode cX5_isAlike 18 = .ok (.istore 4, 2) := by decide +kernel
theorem dX5_isAlike_20 : decode cX5_isAlike 20 = .ok (.iload 4, 2) := by decide +kernel
theorem dX5_isAlike_22 : decode cX5_isAlike 22 = .ok (.aload_n 0, 1) := by decide +kernel
theorem dX5_isAlike_23 : decode cX5_isAlike 23 = .ok (.iload_n 1, 1) := by decide +kernel
theorem dX5_isAlike_24 : decode cX5_isAlike 24 = .ok (.iload_n 3, 1) := by decide +kernel
theorem dX5_isAlike_25 : decode cX5_isAlike 25 = .ok (.invokevirtual 168, 3) := by decide +kernel
theorem dX5_isAlike_28 : decode cX5_isAlike 28 = .ok (.if_icmp .ge 62, 3) := by decide +kernel
theorem dX5_isAlike_31 : decode cX5_isAlike 31 = .ok (.aload_n 0, 1) := by decide +kernel
theorem dX5_isAlike_32 : decode cX5_isAlike 32 = .ok (.getfield 16, 3) := by decide +kernel
theorem dX5_isAlike_35 : decode cX5_isAlike 35 = .ok (.bipush 60, 2) := by decide +kernel
theorem dX5_isAlike_37 : decode cX5_isAlike 37 = .ok (.iload_n 1, 1) := by decide +kernel
theorem dX5_isAlike_38 : decode cX5_isAlike 38 = .ok (.imul, 1) := by decide +kernel
theorem dX5_isAlike_39 : decode cX5_isAlike 39 = .ok (.aload_n 0, 1) := by decide +kernel
theorem dX5_isAlike_40 : decode cX5_isAlike 40 = .ok (.getfield 22, 3) := by decide +kernel
theorem dX5_isAlike_43 : decode cX5_isAlike 43 = .ok (.bipush 9, 2) := by decide +kernel
theorem dX5_isAlike_45 : decode cX5_isAlike 45 = .ok (.iload_n 1, 1) := by decide +kernel
theorem dX5_isAlike_46 : decode cX5_isAlike 46 = .ok (.imul, 1) := by decide +kernel
theorem dX5_isAlike_47 : decode cX5_isAlike 47 = .ok (.iload_n 3, 1) := by decide +kernel
theorem dX5_isAlike_48 : decode cX5_isAlike 48 = .ok (.iadd, 1) := by decide +kernel
theorem dX5_isAlike_49 : decode cX5_isAlike 49 = .ok (.iaload, 1) := by decide +kernel
theorem dX5_isAlike_50 : decode cX5_isAlike 50 = .ok (.iadd, 1) := by decide +kernel
theorem dX5_isAlike_51 : decode cX5_isAlike 51 = .ok (.iload 4, 2) := by decide +kernel
theorem dX5_isAlike_53 : decode cX5_isAlike 53 = .ok (.iadd, 1) := by decide +kernel
theorem dX5_isAlike_54 : decode cX5_isAlike 54 = .ok (.iaload, 1) := by decide +kernel
theorem dX5_isAlike_55 : decode cX5_isAlike 55 = .ok (.aload_n 0, 1) := by decide +kernel
theorem dX5_isAlike_56 : decode cX5_isAlike 56 = .ok (.getfield 16, 3) := by decide +kernel
theorem dX5_isAlike_59 : decode cX5_isAlike 59 = .ok (.bipush 60, 2) := by decide +kernel
theorem dX5_isAlike_61 : decode cX5_isAlike 61 = .ok (.iload_n 2, 1) := by decide +kernel
theorem dX5_isAlike_62 : decode cX5_isAlike 62 = .ok (.imul, 1) := by decide +kernel
theorem dX5_isAlike_63 : decode cX5_isAlike 63 = .ok (.aload_n 0, 1) := by decide +kernel
theorem dX5_isAlike_64 : decode cX5_isAlike 64 = .ok (.getfield 22, 3) := by decide +kernel
theorem dX5_isAlike_67 : decode cX5_isAlike 67 = .ok (.bipush 9, 2) := by decide +kernel
theorem dX5_isAlike_69 : decode cX5_isAlike 69 = .ok (.iload_n 2, 1) := by decide +kernel
theorem dX5_isAlike_70 : decode cX5_isAlike 70 = .ok (.imul, 1) := by decide +kernel
theorem dX5_isAlike_71 : decode cX5_isAlike 71 = .ok (.iload_n 3, 1) := by decide +kernel
theorem dX5_isAlike_72 : decode cX5_isAlike 72 = .ok (.iadd, 1) := by decide +kernel
theorem dX5_isAlike_73 : decode cX5_isAlike 73 = .ok (.iaload, 1) := by decide +kernel
theorem dX5_isAlike_74 : decode cX5_isAlike 74 = .ok (.iadd, 1) := by decide +kernel
theorem dX5_isAlike_75 : decode cX5_isAlike 75 = .ok (.iload 4, 2) := by decide +kernel
theorem dX5_isAlike_77 : decode cX5_isAlike 77 = .ok (.iadd, 1) := by decide +kernel
theorem dX5_isAlike_78 : decode cX5_isAlike 78 = .ok (.iaload, 1) := by decide +kernel
theorem dX5_isAlike_79 : decode cX5_isAlike 79 = .ok (.if_icmp .eq 5, 3) := by decide +kernel
theorem dX5_isAlike_82 : decode cX5_isAlike 82 = .ok (.iconst 0, 1) := by decide +kernel
theorem dX5_isAlike_83 : decode cX5_isAlike 83 = .ok (.ireturn, 1) := by decide +kernel
theorem dX5_isAlike_84 : decode cX5_isAlike 84 = .ok (.iinc 4 1, 3) := by decide +kernel
theorem dX5_isAlike_87 : decode cX5_isAlike 87 = .ok (.goto (-67), 3) := by decide +kernel
theorem dX5_isAlike_90 : decode cX5_isAlike 90 = .ok (.iconst 1, 1) := by decide +kernel
theorem dX5_isAlike_91 : decode cX5_isAlike 91 = .ok (.ireturn, 1) := by decide +kernel
theorem dX5_alike_0 : decode cX5_alike 0 = .ok (.aload_n 0, 1) := by decide +kernel
theorem dX5_alike_1 : decode cX5_alike 1 = .ok (.iload_n 1, 1) := by decide +kernel
theorem dX5_alike_2 : decode cX5_alike 2 = .ok (.invokestatic 145, 3) := by decide +kernel
theorem dX5_alike_5 : decode cX5_alike 5 = .ok (.ifCond .eq 10, 3) := by decide +kernel
theorem dX5_alike_8 : decode cX5_alike 8 = .ok (.iload_n 2, 1) := by decide +kernel
theorem dX5_alike_9 : decode cX5_alike 9 = .ok (.invokestatic 145, 3) := by decide +kernel
theorem dX5_alike_12 : decode cX5_alike 12 = .ok (.ifCond .ne 7, 3) := by decide +kernel
theorem dX5_alike_15 : decode cX5_alike 15 = .ok (.iconst 1, 1) := by decide +kernel
theorem dX5_alike_16 : decode cX5_alike 16 = .ok (.goto 26, 3) := by decide +kernel
theorem dX5_alike_19 : decode cX5_alike 19 = .ok (.aload_n 0, 1) := by decide +kernel
theorem dX5_alike_20 : decode cX5_alike 20 = .ok (.getfield 19, 3) := by decide +kernel
theorem dX5_alike_23 : decode cX5_alike 23 = .ok (.iload_n 1, 1) := by decide +kernel
theorem dX5_alike_24 : decode cX5_alike 24 = .ok (.iaload, 1) := by decide +kernel
theorem dX5_alike_25 : decode cX5_alike 25 = .ok (.ifCond .lt 12, 3) := by decide +kernel
theorem dX5_alike_28 : decode cX5_alike 28 = .ok (.aload_n 0, 1) := by decide +kernel
theorem dX5_alike_29 : decode cX5_alike 29 = .ok (.getfield 19, 3) := by decide +kernel
theorem dX5_alike_32 : decode cX5_alike 32 = .ok (.iload_n 2, 1) := by decide +kernel
theorem dX5_alike_33 : decode cX5_alike 33 = .ok (.iaload, 1) := by decide +kernel
theorem dX5_alike_34 : decode cX5_alike 34 = .ok (.ifCond .ge 7, 3) := by decide +kernel
theorem dX5_alike_37 : decode cX5_alike 37 = .ok (.iconst 2, 1) := by decide +kernel
theorem dX5_alike_38 : decode cX5_alike 38 = .ok (.goto 4, 3) := by decide +kernel
theorem dX5_alike_41 : decode cX5_alike 41 = .ok (.iconst 0, 1) := by decide +kernel
theorem dX5_alike_42 : decode cX5_alike 42 = .ok (.invokevirtual 63, 3) := by decide +kernel
theorem dX5_alike_45 : decode cX5_alike 45 = .ok (.ifCond .eq 5, 3) := by decide +kernel
theorem dX5_alike_48 : decode cX5_alike 48 = .ok (.iconst 0, 1) := by decide +kernel
theorem dX5_alike_49 : decode cX5_alike 49 = .ok (.ireturn, 1) := by decide +kernel
theorem dX5_alike_50 : decode cX5_alike 50 = .ok (.iconst 0, 1) := by decide +kernel
theorem dX5_alike_51 : decode cX5_alike 51 = .ok (.istore_n 3, 1) := by decide +kernel
theorem dX5_alike_52 : decode cX5_alike 52 = .ok (.iconst 0, 1) := by decide +kernel
theorem dX5_alike_53 : decode cX5_alike 53 = .ok (.istore 4, 2) := by decide +kernel
theorem dX5_alike_55 : decode cX5_alike 55 = .ok (.iload 4, 2) := by decide +kernel
theorem dX5_alike_57 : decode cX5_alike 57 = .ok (.bipush 9, 2) := by decide +kernel
theorem dX5_alike_59 : decode cX5_alike 59 = .ok (.if_icmp .ge 28, 3) := by decide +kernel
theorem dX5_alike_62 : decode cX5_alike 62 = .ok (.iload_n 3, 1) := by decide +kernel
theorem dX5_alike_63 : decode cX5_alike 63 = .ok (.aload_n 0, 1) := by decide +kernel
theorem dX5_alike_64 : decode cX5_alike 64 = .ok (.iload_n 1, 1) := by decide +kernel
theorem dX5_alike_65 : decode cX5_alike 65 = .ok (.iload_n 2, 1) := by decide +kernel
theorem dX5_alike_66 : decode cX5_alike 66 = .ok (.iload 4, 2) := by decide +kernel
theorem dX5_alike_68 : decode cX5_alike 68 = .ok (.invokevirtual 175, 3) := by decide +kernel
theorem dX5_alike_71 : decode cX5_alike 71 = .ok (.ifCond .eq 7, 3) := by decide +kernel
theorem dX5_alike_74 : decode cX5_alike 74 = .ok (.iconst 1, 1) := by decide +kernel
theorem dX5_alike_75 : decode cX5_alike 75 = .ok (.goto 4, 3) := by decide +kernel
theorem dX5_alike_78 : decode cX5_alike 78 = .ok (.iconst 0, 1) := by decide +kernel
theorem dX5_alike_79 : decode cX5_alike 79 = .ok (.iadd, 1) := by decide +kernel
theorem dX5_alike_80 : decode cX5_alike 80 = .ok (.istore_n 3, 1) := by decide +kernel
theorem dX5_alike_81 : decode cX5_alike 81 = .ok (.iinc 4 1, 3) := by decide +kernel
theorem dX5_alike_84 : decode cX5_alike 84 = .ok (.goto (-29), 3) := by decide +kernel
theorem dX5_alike_87 : decode cX5_alike 87 = .ok (.iload_n 3, 1) := by decide +kernel
theorem dX5_alike_88 : decode cX5_alike 88 = .ok (.ireturn, 1) := by decide +kernel
theorem dX5_sign_0 : decode cX5_sign 0 = .ok (.aload_n 0, 1) := by decide +kernel
theorem dX5_sign_1 : decode cX5_sign 1 = .ok (.iconst 1, 1) := by decide +kernel
theorem dX5_sign_2 : decode cX5_sign 2 = .ok (.newarray .int, 2) := by decide +kernel
theorem dX5_sign_4 : decode cX5_sign 4 = .ok (.dup, 1) := by decide +kernel
theorem dX5_sign_5 : decode cX5_sign 5 = .ok (.iconst 0, 1) := by decide +kernel
theorem dX5_sign_6 : decode cX5_sign 6 = .ok (.iload_n 1, 1) := by decide +kernel
theorem dX5_sign_7 : decode cX5_sign 7 = .ok (.iastore, 1) := by decide +kernel
theorem dX5_sign_8 : decode cX5_sign 8 = .ok (.iconst 0, 1) := by decide +kernel
theorem dX5_sign_9 : decode cX5_sign 9 = .ok (.iconst 1, 1) := by decide +kernel
theorem dX5_sign_10 : decode cX5_sign 10 = .ok (.invokevirtual 66, 3) := by decide +kernel
theorem dX5_sign_13 : decode cX5_sign 13 = .ok (.return_, 1) := by decide +kernel
theorem dX5_all_0 : decode cX5_all 0 = .ok (.aload_n 0, 1) := by decide +kernel
theorem dX5_all_1 : decode cX5_all 1 = .ok (.iconst 0, 1) := by decide +kernel
theorem dX5_all_2 : decode cX5_all 2 = .ok (.putfield 53, 3) := by decide +kernel
theorem dX5_all_5 : decode cX5_all 5 = .ok (.aload_n 0, 1) := by decide +kernel
theorem dX5_all_6 : decode cX5_all 6 = .ok (.iconst 0, 1) := by decide +kernel
theorem dX5_all_7 : decode cX5_all 7 = .ok (.putfield 56, 3) := by decide +kernel
theorem dX5_all_10 : decode cX5_all 10 = .ok (.iconst 0, 1) := by decide +kernel
theorem dX5_all_11 : decode cX5_all 11 = .ok (.istore 4, 2) := by decide +kernel
theorem dX5_all_13 : decode cX5_all 13 = .ok (.iload 4, 2) := by decide +kernel
theorem dX5_all_15 : decode cX5_all 15 = .ok (.bipush 8, 2) := by decide +kernel
theorem dX5_all_17 : decode cX5_all 17 = .ok (.if_icmp .ge 169, 3) := by decide +kernel
theorem dX5_all_20 : decode cX5_all 20 = .ok (.ldc 45, 2) := by decide +kernel
theorem dX5_all_22 : decode cX5_all 22 = .ok (.iload 4, 2) := by decide +kernel
theorem dX5_all_24 : decode cX5_all 24 = .ok (.invokevirtual 79, 3) := by decide +kernel
theorem dX5_all_27 : decode cX5_all 27 = .ok (.istore 5, 2) := by decide +kernel
theorem dX5_all_29 : decode cX5_all 29 = .ok (.iload 5, 2) := by decide +kernel
theorem dX5_all_31 : decode cX5_all 31 = .ok (.iload_n 3, 1) := by decide +kernel
theorem dX5_all_32 : decode cX5_all 32 = .ok (.if_icmp .ne 7, 3) := by decide +kernel
theorem dX5_all_35 : decode cX5_all 35 = .ok (.iload_n 2, 1) := by decide +kernel
theorem dX5_all_36 : decode cX5_all 36 = .ok (.goto 4, 3) := by decide +kernel
theorem dX5_all_39 : decode cX5_all 39 = .ok (.iload_n 1, 1) := by decide +kernel
theorem dX5_all_40 : decode cX5_all 40 = .ok (.istore 6, 2) := by decide +kernel
theorem dX5_all_42 : decode cX5_all 42 = .ok (.iload 5, 2) := by decide +kernel
theorem dX5_all_44 : decode cX5_all 44 = .ok (.bipush 109, 2) := by decide +kernel
theorem dX5_all_46 : decode cX5_all 46 = .ok (.if_icmp .ne 21, 3) := by decide +kernel
theorem dX5_all_49 : decode cX5_all 49 = .ok (.aload_n 0, 1) := by decide +kernel
theorem dX5_all_50 : decode cX5_all 50 = .ok (.iload_n 1, 1) := by decide +kernel
theorem dX5_all_51 : decode cX5_all 51 = .ok (.bipush 112, 2) := by decide +kernel
theorem dX5_all_53 : decode cX5_all 53 = .ok (.invokevirtual 160, 3) := by decide +kernel
theorem dX5_all_56 : decode cX5_all 56 = .ok (.ifCond .ne 7, 3) := by decide +kernel
theorem dX5_all_59 : decode cX5_all 59 = .ok (.iconst 1, 1) := by decide +kernel
theorem dX5_all_60 : decode cX5_all 60 = .ok (.goto 37, 3) := by decide +kernel
theorem dX5_all_63 : decode cX5_all 63 = .ok (.iconst 0, 1) := by decide +kernel
theorem dX5_all_64 : decode cX5_all 64 = .ok (.goto 33, 3) := by decide +kernel
theorem dX5_all_67 : decode cX5_all 67 = .ok (.iload 5, 2) := by decide +kernel
theorem dX5_all_69 : decode cX5_all 69 = .ok (.bipush 117, 2) := by decide +kernel
theorem dX5_all_71 : decode cX5_all 71 = .ok (.if_icmp .eq 25, 3) := by decide +kernel
theorem dX5_all_74 : decode cX5_all 74 = .ok (.iload 5, 2) := by decide +kernel
theorem dX5_all_76 : decode cX5_all 76 = .ok (.bipush 104, 2) := by decide +kernel
theorem dX5_all_78 : decode cX5_all 78 = .ok (.if_icmp .eq 18, 3) := by decide +kernel
theorem dX5_all_81 : decode cX5_all 81 = .ok (.aload_n 0, 1) := by decide +kernel
theorem dX5_all_82 : decode cX5_all 82 = .ok (.iload 6, 2) := by decide +kernel
theorem dX5_all_84 : decode cX5_all 84 = .ok (.iload 5, 2) := by decide +kernel
theorem dX5_all_86 : decode cX5_all 86 = .ok (.invokevirtual 160, 3) := by decide +kernel
theorem dX5_all_89 : decode cX5_all 89 = .ok (.ifCond .eq 7, 3) := by decide +kernel
theorem dX5_all_92 : decode cX5_all 92 = .ok (.iconst 1, 1) := by decide +kernel
theorem dX5_all_93 : decode cX5_all 93 = .ok (.goto 4, 3) := by decide +kernel
theorem dX5_all_96 : decode cX5_all 96 = .ok (.iconst 0, 1) := by decide +kernel
theorem dX5_all_97 : decode cX5_all 97 = .ok (.istore 7, 2) := by decide +kernel
theorem dX5_all_99 : decode cX5_all 99 = .ok (.iload 7, 2) := by decide +kernel
theorem dX5_all_101 : decode cX5_all 101 = .ok (.ifCond .ne 6, 3) := by decide +kernel
theorem dX5_all_104 : decode cX5_all 104 = .ok (.goto 76, 3) := by decide +kernel
theorem dX5_all_107 : decode cX5_all 107 = .ok (.iload 5, 2) := by decide +kernel
theorem dX5_all_109 : decode cX5_all 109 = .ok (.bipush 97, 2) := by decide +kernel
theorem dX5_all_111 : decode cX5_all 111 = .ok (.if_icmp .ne 9, 3) := by decide +kernel
theorem dX5_all_114 : decode cX5_all 114 = .ok (.aload_n 0, 1) := by decide +kernel
theorem dX5_all_115 : decode cX5_all 115 = .ok (.bipush 47, 2) := by decide +kernel
theorem dX5_all_117 : decode cX5_all 117 = .ok (.invokevirtual 178, 3) := by decide +kernel
theorem dX5_all_120 : decode cX5_all 120 = .ok (.iload 5, 2) := by decide +kernel
theorem dX5_all_122 : decode cX5_all 122 = .ok (.bipush 97, 2) := by decide +kernel
theorem dX5_all_124 : decode cX5_all 124 = .ok (.if_icmp .ne 9, 3) := by decide +kernel
theorem dX5_all_127 : decode cX5_all 127 = .ok (.aload_n 0, 1) := by decide +kernel
theorem dX5_all_128 : decode cX5_all 128 = .ok (.bipush 47, 2) := by decide +kernel
theorem dX5_all_130 : decode cX5_all 130 = .ok (.invokevirtual 178, 3) := by decide +kernel
theorem dX5_all_133 : decode cX5_all 133 = .ok (.iload 5, 2) := by decide +kernel
theorem dX5_all_135 : decode cX5_all 135 = .ok (.bipush 113, 2) := by decide +kernel
theorem dX5_all_137 : decode cX5_all 137 = .ok (.if_icmp .ne 9, 3) := by decide +kernel
theorem dX5_all_140 : decode cX5_all 140 = .ok (.aload_n 0, 1) := by decide +kernel
theorem dX5_all_141 : decode cX5_all 141 = .ok (.bipush 63, 2) := by decide +kernel
theorem dX5_all_143 : decode cX5_all 143 = .ok (.invokevirtual 178, 3) := by decide +kernel
theorem dX5_all_146 : decode cX5_all 146 = .ok (.iload 5, 2) := by decide +kernel
theorem dX5_all_148 : decode cX5_all 148 = .ok (.bipush 102, 2) := by decide +kernel
theorem dX5_all_150 : decode cX5_all 150 = .ok (.if_icmp .ne 9, 3) := by decide +kernel
theorem dX5_all_153 : decode cX5_all 153 = .ok (.aload_n 0, 1) := by decide +kernel
theorem dX5_all_154 : decode cX5_all 154 = .ok (.bipush 35, 2) := by decide +kernel
theorem dX5_all_156 : decode cX5_all 156 = .ok (.invokevirtual 178, 3) := by decide +kernel
theorem dX5_all_159 : decode cX5_all 159 = .ok (.aload_n 0, 1) := by decide +kernel
theorem dX5_all_160 : decode cX5_all 160 = .ok (.iload 6, 2) := by decide +kernel
theorem dX5_all_162 : decode cX5_all 162 = .ok (.iload 5, 2) := by decide +kernel
theorem dX5_all_164 : decode cX5_all 164 = .ok (.invokevirtual 171, 3) := by decide +kernel
theorem dX5_all_167 : decode cX5_all 167 = .ok (.iload 5, 2) := by decide +kernel
theorem dX5_all_169 : decode cX5_all 169 = .ok (.bipush 115, 2) := by decide +kernel
theorem dX5_all_171 : decode cX5_all 171 = .ok (.if_icmp .ne 9, 3) := by decide +kernel
theorem dX5_all_174 : decode cX5_all 174 = .ok (.aload_n 0, 1) := by decide +kernel
theorem dX5_all_175 : decode cX5_all 175 = .ok (.bipush 58, 2) := by decide +kernel
theorem dX5_all_177 : decode cX5_all 177 = .ok (.invokevirtual 178, 3) := by decide +kernel
theorem dX5_all_180 : decode cX5_all 180 = .ok (.iinc 4 1, 3) := by decide +kernel
theorem dX5_all_183 : decode cX5_all 183 = .ok (.goto (-170), 3) := by decide +kernel
theorem dX5_all_186 : decode cX5_all 186 = .ok (.return_, 1) := by decide +kernel
theorem dX5_together_0 : decode cX5_together 0 = .ok (.aload_n 0, 1) := by decide +kernel
theorem dX5_together_1 : decode cX5_together 1 = .ok (.aload_n 0, 1) := by decide +kernel
theorem dX5_together_2 : decode cX5_together 2 = .ok (.iload_n 1, 1) := by decide +kernel
theorem dX5_together_3 : decode cX5_together 3 = .ok (.invokevirtual 157, 3) := by decide +kernel
theorem dX5_together_6 : decode cX5_together 6 = .ok (.invokevirtual 63, 3) := by decide +kernel
theorem dX5_together_9 : decode cX5_together 9 = .ok (.ifCond .eq 5, 3) := by decide +kernel
theorem dX5_together_12 : decode cX5_together 12 = .ok (.iconst 0, 1) := by decide +kernel
theorem dX5_together_13 : decode cX5_together 13 = .ok (.ireturn, 1) := by decide +kernel
theorem dX5_together_14 : decode cX5_together 14 = .ok (.aload_n 0, 1) := by decide +kernel
theorem dX5_together_15 : decode cX5_together 15 = .ok (.iload_n 1, 1) := by decide +kernel
theorem dX5_together_16 : decode cX5_together 16 = .ok (.iload_n 1, 1) := by decide +kernel
theorem dX5_together_17 : decode cX5_together 17 = .ok (.bipush 115, 2) := by decide +kernel
theorem dX5_together_19 : decode cX5_together 19 = .ok (.invokevirtual 182, 3) := by decide +kernel
theorem dX5_together_22 : decode cX5_together 22 = .ok (.aload_n 0, 1) := by decide +kernel
theorem dX5_together_23 : decode cX5_together 23 = .ok (.getfield 53, 3) := by decide +kernel
theorem dX5_together_26 : decode cX5_together 26 = .ok (.aload_n 0, 1) := by decide +kernel
theorem dX5_together_27 : decode cX5_together 27 = .ok (.getfield 19, 3) := by decide +kernel
theorem dX5_together_30 : decode cX5_together 30 = .ok (.iload_n 1, 1) := by decide +kernel
theorem dX5_together_31 : decode cX5_together 31 = .ok (.iaload, 1) := by decide +kernel
theorem dX5_together_32 : decode cX5_together 32 = .ok (.if_icmp .ne 7, 3) := by decide +kernel
theorem dX5_together_35 : decode cX5_together 35 = .ok (.iconst 1, 1) := by decide +kernel
theorem dX5_together_36 : decode cX5_together 36 = .ok (.goto 4, 3) := by decide +kernel
theorem dX5_together_39 : decode cX5_together 39 = .ok (.iconst 0, 1) := by decide +kernel
theorem dX5_together_40 : decode cX5_together 40 = .ok (.istore_n 2, 1) := by decide +kernel
theorem dX5_together_41 : decode cX5_together 41 = .ok (.iconst 0, 1) := by decide +kernel
theorem dX5_together_42 : decode cX5_together 42 = .ok (.istore_n 3, 1) := by decide +kernel
theorem dX5_together_43 : decode cX5_together 43 = .ok (.iload_n 2, 1) := by decide +kernel
theorem dX5_together_44 : decode cX5_together 44 = .ok (.ifCond .eq 43, 3) := by decide +kernel
theorem dX5_together_47 : decode cX5_together 47 = .ok (.iload_n 3, 1) := by decide +kernel
theorem dX5_together_48 : decode cX5_together 48 = .ok (.aload_n 0, 1) := by decide +kernel
theorem dX5_together_49 : decode cX5_together 49 = .ok (.getfield 53, 3) := by decide +kernel
theorem dX5_together_52 : decode cX5_together 52 = .ok (.if_icmp .ge 35, 3) := by decide +kernel
theorem dX5_together_55 : decode cX5_together 55 = .ok (.aload_n 0, 1) := by decide +kernel
theorem dX5_together_56 : decode cX5_together 56 = .ok (.getfield 7, 3) := by decide +kernel
theorem dX5_together_59 : decode cX5_together 59 = .ok (.iload_n 3, 1) := by decide +kernel
theorem dX5_together_60 : decode cX5_together 60 = .ok (.iaload, 1) := by decide +kernel
theorem dX5_together_61 : decode cX5_together 61 = .ok (.aload_n 0, 1) := by decide +kernel
theorem dX5_together_62 : decode cX5_together 62 = .ok (.getfield 16, 3) := by decide +kernel
theorem dX5_together_65 : decode cX5_together 65 = .ok (.bipush 60, 2) := by decide +kernel
theorem dX5_together_67 : decode cX5_together 67 = .ok (.iload_n 1, 1) := by decide +kernel
theorem dX5_together_68 : decode cX5_together 68 = .ok (.imul, 1) := by decide +kernel
theorem dX5_together_69 : decode cX5_together 69 = .ok (.iload_n 3, 1) := by decide +kernel
theorem dX5_together_70 : decode cX5_together 70 = .ok (.iadd, 1) := by decide +kernel
theorem dX5_together_71 : decode cX5_together 71 = .ok (.iaload, 1) := by decide +kernel
theorem dX5_together_72 : decode cX5_together 72 = .ok (.if_icmp .ne 7, 3) := by decide +kernel
theorem dX5_together_75 : decode cX5_together 75 = .ok (.iconst 1, 1) := by decide +kernel
theorem dX5_together_76 : decode cX5_together 76 = .ok (.goto 4, 3) := by decide +kernel
theorem dX5_together_79 : decode cX5_together 79 = .ok (.iconst 0, 1) := by decide +kernel
theorem dX5_together_80 : decode cX5_together 80 = .ok (.istore_n 2, 1) := by decide +kernel
theorem dX5_together_81 : decode cX5_together 81 = .ok (.iinc 3 1, 3) := by decide +kernel
theorem dX5_together_84 : decode cX5_together 84 = .ok (.goto (-41), 3) := by decide +kernel
theorem dX5_together_87 : decode cX5_together 87 = .ok (.iload_n 2, 1) := by decide +kernel
theorem dX5_together_88 : decode cX5_together 88 = .ok (.ireturn, 1) := by decide +kernel
theorem dX5_taken_0 : decode cX5_taken 0 = .ok (.aload_n 0, 1) := by decide +kernel
theorem dX5_taken_1 : decode cX5_taken 1 = .ok (.iload_n 1, 1) := by decide +kernel
theorem dX5_taken_2 : decode cX5_taken 2 = .ok (.iload_n 2, 1) := by decide +kernel
theorem dX5_taken_3 : decode cX5_taken 3 = .ok (.invokevirtual 160, 3) := by decide +kernel
theorem dX5_taken_6 : decode cX5_taken 6 = .ok (.ifCond .ne 5, 3) := by decide +kernel
theorem dX5_taken_9 : decode cX5_taken 9 = .ok (.iconst 0, 1) := by decide +kernel
theorem dX5_taken_10 : decode cX5_taken 10 = .ok (.ireturn, 1) := by decide +kernel
theorem dX5_taken_11 : decode cX5_taken 11 = .ok (.aload_n 0, 1) := by decide +kernel
theorem dX5_taken_12 : decode cX5_taken 12 = .ok (.iload_n 1, 1) := by decide +kernel
theorem dX5_taken_13 : decode cX5_taken 13 = .ok (.iload_n 2, 1) := by decide +kernel
theorem dX5_taken_14 : decode cX5_taken 14 = .ok (.invokestatic 100, 3) := by decide +kernel
theorem dX5_taken_17 : decode cX5_taken 17 = .ok (.invokevirtual 168, 3) := by decide +kernel
theorem dX5_taken_20 : decode cX5_taken 20 = .ok (.iload_n 2, 1) := by decide +kernel
theorem dX5_taken_21 : decode cX5_taken 21 = .ok (.bipush 97, 2) := by decide +kernel
theorem dX5_taken_23 : decode cX5_taken 23 = .ok (.if_icmp .ne 7, 3) := by decide +kernel
theorem dX5_taken_26 : decode cX5_taken 26 = .ok (.iconst 2, 1) := by decide +kernel
theorem dX5_taken_27 : decode cX5_taken 27 = .ok (.goto 14, 3) := by decide +kernel
theorem dX5_taken_30 : decode cX5_taken 30 = .ok (.iload_n 2, 1) := by decide +kernel
theorem dX5_taken_31 : decode cX5_taken 31 = .ok (.bipush 112, 2) := by decide +kernel
theorem dX5_taken_33 : decode cX5_taken 33 = .ok (.if_icmp .ne 7, 3) := by decide +kernel
theorem dX5_taken_36 : decode cX5_taken 36 = .ok (.iconst 0, 1) := by decide +kernel
theorem dX5_taken_37 : decode cX5_taken 37 = .ok (.goto 4, 3) := by decide +kernel
theorem dX5_taken_40 : decode cX5_taken 40 = .ok (.iconst 1, 1) := by decide +kernel
theorem dX5_taken_41 : decode cX5_taken 41 = .ok (.iadd, 1) := by decide +kernel
theorem dX5_taken_42 : decode cX5_taken 42 = .ok (.ireturn, 1) := by decide +kernel
theorem dX5_mix_0 : decode cX5_mix 0 = .ok (.iload_n 3, 1) := by decide +kernel
theorem dX5_mix_1 : decode cX5_mix 1 = .ok (.bipush 115, 2) := by decide +kernel
theorem dX5_mix_3 : decode cX5_mix 3 = .ok (.if_icmp .eq 27, 3) := by decide +kernel
theorem dX5_mix_6 : decode cX5_mix 6 = .ok (.iload_n 3, 1) := by decide +kernel
theorem dX5_mix_7 : decode cX5_mix 7 = .ok (.bipush 97, 2) := by decide +kernel
theorem dX5_mix_9 : decode cX5_mix 9 = .ok (.if_icmp .eq 21, 3) := by decide +kernel
theorem dX5_mix_12 : decode cX5_mix 12 = .ok (.iload_n 3, 1) := by decide +kernel
theorem dX5_mix_13 : decode cX5_mix 13 = .ok (.bipush 112, 2) := by decide +kernel
theorem dX5_mix_15 : decode cX5_mix 15 = .ok (.if_icmp .eq 15, 3) := by decide +kernel
theorem dX5_mix_18 : decode cX5_mix 18 = .ok (.iload_n 3, 1) := by decide +kernel
theorem dX5_mix_19 : decode cX5_mix 19 = .ok (.bipush 113, 2) := by decide +kernel
theorem dX5_mix_21 : decode cX5_mix 21 = .ok (.if_icmp .eq 9, 3) := by decide +kernel
theorem dX5_mix_24 : decode cX5_mix 24 = .ok (.iload_n 3, 1) := by decide +kernel
theorem dX5_mix_25 : decode cX5_mix 25 = .ok (.bipush 102, 2) := by decide +kernel
theorem dX5_mix_27 : decode cX5_mix 27 = .ok (.if_icmp .ne 7, 3) := by decide +kernel
theorem dX5_mix_30 : decode cX5_mix 30 = .ok (.iconst 1, 1) := by decide +kernel
theorem dX5_mix_31 : decode cX5_mix 31 = .ok (.goto 4, 3) := by decide +kernel
theorem dX5_mix_34 : decode cX5_mix 34 = .ok (.iconst 0, 1) := by decide +kernel
theorem dX5_mix_35 : decode cX5_mix 35 = .ok (.istore 4, 2) := by decide +kernel
theorem dX5_mix_37 : decode cX5_mix 37 = .ok (.iload_n 1, 1) := by decide +kernel
theorem dX5_mix_38 : decode cX5_mix 38 = .ok (.invokestatic 145, 3) := by decide +kernel
theorem dX5_mix_41 : decode cX5_mix 41 = .ok (.ifCond .eq 10, 3) := by decide +kernel
theorem dX5_mix_44 : decode cX5_mix 44 = .ok (.iload_n 2, 1) := by decide +kernel
theorem dX5_mix_45 : decode cX5_mix 45 = .ok (.invokestatic 145, 3) := by decide +kernel
theorem dX5_mix_48 : decode cX5_mix 48 = .ok (.ifCond .ne 7, 3) := by decide +kernel
theorem dX5_mix_51 : decode cX5_mix 51 = .ok (.iconst 1, 1) := by decide +kernel
theorem dX5_mix_52 : decode cX5_mix 52 = .ok (.goto 59, 3) := by decide +kernel
theorem dX5_mix_55 : decode cX5_mix 55 = .ok (.aload_n 0, 1) := by decide +kernel
theorem dX5_mix_56 : decode cX5_mix 56 = .ok (.getfield 19, 3) := by decide +kernel
theorem dX5_mix_59 : decode cX5_mix 59 = .ok (.iload_n 1, 1) := by decide +kernel
theorem dX5_mix_60 : decode cX5_mix 60 = .ok (.iaload, 1) := by decide +kernel
theorem dX5_mix_61 : decode cX5_mix 61 = .ok (.ifCond .lt 12, 3) := by decide +kernel
theorem dX5_mix_64 : decode cX5_mix 64 = .ok (.aload_n 0, 1) := by decide +kernel
theorem dX5_mix_65 : decode cX5_mix 65 = .ok (.getfield 19, 3) := by decide +kernel
theorem dX5_mix_68 : decode cX5_mix 68 = .ok (.iload_n 2, 1) := by decide +kernel
theorem dX5_mix_69 : decode cX5_mix 69 = .ok (.iaload, 1) := by decide +kernel
theorem dX5_mix_70 : decode cX5_mix 70 = .ok (.ifCond .ge 7, 3) := by decide +kernel
theorem dX5_mix_73 : decode cX5_mix 73 = .ok (.iconst 2, 1) := by decide +kernel
theorem dX5_mix_74 : decode cX5_mix 74 = .ok (.goto 37, 3) := by decide +kernel
theorem dX5_mix_77 : decode cX5_mix 77 = .ok (.iload 4, 2) := by decide +kernel
theorem dX5_mix_79 : decode cX5_mix 79 = .ok (.ifCond .ne 7, 3) := by decide +kernel
theorem dX5_mix_82 : decode cX5_mix 82 = .ok (.iconst 3, 1) := by decide +kernel
theorem dX5_mix_83 : decode cX5_mix 83 = .ok (.goto 28, 3) := by decide +kernel
theorem dX5_mix_86 : decode cX5_mix 86 = .ok (.aload_n 0, 1) := by decide +kernel
theorem dX5_mix_87 : decode cX5_mix 87 = .ok (.iload_n 1, 1) := by decide +kernel
theorem dX5_mix_88 : decode cX5_mix 88 = .ok (.bipush 112, 2) := by decide +kernel
theorem dX5_mix_90 : decode cX5_mix 90 = .ok (.invokevirtual 160, 3) := by decide +kernel
theorem dX5_mix_93 : decode cX5_mix 93 = .ok (.ifCond .eq 17, 3) := by decide +kernel
theorem dX5_mix_96 : decode cX5_mix 96 = .ok (.aload_n 0, 1) := by decide +kernel
theorem dX5_mix_97 : decode cX5_mix 97 = .ok (.iload_n 2, 1) := by decide +kernel
theorem dX5_mix_98 : decode cX5_mix 98 = .ok (.bipush 112, 2) := by decide +kernel
theorem dX5_mix_100 : decode cX5_mix 100 = .ok (.invokevirtual 160, 3) := by decide +kernel
theorem dX5_mix_103 : decode cX5_mix 103 = .ok (.ifCond .eq 7, 3) := by decide +kernel
theorem dX5_mix_106 : decode cX5_mix 106 = .ok (.iconst 0, 1) := by decide +kernel
theorem dX5_mix_107 : decode cX5_mix 107 = .ok (.goto 4, 3) := by decide +kernel
theorem dX5_mix_110 : decode cX5_mix 110 = .ok (.iconst 4, 1) := by decide +kernel
theorem dX5_mix_111 : decode cX5_mix 111 = .ok (.istore 5, 2) := by decide +kernel
theorem dX5_mix_113 : decode cX5_mix 113 = .ok (.iconst 0, 1) := by decide +kernel
theorem dX5_mix_114 : decode cX5_mix 114 = .ok (.istore 6, 2) := by decide +kernel
theorem dX5_mix_116 : decode cX5_mix 116 = .ok (.iconst 0, 1) := by decide +kernel
theorem dX5_mix_117 : decode cX5_mix 117 = .ok (.istore 7, 2) := by decide +kernel
theorem dX5_mix_119 : decode cX5_mix 119 = .ok (.iload 5, 2) := by decide +kernel
theorem dX5_mix_121 : decode cX5_mix 121 = .ok (.ifCond .ne 46, 3) := by decide +kernel
theorem dX5_mix_124 : decode cX5_mix 124 = .ok (.iload 7, 2) := by decide +kernel
theorem dX5_mix_126 : decode cX5_mix 126 = .ok (.iconst 5, 1) := by decide +kernel
theorem dX5_mix_127 : decode cX5_mix 127 = .ok (.if_icmp .ge 40, 3) := by decide +kernel
theorem dX5_mix_130 : decode cX5_mix 130 = .ok (.ldc 186, 2) := by decide +kernel
theorem dX5_mix_132 : decode cX5_mix 132 = .ok (.iload 7, 2) := by decide +kernel
theorem dX5_mix_134 : decode cX5_mix 134 = .ok (.invokevirtual 79, 3) := by decide +kernel
theorem dX5_mix_137 : decode cX5_mix 137 = .ok (.istore 8, 2) := by decide +kernel
theorem dX5_mix_139 : decode cX5_mix 139 = .ok (.iload 6, 2) := by decide +kernel
theorem dX5_mix_141 : decode cX5_mix 141 = .ok (.aload_n 0, 1) := by decide +kernel
theorem dX5_mix_142 : decode cX5_mix 142 = .ok (.iload 8, 2) := by decide +kernel
theorem dX5_mix_144 : decode cX5_mix 144 = .ok (.iload_n 3, 1) := by decide +kernel
theorem dX5_mix_145 : decode cX5_mix 145 = .ok (.if_icmp .ne 7, 3) := by decide +kernel
theorem dX5_mix_148 : decode cX5_mix 148 = .ok (.iload_n 2, 1) := by decide +kernel
theorem dX5_mix_149 : decode cX5_mix 149 = .ok (.goto 4, 3) := by decide +kernel
theorem dX5_mix_152 : decode cX5_mix 152 = .ok (.iload_n 1, 1) := by decide +kernel
theorem dX5_mix_153 : decode cX5_mix 153 = .ok (.iload 8, 2) := by decide +kernel
theorem dX5_mix_155 : decode cX5_mix 155 = .ok (.invokevirtual 188, 3) := by decide +kernel
theorem dX5_mix_158 : decode cX5_mix 158 = .ok (.iadd, 1) := by decide +kernel
theorem dX5_mix_159 : decode cX5_mix 159 = .ok (.istore 6, 2) := by decide +kernel
theorem dX5_mix_161 : decode cX5_mix 161 = .ok (.iinc 7 1, 3) := by decide +kernel
theorem dX5_mix_164 : decode cX5_mix 164 = .ok (.goto (-45), 3) := by decide +kernel
theorem dX5_mix_167 : decode cX5_mix 167 = .ok (.aload_n 0, 1) := by decide +kernel
theorem dX5_mix_168 : decode cX5_mix 168 = .ok (.iload 5, 2) := by decide +kernel
theorem dX5_mix_170 : decode cX5_mix 170 = .ok (.ifCond .le 8, 3) := by decide +kernel
theorem dX5_mix_173 : decode cX5_mix 173 = .ok (.iload 5, 2) := by decide +kernel
theorem dX5_mix_175 : decode cX5_mix 175 = .ok (.goto 15, 3) := by decide +kernel
theorem dX5_mix_178 : decode cX5_mix 178 = .ok (.iload 6, 2) := by decide +kernel
theorem dX5_mix_180 : decode cX5_mix 180 = .ok (.bipush 60, 2) := by decide +kernel
theorem dX5_mix_182 : decode cX5_mix 182 = .ok (.if_icmp .le 7, 3) := by decide +kernel
theorem dX5_mix_185 : decode cX5_mix 185 = .ok (.iconst 5, 1) := by decide +kernel
theorem dX5_mix_186 : decode cX5_mix 186 = .ok (.goto 4, 3) := by decide +kernel
theorem dX5_mix_189 : decode cX5_mix 189 = .ok (.iconst 0, 1) := by decide +kernel
theorem dX5_mix_190 : decode cX5_mix 190 = .ok (.invokevirtual 63, 3) := by decide +kernel
theorem dX5_mix_193 : decode cX5_mix 193 = .ok (.ifCond .eq 5, 3) := by decide +kernel
theorem dX5_mix_196 : decode cX5_mix 196 = .ok (.iconst 0, 1) := by decide +kernel
theorem dX5_mix_197 : decode cX5_mix 197 = .ok (.ireturn, 1) := by decide +kernel
theorem dX5_mix_198 : decode cX5_mix 198 = .ok (.aload_n 0, 1) := by decide +kernel
theorem dX5_mix_199 : decode cX5_mix 199 = .ok (.iload_n 1, 1) := by decide +kernel
theorem dX5_mix_200 : decode cX5_mix 200 = .ok (.iload_n 2, 1) := by decide +kernel
theorem dX5_mix_201 : decode cX5_mix 201 = .ok (.iload_n 3, 1) := by decide +kernel
theorem dX5_mix_202 : decode cX5_mix 202 = .ok (.invokevirtual 182, 3) := by decide +kernel
theorem dX5_mix_205 : decode cX5_mix 205 = .ok (.aload_n 0, 1) := by decide +kernel
theorem dX5_mix_206 : decode cX5_mix 206 = .ok (.getfield 53, 3) := by decide +kernel
theorem dX5_mix_209 : decode cX5_mix 209 = .ok (.ireturn, 1) := by decide +kernel
theorem dX5_isTrue_0 : decode cX5_isTrue 0 = .ok (.aload_n 0, 1) := by decide +kernel
theorem dX5_isTrue_1 : decode cX5_isTrue 1 = .ok (.iconst 0, 1) := by decide +kernel
theorem dX5_isTrue_2 : decode cX5_isTrue 2 = .ok (.putfield 37, 3) := by decide +kernel
theorem dX5_isTrue_5 : decode cX5_isTrue 5 = .ok (.iconst 1, 1) := by decide +kernel
theorem dX5_isTrue_6 : decode cX5_isTrue 6 = .ok (.ireturn, 1) := by decide +kernel
theorem dX5_checksum_0 : decode cX5_checksum 0 = .ok (.aload_n 0, 1) := by decide +kernel
theorem dX5_checksum_1 : decode cX5_checksum 1 = .ok (.iconst 0, 1) := by decide +kernel
theorem dX5_checksum_2 : decode cX5_checksum 2 = .ok (.putfield 37, 3) := by decide +kernel
theorem dX5_checksum_5 : decode cX5_checksum 5 = .ok (.ldc2_w 191, 3) := by decide +kernel
theorem dX5_checksum_8 : decode cX5_checksum 8 = .ok (.lstore_n 1, 1) := by decide +kernel
theorem dX5_checksum_9 : decode cX5_checksum 9 = .ok (.iconst 0, 1) := by decide +kernel
theorem dX5_checksum_10 : decode cX5_checksum 10 = .ok (.istore_n 3, 1) := by decide +kernel
theorem dX5_checksum_11 : decode cX5_checksum 11 = .ok (.iload_n 3, 1) := by decide +kernel
theorem dX5_checksum_12 : decode cX5_checksum 12 = .ok (.aload_n 0, 1) := by decide +kernel
theorem dX5_checksum_13 : decode cX5_checksum 13 = .ok (.getfield 53, 3) := by decide +kernel
theorem dX5_checksum_16 : decode cX5_checksum 16 = .ok (.if_icmp .ge 23, 3) := by decide +kernel
theorem dX5_checksum_19 : decode cX5_checksum 19 = .ok (.ldc2_w 193, 3) := by decide +kernel
theorem dX5_checksum_22 : decode cX5_checksum 22 = .ok (.lload_n 1, 1) := by decide +kernel
theorem dX5_checksum_23 : decode cX5_checksum 23 = .ok (.lmul, 1) := by decide +kernel
theorem dX5_checksum_24 : decode cX5_checksum 24 = .ok (.aload_n 0, 1) := by decide +kernel
theorem dX5_checksum_25 : decode cX5_checksum 25 = .ok (.getfield 7, 3) := by decide +kernel
theorem dX5_checksum_28 : decode cX5_checksum 28 = .ok (.iload_n 3, 1) := by decide +kernel
theorem dX5_checksum_29 : decode cX5_checksum 29 = .ok (.iaload, 1) := by decide +kernel
theorem dX5_checksum_30 : decode cX5_checksum 30 = .ok (.i2l, 1) := by decide +kernel
theorem dX5_checksum_31 : decode cX5_checksum 31 = .ok (.ladd, 1) := by decide +kernel
theorem dX5_checksum_32 : decode cX5_checksum 32 = .ok (.lstore_n 1, 1) := by decide +kernel
theorem dX5_checksum_33 : decode cX5_checksum 33 = .ok (.iinc 3 1, 3) := by decide +kernel
theorem dX5_checksum_36 : decode cX5_checksum 36 = .ok (.goto (-25), 3) := by decide +kernel
theorem dX5_checksum_39 : decode cX5_checksum 39 = .ok (.ldc2_w 193, 3) := by decide +kernel
theorem dX5_checksum_42 : decode cX5_checksum 42 = .ok (.lload_n 1, 1) := by decide +kernel
theorem dX5_checksum_43 : decode cX5_checksum 43 = .ok (.lmul, 1) := by decide +kernel
theorem dX5_checksum_44 : decode cX5_checksum 44 = .ok (.aload_n 0, 1) := by decide +kernel
theorem dX5_checksum_45 : decode cX5_checksum 45 = .ok (.getfield 151, 3) := by decide +kernel
theorem dX5_checksum_48 : decode cX5_checksum 48 = .ok (.i2l, 1) := by decide +kernel
theorem dX5_checksum_49 : decode cX5_checksum 49 = .ok (.ladd, 1) := by decide +kernel
theorem dX5_checksum_50 : decode cX5_checksum 50 = .ok (.lstore_n 1, 1) := by decide +kernel
theorem dX5_checksum_51 : decode cX5_checksum 51 = .ok (.iconst 0, 1) := by decide +kernel
theorem dX5_checksum_52 : decode cX5_checksum 52 = .ok (.istore_n 3, 1) := by decide +kernel
theorem dX5_checksum_53 : decode cX5_checksum 53 = .ok (.iload_n 3, 1) := by decide +kernel
theorem dX5_checksum_54 : decode cX5_checksum 54 = .ok (.iconst 4, 1) := by decide +kernel
theorem dX5_checksum_55 : decode cX5_checksum 55 = .ok (.if_icmp .ge 87, 3) := by decide +kernel
theorem dX5_checksum_58 : decode cX5_checksum 58 = .ok (.aload_n 0, 1) := by decide +kernel
theorem dX5_checksum_59 : decode cX5_checksum 59 = .ok (.getfield 19, 3) := by decide +kernel
theorem dX5_checksum_62 : decode cX5_checksum 62 = .ok (.iload_n 3, 1) := by decide +kernel
theorem dX5_checksum_63 : decode cX5_checksum 63 = .ok (.iaload, 1) := by decide +kernel
theorem dX5_checksum_64 : decode cX5_checksum 64 = .ok (.ifCond .ge 9, 3) := by decide +kernel
theorem dX5_checksum_67 : decode cX5_checksum 67 = .ok (.ldc2_w 193, 3) := by decide +kernel
theorem dX5_checksum_70 : decode cX5_checksum 70 = .ok (.lload_n 1, 1) := by decide +kernel
theorem dX5_checksum_71 : decode cX5_checksum 71 = .ok (.lmul, 1) := by decide +kernel
theorem dX5_checksum_72 : decode cX5_checksum 72 = .ok (.lstore_n 1, 1) := by decide +kernel
theorem dX5_checksum_73 : decode cX5_checksum 73 = .ok (.iconst 0, 1) := by decide +kernel
theorem dX5_checksum_74 : decode cX5_checksum 74 = .ok (.istore 4, 2) := by decide +kernel
theorem dX5_checksum_76 : decode cX5_checksum 76 = .ok (.iload 4, 2) := by decide +kernel
theorem dX5_checksum_78 : decode cX5_checksum 78 = .ok (.bipush 9, 2) := by decide +kernel
theorem dX5_checksum_80 : decode cX5_checksum 80 = .ok (.if_icmp .ge 33, 3) := by decide +kernel
theorem dX5_checksum_83 : decode cX5_checksum 83 = .ok (.aload_n 0, 1) := by decide +kernel
theorem dX5_checksum_84 : decode cX5_checksum 84 = .ok (.getfield 19, 3) := by decide +kernel
theorem dX5_checksum_87 : decode cX5_checksum 87 = .ok (.iload_n 3, 1) := by decide +kernel
theorem dX5_checksum_88 : decode cX5_checksum 88 = .ok (.iaload, 1) := by decide +kernel
theorem dX5_checksum_89 : decode cX5_checksum 89 = .ok (.ifCond .lt 24, 3) := by decide +kernel
theorem dX5_checksum_92 : decode cX5_checksum 92 = .ok (.ldc2_w 193, 3) := by decide +kernel
theorem dX5_checksum_95 : decode cX5_checksum 95 = .ok (.lload_n 1, 1) := by decide +kernel
theorem dX5_checksum_96 : decode cX5_checksum 96 = .ok (.lmul, 1) := by decide +kernel
theorem dX5_checksum_97 : decode cX5_checksum 97 = .ok (.aload_n 0, 1) := by decide +kernel
theorem dX5_checksum_98 : decode cX5_checksum 98 = .ok (.iload_n 3, 1) := by decide +kernel
theorem dX5_checksum_99 : decode cX5_checksum 99 = .ok (.iload 4, 2) := by decide +kernel
theorem dX5_checksum_101 : decode cX5_checksum 101 = .ok (.invokevirtual 168, 3) := by decide +kernel
theorem dX5_checksum_104 : decode cX5_checksum 104 = .ok (.i2l, 1) := by decide +kernel
theorem dX5_checksum_105 : decode cX5_checksum 105 = .ok (.ladd, 1) := by decide +kernel
theorem dX5_checksum_106 : decode cX5_checksum 106 = .ok (.lstore_n 1, 1) := by decide +kernel
theorem dX5_checksum_107 : decode cX5_checksum 107 = .ok (.iinc 4 1, 3) := by decide +kernel
theorem dX5_checksum_110 : decode cX5_checksum 110 = .ok (.goto (-34), 3) := by decide +kernel
theorem dX5_checksum_113 : decode cX5_checksum 113 = .ok (.aload_n 0, 1) := by decide +kernel
theorem dX5_checksum_114 : decode cX5_checksum 114 = .ok (.getfield 19, 3) := by decide +kernel
theorem dX5_checksum_117 : decode cX5_checksum 117 = .ok (.iload_n 3, 1) := by decide +kernel
theorem dX5_checksum_118 : decode cX5_checksum 118 = .ok (.iaload, 1) := by decide +kernel
theorem dX5_checksum_119 : decode cX5_checksum 119 = .ok (.ifCond .lt 17, 3) := by decide +kernel
theorem dX5_checksum_122 : decode cX5_checksum 122 = .ok (.ldc2_w 193, 3) := by decide +kernel
theorem dX5_checksum_125 : decode cX5_checksum 125 = .ok (.lload_n 1, 1) := by decide +kernel
theorem dX5_checksum_126 : decode cX5_checksum 126 = .ok (.lmul, 1) := by decide +kernel
theorem dX5_checksum_127 : decode cX5_checksum 127 = .ok (.aload_n 0, 1) := by decide +kernel
theorem dX5_checksum_128 : decode cX5_checksum 128 = .ok (.getfield 28, 3) := by decide +kernel
theorem dX5_checksum_131 : decode cX5_checksum 131 = .ok (.iload_n 3, 1) := by decide +kernel
theorem dX5_checksum_132 : decode cX5_checksum 132 = .ok (.iaload, 1) := by decide +kernel
theorem dX5_checksum_133 : decode cX5_checksum 133 = .ok (.i2l, 1) := by decide +kernel
theorem dX5_checksum_134 : decode cX5_checksum 134 = .ok (.ladd, 1) := by decide +kernel
theorem dX5_checksum_135 : decode cX5_checksum 135 = .ok (.lstore_n 1, 1) := by decide +kernel
theorem dX5_checksum_136 : decode cX5_checksum 136 = .ok (.iinc 3 1, 3) := by decide +kernel
theorem dX5_checksum_139 : decode cX5_checksum 139 = .ok (.goto (-86), 3) := by decide +kernel
theorem dX5_checksum_142 : decode cX5_checksum 142 = .ok (.lload_n 1, 1) := by decide +kernel
theorem dX5_checksum_143 : decode cX5_checksum 143 = .ok (.lreturn, 1) := by decide +kernel
