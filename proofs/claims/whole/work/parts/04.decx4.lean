theorem dX4_init_0 : decode cX4_init 0 = .ok (.aload_n 0, 1) := by decide +kernel
theorem dX4_init_1 : decode cX4_init 1 = .ok (.invokespecial 1, 3) := by decide +kernel
theorem dX4_init_4 : decode cX4_init 4 = .ok (.aload_n 0, 1) := by decide +kernel
theorem dX4_init_5 : decode cX4_init 5 = .ok (.new 7, 3) := by decide +kernel
theorem dX4_init_8 : decode cX4_init 8 = .ok (.dup, 1) := by decide +kernel
theorem dX4_init_9 : decode cX4_init 9 = .ok (.invokespecial 9, 3) := by decide +kernel
theorem dX4_init_12 : decode cX4_init 12 = .ok (.putfield 10, 3) := by decide +kernel
theorem dX4_init_15 : decode cX4_init 15 = .ok (.aload_n 0, 1) := by decide +kernel
theorem dX4_init_16 : decode cX4_init 16 = .ok (.new 7, 3) := by decide +kernel
theorem dX4_init_19 : decode cX4_init 19 = .ok (.dup, 1) := by decide +kernel
theorem dX4_init_20 : decode cX4_init 20 = .ok (.invokespecial 9, 3) := by decide +kernel
theorem dX4_init_23 : decode cX4_init 23 = .ok (.putfield 16, 3) := by decide +kernel
theorem dX4_init_26 : decode cX4_init 26 = .ok (.aload_n 0, 1) := by decide +kernel
theorem dX4_init_27 : decode cX4_init 27 = .ok (.new 19, 3) := by decide +kernel
theorem dX4_init_30 : decode cX4_init 30 = .ok (.dup, 1) := by decide +kernel
theorem dX4_init_31 : decode cX4_init 31 = .ok (.invokespecial 21, 3) := by decide +kernel
theorem dX4_init_34 : decode cX4_init 34 = .ok (.putfield 22, 3) := by decide +kernel
theorem dX4_init_37 : decode cX4_init 37 = .ok (.aload_n 0, 1) := by decide +kernel
theorem dX4_init_38 : decode cX4_init 38 = .ok (.iconst 4, 1) := by decide +kernel
theorem dX4_init_39 : decode cX4_init 39 = .ok (.anewarray 26, 3) := by decide +kernel
theorem dX4_init_42 : decode cX4_init 42 = .ok (.putfield 28, 3) := by decide +kernel
theorem dX4_init_45 : decode cX4_init 45 = .ok (.iconst 0, 1) := by decide +kernel
theorem dX4_init_46 : decode cX4_init 46 = .ok (.istore_n 1, 1) := by decide +kernel
theorem dX4_init_47 : decode cX4_init 47 = .ok (.iload_n 1, 1) := by decide +kernel
theorem dX4_init_48 : decode cX4_init 48 = .ok (.aload_n 0, 1) := by decide +kernel
theorem dX4_init_49 : decode cX4_init 49 = .ok (.getfield 28, 3) := by decide +kernel
theorem dX4_init_52 : decode cX4_init 52 = .ok (.arraylength, 1) := by decide +kernel
theorem dX4_init_53 : decode cX4_init 53 = .ok (.if_icmp .ge 22, 3) := by decide +kernel
theorem dX4_init_56 : decode cX4_init 56 = .ok (.aload_n 0, 1) := by decide +kernel
theorem dX4_init_57 : decode cX4_init 57 = .ok (.getfield 28, 3) := by decide +kernel
theorem dX4_init_60 : decode cX4_init 60 = .ok (.iload_n 1, 1) := by decide +kernel
theorem dX4_init_61 : decode cX4_init 61 = .ok (.new 26, 3) := by decide +kernel
theorem dX4_init_64 : decode cX4_init 64 = .ok (.dup, 1) := by decide +kernel
theorem dX4_init_65 : decode cX4_init 65 = .ok (.invokespecial 32, 3) := by decide +kernel
theorem dX4_init_68 : decode cX4_init 68 = .ok (.aastore, 1) := by decide +kernel
theorem dX4_init_69 : decode cX4_init 69 = .ok (.iinc 1 1, 3) := by decide +kernel
theorem dX4_init_72 : decode cX4_init 72 = .ok (.goto (-25), 3) := by decide +kernel
theorem dX4_init_75 : decode cX4_init 75 = .ok (.return_, 1) := by decide +kernel
theorem dX4_type_0 : decode cX4_type 0 = .ok (.iload_n 1, 1) := by decide +kernel
theorem dX4_type_1 : decode cX4_type 1 = .ok (.bipush 33, 2) := by decide +kernel
theorem dX4_type_3 : decode cX4_type 3 = .ok (.if_icmp .lt 18, 3) := by decide +kernel
theorem dX4_type_6 : decode cX4_type 6 = .ok (.iload_n 1, 1) := by decide +kernel
theorem dX4_type_7 : decode cX4_type 7 = .ok (.bipush 126, 2) := by decide +kernel
theorem dX4_type_9 : decode cX4_type 9 = .ok (.if_icmp .gt 12, 3) := by decide +kernel
theorem dX4_type_12 : decode cX4_type 12 = .ok (.ldc 33, 2) := by decide +kernel
theorem dX4_type_14 : decode cX4_type 14 = .ok (.iload_n 1, 1) := by decide +kernel
theorem dX4_type_15 : decode cX4_type 15 = .ok (.invokevirtual 35, 3) := by decide +kernel
theorem dX4_type_18 : decode cX4_type 18 = .ok (.ifCond .lt 13, 3) := by decide +kernel
theorem dX4_type_21 : decode cX4_type 21 = .ok (.new 41, 3) := by decide +kernel
theorem dX4_type_24 : decode cX4_type 24 = .ok (.dup, 1) := by decide +kernel
theorem dX4_type_25 : decode cX4_type 25 = .ok (.ldc 43, 2) := by decide +kernel
theorem dX4_type_27 : decode cX4_type 27 = .ok (.invokespecial 45, 3) := by decide +kernel
theorem dX4_type_30 : decode cX4_type 30 = .ok (.athrow, 1) := by decide +kernel
theorem dX4_type_31 : decode cX4_type 31 = .ok (.aload_n 0, 1) := by decide +kernel
theorem dX4_type_32 : decode cX4_type 32 = .ok (.iconst 1, 1) := by decide +kernel
theorem dX4_type_33 : decode cX4_type 33 = .ok (.invokevirtual 48, 3) := by decide +kernel
theorem dX4_type_36 : decode cX4_type 36 = .ok (.aload_n 0, 1) := by decide +kernel
theorem dX4_type_37 : decode cX4_type 37 = .ok (.getfield 10, 3) := by decide +kernel
theorem dX4_type_40 : decode cX4_type 40 = .ok (.iload_n 1, 1) := by decide +kernel
theorem dX4_type_41 : decode cX4_type 41 = .ok (.invokevirtual 52, 3) := by decide +kernel
theorem dX4_type_44 : decode cX4_type 44 = .ok (.aload_n 0, 1) := by decide +kernel
theorem dX4_type_45 : decode cX4_type 45 = .ok (.getfield 10, 3) := by decide +kernel
theorem dX4_type_48 : decode cX4_type 48 = .ok (.invokevirtual 56, 3) := by decide +kernel
theorem dX4_type_51 : decode cX4_type 51 = .ok (.ireturn, 1) := by decide +kernel
theorem dX4_escape_0 : decode cX4_escape 0 = .ok (.iload_n 1, 1) := by decide +kernel
theorem dX4_escape_1 : decode cX4_escape 1 = .ok (.ifCond .lt 10, 3) := by decide +kernel
theorem dX4_escape_4 : decode cX4_escape 4 = .ok (.iload_n 1, 1) := by decide +kernel
theorem dX4_escape_5 : decode cX4_escape 5 = .ok (.sipush 255, 3) := by decide +kernel
theorem dX4_escape_8 : decode cX4_escape 8 = .ok (.if_icmp .le 13, 3) := by decide +kernel
theorem dX4_escape_11 : decode cX4_escape 11 = .ok (.new 41, 3) := by decide +kernel
theorem dX4_escape_14 : decode cX4_escape 14 = .ok (.dup, 1) := by decide +kernel
theorem dX4_escape_15 : decode cX4_escape 15 = .ok (.ldc 60, 2) := by decide +kernel
theorem dX4_escape_17 : decode cX4_escape 17 = .ok (.invokespecial 45, 3) := by decide +kernel
theorem dX4_escape_20 : decode cX4_escape 20 = .ok (.athrow, 1) := by decide +kernel
theorem dX4_escape_21 : decode cX4_escape 21 = .ok (.aload_n 0, 1) := by decide +kernel
theorem dX4_escape_22 : decode cX4_escape 22 = .ok (.iconst 3, 1) := by decide +kernel
theorem dX4_escape_23 : decode cX4_escape 23 = .ok (.invokevirtual 48, 3) := by decide +kernel
theorem dX4_escape_26 : decode cX4_escape 26 = .ok (.iload_n 2, 1) := by decide +kernel
theorem dX4_escape_27 : decode cX4_escape 27 = .ok (.ifCond .eq 8, 3) := by decide +kernel
theorem dX4_escape_30 : decode cX4_escape 30 = .ok (.ldc 62, 2) := by decide +kernel
theorem dX4_escape_32 : decode cX4_escape 32 = .ok (.goto 5, 3) := by decide +kernel
theorem dX4_escape_35 : decode cX4_escape 35 = .ok (.ldc 64, 2) := by decide +kernel
theorem dX4_escape_37 : decode cX4_escape 37 = .ok (.astore_n 3, 1) := by decide +kernel
theorem dX4_escape_38 : decode cX4_escape 38 = .ok (.aload_n 0, 1) := by decide +kernel
theorem dX4_escape_39 : decode cX4_escape 39 = .ok (.getfield 10, 3) := by decide +kernel
theorem dX4_escape_42 : decode cX4_escape 42 = .ok (.bipush 37, 2) := by decide +kernel
theorem dX4_escape_44 : decode cX4_escape 44 = .ok (.invokevirtual 52, 3) := by decide +kernel
theorem dX4_escape_47 : decode cX4_escape 47 = .ok (.aload_n 0, 1) := by decide +kernel
theorem dX4_escape_48 : decode cX4_escape 48 = .ok (.getfield 10, 3) := by decide +kernel
theorem dX4_escape_51 : decode cX4_escape 51 = .ok (.aload_n 3, 1) := by decide +kernel
theorem dX4_escape_52 : decode cX4_escape 52 = .ok (.iload_n 1, 1) := by decide +kernel
theorem dX4_escape_53 : decode cX4_escape 53 = .ok (.iconst 4, 1) := by decide +kernel
theorem dX4_escape_54 : decode cX4_escape 54 = .ok (.ishr, 1) := by decide +kernel
theorem dX4_escape_55 : decode cX4_escape 55 = .ok (.bipush 15, 2) := by decide +kernel
theorem dX4_escape_57 : decode cX4_escape 57 = .ok (.iand, 1) := by decide +kernel
theorem dX4_escape_58 : decode cX4_escape 58 = .ok (.invokevirtual 66, 3) := by decide +kernel
theorem dX4_escape_61 : decode cX4_escape 61 = .ok (.invokevirtual 52, 3) := by decide +kernel
theorem dX4_escape_64 : decode cX4_escape 64 = .ok (.aload_n 0, 1) := by decide +kernel
theorem dX4_escape_65 : decode cX4_escape 65 = .ok (.getfield 10, 3) := by decide +kernel
theorem dX4_escape_68 : decode cX4_escape 68 = .ok (.aload_n 3, 1) := by decide +kernel
theorem dX4_escape_69 : decode cX4_escape 69 = .ok (.iload_n 1, 1) := by decide +kernel
theorem dX4_escape_70 : decode cX4_escape 70 = .ok (.bipush 15, 2) := by decide +kernel
theorem dX4_escape_72 : decode cX4_escape 72 = .ok (.iand, 1) := by decide +kernel
theorem dX4_escape_73 : decode cX4_escape 73 = .ok (.invokevirtual 66, 3) := by decide +kernel
theorem dX4_escape_76 : decode cX4_escape 76 = .ok (.invokevirtual 52, 3) := by decide +kernel
theorem dX4_escape_79 : decode cX4_escape 79 = .ok (.aload_n 0, 1) := by decide +kernel
theorem dX4_escape_80 : decode cX4_escape 80 = .ok (.getfield 10, 3) := by decide +kernel
theorem dX4_escape_83 : decode cX4_escape 83 = .ok (.invokevirtual 56, 3) := by decide +kernel
theorem dX4_escape_86 : decode cX4_escape 86 = .ok (.ireturn, 1) := by decide +kernel
theorem dX4_word_0 : decode cX4_word 0 = .ok (.iload_n 1, 1) := by decide +kernel
theorem dX4_word_1 : decode cX4_word 1 = .ok (.ifCond .lt 9, 3) := by decide +kernel
theorem dX4_word_4 : decode cX4_word 4 = .ok (.iload_n 1, 1) := by decide +kernel
theorem dX4_word_5 : decode cX4_word 5 = .ok (.bipush 32, 2) := by decide +kernel
theorem dX4_word_7 : decode cX4_word 7 = .ok (.if_icmp .lt 13, 3) := by decide +kernel
theorem dX4_word_10 : decode cX4_word 10 = .ok (.new 70, 3) := by decide +kernel
theorem dX4_word_13 : decode cX4_word 13 = .ok (.dup, 1) := by decide +kernel
theorem dX4_word_14 : decode cX4_word 14 = .ok (.ldc 72, 2) := by decide +kernel
theorem dX4_word_16 : decode cX4_word 16 = .ok (.invokespecial 74, 3) := by decide +kernel
theorem dX4_word_19 : decode cX4_word 19 = .ok (.athrow, 1) := by decide +kernel
theorem dX4_word_20 : decode cX4_word 20 = .ok (.iload_n 1, 1) := by decide +kernel
theorem dX4_word_21 : decode cX4_word 21 = .ok (.invokestatic 75, 3) := by decide +kernel
theorem dX4_word_24 : decode cX4_word 24 = .ok (.astore_n 2, 1) := by decide +kernel
theorem dX4_word_25 : decode cX4_word 25 = .ok (.aload_n 0, 1) := by decide +kernel
theorem dX4_word_26 : decode cX4_word 26 = .ok (.aload_n 2, 1) := by decide +kernel
theorem dX4_word_27 : decode cX4_word 27 = .ok (.invokevirtual 79, 3) := by decide +kernel
theorem dX4_word_30 : decode cX4_word 30 = .ok (.invokevirtual 48, 3) := by decide +kernel
theorem dX4_word_33 : decode cX4_word 33 = .ok (.aload_n 0, 1) := by decide +kernel
theorem dX4_word_34 : decode cX4_word 34 = .ok (.getfield 10, 3) := by decide +kernel
theorem dX4_word_37 : decode cX4_word 37 = .ok (.aload_n 2, 1) := by decide +kernel
theorem dX4_word_38 : decode cX4_word 38 = .ok (.invokevirtual 82, 3) := by decide +kernel
theorem dX4_word_41 : decode cX4_word 41 = .ok (.aload_n 0, 1) := by decide +kernel
theorem dX4_word_42 : decode cX4_word 42 = .ok (.getfield 10, 3) := by decide +kernel
theorem dX4_word_45 : decode cX4_word 45 = .ok (.invokevirtual 56, 3) := by decide +kernel
theorem dX4_word_48 : decode cX4_word 48 = .ok (.ireturn, 1) := by decide +kernel
theorem dX4_drop_0 : decode cX4_drop 0 = .ok (.aload_n 0, 1) := by decide +kernel
theorem dX4_drop_1 : decode cX4_drop 1 = .ok (.getfield 10, 3) := by decide +kernel
theorem dX4_drop_4 : decode cX4_drop 4 = .ok (.invokevirtual 56, 3) := by decide +kernel
theorem dX4_drop_7 : decode cX4_drop 7 = .ok (.istore_n 1, 1) := by decide +kernel
theorem dX4_drop_8 : decode cX4_drop 8 = .ok (.iload_n 1, 1) := by decide +kernel
theorem dX4_drop_9 : decode cX4_drop 9 = .ok (.ifCond .ne 13, 3) := by decide +kernel
theorem dX4_drop_12 : decode cX4_drop 12 = .ok (.new 85, 3) := by decide +kernel
theorem dX4_drop_15 : decode cX4_drop 15 = .ok (.dup, 1) := by decide +kernel
theorem dX4_drop_16 : decode cX4_drop 16 = .ok (.ldc 87, 2) := by decide +kernel
theorem dX4_drop_18 : decode cX4_drop 18 = .ok (.invokespecial 89, 3) := by decide +kernel
theorem dX4_drop_21 : decode cX4_drop 21 = .ok (.athrow, 1) := by decide +kernel
theorem dX4_drop_22 : decode cX4_drop 22 = .ok (.aload_n 0, 1) := by decide +kernel
theorem dX4_drop_23 : decode cX4_drop 23 = .ok (.getfield 10, 3) := by decide +kernel
theorem dX4_drop_26 : decode cX4_drop 26 = .ok (.iload_n 1, 1) := by decide +kernel
theorem dX4_drop_27 : decode cX4_drop 27 = .ok (.iconst 3, 1) := by decide +kernel
theorem dX4_drop_28 : decode cX4_drop 28 = .ok (.isub, 1) := by decide +kernel
theorem dX4_drop_29 : decode cX4_drop 29 = .ok (.invokevirtual 90, 3) := by decide +kernel
theorem dX4_drop_32 : decode cX4_drop 32 = .ok (.bipush 37, 2) := by decide +kernel
theorem dX4_drop_34 : decode cX4_drop 34 = .ok (.if_icmp .ne 7, 3) := by decide +kernel
theorem dX4_drop_37 : decode cX4_drop 37 = .ok (.iconst 1, 1) := by decide +kernel
theorem dX4_drop_38 : decode cX4_drop 38 = .ok (.goto 4, 3) := by decide +kernel
theorem dX4_drop_41 : decode cX4_drop 41 = .ok (.iconst 0, 1) := by decide +kernel
theorem dX4_drop_42 : decode cX4_drop 42 = .ok (.istore_n 2, 1) := by decide +kernel
theorem dX4_drop_43 : decode cX4_drop 43 = .ok (.aload_n 0, 1) := by decide +kernel
theorem dX4_drop_44 : decode cX4_drop 44 = .ok (.getfield 10, 3) := by decide +kernel
theorem dX4_drop_47 : decode cX4_drop 47 = .ok (.iload_n 2, 1) := by decide +kernel
theorem dX4_drop_48 : decode cX4_drop 48 = .ok (.ifCond .eq 9, 3) := by decide +kernel
theorem dX4_drop_51 : decode cX4_drop 51 = .ok (.iload_n 1, 1) := by decide +kernel
theorem dX4_drop_52 : decode cX4_drop 52 = .ok (.iconst 3, 1) := by decide +kernel
theorem dX4_drop_53 : decode cX4_drop 53 = .ok (.isub, 1) := by decide +kernel
theorem dX4_drop_54 : decode cX4_drop 54 = .ok (.goto 6, 3) := by decide +kernel
theorem dX4_drop_57 : decode cX4_drop 57 = .ok (.iload_n 1, 1) := by decide +kernel
theorem dX4_drop_58 : decode cX4_drop 58 = .ok (.iconst 1, 1) := by decide +kernel
theorem dX4_drop_59 : decode cX4_drop 59 = .ok (.isub, 1) := by decide +kernel
theorem dX4_drop_60 : decode cX4_drop 60 = .ok (.invokevirtual 93, 3) := by decide +kernel
theorem dX4_drop_63 : decode cX4_drop 63 = .ok (.aload_n 0, 1) := by decide +kernel
theorem dX4_drop_64 : decode cX4_drop 64 = .ok (.getfield 10, 3) := by decide +kernel
theorem dX4_drop_67 : decode cX4_drop 67 = .ok (.invokevirtual 56, 3) := by decide +kernel
theorem dX4_drop_70 : decode cX4_drop 70 = .ok (.ireturn, 1) := by decide +kernel
theorem dX4_wipe_0 : decode cX4_wipe 0 = .ok (.aload_n 0, 1) := by decide +kernel
theorem dX4_wipe_1 : decode cX4_wipe 1 = .ok (.getfield 10, 3) := by decide +kernel
theorem dX4_wipe_4 : decode cX4_wipe 4 = .ok (.invokevirtual 56, 3) := by decide +kernel
theorem dX4_wipe_7 : decode cX4_wipe 7 = .ok (.istore_n 1, 1) := by decide +kernel
theorem dX4_wipe_8 : decode cX4_wipe 8 = .ok (.aload_n 0, 1) := by decide +kernel
theorem dX4_wipe_9 : decode cX4_wipe 9 = .ok (.getfield 10, 3) := by decide +kernel
theorem dX4_wipe_12 : decode cX4_wipe 12 = .ok (.iconst 0, 1) := by decide +kernel
theorem dX4_wipe_13 : decode cX4_wipe 13 = .ok (.invokevirtual 93, 3) := by decide +kernel
theorem dX4_wipe_16 : decode cX4_wipe 16 = .ok (.iload_n 1, 1) := by decide +kernel
theorem dX4_wipe_17 : decode cX4_wipe 17 = .ok (.ireturn, 1) := by decide +kernel
theorem dX4_length_0 : decode cX4_length 0 = .ok (.aload_n 0, 1) := by decide +kernel
theorem dX4_length_1 : decode cX4_length 1 = .ok (.getfield 10, 3) := by decide +kernel
theorem dX4_length_4 : decode cX4_length 4 = .ok (.invokevirtual 56, 3) := by decide +kernel
theorem dX4_length_7 : decode cX4_length 7 = .ok (.ireturn, 1) := by decide +kernel
theorem dX4_signAt_0 : decode cX4_signAt 0 = .ok (.iload_n 1, 1) := by decide +kernel
theorem dX4_signAt_1 : decode cX4_signAt 1 = .ok (.ifCond .lt 14, 3) := by decide +kernel
theorem dX4_signAt_4 : decode cX4_signAt 4 = .ok (.iload_n 1, 1) := by decide +kernel
theorem dX4_signAt_5 : decode cX4_signAt 5 = .ok (.aload_n 0, 1) := by decide +kernel
theorem dX4_signAt_6 : decode cX4_signAt 6 = .ok (.getfield 10, 3) := by decide +kernel
theorem dX4_signAt_9 : decode cX4_signAt 9 = .ok (.invokevirtual 56, 3) := by decide +kernel
theorem dX4_signAt_12 : decode cX4_signAt 12 = .ok (.if_icmp .lt 13, 3) := by decide +kernel
theorem dX4_signAt_15 : decode cX4_signAt 15 = .ok (.new 70, 3) := by decide +kernel
theorem dX4_signAt_18 : decode cX4_signAt 18 = .ok (.dup, 1) := by decide +kernel
theorem dX4_signAt_19 : decode cX4_signAt 19 = .ok (.ldc 96, 2) := by decide +kernel
theorem dX4_signAt_21 : decode cX4_signAt 21 = .ok (.invokespecial 74, 3) := by decide +kernel
theorem dX4_signAt_24 : decode cX4_signAt 24 = .ok (.athrow, 1) := by decide +kernel
theorem dX4_signAt_25 : decode cX4_signAt 25 = .ok (.aload_n 0, 1) := by decide +kernel
theorem dX4_signAt_26 : decode cX4_signAt 26 = .ok (.getfield 10, 3) := by decide +kernel
theorem dX4_signAt_29 : decode cX4_signAt 29 = .ok (.iload_n 1, 1) := by decide +kernel
theorem dX4_signAt_30 : decode cX4_signAt 30 = .ok (.invokevirtual 90, 3) := by decide +kernel
theorem dX4_signAt_33 : decode cX4_signAt 33 = .ok (.ireturn, 1) := by decide +kernel
theorem dX4_parse_0 : decode cX4_parse 0 = .ok (.aload_n 0, 1) := by decide +kernel
theorem dX4_parse_1 : decode cX4_parse 1 = .ok (.iload_n 1, 1) := by decide +kernel
theorem dX4_parse_2 : decode cX4_parse 2 = .ok (.invokevirtual 98, 3) := by decide +kernel
theorem dX4_parse_5 : decode cX4_parse 5 = .ok (.astore_n 2, 1) := by decide +kernel
theorem dX4_parse_6 : decode cX4_parse 6 = .ok (.aload_n 0, 1) := by decide +kernel
theorem dX4_parse_7 : decode cX4_parse 7 = .ok (.getfield 10, 3) := by decide +kernel
theorem dX4_parse_10 : decode cX4_parse 10 = .ok (.invokestatic 102, 3) := by decide +kernel
theorem dX4_parse_13 : decode cX4_parse 13 = .ok (.ifCond .eq 13, 3) := by decide +kernel
theorem dX4_parse_16 : decode cX4_parse 16 = .ok (.new 108, 3) := by decide +kernel
theorem dX4_parse_19 : decode cX4_parse 19 = .ok (.dup, 1) := by decide +kernel
theorem dX4_parse_20 : decode cX4_parse 20 = .ok (.ldc 110, 2) := by decide +kernel
theorem dX4_parse_22 : decode cX4_parse 22 = .ok (.invokespecial 112, 3) := by decide +kernel
theorem dX4_parse_25 : decode cX4_parse 25 = .ok (.athrow, 1) := by decide +kernel
theorem dX4_parse_26 : decode cX4_parse 26 = .ok (.aload_n 0, 1) := by decide +kernel
theorem dX4_parse_27 : decode cX4_parse 27 = .ok (.getfield 22, 3) := by decide +kernel
theorem dX4_parse_30 : decode cX4_parse 30 = .ok (.aload_n 0, 1) := by decide +kernel
theorem dX4_parse_31 : decode cX4_parse 31 = .ok (.getfield 10, 3) := by decide +kernel
theorem dX4_parse_34 : decode cX4_parse 34 = .ok (.invokevirtual 113, 3) := by decide +kernel
theorem dX4_parse_37 : decode cX4_parse 37 = .ok (.istore_n 3, 1) := by decide +kernel
theorem dX4_parse_38 : decode cX4_parse 38 = .ok (.iload_n 3, 1) := by decide +kernel
theorem dX4_parse_39 : decode cX4_parse 39 = .ok (.iconst (-1), 1) := by decide +kernel
theorem dX4_parse_40 : decode cX4_parse 40 = .ok (.if_icmp .ne 17, 3) := by decide +kernel
theorem dX4_parse_43 : decode cX4_parse 43 = .ok (.aload_n 2, 1) := by decide +kernel
theorem dX4_parse_44 : decode cX4_parse 44 = .ok (.aload_n 0, 1) := by decide +kernel
theorem dX4_parse_45 : decode cX4_parse 45 = .ok (.getfield 22, 3) := by decide +kernel
theorem dX4_parse_48 : decode cX4_parse 48 = .ok (.invokevirtual 117, 3) := by decide +kernel
theorem dX4_parse_51 : decode cX4_parse 51 = .ok (.invokevirtual 121, 3) := by decide +kernel
theorem dX4_parse_54 : decode cX4_parse 54 = .ok (.goto 18, 3) := by decide +kernel
theorem dX4_parse_57 : decode cX4_parse 57 = .ok (.aload_n 0, 1) := by decide +kernel
theorem dX4_parse_58 : decode cX4_parse 58 = .ok (.dup, 1) := by decide +kernel
theorem dX4_parse_59 : decode cX4_parse 59 = .ok (.getfield 125, 3) := by decide +kernel
theorem dX4_parse_62 : decode cX4_parse 62 = .ok (.iconst 1, 1) := by decide +kernel
theorem dX4_parse_63 : decode cX4_parse 63 = .ok (.iadd, 1) := by decide +kernel
theorem dX4_parse_64 : decode cX4_parse 64 = .ok (.putfield 125, 3) := by decide +kernel
theorem dX4_parse_67 : decode cX4_parse 67 = .ok (.aload_n 0, 1) := by decide +kernel
theorem dX4_parse_68 : decode cX4_parse 68 = .ok (.iload_n 3, 1) := by decide +kernel
theorem dX4_parse_69 : decode cX4_parse 69 = .ok (.putfield 129, 3) := by decide +kernel
theorem dX4_parse_72 : decode cX4_parse 72 = .ok (.iload_n 3, 1) := by decide +kernel
theorem dX4_parse_73 : decode cX4_parse 73 = .ok (.ireturn, 1) := by decide +kernel
theorem dX4_refusals_0 : decode cX4_refusals 0 = .ok (.aload_n 0, 1) := by decide +kernel
theorem dX4_refusals_1 : decode cX4_refusals 1 = .ok (.getfield 125, 3) := by decide +kernel
theorem dX4_refusals_4 : decode cX4_refusals 4 = .ok (.ireturn, 1) := by decide +kernel
theorem dX4_refusedAt_0 : decode cX4_refusedAt 0 = .ok (.aload_n 0, 1) := by decide +kernel
theorem dX4_refusedAt_1 : decode cX4_refusedAt 1 = .ok (.invokevirtual 132, 3) := by decide +kernel
theorem dX4_refusedAt_4 : decode cX4_refusedAt 4 = .ok (.aload_n 0, 1) := by decide +kernel
theorem dX4_refusedAt_5 : decode cX4_refusedAt 5 = .ok (.getfield 129, 3) := by decide +kernel
theorem dX4_refusedAt_8 : decode cX4_refusedAt 8 = .ok (.ireturn, 1) := by decide +kernel
theorem dX4_isTold_0 : decode cX4_isTold 0 = .ok (.aload_n 0, 1) := by decide +kernel
theorem dX4_isTold_1 : decode cX4_isTold 1 = .ok (.invokevirtual 132, 3) := by decide +kernel
theorem dX4_isTold_4 : decode cX4_isTold 4 = .ok (.iconst 1, 1) := by decide +kernel
theorem dX4_isTold_5 : decode cX4_isTold 5 = .ok (.ireturn, 1) := by decide +kernel
theorem dX4_isThere_0 : decode cX4_isThere 0 = .ok (.aload_n 0, 1) := by decide +kernel
theorem dX4_isThere_1 : decode cX4_isThere 1 = .ok (.iload_n 1, 1) := by decide +kernel
theorem dX4_isThere_2 : decode cX4_isThere 2 = .ok (.invokevirtual 98, 3) := by decide +kernel
theorem dX4_isThere_5 : decode cX4_isThere 5 = .ok (.invokevirtual 135, 3) := by decide +kernel
theorem dX4_isThere_8 : decode cX4_isThere 8 = .ok (.ireturn, 1) := by decide +kernel
theorem dX4_isAbsolute_0 : decode cX4_isAbsolute 0 = .ok (.aload_n 0, 1) := by decide +kernel
theorem dX4_isAbsolute_1 : decode cX4_isAbsolute 1 = .ok (.iload_n 1, 1) := by decide +kernel
theorem dX4_isAbsolute_2 : decode cX4_isAbsolute 2 = .ok (.invokevirtual 139, 3) := by decide +kernel
theorem dX4_isAbsolute_5 : decode cX4_isAbsolute 5 = .ok (.iconst 0, 1) := by decide +kernel
theorem dX4_isAbsolute_6 : decode cX4_isAbsolute 6 = .ok (.invokevirtual 142, 3) := by decide +kernel
theorem dX4_isAbsolute_9 : decode cX4_isAbsolute 9 = .ok (.ireturn, 1) := by decide +kernel
theorem dX4_isOpaque_0 : decode cX4_isOpaque 0 = .ok (.aload_n 0, 1) := by decide +kernel
theorem dX4_isOpaque_1 : decode cX4_isOpaque 1 = .ok (.iload_n 1, 1) := by decide +kernel
theorem dX4_isOpaque_2 : decode cX4_isOpaque 2 = .ok (.invokevirtual 139, 3) := by decide +kernel
theorem dX4_isOpaque_5 : decode cX4_isOpaque 5 = .ok (.iconst 5, 1) := by decide +kernel
theorem dX4_isOpaque_6 : decode cX4_isOpaque 6 = .ok (.invokevirtual 142, 3) := by decide +kernel
theorem dX4_isOpaque_9 : decode cX4_isOpaque 9 = .ok (.ifCond .ne 7, 3) := by decide +kernel
theorem dX4_isOpaque_12 : decode cX4_isOpaque 12 = .ok (.iconst 1, 1) := by decide +kernel
theorem dX4_isOpaque_13 : decode cX4_isOpaque 13 = .ok (.goto 4, 3) := by decide +kernel
theorem dX4_isOpaque_16 : decode cX4_isOpaque 16 = .ok (.iconst 0, 1) := by decide +kernel
theorem dX4_isOpaque_17 : decode cX4_isOpaque 17 = .ok (.ireturn, 1) := by decide +kernel
theorem dX4_port_0 : decode cX4_port 0 = .ok (.aload_n 0, 1) := by decide +kernel
theorem dX4_port_1 : decode cX4_port 1 = .ok (.iload_n 1, 1) := by decide +kernel
theorem dX4_port_2 : decode cX4_port 2 = .ok (.invokevirtual 139, 3) := by decide +kernel
theorem dX4_port_5 : decode cX4_port 5 = .ok (.invokevirtual 146, 3) := by decide +kernel
theorem dX4_port_8 : decode cX4_port 8 = .ok (.ireturn, 1) := by decide +kernel
theorem dX4_size_0 : decode cX4_size 0 = .ok (.aload_n 0, 1) := by decide +kernel
theorem dX4_size_1 : decode cX4_size 1 = .ok (.iload_n 1, 1) := by decide +kernel
theorem dX4_size_2 : decode cX4_size 2 = .ok (.invokevirtual 98, 3) := by decide +kernel
theorem dX4_size_5 : decode cX4_size 5 = .ok (.astore_n 3, 1) := by decide +kernel
theorem dX4_size_6 : decode cX4_size 6 = .ok (.iload_n 2, 1) := by decide +kernel
theorem dX4_size_7 : decode cX4_size 7 = .ok (.invokestatic 149, 3) := by decide +kernel
theorem dX4_size_10 : decode cX4_size 10 = .ok (.istore 4, 2) := by decide +kernel
theorem dX4_size_12 : decode cX4_size 12 = .ok (.aload_n 3, 1) := by decide +kernel
theorem dX4_size_13 : decode cX4_size 13 = .ok (.invokestatic 153, 3) := by decide +kernel
theorem dX4_size_16 : decode cX4_size 16 = .ok (.aload_n 3, 1) := by decide +kernel
theorem dX4_size_17 : decode cX4_size 17 = .ok (.iload 4, 2) := by decide +kernel
theorem dX4_size_19 : decode cX4_size 19 = .ok (.invokevirtual 156, 3) := by decide +kernel
theorem dX4_size_22 : decode cX4_size 22 = .ok (.ireturn, 1) := by decide +kernel
theorem dX4_partSign_0 : decode cX4_partSign 0 = .ok (.aload_n 0, 1) := by decide +kernel
theorem dX4_partSign_1 : decode cX4_partSign 1 = .ok (.iload_n 1, 1) := by decide +kernel
theorem dX4_partSign_2 : decode cX4_partSign 2 = .ok (.invokevirtual 98, 3) := by decide +kernel
theorem dX4_partSign_5 : decode cX4_partSign 5 = .ok (.astore 4, 2) := by decide +kernel
theorem dX4_partSign_7 : decode cX4_partSign 7 = .ok (.iload_n 2, 1) := by decide +kernel
theorem dX4_partSign_8 : decode cX4_partSign 8 = .ok (.invokestatic 149, 3) := by decide +kernel
theorem dX4_partSign_11 : decode cX4_partSign 11 = .ok (.istore 5, 2) := by decide +kernel
theorem dX4_partSign_13 : decode cX4_partSign 13 = .ok (.aload 4, 2) := by decide +kernel
theorem dX4_partSign_15 : decode cX4_partSign 15 = .ok (.invokestatic 153, 3) := by decide +kernel
theorem dX4_partSign_18 : decode cX4_partSign 18 = .ok (.iload_n 3, 1) := by decide +kernel
theorem dX4_partSign_19 : decode cX4_partSign 19 = .ok (.ifCond .lt 14, 3) := by decide +kernel
theorem dX4_partSign_22 : decode cX4_partSign 22 = .ok (.iload_n 3, 1) := by decide +kernel
theorem dX4_partSign_23 : decode cX4_partSign 23 = .ok (.aload 4, 2) := by decide +kernel
theorem dX4_partSign_25 : decode cX4_partSign 25 = .ok (.iload 5, 2) := by decide +kernel
theorem dX4_partSign_27 : decode cX4_partSign 27 = .ok (.invokevirtual 156, 3) := by decide +kernel
theorem dX4_partSign_30 : decode cX4_partSign 30 = .ok (.if_icmp .lt 13, 3) := by decide +kernel
theorem dX4_partSign_33 : decode cX4_partSign 33 = .ok (.new 85, 3) := by decide +kernel
theorem dX4_partSign_36 : decode cX4_partSign 36 = .ok (.dup, 1) := by decide +kernel
theorem dX4_partSign_37 : decode cX4_partSign 37 = .ok (.ldc 159, 2) := by decide +kernel
theorem dX4_partSign_39 : decode cX4_partSign 39 = .ok (.invokespecial 89, 3) := by decide +kernel
theorem dX4_partSign_42 : decode cX4_partSign 42 = .ok (.athrow, 1) := by decide +kernel
theorem dX4_partSign_43 : decode cX4_partSign 43 = .ok (.aload 4, 2) := by decide +kernel
theorem dX4_partSign_45 : decode cX4_partSign 45 = .ok (.iload 5, 2) := by decide +kernel
theorem dX4_partSign_47 : decode cX4_partSign 47 = .ok (.iload_n 3, 1) := by decide +kernel
theorem dX4_partSign_48 : decode cX4_partSign 48 = .ok (.invokevirtual 161, 3) := by decide +kernel
theorem dX4_partSign_51 : decode cX4_partSign 51 = .ok (.ireturn, 1) := by decide +kernel
theorem dX4_begin_0 : decode cX4_begin 0 = .ok (.aload_n 0, 1) := by decide +kernel
theorem dX4_begin_1 : decode cX4_begin 1 = .ok (.iload_n 1, 1) := by decide +kernel
theorem dX4_begin_2 : decode cX4_begin 2 = .ok (.invokevirtual 98, 3) := by decide +kernel
theorem dX4_begin_5 : decode cX4_begin 5 = .ok (.astore_n 3, 1) := by decide +kernel
theorem dX4_begin_6 : decode cX4_begin 6 = .ok (.iload_n 2, 1) := by decide +kernel
theorem dX4_begin_7 : decode cX4_begin 7 = .ok (.invokestatic 149, 3) := by decide +kernel
theorem dX4_begin_10 : decode cX4_begin 10 = .ok (.istore 4, 2) := by decide +kernel
theorem dX4_begin_12 : decode cX4_begin 12 = .ok (.aload_n 3, 1) := by decide +kernel
theorem dX4_begin_13 : decode cX4_begin 13 = .ok (.invokestatic 153, 3) := by decide +kernel
theorem dX4_begin_16 : decode cX4_begin 16 = .ok (.aload_n 3, 1) := by decide +kernel
theorem dX4_begin_17 : decode cX4_begin 17 = .ok (.iload 4, 2) := by decide +kernel
theorem dX4_begin_19 : decode cX4_begin 19 = .ok (.invokevirtual 165, 3) := by decide +kernel
theorem dX4_begin_22 : decode cX4_begin 22 = .ok (.ireturn, 1) := by decide +kernel
theorem dX4_append_0 : decode cX4_append 0 = .ok (.aload_n 0, 1) := by decide +kernel
theorem dX4_append_1 : decode cX4_append 1 = .ok (.iload_n 1, 1) := by decide +kernel
theorem dX4_append_2 : decode cX4_append 2 = .ok (.invokevirtual 98, 3) := by decide +kernel
theorem dX4_append_5 : decode cX4_append 5 = .ok (.astore_n 3, 1) := by decide +kernel
theorem dX4_append_6 : decode cX4_append 6 = .ok (.iload_n 2, 1) := by decide +kernel
theorem dX4_append_7 : decode cX4_append 7 = .ok (.invokestatic 149, 3) := by decide +kernel
theorem dX4_append_10 : decode cX4_append 10 = .ok (.istore 4, 2) := by decide +kernel
theorem dX4_append_12 : decode cX4_append 12 = .ok (.aload_n 3, 1) := by decide +kernel
theorem dX4_append_13 : decode cX4_append 13 = .ok (.invokestatic 153, 3) := by decide +kernel
theorem dX4_append_16 : decode cX4_append 16 = .ok (.aload_n 3, 1) := by decide +kernel
theorem dX4_append_17 : decode cX4_append 17 = .ok (.iload 4, 2) := by decide +kernel
theorem dX4_append_19 : decode cX4_append 19 = .ok (.invokevirtual 142, 3) := by decide +kernel
theorem dX4_append_22 : decode cX4_append 22 = .ok (.ifCond .ne 13, 3) := by decide +kernel
theorem dX4_append_25 : decode cX4_append 25 = .ok (.new 85, 3) := by decide +kernel
theorem dX4_append_28 : decode cX4_append 28 = .ok (.dup, 1) := by decide +kernel
theorem dX4_append_29 : decode cX4_append 29 = .ok (.ldc 168, 2) := by decide +kernel
theorem dX4_append_31 : decode cX4_append 31 = .ok (.invokespecial 89, 3) := by decide +kernel
theorem dX4_append_34 : decode cX4_append 34 = .ok (.athrow, 1) := by decide +kernel
theorem dX4_append_35 : decode cX4_append 35 = .ok (.aload_n 0, 1) := by decide +kernel
theorem dX4_append_36 : decode cX4_append 36 = .ok (.aload_n 3, 1) := by decide +kernel
theorem dX4_append_37 : decode cX4_append 37 = .ok (.iload 4, 2) := by decide +kernel
theorem dX4_append_39 : decode cX4_append 39 = .ok (.invokevirtual 156, 3) := by decide +kernel
theorem dX4_append_42 : decode cX4_append 42 = .ok (.invokevirtual 48, 3) := by decide +kernel
theorem dX4_append_45 : decode cX4_append 45 = .ok (.aload_n 3, 1) := by decide +kernel
theorem dX4_append_46 : decode cX4_append 46 = .ok (.iload 4, 2) := by decide +kernel
theorem dX4_append_48 : decode cX4_append 48 = .ok (.aload_n 0, 1) := by decide +kernel
theorem dX4_append_49 : decode cX4_append 49 = .ok (.getfield 10, 3) := by decide +kernel
theorem dX4_append_52 : decode cX4_append 52 = .ok (.invokevirtual 170, 3) := by decide +kernel
theorem dX4_append_55 : decode cX4_append 55 = .ok (.aload_n 0, 1) := by decide +kernel
theorem dX4_append_56 : decode cX4_append 56 = .ok (.getfield 10, 3) := by decide +kernel
theorem dX4_append_59 : decode cX4_append 59 = .ok (.invokevirtual 56, 3) := by decide +kernel
theorem dX4_append_62 : decode cX4_append 62 = .ok (.ireturn, 1) := by decide +kernel
theorem dX4_copy_0 : decode cX4_copy 0 = .ok (.aload_n 0, 1) := by decide +kernel
theorem dX4_copy_1 : decode cX4_copy 1 = .ok (.iload_n 1, 1) := by decide +kernel
theorem dX4_copy_2 : decode cX4_copy 2 = .ok (.invokevirtual 98, 3) := by decide +kernel
theorem dX4_copy_5 : decode cX4_copy 5 = .ok (.astore_n 3, 1) := by decide +kernel
theorem dX4_copy_6 : decode cX4_copy 6 = .ok (.aload_n 0, 1) := by decide +kernel
theorem dX4_copy_7 : decode cX4_copy 7 = .ok (.iload_n 2, 1) := by decide +kernel
theorem dX4_copy_8 : decode cX4_copy 8 = .ok (.invokevirtual 98, 3) := by decide +kernel
theorem dX4_copy_11 : decode cX4_copy 11 = .ok (.aload_n 3, 1) := by decide +kernel
theorem dX4_copy_12 : decode cX4_copy 12 = .ok (.invokevirtual 121, 3) := by decide +kernel
theorem dX4_copy_15 : decode cX4_copy 15 = .ok (.iconst 0, 1) := by decide +kernel
theorem dX4_copy_16 : decode cX4_copy 16 = .ok (.istore 4, 2) := by decide +kernel
theorem dX4_copy_18 : decode cX4_copy 18 = .ok (.aload_n 0, 1) := by decide +kernel
theorem dX4_copy_19 : decode cX4_copy 19 = .ok (.getfield 28, 3) := by decide +kernel
theorem dX4_copy_22 : decode cX4_copy 22 = .ok (.astore 5, 2) := by decide +kernel
theorem dX4_copy_24 : decode cX4_copy 24 = .ok (.aload 5, 2) := by decide +kernel
theorem dX4_copy_26 : decode cX4_copy 26 = .ok (.arraylength, 1) := by decide +kernel
theorem dX4_copy_27 : decode cX4_copy 27 = .ok (.istore 6, 2) := by decide +kernel
theorem dX4_copy_29 : decode cX4_copy 29 = .ok (.iconst 0, 1) := by decide +kernel
theorem dX4_copy_30 : decode cX4_copy 30 = .ok (.istore 7, 2) := by decide +kernel
theorem dX4_copy_32 : decode cX4_copy 32 = .ok (.iload 7, 2) := by decide +kernel
theorem dX4_copy_34 : decode cX4_copy 34 = .ok (.iload 6, 2) := by decide +kernel
theorem dX4_copy_36 : decode cX4_copy 36 = .ok (.if_icmp .ge 27, 3) := by decide +kernel
theorem dX4_copy_39 : decode cX4_copy 39 = .ok (.aload 5, 2) := by decide +kernel
theorem dX4_copy_41 : decode cX4_copy 41 = .ok (.iload 7, 2) := by decide +kernel
theorem dX4_copy_43 : decode cX4_copy 43 = .ok (.aaload, 1) := by decide +kernel
theorem dX4_copy_44 : decode cX4_copy 44 = .ok (.astore 8, 2) := by decide +kernel
theorem dX4_copy_46 : decode cX4_copy 46 = .ok (.aload 8, 2) := by decide +kernel
theorem dX4_copy_48 : decode cX4_copy 48 = .ok (.invokevirtual 135, 3) := by decide +kernel
theorem dX4_copy_51 : decode cX4_copy 51 = .ok (.ifCond .eq 6, 3) := by decide +kernel
theorem dX4_copy_54 : decode cX4_copy 54 = .ok (.iinc 4 1, 3) := by decide +kernel
theorem dX4_copy_57 : decode cX4_copy 57 = .ok (.iinc 7 1, 3) := by decide +kernel
theorem dX4_copy_60 : decode cX4_copy 60 = .ok (.goto (-28), 3) := by decide +kernel
theorem dX4_copy_63 : decode cX4_copy 63 = .ok (.iload 4, 2) := by decide +kernel
theorem dX4_copy_65 : decode cX4_copy 65 = .ok (.ireturn, 1) := by decide +kernel
theorem dX4_alike_0 : decode cX4_alike 0 = .ok (.aload_n 0, 1) := by decide +kernel
theorem dX4_alike_1 : decode cX4_alike 1 = .ok (.iload_n 1, 1) := by decide +kernel
theorem dX4_alike_2 : decode cX4_alike 2 = .ok (.invokevirtual 98, 3) := by decide +kernel
theorem dX4_alike_5 : decode cX4_alike 5 = .ok (.astore_n 3, 1) := by decide +kernel
theorem dX4_alike_6 : decode cX4_alike 6 = .ok (.aload_n 0, 1) := by decide +kernel
theorem dX4_alike_7 : decode cX4_alike 7 = .ok (.iload_n 2, 1) := by decide +kernel
theorem dX4_alike_8 : decode cX4_alike 8 = .ok (.invokevirtual 98, 3) := by decide +kernel
theorem dX4_alike_11 : decode cX4_alike 11 = .ok (.astore 4, 2) := by decide +kernel
theorem dX4_alike_13 : decode cX4_alike 13 = .ok (.aload_n 3, 1) := by decide +kernel
theorem dX4_alike_14 : decode cX4_alike 14 = .ok (.invokestatic 153, 3) := by decide +kernel
theorem dX4_alike_17 : decode cX4_alike 17 = .ok (.aload 4, 2) := by decide +kernel
theorem dX4_alike_19 : decode cX4_alike 19 = .ok (.invokestatic 153, 3) := by decide +kernel
theorem dX4_alike_22 : decode cX4_alike 22 = .ok (.aload_n 3, 1) := by decide +kernel
theorem dX4_alike_23 : decode cX4_alike 23 = .ok (.aload 4, 2) := by decide +kernel
theorem dX4_alike_25 : decode cX4_alike 25 = .ok (.invokevirtual 174, 3) := by decide +kernel
theorem dX4_alike_28 : decode cX4_alike 28 = .ok (.ireturn, 1) := by decide +kernel
theorem dX4_together_0 : decode cX4_together 0 = .ok (.aload_n 0, 1) := by decide +kernel
theorem dX4_together_1 : decode cX4_together 1 = .ok (.iload_n 1, 1) := by decide +kernel
theorem dX4_together_2 : decode cX4_together 2 = .ok (.invokevirtual 139, 3) := by decide +kernel
theorem dX4_together_5 : decode cX4_together 5 = .ok (.astore_n 2, 1) := by decide +kernel
theorem dX4_together_6 : decode cX4_together 6 = .ok (.aload_n 0, 1) := by decide +kernel
theorem dX4_together_7 : decode cX4_together 7 = .ok (.aload_n 2, 1) := by decide +kernel
theorem dX4_together_8 : decode cX4_together 8 = .ok (.aload_n 2, 1) := by decide +kernel
theorem dX4_together_9 : decode cX4_together 9 = .ok (.iconst (-1), 1) := by decide +kernel
theorem dX4_together_10 : decode cX4_together 10 = .ok (.invokevirtual 178, 3) := by decide +kernel
theorem dX4_together_13 : decode cX4_together 13 = .ok (.aload_n 0, 1) := by decide +kernel
theorem dX4_together_14 : decode cX4_together 14 = .ok (.getfield 10, 3) := by decide +kernel
theorem dX4_together_17 : decode cX4_together 17 = .ok (.aload_n 0, 1) := by decide +kernel
theorem dX4_together_18 : decode cX4_together 18 = .ok (.getfield 16, 3) := by decide +kernel
theorem dX4_together_21 : decode cX4_together 21 = .ok (.invokevirtual 182, 3) := by decide +kernel
theorem dX4_together_24 : decode cX4_together 24 = .ok (.aload_n 2, 1) := by decide +kernel
theorem dX4_together_25 : decode cX4_together 25 = .ok (.aload_n 0, 1) := by decide +kernel
theorem dX4_together_26 : decode cX4_together 26 = .ok (.getfield 10, 3) := by decide +kernel
theorem dX4_together_29 : decode cX4_together 29 = .ok (.invokevirtual 185, 3) := by decide +kernel
theorem dX4_together_32 : decode cX4_together 32 = .ok (.ireturn, 1) := by decide +kernel
theorem dX4_mix_0 : decode cX4_mix 0 = .ok (.aload_n 0, 1) := by decide +kernel
theorem dX4_mix_1 : decode cX4_mix 1 = .ok (.iload_n 1, 1) := by decide +kernel
theorem dX4_mix_2 : decode cX4_mix 2 = .ok (.invokevirtual 98, 3) := by decide +kernel
theorem dX4_mix_5 : decode cX4_mix 5 = .ok (.astore 4, 2) := by decide +kernel
theorem dX4_mix_7 : decode cX4_mix 7 = .ok (.aload_n 0, 1) := by decide +kernel
theorem dX4_mix_8 : decode cX4_mix 8 = .ok (.iload_n 2, 1) := by decide +kernel
theorem dX4_mix_9 : decode cX4_mix 9 = .ok (.invokevirtual 98, 3) := by decide +kernel
theorem dX4_mix_12 : decode cX4_mix 12 = .ok (.astore 5, 2) := by decide +kernel
theorem dX4_mix_14 : decode cX4_mix 14 = .ok (.aload 4, 2) := by decide +kernel
theorem dX4_mix_16 : decode cX4_mix 16 = .ok (.invokestatic 153, 3) := by decide +kernel
theorem dX4_mix_19 : decode cX4_mix 19 = .ok (.aload 5, 2) := by decide +kernel
theorem dX4_mix_21 : decode cX4_mix 21 = .ok (.invokestatic 153, 3) := by decide +kernel
theorem dX4_mix_24 : decode cX4_mix 24 = .ok (.ldc 188, 2) := by decide +kernel
theorem dX4_mix_26 : decode cX4_mix 26 = .ok (.iload_n 3, 1) := by decide +kernel
theorem dX4_mix_27 : decode cX4_mix 27 = .ok (.invokevirtual 35, 3) := by decide +kernel
theorem dX4_mix_30 : decode cX4_mix 30 = .ok (.ifCond .ge 13, 3) := by decide +kernel
theorem dX4_mix_33 : decode cX4_mix 33 = .ok (.new 41, 3) := by decide +kernel
theorem dX4_mix_36 : decode cX4_mix 36 = .ok (.dup, 1) := by decide +kernel
theorem dX4_mix_37 : decode cX4_mix 37 = .ok (.ldc 190, 2) := by decide +kernel
theorem dX4_mix_39 : decode cX4_mix 39 = .ok (.invokespecial 45, 3) := by decide +kernel
theorem dX4_mix_42 : decode cX4_mix 42 = .ok (.athrow, 1) := by decide +kernel
theorem dX4_mix_43 : decode cX4_mix 43 = .ok (.aload 4, 2) := by decide +kernel
theorem dX4_mix_45 : decode cX4_mix 45 = .ok (.iconst 5, 1) := by decide +kernel
theorem dX4_mix_46 : decode cX4_mix 46 = .ok (.invokevirtual 142, 3) := by decide +kernel
theorem dX4_mix_49 : decode cX4_mix 49 = .ok (.ifCond .eq 12, 3) := by decide +kernel
theorem dX4_mix_52 : decode cX4_mix 52 = .ok (.aload 5, 2) := by decide +kernel
theorem dX4_mix_54 : decode cX4_mix 54 = .ok (.iconst 5, 1) := by decide +kernel
theorem dX4_mix_55 : decode cX4_mix 55 = .ok (.invokevirtual 142, 3) := by decide +kernel
theorem dX4_mix_58 : decode cX4_mix 58 = .ok (.ifCond .ne 13, 3) := by decide +kernel
theorem dX4_mix_61 : decode cX4_mix 61 = .ok (.new 192, 3) := by decide +kernel
theorem dX4_mix_64 : decode cX4_mix 64 = .ok (.dup, 1) := by decide +kernel
theorem dX4_mix_65 : decode cX4_mix 65 = .ok (.ldc 194, 2) := by decide +kernel
theorem dX4_mix_67 : decode cX4_mix 67 = .ok (.invokespecial 196, 3) := by decide +kernel
theorem dX4_mix_70 : decode cX4_mix 70 = .ok (.athrow, 1) := by decide +kernel
theorem dX4_mix_71 : decode cX4_mix 71 = .ok (.aload_n 0, 1) := by decide +kernel
theorem dX4_mix_72 : decode cX4_mix 72 = .ok (.aload 4, 2) := by decide +kernel
theorem dX4_mix_74 : decode cX4_mix 74 = .ok (.aload 5, 2) := by decide +kernel
theorem dX4_mix_76 : decode cX4_mix 76 = .ok (.ldc 197, 2) := by decide +kernel
theorem dX4_mix_78 : decode cX4_mix 78 = .ok (.iload_n 3, 1) := by decide +kernel
theorem dX4_mix_79 : decode cX4_mix 79 = .ok (.invokevirtual 35, 3) := by decide +kernel
theorem dX4_mix_82 : decode cX4_mix 82 = .ok (.invokevirtual 178, 3) := by decide +kernel
theorem dX4_mix_85 : decode cX4_mix 85 = .ok (.aload_n 0, 1) := by decide +kernel
theorem dX4_mix_86 : decode cX4_mix 86 = .ok (.getfield 16, 3) := by decide +kernel
theorem dX4_mix_89 : decode cX4_mix 89 = .ok (.invokevirtual 56, 3) := by decide +kernel
theorem dX4_mix_92 : decode cX4_mix 92 = .ok (.bipush 60, 2) := by decide +kernel
theorem dX4_mix_94 : decode cX4_mix 94 = .ok (.if_icmp .le 13, 3) := by decide +kernel
theorem dX4_mix_97 : decode cX4_mix 97 = .ok (.new 108, 3) := by decide +kernel
theorem dX4_mix_100 : decode cX4_mix 100 = .ok (.dup, 1) := by decide +kernel
theorem dX4_mix_101 : decode cX4_mix 101 = .ok (.ldc 199, 2) := by decide +kernel
theorem dX4_mix_103 : decode cX4_mix 103 = .ok (.invokespecial 112, 3) := by decide +kernel
theorem dX4_mix_106 : decode cX4_mix 106 = .ok (.athrow, 1) := by decide +kernel
theorem dX4_mix_107 : decode cX4_mix 107 = .ok (.aload_n 0, 1) := by decide +kernel
theorem dX4_mix_108 : decode cX4_mix 108 = .ok (.getfield 10, 3) := by decide +kernel
theorem dX4_mix_111 : decode cX4_mix 111 = .ok (.aload_n 0, 1) := by decide +kernel
theorem dX4_mix_112 : decode cX4_mix 112 = .ok (.getfield 16, 3) := by decide +kernel
theorem dX4_mix_115 : decode cX4_mix 115 = .ok (.invokevirtual 182, 3) := by decide +kernel
theorem dX4_mix_118 : decode cX4_mix 118 = .ok (.aload_n 0, 1) := by decide +kernel
theorem dX4_mix_119 : decode cX4_mix 119 = .ok (.getfield 10, 3) := by decide +kernel
theorem dX4_mix_122 : decode cX4_mix 122 = .ok (.invokevirtual 56, 3) := by decide +kernel
theorem dX4_mix_125 : decode cX4_mix 125 = .ok (.ireturn, 1) := by decide +kernel
theorem dX4_isTrue_0 : decode cX4_isTrue 0 = .ok (.aload_n 0, 1) := by decide +kernel
theorem dX4_isTrue_1 : decode cX4_isTrue 1 = .ok (.getfield 28, 3) := by decide +kernel
theorem dX4_isTrue_4 : decode cX4_isTrue 4 = .ok (.astore_n 1, 1) := by decide +kernel
theorem dX4_isTrue_5 : decode cX4_isTrue 5 = .ok (.aload_n 1, 1) := by decide +kernel
theorem dX4_isTrue_6 : decode cX4_isTrue 6 = .ok (.arraylength, 1) := by decide +kernel
theorem dX4_isTrue_7 : decode cX4_isTrue 7 = .ok (.istore_n 2, 1) := by decide +kernel
theorem dX4_isTrue_8 : decode cX4_isTrue 8 = .ok (.iconst 0, 1) := by decide +kernel
theorem dX4_isTrue_9 : decode cX4_isTrue 9 = .ok (.istore_n 3, 1) := by decide +kernel
theorem dX4_isTrue_10 : decode cX4_isTrue 10 = .ok (.iload_n 3, 1) := by decide +kernel
theorem dX4_isTrue_11 : decode cX4_isTrue 11 = .ok (.iload_n 2, 1) := by decide +kernel
theorem dX4_isTrue_12 : decode cX4_isTrue 12 = .ok (.if_icmp .ge 51, 3) := by decide +kernel
theorem dX4_isTrue_15 : decode cX4_isTrue 15 = .ok (.aload_n 1, 1) := by decide +kernel
theorem dX4_isTrue_16 : decode cX4_isTrue 16 = .ok (.iload_n 3, 1) := by decide +kernel
theorem dX4_isTrue_17 : decode cX4_isTrue 17 = .ok (.aaload, 1) := by decide +kernel
theorem dX4_isTrue_18 : decode cX4_isTrue 18 = .ok (.astore 4, 2) := by decide +kernel
theorem dX4_isTrue_20 : decode cX4_isTrue 20 = .ok (.aload 4, 2) := by decide +kernel
theorem dX4_isTrue_22 : decode cX4_isTrue 22 = .ok (.invokevirtual 135, 3) := by decide +kernel
theorem dX4_isTrue_25 : decode cX4_isTrue 25 = .ok (.ifCond .eq 32, 3) := by decide +kernel
theorem dX4_isTrue_28 : decode cX4_isTrue 28 = .ok (.aload_n 0, 1) := by decide +kernel
theorem dX4_isTrue_29 : decode cX4_isTrue 29 = .ok (.aload 4, 2) := by decide +kernel
theorem dX4_isTrue_31 : decode cX4_isTrue 31 = .ok (.invokevirtual 201, 3) := by decide +kernel
theorem dX4_isTrue_34 : decode cX4_isTrue 34 = .ok (.ifCond .eq 21, 3) := by decide +kernel
theorem dX4_isTrue_37 : decode cX4_isTrue 37 = .ok (.aload_n 0, 1) := by decide +kernel
theorem dX4_isTrue_38 : decode cX4_isTrue 38 = .ok (.aload 4, 2) := by decide +kernel
theorem dX4_isTrue_40 : decode cX4_isTrue 40 = .ok (.invokevirtual 205, 3) := by decide +kernel
theorem dX4_isTrue_43 : decode cX4_isTrue 43 = .ok (.ifCond .eq 12, 3) := by decide +kernel
theorem dX4_isTrue_46 : decode cX4_isTrue 46 = .ok (.aload_n 0, 1) := by decide +kernel
theorem dX4_isTrue_47 : decode cX4_isTrue 47 = .ok (.aload 4, 2) := by decide +kernel
theorem dX4_isTrue_49 : decode cX4_isTrue 49 = .ok (.invokevirtual 208, 3) := by decide +kernel
theorem dX4_isTrue_52 : decode cX4_isTrue 52 = .ok (.ifCond .ne 5, 3) := by decide +kernel
theorem dX4_isTrue_55 : decode cX4_isTrue 55 = .ok (.iconst 0, 1) := by decide +kernel
theorem dX4_isTrue_56 : decode cX4_isTrue 56 = .ok (.ireturn, 1) := by decide +kernel
theorem dX4_isTrue_57 : decode cX4_isTrue 57 = .ok (.iinc 3 1, 3) := by decide +kernel
theorem dX4_isTrue_60 : decode cX4_isTrue 60 = .ok (.goto (-50), 3) := by decide +kernel
theorem dX4_isTrue_63 : decode cX4_isTrue 63 = .ok (.iconst 1, 1) := by decide +kernel
theorem dX4_isTrue_64 : decode cX4_isTrue 64 = .ok (.ireturn, 1) := by decide +kernel
theorem dX4_checksum_0 : decode cX4_checksum 0 = .ok (.ldc2_w 211, 3) := by decide +kernel
theorem dX4_checksum_3 : decode cX4_checksum 3 = .ok (.lstore_n 1, 1) := by decide +kernel
theorem dX4_checksum_4 : decode cX4_checksum 4 = .ok (.iconst 0, 1) := by decide +kernel
theorem dX4_checksum_5 : decode cX4_checksum 5 = .ok (.istore_n 3, 1) := by decide +kernel
theorem dX4_checksum_6 : decode cX4_checksum 6 = .ok (.iload_n 3, 1) := by decide +kernel
theorem dX4_checksum_7 : decode cX4_checksum 7 = .ok (.aload_n 0, 1) := by decide +kernel
theorem dX4_checksum_8 : decode cX4_checksum 8 = .ok (.getfield 10, 3) := by decide +kernel
theorem dX4_checksum_11 : decode cX4_checksum 11 = .ok (.invokevirtual 56, 3) := by decide +kernel
theorem dX4_checksum_14 : decode cX4_checksum 14 = .ok (.if_icmp .ge 25, 3) := by decide +kernel
theorem dX4_checksum_17 : decode cX4_checksum 17 = .ok (.ldc2_w 213, 3) := by decide +kernel
theorem dX4_checksum_20 : decode cX4_checksum 20 = .ok (.lload_n 1, 1) := by decide +kernel
theorem dX4_checksum_21 : decode cX4_checksum 21 = .ok (.lmul, 1) := by decide +kernel
theorem dX4_checksum_22 : decode cX4_checksum 22 = .ok (.aload_n 0, 1) := by decide +kernel
theorem dX4_checksum_23 : decode cX4_checksum 23 = .ok (.getfield 10, 3) := by decide +kernel
theorem dX4_checksum_26 : decode cX4_checksum 26 = .ok (.iload_n 3, 1) := by decide +kernel
theorem dX4_checksum_27 : decode cX4_checksum 27 = .ok (.invokevirtual 90, 3) := by decide +kernel
theorem dX4_checksum_30 : decode cX4_checksum 30 = .ok (.i2l, 1) := by decide +kernel
theorem dX4_checksum_31 : decode cX4_checksum 31 = .ok (.ladd, 1) := by decide +kernel
theorem dX4_checksum_32 : decode cX4_checksum 32 = .ok (.lstore_n 1, 1) := by decide +kernel
theorem dX4_checksum_33 : decode cX4_checksum 33 = .ok (.iinc 3 1, 3) := by decide +kernel
theorem dX4_checksum_36 : decode cX4_checksum 36 = .ok (.goto (-30), 3) := by decide +kernel
theorem dX4_checksum_39 : decode cX4_checksum 39 = .ok (.ldc2_w 213, 3) := by decide +kernel
theorem dX4_checksum_42 : decode cX4_checksum 42 = .ok (.lload_n 1, 1) := by decide +kernel
theorem dX4_checksum_43 : decode cX4_checksum 43 = .ok (.lmul, 1) := by decide +kernel
theorem dX4_checksum_44 : decode cX4_checksum 44 = .ok (.aload_n 0, 1) := by decide +kernel
theorem dX4_checksum_45 : decode cX4_checksum 45 = .ok (.getfield 125, 3) := by decide +kernel
theorem dX4_checksum_48 : decode cX4_checksum 48 = .ok (.i2l, 1) := by decide +kernel
theorem dX4_checksum_49 : decode cX4_checksum 49 = .ok (.ladd, 1) := by decide +kernel
theorem dX4_checksum_50 : decode cX4_checksum 50 = .ok (.lstore_n 1, 1) := by decide +kernel
theorem dX4_checksum_51 : decode cX4_checksum 51 = .ok (.aload_n 0, 1) := by decide +kernel
theorem dX4_checksum_52 : decode cX4_checksum 52 = .ok (.getfield 28, 3) := by decide +kernel
theorem dX4_checksum_55 : decode cX4_checksum 55 = .ok (.astore_n 3, 1) := by decide +kernel
theorem dX4_checksum_56 : decode cX4_checksum 56 = .ok (.aload_n 3, 1) := by decide +kernel
theorem dX4_checksum_57 : decode cX4_checksum 57 = .ok (.arraylength, 1) := by decide +kernel
theorem dX4_checksum_58 : decode cX4_checksum 58 = .ok (.istore 4, 2) := by decide +kernel
theorem dX4_checksum_60 : decode cX4_checksum 60 = .ok (.iconst 0, 1) := by decide +kernel
theorem dX4_checksum_61 : decode cX4_checksum 61 = .ok (.istore 5, 2) := by decide +kernel
theorem dX4_checksum_63 : decode cX4_checksum 63 = .ok (.iload 5, 2) := by decide +kernel
theorem dX4_checksum_65 : decode cX4_checksum 65 = .ok (.iload 4, 2) := by decide +kernel
theorem dX4_checksum_67 : decode cX4_checksum 67 = .ok (.if_icmp .ge 22, 3) := by decide +kernel
theorem dX4_checksum_70 : decode cX4_checksum 70 = .ok (.aload_n 3, 1) := by decide +kernel
theorem dX4_checksum_71 : decode cX4_checksum 71 = .ok (.iload 5, 2) := by decide +kernel
theorem dX4_checksum_73 : decode cX4_checksum 73 = .ok (.aaload, 1) := by decide +kernel
theorem dX4_checksum_74 : decode cX4_checksum 74 = .ok (.astore 6, 2) := by decide +kernel
theorem dX4_checksum_76 : decode cX4_checksum 76 = .ok (.aload 6, 2) := by decide +kernel
theorem dX4_checksum_78 : decode cX4_checksum 78 = .ok (.lload_n 1, 1) := by decide +kernel
theorem dX4_checksum_79 : decode cX4_checksum 79 = .ok (.invokevirtual 215, 3) := by decide +kernel
theorem dX4_checksum_82 : decode cX4_checksum 82 = .ok (.lstore_n 1, 1) := by decide +kernel
theorem dX4_checksum_83 : decode cX4_checksum 83 = .ok (.iinc 5 1, 3) := by decide +kernel
theorem dX4_checksum_86 : decode cX4_checksum 86 = .ok (.goto (-23), 3) := by decide +kernel
theorem dX4_checksum_89 : decode cX4_checksum 89 = .ok (.lload_n 1, 1) := by decide +kernel
theorem dX4_checksum_90 : decode cX4_checksum 90 = .ok (.lreturn, 1) := by decide +kernel
theorem dX4_checkRoom_0 : decode cX4_checkRoom 0 = .ok (.aload_n 0, 1) := by decide +kernel
theorem dX4_checkRoom_1 : decode cX4_checkRoom 1 = .ok (.getfield 10, 3) := by decide +kernel
theorem dX4_checkRoom_4 : decode cX4_checkRoom 4 = .ok (.invokevirtual 56, 3) := by decide +kernel
theorem dX4_checkRoom_7 : decode cX4_checkRoom 7 = .ok (.iload_n 1, 1) := by decide +kernel
theorem dX4_checkRoom_8 : decode cX4_checkRoom 8 = .ok (.iadd, 1) := by decide +kernel
theorem dX4_checkRoom_9 : decode cX4_checkRoom 9 = .ok (.bipush 60, 2) := by decide +kernel
theorem dX4_checkRoom_11 : decode cX4_checkRoom 11 = .ok (.if_icmp .le 13, 3) := by decide +kernel
theorem dX4_checkRoom_14 : decode cX4_checkRoom 14 = .ok (.new 108, 3) := by decide +kernel
theorem dX4_checkRoom_17 : decode cX4_checkRoom 17 = .ok (.dup, 1) := by decide +kernel
theorem dX4_checkRoom_18 : decode cX4_checkRoom 18 = .ok (.ldc 199, 2) := by decide +kernel
theorem dX4_checkRoom_20 : decode cX4_checkRoom 20 = .ok (.invokespecial 112, 3) := by decide +kernel
theorem dX4_checkRoom_23 : decode cX4_checkRoom 23 = .ok (.athrow, 1) := by decide +kernel
theorem dX4_checkRoom_24 : decode cX4_checkRoom 24 = .ok (.return_, 1) := by decide +kernel
theorem dX4_checkRefused_0 : decode cX4_checkRefused 0 = .ok (.aload_n 0, 1) := by decide +kernel
theorem dX4_checkRefused_1 : decode cX4_checkRefused 1 = .ok (.getfield 125, 3) := by decide +kernel
theorem dX4_checkRefused_4 : decode cX4_checkRefused 4 = .ok (.ifCond .ne 13, 3) := by decide +kernel
theorem dX4_checkRefused_7 : decode cX4_checkRefused 7 = .ok (.new 85, 3) := by decide +kernel
theorem dX4_checkRefused_10 : decode cX4_checkRefused 10 = .ok (.dup, 1) := by decide +kernel
theorem dX4_checkRefused_11 : decode cX4_checkRefused 11 = .ok (.ldc 219, 2) := by decide +kernel
theorem dX4_checkRefused_13 : decode cX4_checkRefused 13 = .ok (.invokespecial 89, 3) := by decide +kernel
theorem dX4_checkRefused_16 : decode cX4_checkRefused 16 = .ok (.athrow, 1) := by decide +kernel
theorem dX4_checkRefused_17 : decode cX4_checkRefused 17 = .ok (.return_, 1) := by decide +kernel
theorem dX4_slotAt_0 : decode cX4_slotAt 0 = .ok (.iload_n 1, 1) := by decide +kernel
theorem dX4_slotAt_1 : decode cX4_slotAt 1 = .ok (.ifCond .lt 12, 3) := by decide +kernel
theorem dX4_slotAt_4 : decode cX4_slotAt 4 = .ok (.iload_n 1, 1) := by decide +kernel
theorem dX4_slotAt_5 : decode cX4_slotAt 5 = .ok (.aload_n 0, 1) := by decide +kernel
theorem dX4_slotAt_6 : decode cX4_slotAt 6 = .ok (.getfield 28, 3) := by decide +kernel
theorem dX4_slotAt_9 : decode cX4_slotAt 9 = .ok (.arraylength, 1) := by decide +kernel
theorem dX4_slotAt_10 : decode cX4_slotAt 10 = .ok (.if_icmp .lt 13, 3) := by decide +kernel
theorem dX4_slotAt_13 : decode cX4_slotAt 13 = .ok (.new 70, 3) := by decide +kernel
theorem dX4_slotAt_16 : decode cX4_slotAt 16 = .ok (.dup, 1) := by decide +kernel
theorem dX4_slotAt_17 : decode cX4_slotAt 17 = .ok (.ldc 221, 2) := by decide +kernel
theorem dX4_slotAt_19 : decode cX4_slotAt 19 = .ok (.invokespecial 74, 3) := by decide +kernel
theorem dX4_slotAt_22 : decode cX4_slotAt 22 = .ok (.athrow, 1) := by decide +kernel
theorem dX4_slotAt_23 : decode cX4_slotAt 23 = .ok (.aload_n 0, 1) := by decide +kernel
theorem dX4_slotAt_24 : decode cX4_slotAt 24 = .ok (.getfield 28, 3) := by decide +kernel
theorem dX4_slotAt_27 : decode cX4_slotAt 27 = .ok (.iload_n 1, 1) := by decide +kernel
theorem dX4_slotAt_28 : decode cX4_slotAt 28 = .ok (.aaload, 1) := by decide +kernel
theorem dX4_slotAt_29 : decode cX4_slotAt 29 = .ok (.areturn, 1) := by decide +kernel
theorem dX4_checkHeld_0 : decode cX4_checkHeld 0 = .ok (.aload_n 0, 1) := by decide +kernel
theorem dX4_checkHeld_1 : decode cX4_checkHeld 1 = .ok (.invokevirtual 135, 3) := by decide +kernel
theorem dX4_checkHeld_4 : decode cX4_checkHeld 4 = .ok (.ifCond .ne 13, 3) := by decide +kernel
theorem dX4_checkHeld_7 : decode cX4_checkHeld 7 = .ok (.new 85, 3) := by decide +kernel
theorem dX4_checkHeld_10 : decode cX4_checkHeld 10 = .ok (.dup, 1) := by decide +kernel
theorem dX4_checkHeld_11 : decode cX4_checkHeld 11 = .ok (.ldc 223, 2) := by decide +kernel
theorem dX4_checkHeld_13 : decode cX4_checkHeld 13 = .ok (.invokespecial 89, 3) := by decide +kernel
theorem dX4_checkHeld_16 : decode cX4_checkHeld 16 = .ok (.athrow, 1) := by decide +kernel
theorem dX4_checkHeld_17 : decode cX4_checkHeld 17 = .ok (.return_, 1) := by decide +kernel
theorem dX4_addressAt_0 : decode cX4_addressAt 0 = .ok (.aload_n 0, 1) := by decide +kernel
theorem dX4_addressAt_1 : decode cX4_addressAt 1 = .ok (.iload_n 1, 1) := by decide +kernel
theorem dX4_addressAt_2 : decode cX4_addressAt 2 = .ok (.invokevirtual 98, 3) := by decide +kernel
theorem dX4_addressAt_5 : decode cX4_addressAt 5 = .ok (.astore_n 2, 1) := by decide +kernel
theorem dX4_addressAt_6 : decode cX4_addressAt 6 = .ok (.aload_n 2, 1) := by decide +kernel
theorem dX4_addressAt_7 : decode cX4_addressAt 7 = .ok (.invokestatic 153, 3) := by decide +kernel
theorem dX4_addressAt_10 : decode cX4_addressAt 10 = .ok (.aload_n 2, 1) := by decide +kernel
theorem dX4_addressAt_11 : decode cX4_addressAt 11 = .ok (.areturn, 1) := by decide +kernel
theorem dX4_partOf_0 : decode cX4_partOf 0 = .ok (.ldc 197, 2) := by decide +kernel
theorem dX4_partOf_2 : decode cX4_partOf 2 = .ok (.iload_n 0, 1) := by decide +kernel
theorem dX4_partOf_3 : decode cX4_partOf 3 = .ok (.invokevirtual 35, 3) := by decide +kernel
theorem dX4_partOf_6 : decode cX4_partOf 6 = .ok (.istore_n 1, 1) := by decide +kernel
theorem dX4_partOf_7 : decode cX4_partOf 7 = .ok (.iload_n 1, 1) := by decide +kernel
theorem dX4_partOf_8 : decode cX4_partOf 8 = .ok (.ifCond .ge 13, 3) := by decide +kernel
theorem dX4_partOf_11 : decode cX4_partOf 11 = .ok (.new 41, 3) := by decide +kernel
theorem dX4_partOf_14 : decode cX4_partOf 14 = .ok (.dup, 1) := by decide +kernel
theorem dX4_partOf_15 : decode cX4_partOf 15 = .ok (.ldc 225, 2) := by decide +kernel
theorem dX4_partOf_17 : decode cX4_partOf 17 = .ok (.invokespecial 45, 3) := by decide +kernel
theorem dX4_partOf_20 : decode cX4_partOf 20 = .ok (.athrow, 1) := by decide +kernel
theorem dX4_partOf_21 : decode cX4_partOf 21 = .ok (.iload_n 1, 1) := by decide +kernel
theorem dX4_partOf_22 : decode cX4_partOf 22 = .ok (.ireturn, 1) := by decide +kernel
theorem dX4_weave_0 : decode cX4_weave 0 = .ok (.aload_n 0, 1) := by decide +kernel
theorem dX4_weave_1 : decode cX4_weave 1 = .ok (.getfield 16, 3) := by decide +kernel
theorem dX4_weave_4 : decode cX4_weave 4 = .ok (.iconst 0, 1) := by decide +kernel
theorem dX4_weave_5 : decode cX4_weave 5 = .ok (.invokevirtual 93, 3) := by decide +kernel
theorem dX4_weave_8 : decode cX4_weave 8 = .ok (.aload_n 0, 1) := by decide +kernel
theorem dX4_weave_9 : decode cX4_weave 9 = .ok (.ldc 227, 2) := by decide +kernel
theorem dX4_weave_11 : decode cX4_weave 11 = .ok (.iload_n 3, 1) := by decide +kernel
theorem dX4_weave_12 : decode cX4_weave 12 = .ok (.ifCond .ne 7, 3) := by decide +kernel
theorem dX4_weave_15 : decode cX4_weave 15 = .ok (.aload_n 2, 1) := by decide +kernel
theorem dX4_weave_16 : decode cX4_weave 16 = .ok (.goto 4, 3) := by decide +kernel
theorem dX4_weave_19 : decode cX4_weave 19 = .ok (.aload_n 1, 1) := by decide +kernel
theorem dX4_weave_20 : decode cX4_weave 20 = .ok (.iconst 0, 1) := by decide +kernel
theorem dX4_weave_21 : decode cX4_weave 21 = .ok (.ldc 229, 2) := by decide +kernel
theorem dX4_weave_23 : decode cX4_weave 23 = .ok (.invokevirtual 231, 3) := by decide +kernel
theorem dX4_weave_26 : decode cX4_weave 26 = .ok (.aload_n 1, 1) := by decide +kernel
theorem dX4_weave_27 : decode cX4_weave 27 = .ok (.iconst 5, 1) := by decide +kernel
theorem dX4_weave_28 : decode cX4_weave 28 = .ok (.invokevirtual 142, 3) := by decide +kernel
theorem dX4_weave_31 : decode cX4_weave 31 = .ok (.ifCond .ne 13, 3) := by decide +kernel
theorem dX4_weave_34 : decode cX4_weave 34 = .ok (.aload_n 0, 1) := by decide +kernel
theorem dX4_weave_35 : decode cX4_weave 35 = .ok (.ldc 227, 2) := by decide +kernel
theorem dX4_weave_37 : decode cX4_weave 37 = .ok (.aload_n 1, 1) := by decide +kernel
theorem dX4_weave_38 : decode cX4_weave 38 = .ok (.iconst 1, 1) := by decide +kernel
theorem dX4_weave_39 : decode cX4_weave 39 = .ok (.ldc 227, 2) := by decide +kernel
theorem dX4_weave_41 : decode cX4_weave 41 = .ok (.invokevirtual 231, 3) := by decide +kernel
theorem dX4_weave_44 : decode cX4_weave 44 = .ok (.aload_n 0, 1) := by decide +kernel
theorem dX4_weave_45 : decode cX4_weave 45 = .ok (.ldc 235, 2) := by decide +kernel
theorem dX4_weave_47 : decode cX4_weave 47 = .ok (.iload_n 3, 1) := by decide +kernel
theorem dX4_weave_48 : decode cX4_weave 48 = .ok (.iconst 2, 1) := by decide +kernel
theorem dX4_weave_49 : decode cX4_weave 49 = .ok (.if_icmp .ne 7, 3) := by decide +kernel
theorem dX4_weave_52 : decode cX4_weave 52 = .ok (.aload_n 2, 1) := by decide +kernel
theorem dX4_weave_53 : decode cX4_weave 53 = .ok (.goto 4, 3) := by decide +kernel
theorem dX4_weave_56 : decode cX4_weave 56 = .ok (.aload_n 1, 1) := by decide +kernel
theorem dX4_weave_57 : decode cX4_weave 57 = .ok (.iconst 2, 1) := by decide +kernel
theorem dX4_weave_58 : decode cX4_weave 58 = .ok (.ldc 227, 2) := by decide +kernel
theorem dX4_weave_60 : decode cX4_weave 60 = .ok (.invokevirtual 231, 3) := by decide +kernel
theorem dX4_weave_63 : decode cX4_weave 63 = .ok (.aload_n 0, 1) := by decide +kernel
theorem dX4_weave_64 : decode cX4_weave 64 = .ok (.ldc 227, 2) := by decide +kernel
theorem dX4_weave_66 : decode cX4_weave 66 = .ok (.iload_n 3, 1) := by decide +kernel
theorem dX4_weave_67 : decode cX4_weave 67 = .ok (.iconst 5, 1) := by decide +kernel
theorem dX4_weave_68 : decode cX4_weave 68 = .ok (.if_icmp .ne 7, 3) := by decide +kernel
theorem dX4_weave_71 : decode cX4_weave 71 = .ok (.aload_n 2, 1) := by decide +kernel
theorem dX4_weave_72 : decode cX4_weave 72 = .ok (.goto 4, 3) := by decide +kernel
theorem dX4_weave_75 : decode cX4_weave 75 = .ok (.aload_n 1, 1) := by decide +kernel
theorem dX4_weave_76 : decode cX4_weave 76 = .ok (.iconst 5, 1) := by decide +kernel
theorem dX4_weave_77 : decode cX4_weave 77 = .ok (.ldc 227, 2) := by decide +kernel
theorem dX4_weave_79 : decode cX4_weave 79 = .ok (.invokevirtual 231, 3) := by decide +kernel
theorem dX4_weave_82 : decode cX4_weave 82 = .ok (.aload_n 0, 1) := by decide +kernel
theorem dX4_weave_83 : decode cX4_weave 83 = .ok (.ldc 237, 2) := by decide +kernel
theorem dX4_weave_85 : decode cX4_weave 85 = .ok (.iload_n 3, 1) := by decide +kernel
theorem dX4_weave_86 : decode cX4_weave 86 = .ok (.bipush 6, 2) := by decide +kernel
theorem dX4_weave_88 : decode cX4_weave 88 = .ok (.if_icmp .ne 7, 3) := by decide +kernel
theorem dX4_weave_91 : decode cX4_weave 91 = .ok (.aload_n 2, 1) := by decide +kernel
theorem dX4_weave_92 : decode cX4_weave 92 = .ok (.goto 4, 3) := by decide +kernel
theorem dX4_weave_95 : decode cX4_weave 95 = .ok (.aload_n 1, 1) := by decide +kernel
theorem dX4_weave_96 : decode cX4_weave 96 = .ok (.bipush 6, 2) := by decide +kernel
theorem dX4_weave_98 : decode cX4_weave 98 = .ok (.ldc 227, 2) := by decide +kernel
theorem dX4_weave_100 : decode cX4_weave 100 = .ok (.invokevirtual 231, 3) := by decide +kernel
theorem dX4_weave_103 : decode cX4_weave 103 = .ok (.aload_n 0, 1) := by decide +kernel
theorem dX4_weave_104 : decode cX4_weave 104 = .ok (.ldc 239, 2) := by decide +kernel
theorem dX4_weave_106 : decode cX4_weave 106 = .ok (.iload_n 3, 1) := by decide +kernel
theorem dX4_weave_107 : decode cX4_weave 107 = .ok (.bipush 7, 2) := by decide +kernel
theorem dX4_weave_109 : decode cX4_weave 109 = .ok (.if_icmp .ne 7, 3) := by decide +kernel
theorem dX4_weave_112 : decode cX4_weave 112 = .ok (.aload_n 2, 1) := by decide +kernel
theorem dX4_weave_113 : decode cX4_weave 113 = .ok (.goto 4, 3) := by decide +kernel
theorem dX4_weave_116 : decode cX4_weave 116 = .ok (.aload_n 1, 1) := by decide +kernel
theorem dX4_weave_117 : decode cX4_weave 117 = .ok (.bipush 7, 2) := by decide +kernel
theorem dX4_weave_119 : decode cX4_weave 119 = .ok (.ldc 227, 2) := by decide +kernel
theorem dX4_weave_121 : decode cX4_weave 121 = .ok (.invokevirtual 231, 3) := by decide +kernel
theorem dX4_weave_124 : decode cX4_weave 124 = .ok (.return_, 1) := by decide +kernel
theorem dX4_weavePart_0 : decode cX4_weavePart 0 = .ok (.aload_n 2, 1) := by decide +kernel
theorem dX4_weavePart_1 : decode cX4_weavePart 1 = .ok (.iload_n 3, 1) := by decide +kernel
theorem dX4_weavePart_2 : decode cX4_weavePart 2 = .ok (.invokevirtual 142, 3) := by decide +kernel
theorem dX4_weavePart_5 : decode cX4_weavePart 5 = .ok (.ifCond .eq 29, 3) := by decide +kernel
theorem dX4_weavePart_8 : decode cX4_weavePart 8 = .ok (.aload_n 0, 1) := by decide +kernel
theorem dX4_weavePart_9 : decode cX4_weavePart 9 = .ok (.getfield 16, 3) := by decide +kernel
theorem dX4_weavePart_12 : decode cX4_weavePart 12 = .ok (.aload_n 1, 1) := by decide +kernel
theorem dX4_weavePart_13 : decode cX4_weavePart 13 = .ok (.invokevirtual 82, 3) := by decide +kernel
theorem dX4_weavePart_16 : decode cX4_weavePart 16 = .ok (.aload_n 2, 1) := by decide +kernel
theorem dX4_weavePart_17 : decode cX4_weavePart 17 = .ok (.iload_n 3, 1) := by decide +kernel
theorem dX4_weavePart_18 : decode cX4_weavePart 18 = .ok (.aload_n 0, 1) := by decide +kernel
theorem dX4_weavePart_19 : decode cX4_weavePart 19 = .ok (.getfield 16, 3) := by decide +kernel
theorem dX4_weavePart_22 : decode cX4_weavePart 22 = .ok (.invokevirtual 170, 3) := by decide +kernel
theorem dX4_weavePart_25 : decode cX4_weavePart 25 = .ok (.aload_n 0, 1) := by decide +kernel
theorem dX4_weavePart_26 : decode cX4_weavePart 26 = .ok (.getfield 16, 3) := by decide +kernel
theorem dX4_weavePart_29 : decode cX4_weavePart 29 = .ok (.aload 4, 2) := by decide +kernel
theorem dX4_weavePart_31 : decode cX4_weavePart 31 = .ok (.invokevirtual 82, 3) := by decide +kernel
theorem dX4_weavePart_34 : decode cX4_weavePart 34 = .ok (.return_, 1) := by decide +kernel
theorem dX4_isSameAnew_0 : decode cX4_isSameAnew 0 = .ok (.aload_n 0, 1) := by decide +kernel
theorem dX4_isSameAnew_1 : decode cX4_isSameAnew 1 = .ok (.getfield 16, 3) := by decide +kernel
theorem dX4_isSameAnew_4 : decode cX4_isSameAnew 4 = .ok (.iconst 0, 1) := by decide +kernel
theorem dX4_isSameAnew_5 : decode cX4_isSameAnew 5 = .ok (.invokevirtual 93, 3) := by decide +kernel
theorem dX4_isSameAnew_8 : decode cX4_isSameAnew 8 = .ok (.aload_n 1, 1) := by decide +kernel
theorem dX4_isSameAnew_9 : decode cX4_isSameAnew 9 = .ok (.bipush 8, 2) := by decide +kernel
theorem dX4_isSameAnew_11 : decode cX4_isSameAnew 11 = .ok (.aload_n 0, 1) := by decide +kernel
theorem dX4_isSameAnew_12 : decode cX4_isSameAnew 12 = .ok (.getfield 16, 3) := by decide +kernel
theorem dX4_isSameAnew_15 : decode cX4_isSameAnew 15 = .ok (.invokevirtual 170, 3) := by decide +kernel
theorem dX4_isSameAnew_18 : decode cX4_isSameAnew 18 = .ok (.aload_n 0, 1) := by decide +kernel
theorem dX4_isSameAnew_19 : decode cX4_isSameAnew 19 = .ok (.getfield 22, 3) := by decide +kernel
theorem dX4_isSameAnew_22 : decode cX4_isSameAnew 22 = .ok (.aload_n 0, 1) := by decide +kernel
theorem dX4_isSameAnew_23 : decode cX4_isSameAnew 23 = .ok (.getfield 16, 3) := by decide +kernel
theorem dX4_isSameAnew_26 : decode cX4_isSameAnew 26 = .ok (.invokevirtual 113, 3) := by decide +kernel
theorem dX4_isSameAnew_29 : decode cX4_isSameAnew 29 = .ok (.iconst (-1), 1) := by decide +kernel
theorem dX4_isSameAnew_30 : decode cX4_isSameAnew 30 = .ok (.if_icmp .ne 40, 3) := by decide +kernel
theorem dX4_isSameAnew_33 : decode cX4_isSameAnew 33 = .ok (.aload_n 0, 1) := by decide +kernel
theorem dX4_isSameAnew_34 : decode cX4_isSameAnew 34 = .ok (.getfield 22, 3) := by decide +kernel
theorem dX4_isSameAnew_37 : decode cX4_isSameAnew 37 = .ok (.invokevirtual 117, 3) := by decide +kernel
theorem dX4_isSameAnew_40 : decode cX4_isSameAnew 40 = .ok (.aload_n 1, 1) := by decide +kernel
theorem dX4_isSameAnew_41 : decode cX4_isSameAnew 41 = .ok (.invokevirtual 174, 3) := by decide +kernel
theorem dX4_isSameAnew_44 : decode cX4_isSameAnew 44 = .ok (.bipush 9, 2) := by decide +kernel
theorem dX4_isSameAnew_46 : decode cX4_isSameAnew 46 = .ok (.if_icmp .ne 24, 3) := by decide +kernel
theorem dX4_isSameAnew_49 : decode cX4_isSameAnew 49 = .ok (.aload_n 0, 1) := by decide +kernel
theorem dX4_isSameAnew_50 : decode cX4_isSameAnew 50 = .ok (.getfield 22, 3) := by decide +kernel
theorem dX4_isSameAnew_53 : decode cX4_isSameAnew 53 = .ok (.invokevirtual 117, 3) := by decide +kernel
theorem dX4_isSameAnew_56 : decode cX4_isSameAnew 56 = .ok (.invokevirtual 146, 3) := by decide +kernel
theorem dX4_isSameAnew_59 : decode cX4_isSameAnew 59 = .ok (.aload_n 1, 1) := by decide +kernel
theorem dX4_isSameAnew_60 : decode cX4_isSameAnew 60 = .ok (.invokevirtual 146, 3) := by decide +kernel
theorem dX4_isSameAnew_63 : decode cX4_isSameAnew 63 = .ok (.if_icmp .ne 7, 3) := by decide +kernel
theorem dX4_isSameAnew_66 : decode cX4_isSameAnew 66 = .ok (.iconst 1, 1) := by decide +kernel
theorem dX4_isSameAnew_67 : decode cX4_isSameAnew 67 = .ok (.goto 4, 3) := by decide +kernel
theorem dX4_isSameAnew_70 : decode cX4_isSameAnew 70 = .ok (.iconst 0, 1) := by decide +kernel
theorem dX4_isSameAnew_71 : decode cX4_isSameAnew 71 = .ok (.ireturn, 1) := by decide +kernel
theorem dX4_isThreeParts_0 : decode cX4_isThreeParts 0 = .ok (.aload_n 0, 1) := by decide +kernel
theorem dX4_isThreeParts_1 : decode cX4_isThreeParts 1 = .ok (.getfield 16, 3) := by decide +kernel
theorem dX4_isThreeParts_4 : decode cX4_isThreeParts 4 = .ok (.iconst 0, 1) := by decide +kernel
theorem dX4_isThreeParts_5 : decode cX4_isThreeParts 5 = .ok (.invokevirtual 93, 3) := by decide +kernel
theorem dX4_isThreeParts_8 : decode cX4_isThreeParts 8 = .ok (.aload_n 0, 1) := by decide +kernel
theorem dX4_isThreeParts_9 : decode cX4_isThreeParts 9 = .ok (.ldc 227, 2) := by decide +kernel
theorem dX4_isThreeParts_11 : decode cX4_isThreeParts 11 = .ok (.aload_n 1, 1) := by decide +kernel
theorem dX4_isThreeParts_12 : decode cX4_isThreeParts 12 = .ok (.iconst 0, 1) := by decide +kernel
theorem dX4_isThreeParts_13 : decode cX4_isThreeParts 13 = .ok (.ldc 229, 2) := by decide +kernel
theorem dX4_isThreeParts_15 : decode cX4_isThreeParts 15 = .ok (.invokevirtual 231, 3) := by decide +kernel
theorem dX4_isThreeParts_18 : decode cX4_isThreeParts 18 = .ok (.aload_n 0, 1) := by decide +kernel
theorem dX4_isThreeParts_19 : decode cX4_isThreeParts 19 = .ok (.ldc 227, 2) := by decide +kernel
theorem dX4_isThreeParts_21 : decode cX4_isThreeParts 21 = .ok (.aload_n 1, 1) := by decide +kernel
theorem dX4_isThreeParts_22 : decode cX4_isThreeParts 22 = .ok (.iconst 1, 1) := by decide +kernel
theorem dX4_isThreeParts_23 : decode cX4_isThreeParts 23 = .ok (.ldc 227, 2) := by decide +kernel
theorem dX4_isThreeParts_25 : decode cX4_isThreeParts 25 = .ok (.invokevirtual 231, 3) := by decide +kernel
theorem dX4_isThreeParts_28 : decode cX4_isThreeParts 28 = .ok (.aload_n 0, 1) := by decide +kernel
theorem dX4_isThreeParts_29 : decode cX4_isThreeParts 29 = .ok (.ldc 239, 2) := by decide +kernel
theorem dX4_isThreeParts_31 : decode cX4_isThreeParts 31 = .ok (.aload_n 1, 1) := by decide +kernel
theorem dX4_isThreeParts_32 : decode cX4_isThreeParts 32 = .ok (.bipush 7, 2) := by decide +kernel
theorem dX4_isThreeParts_34 : decode cX4_isThreeParts 34 = .ok (.ldc 227, 2) := by decide +kernel
theorem dX4_isThreeParts_36 : decode cX4_isThreeParts 36 = .ok (.invokevirtual 231, 3) := by decide +kernel
theorem dX4_isThreeParts_39 : decode cX4_isThreeParts 39 = .ok (.aload_n 1, 1) := by decide +kernel
theorem dX4_isThreeParts_40 : decode cX4_isThreeParts 40 = .ok (.aload_n 0, 1) := by decide +kernel
theorem dX4_isThreeParts_41 : decode cX4_isThreeParts 41 = .ok (.getfield 16, 3) := by decide +kernel
theorem dX4_isThreeParts_44 : decode cX4_isThreeParts 44 = .ok (.invokevirtual 185, 3) := by decide +kernel
theorem dX4_isThreeParts_47 : decode cX4_isThreeParts 47 = .ok (.ireturn, 1) := by decide +kernel
theorem dX4_isWovenAgain_0 : decode cX4_isWovenAgain 0 = .ok (.aload_n 0, 1) := by decide +kernel
theorem dX4_isWovenAgain_1 : decode cX4_isWovenAgain 1 = .ok (.aload_n 1, 1) := by decide +kernel
theorem dX4_isWovenAgain_2 : decode cX4_isWovenAgain 2 = .ok (.aload_n 1, 1) := by decide +kernel
theorem dX4_isWovenAgain_3 : decode cX4_isWovenAgain 3 = .ok (.iconst (-1), 1) := by decide +kernel
theorem dX4_isWovenAgain_4 : decode cX4_isWovenAgain 4 = .ok (.invokevirtual 178, 3) := by decide +kernel
theorem dX4_isWovenAgain_7 : decode cX4_isWovenAgain 7 = .ok (.aload_n 1, 1) := by decide +kernel
theorem dX4_isWovenAgain_8 : decode cX4_isWovenAgain 8 = .ok (.invokevirtual 241, 3) := by decide +kernel
theorem dX4_isWovenAgain_11 : decode cX4_isWovenAgain 11 = .ok (.ifCond .eq 14, 3) := by decide +kernel
theorem dX4_isWovenAgain_14 : decode cX4_isWovenAgain 14 = .ok (.aload_n 1, 1) := by decide +kernel
theorem dX4_isWovenAgain_15 : decode cX4_isWovenAgain 15 = .ok (.aload_n 0, 1) := by decide +kernel
theorem dX4_isWovenAgain_16 : decode cX4_isWovenAgain 16 = .ok (.getfield 16, 3) := by decide +kernel
theorem dX4_isWovenAgain_19 : decode cX4_isWovenAgain 19 = .ok (.invokevirtual 244, 3) := by decide +kernel
theorem dX4_isWovenAgain_22 : decode cX4_isWovenAgain 22 = .ok (.goto 11, 3) := by decide +kernel
theorem dX4_isWovenAgain_25 : decode cX4_isWovenAgain 25 = .ok (.aload_n 1, 1) := by decide +kernel
theorem dX4_isWovenAgain_26 : decode cX4_isWovenAgain 26 = .ok (.aload_n 0, 1) := by decide +kernel
theorem dX4_isWovenAgain_27 : decode cX4_isWovenAgain 27 = .ok (.getfield 16, 3) := by decide +kernel
theorem dX4_isWovenAgain_30 : decode cX4_isWovenAgain 30 = .ok (.invokevirtual 185, 3) := by decide +kernel
theorem dX4_isWovenAgain_33 : decode cX4_isWovenAgain 33 = .ok (.ireturn, 1) := by decide +kernel
theorem dX4_wordAt_0 : decode cX4_wordAt 0 = .ok (.iload_n 0, 1) := by decide +kernel
theorem dX4_wordAt_1 : decode cX4_wordAt 1 = .ok (.tableswitch 262 0 31 #[143, 146, 149, 152, 155, 158, 161, 164, 167, 170, 174, 178, 182, 186, 190, 194, 198, 202, 206, 210, 214, 218, 222, 226, 230, 234, 238, 242, 246, 250, 254, 258], 143) := by decide +kernel
theorem dX4_wordAt_144 : decode cX4_wordAt 144 = .ok (.ldc 247, 2) := by decide +kernel
theorem dX4_wordAt_146 : decode cX4_wordAt 146 = .ok (.areturn, 1) := by decide +kernel
theorem dX4_wordAt_147 : decode cX4_wordAt 147 = .ok (.ldc 249, 2) := by decide +kernel
theorem dX4_wordAt_149 : decode cX4_wordAt 149 = .ok (.areturn, 1) := by decide +kernel
theorem dX4_wordAt_150 : decode cX4_wordAt 150 = .ok (.ldc 251, 2) := by decide +kernel
theorem dX4_wordAt_152 : decode cX4_wordAt 152 = .ok (.areturn, 1) := by decide +kernel
theorem dX4_wordAt_153 : decode cX4_wordAt 153 = .ok (.ldc 253, 2) := by decide +kernel
theorem dX4_wordAt_155 : decode cX4_wordAt 155 = .ok (.areturn, 1) := by decide +kernel
theorem dX4_wordAt_156 : decode cX4_wordAt 156 = .ok (.ldc 229, 2) := by decide +kernel
theorem dX4_wordAt_158 : decode cX4_wordAt 158 = .ok (.areturn, 1) := by decide +kernel
theorem dX4_wordAt_159 : decode cX4_wordAt 159 = .ok (.ldc 235, 2) := by decide +kernel
theorem dX4_wordAt_161 : decode cX4_wordAt 161 = .ok (.areturn, 1) := by decide +kernel
theorem dX4_wordAt_162 : decode cX4_wordAt 162 = .ok (.ldc 255, 2) := by decide +kernel
theorem dX4_wordAt_164 : decode cX4_wordAt 164 = .ok (.areturn, 1) := by decide +kernel
theorem dX4_wordAt_165 : decode cX4_wordAt 165 = .ok (.ldc 237, 2) := by decide +kernel
theorem dX4_wordAt_167 : decode cX4_wordAt 167 = .ok (.areturn, 1) := by decide +kernel
theorem dX4_wordAt_168 : decode cX4_wordAt 168 = .ok (.ldc 239, 2) := by decide +kernel
theorem dX4_wordAt_170 : decode cX4_wordAt 170 = .ok (.areturn, 1) := by decide +kernel
theorem dX4_wordAt_171 : decode cX4_wordAt 171 = .ok (.ldc_w 257, 3) := by decide +kernel
theorem dX4_wordAt_174 : decode cX4_wordAt 174 = .ok (.areturn, 1) := by decide +kernel
theorem dX4_wordAt_175 : decode cX4_wordAt 175 = .ok (.ldc_w 259, 3) := by decide +kernel
theorem dX4_wordAt_178 : decode cX4_wordAt 178 = .ok (.areturn, 1) := by decide +kernel
theorem dX4_wordAt_179 : decode cX4_wordAt 179 = .ok (.ldc_w 261, 3) := by decide +kernel
theorem dX4_wordAt_182 : decode cX4_wordAt 182 = .ok (.areturn, 1) := by decide +kernel
theorem dX4_wordAt_183 : decode cX4_wordAt 183 = .ok (.ldc_w 263, 3) := by decide +kernel
theorem dX4_wordAt_186 : decode cX4_wordAt 186 = .ok (.areturn, 1) := by decide +kernel
theorem dX4_wordAt_187 : decode cX4_wordAt 187 = .ok (.ldc_w 265, 3) := by decide +kernel
theorem dX4_wordAt_190 : decode cX4_wordAt 190 = .ok (.areturn, 1) := by decide +kernel
theorem dX4_wordAt_191 : decode cX4_wordAt 191 = .ok (.ldc_w 267, 3) := by decide +kernel
theorem dX4_wordAt_194 : decode cX4_wordAt 194 = .ok (.areturn, 1) := by decide +kernel
theorem dX4_wordAt_195 : decode cX4_wordAt 195 = .ok (.ldc_w 269, 3) := by decide +kernel
theorem dX4_wordAt_198 : decode cX4_wordAt 198 = .ok (.areturn, 1) := by decide +kernel
theorem dX4_wordAt_199 : decode cX4_wordAt 199 = .ok (.ldc_w 271, 3) := by decide +kernel
theorem dX4_wordAt_202 : decode cX4_wordAt 202 = .ok (.areturn, 1) := by decide +kernel
theorem dX4_wordAt_203 : decode cX4_wordAt 203 = .ok (.ldc_w 273, 3) := by decide +kernel
theorem dX4_wordAt_206 : decode cX4_wordAt 206 = .ok (.areturn, 1) := by decide +kernel
theorem dX4_wordAt_207 : decode cX4_wordAt 207 = .ok (.ldc_w 275, 3) := by decide +kernel
theorem dX4_wordAt_210 : decode cX4_wordAt 210 = .ok (.areturn, 1) := by decide +kernel
theorem dX4_wordAt_211 : decode cX4_wordAt 211 = .ok (.ldc_w 277, 3) := by decide +kernel
theorem dX4_wordAt_214 : decode cX4_wordAt 214 = .ok (.areturn, 1) := by decide +kernel
theorem dX4_wordAt_215 : decode cX4_wordAt 215 = .ok (.ldc_w 279, 3) := by decide +kernel
theorem dX4_wordAt_218 : decode cX4_wordAt 218 = .ok (.areturn, 1) := by decide +kernel
theorem dX4_wordAt_219 : decode cX4_wordAt 219 = .ok (.ldc_w 281, 3) := by decide +kernel
theorem dX4_wordAt_222 : decode cX4_wordAt 222 = .ok (.areturn, 1) := by decide +kernel
theorem dX4_wordAt_223 : decode cX4_wordAt 223 = .ok (.ldc_w 283, 3) := by decide +kernel
theorem dX4_wordAt_226 : decode cX4_wordAt 226 = .ok (.areturn, 1) := by decide +kernel
theorem dX4_wordAt_227 : decode cX4_wordAt 227 = .ok (.ldc_w 285, 3) := by decide +kernel
theorem dX4_wordAt_230 : decode cX4_wordAt 230 = .ok (.areturn, 1) := by decide +kernel
theorem dX4_wordAt_231 : decode cX4_wordAt 231 = .ok (.ldc_w 287, 3) := by decide +kernel
theorem dX4_wordAt_234 : decode cX4_wordAt 234 = .ok (.areturn, 1) := by decide +kernel
theorem dX4_wordAt_235 : decode cX4_wordAt 235 = .ok (.ldc_w 289, 3) := by decide +kernel
theorem dX4_wordAt_238 : decode cX4_wordAt 238 = .ok (.areturn, 1) := by decide +kernel
theorem dX4_wordAt_239 : decode cX4_wordAt 239 = .ok (.ldc_w 291, 3) := by decide +kernel
theorem dX4_wordAt_242 : decode cX4_wordAt 242 = .ok (.areturn, 1) := by decide +kernel
theorem dX4_wordAt_243 : decode cX4_wordAt 243 = .ok (.ldc_w 293, 3) := by decide +kernel
theorem dX4_wordAt_246 : decode cX4_wordAt 246 = .ok (.areturn, 1) := by decide +kernel
theorem dX4_wordAt_247 : decode cX4_wordAt 247 = .ok (.ldc_w 295, 3) := by decide +kernel
theorem dX4_wordAt_250 : decode cX4_wordAt 250 = .ok (.areturn, 1) := by decide +kernel
theorem dX4_wordAt_251 : decode cX4_wordAt 251 = .ok (.ldc_w 297, 3) := by decide +kernel
theorem dX4_wordAt_254 : decode cX4_wordAt 254 = .ok (.areturn, 1) := by decide +kernel
theorem dX4_wordAt_255 : decode cX4_wordAt 255 = .ok (.ldc_w 299, 3) := by decide +kernel
theorem dX4_wordAt_258 : decode cX4_wordAt 258 = .ok (.areturn, 1) := by decide +kernel
theorem dX4_wordAt_259 : decode cX4_wordAt 259 = .ok (.ldc_w 301, 3) := by decide +kernel
theorem dX4_wordAt_262 : decode cX4_wordAt 262 = .ok (.areturn, 1) := by decide +kernel
theorem dX4_wordAt_263 : decode cX4_wordAt 263 = .ok (.ldc 227, 2) := by decide +kernel
theorem dX4_wordAt_265 : decode cX4_wordAt 265 = .ok (.areturn, 1) := by decide +kernel
