theorem dX0_init_0 : decode cX0_init 0 = .ok (.aload_n 0, 1) := by decide +kernel
theorem dX0_init_1 : decode cX0_init 1 = .ok (.invokespecial 3, 3) := by decide +kernel
theorem dX0_init_4 : decode cX0_init 4 = .ok (.aload_n 0, 1) := by decide +kernel
theorem dX0_init_5 : decode cX0_init 5 = .ok (.new 9, 3) := by decide +kernel
theorem dX0_init_8 : decode cX0_init 8 = .ok (.dup, 1) := by decide +kernel
theorem dX0_init_9 : decode cX0_init 9 = .ok (.invokespecial 11, 3) := by decide +kernel
theorem dX0_init_12 : decode cX0_init 12 = .ok (.putfield 12, 3) := by decide +kernel
theorem dX0_init_15 : decode cX0_init 15 = .ok (.aload_n 0, 1) := by decide +kernel
theorem dX0_init_16 : decode cX0_init 16 = .ok (.bipush 9, 2) := by decide +kernel
theorem dX0_init_18 : decode cX0_init 18 = .ok (.newarray .int, 2) := by decide +kernel
theorem dX0_init_20 : decode cX0_init 20 = .ok (.putfield 18, 3) := by decide +kernel
theorem dX0_init_23 : decode cX0_init 23 = .ok (.aload_n 0, 1) := by decide +kernel
theorem dX0_init_24 : decode cX0_init 24 = .ok (.bipush 9, 2) := by decide +kernel
theorem dX0_init_26 : decode cX0_init 26 = .ok (.newarray .int, 2) := by decide +kernel
theorem dX0_init_28 : decode cX0_init 28 = .ok (.putfield 22, 3) := by decide +kernel
theorem dX0_init_31 : decode cX0_init 31 = .ok (.aload_n 0, 1) := by decide +kernel
theorem dX0_init_32 : decode cX0_init 32 = .ok (.invokevirtual 25, 3) := by decide +kernel
theorem dX0_init_35 : decode cX0_init 35 = .ok (.return_, 1) := by decide +kernel
theorem dX0_whole_0 : decode cX0_whole 0 = .ok (.aload_n 0, 1) := by decide +kernel
theorem dX0_whole_1 : decode cX0_whole 1 = .ok (.getfield 12, 3) := by decide +kernel
theorem dX0_whole_4 : decode cX0_whole 4 = .ok (.areturn, 1) := by decide +kernel
theorem dX0_isHeld_0 : decode cX0_isHeld 0 = .ok (.aload_n 0, 1) := by decide +kernel
theorem dX0_isHeld_1 : decode cX0_isHeld 1 = .ok (.getfield 28, 3) := by decide +kernel
theorem dX0_isHeld_4 : decode cX0_isHeld 4 = .ok (.ireturn, 1) := by decide +kernel
theorem dX0_portNumber_0 : decode cX0_portNumber 0 = .ok (.aload_n 0, 1) := by decide +kernel
theorem dX0_portNumber_1 : decode cX0_portNumber 1 = .ok (.getfield 32, 3) := by decide +kernel
theorem dX0_portNumber_4 : decode cX0_portNumber 4 = .ok (.ireturn, 1) := by decide +kernel
theorem dX0_beginOf_0 : decode cX0_beginOf 0 = .ok (.iload_n 1, 1) := by decide +kernel
theorem dX0_beginOf_1 : decode cX0_beginOf 1 = .ok (.ifCond .lt 21, 3) := by decide +kernel
theorem dX0_beginOf_4 : decode cX0_beginOf 4 = .ok (.iload_n 1, 1) := by decide +kernel
theorem dX0_beginOf_5 : decode cX0_beginOf 5 = .ok (.aload_n 0, 1) := by decide +kernel
theorem dX0_beginOf_6 : decode cX0_beginOf 6 = .ok (.getfield 18, 3) := by decide +kernel
theorem dX0_beginOf_9 : decode cX0_beginOf 9 = .ok (.arraylength, 1) := by decide +kernel
theorem dX0_beginOf_10 : decode cX0_beginOf 10 = .ok (.if_icmp .ge 12, 3) := by decide +kernel
theorem dX0_beginOf_13 : decode cX0_beginOf 13 = .ok (.aload_n 0, 1) := by decide +kernel
theorem dX0_beginOf_14 : decode cX0_beginOf 14 = .ok (.getfield 18, 3) := by decide +kernel
theorem dX0_beginOf_17 : decode cX0_beginOf 17 = .ok (.iload_n 1, 1) := by decide +kernel
theorem dX0_beginOf_18 : decode cX0_beginOf 18 = .ok (.iaload, 1) := by decide +kernel
theorem dX0_beginOf_19 : decode cX0_beginOf 19 = .ok (.goto 4, 3) := by decide +kernel
theorem dX0_beginOf_22 : decode cX0_beginOf 22 = .ok (.iconst (-1), 1) := by decide +kernel
theorem dX0_beginOf_23 : decode cX0_beginOf 23 = .ok (.ireturn, 1) := by decide +kernel
theorem dX0_endOf_0 : decode cX0_endOf 0 = .ok (.iload_n 1, 1) := by decide +kernel
theorem dX0_endOf_1 : decode cX0_endOf 1 = .ok (.ifCond .lt 21, 3) := by decide +kernel
theorem dX0_endOf_4 : decode cX0_endOf 4 = .ok (.iload_n 1, 1) := by decide +kernel
theorem dX0_endOf_5 : decode cX0_endOf 5 = .ok (.aload_n 0, 1) := by decide +kernel
theorem dX0_endOf_6 : decode cX0_endOf 6 = .ok (.getfield 22, 3) := by decide +kernel
theorem dX0_endOf_9 : decode cX0_endOf 9 = .ok (.arraylength, 1) := by decide +kernel
theorem dX0_endOf_10 : decode cX0_endOf 10 = .ok (.if_icmp .ge 12, 3) := by decide +kernel
theorem dX0_endOf_13 : decode cX0_endOf 13 = .ok (.aload_n 0, 1) := by decide +kernel
theorem dX0_endOf_14 : decode cX0_endOf 14 = .ok (.getfield 22, 3) := by decide +kernel
theorem dX0_endOf_17 : decode cX0_endOf 17 = .ok (.iload_n 1, 1) := by decide +kernel
theorem dX0_endOf_18 : decode cX0_endOf 18 = .ok (.iaload, 1) := by decide +kernel
theorem dX0_endOf_19 : decode cX0_endOf 19 = .ok (.goto 4, 3) := by decide +kernel
theorem dX0_endOf_22 : decode cX0_endOf 22 = .ok (.iconst (-1), 1) := by decide +kernel
theorem dX0_endOf_23 : decode cX0_endOf 23 = .ok (.ireturn, 1) := by decide +kernel
theorem dX0_has_0 : decode cX0_has 0 = .ok (.aload_n 0, 1) := by decide +kernel
theorem dX0_has_1 : decode cX0_has 1 = .ok (.iload_n 1, 1) := by decide +kernel
theorem dX0_has_2 : decode cX0_has 2 = .ok (.invokevirtual 36, 3) := by decide +kernel
theorem dX0_has_5 : decode cX0_has 5 = .ok (.iconst (-1), 1) := by decide +kernel
theorem dX0_has_6 : decode cX0_has 6 = .ok (.if_icmp .eq 7, 3) := by decide +kernel
theorem dX0_has_9 : decode cX0_has 9 = .ok (.iconst 1, 1) := by decide +kernel
theorem dX0_has_10 : decode cX0_has 10 = .ok (.goto 4, 3) := by decide +kernel
theorem dX0_has_13 : decode cX0_has 13 = .ok (.iconst 0, 1) := by decide +kernel
theorem dX0_has_14 : decode cX0_has 14 = .ok (.ireturn, 1) := by decide +kernel
theorem dX0_sizeOf_0 : decode cX0_sizeOf 0 = .ok (.aload_n 0, 1) := by decide +kernel
theorem dX0_sizeOf_1 : decode cX0_sizeOf 1 = .ok (.iload_n 1, 1) := by decide +kernel
theorem dX0_sizeOf_2 : decode cX0_sizeOf 2 = .ok (.invokevirtual 40, 3) := by decide +kernel
theorem dX0_sizeOf_5 : decode cX0_sizeOf 5 = .ok (.ifCond .eq 17, 3) := by decide +kernel
theorem dX0_sizeOf_8 : decode cX0_sizeOf 8 = .ok (.aload_n 0, 1) := by decide +kernel
theorem dX0_sizeOf_9 : decode cX0_sizeOf 9 = .ok (.iload_n 1, 1) := by decide +kernel
theorem dX0_sizeOf_10 : decode cX0_sizeOf 10 = .ok (.invokevirtual 44, 3) := by decide +kernel
theorem dX0_sizeOf_13 : decode cX0_sizeOf 13 = .ok (.aload_n 0, 1) := by decide +kernel
theorem dX0_sizeOf_14 : decode cX0_sizeOf 14 = .ok (.iload_n 1, 1) := by decide +kernel
theorem dX0_sizeOf_15 : decode cX0_sizeOf 15 = .ok (.invokevirtual 36, 3) := by decide +kernel
theorem dX0_sizeOf_18 : decode cX0_sizeOf 18 = .ok (.isub, 1) := by decide +kernel
theorem dX0_sizeOf_19 : decode cX0_sizeOf 19 = .ok (.goto 4, 3) := by decide +kernel
theorem dX0_sizeOf_22 : decode cX0_sizeOf 22 = .ok (.iconst (-1), 1) := by decide +kernel
theorem dX0_sizeOf_23 : decode cX0_sizeOf 23 = .ok (.ireturn, 1) := by decide +kernel
theorem dX0_signOf_0 : decode cX0_signOf 0 = .ok (.aload_n 0, 1) := by decide +kernel
theorem dX0_signOf_1 : decode cX0_signOf 1 = .ok (.getfield 12, 3) := by decide +kernel
theorem dX0_signOf_4 : decode cX0_signOf 4 = .ok (.aload_n 0, 1) := by decide +kernel
theorem dX0_signOf_5 : decode cX0_signOf 5 = .ok (.iload_n 1, 1) := by decide +kernel
theorem dX0_signOf_6 : decode cX0_signOf 6 = .ok (.invokevirtual 36, 3) := by decide +kernel
theorem dX0_signOf_9 : decode cX0_signOf 9 = .ok (.iload_n 2, 1) := by decide +kernel
theorem dX0_signOf_10 : decode cX0_signOf 10 = .ok (.iadd, 1) := by decide +kernel
theorem dX0_signOf_11 : decode cX0_signOf 11 = .ok (.invokevirtual 47, 3) := by decide +kernel
theorem dX0_signOf_14 : decode cX0_signOf 14 = .ok (.ireturn, 1) := by decide +kernel
theorem dX0_putPart_0 : decode cX0_putPart 0 = .ok (.aload_n 2, 1) := by decide +kernel
theorem dX0_putPart_1 : decode cX0_putPart 1 = .ok (.aload_n 0, 1) := by decide +kernel
theorem dX0_putPart_2 : decode cX0_putPart 2 = .ok (.getfield 12, 3) := by decide +kernel
theorem dX0_putPart_5 : decode cX0_putPart 5 = .ok (.aload_n 0, 1) := by decide +kernel
theorem dX0_putPart_6 : decode cX0_putPart 6 = .ok (.iload_n 1, 1) := by decide +kernel
theorem dX0_putPart_7 : decode cX0_putPart 7 = .ok (.invokevirtual 36, 3) := by decide +kernel
theorem dX0_putPart_10 : decode cX0_putPart 10 = .ok (.aload_n 0, 1) := by decide +kernel
theorem dX0_putPart_11 : decode cX0_putPart 11 = .ok (.iload_n 1, 1) := by decide +kernel
theorem dX0_putPart_12 : decode cX0_putPart 12 = .ok (.invokevirtual 44, 3) := by decide +kernel
theorem dX0_putPart_15 : decode cX0_putPart 15 = .ok (.invokevirtual 51, 3) := by decide +kernel
theorem dX0_putPart_18 : decode cX0_putPart 18 = .ok (.return_, 1) := by decide +kernel
theorem dX0_isWhole_0 : decode cX0_isWhole 0 = .ok (.aload_n 0, 1) := by decide +kernel
theorem dX0_isWhole_1 : decode cX0_isWhole 1 = .ok (.getfield 12, 3) := by decide +kernel
theorem dX0_isWhole_4 : decode cX0_isWhole 4 = .ok (.invokevirtual 55, 3) := by decide +kernel
theorem dX0_isWhole_7 : decode cX0_isWhole 7 = .ok (.aload_n 1, 1) := by decide +kernel
theorem dX0_isWhole_8 : decode cX0_isWhole 8 = .ok (.invokevirtual 55, 3) := by decide +kernel
theorem dX0_isWhole_11 : decode cX0_isWhole 11 = .ok (.if_icmp .ne 27, 3) := by decide +kernel
theorem dX0_isWhole_14 : decode cX0_isWhole 14 = .ok (.aload_n 0, 1) := by decide +kernel
theorem dX0_isWhole_15 : decode cX0_isWhole 15 = .ok (.getfield 12, 3) := by decide +kernel
theorem dX0_isWhole_18 : decode cX0_isWhole 18 = .ok (.iconst 0, 1) := by decide +kernel
theorem dX0_isWhole_19 : decode cX0_isWhole 19 = .ok (.aload_n 0, 1) := by decide +kernel
theorem dX0_isWhole_20 : decode cX0_isWhole 20 = .ok (.getfield 12, 3) := by decide +kernel
theorem dX0_isWhole_23 : decode cX0_isWhole 23 = .ok (.invokevirtual 55, 3) := by decide +kernel
theorem dX0_isWhole_26 : decode cX0_isWhole 26 = .ok (.aload_n 1, 1) := by decide +kernel
theorem dX0_isWhole_27 : decode cX0_isWhole 27 = .ok (.iconst 0, 1) := by decide +kernel
theorem dX0_isWhole_28 : decode cX0_isWhole 28 = .ok (.invokevirtual 59, 3) := by decide +kernel
theorem dX0_isWhole_31 : decode cX0_isWhole 31 = .ok (.ifCond .eq 7, 3) := by decide +kernel
theorem dX0_isWhole_34 : decode cX0_isWhole 34 = .ok (.iconst 1, 1) := by decide +kernel
theorem dX0_isWhole_35 : decode cX0_isWhole 35 = .ok (.goto 4, 3) := by decide +kernel
theorem dX0_isWhole_38 : decode cX0_isWhole 38 = .ok (.iconst 0, 1) := by decide +kernel
theorem dX0_isWhole_39 : decode cX0_isWhole 39 = .ok (.ireturn, 1) := by decide +kernel
theorem dX0_isSkippingSlashes_0 : decode cX0_isSkippingSlashes 0 = .ok (.aload_n 0, 1) := by decide +kernel
theorem dX0_isSkippingSlashes_1 : decode cX0_isSkippingSlashes 1 = .ok (.iconst 5, 1) := by decide +kernel
theorem dX0_isSkippingSlashes_2 : decode cX0_isSkippingSlashes 2 = .ok (.invokevirtual 40, 3) := by decide +kernel
theorem dX0_isSkippingSlashes_5 : decode cX0_isSkippingSlashes 5 = .ok (.ifCond .eq 30, 3) := by decide +kernel
theorem dX0_isSkippingSlashes_8 : decode cX0_isSkippingSlashes 8 = .ok (.aload_n 0, 1) := by decide +kernel
theorem dX0_isSkippingSlashes_9 : decode cX0_isSkippingSlashes 9 = .ok (.iconst 2, 1) := by decide +kernel
theorem dX0_isSkippingSlashes_10 : decode cX0_isSkippingSlashes 10 = .ok (.invokevirtual 40, 3) := by decide +kernel
theorem dX0_isSkippingSlashes_13 : decode cX0_isSkippingSlashes 13 = .ok (.ifCond .ne 22, 3) := by decide +kernel
theorem dX0_isSkippingSlashes_16 : decode cX0_isSkippingSlashes 16 = .ok (.aload_n 0, 1) := by decide +kernel
theorem dX0_isSkippingSlashes_17 : decode cX0_isSkippingSlashes 17 = .ok (.getfield 12, 3) := by decide +kernel
theorem dX0_isSkippingSlashes_20 : decode cX0_isSkippingSlashes 20 = .ok (.aload_n 0, 1) := by decide +kernel
theorem dX0_isSkippingSlashes_21 : decode cX0_isSkippingSlashes 21 = .ok (.iconst 1, 1) := by decide +kernel
theorem dX0_isSkippingSlashes_22 : decode cX0_isSkippingSlashes 22 = .ok (.invokevirtual 36, 3) := by decide +kernel
theorem dX0_isSkippingSlashes_25 : decode cX0_isSkippingSlashes 25 = .ok (.invokestatic 63, 3) := by decide +kernel
theorem dX0_isSkippingSlashes_28 : decode cX0_isSkippingSlashes 28 = .ok (.ifCond .eq 7, 3) := by decide +kernel
theorem dX0_isSkippingSlashes_31 : decode cX0_isSkippingSlashes 31 = .ok (.iconst 1, 1) := by decide +kernel
theorem dX0_isSkippingSlashes_32 : decode cX0_isSkippingSlashes 32 = .ok (.goto 4, 3) := by decide +kernel
theorem dX0_isSkippingSlashes_35 : decode cX0_isSkippingSlashes 35 = .ok (.iconst 0, 1) := by decide +kernel
theorem dX0_isSkippingSlashes_36 : decode cX0_isSkippingSlashes 36 = .ok (.ireturn, 1) := by decide +kernel
theorem dX0_isWholeWithoutSlashes_0 : decode cX0_isWholeWithoutSlashes 0 = .ok (.aload_n 0, 1) := by decide +kernel
theorem dX0_isWholeWithoutSlashes_1 : decode cX0_isWholeWithoutSlashes 1 = .ok (.iconst 1, 1) := by decide +kernel
theorem dX0_isWholeWithoutSlashes_2 : decode cX0_isWholeWithoutSlashes 2 = .ok (.invokevirtual 36, 3) := by decide +kernel
theorem dX0_isWholeWithoutSlashes_5 : decode cX0_isWholeWithoutSlashes 5 = .ok (.istore_n 2, 1) := by decide +kernel
theorem dX0_isWholeWithoutSlashes_6 : decode cX0_isWholeWithoutSlashes 6 = .ok (.aload_n 0, 1) := by decide +kernel
theorem dX0_isWholeWithoutSlashes_7 : decode cX0_isWholeWithoutSlashes 7 = .ok (.getfield 12, 3) := by decide +kernel
theorem dX0_isWholeWithoutSlashes_10 : decode cX0_isWholeWithoutSlashes 10 = .ok (.invokevirtual 55, 3) := by decide +kernel
theorem dX0_isWholeWithoutSlashes_13 : decode cX0_isWholeWithoutSlashes 13 = .ok (.aload_n 1, 1) := by decide +kernel
theorem dX0_isWholeWithoutSlashes_14 : decode cX0_isWholeWithoutSlashes 14 = .ok (.invokevirtual 55, 3) := by decide +kernel
theorem dX0_isWholeWithoutSlashes_17 : decode cX0_isWholeWithoutSlashes 17 = .ok (.iconst 2, 1) := by decide +kernel
theorem dX0_isWholeWithoutSlashes_18 : decode cX0_isWholeWithoutSlashes 18 = .ok (.iadd, 1) := by decide +kernel
theorem dX0_isWholeWithoutSlashes_19 : decode cX0_isWholeWithoutSlashes 19 = .ok (.if_icmp .ne 43, 3) := by decide +kernel
theorem dX0_isWholeWithoutSlashes_22 : decode cX0_isWholeWithoutSlashes 22 = .ok (.aload_n 0, 1) := by decide +kernel
theorem dX0_isWholeWithoutSlashes_23 : decode cX0_isWholeWithoutSlashes 23 = .ok (.getfield 12, 3) := by decide +kernel
theorem dX0_isWholeWithoutSlashes_26 : decode cX0_isWholeWithoutSlashes 26 = .ok (.iconst 0, 1) := by decide +kernel
theorem dX0_isWholeWithoutSlashes_27 : decode cX0_isWholeWithoutSlashes 27 = .ok (.iload_n 2, 1) := by decide +kernel
theorem dX0_isWholeWithoutSlashes_28 : decode cX0_isWholeWithoutSlashes 28 = .ok (.aload_n 1, 1) := by decide +kernel
theorem dX0_isWholeWithoutSlashes_29 : decode cX0_isWholeWithoutSlashes 29 = .ok (.iconst 0, 1) := by decide +kernel
theorem dX0_isWholeWithoutSlashes_30 : decode cX0_isWholeWithoutSlashes 30 = .ok (.invokevirtual 59, 3) := by decide +kernel
theorem dX0_isWholeWithoutSlashes_33 : decode cX0_isWholeWithoutSlashes 33 = .ok (.ifCond .eq 29, 3) := by decide +kernel
theorem dX0_isWholeWithoutSlashes_36 : decode cX0_isWholeWithoutSlashes 36 = .ok (.aload_n 0, 1) := by decide +kernel
theorem dX0_isWholeWithoutSlashes_37 : decode cX0_isWholeWithoutSlashes 37 = .ok (.getfield 12, 3) := by decide +kernel
theorem dX0_isWholeWithoutSlashes_40 : decode cX0_isWholeWithoutSlashes 40 = .ok (.iload_n 2, 1) := by decide +kernel
theorem dX0_isWholeWithoutSlashes_41 : decode cX0_isWholeWithoutSlashes 41 = .ok (.iconst 2, 1) := by decide +kernel
theorem dX0_isWholeWithoutSlashes_42 : decode cX0_isWholeWithoutSlashes 42 = .ok (.iadd, 1) := by decide +kernel
theorem dX0_isWholeWithoutSlashes_43 : decode cX0_isWholeWithoutSlashes 43 = .ok (.aload_n 0, 1) := by decide +kernel
theorem dX0_isWholeWithoutSlashes_44 : decode cX0_isWholeWithoutSlashes 44 = .ok (.getfield 12, 3) := by decide +kernel
theorem dX0_isWholeWithoutSlashes_47 : decode cX0_isWholeWithoutSlashes 47 = .ok (.invokevirtual 55, 3) := by decide +kernel
theorem dX0_isWholeWithoutSlashes_50 : decode cX0_isWholeWithoutSlashes 50 = .ok (.aload_n 1, 1) := by decide +kernel
theorem dX0_isWholeWithoutSlashes_51 : decode cX0_isWholeWithoutSlashes 51 = .ok (.iload_n 2, 1) := by decide +kernel
theorem dX0_isWholeWithoutSlashes_52 : decode cX0_isWholeWithoutSlashes 52 = .ok (.invokevirtual 59, 3) := by decide +kernel
theorem dX0_isWholeWithoutSlashes_55 : decode cX0_isWholeWithoutSlashes 55 = .ok (.ifCond .eq 7, 3) := by decide +kernel
theorem dX0_isWholeWithoutSlashes_58 : decode cX0_isWholeWithoutSlashes 58 = .ok (.iconst 1, 1) := by decide +kernel
theorem dX0_isWholeWithoutSlashes_59 : decode cX0_isWholeWithoutSlashes 59 = .ok (.goto 4, 3) := by decide +kernel
theorem dX0_isWholeWithoutSlashes_62 : decode cX0_isWholeWithoutSlashes 62 = .ok (.iconst 0, 1) := by decide +kernel
theorem dX0_isWholeWithoutSlashes_63 : decode cX0_isWholeWithoutSlashes 63 = .ok (.ireturn, 1) := by decide +kernel
theorem dX0_partsAlike_0 : decode cX0_partsAlike 0 = .ok (.iconst 0, 1) := by decide +kernel
theorem dX0_partsAlike_1 : decode cX0_partsAlike 1 = .ok (.istore_n 2, 1) := by decide +kernel
theorem dX0_partsAlike_2 : decode cX0_partsAlike 2 = .ok (.iconst 0, 1) := by decide +kernel
theorem dX0_partsAlike_3 : decode cX0_partsAlike 3 = .ok (.istore_n 3, 1) := by decide +kernel
theorem dX0_partsAlike_4 : decode cX0_partsAlike 4 = .ok (.iload_n 3, 1) := by decide +kernel
theorem dX0_partsAlike_5 : decode cX0_partsAlike 5 = .ok (.bipush 9, 2) := by decide +kernel
theorem dX0_partsAlike_7 : decode cX0_partsAlike 7 = .ok (.if_icmp .ge 21, 3) := by decide +kernel
theorem dX0_partsAlike_10 : decode cX0_partsAlike 10 = .ok (.aload_n 0, 1) := by decide +kernel
theorem dX0_partsAlike_11 : decode cX0_partsAlike 11 = .ok (.aload_n 1, 1) := by decide +kernel
theorem dX0_partsAlike_12 : decode cX0_partsAlike 12 = .ok (.iload_n 3, 1) := by decide +kernel
theorem dX0_partsAlike_13 : decode cX0_partsAlike 13 = .ok (.invokevirtual 69, 3) := by decide +kernel
theorem dX0_partsAlike_16 : decode cX0_partsAlike 16 = .ok (.ifCond .eq 6, 3) := by decide +kernel
theorem dX0_partsAlike_19 : decode cX0_partsAlike 19 = .ok (.iinc 2 1, 3) := by decide +kernel
theorem dX0_partsAlike_22 : decode cX0_partsAlike 22 = .ok (.iinc 3 1, 3) := by decide +kernel
theorem dX0_partsAlike_25 : decode cX0_partsAlike 25 = .ok (.goto (-21), 3) := by decide +kernel
theorem dX0_partsAlike_28 : decode cX0_partsAlike 28 = .ok (.iload_n 2, 1) := by decide +kernel
theorem dX0_partsAlike_29 : decode cX0_partsAlike 29 = .ok (.ireturn, 1) := by decide +kernel
theorem dX0_isPartAlike_0 : decode cX0_isPartAlike 0 = .ok (.aload_n 0, 1) := by decide +kernel
theorem dX0_isPartAlike_1 : decode cX0_isPartAlike 1 = .ok (.iload_n 2, 1) := by decide +kernel
theorem dX0_isPartAlike_2 : decode cX0_isPartAlike 2 = .ok (.invokevirtual 73, 3) := by decide +kernel
theorem dX0_isPartAlike_5 : decode cX0_isPartAlike 5 = .ok (.aload_n 1, 1) := by decide +kernel
theorem dX0_isPartAlike_6 : decode cX0_isPartAlike 6 = .ok (.iload_n 2, 1) := by decide +kernel
theorem dX0_isPartAlike_7 : decode cX0_isPartAlike 7 = .ok (.invokevirtual 73, 3) := by decide +kernel
theorem dX0_isPartAlike_10 : decode cX0_isPartAlike 10 = .ok (.if_icmp .ne 36, 3) := by decide +kernel
theorem dX0_isPartAlike_13 : decode cX0_isPartAlike 13 = .ok (.aload_n 0, 1) := by decide +kernel
theorem dX0_isPartAlike_14 : decode cX0_isPartAlike 14 = .ok (.getfield 12, 3) := by decide +kernel
theorem dX0_isPartAlike_17 : decode cX0_isPartAlike 17 = .ok (.aload_n 0, 1) := by decide +kernel
theorem dX0_isPartAlike_18 : decode cX0_isPartAlike 18 = .ok (.iload_n 2, 1) := by decide +kernel
theorem dX0_isPartAlike_19 : decode cX0_isPartAlike 19 = .ok (.invokevirtual 36, 3) := by decide +kernel
theorem dX0_isPartAlike_22 : decode cX0_isPartAlike 22 = .ok (.aload_n 0, 1) := by decide +kernel
theorem dX0_isPartAlike_23 : decode cX0_isPartAlike 23 = .ok (.iload_n 2, 1) := by decide +kernel
theorem dX0_isPartAlike_24 : decode cX0_isPartAlike 24 = .ok (.invokevirtual 44, 3) := by decide +kernel
theorem dX0_isPartAlike_27 : decode cX0_isPartAlike 27 = .ok (.aload_n 1, 1) := by decide +kernel
theorem dX0_isPartAlike_28 : decode cX0_isPartAlike 28 = .ok (.getfield 12, 3) := by decide +kernel
theorem dX0_isPartAlike_31 : decode cX0_isPartAlike 31 = .ok (.aload_n 1, 1) := by decide +kernel
theorem dX0_isPartAlike_32 : decode cX0_isPartAlike 32 = .ok (.iload_n 2, 1) := by decide +kernel
theorem dX0_isPartAlike_33 : decode cX0_isPartAlike 33 = .ok (.invokevirtual 36, 3) := by decide +kernel
theorem dX0_isPartAlike_36 : decode cX0_isPartAlike 36 = .ok (.invokevirtual 59, 3) := by decide +kernel
theorem dX0_isPartAlike_39 : decode cX0_isPartAlike 39 = .ok (.ifCond .eq 7, 3) := by decide +kernel
theorem dX0_isPartAlike_42 : decode cX0_isPartAlike 42 = .ok (.iconst 1, 1) := by decide +kernel
theorem dX0_isPartAlike_43 : decode cX0_isPartAlike 43 = .ok (.goto 4, 3) := by decide +kernel
theorem dX0_isPartAlike_46 : decode cX0_isPartAlike 46 = .ok (.iconst 0, 1) := by decide +kernel
theorem dX0_isPartAlike_47 : decode cX0_isPartAlike 47 = .ok (.ireturn, 1) := by decide +kernel
theorem dX0_sumBehind_0 : decode cX0_sumBehind 0 = .ok (.aload_n 0, 1) := by decide +kernel
theorem dX0_sumBehind_1 : decode cX0_sumBehind 1 = .ok (.getfield 28, 3) := by decide +kernel
theorem dX0_sumBehind_4 : decode cX0_sumBehind 4 = .ok (.ifCond .ne 9, 3) := by decide +kernel
theorem dX0_sumBehind_7 : decode cX0_sumBehind 7 = .ok (.ldc2_w 76, 3) := by decide +kernel
theorem dX0_sumBehind_10 : decode cX0_sumBehind 10 = .ok (.lload_n 1, 1) := by decide +kernel
theorem dX0_sumBehind_11 : decode cX0_sumBehind 11 = .ok (.lmul, 1) := by decide +kernel
theorem dX0_sumBehind_12 : decode cX0_sumBehind 12 = .ok (.lreturn, 1) := by decide +kernel
theorem dX0_sumBehind_13 : decode cX0_sumBehind 13 = .ok (.lload_n 1, 1) := by decide +kernel
theorem dX0_sumBehind_14 : decode cX0_sumBehind 14 = .ok (.lstore_n 3, 1) := by decide +kernel
theorem dX0_sumBehind_15 : decode cX0_sumBehind 15 = .ok (.iconst 0, 1) := by decide +kernel
theorem dX0_sumBehind_16 : decode cX0_sumBehind 16 = .ok (.istore 5, 2) := by decide +kernel
theorem dX0_sumBehind_18 : decode cX0_sumBehind 18 = .ok (.iload 5, 2) := by decide +kernel
theorem dX0_sumBehind_20 : decode cX0_sumBehind 20 = .ok (.bipush 9, 2) := by decide +kernel
theorem dX0_sumBehind_22 : decode cX0_sumBehind 22 = .ok (.if_icmp .ge 23, 3) := by decide +kernel
theorem dX0_sumBehind_25 : decode cX0_sumBehind 25 = .ok (.ldc2_w 76, 3) := by decide +kernel
theorem dX0_sumBehind_28 : decode cX0_sumBehind 28 = .ok (.lload_n 3, 1) := by decide +kernel
theorem dX0_sumBehind_29 : decode cX0_sumBehind 29 = .ok (.lmul, 1) := by decide +kernel
theorem dX0_sumBehind_30 : decode cX0_sumBehind 30 = .ok (.aload_n 0, 1) := by decide +kernel
theorem dX0_sumBehind_31 : decode cX0_sumBehind 31 = .ok (.iload 5, 2) := by decide +kernel
theorem dX0_sumBehind_33 : decode cX0_sumBehind 33 = .ok (.invokevirtual 73, 3) := by decide +kernel
theorem dX0_sumBehind_36 : decode cX0_sumBehind 36 = .ok (.i2l, 1) := by decide +kernel
theorem dX0_sumBehind_37 : decode cX0_sumBehind 37 = .ok (.ladd, 1) := by decide +kernel
theorem dX0_sumBehind_38 : decode cX0_sumBehind 38 = .ok (.lstore_n 3, 1) := by decide +kernel
theorem dX0_sumBehind_39 : decode cX0_sumBehind 39 = .ok (.iinc 5 1, 3) := by decide +kernel
theorem dX0_sumBehind_42 : decode cX0_sumBehind 42 = .ok (.goto (-24), 3) := by decide +kernel
theorem dX0_sumBehind_45 : decode cX0_sumBehind 45 = .ok (.ldc2_w 76, 3) := by decide +kernel
theorem dX0_sumBehind_48 : decode cX0_sumBehind 48 = .ok (.lload_n 3, 1) := by decide +kernel
theorem dX0_sumBehind_49 : decode cX0_sumBehind 49 = .ok (.lmul, 1) := by decide +kernel
theorem dX0_sumBehind_50 : decode cX0_sumBehind 50 = .ok (.aload_n 0, 1) := by decide +kernel
theorem dX0_sumBehind_51 : decode cX0_sumBehind 51 = .ok (.getfield 32, 3) := by decide +kernel
theorem dX0_sumBehind_54 : decode cX0_sumBehind 54 = .ok (.i2l, 1) := by decide +kernel
theorem dX0_sumBehind_55 : decode cX0_sumBehind 55 = .ok (.ladd, 1) := by decide +kernel
theorem dX0_sumBehind_56 : decode cX0_sumBehind 56 = .ok (.lreturn, 1) := by decide +kernel
theorem dX0_takeOver_0 : decode cX0_takeOver 0 = .ok (.aload_n 0, 1) := by decide +kernel
theorem dX0_takeOver_1 : decode cX0_takeOver 1 = .ok (.getfield 12, 3) := by decide +kernel
theorem dX0_takeOver_4 : decode cX0_takeOver 4 = .ok (.aload_n 1, 1) := by decide +kernel
theorem dX0_takeOver_5 : decode cX0_takeOver 5 = .ok (.getfield 12, 3) := by decide +kernel
theorem dX0_takeOver_8 : decode cX0_takeOver 8 = .ok (.invokevirtual 78, 3) := by decide +kernel
theorem dX0_takeOver_11 : decode cX0_takeOver 11 = .ok (.iconst 0, 1) := by decide +kernel
theorem dX0_takeOver_12 : decode cX0_takeOver 12 = .ok (.istore_n 2, 1) := by decide +kernel
theorem dX0_takeOver_13 : decode cX0_takeOver 13 = .ok (.iload_n 2, 1) := by decide +kernel
theorem dX0_takeOver_14 : decode cX0_takeOver 14 = .ok (.bipush 9, 2) := by decide +kernel
theorem dX0_takeOver_16 : decode cX0_takeOver 16 = .ok (.if_icmp .ge 24, 3) := by decide +kernel
theorem dX0_takeOver_19 : decode cX0_takeOver 19 = .ok (.aload_n 0, 1) := by decide +kernel
theorem dX0_takeOver_20 : decode cX0_takeOver 20 = .ok (.iload_n 2, 1) := by decide +kernel
theorem dX0_takeOver_21 : decode cX0_takeOver 21 = .ok (.aload_n 1, 1) := by decide +kernel
theorem dX0_takeOver_22 : decode cX0_takeOver 22 = .ok (.iload_n 2, 1) := by decide +kernel
theorem dX0_takeOver_23 : decode cX0_takeOver 23 = .ok (.invokevirtual 36, 3) := by decide +kernel
theorem dX0_takeOver_26 : decode cX0_takeOver 26 = .ok (.aload_n 1, 1) := by decide +kernel
theorem dX0_takeOver_27 : decode cX0_takeOver 27 = .ok (.iload_n 2, 1) := by decide +kernel
theorem dX0_takeOver_28 : decode cX0_takeOver 28 = .ok (.invokevirtual 44, 3) := by decide +kernel
theorem dX0_takeOver_31 : decode cX0_takeOver 31 = .ok (.invokevirtual 82, 3) := by decide +kernel
theorem dX0_takeOver_34 : decode cX0_takeOver 34 = .ok (.iinc 2 1, 3) := by decide +kernel
theorem dX0_takeOver_37 : decode cX0_takeOver 37 = .ok (.goto (-24), 3) := by decide +kernel
theorem dX0_takeOver_40 : decode cX0_takeOver 40 = .ok (.aload_n 0, 1) := by decide +kernel
theorem dX0_takeOver_41 : decode cX0_takeOver 41 = .ok (.aload_n 1, 1) := by decide +kernel
theorem dX0_takeOver_42 : decode cX0_takeOver 42 = .ok (.getfield 32, 3) := by decide +kernel
theorem dX0_takeOver_45 : decode cX0_takeOver 45 = .ok (.putfield 32, 3) := by decide +kernel
theorem dX0_takeOver_48 : decode cX0_takeOver 48 = .ok (.aload_n 0, 1) := by decide +kernel
theorem dX0_takeOver_49 : decode cX0_takeOver 49 = .ok (.aload_n 1, 1) := by decide +kernel
theorem dX0_takeOver_50 : decode cX0_takeOver 50 = .ok (.getfield 28, 3) := by decide +kernel
theorem dX0_takeOver_53 : decode cX0_takeOver 53 = .ok (.putfield 28, 3) := by decide +kernel
theorem dX0_takeOver_56 : decode cX0_takeOver 56 = .ok (.return_, 1) := by decide +kernel
theorem dX0_mark_0 : decode cX0_mark 0 = .ok (.iload_n 1, 1) := by decide +kernel
theorem dX0_mark_1 : decode cX0_mark 1 = .ok (.ifCond .lt 35, 3) := by decide +kernel
theorem dX0_mark_4 : decode cX0_mark 4 = .ok (.iload_n 1, 1) := by decide +kernel
theorem dX0_mark_5 : decode cX0_mark 5 = .ok (.aload_n 0, 1) := by decide +kernel
theorem dX0_mark_6 : decode cX0_mark 6 = .ok (.getfield 18, 3) := by decide +kernel
theorem dX0_mark_9 : decode cX0_mark 9 = .ok (.arraylength, 1) := by decide +kernel
theorem dX0_mark_10 : decode cX0_mark 10 = .ok (.if_icmp .ge 26, 3) := by decide +kernel
theorem dX0_mark_13 : decode cX0_mark 13 = .ok (.iload_n 1, 1) := by decide +kernel
theorem dX0_mark_14 : decode cX0_mark 14 = .ok (.aload_n 0, 1) := by decide +kernel
theorem dX0_mark_15 : decode cX0_mark 15 = .ok (.getfield 22, 3) := by decide +kernel
theorem dX0_mark_18 : decode cX0_mark 18 = .ok (.arraylength, 1) := by decide +kernel
theorem dX0_mark_19 : decode cX0_mark 19 = .ok (.if_icmp .ge 17, 3) := by decide +kernel
theorem dX0_mark_22 : decode cX0_mark 22 = .ok (.aload_n 0, 1) := by decide +kernel
theorem dX0_mark_23 : decode cX0_mark 23 = .ok (.getfield 18, 3) := by decide +kernel
theorem dX0_mark_26 : decode cX0_mark 26 = .ok (.iload_n 1, 1) := by decide +kernel
theorem dX0_mark_27 : decode cX0_mark 27 = .ok (.iload_n 2, 1) := by decide +kernel
theorem dX0_mark_28 : decode cX0_mark 28 = .ok (.iastore, 1) := by decide +kernel
theorem dX0_mark_29 : decode cX0_mark 29 = .ok (.aload_n 0, 1) := by decide +kernel
theorem dX0_mark_30 : decode cX0_mark 30 = .ok (.getfield 22, 3) := by decide +kernel
theorem dX0_mark_33 : decode cX0_mark 33 = .ok (.iload_n 1, 1) := by decide +kernel
theorem dX0_mark_34 : decode cX0_mark 34 = .ok (.iload_n 3, 1) := by decide +kernel
theorem dX0_mark_35 : decode cX0_mark 35 = .ok (.iastore, 1) := by decide +kernel
theorem dX0_mark_36 : decode cX0_mark 36 = .ok (.return_, 1) := by decide +kernel
theorem dX0_forget_0 : decode cX0_forget 0 = .ok (.iconst 0, 1) := by decide +kernel
theorem dX0_forget_1 : decode cX0_forget 1 = .ok (.istore_n 1, 1) := by decide +kernel
theorem dX0_forget_2 : decode cX0_forget 2 = .ok (.iload_n 1, 1) := by decide +kernel
theorem dX0_forget_3 : decode cX0_forget 3 = .ok (.bipush 9, 2) := by decide +kernel
theorem dX0_forget_5 : decode cX0_forget 5 = .ok (.if_icmp .ge 16, 3) := by decide +kernel
theorem dX0_forget_8 : decode cX0_forget 8 = .ok (.aload_n 0, 1) := by decide +kernel
theorem dX0_forget_9 : decode cX0_forget 9 = .ok (.iload_n 1, 1) := by decide +kernel
theorem dX0_forget_10 : decode cX0_forget 10 = .ok (.iconst (-1), 1) := by decide +kernel
theorem dX0_forget_11 : decode cX0_forget 11 = .ok (.iconst (-1), 1) := by decide +kernel
theorem dX0_forget_12 : decode cX0_forget 12 = .ok (.invokevirtual 82, 3) := by decide +kernel
theorem dX0_forget_15 : decode cX0_forget 15 = .ok (.iinc 1 1, 3) := by decide +kernel
theorem dX0_forget_18 : decode cX0_forget 18 = .ok (.goto (-16), 3) := by decide +kernel
theorem dX0_forget_21 : decode cX0_forget 21 = .ok (.aload_n 0, 1) := by decide +kernel
theorem dX0_forget_22 : decode cX0_forget 22 = .ok (.iconst (-1), 1) := by decide +kernel
theorem dX0_forget_23 : decode cX0_forget 23 = .ok (.putfield 32, 3) := by decide +kernel
theorem dX0_forget_26 : decode cX0_forget 26 = .ok (.aload_n 0, 1) := by decide +kernel
theorem dX0_forget_27 : decode cX0_forget 27 = .ok (.iconst 0, 1) := by decide +kernel
theorem dX0_forget_28 : decode cX0_forget 28 = .ok (.putfield 28, 3) := by decide +kernel
theorem dX0_forget_31 : decode cX0_forget 31 = .ok (.return_, 1) := by decide +kernel
theorem dX0_setPort_0 : decode cX0_setPort 0 = .ok (.aload_n 0, 1) := by decide +kernel
theorem dX0_setPort_1 : decode cX0_setPort 1 = .ok (.iload_n 1, 1) := by decide +kernel
theorem dX0_setPort_2 : decode cX0_setPort 2 = .ok (.putfield 32, 3) := by decide +kernel
theorem dX0_setPort_5 : decode cX0_setPort 5 = .ok (.return_, 1) := by decide +kernel
theorem dX0_setHeld_0 : decode cX0_setHeld 0 = .ok (.aload_n 0, 1) := by decide +kernel
theorem dX0_setHeld_1 : decode cX0_setHeld 1 = .ok (.iload_n 1, 1) := by decide +kernel
theorem dX0_setHeld_2 : decode cX0_setHeld 2 = .ok (.putfield 28, 3) := by decide +kernel
theorem dX0_setHeld_5 : decode cX0_setHeld 5 = .ok (.return_, 1) := by decide +kernel
theorem dX1_init_0 : decode cX1_init 0 = .ok (.aload_n 0, 1) := by decide +kernel
theorem dX1_init_1 : decode cX1_init 1 = .ok (.invokespecial 3, 3) := by decide +kernel
theorem dX1_init_4 : decode cX1_init 4 = .ok (.aload_n 0, 1) := by decide +kernel
theorem dX1_init_5 : decode cX1_init 5 = .ok (.new 9, 3) := by decide +kernel
theorem dX1_init_8 : decode cX1_init 8 = .ok (.dup, 1) := by decide +kernel
theorem dX1_init_9 : decode cX1_init 9 = .ok (.invokespecial 11, 3) := by decide +kernel
theorem dX1_init_12 : decode cX1_init 12 = .ok (.putfield 12, 3) := by decide +kernel
theorem dX1_init_15 : decode cX1_init 15 = .ok (.aload_n 0, 1) := by decide +kernel
theorem dX1_init_16 : decode cX1_init 16 = .ok (.aload_n 0, 1) := by decide +kernel
theorem dX1_init_17 : decode cX1_init 17 = .ok (.getfield 12, 3) := by decide +kernel
theorem dX1_init_20 : decode cX1_init 20 = .ok (.invokevirtual 18, 3) := by decide +kernel
theorem dX1_init_23 : decode cX1_init 23 = .ok (.putfield 22, 3) := by decide +kernel
theorem dX1_init_26 : decode cX1_init 26 = .ok (.return_, 1) := by decide +kernel
theorem dX1_address_0 : decode cX1_address 0 = .ok (.aload_n 0, 1) := by decide +kernel
theorem dX1_address_1 : decode cX1_address 1 = .ok (.getfield 12, 3) := by decide +kernel
theorem dX1_address_4 : decode cX1_address 4 = .ok (.areturn, 1) := by decide +kernel
theorem dX1_cut_0 : decode cX1_cut 0 = .ok (.aload_n 0, 1) := by decide +kernel
theorem dX1_cut_1 : decode cX1_cut 1 = .ok (.iconst (-1), 1) := by decide +kernel
theorem dX1_cut_2 : decode cX1_cut 2 = .ok (.putfield 26, 3) := by decide +kernel
theorem dX1_cut_5 : decode cX1_cut 5 = .ok (.aload_n 0, 1) := by decide +kernel
theorem dX1_cut_6 : decode cX1_cut 6 = .ok (.getfield 12, 3) := by decide +kernel
theorem dX1_cut_9 : decode cX1_cut 9 = .ok (.invokevirtual 30, 3) := by decide +kernel
theorem dX1_cut_12 : decode cX1_cut 12 = .ok (.aload_n 0, 1) := by decide +kernel
theorem dX1_cut_13 : decode cX1_cut 13 = .ok (.getfield 22, 3) := by decide +kernel
theorem dX1_cut_16 : decode cX1_cut 16 = .ok (.aload_n 1, 1) := by decide +kernel
theorem dX1_cut_17 : decode cX1_cut 17 = .ok (.invokevirtual 33, 3) := by decide +kernel
theorem dX1_cut_20 : decode cX1_cut 20 = .ok (.aload_n 0, 1) := by decide +kernel
theorem dX1_cut_21 : decode cX1_cut 21 = .ok (.getfield 12, 3) := by decide +kernel
theorem dX1_cut_24 : decode cX1_cut 24 = .ok (.bipush 8, 2) := by decide +kernel
theorem dX1_cut_26 : decode cX1_cut 26 = .ok (.iconst 0, 1) := by decide +kernel
theorem dX1_cut_27 : decode cX1_cut 27 = .ok (.aload_n 0, 1) := by decide +kernel
theorem dX1_cut_28 : decode cX1_cut 28 = .ok (.getfield 22, 3) := by decide +kernel
theorem dX1_cut_31 : decode cX1_cut 31 = .ok (.invokevirtual 39, 3) := by decide +kernel
theorem dX1_cut_34 : decode cX1_cut 34 = .ok (.invokevirtual 43, 3) := by decide +kernel
theorem dX1_cut_37 : decode cX1_cut 37 = .ok (.aload_n 0, 1) := by decide +kernel
theorem dX1_cut_38 : decode cX1_cut 38 = .ok (.getfield 22, 3) := by decide +kernel
theorem dX1_cut_41 : decode cX1_cut 41 = .ok (.invokestatic 47, 3) := by decide +kernel
theorem dX1_cut_44 : decode cX1_cut 44 = .ok (.istore_n 2, 1) := by decide +kernel
theorem dX1_cut_45 : decode cX1_cut 45 = .ok (.iload_n 2, 1) := by decide +kernel
theorem dX1_cut_46 : decode cX1_cut 46 = .ok (.iconst 1, 1) := by decide +kernel
theorem dX1_cut_47 : decode cX1_cut 47 = .ok (.iadd, 1) := by decide +kernel
theorem dX1_cut_48 : decode cX1_cut 48 = .ok (.istore_n 3, 1) := by decide +kernel
theorem dX1_cut_49 : decode cX1_cut 49 = .ok (.aload_n 0, 1) := by decide +kernel
theorem dX1_cut_50 : decode cX1_cut 50 = .ok (.iload_n 2, 1) := by decide +kernel
theorem dX1_cut_51 : decode cX1_cut 51 = .ok (.invokevirtual 53, 3) := by decide +kernel
theorem dX1_cut_54 : decode cX1_cut 54 = .ok (.iload_n 2, 1) := by decide +kernel
theorem dX1_cut_55 : decode cX1_cut 55 = .ok (.iconst (-1), 1) := by decide +kernel
theorem dX1_cut_56 : decode cX1_cut 56 = .ok (.if_icmp .eq 20, 3) := by decide +kernel
theorem dX1_cut_59 : decode cX1_cut 59 = .ok (.aload_n 0, 1) := by decide +kernel
theorem dX1_cut_60 : decode cX1_cut 60 = .ok (.getfield 22, 3) := by decide +kernel
theorem dX1_cut_63 : decode cX1_cut 63 = .ok (.iload_n 3, 1) := by decide +kernel
theorem dX1_cut_64 : decode cX1_cut 64 = .ok (.invokevirtual 57, 3) := by decide +kernel
theorem dX1_cut_67 : decode cX1_cut 67 = .ok (.bipush 47, 2) := by decide +kernel
theorem dX1_cut_69 : decode cX1_cut 69 = .ok (.if_icmp .eq 7, 3) := by decide +kernel
theorem dX1_cut_72 : decode cX1_cut 72 = .ok (.iconst 1, 1) := by decide +kernel
theorem dX1_cut_73 : decode cX1_cut 73 = .ok (.goto 4, 3) := by decide +kernel
theorem dX1_cut_76 : decode cX1_cut 76 = .ok (.iconst 0, 1) := by decide +kernel
theorem dX1_cut_77 : decode cX1_cut 77 = .ok (.istore 4, 2) := by decide +kernel
theorem dX1_cut_79 : decode cX1_cut 79 = .ok (.aload_n 0, 1) := by decide +kernel
theorem dX1_cut_80 : decode cX1_cut 80 = .ok (.iload 4, 2) := by decide +kernel
theorem dX1_cut_82 : decode cX1_cut 82 = .ok (.ifCond .eq 11, 3) := by decide +kernel
theorem dX1_cut_85 : decode cX1_cut 85 = .ok (.aload_n 0, 1) := by decide +kernel
theorem dX1_cut_86 : decode cX1_cut 86 = .ok (.iload_n 3, 1) := by decide +kernel
theorem dX1_cut_87 : decode cX1_cut 87 = .ok (.invokevirtual 61, 3) := by decide +kernel
theorem dX1_cut_90 : decode cX1_cut 90 = .ok (.goto 13, 3) := by decide +kernel
theorem dX1_cut_93 : decode cX1_cut 93 = .ok (.aload_n 0, 1) := by decide +kernel
theorem dX1_cut_94 : decode cX1_cut 94 = .ok (.iload_n 3, 1) := by decide +kernel
theorem dX1_cut_95 : decode cX1_cut 95 = .ok (.aload_n 0, 1) := by decide +kernel
theorem dX1_cut_96 : decode cX1_cut 96 = .ok (.iload_n 3, 1) := by decide +kernel
theorem dX1_cut_97 : decode cX1_cut 97 = .ok (.invokevirtual 65, 3) := by decide +kernel
theorem dX1_cut_100 : decode cX1_cut 100 = .ok (.invokevirtual 68, 3) := by decide +kernel
theorem dX1_cut_103 : decode cX1_cut 103 = .ok (.invokevirtual 72, 3) := by decide +kernel
theorem dX1_cut_106 : decode cX1_cut 106 = .ok (.aload_n 0, 1) := by decide +kernel
theorem dX1_cut_107 : decode cX1_cut 107 = .ok (.getfield 12, 3) := by decide +kernel
theorem dX1_cut_110 : decode cX1_cut 110 = .ok (.iconst 2, 1) := by decide +kernel
theorem dX1_cut_111 : decode cX1_cut 111 = .ok (.invokevirtual 75, 3) := by decide +kernel
theorem dX1_cut_114 : decode cX1_cut 114 = .ok (.ifCond .eq 23, 3) := by decide +kernel
theorem dX1_cut_117 : decode cX1_cut 117 = .ok (.aload_n 0, 1) := by decide +kernel
theorem dX1_cut_118 : decode cX1_cut 118 = .ok (.aload_n 0, 1) := by decide +kernel
theorem dX1_cut_119 : decode cX1_cut 119 = .ok (.getfield 12, 3) := by decide +kernel
theorem dX1_cut_122 : decode cX1_cut 122 = .ok (.iconst 2, 1) := by decide +kernel
theorem dX1_cut_123 : decode cX1_cut 123 = .ok (.invokevirtual 79, 3) := by decide +kernel
theorem dX1_cut_126 : decode cX1_cut 126 = .ok (.aload_n 0, 1) := by decide +kernel
theorem dX1_cut_127 : decode cX1_cut 127 = .ok (.getfield 12, 3) := by decide +kernel
theorem dX1_cut_130 : decode cX1_cut 130 = .ok (.iconst 2, 1) := by decide +kernel
theorem dX1_cut_131 : decode cX1_cut 131 = .ok (.invokevirtual 82, 3) := by decide +kernel
theorem dX1_cut_134 : decode cX1_cut 134 = .ok (.invokevirtual 85, 3) := by decide +kernel
theorem dX1_cut_137 : decode cX1_cut 137 = .ok (.aload_n 0, 1) := by decide +kernel
theorem dX1_cut_138 : decode cX1_cut 138 = .ok (.getfield 12, 3) := by decide +kernel
theorem dX1_cut_141 : decode cX1_cut 141 = .ok (.aload_n 0, 1) := by decide +kernel
theorem dX1_cut_142 : decode cX1_cut 142 = .ok (.getfield 26, 3) := by decide +kernel
theorem dX1_cut_145 : decode cX1_cut 145 = .ok (.iconst (-1), 1) := by decide +kernel
theorem dX1_cut_146 : decode cX1_cut 146 = .ok (.if_icmp .ne 7, 3) := by decide +kernel
theorem dX1_cut_149 : decode cX1_cut 149 = .ok (.iconst 1, 1) := by decide +kernel
theorem dX1_cut_150 : decode cX1_cut 150 = .ok (.goto 4, 3) := by decide +kernel
theorem dX1_cut_153 : decode cX1_cut 153 = .ok (.iconst 0, 1) := by decide +kernel
theorem dX1_cut_154 : decode cX1_cut 154 = .ok (.invokevirtual 89, 3) := by decide +kernel
theorem dX1_cut_157 : decode cX1_cut 157 = .ok (.aload_n 0, 1) := by decide +kernel
theorem dX1_cut_158 : decode cX1_cut 158 = .ok (.getfield 26, 3) := by decide +kernel
theorem dX1_cut_161 : decode cX1_cut 161 = .ok (.ireturn, 1) := by decide +kernel
theorem dX1_refuse_0 : decode cX1_refuse 0 = .ok (.aload_n 0, 1) := by decide +kernel
theorem dX1_refuse_1 : decode cX1_refuse 1 = .ok (.getfield 26, 3) := by decide +kernel
theorem dX1_refuse_4 : decode cX1_refuse 4 = .ok (.iconst (-1), 1) := by decide +kernel
theorem dX1_refuse_5 : decode cX1_refuse 5 = .ok (.if_icmp .ne 8, 3) := by decide +kernel
theorem dX1_refuse_8 : decode cX1_refuse 8 = .ok (.aload_n 0, 1) := by decide +kernel
theorem dX1_refuse_9 : decode cX1_refuse 9 = .ok (.iload_n 1, 1) := by decide +kernel
theorem dX1_refuse_10 : decode cX1_refuse 10 = .ok (.putfield 26, 3) := by decide +kernel
theorem dX1_refuse_13 : decode cX1_refuse 13 = .ok (.return_, 1) := by decide +kernel
theorem dX1_cutScheme_0 : decode cX1_cutScheme 0 = .ok (.iload_n 1, 1) := by decide +kernel
theorem dX1_cutScheme_1 : decode cX1_cutScheme 1 = .ok (.iconst (-1), 1) := by decide +kernel
theorem dX1_cutScheme_2 : decode cX1_cutScheme 2 = .ok (.if_icmp .eq 32, 3) := by decide +kernel
theorem dX1_cutScheme_5 : decode cX1_cutScheme 5 = .ok (.aload_n 0, 1) := by decide +kernel
theorem dX1_cutScheme_6 : decode cX1_cutScheme 6 = .ok (.getfield 22, 3) := by decide +kernel
theorem dX1_cutScheme_9 : decode cX1_cutScheme 9 = .ok (.iload_n 1, 1) := by decide +kernel
theorem dX1_cutScheme_10 : decode cX1_cutScheme 10 = .ok (.invokestatic 93, 3) := by decide +kernel
theorem dX1_cutScheme_13 : decode cX1_cutScheme 13 = .ok (.istore_n 2, 1) := by decide +kernel
theorem dX1_cutScheme_14 : decode cX1_cutScheme 14 = .ok (.iload_n 2, 1) := by decide +kernel
theorem dX1_cutScheme_15 : decode cX1_cutScheme 15 = .ok (.iconst (-1), 1) := by decide +kernel
theorem dX1_cutScheme_16 : decode cX1_cutScheme 16 = .ok (.if_icmp .eq 8, 3) := by decide +kernel
theorem dX1_cutScheme_19 : decode cX1_cutScheme 19 = .ok (.aload_n 0, 1) := by decide +kernel
theorem dX1_cutScheme_20 : decode cX1_cutScheme 20 = .ok (.iload_n 2, 1) := by decide +kernel
theorem dX1_cutScheme_21 : decode cX1_cutScheme 21 = .ok (.invokevirtual 97, 3) := by decide +kernel
theorem dX1_cutScheme_24 : decode cX1_cutScheme 24 = .ok (.aload_n 0, 1) := by decide +kernel
theorem dX1_cutScheme_25 : decode cX1_cutScheme 25 = .ok (.getfield 12, 3) := by decide +kernel
theorem dX1_cutScheme_28 : decode cX1_cutScheme 28 = .ok (.iconst 0, 1) := by decide +kernel
theorem dX1_cutScheme_29 : decode cX1_cutScheme 29 = .ok (.iconst 0, 1) := by decide +kernel
theorem dX1_cutScheme_30 : decode cX1_cutScheme 30 = .ok (.iload_n 1, 1) := by decide +kernel
theorem dX1_cutScheme_31 : decode cX1_cutScheme 31 = .ok (.invokevirtual 43, 3) := by decide +kernel
theorem dX1_cutScheme_34 : decode cX1_cutScheme 34 = .ok (.return_, 1) := by decide +kernel
theorem dX1_cutOpaque_0 : decode cX1_cutOpaque 0 = .ok (.aload_n 0, 1) := by decide +kernel
theorem dX1_cutOpaque_1 : decode cX1_cutOpaque 1 = .ok (.iconst 1, 1) := by decide +kernel
theorem dX1_cutOpaque_2 : decode cX1_cutOpaque 2 = .ok (.iload_n 1, 1) := by decide +kernel
theorem dX1_cutOpaque_3 : decode cX1_cutOpaque 3 = .ok (.ldc 100, 2) := by decide +kernel
theorem dX1_cutOpaque_5 : decode cX1_cutOpaque 5 = .ok (.invokevirtual 102, 3) := by decide +kernel
theorem dX1_cutOpaque_8 : decode cX1_cutOpaque 8 = .ok (.istore_n 2, 1) := by decide +kernel
theorem dX1_cutOpaque_9 : decode cX1_cutOpaque 9 = .ok (.iload_n 2, 1) := by decide +kernel
theorem dX1_cutOpaque_10 : decode cX1_cutOpaque 10 = .ok (.iload_n 1, 1) := by decide +kernel
theorem dX1_cutOpaque_11 : decode cX1_cutOpaque 11 = .ok (.if_icmp .ne 8, 3) := by decide +kernel
theorem dX1_cutOpaque_14 : decode cX1_cutOpaque 14 = .ok (.aload_n 0, 1) := by decide +kernel
theorem dX1_cutOpaque_15 : decode cX1_cutOpaque 15 = .ok (.iload_n 1, 1) := by decide +kernel
theorem dX1_cutOpaque_16 : decode cX1_cutOpaque 16 = .ok (.invokevirtual 97, 3) := by decide +kernel
theorem dX1_cutOpaque_19 : decode cX1_cutOpaque 19 = .ok (.iload_n 2, 1) := by decide +kernel
theorem dX1_cutOpaque_20 : decode cX1_cutOpaque 20 = .ok (.ireturn, 1) := by decide +kernel
theorem dX1_cutAuthority_0 : decode cX1_cutAuthority 0 = .ok (.aload_n 0, 1) := by decide +kernel
theorem dX1_cutAuthority_1 : decode cX1_cutAuthority 1 = .ok (.getfield 22, 3) := by decide +kernel
theorem dX1_cutAuthority_4 : decode cX1_cutAuthority 4 = .ok (.iload_n 1, 1) := by decide +kernel
theorem dX1_cutAuthority_5 : decode cX1_cutAuthority 5 = .ok (.invokestatic 106, 3) := by decide +kernel
theorem dX1_cutAuthority_8 : decode cX1_cutAuthority 8 = .ok (.ifCond .ne 5, 3) := by decide +kernel
theorem dX1_cutAuthority_11 : decode cX1_cutAuthority 11 = .ok (.iload_n 1, 1) := by decide +kernel
theorem dX1_cutAuthority_12 : decode cX1_cutAuthority 12 = .ok (.ireturn, 1) := by decide +kernel
theorem dX1_cutAuthority_13 : decode cX1_cutAuthority 13 = .ok (.iload_n 1, 1) := by decide +kernel
theorem dX1_cutAuthority_14 : decode cX1_cutAuthority 14 = .ok (.iconst 2, 1) := by decide +kernel
theorem dX1_cutAuthority_15 : decode cX1_cutAuthority 15 = .ok (.iadd, 1) := by decide +kernel
theorem dX1_cutAuthority_16 : decode cX1_cutAuthority 16 = .ok (.istore_n 2, 1) := by decide +kernel
theorem dX1_cutAuthority_17 : decode cX1_cutAuthority 17 = .ok (.aload_n 0, 1) := by decide +kernel
theorem dX1_cutAuthority_18 : decode cX1_cutAuthority 18 = .ok (.getfield 22, 3) := by decide +kernel
theorem dX1_cutAuthority_21 : decode cX1_cutAuthority 21 = .ok (.ldc 110, 2) := by decide +kernel
theorem dX1_cutAuthority_23 : decode cX1_cutAuthority 23 = .ok (.iload_n 2, 1) := by decide +kernel
theorem dX1_cutAuthority_24 : decode cX1_cutAuthority 24 = .ok (.aload_n 0, 1) := by decide +kernel
theorem dX1_cutAuthority_25 : decode cX1_cutAuthority 25 = .ok (.getfield 22, 3) := by decide +kernel
theorem dX1_cutAuthority_28 : decode cX1_cutAuthority 28 = .ok (.invokevirtual 39, 3) := by decide +kernel
theorem dX1_cutAuthority_31 : decode cX1_cutAuthority 31 = .ok (.invokevirtual 112, 3) := by decide +kernel
theorem dX1_cutAuthority_34 : decode cX1_cutAuthority 34 = .ok (.istore_n 3, 1) := by decide +kernel
theorem dX1_cutAuthority_35 : decode cX1_cutAuthority 35 = .ok (.iload_n 3, 1) := by decide +kernel
theorem dX1_cutAuthority_36 : decode cX1_cutAuthority 36 = .ok (.iload_n 2, 1) := by decide +kernel
theorem dX1_cutAuthority_37 : decode cX1_cutAuthority 37 = .ok (.if_icmp .le 16, 3) := by decide +kernel
theorem dX1_cutAuthority_40 : decode cX1_cutAuthority 40 = .ok (.aload_n 0, 1) := by decide +kernel
theorem dX1_cutAuthority_41 : decode cX1_cutAuthority 41 = .ok (.getfield 12, 3) := by decide +kernel
theorem dX1_cutAuthority_44 : decode cX1_cutAuthority 44 = .ok (.iconst 2, 1) := by decide +kernel
theorem dX1_cutAuthority_45 : decode cX1_cutAuthority 45 = .ok (.iload_n 2, 1) := by decide +kernel
theorem dX1_cutAuthority_46 : decode cX1_cutAuthority 46 = .ok (.iload_n 3, 1) := by decide +kernel
theorem dX1_cutAuthority_47 : decode cX1_cutAuthority 47 = .ok (.invokevirtual 43, 3) := by decide +kernel
theorem dX1_cutAuthority_50 : decode cX1_cutAuthority 50 = .ok (.goto 19, 3) := by decide +kernel
theorem dX1_cutAuthority_53 : decode cX1_cutAuthority 53 = .ok (.iload_n 3, 1) := by decide +kernel
theorem dX1_cutAuthority_54 : decode cX1_cutAuthority 54 = .ok (.aload_n 0, 1) := by decide +kernel
theorem dX1_cutAuthority_55 : decode cX1_cutAuthority 55 = .ok (.getfield 22, 3) := by decide +kernel
theorem dX1_cutAuthority_58 : decode cX1_cutAuthority 58 = .ok (.invokevirtual 39, 3) := by decide +kernel
theorem dX1_cutAuthority_61 : decode cX1_cutAuthority 61 = .ok (.if_icmp .ne 8, 3) := by decide +kernel
theorem dX1_cutAuthority_64 : decode cX1_cutAuthority 64 = .ok (.aload_n 0, 1) := by decide +kernel
theorem dX1_cutAuthority_65 : decode cX1_cutAuthority 65 = .ok (.iload_n 3, 1) := by decide +kernel
theorem dX1_cutAuthority_66 : decode cX1_cutAuthority 66 = .ok (.invokevirtual 97, 3) := by decide +kernel
theorem dX1_cutAuthority_69 : decode cX1_cutAuthority 69 = .ok (.iload_n 3, 1) := by decide +kernel
theorem dX1_cutAuthority_70 : decode cX1_cutAuthority 70 = .ok (.ireturn, 1) := by decide +kernel
theorem dX1_cutPathAndQuery_0 : decode cX1_cutPathAndQuery 0 = .ok (.aload_n 0, 1) := by decide +kernel
theorem dX1_cutPathAndQuery_1 : decode cX1_cutPathAndQuery 1 = .ok (.iconst 5, 1) := by decide +kernel
theorem dX1_cutPathAndQuery_2 : decode cX1_cutPathAndQuery 2 = .ok (.iload_n 2, 1) := by decide +kernel
theorem dX1_cutPathAndQuery_3 : decode cX1_cutPathAndQuery 3 = .ok (.ldc 116, 2) := by decide +kernel
theorem dX1_cutPathAndQuery_5 : decode cX1_cutPathAndQuery 5 = .ok (.invokevirtual 102, 3) := by decide +kernel
theorem dX1_cutPathAndQuery_8 : decode cX1_cutPathAndQuery 8 = .ok (.istore_n 3, 1) := by decide +kernel
theorem dX1_cutPathAndQuery_9 : decode cX1_cutPathAndQuery 9 = .ok (.aload_n 0, 1) := by decide +kernel
theorem dX1_cutPathAndQuery_10 : decode cX1_cutPathAndQuery 10 = .ok (.getfield 22, 3) := by decide +kernel
theorem dX1_cutPathAndQuery_13 : decode cX1_cutPathAndQuery 13 = .ok (.iload_n 3, 1) := by decide +kernel
theorem dX1_cutPathAndQuery_14 : decode cX1_cutPathAndQuery 14 = .ok (.invokevirtual 57, 3) := by decide +kernel
theorem dX1_cutPathAndQuery_17 : decode cX1_cutPathAndQuery 17 = .ok (.bipush 63, 2) := by decide +kernel
theorem dX1_cutPathAndQuery_19 : decode cX1_cutPathAndQuery 19 = .ok (.if_icmp .ne 15, 3) := by decide +kernel
theorem dX1_cutPathAndQuery_22 : decode cX1_cutPathAndQuery 22 = .ok (.aload_n 0, 1) := by decide +kernel
theorem dX1_cutPathAndQuery_23 : decode cX1_cutPathAndQuery 23 = .ok (.bipush 6, 2) := by decide +kernel
theorem dX1_cutPathAndQuery_25 : decode cX1_cutPathAndQuery 25 = .ok (.iload_n 3, 1) := by decide +kernel
theorem dX1_cutPathAndQuery_26 : decode cX1_cutPathAndQuery 26 = .ok (.iconst 1, 1) := by decide +kernel
theorem dX1_cutPathAndQuery_27 : decode cX1_cutPathAndQuery 27 = .ok (.iadd, 1) := by decide +kernel
theorem dX1_cutPathAndQuery_28 : decode cX1_cutPathAndQuery 28 = .ok (.ldc 100, 2) := by decide +kernel
theorem dX1_cutPathAndQuery_30 : decode cX1_cutPathAndQuery 30 = .ok (.invokevirtual 102, 3) := by decide +kernel
theorem dX1_cutPathAndQuery_33 : decode cX1_cutPathAndQuery 33 = .ok (.istore_n 3, 1) := by decide +kernel
theorem dX1_cutPathAndQuery_34 : decode cX1_cutPathAndQuery 34 = .ok (.aload_n 0, 1) := by decide +kernel
theorem dX1_cutPathAndQuery_35 : decode cX1_cutPathAndQuery 35 = .ok (.getfield 12, 3) := by decide +kernel
theorem dX1_cutPathAndQuery_38 : decode cX1_cutPathAndQuery 38 = .ok (.iconst 1, 1) := by decide +kernel
theorem dX1_cutPathAndQuery_39 : decode cX1_cutPathAndQuery 39 = .ok (.iload_n 1, 1) := by decide +kernel
theorem dX1_cutPathAndQuery_40 : decode cX1_cutPathAndQuery 40 = .ok (.iload_n 3, 1) := by decide +kernel
theorem dX1_cutPathAndQuery_41 : decode cX1_cutPathAndQuery 41 = .ok (.invokevirtual 43, 3) := by decide +kernel
theorem dX1_cutPathAndQuery_44 : decode cX1_cutPathAndQuery 44 = .ok (.iload_n 3, 1) := by decide +kernel
theorem dX1_cutPathAndQuery_45 : decode cX1_cutPathAndQuery 45 = .ok (.ireturn, 1) := by decide +kernel
theorem dX1_cutFragment_0 : decode cX1_cutFragment 0 = .ok (.aload_n 0, 1) := by decide +kernel
theorem dX1_cutFragment_1 : decode cX1_cutFragment 1 = .ok (.getfield 22, 3) := by decide +kernel
theorem dX1_cutFragment_4 : decode cX1_cutFragment 4 = .ok (.iload_n 1, 1) := by decide +kernel
theorem dX1_cutFragment_5 : decode cX1_cutFragment 5 = .ok (.invokevirtual 57, 3) := by decide +kernel
theorem dX1_cutFragment_8 : decode cX1_cutFragment 8 = .ok (.bipush 35, 2) := by decide +kernel
theorem dX1_cutFragment_10 : decode cX1_cutFragment 10 = .ok (.if_icmp .ne 31, 3) := by decide +kernel
theorem dX1_cutFragment_13 : decode cX1_cutFragment 13 = .ok (.aload_n 0, 1) := by decide +kernel
theorem dX1_cutFragment_14 : decode cX1_cutFragment 14 = .ok (.bipush 7, 2) := by decide +kernel
theorem dX1_cutFragment_16 : decode cX1_cutFragment 16 = .ok (.iload_n 1, 1) := by decide +kernel
theorem dX1_cutFragment_17 : decode cX1_cutFragment 17 = .ok (.iconst 1, 1) := by decide +kernel
theorem dX1_cutFragment_18 : decode cX1_cutFragment 18 = .ok (.iadd, 1) := by decide +kernel
theorem dX1_cutFragment_19 : decode cX1_cutFragment 19 = .ok (.ldc 100, 2) := by decide +kernel
theorem dX1_cutFragment_21 : decode cX1_cutFragment 21 = .ok (.invokevirtual 102, 3) := by decide +kernel
theorem dX1_cutFragment_24 : decode cX1_cutFragment 24 = .ok (.istore_n 2, 1) := by decide +kernel
theorem dX1_cutFragment_25 : decode cX1_cutFragment 25 = .ok (.iload_n 2, 1) := by decide +kernel
theorem dX1_cutFragment_26 : decode cX1_cutFragment 26 = .ok (.aload_n 0, 1) := by decide +kernel
theorem dX1_cutFragment_27 : decode cX1_cutFragment 27 = .ok (.getfield 22, 3) := by decide +kernel
theorem dX1_cutFragment_30 : decode cX1_cutFragment 30 = .ok (.invokevirtual 39, 3) := by decide +kernel
theorem dX1_cutFragment_33 : decode cX1_cutFragment 33 = .ok (.if_icmp .ge 8, 3) := by decide +kernel
theorem dX1_cutFragment_36 : decode cX1_cutFragment 36 = .ok (.aload_n 0, 1) := by decide +kernel
theorem dX1_cutFragment_37 : decode cX1_cutFragment 37 = .ok (.iload_n 2, 1) := by decide +kernel
theorem dX1_cutFragment_38 : decode cX1_cutFragment 38 = .ok (.invokevirtual 97, 3) := by decide +kernel
theorem dX1_cutFragment_41 : decode cX1_cutFragment 41 = .ok (.return_, 1) := by decide +kernel
theorem dX1_cutServer_0 : decode cX1_cutServer 0 = .ok (.aload_n 0, 1) := by decide +kernel
theorem dX1_cutServer_1 : decode cX1_cutServer 1 = .ok (.getfield 22, 3) := by decide +kernel
theorem dX1_cutServer_4 : decode cX1_cutServer 4 = .ok (.ldc 118, 2) := by decide +kernel
theorem dX1_cutServer_6 : decode cX1_cutServer 6 = .ok (.iload_n 1, 1) := by decide +kernel
theorem dX1_cutServer_7 : decode cX1_cutServer 7 = .ok (.iload_n 2, 1) := by decide +kernel
theorem dX1_cutServer_8 : decode cX1_cutServer 8 = .ok (.invokevirtual 112, 3) := by decide +kernel
theorem dX1_cutServer_11 : decode cX1_cutServer 11 = .ok (.istore_n 3, 1) := by decide +kernel
theorem dX1_cutServer_12 : decode cX1_cutServer 12 = .ok (.iload_n 3, 1) := by decide +kernel
theorem dX1_cutServer_13 : decode cX1_cutServer 13 = .ok (.iload_n 2, 1) := by decide +kernel
theorem dX1_cutServer_14 : decode cX1_cutServer 14 = .ok (.if_icmp .ge 9, 3) := by decide +kernel
theorem dX1_cutServer_17 : decode cX1_cutServer 17 = .ok (.iload_n 3, 1) := by decide +kernel
theorem dX1_cutServer_18 : decode cX1_cutServer 18 = .ok (.iconst 1, 1) := by decide +kernel
theorem dX1_cutServer_19 : decode cX1_cutServer 19 = .ok (.iadd, 1) := by decide +kernel
theorem dX1_cutServer_20 : decode cX1_cutServer 20 = .ok (.goto 4, 3) := by decide +kernel
theorem dX1_cutServer_23 : decode cX1_cutServer 23 = .ok (.iload_n 1, 1) := by decide +kernel
theorem dX1_cutServer_24 : decode cX1_cutServer 24 = .ok (.istore 4, 2) := by decide +kernel
theorem dX1_cutServer_26 : decode cX1_cutServer 26 = .ok (.aload_n 0, 1) := by decide +kernel
theorem dX1_cutServer_27 : decode cX1_cutServer 27 = .ok (.getfield 22, 3) := by decide +kernel
theorem dX1_cutServer_30 : decode cX1_cutServer 30 = .ok (.ldc 120, 2) := by decide +kernel
theorem dX1_cutServer_32 : decode cX1_cutServer 32 = .ok (.iload 4, 2) := by decide +kernel
theorem dX1_cutServer_34 : decode cX1_cutServer 34 = .ok (.iload_n 2, 1) := by decide +kernel
theorem dX1_cutServer_35 : decode cX1_cutServer 35 = .ok (.invokevirtual 112, 3) := by decide +kernel
theorem dX1_cutServer_38 : decode cX1_cutServer 38 = .ok (.istore 5, 2) := by decide +kernel
theorem dX1_cutServer_40 : decode cX1_cutServer 40 = .ok (.aload_n 0, 1) := by decide +kernel
theorem dX1_cutServer_41 : decode cX1_cutServer 41 = .ok (.getfield 22, 3) := by decide +kernel
theorem dX1_cutServer_44 : decode cX1_cutServer 44 = .ok (.iload 4, 2) := by decide +kernel
theorem dX1_cutServer_46 : decode cX1_cutServer 46 = .ok (.iload 5, 2) := by decide +kernel
theorem dX1_cutServer_48 : decode cX1_cutServer 48 = .ok (.invokestatic 122, 3) := by decide +kernel
theorem dX1_cutServer_51 : decode cX1_cutServer 51 = .ok (.ifCond .ne 17, 3) := by decide +kernel
theorem dX1_cutServer_54 : decode cX1_cutServer 54 = .ok (.aload_n 0, 1) := by decide +kernel
theorem dX1_cutServer_55 : decode cX1_cutServer 55 = .ok (.getfield 22, 3) := by decide +kernel
theorem dX1_cutServer_58 : decode cX1_cutServer 58 = .ok (.iload 4, 2) := by decide +kernel
theorem dX1_cutServer_60 : decode cX1_cutServer 60 = .ok (.iload 5, 2) := by decide +kernel
theorem dX1_cutServer_62 : decode cX1_cutServer 62 = .ok (.invokestatic 126, 3) := by decide +kernel
theorem dX1_cutServer_65 : decode cX1_cutServer 65 = .ok (.ifCond .eq 7, 3) := by decide +kernel
theorem dX1_cutServer_68 : decode cX1_cutServer 68 = .ok (.iconst 1, 1) := by decide +kernel
theorem dX1_cutServer_69 : decode cX1_cutServer 69 = .ok (.goto 4, 3) := by decide +kernel
theorem dX1_cutServer_72 : decode cX1_cutServer 72 = .ok (.iconst 0, 1) := by decide +kernel
theorem dX1_cutServer_73 : decode cX1_cutServer 73 = .ok (.istore 6, 2) := by decide +kernel
theorem dX1_cutServer_75 : decode cX1_cutServer 75 = .ok (.iload 6, 2) := by decide +kernel
theorem dX1_cutServer_77 : decode cX1_cutServer 77 = .ok (.ifCond .eq 66, 3) := by decide +kernel
theorem dX1_cutServer_80 : decode cX1_cutServer 80 = .ok (.aload_n 0, 1) := by decide +kernel
theorem dX1_cutServer_81 : decode cX1_cutServer 81 = .ok (.getfield 22, 3) := by decide +kernel
theorem dX1_cutServer_84 : decode cX1_cutServer 84 = .ok (.iload 5, 2) := by decide +kernel
theorem dX1_cutServer_86 : decode cX1_cutServer 86 = .ok (.iconst 1, 1) := by decide +kernel
theorem dX1_cutServer_87 : decode cX1_cutServer 87 = .ok (.iadd, 1) := by decide +kernel
theorem dX1_cutServer_88 : decode cX1_cutServer 88 = .ok (.iload_n 2, 1) := by decide +kernel
theorem dX1_cutServer_89 : decode cX1_cutServer 89 = .ok (.invokestatic 129, 3) := by decide +kernel
theorem dX1_cutServer_92 : decode cX1_cutServer 92 = .ok (.ifCond .eq 51, 3) := by decide +kernel
theorem dX1_cutServer_95 : decode cX1_cutServer 95 = .ok (.iload_n 3, 1) := by decide +kernel
theorem dX1_cutServer_96 : decode cX1_cutServer 96 = .ok (.iload_n 2, 1) := by decide +kernel
theorem dX1_cutServer_97 : decode cX1_cutServer 97 = .ok (.if_icmp .ge 13, 3) := by decide +kernel
theorem dX1_cutServer_100 : decode cX1_cutServer 100 = .ok (.aload_n 0, 1) := by decide +kernel
theorem dX1_cutServer_101 : decode cX1_cutServer 101 = .ok (.getfield 12, 3) := by decide +kernel
theorem dX1_cutServer_104 : decode cX1_cutServer 104 = .ok (.iconst 3, 1) := by decide +kernel
theorem dX1_cutServer_105 : decode cX1_cutServer 105 = .ok (.iload_n 1, 1) := by decide +kernel
theorem dX1_cutServer_106 : decode cX1_cutServer 106 = .ok (.iload_n 3, 1) := by decide +kernel
theorem dX1_cutServer_107 : decode cX1_cutServer 107 = .ok (.invokevirtual 43, 3) := by decide +kernel
theorem dX1_cutServer_110 : decode cX1_cutServer 110 = .ok (.aload_n 0, 1) := by decide +kernel
theorem dX1_cutServer_111 : decode cX1_cutServer 111 = .ok (.getfield 12, 3) := by decide +kernel
theorem dX1_cutServer_114 : decode cX1_cutServer 114 = .ok (.iconst 4, 1) := by decide +kernel
theorem dX1_cutServer_115 : decode cX1_cutServer 115 = .ok (.iload 4, 2) := by decide +kernel
theorem dX1_cutServer_117 : decode cX1_cutServer 117 = .ok (.iload 5, 2) := by decide +kernel
theorem dX1_cutServer_119 : decode cX1_cutServer 119 = .ok (.invokevirtual 43, 3) := by decide +kernel
theorem dX1_cutServer_122 : decode cX1_cutServer 122 = .ok (.aload_n 0, 1) := by decide +kernel
theorem dX1_cutServer_123 : decode cX1_cutServer 123 = .ok (.getfield 12, 3) := by decide +kernel
theorem dX1_cutServer_126 : decode cX1_cutServer 126 = .ok (.aload_n 0, 1) := by decide +kernel
theorem dX1_cutServer_127 : decode cX1_cutServer 127 = .ok (.getfield 22, 3) := by decide +kernel
theorem dX1_cutServer_130 : decode cX1_cutServer 130 = .ok (.iload 5, 2) := by decide +kernel
theorem dX1_cutServer_132 : decode cX1_cutServer 132 = .ok (.iconst 1, 1) := by decide +kernel
theorem dX1_cutServer_133 : decode cX1_cutServer 133 = .ok (.iadd, 1) := by decide +kernel
theorem dX1_cutServer_134 : decode cX1_cutServer 134 = .ok (.iload_n 2, 1) := by decide +kernel
theorem dX1_cutServer_135 : decode cX1_cutServer 135 = .ok (.ldc 132, 2) := by decide +kernel
theorem dX1_cutServer_137 : decode cX1_cutServer 137 = .ok (.invokestatic 133, 3) := by decide +kernel
theorem dX1_cutServer_140 : decode cX1_cutServer 140 = .ok (.invokevirtual 137, 3) := by decide +kernel
theorem dX1_cutServer_143 : decode cX1_cutServer 143 = .ok (.return_, 1) := by decide +kernel
theorem dX1_cutPart_0 : decode cX1_cutPart 0 = .ok (.aload_n 0, 1) := by decide +kernel
theorem dX1_cutPart_1 : decode cX1_cutPart 1 = .ok (.getfield 22, 3) := by decide +kernel
theorem dX1_cutPart_4 : decode cX1_cutPart 4 = .ok (.aload_n 3, 1) := by decide +kernel
theorem dX1_cutPart_5 : decode cX1_cutPart 5 = .ok (.iload_n 2, 1) := by decide +kernel
theorem dX1_cutPart_6 : decode cX1_cutPart 6 = .ok (.aload_n 0, 1) := by decide +kernel
theorem dX1_cutPart_7 : decode cX1_cutPart 7 = .ok (.getfield 22, 3) := by decide +kernel
theorem dX1_cutPart_10 : decode cX1_cutPart 10 = .ok (.invokevirtual 39, 3) := by decide +kernel
theorem dX1_cutPart_13 : decode cX1_cutPart 13 = .ok (.invokevirtual 112, 3) := by decide +kernel
theorem dX1_cutPart_16 : decode cX1_cutPart 16 = .ok (.istore 4, 2) := by decide +kernel
theorem dX1_cutPart_18 : decode cX1_cutPart 18 = .ok (.aload_n 0, 1) := by decide +kernel
theorem dX1_cutPart_19 : decode cX1_cutPart 19 = .ok (.getfield 22, 3) := by decide +kernel
theorem dX1_cutPart_22 : decode cX1_cutPart 22 = .ok (.ldc 140, 2) := by decide +kernel
theorem dX1_cutPart_24 : decode cX1_cutPart 24 = .ok (.iload_n 2, 1) := by decide +kernel
theorem dX1_cutPart_25 : decode cX1_cutPart 25 = .ok (.iload 4, 2) := by decide +kernel
theorem dX1_cutPart_27 : decode cX1_cutPart 27 = .ok (.invokevirtual 112, 3) := by decide +kernel
theorem dX1_cutPart_30 : decode cX1_cutPart 30 = .ok (.istore 5, 2) := by decide +kernel
theorem dX1_cutPart_32 : decode cX1_cutPart 32 = .ok (.iload 5, 2) := by decide +kernel
theorem dX1_cutPart_34 : decode cX1_cutPart 34 = .ok (.iload 4, 2) := by decide +kernel
theorem dX1_cutPart_36 : decode cX1_cutPart 36 = .ok (.if_icmp .ge 9, 3) := by decide +kernel
theorem dX1_cutPart_39 : decode cX1_cutPart 39 = .ok (.aload_n 0, 1) := by decide +kernel
theorem dX1_cutPart_40 : decode cX1_cutPart 40 = .ok (.iload 5, 2) := by decide +kernel
theorem dX1_cutPart_42 : decode cX1_cutPart 42 = .ok (.invokevirtual 97, 3) := by decide +kernel
theorem dX1_cutPart_45 : decode cX1_cutPart 45 = .ok (.aload_n 0, 1) := by decide +kernel
theorem dX1_cutPart_46 : decode cX1_cutPart 46 = .ok (.getfield 12, 3) := by decide +kernel
theorem dX1_cutPart_49 : decode cX1_cutPart 49 = .ok (.iload_n 1, 1) := by decide +kernel
theorem dX1_cutPart_50 : decode cX1_cutPart 50 = .ok (.iload_n 2, 1) := by decide +kernel
theorem dX1_cutPart_51 : decode cX1_cutPart 51 = .ok (.iload 4, 2) := by decide +kernel
theorem dX1_cutPart_53 : decode cX1_cutPart 53 = .ok (.invokevirtual 43, 3) := by decide +kernel
theorem dX1_cutPart_56 : decode cX1_cutPart 56 = .ok (.iload 4, 2) := by decide +kernel
theorem dX1_cutPart_58 : decode cX1_cutPart 58 = .ok (.ireturn, 1) := by decide +kernel
theorem dX2_isLetter_0 : decode cX2_isLetter 0 = .ok (.iload_n 0, 1) := by decide +kernel
theorem dX2_isLetter_1 : decode cX2_isLetter 1 = .ok (.bipush 97, 2) := by decide +kernel
theorem dX2_isLetter_3 : decode cX2_isLetter 3 = .ok (.if_icmp .lt 9, 3) := by decide +kernel
theorem dX2_isLetter_6 : decode cX2_isLetter 6 = .ok (.iload_n 0, 1) := by decide +kernel
theorem dX2_isLetter_7 : decode cX2_isLetter 7 = .ok (.bipush 122, 2) := by decide +kernel
theorem dX2_isLetter_9 : decode cX2_isLetter 9 = .ok (.if_icmp .le 15, 3) := by decide +kernel
theorem dX2_isLetter_12 : decode cX2_isLetter 12 = .ok (.iload_n 0, 1) := by decide +kernel
theorem dX2_isLetter_13 : decode cX2_isLetter 13 = .ok (.bipush 65, 2) := by decide +kernel
theorem dX2_isLetter_15 : decode cX2_isLetter 15 = .ok (.if_icmp .lt 13, 3) := by decide +kernel
theorem dX2_isLetter_18 : decode cX2_isLetter 18 = .ok (.iload_n 0, 1) := by decide +kernel
theorem dX2_isLetter_19 : decode cX2_isLetter 19 = .ok (.bipush 90, 2) := by decide +kernel
theorem dX2_isLetter_21 : decode cX2_isLetter 21 = .ok (.if_icmp .gt 7, 3) := by decide +kernel
theorem dX2_isLetter_24 : decode cX2_isLetter 24 = .ok (.iconst 1, 1) := by decide +kernel
theorem dX2_isLetter_25 : decode cX2_isLetter 25 = .ok (.goto 4, 3) := by decide +kernel
theorem dX2_isLetter_28 : decode cX2_isLetter 28 = .ok (.iconst 0, 1) := by decide +kernel
theorem dX2_isLetter_29 : decode cX2_isLetter 29 = .ok (.ireturn, 1) := by decide +kernel
theorem dX2_isDigit_0 : decode cX2_isDigit 0 = .ok (.iload_n 0, 1) := by decide +kernel
theorem dX2_isDigit_1 : decode cX2_isDigit 1 = .ok (.bipush 48, 2) := by decide +kernel
theorem dX2_isDigit_3 : decode cX2_isDigit 3 = .ok (.if_icmp .lt 13, 3) := by decide +kernel
theorem dX2_isDigit_6 : decode cX2_isDigit 6 = .ok (.iload_n 0, 1) := by decide +kernel
theorem dX2_isDigit_7 : decode cX2_isDigit 7 = .ok (.bipush 57, 2) := by decide +kernel
theorem dX2_isDigit_9 : decode cX2_isDigit 9 = .ok (.if_icmp .gt 7, 3) := by decide +kernel
theorem dX2_isDigit_12 : decode cX2_isDigit 12 = .ok (.iconst 1, 1) := by decide +kernel
theorem dX2_isDigit_13 : decode cX2_isDigit 13 = .ok (.goto 4, 3) := by decide +kernel
theorem dX2_isDigit_16 : decode cX2_isDigit 16 = .ok (.iconst 0, 1) := by decide +kernel
theorem dX2_isDigit_17 : decode cX2_isDigit 17 = .ok (.ireturn, 1) := by decide +kernel
theorem dX2_isSlashed_0 : decode cX2_isSlashed 0 = .ok (.aload_n 0, 1) := by decide +kernel
theorem dX2_isSlashed_1 : decode cX2_isSlashed 1 = .ok (.iload_n 1, 1) := by decide +kernel
theorem dX2_isSlashed_2 : decode cX2_isSlashed 2 = .ok (.invokevirtual 9, 3) := by decide +kernel
theorem dX2_isSlashed_5 : decode cX2_isSlashed 5 = .ok (.bipush 47, 2) := by decide +kernel
theorem dX2_isSlashed_7 : decode cX2_isSlashed 7 = .ok (.if_icmp .ne 19, 3) := by decide +kernel
theorem dX2_isSlashed_10 : decode cX2_isSlashed 10 = .ok (.aload_n 0, 1) := by decide +kernel
theorem dX2_isSlashed_11 : decode cX2_isSlashed 11 = .ok (.iload_n 1, 1) := by decide +kernel
theorem dX2_isSlashed_12 : decode cX2_isSlashed 12 = .ok (.iconst 1, 1) := by decide +kernel
theorem dX2_isSlashed_13 : decode cX2_isSlashed 13 = .ok (.iadd, 1) := by decide +kernel
theorem dX2_isSlashed_14 : decode cX2_isSlashed 14 = .ok (.invokevirtual 9, 3) := by decide +kernel
theorem dX2_isSlashed_17 : decode cX2_isSlashed 17 = .ok (.bipush 47, 2) := by decide +kernel
theorem dX2_isSlashed_19 : decode cX2_isSlashed 19 = .ok (.if_icmp .ne 7, 3) := by decide +kernel
theorem dX2_isSlashed_22 : decode cX2_isSlashed 22 = .ok (.iconst 1, 1) := by decide +kernel
theorem dX2_isSlashed_23 : decode cX2_isSlashed 23 = .ok (.goto 4, 3) := by decide +kernel
theorem dX2_isSlashed_26 : decode cX2_isSlashed 26 = .ok (.iconst 0, 1) := by decide +kernel
theorem dX2_isSlashed_27 : decode cX2_isSlashed 27 = .ok (.ireturn, 1) := by decide +kernel
theorem dX2_schemeColon_0 : decode cX2_schemeColon 0 = .ok (.aload_n 0, 1) := by decide +kernel
theorem dX2_schemeColon_1 : decode cX2_schemeColon 1 = .ok (.ldc 15, 2) := by decide +kernel
theorem dX2_schemeColon_3 : decode cX2_schemeColon 3 = .ok (.iconst 0, 1) := by decide +kernel
theorem dX2_schemeColon_4 : decode cX2_schemeColon 4 = .ok (.aload_n 0, 1) := by decide +kernel
theorem dX2_schemeColon_5 : decode cX2_schemeColon 5 = .ok (.invokevirtual 17, 3) := by decide +kernel
theorem dX2_schemeColon_8 : decode cX2_schemeColon 8 = .ok (.invokevirtual 21, 3) := by decide +kernel
theorem dX2_schemeColon_11 : decode cX2_schemeColon 11 = .ok (.istore_n 1, 1) := by decide +kernel
theorem dX2_schemeColon_12 : decode cX2_schemeColon 12 = .ok (.aload_n 0, 1) := by decide +kernel
theorem dX2_schemeColon_13 : decode cX2_schemeColon 13 = .ok (.iload_n 1, 1) := by decide +kernel
theorem dX2_schemeColon_14 : decode cX2_schemeColon 14 = .ok (.invokevirtual 9, 3) := by decide +kernel
theorem dX2_schemeColon_17 : decode cX2_schemeColon 17 = .ok (.bipush 58, 2) := by decide +kernel
theorem dX2_schemeColon_19 : decode cX2_schemeColon 19 = .ok (.if_icmp .ne 7, 3) := by decide +kernel
theorem dX2_schemeColon_22 : decode cX2_schemeColon 22 = .ok (.iload_n 1, 1) := by decide +kernel
theorem dX2_schemeColon_23 : decode cX2_schemeColon 23 = .ok (.goto 4, 3) := by decide +kernel
theorem dX2_schemeColon_26 : decode cX2_schemeColon 26 = .ok (.iconst (-1), 1) := by decide +kernel
theorem dX2_schemeColon_27 : decode cX2_schemeColon 27 = .ok (.ireturn, 1) := by decide +kernel
theorem dX2_wrongInScheme_0 : decode cX2_wrongInScheme 0 = .ok (.iload_n 1, 1) := by decide +kernel
theorem dX2_wrongInScheme_1 : decode cX2_wrongInScheme 1 = .ok (.ifCond .eq 14, 3) := by decide +kernel
theorem dX2_wrongInScheme_4 : decode cX2_wrongInScheme 4 = .ok (.aload_n 0, 1) := by decide +kernel
theorem dX2_wrongInScheme_5 : decode cX2_wrongInScheme 5 = .ok (.iconst 0, 1) := by decide +kernel
theorem dX2_wrongInScheme_6 : decode cX2_wrongInScheme 6 = .ok (.invokevirtual 9, 3) := by decide +kernel
theorem dX2_wrongInScheme_9 : decode cX2_wrongInScheme 9 = .ok (.invokestatic 25, 3) := by decide +kernel
theorem dX2_wrongInScheme_12 : decode cX2_wrongInScheme 12 = .ok (.ifCond .ne 5, 3) := by decide +kernel
theorem dX2_wrongInScheme_15 : decode cX2_wrongInScheme 15 = .ok (.iconst 0, 1) := by decide +kernel
theorem dX2_wrongInScheme_16 : decode cX2_wrongInScheme 16 = .ok (.ireturn, 1) := by decide +kernel
theorem dX2_wrongInScheme_17 : decode cX2_wrongInScheme 17 = .ok (.iconst 1, 1) := by decide +kernel
theorem dX2_wrongInScheme_18 : decode cX2_wrongInScheme 18 = .ok (.istore_n 2, 1) := by decide +kernel
theorem dX2_wrongInScheme_19 : decode cX2_wrongInScheme 19 = .ok (.iload_n 2, 1) := by decide +kernel
theorem dX2_wrongInScheme_20 : decode cX2_wrongInScheme 20 = .ok (.iload_n 1, 1) := by decide +kernel
theorem dX2_wrongInScheme_21 : decode cX2_wrongInScheme 21 = .ok (.if_icmp .ge 40, 3) := by decide +kernel
theorem dX2_wrongInScheme_24 : decode cX2_wrongInScheme 24 = .ok (.aload_n 0, 1) := by decide +kernel
theorem dX2_wrongInScheme_25 : decode cX2_wrongInScheme 25 = .ok (.iload_n 2, 1) := by decide +kernel
theorem dX2_wrongInScheme_26 : decode cX2_wrongInScheme 26 = .ok (.invokevirtual 9, 3) := by decide +kernel
theorem dX2_wrongInScheme_29 : decode cX2_wrongInScheme 29 = .ok (.istore_n 3, 1) := by decide +kernel
theorem dX2_wrongInScheme_30 : decode cX2_wrongInScheme 30 = .ok (.iload_n 3, 1) := by decide +kernel
theorem dX2_wrongInScheme_31 : decode cX2_wrongInScheme 31 = .ok (.invokestatic 25, 3) := by decide +kernel
theorem dX2_wrongInScheme_34 : decode cX2_wrongInScheme 34 = .ok (.ifCond .ne 21, 3) := by decide +kernel
theorem dX2_wrongInScheme_37 : decode cX2_wrongInScheme 37 = .ok (.iload_n 3, 1) := by decide +kernel
theorem dX2_wrongInScheme_38 : decode cX2_wrongInScheme 38 = .ok (.invokestatic 31, 3) := by decide +kernel
theorem dX2_wrongInScheme_41 : decode cX2_wrongInScheme 41 = .ok (.ifCond .ne 14, 3) := by decide +kernel
theorem dX2_wrongInScheme_44 : decode cX2_wrongInScheme 44 = .ok (.ldc 34, 2) := by decide +kernel
theorem dX2_wrongInScheme_46 : decode cX2_wrongInScheme 46 = .ok (.iload_n 3, 1) := by decide +kernel
theorem dX2_wrongInScheme_47 : decode cX2_wrongInScheme 47 = .ok (.invokevirtual 36, 3) := by decide +kernel
theorem dX2_wrongInScheme_50 : decode cX2_wrongInScheme 50 = .ok (.ifCond .ge 5, 3) := by decide +kernel
theorem dX2_wrongInScheme_53 : decode cX2_wrongInScheme 53 = .ok (.iload_n 2, 1) := by decide +kernel
theorem dX2_wrongInScheme_54 : decode cX2_wrongInScheme 54 = .ok (.ireturn, 1) := by decide +kernel
theorem dX2_wrongInScheme_55 : decode cX2_wrongInScheme 55 = .ok (.iinc 2 1, 3) := by decide +kernel
theorem dX2_wrongInScheme_58 : decode cX2_wrongInScheme 58 = .ok (.goto (-39), 3) := by decide +kernel
theorem dX2_wrongInScheme_61 : decode cX2_wrongInScheme 61 = .ok (.iconst (-1), 1) := by decide +kernel
theorem dX2_wrongInScheme_62 : decode cX2_wrongInScheme 62 = .ok (.ireturn, 1) := by decide +kernel
theorem dX2_isAuthorityBad_0 : decode cX2_isAuthorityBad 0 = .ok (.aload_n 0, 1) := by decide +kernel
theorem dX2_isAuthorityBad_1 : decode cX2_isAuthorityBad 1 = .ok (.invokestatic 42, 3) := by decide +kernel
theorem dX2_isAuthorityBad_4 : decode cX2_isAuthorityBad 4 = .ok (.iconst 1, 1) := by decide +kernel
theorem dX2_isAuthorityBad_5 : decode cX2_isAuthorityBad 5 = .ok (.iadd, 1) := by decide +kernel
theorem dX2_isAuthorityBad_6 : decode cX2_isAuthorityBad 6 = .ok (.istore_n 1, 1) := by decide +kernel
theorem dX2_isAuthorityBad_7 : decode cX2_isAuthorityBad 7 = .ok (.aload_n 0, 1) := by decide +kernel
theorem dX2_isAuthorityBad_8 : decode cX2_isAuthorityBad 8 = .ok (.iload_n 1, 1) := by decide +kernel
theorem dX2_isAuthorityBad_9 : decode cX2_isAuthorityBad 9 = .ok (.invokestatic 46, 3) := by decide +kernel
theorem dX2_isAuthorityBad_12 : decode cX2_isAuthorityBad 12 = .ok (.ifCond .ne 5, 3) := by decide +kernel
theorem dX2_isAuthorityBad_15 : decode cX2_isAuthorityBad 15 = .ok (.iconst 0, 1) := by decide +kernel
theorem dX2_isAuthorityBad_16 : decode cX2_isAuthorityBad 16 = .ok (.ireturn, 1) := by decide +kernel
theorem dX2_isAuthorityBad_17 : decode cX2_isAuthorityBad 17 = .ok (.iload_n 1, 1) := by decide +kernel
theorem dX2_isAuthorityBad_18 : decode cX2_isAuthorityBad 18 = .ok (.iconst 2, 1) := by decide +kernel
theorem dX2_isAuthorityBad_19 : decode cX2_isAuthorityBad 19 = .ok (.iadd, 1) := by decide +kernel
theorem dX2_isAuthorityBad_20 : decode cX2_isAuthorityBad 20 = .ok (.istore_n 2, 1) := by decide +kernel
theorem dX2_isAuthorityBad_21 : decode cX2_isAuthorityBad 21 = .ok (.aload_n 0, 1) := by decide +kernel
theorem dX2_isAuthorityBad_22 : decode cX2_isAuthorityBad 22 = .ok (.ldc 50, 2) := by decide +kernel
theorem dX2_isAuthorityBad_24 : decode cX2_isAuthorityBad 24 = .ok (.iload_n 2, 1) := by decide +kernel
theorem dX2_isAuthorityBad_25 : decode cX2_isAuthorityBad 25 = .ok (.aload_n 0, 1) := by decide +kernel
theorem dX2_isAuthorityBad_26 : decode cX2_isAuthorityBad 26 = .ok (.invokevirtual 17, 3) := by decide +kernel
theorem dX2_isAuthorityBad_29 : decode cX2_isAuthorityBad 29 = .ok (.invokevirtual 21, 3) := by decide +kernel
theorem dX2_isAuthorityBad_32 : decode cX2_isAuthorityBad 32 = .ok (.istore_n 3, 1) := by decide +kernel
theorem dX2_isAuthorityBad_33 : decode cX2_isAuthorityBad 33 = .ok (.aload_n 0, 1) := by decide +kernel
theorem dX2_isAuthorityBad_34 : decode cX2_isAuthorityBad 34 = .ok (.ldc 52, 2) := by decide +kernel
theorem dX2_isAuthorityBad_36 : decode cX2_isAuthorityBad 36 = .ok (.iload_n 2, 1) := by decide +kernel
theorem dX2_isAuthorityBad_37 : decode cX2_isAuthorityBad 37 = .ok (.iload_n 3, 1) := by decide +kernel
theorem dX2_isAuthorityBad_38 : decode cX2_isAuthorityBad 38 = .ok (.invokevirtual 21, 3) := by decide +kernel
theorem dX2_isAuthorityBad_41 : decode cX2_isAuthorityBad 41 = .ok (.iload_n 3, 1) := by decide +kernel
theorem dX2_isAuthorityBad_42 : decode cX2_isAuthorityBad 42 = .ok (.if_icmp .ge 7, 3) := by decide +kernel
theorem dX2_isAuthorityBad_45 : decode cX2_isAuthorityBad 45 = .ok (.iconst 1, 1) := by decide +kernel
theorem dX2_isAuthorityBad_46 : decode cX2_isAuthorityBad 46 = .ok (.goto 4, 3) := by decide +kernel
theorem dX2_isAuthorityBad_49 : decode cX2_isAuthorityBad 49 = .ok (.iconst 0, 1) := by decide +kernel
theorem dX2_isAuthorityBad_50 : decode cX2_isAuthorityBad 50 = .ok (.ireturn, 1) := by decide +kernel
theorem dX2_isName_0 : decode cX2_isName 0 = .ok (.iload_n 2, 1) := by decide +kernel
theorem dX2_isName_1 : decode cX2_isName 1 = .ok (.iload_n 1, 1) := by decide +kernel
theorem dX2_isName_2 : decode cX2_isName 2 = .ok (.if_icmp .le 21, 3) := by decide +kernel
theorem dX2_isName_5 : decode cX2_isName 5 = .ok (.aload_n 0, 1) := by decide +kernel
theorem dX2_isName_6 : decode cX2_isName 6 = .ok (.iload_n 2, 1) := by decide +kernel
theorem dX2_isName_7 : decode cX2_isName 7 = .ok (.iconst 1, 1) := by decide +kernel
theorem dX2_isName_8 : decode cX2_isName 8 = .ok (.isub, 1) := by decide +kernel
theorem dX2_isName_9 : decode cX2_isName 9 = .ok (.invokevirtual 9, 3) := by decide +kernel
theorem dX2_isName_12 : decode cX2_isName 12 = .ok (.bipush 46, 2) := by decide +kernel
theorem dX2_isName_14 : decode cX2_isName 14 = .ok (.if_icmp .ne 9, 3) := by decide +kernel
theorem dX2_isName_17 : decode cX2_isName 17 = .ok (.iload_n 2, 1) := by decide +kernel
theorem dX2_isName_18 : decode cX2_isName 18 = .ok (.iconst 1, 1) := by decide +kernel
theorem dX2_isName_19 : decode cX2_isName 19 = .ok (.isub, 1) := by decide +kernel
theorem dX2_isName_20 : decode cX2_isName 20 = .ok (.goto 4, 3) := by decide +kernel
theorem dX2_isName_23 : decode cX2_isName 23 = .ok (.iload_n 2, 1) := by decide +kernel
theorem dX2_isName_24 : decode cX2_isName 24 = .ok (.istore_n 3, 1) := by decide +kernel
theorem dX2_isName_25 : decode cX2_isName 25 = .ok (.iload_n 1, 1) := by decide +kernel
theorem dX2_isName_26 : decode cX2_isName 26 = .ok (.istore 4, 2) := by decide +kernel
theorem dX2_isName_28 : decode cX2_isName 28 = .ok (.iload_n 1, 1) := by decide +kernel
theorem dX2_isName_29 : decode cX2_isName 29 = .ok (.istore 5, 2) := by decide +kernel
theorem dX2_isName_31 : decode cX2_isName 31 = .ok (.iload_n 1, 1) := by decide +kernel
theorem dX2_isName_32 : decode cX2_isName 32 = .ok (.istore 6, 2) := by decide +kernel
theorem dX2_isName_34 : decode cX2_isName 34 = .ok (.iload 6, 2) := by decide +kernel
theorem dX2_isName_36 : decode cX2_isName 36 = .ok (.iload_n 3, 1) := by decide +kernel
theorem dX2_isName_37 : decode cX2_isName 37 = .ok (.if_icmp .gt 49, 3) := by decide +kernel
theorem dX2_isName_40 : decode cX2_isName 40 = .ok (.iload 6, 2) := by decide +kernel
theorem dX2_isName_42 : decode cX2_isName 42 = .ok (.iload_n 3, 1) := by decide +kernel
theorem dX2_isName_43 : decode cX2_isName 43 = .ok (.if_icmp .eq 14, 3) := by decide +kernel
theorem dX2_isName_46 : decode cX2_isName 46 = .ok (.aload_n 0, 1) := by decide +kernel
theorem dX2_isName_47 : decode cX2_isName 47 = .ok (.iload 6, 2) := by decide +kernel
theorem dX2_isName_49 : decode cX2_isName 49 = .ok (.invokevirtual 9, 3) := by decide +kernel
theorem dX2_isName_52 : decode cX2_isName 52 = .ok (.bipush 46, 2) := by decide +kernel
theorem dX2_isName_54 : decode cX2_isName 54 = .ok (.if_icmp .ne 26, 3) := by decide +kernel
theorem dX2_isName_57 : decode cX2_isName 57 = .ok (.aload_n 0, 1) := by decide +kernel
theorem dX2_isName_58 : decode cX2_isName 58 = .ok (.iload 4, 2) := by decide +kernel
theorem dX2_isName_60 : decode cX2_isName 60 = .ok (.iload 6, 2) := by decide +kernel
theorem dX2_isName_62 : decode cX2_isName 62 = .ok (.invokestatic 54, 3) := by decide +kernel
theorem dX2_isName_65 : decode cX2_isName 65 = .ok (.ifCond .ne 5, 3) := by decide +kernel
theorem dX2_isName_68 : decode cX2_isName 68 = .ok (.iconst 0, 1) := by decide +kernel
theorem dX2_isName_69 : decode cX2_isName 69 = .ok (.ireturn, 1) := by decide +kernel
theorem dX2_isName_70 : decode cX2_isName 70 = .ok (.iload 4, 2) := by decide +kernel
theorem dX2_isName_72 : decode cX2_isName 72 = .ok (.istore 5, 2) := by decide +kernel
theorem dX2_isName_74 : decode cX2_isName 74 = .ok (.iload 6, 2) := by decide +kernel
theorem dX2_isName_76 : decode cX2_isName 76 = .ok (.iconst 1, 1) := by decide +kernel
theorem dX2_isName_77 : decode cX2_isName 77 = .ok (.iadd, 1) := by decide +kernel
theorem dX2_isName_78 : decode cX2_isName 78 = .ok (.istore 4, 2) := by decide +kernel
theorem dX2_isName_80 : decode cX2_isName 80 = .ok (.iinc 6 1, 3) := by decide +kernel
theorem dX2_isName_83 : decode cX2_isName 83 = .ok (.goto (-49), 3) := by decide +kernel
theorem dX2_isName_86 : decode cX2_isName 86 = .ok (.iload 5, 2) := by decide +kernel
theorem dX2_isName_88 : decode cX2_isName 88 = .ok (.iload_n 1, 1) := by decide +kernel
theorem dX2_isName_89 : decode cX2_isName 89 = .ok (.if_icmp .eq 15, 3) := by decide +kernel
theorem dX2_isName_92 : decode cX2_isName 92 = .ok (.aload_n 0, 1) := by decide +kernel
theorem dX2_isName_93 : decode cX2_isName 93 = .ok (.iload 5, 2) := by decide +kernel
theorem dX2_isName_95 : decode cX2_isName 95 = .ok (.invokevirtual 9, 3) := by decide +kernel
theorem dX2_isName_98 : decode cX2_isName 98 = .ok (.invokestatic 25, 3) := by decide +kernel
theorem dX2_isName_101 : decode cX2_isName 101 = .ok (.ifCond .eq 7, 3) := by decide +kernel
theorem dX2_isName_104 : decode cX2_isName 104 = .ok (.iconst 1, 1) := by decide +kernel
theorem dX2_isName_105 : decode cX2_isName 105 = .ok (.goto 4, 3) := by decide +kernel
theorem dX2_isName_108 : decode cX2_isName 108 = .ok (.iconst 0, 1) := by decide +kernel
theorem dX2_isName_109 : decode cX2_isName 109 = .ok (.ireturn, 1) := by decide +kernel
theorem dX2_isLabel_0 : decode cX2_isLabel 0 = .ok (.iload_n 1, 1) := by decide +kernel
theorem dX2_isLabel_1 : decode cX2_isLabel 1 = .ok (.iload_n 2, 1) := by decide +kernel
theorem dX2_isLabel_2 : decode cX2_isLabel 2 = .ok (.if_icmp .ge 25, 3) := by decide +kernel
theorem dX2_isLabel_5 : decode cX2_isLabel 5 = .ok (.aload_n 0, 1) := by decide +kernel
theorem dX2_isLabel_6 : decode cX2_isLabel 6 = .ok (.iload_n 1, 1) := by decide +kernel
theorem dX2_isLabel_7 : decode cX2_isLabel 7 = .ok (.invokevirtual 9, 3) := by decide +kernel
theorem dX2_isLabel_10 : decode cX2_isLabel 10 = .ok (.bipush 45, 2) := by decide +kernel
theorem dX2_isLabel_12 : decode cX2_isLabel 12 = .ok (.if_icmp .eq 15, 3) := by decide +kernel
theorem dX2_isLabel_15 : decode cX2_isLabel 15 = .ok (.aload_n 0, 1) := by decide +kernel
theorem dX2_isLabel_16 : decode cX2_isLabel 16 = .ok (.iload_n 2, 1) := by decide +kernel
theorem dX2_isLabel_17 : decode cX2_isLabel 17 = .ok (.iconst 1, 1) := by decide +kernel
theorem dX2_isLabel_18 : decode cX2_isLabel 18 = .ok (.isub, 1) := by decide +kernel
theorem dX2_isLabel_19 : decode cX2_isLabel 19 = .ok (.invokevirtual 9, 3) := by decide +kernel
theorem dX2_isLabel_22 : decode cX2_isLabel 22 = .ok (.bipush 45, 2) := by decide +kernel
theorem dX2_isLabel_24 : decode cX2_isLabel 24 = .ok (.if_icmp .ne 5, 3) := by decide +kernel
theorem dX2_isLabel_27 : decode cX2_isLabel 27 = .ok (.iconst 0, 1) := by decide +kernel
theorem dX2_isLabel_28 : decode cX2_isLabel 28 = .ok (.ireturn, 1) := by decide +kernel
theorem dX2_isLabel_29 : decode cX2_isLabel 29 = .ok (.iload_n 1, 1) := by decide +kernel
theorem dX2_isLabel_30 : decode cX2_isLabel 30 = .ok (.istore_n 3, 1) := by decide +kernel
theorem dX2_isLabel_31 : decode cX2_isLabel 31 = .ok (.iload_n 3, 1) := by decide +kernel
theorem dX2_isLabel_32 : decode cX2_isLabel 32 = .ok (.iload_n 2, 1) := by decide +kernel
theorem dX2_isLabel_33 : decode cX2_isLabel 33 = .ok (.if_icmp .ge 41, 3) := by decide +kernel
theorem dX2_isLabel_36 : decode cX2_isLabel 36 = .ok (.aload_n 0, 1) := by decide +kernel
theorem dX2_isLabel_37 : decode cX2_isLabel 37 = .ok (.iload_n 3, 1) := by decide +kernel
theorem dX2_isLabel_38 : decode cX2_isLabel 38 = .ok (.invokevirtual 9, 3) := by decide +kernel
theorem dX2_isLabel_41 : decode cX2_isLabel 41 = .ok (.istore 4, 2) := by decide +kernel
theorem dX2_isLabel_43 : decode cX2_isLabel 43 = .ok (.iload 4, 2) := by decide +kernel
theorem dX2_isLabel_45 : decode cX2_isLabel 45 = .ok (.invokestatic 25, 3) := by decide +kernel
theorem dX2_isLabel_48 : decode cX2_isLabel 48 = .ok (.ifCond .ne 20, 3) := by decide +kernel
theorem dX2_isLabel_51 : decode cX2_isLabel 51 = .ok (.iload 4, 2) := by decide +kernel
theorem dX2_isLabel_53 : decode cX2_isLabel 53 = .ok (.invokestatic 31, 3) := by decide +kernel
theorem dX2_isLabel_56 : decode cX2_isLabel 56 = .ok (.ifCond .ne 12, 3) := by decide +kernel
theorem dX2_isLabel_59 : decode cX2_isLabel 59 = .ok (.iload 4, 2) := by decide +kernel
theorem dX2_isLabel_61 : decode cX2_isLabel 61 = .ok (.bipush 45, 2) := by decide +kernel
theorem dX2_isLabel_63 : decode cX2_isLabel 63 = .ok (.if_icmp .eq 5, 3) := by decide +kernel
theorem dX2_isLabel_66 : decode cX2_isLabel 66 = .ok (.iconst 0, 1) := by decide +kernel
theorem dX2_isLabel_67 : decode cX2_isLabel 67 = .ok (.ireturn, 1) := by decide +kernel
theorem dX2_isLabel_68 : decode cX2_isLabel 68 = .ok (.iinc 3 1, 3) := by decide +kernel
theorem dX2_isLabel_71 : decode cX2_isLabel 71 = .ok (.goto (-40), 3) := by decide +kernel
theorem dX2_isLabel_74 : decode cX2_isLabel 74 = .ok (.iconst 1, 1) := by decide +kernel
theorem dX2_isLabel_75 : decode cX2_isLabel 75 = .ok (.ireturn, 1) := by decide +kernel
theorem dX2_isFourNumbers_0 : decode cX2_isFourNumbers 0 = .ok (.iload_n 1, 1) := by decide +kernel
theorem dX2_isFourNumbers_1 : decode cX2_isFourNumbers 1 = .ok (.istore_n 3, 1) := by decide +kernel
theorem dX2_isFourNumbers_2 : decode cX2_isFourNumbers 2 = .ok (.iconst 0, 1) := by decide +kernel
theorem dX2_isFourNumbers_3 : decode cX2_isFourNumbers 3 = .ok (.istore 4, 2) := by decide +kernel
theorem dX2_isFourNumbers_5 : decode cX2_isFourNumbers 5 = .ok (.iload_n 1, 1) := by decide +kernel
theorem dX2_isFourNumbers_6 : decode cX2_isFourNumbers 6 = .ok (.istore 5, 2) := by decide +kernel
theorem dX2_isFourNumbers_8 : decode cX2_isFourNumbers 8 = .ok (.iload 5, 2) := by decide +kernel
theorem dX2_isFourNumbers_10 : decode cX2_isFourNumbers 10 = .ok (.iload_n 2, 1) := by decide +kernel
theorem dX2_isFourNumbers_11 : decode cX2_isFourNumbers 11 = .ok (.if_icmp .gt 50, 3) := by decide +kernel
theorem dX2_isFourNumbers_14 : decode cX2_isFourNumbers 14 = .ok (.iload 5, 2) := by decide +kernel
theorem dX2_isFourNumbers_16 : decode cX2_isFourNumbers 16 = .ok (.iload_n 2, 1) := by decide +kernel
theorem dX2_isFourNumbers_17 : decode cX2_isFourNumbers 17 = .ok (.if_icmp .eq 14, 3) := by decide +kernel
theorem dX2_isFourNumbers_20 : decode cX2_isFourNumbers 20 = .ok (.aload_n 0, 1) := by decide +kernel
theorem dX2_isFourNumbers_21 : decode cX2_isFourNumbers 21 = .ok (.iload 5, 2) := by decide +kernel
theorem dX2_isFourNumbers_23 : decode cX2_isFourNumbers 23 = .ok (.invokevirtual 9, 3) := by decide +kernel
theorem dX2_isFourNumbers_26 : decode cX2_isFourNumbers 26 = .ok (.bipush 46, 2) := by decide +kernel
theorem dX2_isFourNumbers_28 : decode cX2_isFourNumbers 28 = .ok (.if_icmp .ne 27, 3) := by decide +kernel
theorem dX2_isFourNumbers_31 : decode cX2_isFourNumbers 31 = .ok (.aload_n 0, 1) := by decide +kernel
theorem dX2_isFourNumbers_32 : decode cX2_isFourNumbers 32 = .ok (.iload_n 3, 1) := by decide +kernel
theorem dX2_isFourNumbers_33 : decode cX2_isFourNumbers 33 = .ok (.iload 5, 2) := by decide +kernel
theorem dX2_isFourNumbers_35 : decode cX2_isFourNumbers 35 = .ok (.sipush 255, 3) := by decide +kernel
theorem dX2_isFourNumbers_38 : decode cX2_isFourNumbers 38 = .ok (.invokestatic 58, 3) := by decide +kernel
theorem dX2_isFourNumbers_41 : decode cX2_isFourNumbers 41 = .ok (.iconst 1, 1) := by decide +kernel
theorem dX2_isFourNumbers_42 : decode cX2_isFourNumbers 42 = .ok (.if_icmp .ge 5, 3) := by decide +kernel
theorem dX2_isFourNumbers_45 : decode cX2_isFourNumbers 45 = .ok (.iconst 0, 1) := by decide +kernel
theorem dX2_isFourNumbers_46 : decode cX2_isFourNumbers 46 = .ok (.ireturn, 1) := by decide +kernel
theorem dX2_isFourNumbers_47 : decode cX2_isFourNumbers 47 = .ok (.iinc 4 1, 3) := by decide +kernel
theorem dX2_isFourNumbers_50 : decode cX2_isFourNumbers 50 = .ok (.iload 5, 2) := by decide +kernel
theorem dX2_isFourNumbers_52 : decode cX2_isFourNumbers 52 = .ok (.iconst 1, 1) := by decide +kernel
theorem dX2_isFourNumbers_53 : decode cX2_isFourNumbers 53 = .ok (.iadd, 1) := by decide +kernel
theorem dX2_isFourNumbers_54 : decode cX2_isFourNumbers 54 = .ok (.istore_n 3, 1) := by decide +kernel
theorem dX2_isFourNumbers_55 : decode cX2_isFourNumbers 55 = .ok (.iinc 5 1, 3) := by decide +kernel
theorem dX2_isFourNumbers_58 : decode cX2_isFourNumbers 58 = .ok (.goto (-50), 3) := by decide +kernel
theorem dX2_isFourNumbers_61 : decode cX2_isFourNumbers 61 = .ok (.iload 4, 2) := by decide +kernel
theorem dX2_isFourNumbers_63 : decode cX2_isFourNumbers 63 = .ok (.iconst 4, 1) := by decide +kernel
theorem dX2_isFourNumbers_64 : decode cX2_isFourNumbers 64 = .ok (.if_icmp .ne 7, 3) := by decide +kernel
theorem dX2_isFourNumbers_67 : decode cX2_isFourNumbers 67 = .ok (.iconst 1, 1) := by decide +kernel
theorem dX2_isFourNumbers_68 : decode cX2_isFourNumbers 68 = .ok (.goto 4, 3) := by decide +kernel
theorem dX2_isFourNumbers_71 : decode cX2_isFourNumbers 71 = .ok (.iconst 0, 1) := by decide +kernel
theorem dX2_isFourNumbers_72 : decode cX2_isFourNumbers 72 = .ok (.ireturn, 1) := by decide +kernel
theorem dX2_isPort_0 : decode cX2_isPort 0 = .ok (.iload_n 1, 1) := by decide +kernel
theorem dX2_isPort_1 : decode cX2_isPort 1 = .ok (.iload_n 2, 1) := by decide +kernel
theorem dX2_isPort_2 : decode cX2_isPort 2 = .ok (.if_icmp .ge 15, 3) := by decide +kernel
theorem dX2_isPort_5 : decode cX2_isPort 5 = .ok (.aload_n 0, 1) := by decide +kernel
theorem dX2_isPort_6 : decode cX2_isPort 6 = .ok (.iload_n 1, 1) := by decide +kernel
theorem dX2_isPort_7 : decode cX2_isPort 7 = .ok (.iload_n 2, 1) := by decide +kernel
theorem dX2_isPort_8 : decode cX2_isPort 8 = .ok (.ldc 62, 2) := by decide +kernel
theorem dX2_isPort_10 : decode cX2_isPort 10 = .ok (.invokestatic 58, 3) := by decide +kernel
theorem dX2_isPort_13 : decode cX2_isPort 13 = .ok (.iconst (-1), 1) := by decide +kernel
theorem dX2_isPort_14 : decode cX2_isPort 14 = .ok (.if_icmp .eq 7, 3) := by decide +kernel
theorem dX2_isPort_17 : decode cX2_isPort 17 = .ok (.iconst 1, 1) := by decide +kernel
theorem dX2_isPort_18 : decode cX2_isPort 18 = .ok (.goto 4, 3) := by decide +kernel
theorem dX2_isPort_21 : decode cX2_isPort 21 = .ok (.iconst 0, 1) := by decide +kernel
theorem dX2_isPort_22 : decode cX2_isPort 22 = .ok (.ireturn, 1) := by decide +kernel
theorem dX2_numberIn_0 : decode cX2_numberIn 0 = .ok (.iload_n 1, 1) := by decide +kernel
theorem dX2_numberIn_1 : decode cX2_numberIn 1 = .ok (.iload_n 2, 1) := by decide +kernel
theorem dX2_numberIn_2 : decode cX2_numberIn 2 = .ok (.if_icmp .lt 5, 3) := by decide +kernel
theorem dX2_numberIn_5 : decode cX2_numberIn 5 = .ok (.iconst (-1), 1) := by decide +kernel
theorem dX2_numberIn_6 : decode cX2_numberIn 6 = .ok (.ireturn, 1) := by decide +kernel
theorem dX2_numberIn_7 : decode cX2_numberIn 7 = .ok (.lconst 0, 1) := by decide +kernel
theorem dX2_numberIn_8 : decode cX2_numberIn 8 = .ok (.lstore 4, 2) := by decide +kernel
theorem dX2_numberIn_10 : decode cX2_numberIn 10 = .ok (.iload_n 1, 1) := by decide +kernel
theorem dX2_numberIn_11 : decode cX2_numberIn 11 = .ok (.istore 6, 2) := by decide +kernel
theorem dX2_numberIn_13 : decode cX2_numberIn 13 = .ok (.iload 6, 2) := by decide +kernel
theorem dX2_numberIn_15 : decode cX2_numberIn 15 = .ok (.iload_n 2, 1) := by decide +kernel
theorem dX2_numberIn_16 : decode cX2_numberIn 16 = .ok (.if_icmp .ge 52, 3) := by decide +kernel
theorem dX2_numberIn_19 : decode cX2_numberIn 19 = .ok (.aload_n 0, 1) := by decide +kernel
theorem dX2_numberIn_20 : decode cX2_numberIn 20 = .ok (.iload 6, 2) := by decide +kernel
theorem dX2_numberIn_22 : decode cX2_numberIn 22 = .ok (.invokevirtual 9, 3) := by decide +kernel
theorem dX2_numberIn_25 : decode cX2_numberIn 25 = .ok (.istore 7, 2) := by decide +kernel
theorem dX2_numberIn_27 : decode cX2_numberIn 27 = .ok (.iload 7, 2) := by decide +kernel
theorem dX2_numberIn_29 : decode cX2_numberIn 29 = .ok (.invokestatic 31, 3) := by decide +kernel
theorem dX2_numberIn_32 : decode cX2_numberIn 32 = .ok (.ifCond .ne 5, 3) := by decide +kernel
theorem dX2_numberIn_35 : decode cX2_numberIn 35 = .ok (.iconst (-1), 1) := by decide +kernel
theorem dX2_numberIn_36 : decode cX2_numberIn 36 = .ok (.ireturn, 1) := by decide +kernel
theorem dX2_numberIn_37 : decode cX2_numberIn 37 = .ok (.ldc2_w 63, 3) := by decide +kernel
theorem dX2_numberIn_40 : decode cX2_numberIn 40 = .ok (.lload 4, 2) := by decide +kernel
theorem dX2_numberIn_42 : decode cX2_numberIn 42 = .ok (.lmul, 1) := by decide +kernel
theorem dX2_numberIn_43 : decode cX2_numberIn 43 = .ok (.iload 7, 2) := by decide +kernel
theorem dX2_numberIn_45 : decode cX2_numberIn 45 = .ok (.bipush 48, 2) := by decide +kernel
theorem dX2_numberIn_47 : decode cX2_numberIn 47 = .ok (.isub, 1) := by decide +kernel
theorem dX2_numberIn_48 : decode cX2_numberIn 48 = .ok (.i2l, 1) := by decide +kernel
theorem dX2_numberIn_49 : decode cX2_numberIn 49 = .ok (.ladd, 1) := by decide +kernel
theorem dX2_numberIn_50 : decode cX2_numberIn 50 = .ok (.lstore 4, 2) := by decide +kernel
theorem dX2_numberIn_52 : decode cX2_numberIn 52 = .ok (.lload 4, 2) := by decide +kernel
theorem dX2_numberIn_54 : decode cX2_numberIn 54 = .ok (.iload_n 3, 1) := by decide +kernel
theorem dX2_numberIn_55 : decode cX2_numberIn 55 = .ok (.i2l, 1) := by decide +kernel
theorem dX2_numberIn_56 : decode cX2_numberIn 56 = .ok (.lcmp, 1) := by decide +kernel
theorem dX2_numberIn_57 : decode cX2_numberIn 57 = .ok (.ifCond .le 5, 3) := by decide +kernel
theorem dX2_numberIn_60 : decode cX2_numberIn 60 = .ok (.iconst (-1), 1) := by decide +kernel
theorem dX2_numberIn_61 : decode cX2_numberIn 61 = .ok (.ireturn, 1) := by decide +kernel
theorem dX2_numberIn_62 : decode cX2_numberIn 62 = .ok (.iinc 6 1, 3) := by decide +kernel
theorem dX2_numberIn_65 : decode cX2_numberIn 65 = .ok (.goto (-52), 3) := by decide +kernel
theorem dX2_numberIn_68 : decode cX2_numberIn 68 = .ok (.lload 4, 2) := by decide +kernel
theorem dX2_numberIn_70 : decode cX2_numberIn 70 = .ok (.l2i, 1) := by decide +kernel
theorem dX2_numberIn_71 : decode cX2_numberIn 71 = .ok (.ireturn, 1) := by decide +kernel
theorem dX3_init_0 : decode cX3_init 0 = .ok (.aload_n 0, 1) := by decide +kernel
theorem dX3_init_1 : decode cX3_init 1 = .ok (.invokespecial 3, 3) := by decide +kernel
theorem dX3_init_4 : decode cX3_init 4 = .ok (.aload_n 0, 1) := by decide +kernel
theorem dX3_init_5 : decode cX3_init 5 = .ok (.sipush 128, 3) := by decide +kernel
theorem dX3_init_8 : decode cX3_init 8 = .ok (.newarray .char, 2) := by decide +kernel
theorem dX3_init_10 : decode cX3_init 10 = .ok (.putfield 9, 3) := by decide +kernel
theorem dX3_init_13 : decode cX3_init 13 = .ok (.return_, 1) := by decide +kernel
theorem dX3_count_0 : decode cX3_count 0 = .ok (.aload_n 0, 1) := by decide +kernel
theorem dX3_count_1 : decode cX3_count 1 = .ok (.getfield 15, 3) := by decide +kernel
theorem dX3_count_4 : decode cX3_count 4 = .ok (.ireturn, 1) := by decide +kernel
theorem dX3_at_0 : decode cX3_at 0 = .ok (.iload_n 1, 1) := by decide +kernel
theorem dX3_at_1 : decode cX3_at 1 = .ok (.ifCond .lt 29, 3) := by decide +kernel
theorem dX3_at_4 : decode cX3_at 4 = .ok (.iload_n 1, 1) := by decide +kernel
theorem dX3_at_5 : decode cX3_at 5 = .ok (.aload_n 0, 1) := by decide +kernel
theorem dX3_at_6 : decode cX3_at 6 = .ok (.getfield 15, 3) := by decide +kernel
theorem dX3_at_9 : decode cX3_at 9 = .ok (.if_icmp .ge 21, 3) := by decide +kernel
theorem dX3_at_12 : decode cX3_at 12 = .ok (.iload_n 1, 1) := by decide +kernel
theorem dX3_at_13 : decode cX3_at 13 = .ok (.aload_n 0, 1) := by decide +kernel
theorem dX3_at_14 : decode cX3_at 14 = .ok (.getfield 9, 3) := by decide +kernel
theorem dX3_at_17 : decode cX3_at 17 = .ok (.arraylength, 1) := by decide +kernel
theorem dX3_at_18 : decode cX3_at 18 = .ok (.if_icmp .ge 12, 3) := by decide +kernel
theorem dX3_at_21 : decode cX3_at 21 = .ok (.aload_n 0, 1) := by decide +kernel
theorem dX3_at_22 : decode cX3_at 22 = .ok (.getfield 9, 3) := by decide +kernel
theorem dX3_at_25 : decode cX3_at 25 = .ok (.iload_n 1, 1) := by decide +kernel
theorem dX3_at_26 : decode cX3_at 26 = .ok (.caload, 1) := by decide +kernel
theorem dX3_at_27 : decode cX3_at 27 = .ok (.goto 4, 3) := by decide +kernel
theorem dX3_at_30 : decode cX3_at 30 = .ok (.iconst 0, 1) := by decide +kernel
theorem dX3_at_31 : decode cX3_at 31 = .ok (.ireturn, 1) := by decide +kernel
theorem dX3_put_0 : decode cX3_put 0 = .ok (.aload_n 0, 1) := by decide +kernel
theorem dX3_put_1 : decode cX3_put 1 = .ok (.getfield 15, 3) := by decide +kernel
theorem dX3_put_4 : decode cX3_put 4 = .ok (.ifCond .lt 35, 3) := by decide +kernel
theorem dX3_put_7 : decode cX3_put 7 = .ok (.aload_n 0, 1) := by decide +kernel
theorem dX3_put_8 : decode cX3_put 8 = .ok (.getfield 15, 3) := by decide +kernel
theorem dX3_put_11 : decode cX3_put 11 = .ok (.aload_n 0, 1) := by decide +kernel
theorem dX3_put_12 : decode cX3_put 12 = .ok (.getfield 9, 3) := by decide +kernel
theorem dX3_put_15 : decode cX3_put 15 = .ok (.arraylength, 1) := by decide +kernel
theorem dX3_put_16 : decode cX3_put 16 = .ok (.if_icmp .ge 23, 3) := by decide +kernel
theorem dX3_put_19 : decode cX3_put 19 = .ok (.aload_n 0, 1) := by decide +kernel
theorem dX3_put_20 : decode cX3_put 20 = .ok (.getfield 9, 3) := by decide +kernel
theorem dX3_put_23 : decode cX3_put 23 = .ok (.aload_n 0, 1) := by decide +kernel
theorem dX3_put_24 : decode cX3_put 24 = .ok (.getfield 15, 3) := by decide +kernel
theorem dX3_put_27 : decode cX3_put 27 = .ok (.iload_n 1, 1) := by decide +kernel
theorem dX3_put_28 : decode cX3_put 28 = .ok (.castore, 1) := by decide +kernel
theorem dX3_put_29 : decode cX3_put 29 = .ok (.aload_n 0, 1) := by decide +kernel
theorem dX3_put_30 : decode cX3_put 30 = .ok (.dup, 1) := by decide +kernel
theorem dX3_put_31 : decode cX3_put 31 = .ok (.getfield 15, 3) := by decide +kernel
theorem dX3_put_34 : decode cX3_put 34 = .ok (.iconst 1, 1) := by decide +kernel
theorem dX3_put_35 : decode cX3_put 35 = .ok (.iadd, 1) := by decide +kernel
theorem dX3_put_36 : decode cX3_put 36 = .ok (.putfield 15, 3) := by decide +kernel
theorem dX3_put_39 : decode cX3_put 39 = .ok (.return_, 1) := by decide +kernel
theorem dX3_putAll_0 : decode cX3_putAll 0 = .ok (.iconst 0, 1) := by decide +kernel
theorem dX3_putAll_1 : decode cX3_putAll 1 = .ok (.istore_n 2, 1) := by decide +kernel
theorem dX3_putAll_2 : decode cX3_putAll 2 = .ok (.iload_n 2, 1) := by decide +kernel
theorem dX3_putAll_3 : decode cX3_putAll 3 = .ok (.aload_n 1, 1) := by decide +kernel
theorem dX3_putAll_4 : decode cX3_putAll 4 = .ok (.invokevirtual 19, 3) := by decide +kernel
theorem dX3_putAll_7 : decode cX3_putAll 7 = .ok (.if_icmp .ge 18, 3) := by decide +kernel
theorem dX3_putAll_10 : decode cX3_putAll 10 = .ok (.aload_n 0, 1) := by decide +kernel
theorem dX3_putAll_11 : decode cX3_putAll 11 = .ok (.aload_n 1, 1) := by decide +kernel
theorem dX3_putAll_12 : decode cX3_putAll 12 = .ok (.iload_n 2, 1) := by decide +kernel
theorem dX3_putAll_13 : decode cX3_putAll 13 = .ok (.invokevirtual 25, 3) := by decide +kernel
theorem dX3_putAll_16 : decode cX3_putAll 16 = .ok (.invokevirtual 29, 3) := by decide +kernel
theorem dX3_putAll_19 : decode cX3_putAll 19 = .ok (.iinc 2 1, 3) := by decide +kernel
theorem dX3_putAll_22 : decode cX3_putAll 22 = .ok (.goto (-20), 3) := by decide +kernel
theorem dX3_putAll_25 : decode cX3_putAll 25 = .ok (.return_, 1) := by decide +kernel
theorem dX3_putRange_0 : decode cX3_putRange 0 = .ok (.iload_n 2, 1) := by decide +kernel
theorem dX3_putRange_1 : decode cX3_putRange 1 = .ok (.istore 4, 2) := by decide +kernel
theorem dX3_putRange_3 : decode cX3_putRange 3 = .ok (.iload 4, 2) := by decide +kernel
theorem dX3_putRange_5 : decode cX3_putRange 5 = .ok (.iload_n 3, 1) := by decide +kernel
theorem dX3_putRange_6 : decode cX3_putRange 6 = .ok (.if_icmp .ge 19, 3) := by decide +kernel
theorem dX3_putRange_9 : decode cX3_putRange 9 = .ok (.aload_n 0, 1) := by decide +kernel
theorem dX3_putRange_10 : decode cX3_putRange 10 = .ok (.aload_n 1, 1) := by decide +kernel
theorem dX3_putRange_11 : decode cX3_putRange 11 = .ok (.iload 4, 2) := by decide +kernel
theorem dX3_putRange_13 : decode cX3_putRange 13 = .ok (.invokevirtual 33, 3) := by decide +kernel
theorem dX3_putRange_16 : decode cX3_putRange 16 = .ok (.invokevirtual 29, 3) := by decide +kernel
theorem dX3_putRange_19 : decode cX3_putRange 19 = .ok (.iinc 4 1, 3) := by decide +kernel
theorem dX3_putRange_22 : decode cX3_putRange 22 = .ok (.goto (-19), 3) := by decide +kernel
theorem dX3_putRange_25 : decode cX3_putRange 25 = .ok (.return_, 1) := by decide +kernel
theorem dX3_shorten_0 : decode cX3_shorten 0 = .ok (.iload_n 1, 1) := by decide +kernel
theorem dX3_shorten_1 : decode cX3_shorten 1 = .ok (.ifCond .lt 16, 3) := by decide +kernel
theorem dX3_shorten_4 : decode cX3_shorten 4 = .ok (.iload_n 1, 1) := by decide +kernel
theorem dX3_shorten_5 : decode cX3_shorten 5 = .ok (.aload_n 0, 1) := by decide +kernel
theorem dX3_shorten_6 : decode cX3_shorten 6 = .ok (.getfield 15, 3) := by decide +kernel
theorem dX3_shorten_9 : decode cX3_shorten 9 = .ok (.if_icmp .ge 8, 3) := by decide +kernel
theorem dX3_shorten_12 : decode cX3_shorten 12 = .ok (.aload_n 0, 1) := by decide +kernel
theorem dX3_shorten_13 : decode cX3_shorten 13 = .ok (.iload_n 1, 1) := by decide +kernel
theorem dX3_shorten_14 : decode cX3_shorten 14 = .ok (.putfield 15, 3) := by decide +kernel
theorem dX3_shorten_17 : decode cX3_shorten 17 = .ok (.return_, 1) := by decide +kernel
theorem dX3_takeOver_0 : decode cX3_takeOver 0 = .ok (.iconst 0, 1) := by decide +kernel
theorem dX3_takeOver_1 : decode cX3_takeOver 1 = .ok (.istore_n 2, 1) := by decide +kernel
theorem dX3_takeOver_2 : decode cX3_takeOver 2 = .ok (.iload_n 2, 1) := by decide +kernel
theorem dX3_takeOver_3 : decode cX3_takeOver 3 = .ok (.aload_n 1, 1) := by decide +kernel
theorem dX3_takeOver_4 : decode cX3_takeOver 4 = .ok (.getfield 15, 3) := by decide +kernel
theorem dX3_takeOver_7 : decode cX3_takeOver 7 = .ok (.if_icmp .ge 29, 3) := by decide +kernel
theorem dX3_takeOver_10 : decode cX3_takeOver 10 = .ok (.iload_n 2, 1) := by decide +kernel
theorem dX3_takeOver_11 : decode cX3_takeOver 11 = .ok (.aload_n 0, 1) := by decide +kernel
theorem dX3_takeOver_12 : decode cX3_takeOver 12 = .ok (.getfield 9, 3) := by decide +kernel
theorem dX3_takeOver_15 : decode cX3_takeOver 15 = .ok (.arraylength, 1) := by decide +kernel
theorem dX3_takeOver_16 : decode cX3_takeOver 16 = .ok (.if_icmp .ge 20, 3) := by decide +kernel
theorem dX3_takeOver_19 : decode cX3_takeOver 19 = .ok (.aload_n 0, 1) := by decide +kernel
theorem dX3_takeOver_20 : decode cX3_takeOver 20 = .ok (.getfield 9, 3) := by decide +kernel
theorem dX3_takeOver_23 : decode cX3_takeOver 23 = .ok (.iload_n 2, 1) := by decide +kernel
theorem dX3_takeOver_24 : decode cX3_takeOver 24 = .ok (.aload_n 1, 1) := by decide +kernel
theorem dX3_takeOver_25 : decode cX3_takeOver 25 = .ok (.iload_n 2, 1) := by decide +kernel
theorem dX3_takeOver_26 : decode cX3_takeOver 26 = .ok (.invokevirtual 33, 3) := by decide +kernel
theorem dX3_takeOver_29 : decode cX3_takeOver 29 = .ok (.castore, 1) := by decide +kernel
theorem dX3_takeOver_30 : decode cX3_takeOver 30 = .ok (.iinc 2 1, 3) := by decide +kernel
theorem dX3_takeOver_33 : decode cX3_takeOver 33 = .ok (.goto (-31), 3) := by decide +kernel
theorem dX3_takeOver_36 : decode cX3_takeOver 36 = .ok (.aload_n 0, 1) := by decide +kernel
theorem dX3_takeOver_37 : decode cX3_takeOver 37 = .ok (.aload_n 1, 1) := by decide +kernel
theorem dX3_takeOver_38 : decode cX3_takeOver 38 = .ok (.getfield 15, 3) := by decide +kernel
theorem dX3_takeOver_41 : decode cX3_takeOver 41 = .ok (.putfield 15, 3) := by decide +kernel
theorem dX3_takeOver_44 : decode cX3_takeOver 44 = .ok (.return_, 1) := by decide +kernel
theorem dX3_next_0 : decode cX3_next 0 = .ok (.iload_n 2, 1) := by decide +kernel
theorem dX3_next_1 : decode cX3_next 1 = .ok (.istore 4, 2) := by decide +kernel
theorem dX3_next_3 : decode cX3_next 3 = .ok (.iload 4, 2) := by decide +kernel
theorem dX3_next_5 : decode cX3_next 5 = .ok (.iload_n 3, 1) := by decide +kernel
theorem dX3_next_6 : decode cX3_next 6 = .ok (.if_icmp .ge 25, 3) := by decide +kernel
theorem dX3_next_9 : decode cX3_next 9 = .ok (.aload_n 1, 1) := by decide +kernel
theorem dX3_next_10 : decode cX3_next 10 = .ok (.aload_n 0, 1) := by decide +kernel
theorem dX3_next_11 : decode cX3_next 11 = .ok (.iload 4, 2) := by decide +kernel
theorem dX3_next_13 : decode cX3_next 13 = .ok (.invokevirtual 33, 3) := by decide +kernel
theorem dX3_next_16 : decode cX3_next 16 = .ok (.invokevirtual 36, 3) := by decide +kernel
theorem dX3_next_19 : decode cX3_next 19 = .ok (.ifCond .lt 6, 3) := by decide +kernel
theorem dX3_next_22 : decode cX3_next 22 = .ok (.iload 4, 2) := by decide +kernel
theorem dX3_next_24 : decode cX3_next 24 = .ok (.ireturn, 1) := by decide +kernel
theorem dX3_next_25 : decode cX3_next 25 = .ok (.iinc 4 1, 3) := by decide +kernel
theorem dX3_next_28 : decode cX3_next 28 = .ok (.goto (-25), 3) := by decide +kernel
theorem dX3_next_31 : decode cX3_next 31 = .ok (.iload_n 3, 1) := by decide +kernel
theorem dX3_next_32 : decode cX3_next 32 = .ok (.ireturn, 1) := by decide +kernel
theorem dX3_isRange_0 : decode cX3_isRange 0 = .ok (.iload_n 1, 1) := by decide +kernel
theorem dX3_isRange_1 : decode cX3_isRange 1 = .ok (.istore 5, 2) := by decide +kernel
theorem dX3_isRange_3 : decode cX3_isRange 3 = .ok (.iload 5, 2) := by decide +kernel
theorem dX3_isRange_5 : decode cX3_isRange 5 = .ok (.iload_n 2, 1) := by decide +kernel
theorem dX3_isRange_6 : decode cX3_isRange 6 = .ok (.if_icmp .ge 31, 3) := by decide +kernel
theorem dX3_isRange_9 : decode cX3_isRange 9 = .ok (.aload_n 0, 1) := by decide +kernel
theorem dX3_isRange_10 : decode cX3_isRange 10 = .ok (.iload 5, 2) := by decide +kernel
theorem dX3_isRange_12 : decode cX3_isRange 12 = .ok (.invokevirtual 33, 3) := by decide +kernel
theorem dX3_isRange_15 : decode cX3_isRange 15 = .ok (.aload_n 3, 1) := by decide +kernel
theorem dX3_isRange_16 : decode cX3_isRange 16 = .ok (.iload 4, 2) := by decide +kernel
theorem dX3_isRange_18 : decode cX3_isRange 18 = .ok (.iload 5, 2) := by decide +kernel
theorem dX3_isRange_20 : decode cX3_isRange 20 = .ok (.iadd, 1) := by decide +kernel
theorem dX3_isRange_21 : decode cX3_isRange 21 = .ok (.iload_n 1, 1) := by decide +kernel
theorem dX3_isRange_22 : decode cX3_isRange 22 = .ok (.isub, 1) := by decide +kernel
theorem dX3_isRange_23 : decode cX3_isRange 23 = .ok (.invokevirtual 33, 3) := by decide +kernel
theorem dX3_isRange_26 : decode cX3_isRange 26 = .ok (.if_icmp .eq 5, 3) := by decide +kernel
theorem dX3_isRange_29 : decode cX3_isRange 29 = .ok (.iconst 0, 1) := by decide +kernel
theorem dX3_isRange_30 : decode cX3_isRange 30 = .ok (.ireturn, 1) := by decide +kernel
theorem dX3_isRange_31 : decode cX3_isRange 31 = .ok (.iinc 5 1, 3) := by decide +kernel
theorem dX3_isRange_34 : decode cX3_isRange 34 = .ok (.goto (-31), 3) := by decide +kernel
theorem dX3_isRange_37 : decode cX3_isRange 37 = .ok (.iconst 1, 1) := by decide +kernel
theorem dX3_isRange_38 : decode cX3_isRange 38 = .ok (.ireturn, 1) := by decide +kernel
theorem dJ11_isValidCodePoint_9a6ad_0 : decode cJ11_isValidCodePoint_9a6ad 0 = .ok (.iload_n 0, 1) := by decide +kernel
theorem dJ11_isValidCodePoint_9a6ad_1 : decode cJ11_isValidCodePoint_9a6ad 1 = .ok (.bipush 16, 2) := by decide +kernel
theorem dJ11_isValidCodePoint_9a6ad_3 : decode cJ11_isValidCodePoint_9a6ad 3 = .ok (.iushr, 1) := by decide +kernel
theorem dJ11_isValidCodePoint_9a6ad_4 : decode cJ11_isValidCodePoint_9a6ad 4 = .ok (.istore_n 1, 1) := by decide +kernel
theorem dJ11_isValidCodePoint_9a6ad_5 : decode cJ11_isValidCodePoint_9a6ad 5 = .ok (.iload_n 1, 1) := by decide +kernel
theorem dJ11_isValidCodePoint_9a6ad_6 : decode cJ11_isValidCodePoint_9a6ad 6 = .ok (.bipush 17, 2) := by decide +kernel
theorem dJ11_isValidCodePoint_9a6ad_8 : decode cJ11_isValidCodePoint_9a6ad 8 = .ok (.if_icmp .ge 7, 3) := by decide +kernel
theorem dJ11_isValidCodePoint_9a6ad_11 : decode cJ11_isValidCodePoint_9a6ad 11 = .ok (.iconst 1, 1) := by decide +kernel
theorem dJ11_isValidCodePoint_9a6ad_12 : decode cJ11_isValidCodePoint_9a6ad 12 = .ok (.goto 4, 3) := by decide +kernel
theorem dJ11_isValidCodePoint_9a6ad_15 : decode cJ11_isValidCodePoint_9a6ad 15 = .ok (.iconst 0, 1) := by decide +kernel
theorem dJ11_isValidCodePoint_9a6ad_16 : decode cJ11_isValidCodePoint_9a6ad 16 = .ok (.ireturn, 1) := by decide +kernel
theorem dJ11_highSurrogate_5068e_0 : decode cJ11_highSurrogate_5068e 0 = .ok (.iload_n 0, 1) := by decide +kernel
theorem dJ11_highSurrogate_5068e_1 : decode cJ11_highSurrogate_5068e 1 = .ok (.bipush 10, 2) := by decide +kernel
theorem dJ11_highSurrogate_5068e_3 : decode cJ11_highSurrogate_5068e 3 = .ok (.iushr, 1) := by decide +kernel
theorem dJ11_highSurrogate_5068e_4 : decode cJ11_highSurrogate_5068e 4 = .ok (.ldc 110, 2) := by decide +kernel
theorem dJ11_highSurrogate_5068e_6 : decode cJ11_highSurrogate_5068e 6 = .ok (.iadd, 1) := by decide +kernel
theorem dJ11_highSurrogate_5068e_7 : decode cJ11_highSurrogate_5068e 7 = .ok (.i2c, 1) := by decide +kernel
theorem dJ11_highSurrogate_5068e_8 : decode cJ11_highSurrogate_5068e 8 = .ok (.ireturn, 1) := by decide +kernel
theorem dJ11_lowSurrogate_5068e_0 : decode cJ11_lowSurrogate_5068e 0 = .ok (.iload_n 0, 1) := by decide +kernel
theorem dJ11_lowSurrogate_5068e_1 : decode cJ11_lowSurrogate_5068e 1 = .ok (.sipush 1023, 3) := by decide +kernel
theorem dJ11_lowSurrogate_5068e_4 : decode cJ11_lowSurrogate_5068e 4 = .ok (.iand, 1) := by decide +kernel
theorem dJ11_lowSurrogate_5068e_5 : decode cJ11_lowSurrogate_5068e 5 = .ok (.ldc 76, 2) := by decide +kernel
theorem dJ11_lowSurrogate_5068e_7 : decode cJ11_lowSurrogate_5068e 7 = .ok (.iadd, 1) := by decide +kernel
theorem dJ11_lowSurrogate_5068e_8 : decode cJ11_lowSurrogate_5068e 8 = .ok (.i2c, 1) := by decide +kernel
theorem dJ11_lowSurrogate_5068e_9 : decode cJ11_lowSurrogate_5068e 9 = .ok (.ireturn, 1) := by decide +kernel
theorem dJ9_max_7cf53_0 : decode cJ9_max_7cf53 0 = .ok (.iload_n 0, 1) := by decide +kernel
theorem dJ9_max_7cf53_1 : decode cJ9_max_7cf53 1 = .ok (.iload_n 1, 1) := by decide +kernel
theorem dJ9_max_7cf53_2 : decode cJ9_max_7cf53 2 = .ok (.if_icmp .lt 7, 3) := by decide +kernel
theorem dJ9_max_7cf53_5 : decode cJ9_max_7cf53 5 = .ok (.iload_n 0, 1) := by decide +kernel
theorem dJ9_max_7cf53_6 : decode cJ9_max_7cf53 6 = .ok (.goto 4, 3) := by decide +kernel
theorem dJ9_max_7cf53_9 : decode cJ9_max_7cf53 9 = .ok (.iload_n 1, 1) := by decide +kernel
theorem dJ9_max_7cf53_10 : decode cJ9_max_7cf53 10 = .ok (.ireturn, 1) := by decide +kernel
theorem dJ9_min_7cf53_0 : decode cJ9_min_7cf53 0 = .ok (.iload_n 0, 1) := by decide +kernel
theorem dJ9_min_7cf53_1 : decode cJ9_min_7cf53 1 = .ok (.iload_n 1, 1) := by decide +kernel
theorem dJ9_min_7cf53_2 : decode cJ9_min_7cf53 2 = .ok (.if_icmp .gt 7, 3) := by decide +kernel
theorem dJ9_min_7cf53_5 : decode cJ9_min_7cf53 5 = .ok (.iload_n 0, 1) := by decide +kernel
theorem dJ9_min_7cf53_6 : decode cJ9_min_7cf53 6 = .ok (.goto 4, 3) := by decide +kernel
theorem dJ9_min_7cf53_9 : decode cJ9_min_7cf53 9 = .ok (.iload_n 1, 1) := by decide +kernel
theorem dJ9_min_7cf53_10 : decode cJ9_min_7cf53 10 = .ok (.ireturn, 1) := by decide +kernel
theorem dJ0_length_8abf5_0 : decode cJ0_length_8abf5 0 = .ok (.aload_n 0, 1) := by decide +kernel
theorem dJ0_length_8abf5_1 : decode cJ0_length_8abf5 1 = .ok (.getfield 9, 3) := by decide +kernel
theorem dJ0_length_8abf5_4 : decode cJ0_length_8abf5 4 = .ok (.arraylength, 1) := by decide +kernel
theorem dJ0_length_8abf5_5 : decode cJ0_length_8abf5 5 = .ok (.aload_n 0, 1) := by decide +kernel
theorem dJ0_length_8abf5_6 : decode cJ0_length_8abf5 6 = .ok (.invokevirtual 335, 3) := by decide +kernel
theorem dJ0_length_8abf5_9 : decode cJ0_length_8abf5 9 = .ok (.ishr, 1) := by decide +kernel
theorem dJ0_length_8abf5_10 : decode cJ0_length_8abf5 10 = .ok (.ireturn, 1) := by decide +kernel
theorem dJ0_charAt_5068e_0 : decode cJ0_charAt_5068e 0 = .ok (.aload_n 0, 1) := by decide +kernel
theorem dJ0_charAt_5068e_1 : decode cJ0_charAt_5068e 1 = .ok (.invokevirtual 492, 3) := by decide +kernel
theorem dJ0_charAt_5068e_4 : decode cJ0_charAt_5068e 4 = .ok (.ifCond .eq 12, 3) := by decide +kernel
theorem dJ0_charAt_5068e_7 : decode cJ0_charAt_5068e 7 = .ok (.aload_n 0, 1) := by decide +kernel
theorem dJ0_charAt_5068e_8 : decode cJ0_charAt_5068e 8 = .ok (.getfield 9, 3) := by decide +kernel
theorem dJ0_charAt_5068e_11 : decode cJ0_charAt_5068e 11 = .ok (.iload_n 1, 1) := by decide +kernel
theorem dJ0_charAt_5068e_12 : decode cJ0_charAt_5068e 12 = .ok (.invokestatic 495, 3) := by decide +kernel
theorem dJ0_charAt_5068e_15 : decode cJ0_charAt_5068e 15 = .ok (.ireturn, 1) := by decide +kernel
theorem dJ0_charAt_5068e_16 : decode cJ0_charAt_5068e 16 = .ok (.aload_n 0, 1) := by decide +kernel
theorem dJ0_charAt_5068e_17 : decode cJ0_charAt_5068e 17 = .ok (.getfield 9, 3) := by decide +kernel
theorem dJ0_charAt_5068e_20 : decode cJ0_charAt_5068e 20 = .ok (.iload_n 1, 1) := by decide +kernel
theorem dJ0_charAt_5068e_21 : decode cJ0_charAt_5068e 21 = .ok (.invokestatic 498, 3) := by decide +kernel
theorem dJ0_charAt_5068e_24 : decode cJ0_charAt_5068e 24 = .ok (.ireturn, 1) := by decide +kernel
theorem dJ0_indexOf_0f7a4_0 : decode cJ0_indexOf_0f7a4 0 = .ok (.aload_n 0, 1) := by decide +kernel
theorem dJ0_indexOf_0f7a4_1 : decode cJ0_indexOf_0f7a4 1 = .ok (.iload_n 1, 1) := by decide +kernel
theorem dJ0_indexOf_0f7a4_2 : decode cJ0_indexOf_0f7a4 2 = .ok (.iconst 0, 1) := by decide +kernel
theorem dJ0_indexOf_0f7a4_3 : decode cJ0_indexOf_0f7a4 3 = .ok (.invokevirtual 633, 3) := by decide +kernel
theorem dJ0_indexOf_0f7a4_6 : decode cJ0_indexOf_0f7a4 6 = .ok (.ireturn, 1) := by decide +kernel
theorem dJ0_indexOf_7cf53_0 : decode cJ0_indexOf_7cf53 0 = .ok (.aload_n 0, 1) := by decide +kernel
theorem dJ0_indexOf_7cf53_1 : decode cJ0_indexOf_7cf53 1 = .ok (.invokevirtual 492, 3) := by decide +kernel
theorem dJ0_indexOf_7cf53_4 : decode cJ0_indexOf_7cf53 4 = .ok (.ifCond .eq 19, 3) := by decide +kernel
theorem dJ0_indexOf_7cf53_7 : decode cJ0_indexOf_7cf53 7 = .ok (.aload_n 0, 1) := by decide +kernel
theorem dJ0_indexOf_7cf53_8 : decode cJ0_indexOf_7cf53 8 = .ok (.getfield 9, 3) := by decide +kernel
theorem dJ0_indexOf_7cf53_11 : decode cJ0_indexOf_7cf53 11 = .ok (.iload_n 1, 1) := by decide +kernel
theorem dJ0_indexOf_7cf53_12 : decode cJ0_indexOf_7cf53 12 = .ok (.iload_n 2, 1) := by decide +kernel
theorem dJ0_indexOf_7cf53_13 : decode cJ0_indexOf_7cf53 13 = .ok (.aload_n 0, 1) := by decide +kernel
theorem dJ0_indexOf_7cf53_14 : decode cJ0_indexOf_7cf53 14 = .ok (.invokevirtual 505, 3) := by decide +kernel
theorem dJ0_indexOf_7cf53_17 : decode cJ0_indexOf_7cf53 17 = .ok (.invokestatic 637, 3) := by decide +kernel
theorem dJ0_indexOf_7cf53_20 : decode cJ0_indexOf_7cf53 20 = .ok (.goto 16, 3) := by decide +kernel
theorem dJ0_indexOf_7cf53_23 : decode cJ0_indexOf_7cf53 23 = .ok (.aload_n 0, 1) := by decide +kernel
theorem dJ0_indexOf_7cf53_24 : decode cJ0_indexOf_7cf53 24 = .ok (.getfield 9, 3) := by decide +kernel
theorem dJ0_indexOf_7cf53_27 : decode cJ0_indexOf_7cf53 27 = .ok (.iload_n 1, 1) := by decide +kernel
theorem dJ0_indexOf_7cf53_28 : decode cJ0_indexOf_7cf53 28 = .ok (.iload_n 2, 1) := by decide +kernel
theorem dJ0_indexOf_7cf53_29 : decode cJ0_indexOf_7cf53 29 = .ok (.aload_n 0, 1) := by decide +kernel
theorem dJ0_indexOf_7cf53_30 : decode cJ0_indexOf_7cf53 30 = .ok (.invokevirtual 505, 3) := by decide +kernel
theorem dJ0_indexOf_7cf53_33 : decode cJ0_indexOf_7cf53 33 = .ok (.invokestatic 640, 3) := by decide +kernel
theorem dJ0_indexOf_7cf53_36 : decode cJ0_indexOf_7cf53 36 = .ok (.ireturn, 1) := by decide +kernel
theorem dJ0_coder_7d493_0 : decode cJ0_coder_7d493 0 = .ok (.getstatic 38, 3) := by decide +kernel
theorem dJ0_coder_7d493_3 : decode cJ0_coder_7d493 3 = .ok (.ifCond .eq 10, 3) := by decide +kernel
theorem dJ0_coder_7d493_6 : decode cJ0_coder_7d493 6 = .ok (.aload_n 0, 1) := by decide +kernel
theorem dJ0_coder_7d493_7 : decode cJ0_coder_7d493 7 = .ok (.getfield 15, 3) := by decide +kernel
theorem dJ0_coder_7d493_10 : decode cJ0_coder_7d493 10 = .ok (.goto 4, 3) := by decide +kernel
theorem dJ0_coder_7d493_13 : decode cJ0_coder_7d493 13 = .ok (.iconst 1, 1) := by decide +kernel
theorem dJ0_coder_7d493_14 : decode cJ0_coder_7d493 14 = .ok (.ireturn, 1) := by decide +kernel
theorem dJ0_isLatin1_aae02_0 : decode cJ0_isLatin1_aae02 0 = .ok (.getstatic 38, 3) := by decide +kernel
theorem dJ0_isLatin1_aae02_3 : decode cJ0_isLatin1_aae02 3 = .ok (.ifCond .eq 14, 3) := by decide +kernel
theorem dJ0_isLatin1_aae02_6 : decode cJ0_isLatin1_aae02 6 = .ok (.aload_n 0, 1) := by decide +kernel
theorem dJ0_isLatin1_aae02_7 : decode cJ0_isLatin1_aae02 7 = .ok (.getfield 15, 3) := by decide +kernel
theorem dJ0_isLatin1_aae02_10 : decode cJ0_isLatin1_aae02 10 = .ok (.ifCond .ne 7, 3) := by decide +kernel
theorem dJ0_isLatin1_aae02_13 : decode cJ0_isLatin1_aae02 13 = .ok (.iconst 1, 1) := by decide +kernel
theorem dJ0_isLatin1_aae02_14 : decode cJ0_isLatin1_aae02 14 = .ok (.goto 4, 3) := by decide +kernel
theorem dJ0_isLatin1_aae02_17 : decode cJ0_isLatin1_aae02 17 = .ok (.iconst 0, 1) := by decide +kernel
theorem dJ0_isLatin1_aae02_18 : decode cJ0_isLatin1_aae02 18 = .ok (.ireturn, 1) := by decide +kernel
theorem dJ0_checkIndex_df160_0 : decode cJ0_checkIndex_df160 0 = .ok (.iload_n 0, 1) := by decide +kernel
theorem dJ0_checkIndex_df160_1 : decode cJ0_checkIndex_df160 1 = .ok (.iload_n 1, 1) := by decide +kernel
theorem dJ0_checkIndex_df160_2 : decode cJ0_checkIndex_df160 2 = .ok (.getstatic 1053, 3) := by decide +kernel
theorem dJ0_checkIndex_df160_5 : decode cJ0_checkIndex_df160 5 = .ok (.invokestatic 1059, 3) := by decide +kernel
theorem dJ0_checkIndex_df160_8 : decode cJ0_checkIndex_df160 8 = .ok (.pop, 1) := by decide +kernel
theorem dJ0_checkIndex_df160_9 : decode cJ0_checkIndex_df160 9 = .ok (.return_, 1) := by decide +kernel
theorem dJ0_checkBoundsBeginEnd_23922_0 : decode cJ0_checkBoundsBeginEnd_23922 0 = .ok (.iload_n 0, 1) := by decide +kernel
theorem dJ0_checkBoundsBeginEnd_23922_1 : decode cJ0_checkBoundsBeginEnd_23922 1 = .ok (.iload_n 1, 1) := by decide +kernel
theorem dJ0_checkBoundsBeginEnd_23922_2 : decode cJ0_checkBoundsBeginEnd_23922 2 = .ok (.iload_n 2, 1) := by decide +kernel
theorem dJ0_checkBoundsBeginEnd_23922_3 : decode cJ0_checkBoundsBeginEnd_23922 3 = .ok (.getstatic 1053, 3) := by decide +kernel
theorem dJ0_checkBoundsBeginEnd_23922_6 : decode cJ0_checkBoundsBeginEnd_23922 6 = .ok (.invokestatic 1062, 3) := by decide +kernel
theorem dJ0_checkBoundsBeginEnd_23922_9 : decode cJ0_checkBoundsBeginEnd_23922 9 = .ok (.pop, 1) := by decide +kernel
theorem dJ0_checkBoundsBeginEnd_23922_10 : decode cJ0_checkBoundsBeginEnd_23922 10 = .ok (.return_, 1) := by decide +kernel
theorem dJ1_charAt_3b067_0 : decode cJ1_charAt_3b067 0 = .ok (.iload_n 1, 1) := by decide +kernel
theorem dJ1_charAt_3b067_1 : decode cJ1_charAt_3b067 1 = .ok (.aload_n 0, 1) := by decide +kernel
theorem dJ1_charAt_3b067_2 : decode cJ1_charAt_3b067 2 = .ok (.arraylength, 1) := by decide +kernel
theorem dJ1_charAt_3b067_3 : decode cJ1_charAt_3b067 3 = .ok (.invokestatic 9, 3) := by decide +kernel
theorem dJ1_charAt_3b067_6 : decode cJ1_charAt_3b067 6 = .ok (.aload_n 0, 1) := by decide +kernel
theorem dJ1_charAt_3b067_7 : decode cJ1_charAt_3b067 7 = .ok (.iload_n 1, 1) := by decide +kernel
theorem dJ1_charAt_3b067_8 : decode cJ1_charAt_3b067 8 = .ok (.baload, 1) := by decide +kernel
theorem dJ1_charAt_3b067_9 : decode cJ1_charAt_3b067 9 = .ok (.sipush 255, 3) := by decide +kernel
theorem dJ1_charAt_3b067_12 : decode cJ1_charAt_3b067 12 = .ok (.iand, 1) := by decide +kernel
theorem dJ1_charAt_3b067_13 : decode cJ1_charAt_3b067 13 = .ok (.i2c, 1) := by decide +kernel
theorem dJ1_charAt_3b067_14 : decode cJ1_charAt_3b067 14 = .ok (.ireturn, 1) := by decide +kernel
theorem dJ1_canEncode_9a6ad_0 : decode cJ1_canEncode_9a6ad 0 = .ok (.iload_n 0, 1) := by decide +kernel
theorem dJ1_canEncode_9a6ad_1 : decode cJ1_canEncode_9a6ad 1 = .ok (.ifCond .lt 14, 3) := by decide +kernel
theorem dJ1_canEncode_9a6ad_4 : decode cJ1_canEncode_9a6ad 4 = .ok (.iload_n 0, 1) := by decide +kernel
theorem dJ1_canEncode_9a6ad_5 : decode cJ1_canEncode_9a6ad 5 = .ok (.sipush 255, 3) := by decide +kernel
theorem dJ1_canEncode_9a6ad_8 : decode cJ1_canEncode_9a6ad 8 = .ok (.if_icmp .gt 7, 3) := by decide +kernel
theorem dJ1_canEncode_9a6ad_11 : decode cJ1_canEncode_9a6ad 11 = .ok (.iconst 1, 1) := by decide +kernel
theorem dJ1_canEncode_9a6ad_12 : decode cJ1_canEncode_9a6ad 12 = .ok (.goto 4, 3) := by decide +kernel
theorem dJ1_canEncode_9a6ad_15 : decode cJ1_canEncode_9a6ad 15 = .ok (.iconst 0, 1) := by decide +kernel
theorem dJ1_canEncode_9a6ad_16 : decode cJ1_canEncode_9a6ad 16 = .ok (.ireturn, 1) := by decide +kernel
theorem dJ1_indexOf_4cfef_0 : decode cJ1_indexOf_4cfef 0 = .ok (.iload_n 1, 1) := by decide +kernel
theorem dJ1_indexOf_4cfef_1 : decode cJ1_indexOf_4cfef 1 = .ok (.invokestatic 88, 3) := by decide +kernel
theorem dJ1_indexOf_4cfef_4 : decode cJ1_indexOf_4cfef 4 = .ok (.ifCond .ne 5, 3) := by decide +kernel
theorem dJ1_indexOf_4cfef_7 : decode cJ1_indexOf_4cfef 7 = .ok (.iconst (-1), 1) := by decide +kernel
theorem dJ1_indexOf_4cfef_8 : decode cJ1_indexOf_4cfef 8 = .ok (.ireturn, 1) := by decide +kernel
theorem dJ1_indexOf_4cfef_9 : decode cJ1_indexOf_4cfef 9 = .ok (.iload_n 2, 1) := by decide +kernel
theorem dJ1_indexOf_4cfef_10 : decode cJ1_indexOf_4cfef 10 = .ok (.iconst 0, 1) := by decide +kernel
theorem dJ1_indexOf_4cfef_11 : decode cJ1_indexOf_4cfef 11 = .ok (.invokestatic 92, 3) := by decide +kernel
theorem dJ1_indexOf_4cfef_14 : decode cJ1_indexOf_4cfef 14 = .ok (.istore_n 2, 1) := by decide +kernel
theorem dJ1_indexOf_4cfef_15 : decode cJ1_indexOf_4cfef 15 = .ok (.iload_n 3, 1) := by decide +kernel
theorem dJ1_indexOf_4cfef_16 : decode cJ1_indexOf_4cfef 16 = .ok (.aload_n 0, 1) := by decide +kernel
theorem dJ1_indexOf_4cfef_17 : decode cJ1_indexOf_4cfef 17 = .ok (.arraylength, 1) := by decide +kernel
theorem dJ1_indexOf_4cfef_18 : decode cJ1_indexOf_4cfef 18 = .ok (.invokestatic 38, 3) := by decide +kernel
theorem dJ1_indexOf_4cfef_21 : decode cJ1_indexOf_4cfef 21 = .ok (.istore_n 3, 1) := by decide +kernel
theorem dJ1_indexOf_4cfef_22 : decode cJ1_indexOf_4cfef 22 = .ok (.iload_n 2, 1) := by decide +kernel
theorem dJ1_indexOf_4cfef_23 : decode cJ1_indexOf_4cfef 23 = .ok (.iload_n 3, 1) := by decide +kernel
theorem dJ1_indexOf_4cfef_24 : decode cJ1_indexOf_4cfef 24 = .ok (.if_icmp .lt 5, 3) := by decide +kernel
theorem dJ1_indexOf_4cfef_27 : decode cJ1_indexOf_4cfef 27 = .ok (.iconst (-1), 1) := by decide +kernel
theorem dJ1_indexOf_4cfef_28 : decode cJ1_indexOf_4cfef 28 = .ok (.ireturn, 1) := by decide +kernel
theorem dJ1_indexOf_4cfef_29 : decode cJ1_indexOf_4cfef 29 = .ok (.aload_n 0, 1) := by decide +kernel
theorem dJ1_indexOf_4cfef_30 : decode cJ1_indexOf_4cfef 30 = .ok (.iload_n 1, 1) := by decide +kernel
theorem dJ1_indexOf_4cfef_31 : decode cJ1_indexOf_4cfef 31 = .ok (.iload_n 2, 1) := by decide +kernel
theorem dJ1_indexOf_4cfef_32 : decode cJ1_indexOf_4cfef 32 = .ok (.iload_n 3, 1) := by decide +kernel
theorem dJ1_indexOf_4cfef_33 : decode cJ1_indexOf_4cfef 33 = .ok (.invokestatic 95, 3) := by decide +kernel
theorem dJ1_indexOf_4cfef_36 : decode cJ1_indexOf_4cfef 36 = .ok (.ireturn, 1) := by decide +kernel
theorem dJ1_indexOfChar_4cfef_0 : decode cJ1_indexOfChar_4cfef 0 = .ok (.iload_n 1, 1) := by decide +kernel
theorem dJ1_indexOfChar_4cfef_1 : decode cJ1_indexOfChar_4cfef 1 = .ok (.i2b, 1) := by decide +kernel
theorem dJ1_indexOfChar_4cfef_2 : decode cJ1_indexOfChar_4cfef 2 = .ok (.istore 4, 2) := by decide +kernel
theorem dJ1_indexOfChar_4cfef_4 : decode cJ1_indexOfChar_4cfef 4 = .ok (.iload_n 2, 1) := by decide +kernel
theorem dJ1_indexOfChar_4cfef_5 : decode cJ1_indexOfChar_4cfef 5 = .ok (.istore 5, 2) := by decide +kernel
theorem dJ1_indexOfChar_4cfef_7 : decode cJ1_indexOfChar_4cfef 7 = .ok (.iload 5, 2) := by decide +kernel
theorem dJ1_indexOfChar_4cfef_9 : decode cJ1_indexOfChar_4cfef 9 = .ok (.iload_n 3, 1) := by decide +kernel
theorem dJ1_indexOfChar_4cfef_10 : decode cJ1_indexOfChar_4cfef 10 = .ok (.if_icmp .ge 21, 3) := by decide +kernel
theorem dJ1_indexOfChar_4cfef_13 : decode cJ1_indexOfChar_4cfef 13 = .ok (.aload_n 0, 1) := by decide +kernel
theorem dJ1_indexOfChar_4cfef_14 : decode cJ1_indexOfChar_4cfef 14 = .ok (.iload 5, 2) := by decide +kernel
theorem dJ1_indexOfChar_4cfef_16 : decode cJ1_indexOfChar_4cfef 16 = .ok (.baload, 1) := by decide +kernel
theorem dJ1_indexOfChar_4cfef_17 : decode cJ1_indexOfChar_4cfef 17 = .ok (.iload 4, 2) := by decide +kernel
theorem dJ1_indexOfChar_4cfef_19 : decode cJ1_indexOfChar_4cfef 19 = .ok (.if_icmp .ne 6, 3) := by decide +kernel
theorem dJ1_indexOfChar_4cfef_22 : decode cJ1_indexOfChar_4cfef 22 = .ok (.iload 5, 2) := by decide +kernel
theorem dJ1_indexOfChar_4cfef_24 : decode cJ1_indexOfChar_4cfef 24 = .ok (.ireturn, 1) := by decide +kernel
theorem dJ1_indexOfChar_4cfef_25 : decode cJ1_indexOfChar_4cfef 25 = .ok (.iinc 5 1, 3) := by decide +kernel
theorem dJ1_indexOfChar_4cfef_28 : decode cJ1_indexOfChar_4cfef 28 = .ok (.goto (-21), 3) := by decide +kernel
theorem dJ1_indexOfChar_4cfef_31 : decode cJ1_indexOfChar_4cfef 31 = .ok (.iconst (-1), 1) := by decide +kernel
theorem dJ1_indexOfChar_4cfef_32 : decode cJ1_indexOfChar_4cfef 32 = .ok (.ireturn, 1) := by decide +kernel
theorem dJ2_getChar_3b067_0 : decode cJ2_getChar_3b067 0 = .ok (.getstatic 44, 3) := by decide +kernel
theorem dJ2_getChar_3b067_3 : decode cJ2_getChar_3b067 3 = .ok (.ifCond .ne 25, 3) := by decide +kernel
theorem dJ2_getChar_3b067_6 : decode cJ2_getChar_3b067 6 = .ok (.iload_n 1, 1) := by decide +kernel
theorem dJ2_getChar_3b067_7 : decode cJ2_getChar_3b067 7 = .ok (.ifCond .lt 11, 3) := by decide +kernel
theorem dJ2_getChar_3b067_10 : decode cJ2_getChar_3b067 10 = .ok (.iload_n 1, 1) := by decide +kernel
theorem dJ2_getChar_3b067_11 : decode cJ2_getChar_3b067 11 = .ok (.aload_n 0, 1) := by decide +kernel
theorem dJ2_getChar_3b067_12 : decode cJ2_getChar_3b067 12 = .ok (.invokestatic 48, 3) := by decide +kernel
theorem dJ2_getChar_3b067_15 : decode cJ2_getChar_3b067 15 = .ok (.if_icmp .lt 13, 3) := by decide +kernel
theorem dJ2_getChar_3b067_18 : decode cJ2_getChar_3b067 18 = .ok (.new 52, 3) := by decide +kernel
theorem dJ2_getChar_3b067_21 : decode cJ2_getChar_3b067 21 = .ok (.dup, 1) := by decide +kernel
theorem dJ2_getChar_3b067_22 : decode cJ2_getChar_3b067 22 = .ok (.ldc 54, 2) := by decide +kernel
theorem dJ2_getChar_3b067_24 : decode cJ2_getChar_3b067 24 = .ok (.invokespecial 56, 3) := by decide +kernel
theorem dJ2_getChar_3b067_27 : decode cJ2_getChar_3b067 27 = .ok (.athrow, 1) := by decide +kernel
theorem dJ2_getChar_3b067_28 : decode cJ2_getChar_3b067 28 = .ok (.iload_n 1, 1) := by decide +kernel
theorem dJ2_getChar_3b067_29 : decode cJ2_getChar_3b067 29 = .ok (.iconst 1, 1) := by decide +kernel
theorem dJ2_getChar_3b067_30 : decode cJ2_getChar_3b067 30 = .ok (.ishl, 1) := by decide +kernel
theorem dJ2_getChar_3b067_31 : decode cJ2_getChar_3b067 31 = .ok (.istore_n 1, 1) := by decide +kernel
theorem dJ2_getChar_3b067_32 : decode cJ2_getChar_3b067 32 = .ok (.aload_n 0, 1) := by decide +kernel
theorem dJ2_getChar_3b067_33 : decode cJ2_getChar_3b067 33 = .ok (.iload_n 1, 1) := by decide +kernel
theorem dJ2_getChar_3b067_34 : decode cJ2_getChar_3b067 34 = .ok (.iinc 1 1, 3) := by decide +kernel
theorem dJ2_getChar_3b067_37 : decode cJ2_getChar_3b067 37 = .ok (.baload, 1) := by decide +kernel
theorem dJ2_getChar_3b067_38 : decode cJ2_getChar_3b067 38 = .ok (.sipush 255, 3) := by decide +kernel
theorem dJ2_getChar_3b067_41 : decode cJ2_getChar_3b067 41 = .ok (.iand, 1) := by decide +kernel
theorem dJ2_getChar_3b067_42 : decode cJ2_getChar_3b067 42 = .ok (.getstatic 59, 3) := by decide +kernel
theorem dJ2_getChar_3b067_45 : decode cJ2_getChar_3b067 45 = .ok (.ishl, 1) := by decide +kernel
theorem dJ2_getChar_3b067_46 : decode cJ2_getChar_3b067 46 = .ok (.aload_n 0, 1) := by decide +kernel
theorem dJ2_getChar_3b067_47 : decode cJ2_getChar_3b067 47 = .ok (.iload_n 1, 1) := by decide +kernel
theorem dJ2_getChar_3b067_48 : decode cJ2_getChar_3b067 48 = .ok (.baload, 1) := by decide +kernel
theorem dJ2_getChar_3b067_49 : decode cJ2_getChar_3b067 49 = .ok (.sipush 255, 3) := by decide +kernel
theorem dJ2_getChar_3b067_52 : decode cJ2_getChar_3b067 52 = .ok (.iand, 1) := by decide +kernel
theorem dJ2_getChar_3b067_53 : decode cJ2_getChar_3b067 53 = .ok (.getstatic 63, 3) := by decide +kernel
theorem dJ2_getChar_3b067_56 : decode cJ2_getChar_3b067 56 = .ok (.ishl, 1) := by decide +kernel
theorem dJ2_getChar_3b067_57 : decode cJ2_getChar_3b067 57 = .ok (.ior, 1) := by decide +kernel
theorem dJ2_getChar_3b067_58 : decode cJ2_getChar_3b067 58 = .ok (.i2c, 1) := by decide +kernel
theorem dJ2_getChar_3b067_59 : decode cJ2_getChar_3b067 59 = .ok (.ireturn, 1) := by decide +kernel
theorem dJ2_length_9d52b_0 : decode cJ2_length_9d52b 0 = .ok (.aload_n 0, 1) := by decide +kernel
theorem dJ2_length_9d52b_1 : decode cJ2_length_9d52b 1 = .ok (.arraylength, 1) := by decide +kernel
theorem dJ2_length_9d52b_2 : decode cJ2_length_9d52b 2 = .ok (.iconst 1, 1) := by decide +kernel
theorem dJ2_length_9d52b_3 : decode cJ2_length_9d52b 3 = .ok (.ishr, 1) := by decide +kernel
theorem dJ2_length_9d52b_4 : decode cJ2_length_9d52b 4 = .ok (.ireturn, 1) := by decide +kernel
theorem dJ2_indexOf_4cfef_0 : decode cJ2_indexOf_4cfef 0 = .ok (.iload_n 2, 1) := by decide +kernel
theorem dJ2_indexOf_4cfef_1 : decode cJ2_indexOf_4cfef 1 = .ok (.iconst 0, 1) := by decide +kernel
theorem dJ2_indexOf_4cfef_2 : decode cJ2_indexOf_4cfef 2 = .ok (.invokestatic 224, 3) := by decide +kernel
theorem dJ2_indexOf_4cfef_5 : decode cJ2_indexOf_4cfef 5 = .ok (.istore_n 2, 1) := by decide +kernel
theorem dJ2_indexOf_4cfef_6 : decode cJ2_indexOf_4cfef 6 = .ok (.iload_n 3, 1) := by decide +kernel
theorem dJ2_indexOf_4cfef_7 : decode cJ2_indexOf_4cfef 7 = .ok (.aload_n 0, 1) := by decide +kernel
theorem dJ2_indexOf_4cfef_8 : decode cJ2_indexOf_4cfef 8 = .ok (.arraylength, 1) := by decide +kernel
theorem dJ2_indexOf_4cfef_9 : decode cJ2_indexOf_4cfef 9 = .ok (.iconst 1, 1) := by decide +kernel
theorem dJ2_indexOf_4cfef_10 : decode cJ2_indexOf_4cfef 10 = .ok (.ishr, 1) := by decide +kernel
theorem dJ2_indexOf_4cfef_11 : decode cJ2_indexOf_4cfef 11 = .ok (.invokestatic 183, 3) := by decide +kernel
theorem dJ2_indexOf_4cfef_14 : decode cJ2_indexOf_4cfef 14 = .ok (.istore_n 3, 1) := by decide +kernel
theorem dJ2_indexOf_4cfef_15 : decode cJ2_indexOf_4cfef 15 = .ok (.iload_n 2, 1) := by decide +kernel
theorem dJ2_indexOf_4cfef_16 : decode cJ2_indexOf_4cfef 16 = .ok (.iload_n 3, 1) := by decide +kernel
theorem dJ2_indexOf_4cfef_17 : decode cJ2_indexOf_4cfef 17 = .ok (.if_icmp .lt 5, 3) := by decide +kernel
theorem dJ2_indexOf_4cfef_20 : decode cJ2_indexOf_4cfef 20 = .ok (.iconst (-1), 1) := by decide +kernel
theorem dJ2_indexOf_4cfef_21 : decode cJ2_indexOf_4cfef 21 = .ok (.ireturn, 1) := by decide +kernel
theorem dJ2_indexOf_4cfef_22 : decode cJ2_indexOf_4cfef 22 = .ok (.iload_n 1, 1) := by decide +kernel
theorem dJ2_indexOf_4cfef_23 : decode cJ2_indexOf_4cfef 23 = .ok (.ldc 227, 2) := by decide +kernel
theorem dJ2_indexOf_4cfef_25 : decode cJ2_indexOf_4cfef 25 = .ok (.if_icmp .ge 11, 3) := by decide +kernel
theorem dJ2_indexOf_4cfef_28 : decode cJ2_indexOf_4cfef 28 = .ok (.aload_n 0, 1) := by decide +kernel
theorem dJ2_indexOf_4cfef_29 : decode cJ2_indexOf_4cfef 29 = .ok (.iload_n 1, 1) := by decide +kernel
theorem dJ2_indexOf_4cfef_30 : decode cJ2_indexOf_4cfef 30 = .ok (.iload_n 2, 1) := by decide +kernel
theorem dJ2_indexOf_4cfef_31 : decode cJ2_indexOf_4cfef 31 = .ok (.iload_n 3, 1) := by decide +kernel
theorem dJ2_indexOf_4cfef_32 : decode cJ2_indexOf_4cfef 32 = .ok (.invokestatic 228, 3) := by decide +kernel
theorem dJ2_indexOf_4cfef_35 : decode cJ2_indexOf_4cfef 35 = .ok (.ireturn, 1) := by decide +kernel
theorem dJ2_indexOf_4cfef_36 : decode cJ2_indexOf_4cfef 36 = .ok (.aload_n 0, 1) := by decide +kernel
theorem dJ2_indexOf_4cfef_37 : decode cJ2_indexOf_4cfef 37 = .ok (.iload_n 1, 1) := by decide +kernel
theorem dJ2_indexOf_4cfef_38 : decode cJ2_indexOf_4cfef 38 = .ok (.iload_n 2, 1) := by decide +kernel
theorem dJ2_indexOf_4cfef_39 : decode cJ2_indexOf_4cfef 39 = .ok (.iload_n 3, 1) := by decide +kernel
theorem dJ2_indexOf_4cfef_40 : decode cJ2_indexOf_4cfef 40 = .ok (.invokestatic 232, 3) := by decide +kernel
theorem dJ2_indexOf_4cfef_43 : decode cJ2_indexOf_4cfef 43 = .ok (.ireturn, 1) := by decide +kernel
theorem dJ2_indexOfChar_4cfef_0 : decode cJ2_indexOfChar_4cfef 0 = .ok (.iload_n 2, 1) := by decide +kernel
theorem dJ2_indexOfChar_4cfef_1 : decode cJ2_indexOfChar_4cfef 1 = .ok (.iload_n 3, 1) := by decide +kernel
theorem dJ2_indexOfChar_4cfef_2 : decode cJ2_indexOfChar_4cfef 2 = .ok (.aload_n 0, 1) := by decide +kernel
theorem dJ2_indexOfChar_4cfef_3 : decode cJ2_indexOfChar_4cfef 3 = .ok (.invokestatic 96, 3) := by decide +kernel
theorem dJ2_indexOfChar_4cfef_6 : decode cJ2_indexOfChar_4cfef 6 = .ok (.aload_n 0, 1) := by decide +kernel
theorem dJ2_indexOfChar_4cfef_7 : decode cJ2_indexOfChar_4cfef 7 = .ok (.iload_n 1, 1) := by decide +kernel
theorem dJ2_indexOfChar_4cfef_8 : decode cJ2_indexOfChar_4cfef 8 = .ok (.iload_n 2, 1) := by decide +kernel
theorem dJ2_indexOfChar_4cfef_9 : decode cJ2_indexOfChar_4cfef 9 = .ok (.iload_n 3, 1) := by decide +kernel
theorem dJ2_indexOfChar_4cfef_10 : decode cJ2_indexOfChar_4cfef 10 = .ok (.invokestatic 244, 3) := by decide +kernel
theorem dJ2_indexOfChar_4cfef_13 : decode cJ2_indexOfChar_4cfef 13 = .ok (.ireturn, 1) := by decide +kernel
theorem dJ2_indexOfCharUnsafe_4cfef_0 : decode cJ2_indexOfCharUnsafe_4cfef 0 = .ok (.iload_n 2, 1) := by decide +kernel
theorem dJ2_indexOfCharUnsafe_4cfef_1 : decode cJ2_indexOfCharUnsafe_4cfef 1 = .ok (.istore 4, 2) := by decide +kernel
theorem dJ2_indexOfCharUnsafe_4cfef_3 : decode cJ2_indexOfCharUnsafe_4cfef 3 = .ok (.iload 4, 2) := by decide +kernel
theorem dJ2_indexOfCharUnsafe_4cfef_5 : decode cJ2_indexOfCharUnsafe_4cfef 5 = .ok (.iload_n 3, 1) := by decide +kernel
theorem dJ2_indexOfCharUnsafe_4cfef_6 : decode cJ2_indexOfCharUnsafe_4cfef 6 = .ok (.if_icmp .ge 22, 3) := by decide +kernel
theorem dJ2_indexOfCharUnsafe_4cfef_9 : decode cJ2_indexOfCharUnsafe_4cfef 9 = .ok (.aload_n 0, 1) := by decide +kernel
theorem dJ2_indexOfCharUnsafe_4cfef_10 : decode cJ2_indexOfCharUnsafe_4cfef 10 = .ok (.iload 4, 2) := by decide +kernel
theorem dJ2_indexOfCharUnsafe_4cfef_12 : decode cJ2_indexOfCharUnsafe_4cfef 12 = .ok (.invokestatic 71, 3) := by decide +kernel
theorem dJ2_indexOfCharUnsafe_4cfef_15 : decode cJ2_indexOfCharUnsafe_4cfef 15 = .ok (.iload_n 1, 1) := by decide +kernel
theorem dJ2_indexOfCharUnsafe_4cfef_16 : decode cJ2_indexOfCharUnsafe_4cfef 16 = .ok (.if_icmp .ne 6, 3) := by decide +kernel
theorem dJ2_indexOfCharUnsafe_4cfef_19 : decode cJ2_indexOfCharUnsafe_4cfef 19 = .ok (.iload 4, 2) := by decide +kernel
theorem dJ2_indexOfCharUnsafe_4cfef_21 : decode cJ2_indexOfCharUnsafe_4cfef 21 = .ok (.ireturn, 1) := by decide +kernel
theorem dJ2_indexOfCharUnsafe_4cfef_22 : decode cJ2_indexOfCharUnsafe_4cfef 22 = .ok (.iinc 4 1, 3) := by decide +kernel
theorem dJ2_indexOfCharUnsafe_4cfef_25 : decode cJ2_indexOfCharUnsafe_4cfef 25 = .ok (.goto (-22), 3) := by decide +kernel
theorem dJ2_indexOfCharUnsafe_4cfef_28 : decode cJ2_indexOfCharUnsafe_4cfef 28 = .ok (.iconst (-1), 1) := by decide +kernel
theorem dJ2_indexOfCharUnsafe_4cfef_29 : decode cJ2_indexOfCharUnsafe_4cfef 29 = .ok (.ireturn, 1) := by decide +kernel
theorem dJ2_indexOfSupplementary_4cfef_0 : decode cJ2_indexOfSupplementary_4cfef 0 = .ok (.iload_n 1, 1) := by decide +kernel
theorem dJ2_indexOfSupplementary_4cfef_1 : decode cJ2_indexOfSupplementary_4cfef 1 = .ok (.invokestatic 164, 3) := by decide +kernel
theorem dJ2_indexOfSupplementary_4cfef_4 : decode cJ2_indexOfSupplementary_4cfef 4 = .ok (.ifCond .eq 65, 3) := by decide +kernel
theorem dJ2_indexOfSupplementary_4cfef_7 : decode cJ2_indexOfSupplementary_4cfef 7 = .ok (.iload_n 1, 1) := by decide +kernel
theorem dJ2_indexOfSupplementary_4cfef_8 : decode cJ2_indexOfSupplementary_4cfef 8 = .ok (.invokestatic 157, 3) := by decide +kernel
theorem dJ2_indexOfSupplementary_4cfef_11 : decode cJ2_indexOfSupplementary_4cfef 11 = .ok (.istore 4, 2) := by decide +kernel
theorem dJ2_indexOfSupplementary_4cfef_13 : decode cJ2_indexOfSupplementary_4cfef 13 = .ok (.iload_n 1, 1) := by decide +kernel
theorem dJ2_indexOfSupplementary_4cfef_14 : decode cJ2_indexOfSupplementary_4cfef 14 = .ok (.invokestatic 161, 3) := by decide +kernel
theorem dJ2_indexOfSupplementary_4cfef_17 : decode cJ2_indexOfSupplementary_4cfef 17 = .ok (.istore 5, 2) := by decide +kernel
theorem dJ2_indexOfSupplementary_4cfef_19 : decode cJ2_indexOfSupplementary_4cfef 19 = .ok (.iload_n 2, 1) := by decide +kernel
theorem dJ2_indexOfSupplementary_4cfef_20 : decode cJ2_indexOfSupplementary_4cfef 20 = .ok (.iload_n 3, 1) := by decide +kernel
theorem dJ2_indexOfSupplementary_4cfef_21 : decode cJ2_indexOfSupplementary_4cfef 21 = .ok (.aload_n 0, 1) := by decide +kernel
theorem dJ2_indexOfSupplementary_4cfef_22 : decode cJ2_indexOfSupplementary_4cfef 22 = .ok (.invokestatic 96, 3) := by decide +kernel
theorem dJ2_indexOfSupplementary_4cfef_25 : decode cJ2_indexOfSupplementary_4cfef 25 = .ok (.iload_n 2, 1) := by decide +kernel
theorem dJ2_indexOfSupplementary_4cfef_26 : decode cJ2_indexOfSupplementary_4cfef 26 = .ok (.istore 6, 2) := by decide +kernel
theorem dJ2_indexOfSupplementary_4cfef_28 : decode cJ2_indexOfSupplementary_4cfef 28 = .ok (.iload 6, 2) := by decide +kernel
theorem dJ2_indexOfSupplementary_4cfef_30 : decode cJ2_indexOfSupplementary_4cfef 30 = .ok (.iload_n 3, 1) := by decide +kernel
theorem dJ2_indexOfSupplementary_4cfef_31 : decode cJ2_indexOfSupplementary_4cfef 31 = .ok (.iconst 1, 1) := by decide +kernel
theorem dJ2_indexOfSupplementary_4cfef_32 : decode cJ2_indexOfSupplementary_4cfef 32 = .ok (.isub, 1) := by decide +kernel
theorem dJ2_indexOfSupplementary_4cfef_33 : decode cJ2_indexOfSupplementary_4cfef 33 = .ok (.if_icmp .ge 36, 3) := by decide +kernel
theorem dJ2_indexOfSupplementary_4cfef_36 : decode cJ2_indexOfSupplementary_4cfef 36 = .ok (.aload_n 0, 1) := by decide +kernel
theorem dJ2_indexOfSupplementary_4cfef_37 : decode cJ2_indexOfSupplementary_4cfef 37 = .ok (.iload 6, 2) := by decide +kernel
theorem dJ2_indexOfSupplementary_4cfef_39 : decode cJ2_indexOfSupplementary_4cfef 39 = .ok (.invokestatic 71, 3) := by decide +kernel
theorem dJ2_indexOfSupplementary_4cfef_42 : decode cJ2_indexOfSupplementary_4cfef 42 = .ok (.iload 4, 2) := by decide +kernel
theorem dJ2_indexOfSupplementary_4cfef_44 : decode cJ2_indexOfSupplementary_4cfef 44 = .ok (.if_icmp .ne 19, 3) := by decide +kernel
theorem dJ2_indexOfSupplementary_4cfef_47 : decode cJ2_indexOfSupplementary_4cfef 47 = .ok (.aload_n 0, 1) := by decide +kernel
theorem dJ2_indexOfSupplementary_4cfef_48 : decode cJ2_indexOfSupplementary_4cfef 48 = .ok (.iload 6, 2) := by decide +kernel
theorem dJ2_indexOfSupplementary_4cfef_50 : decode cJ2_indexOfSupplementary_4cfef 50 = .ok (.iconst 1, 1) := by decide +kernel
theorem dJ2_indexOfSupplementary_4cfef_51 : decode cJ2_indexOfSupplementary_4cfef 51 = .ok (.iadd, 1) := by decide +kernel
theorem dJ2_indexOfSupplementary_4cfef_52 : decode cJ2_indexOfSupplementary_4cfef 52 = .ok (.invokestatic 71, 3) := by decide +kernel
theorem dJ2_indexOfSupplementary_4cfef_55 : decode cJ2_indexOfSupplementary_4cfef 55 = .ok (.iload 5, 2) := by decide +kernel
theorem dJ2_indexOfSupplementary_4cfef_57 : decode cJ2_indexOfSupplementary_4cfef 57 = .ok (.if_icmp .ne 6, 3) := by decide +kernel
theorem dJ2_indexOfSupplementary_4cfef_60 : decode cJ2_indexOfSupplementary_4cfef 60 = .ok (.iload 6, 2) := by decide +kernel
theorem dJ2_indexOfSupplementary_4cfef_62 : decode cJ2_indexOfSupplementary_4cfef 62 = .ok (.ireturn, 1) := by decide +kernel
theorem dJ2_indexOfSupplementary_4cfef_63 : decode cJ2_indexOfSupplementary_4cfef 63 = .ok (.iinc 6 1, 3) := by decide +kernel
theorem dJ2_indexOfSupplementary_4cfef_66 : decode cJ2_indexOfSupplementary_4cfef 66 = .ok (.goto (-38), 3) := by decide +kernel
theorem dJ2_indexOfSupplementary_4cfef_69 : decode cJ2_indexOfSupplementary_4cfef 69 = .ok (.iconst (-1), 1) := by decide +kernel
theorem dJ2_indexOfSupplementary_4cfef_70 : decode cJ2_indexOfSupplementary_4cfef 70 = .ok (.ireturn, 1) := by decide +kernel
theorem dJ2_charAt_3b067_0 : decode cJ2_charAt_3b067 0 = .ok (.iload_n 1, 1) := by decide +kernel
theorem dJ2_charAt_3b067_1 : decode cJ2_charAt_3b067 1 = .ok (.aload_n 0, 1) := by decide +kernel
theorem dJ2_charAt_3b067_2 : decode cJ2_charAt_3b067 2 = .ok (.invokestatic 67, 3) := by decide +kernel
theorem dJ2_charAt_3b067_5 : decode cJ2_charAt_3b067 5 = .ok (.aload_n 0, 1) := by decide +kernel
theorem dJ2_charAt_3b067_6 : decode cJ2_charAt_3b067 6 = .ok (.iload_n 1, 1) := by decide +kernel
theorem dJ2_charAt_3b067_7 : decode cJ2_charAt_3b067 7 = .ok (.invokestatic 71, 3) := by decide +kernel
theorem dJ2_charAt_3b067_10 : decode cJ2_charAt_3b067 10 = .ok (.ireturn, 1) := by decide +kernel
theorem dJ2_checkIndex_2214a_0 : decode cJ2_checkIndex_2214a 0 = .ok (.iload_n 0, 1) := by decide +kernel
theorem dJ2_checkIndex_2214a_1 : decode cJ2_checkIndex_2214a 1 = .ok (.aload_n 1, 1) := by decide +kernel
theorem dJ2_checkIndex_2214a_2 : decode cJ2_checkIndex_2214a 2 = .ok (.invokestatic 48, 3) := by decide +kernel
theorem dJ2_checkIndex_2214a_5 : decode cJ2_checkIndex_2214a 5 = .ok (.invokestatic 414, 3) := by decide +kernel
theorem dJ2_checkIndex_2214a_8 : decode cJ2_checkIndex_2214a 8 = .ok (.return_, 1) := by decide +kernel
theorem dJ2_checkBoundsBeginEnd_d044e_0 : decode cJ2_checkBoundsBeginEnd_d044e 0 = .ok (.iload_n 0, 1) := by decide +kernel
theorem dJ2_checkBoundsBeginEnd_d044e_1 : decode cJ2_checkBoundsBeginEnd_d044e 1 = .ok (.iload_n 1, 1) := by decide +kernel
theorem dJ2_checkBoundsBeginEnd_d044e_2 : decode cJ2_checkBoundsBeginEnd_d044e 2 = .ok (.aload_n 2, 1) := by decide +kernel
theorem dJ2_checkBoundsBeginEnd_d044e_3 : decode cJ2_checkBoundsBeginEnd_d044e 3 = .ok (.invokestatic 48, 3) := by decide +kernel
theorem dJ2_checkBoundsBeginEnd_d044e_6 : decode cJ2_checkBoundsBeginEnd_d044e 6 = .ok (.invokestatic 241, 3) := by decide +kernel
theorem dJ2_checkBoundsBeginEnd_d044e_9 : decode cJ2_checkBoundsBeginEnd_d044e 9 = .ok (.return_, 1) := by decide +kernel
theorem dJ3_checkIndex_8e157_0 : decode cJ3_checkIndex_8e157 0 = .ok (.iload_n 0, 1) := by decide +kernel
theorem dJ3_checkIndex_8e157_1 : decode cJ3_checkIndex_8e157 1 = .ok (.ifCond .lt 8, 3) := by decide +kernel
theorem dJ3_checkIndex_8e157_4 : decode cJ3_checkIndex_8e157 4 = .ok (.iload_n 0, 1) := by decide +kernel
theorem dJ3_checkIndex_8e157_5 : decode cJ3_checkIndex_8e157 5 = .ok (.iload_n 1, 1) := by decide +kernel
theorem dJ3_checkIndex_8e157_6 : decode cJ3_checkIndex_8e157 6 = .ok (.if_icmp .lt 10, 3) := by decide +kernel
theorem dJ3_checkIndex_8e157_9 : decode cJ3_checkIndex_8e157 9 = .ok (.aload_n 2, 1) := by decide +kernel
theorem dJ3_checkIndex_8e157_10 : decode cJ3_checkIndex_8e157 10 = .ok (.iload_n 0, 1) := by decide +kernel
theorem dJ3_checkIndex_8e157_11 : decode cJ3_checkIndex_8e157 11 = .ok (.iload_n 1, 1) := by decide +kernel
theorem dJ3_checkIndex_8e157_12 : decode cJ3_checkIndex_8e157 12 = .ok (.invokestatic 95, 3) := by decide +kernel
theorem dJ3_checkIndex_8e157_15 : decode cJ3_checkIndex_8e157 15 = .ok (.athrow, 1) := by decide +kernel
theorem dJ3_checkIndex_8e157_16 : decode cJ3_checkIndex_8e157 16 = .ok (.iload_n 0, 1) := by decide +kernel
theorem dJ3_checkIndex_8e157_17 : decode cJ3_checkIndex_8e157 17 = .ok (.ireturn, 1) := by decide +kernel
theorem dJ3_checkFromToIndex_8c36e_0 : decode cJ3_checkFromToIndex_8c36e 0 = .ok (.iload_n 0, 1) := by decide +kernel
theorem dJ3_checkFromToIndex_8c36e_1 : decode cJ3_checkFromToIndex_8c36e 1 = .ok (.ifCond .lt 13, 3) := by decide +kernel
theorem dJ3_checkFromToIndex_8c36e_4 : decode cJ3_checkFromToIndex_8c36e 4 = .ok (.iload_n 0, 1) := by decide +kernel
theorem dJ3_checkFromToIndex_8c36e_5 : decode cJ3_checkFromToIndex_8c36e 5 = .ok (.iload_n 1, 1) := by decide +kernel
theorem dJ3_checkFromToIndex_8c36e_6 : decode cJ3_checkFromToIndex_8c36e 6 = .ok (.if_icmp .gt 8, 3) := by decide +kernel
theorem dJ3_checkFromToIndex_8c36e_9 : decode cJ3_checkFromToIndex_8c36e 9 = .ok (.iload_n 1, 1) := by decide +kernel
theorem dJ3_checkFromToIndex_8c36e_10 : decode cJ3_checkFromToIndex_8c36e 10 = .ok (.iload_n 2, 1) := by decide +kernel
theorem dJ3_checkFromToIndex_8c36e_11 : decode cJ3_checkFromToIndex_8c36e 11 = .ok (.if_icmp .le 11, 3) := by decide +kernel
theorem dJ3_checkFromToIndex_8c36e_14 : decode cJ3_checkFromToIndex_8c36e 14 = .ok (.aload_n 3, 1) := by decide +kernel
theorem dJ3_checkFromToIndex_8c36e_15 : decode cJ3_checkFromToIndex_8c36e 15 = .ok (.iload_n 0, 1) := by decide +kernel
theorem dJ3_checkFromToIndex_8c36e_16 : decode cJ3_checkFromToIndex_8c36e 16 = .ok (.iload_n 1, 1) := by decide +kernel
theorem dJ3_checkFromToIndex_8c36e_17 : decode cJ3_checkFromToIndex_8c36e 17 = .ok (.iload_n 2, 1) := by decide +kernel
theorem dJ3_checkFromToIndex_8c36e_18 : decode cJ3_checkFromToIndex_8c36e 18 = .ok (.invokestatic 99, 3) := by decide +kernel
theorem dJ3_checkFromToIndex_8c36e_21 : decode cJ3_checkFromToIndex_8c36e 21 = .ok (.athrow, 1) := by decide +kernel
theorem dJ3_checkFromToIndex_8c36e_22 : decode cJ3_checkFromToIndex_8c36e 22 = .ok (.iload_n 0, 1) := by decide +kernel
theorem dJ3_checkFromToIndex_8c36e_23 : decode cJ3_checkFromToIndex_8c36e 23 = .ok (.ireturn, 1) := by decide +kernel
